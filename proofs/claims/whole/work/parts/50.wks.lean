theorem bi_m60 : (Int8.ofInt (-60)).toInt32 = (-60) := by decide
theorem bi_m50 : (Int8.ofInt (-50)).toInt32 = (-50) := by decide
theorem bi_m20 : (Int8.ofInt (-20)).toInt32 = (-20) := by decide
theorem bi_m6 : (Int8.ofInt (-6)).toInt32 = (-6) := by decide
theorem bi_m5 : (Int8.ofInt (-5)).toInt32 = (-5) := by decide
theorem bi_m4 : (Int8.ofInt (-4)).toInt32 = (-4) := by decide
theorem bi_m3 : (Int8.ofInt (-3)).toInt32 = (-3) := by decide
theorem bi_m2 : (Int8.ofInt (-2)).toInt32 = (-2) := by decide
theorem bi_6 : (Int8.ofInt 6).toInt32 = 6 := by decide
theorem bi_7 : (Int8.ofInt 7).toInt32 = 7 := by decide
theorem bi_8 : (Int8.ofInt 8).toInt32 = 8 := by decide
theorem bi_9 : (Int8.ofInt 9).toInt32 = 9 := by decide
theorem bi_10 : (Int8.ofInt 10).toInt32 = 10 := by decide
theorem bi_11 : (Int8.ofInt 11).toInt32 = 11 := by decide
theorem bi_12 : (Int8.ofInt 12).toInt32 = 12 := by decide
theorem bi_16 : (Int8.ofInt 16).toInt32 = 16 := by decide
theorem bi_20 : (Int8.ofInt 20).toInt32 = 20 := by decide
theorem bi_21 : (Int8.ofInt 21).toInt32 = 21 := by decide
theorem bi_30 : (Int8.ofInt 30).toInt32 = 30 := by decide
theorem bi_32 : (Int8.ofInt 32).toInt32 = 32 := by decide
theorem bi_40 : (Int8.ofInt 40).toInt32 = 40 := by decide
theorem bi_48 : (Int8.ofInt 48).toInt32 = 48 := by decide
theorem bi_50 : (Int8.ofInt 50).toInt32 = 50 := by decide
theorem bi_57 : (Int8.ofInt 57).toInt32 = 57 := by decide
theorem bi_59 : (Int8.ofInt 59).toInt32 = 59 := by decide
theorem bi_60 : (Int8.ofInt 60).toInt32 = 60 := by decide
theorem bi_63 : (Int8.ofInt 63).toInt32 = 63 := by decide
theorem bi_97 : (Int8.ofInt 97).toInt32 = 97 := by decide
theorem bi_99 : (Int8.ofInt 99).toInt32 = 99 := by decide
theorem bi_100 : (Int8.ofInt 100).toInt32 = 100 := by decide
theorem bi_122 : (Int8.ofInt 122).toInt32 = 122 := by decide
theorem ic_m1 : Int32.ofInt (-1) = (-1) := by decide
theorem ic_0 : Int32.ofInt 0 = 0 := by decide
theorem ic_1 : Int32.ofInt 1 = 1 := by decide
theorem ic_2 : Int32.ofInt 2 = 2 := by decide
theorem ic_3 : Int32.ofInt 3 = 3 := by decide
theorem ic_4 : Int32.ofInt 4 = 4 := by decide
theorem ic_5 : Int32.ofInt 5 = 5 := by decide
theorem ii_m1 (x : Int32) : x + Int32.ofInt (-1) = x + (-1) := rfl
theorem ii_1 (x : Int32) : x + Int32.ofInt 1 = x + 1 := rfl
theorem si_m1002 : (Int16.ofInt (-1002)).toInt32 = (-1002) := by decide
theorem si_m1000 : (Int16.ofInt (-1000)).toInt32 = (-1000) := by decide
theorem si_160 : (Int16.ofInt 160).toInt32 = 160 := by decide
theorem si_255 : (Int16.ofInt 255).toInt32 = 255 := by decide
theorem si_256 : (Int16.ofInt 256).toInt32 = 256 := by decide
theorem si_600 : (Int16.ofInt 600).toInt32 = 600 := by decide
theorem si_660 : (Int16.ofInt 660).toInt32 = 660 := by decide
theorem si_999 : (Int16.ofInt 999).toInt32 = 999 := by decide
theorem si_1000 : (Int16.ofInt 1000).toInt32 = 1000 := by decide
theorem si_12345 : (Int16.ofInt 12345).toInt32 = 12345 := by decide
theorem wkX10_isBelow : CS yX10_isBelow cX10_isBelow 2 (some .boolean) 2 := ⟨⟨m_2_168, m_1_1, m_2_169⟩, ⟨by decide, by decide⟩, by decide +kernel⟩
theorem wkX10_isShelf : CS yX10_isShelf cX10_isShelf 1 (some .boolean) 1 := ⟨⟨m_2_165, m_1_1, m_2_166⟩, ⟨by decide, by decide⟩, by decide +kernel⟩
theorem wkX10_refuse : CW yX10_refuse cX10_refuse 3 (some .int) 1 := ⟨⟨m_2_175, m_0_0, m_1_1, m_2_176⟩, ⟨by decide, by decide⟩, by decide +kernel⟩
theorem wkX10_isWithin : CS yX10_isWithin cX10_isWithin 3 (some .boolean) 3 := ⟨⟨m_2_171, m_1_1, m_2_172⟩, ⟨by decide, by decide⟩, by decide +kernel⟩
theorem wkX5_takeRow : CW yX5_takeRow cX5_takeRow 4 none 2 := ⟨⟨m_2_178, m_2_179, m_1_12, m_2_180⟩, ⟨by decide, by decide⟩, by decide +kernel⟩
theorem wkX10_row : CW yX10_row cX10_row 4 (some .int) 3 := ⟨⟨m_2_161, m_2_162, m_1_1, m_2_163⟩, ⟨by decide, by decide⟩, by decide +kernel⟩
theorem wkX5_isEmpty : CW yX5_isEmpty cX5_isEmpty 1 (some .boolean) 0 := ⟨⟨m_2_190, m_2_191, m_1_12, m_2_192⟩, ⟨by decide, by decide⟩, by decide +kernel⟩
theorem wkX10_rowTrouble : CW yX10_rowTrouble cX10_rowTrouble 3 (some .int) 2 := ⟨⟨m_2_187, m_0_1, m_1_1, m_2_188⟩, ⟨by decide, by decide⟩, by decide +kernel⟩
theorem wkX5_lowestBits : CW yX5_lowestBits cX5_lowestBits 3 (some .long) 1 := ⟨⟨m_2_200, m_0_2, m_1_12, m_2_201⟩, ⟨by decide, by decide⟩, by decide +kernel⟩
theorem wkX5_put : CW yX5_put cX5_put 4 none 2 := ⟨⟨m_2_194, m_2_195, m_1_12, m_2_196⟩, ⟨by decide, by decide⟩, by decide +kernel⟩
theorem wkX10_set : CW yX10_set cX10_set 6 (some .int) 3 := ⟨⟨m_2_182, m_2_183, m_1_1, m_2_184⟩, ⟨by decide, by decide⟩, by decide +kernel⟩
theorem wkX5_hasPart : CW yX5_hasPart cX5_hasPart 3 (some .boolean) 2 := ⟨⟨m_2_207, m_2_208, m_1_12, m_2_209⟩, ⟨by decide, by decide⟩, by decide +kernel⟩
theorem wkX10_copy : CW yX10_copy cX10_copy 9 (some .int) 5 := ⟨⟨m_2_203, m_2_204, m_1_1, m_2_205⟩, ⟨by decide, by decide⟩, by decide +kernel⟩
theorem wkX5_at : CW yX5_at cX5_at 2 (some .long) 1 := ⟨⟨m_2_216, m_2_217, m_1_12, m_2_218⟩, ⟨by decide, by decide⟩, by decide +kernel⟩
theorem wkX10_element : CW yX10_element cX10_element 3 (some .long) 2 := ⟨⟨m_2_212, m_2_213, m_1_1, m_2_214⟩, ⟨by decide, by decide⟩, by decide +kernel⟩
theorem wkX10_holds : CW yX10_holds cX10_holds 3 (some .int) 1 := ⟨⟨m_2_220, m_2_221, m_1_1, m_2_222⟩, ⟨by decide, by decide⟩, by decide +kernel⟩
theorem wkX5_takeJetty : CW yX5_takeJetty cX5_takeJetty 2 none 1 := ⟨⟨m_2_232, m_2_233, m_1_12, m_2_234⟩, ⟨by decide, by decide⟩, by decide +kernel⟩
theorem wkX10_isJetty : CW yX10_isJetty cX10_isJetty 2 (some .boolean) 1 := ⟨⟨m_2_229, m_0_3, m_1_1, m_2_230⟩, ⟨by decide, by decide⟩, by decide +kernel⟩
theorem wkX10_show : CW yX10_show cX10_show 3 (some .int) 2 := ⟨⟨m_2_224, m_2_225, m_1_1, m_2_226⟩, ⟨by decide, by decide⟩, by decide +kernel⟩
theorem wkX0_isOfKind : CW yX0_isOfKind cX0_isOfKind 4 (some .boolean) 1 := ⟨⟨m_3_0, m_3_1, m_1_5, m_3_2⟩, ⟨by decide, by decide⟩, by decide +kernel⟩
theorem wkX0_paces : CW yX0_paces cX0_paces 1 (some .int) 0 := ⟨⟨m_3_11, m_3_12, m_1_5, m_3_13⟩, ⟨by decide, by decide⟩, by decide +kernel⟩
theorem wkX0_riseAt : CW yX0_riseAt cX0_riseAt 2 (some .int) 1 := ⟨⟨m_3_15, m_3_16, m_1_5, m_3_17⟩, ⟨by decide, by decide⟩, by decide +kernel⟩
theorem wkX10_toNumber : CS yX10_toNumber cX10_toNumber 1 (some .int) 1 := ⟨⟨m_3_22, m_1_1, m_3_23⟩, ⟨by decide, by decide⟩, by decide +kernel⟩
theorem wkX10_saying : CW yX10_saying cX10_saying 3 (some .int) 2 := ⟨⟨m_3_8, m_0_4, m_1_1, m_3_9⟩, ⟨by decide, by decide⟩, by decide +kernel⟩
theorem wkX10_says : CW yX10_says cX10_says 5 (some .int) 2 := ⟨⟨m_2_236, m_2_237, m_1_1, m_2_238⟩, ⟨by decide, by decide⟩, by decide +kernel⟩
theorem wkX0_build : CW yX0_build cX0_build 5 none 4 := ⟨⟨m_3_29, m_3_30, m_1_5, m_3_31⟩, ⟨by decide, by decide⟩, by decide +kernel⟩
theorem wkX10_jetty : CW yX10_jetty cX10_jetty 5 (some .int) 4 := ⟨⟨m_3_25, m_3_26, m_1_1, m_3_27⟩, ⟨by decide, by decide⟩, by decide +kernel⟩
theorem wkX1_deck : CW yX1_deck cX1_deck 1 (some .int) 0 := ⟨⟨m_3_43, m_0_5, m_1_3, m_3_44⟩, ⟨by decide, by decide⟩, by decide +kernel⟩
theorem wkX1_isOut : CW yX1_isOut cX1_isOut 3 (some .boolean) 2 := ⟨⟨m_3_37, m_3_38, m_1_3, m_3_39⟩, ⟨by decide, by decide⟩, by decide +kernel⟩
theorem wkX1_lawValue : CW yX1_lawValue cX1_lawValue 3 (some .int) 1 := ⟨⟨m_3_54, m_0_6, m_1_3, m_3_55⟩, ⟨by decide, by decide⟩, by decide +kernel⟩
theorem wkX1_speed : CW yX1_speed cX1_speed 1 (some .int) 0 := ⟨⟨m_3_49, m_3_50, m_1_3, m_3_51⟩, ⟨by decide, by decide⟩, by decide +kernel⟩
theorem wkX10_roundedUpBy : CS yX10_roundedUpBy cX10_roundedUpBy 2 (some .int) 2 := ⟨⟨m_3_63, m_1_1, m_3_64⟩, ⟨by decide, by decide⟩, by decide +kernel⟩
theorem wkX10_cutBy : CS yX10_cutBy cX10_cutBy 2 (some .int) 2 := ⟨⟨m_3_66, m_1_1, m_3_67⟩, ⟨by decide, by decide⟩, by decide +kernel⟩
theorem wkX1_hasTime : CW yX1_hasTime cX1_hasTime 4 (some .boolean) 2 := ⟨⟨m_3_58, m_3_59, m_1_3, m_3_60⟩, ⟨by decide, by decide⟩, by decide +kernel⟩
theorem wkX10_jettyOf : CW yX10_jettyOf cX10_jettyOf 4 (some .int) 2 := ⟨⟨m_3_33, m_3_34, m_1_1, m_3_35⟩, ⟨by decide, by decide⟩, by decide +kernel⟩
theorem wkX10_wet : CW yX10_wet cX10_wet 5 (some .int) 2 := ⟨⟨m_3_69, m_3_70, m_1_1, m_3_71⟩, ⟨by decide, by decide⟩, by decide +kernel⟩
theorem wkX10_rise : CW yX10_rise cX10_rise 3 (some .int) 2 := ⟨⟨m_3_73, m_3_74, m_1_1, m_3_75⟩, ⟨by decide, by decide⟩, by decide +kernel⟩
theorem wkX10_lake : CW yX10_lake cX10_lake 4 (some .int) 2 := ⟨⟨m_3_77, m_3_78, m_1_1, m_3_79⟩, ⟨by decide, by decide⟩, by decide +kernel⟩
theorem wkX10_isHour : CS yX10_isHour cX10_isHour 1 (some .boolean) 1 := ⟨⟨m_3_85, m_1_1, m_3_86⟩, ⟨by decide, by decide⟩, by decide +kernel⟩
theorem wkX10_wind : CW yX10_wind cX10_wind 4 (some .int) 2 := ⟨⟨m_3_81, m_3_82, m_1_1, m_3_83⟩, ⟨by decide, by decide⟩, by decide +kernel⟩
theorem wkX10_winds : CW yX10_winds cX10_winds 7 (some .int) 1 := ⟨⟨m_3_88, m_3_89, m_1_1, m_3_90⟩, ⟨by decide, by decide⟩, by decide +kernel⟩
theorem wkX6_append : CW yX6_append cX6_append 4 none 2 := ⟨⟨m_3_100, m_3_101, m_1_2, m_3_102⟩, ⟨by decide, by decide⟩, by decide +kernel⟩
theorem wkX10_feed : CW yX10_feed cX10_feed 3 (some .int) 2 := ⟨⟨m_3_96, m_3_97, m_1_1, m_3_98⟩, ⟨by decide, by decide⟩, by decide +kernel⟩
theorem wkX10_wipe : CW yX10_wipe cX10_wipe 2 (some .int) 0 := ⟨⟨m_3_104, m_3_105, m_1_1, m_3_106⟩, ⟨by decide, by decide⟩, by decide +kernel⟩
theorem wkX2_reset : CW yX2_reset cX2_reset 1 none 0 := ⟨⟨m_1_140, m_1_141, m_1_6, m_1_142⟩, ⟨by decide, by decide⟩, by decide +kernel⟩
theorem wkX6_skipBlanks : CW yX6_skipBlanks cX6_skipBlanks 1 none 0 := ⟨⟨m_3_118, m_0_7, m_1_2, m_3_119⟩, ⟨by decide, by decide⟩, by decide +kernel⟩
theorem wkX6_endOfRun : CW yX6_endOfRun cX6_endOfRun 4 (some .int) 2 := ⟨⟨m_3_126, m_0_9, m_1_2, m_3_127⟩, ⟨by decide, by decide⟩, by decide +kernel⟩
theorem wkX6_lawWord : CS yX6_lawWord cX6_lawWord 1 (some (.object "java/lang/String")) 1 := ⟨⟨m_3_129, m_1_2, m_3_130⟩, ⟨by decide, by decide⟩, by decide +kernel⟩
theorem wkX6_stands : CW yX6_stands cX6_stands 4 (some .boolean) 2 := ⟨⟨m_3_142, m_0_10, m_1_2, m_3_143⟩, ⟨by decide, by decide⟩, by decide +kernel⟩
theorem wkX6_readWord : CW yX6_readWord cX6_readWord 3 (some .int) 0 := ⟨⟨m_3_122, m_0_8, m_1_2, m_3_123⟩, ⟨by decide, by decide⟩, by decide +kernel⟩
theorem wkX6_readNumber : CW yX6_readNumber cX6_readNumber 4 (some .int) 0 := ⟨⟨m_3_194, m_0_11, m_1_2, m_3_195⟩, ⟨by decide, by decide⟩, by decide +kernel⟩
theorem wkX6_readInto : CW yX6_readInto cX6_readInto 6 (some .int) 1 := ⟨⟨m_3_112, m_3_113, m_1_2, m_3_114⟩, ⟨by decide, by decide⟩, by decide +kernel⟩
theorem wkX10_law : CW yX10_law cX10_law 2 (some .int) 0 := ⟨⟨m_3_108, m_3_109, m_1_1, m_3_110⟩, ⟨by decide, by decide⟩, by decide +kernel⟩
theorem wkX10_isLaw : CW yX10_isLaw cX10_isLaw 2 (some .boolean) 1 := ⟨⟨m_3_207, m_0_12, m_1_1, m_3_208⟩, ⟨by decide, by decide⟩, by decide +kernel⟩
theorem wkX10_lawOf : CW yX10_lawOf cX10_lawOf 3 (some .int) 2 := ⟨⟨m_3_202, m_3_203, m_1_1, m_3_204⟩, ⟨by decide, by decide⟩, by decide +kernel⟩
theorem wkX10_force : CW yX10_force cX10_force 3 (some .int) 1 := ⟨⟨m_3_210, m_3_211, m_1_1, m_3_212⟩, ⟨by decide, by decide⟩, by decide +kernel⟩
theorem wkX3_join : CW yX3_join cX3_join 2 none 1 := ⟨⟨m_3_218, m_3_219, m_1_8, m_3_220⟩, ⟨by decide, by decide⟩, by decide +kernel⟩
theorem wkX10_leaper : CW yX10_leaper cX10_leaper 2 (some .int) 1 := ⟨⟨m_3_214, m_3_215, m_1_1, m_3_216⟩, ⟨by decide, by decide⟩, by decide +kernel⟩
theorem wkX10_isLeaper : CW yX10_isLeaper cX10_isLeaper 2 (some .boolean) 1 := ⟨⟨m_3_227, m_0_13, m_1_1, m_3_228⟩, ⟨by decide, by decide⟩, by decide +kernel⟩
theorem wkX10_leaperOf : CW yX10_leaperOf cX10_leaperOf 3 (some .int) 2 := ⟨⟨m_3_222, m_3_223, m_1_1, m_3_224⟩, ⟨by decide, by decide⟩, by decide +kernel⟩
theorem wkX3_count : CW yX3_count cX3_count 3 none 2 := ⟨⟨m_3_234, m_3_235, m_1_8, m_3_236⟩, ⟨by decide, by decide⟩, by decide +kernel⟩
theorem wkX10_tried : CW yX10_tried cX10_tried 4 (some .int) 3 := ⟨⟨m_3_230, m_3_231, m_1_1, m_3_232⟩, ⟨by decide, by decide⟩, by decide +kernel⟩
theorem wkX3_learntSkill : CW yX3_learntSkill cX3_learntSkill 1 (some .int) 0 := ⟨⟨m_4_2, m_4_3, m_1_8, m_4_4⟩, ⟨by decide, by decide⟩, by decide +kernel⟩
theorem wkX10_learnt : CW yX10_learnt cX10_learnt 2 (some .int) 1 := ⟨⟨m_3_238, m_3_239, m_1_1, m_4_0⟩, ⟨by decide, by decide⟩, by decide +kernel⟩
theorem wkX10_learn : CW yX10_learn cX10_learn 4 (some .int) 1 := ⟨⟨m_4_8, m_4_9, m_1_1, m_4_10⟩, ⟨by decide, by decide⟩, by decide +kernel⟩
theorem wkX1_isHopeless : CW yX1_isHopeless cX1_isHopeless 2 (some .boolean) 1 := ⟨⟨m_4_20, m_4_21, m_1_3, m_4_22⟩, ⟨by decide, by decide⟩, by decide +kernel⟩
theorem wkX1_riskOf : CW yX1_riskOf cX1_riskOf 6 (some .int) 3 := ⟨⟨m_4_16, m_4_17, m_1_3, m_4_18⟩, ⟨by decide, by decide⟩, by decide +kernel⟩
theorem wkX10_risk : CW yX10_risk cX10_risk 4 (some .int) 3 := ⟨⟨m_4_12, m_4_13, m_1_1, m_4_14⟩, ⟨by decide, by decide⟩, by decide +kernel⟩
theorem wkX10_calm : CW yX10_calm cX10_calm 7 (some .int) 2 := ⟨⟨m_4_29, m_4_30, m_1_1, m_4_31⟩, ⟨by decide, by decide⟩, by decide +kernel⟩
theorem wkX1_legMinutes : CW yX1_legMinutes cX1_legMinutes 6 (some .int) 3 := ⟨⟨m_4_41, m_4_42, m_1_3, m_4_43⟩, ⟨by decide, by decide⟩, by decide +kernel⟩
theorem wkX10_leg : CW yX10_leg cX10_leg 3 (some .int) 2 := ⟨⟨m_4_37, m_4_38, m_1_1, m_4_39⟩, ⟨by decide, by decide⟩, by decide +kernel⟩
theorem wkX10_tellsJetties : CW yX10_tellsJetties cX10_tellsJetties 7 (some .boolean) 2 := ⟨⟨m_4_54, m_0_15, m_1_1, m_4_55⟩, ⟨by decide, by decide⟩, by decide +kernel⟩
theorem wkX10_roundTrouble : CW yX10_roundTrouble cX10_roundTrouble 4 (some .int) 2 := ⟨⟨m_4_50, m_0_14, m_1_1, m_4_51⟩, ⟨by decide, by decide⟩, by decide +kernel⟩
theorem wkX10_readTour : CW yX10_readTour cX10_readTour 5 none 3 := ⟨⟨m_4_58, m_0_16, m_1_1, m_4_59⟩, ⟨by decide, by decide⟩, by decide +kernel⟩
theorem wkX8_sail : CW yX8_sail cX8_sail 8 none 3 := ⟨⟨m_4_67, m_4_68, m_1_9, m_4_69⟩, ⟨by decide, by decide⟩, by decide +kernel⟩
theorem wkX8_end : CW yX8_end cX8_end 1 (some .int) 0 := ⟨⟨m_4_80, m_4_81, m_1_9, m_4_82⟩, ⟨by decide, by decide⟩, by decide +kernel⟩
theorem wkX10_hourOf : CS yX10_hourOf cX10_hourOf 1 (some .int) 1 := ⟨⟨m_4_76, m_1_1, m_4_77⟩, ⟨by decide, by decide⟩, by decide +kernel⟩
theorem wkX8_riskBy : CW yX8_riskBy cX8_riskBy 5 (some .int) 2 := ⟨⟨m_4_72, m_4_73, m_1_9, m_4_74⟩, ⟨by decide, by decide⟩, by decide +kernel⟩
theorem wkX8_hopeless : CW yX8_hopeless cX8_hopeless 4 (some .int) 1 := ⟨⟨m_4_61, m_4_62, m_1_9, m_4_63⟩, ⟨by decide, by decide⟩, by decide +kernel⟩
theorem wkX10_round : CW yX10_round cX10_round 6 (some .int) 4 := ⟨⟨m_4_45, m_4_46, m_1_1, m_4_47⟩, ⟨by decide, by decide⟩, by decide +kernel⟩
theorem wkJ6_bitCount_0f7a4 : CS yJ6_bitCount_0f7a4 cJ6_bitCount_0f7a4 1 (some .int) 1 := ⟨⟨m_4_92, m_1_19, m_4_93⟩, ⟨by decide, by decide⟩, by decide +kernel⟩
theorem wkX10_isSet : CW yX10_isSet cX10_isSet 3 (some .boolean) 1 := ⟨⟨m_4_89, m_0_17, m_1_1, m_4_90⟩, ⟨by decide, by decide⟩, by decide +kernel⟩
theorem wkX10_readSet : CS yX10_readSet cX10_readSet 4 (some .int) 2 := ⟨⟨m_4_102, m_1_1, m_4_103⟩, ⟨by decide, by decide⟩, by decide +kernel⟩
theorem wkX4_isBetter : CW yX4_isBetter cX4_isBetter 3 (some .boolean) 2 := ⟨⟨m_4_120, m_0_19, m_1_10, m_4_121⟩, ⟨by decide, by decide⟩, by decide +kernel⟩
theorem wkX4_keep : CW yX4_keep cX4_keep 3 none 2 := ⟨⟨m_4_111, m_0_18, m_1_10, m_4_112⟩, ⟨by decide, by decide⟩, by decide +kernel⟩
theorem wkX4_extend : CS yX4_extend cX4_extend 9 none 5 := ⟨⟨m_4_106, m_1_10, m_4_107⟩, ⟨by decide, by decide⟩, by decide +kernel⟩
theorem wkX4_find : CW yX4_find cX4_find 5 (some .boolean) 4 := ⟨⟨m_4_98, m_4_99, m_1_10, m_4_100⟩, ⟨by decide, by decide⟩, by decide +kernel⟩
theorem wkX10_best : CW yX10_best cX10_best 7 (some .int) 4 := ⟨⟨m_4_84, m_4_85, m_1_1, m_4_86⟩, ⟨by decide, by decide⟩, by decide +kernel⟩
theorem wkX7_readRisks : CW yX7_readRisks cX7_readRisks 7 none 2 := ⟨⟨m_4_137, m_0_21, m_1_11, m_4_138⟩, ⟨by decide, by decide⟩, by decide +kernel⟩
theorem wkX7_assign : CS yX7_assign cX7_assign 5 none 3 := ⟨⟨m_4_143, m_1_11, m_4_144⟩, ⟨by decide, by decide⟩, by decide +kernel⟩
theorem wkX7_find : CW yX7_find cX7_find 5 none 4 := ⟨⟨m_4_131, m_4_132, m_1_11, m_4_133⟩, ⟨by decide, by decide⟩, by decide +kernel⟩
theorem wkX7_leaperOfJetty : CW yX7_leaperOfJetty cX7_leaperOfJetty 3 (some .int) 1 := ⟨⟨m_4_147, m_4_148, m_1_11, m_4_149⟩, ⟨by decide, by decide⟩, by decide +kernel⟩
theorem wkX10_isInSet : CW yX10_isInSet cX10_isInSet 3 (some .boolean) 2 := ⟨⟨m_4_128, m_0_20, m_1_1, m_4_129⟩, ⟨by decide, by decide⟩, by decide +kernel⟩
theorem wkX10_team : CW yX10_team cX10_team 5 (some .int) 4 := ⟨⟨m_4_123, m_4_124, m_1_1, m_4_125⟩, ⟨by decide, by decide⟩, by decide +kernel⟩
theorem wkX10_safest : CW yX10_safest cX10_safest 7 (some .int) 2 := ⟨⟨m_4_33, m_4_34, m_1_1, m_4_35⟩, ⟨by decide, by decide⟩, by decide +kernel⟩
theorem wkX8_laterHoursThan : CW yX8_laterHoursThan cX8_laterHoursThan 4 (some .int) 1 := ⟨⟨m_4_155, m_4_156, m_1_9, m_4_157⟩, ⟨by decide, by decide⟩, by decide +kernel⟩
theorem wkX10_missed : CW yX10_missed cX10_missed 7 (some .int) 5 := ⟨⟨m_4_151, m_4_152, m_1_1, m_4_153⟩, ⟨by decide, by decide⟩, by decide +kernel⟩
theorem wkX10_pilot : CW yX10_pilot cX10_pilot 6 (some .int) 3 := ⟨⟨m_4_159, m_4_160, m_1_1, m_4_161⟩, ⟨by decide, by decide⟩, by decide +kernel⟩
theorem wkX8_hasTimeEverywhere : CW yX8_hasTimeEverywhere cX8_hasTimeEverywhere 4 (some .boolean) 2 := ⟨⟨m_4_167, m_4_168, m_1_9, m_4_169⟩, ⟨by decide, by decide⟩, by decide +kernel⟩
theorem wkX10_still : CW yX10_still cX10_still 5 (some .int) 2 := ⟨⟨m_4_163, m_4_164, m_1_1, m_4_165⟩, ⟨by decide, by decide⟩, by decide +kernel⟩
theorem wkX1_firstWeekOut : CW yX1_firstWeekOut cX1_firstWeekOut 4 (some .int) 2 := ⟨⟨m_4_200, m_4_201, m_1_3, m_4_202⟩, ⟨by decide, by decide⟩, by decide +kernel⟩
theorem wkX10_firstOut : CW yX10_firstOut cX10_firstOut 6 (some .int) 1 := ⟨⟨m_4_196, m_4_197, m_1_1, m_4_198⟩, ⟨by decide, by decide⟩, by decide +kernel⟩
theorem wkX10_lowestLetter : CW yX10_lowestLetter cX10_lowestLetter 4 (some .int) 2 := ⟨⟨m_4_177, m_0_22, m_1_1, m_4_178⟩, ⟨by decide, by decide⟩, by decide +kernel⟩
theorem wkX10_takeLetters : CW yX10_takeLetters cX10_takeLetters 5 (some .int) 2 := ⟨⟨m_4_181, m_0_23, m_1_1, m_4_182⟩, ⟨by decide, by decide⟩, by decide +kernel⟩
theorem wkX10_lifts : CW yX10_lifts cX10_lifts 11 (some .int) 4 := ⟨⟨m_4_172, m_4_173, m_1_1, m_4_174⟩, ⟨by decide, by decide⟩, by decide +kernel⟩
theorem wkX10_parcel : CW yX10_parcel cX10_parcel 4 (some .int) 3 := ⟨⟨m_4_184, m_4_185, m_1_1, m_4_186⟩, ⟨by decide, by decide⟩, by decide +kernel⟩
theorem wkX1_worthWithin : CW yX1_worthWithin cX1_worthWithin 6 (some .int) 2 := ⟨⟨m_4_192, m_4_193, m_1_3, m_4_194⟩, ⟨by decide, by decide⟩, by decide +kernel⟩
theorem wkX10_stops : CW yX10_stops cX10_stops 7 (some .int) 1 := ⟨⟨m_4_188, m_4_189, m_1_1, m_4_190⟩, ⟨by decide, by decide⟩, by decide +kernel⟩
theorem wkX10_week : CW yX10_week cX10_week 3 (some .int) 2 := ⟨⟨m_4_204, m_4_205, m_1_1, m_4_206⟩, ⟨by decide, by decide⟩, by decide +kernel⟩
theorem wkX10_outs : CW yX10_outs cX10_outs 5 (some .int) 2 := ⟨⟨m_4_208, m_4_209, m_1_1, m_4_210⟩, ⟨by decide, by decide⟩, by decide +kernel⟩
theorem wkX10_seed : CW yX10_seed cX10_seed 3 (some .int) 1 := ⟨⟨m_4_212, m_4_213, m_1_1, m_4_214⟩, ⟨by decide, by decide⟩, by decide +kernel⟩
theorem wkX9_start : CW yX9_start cX9_start 4 none 3 := ⟨⟨m_4_220, m_4_221, m_1_4, m_4_222⟩, ⟨by decide, by decide⟩, by decide +kernel⟩
theorem wkX10_begin : CW yX10_begin cX10_begin 5 (some .int) 3 := ⟨⟨m_4_216, m_4_217, m_1_1, m_4_218⟩, ⟨by decide, by decide⟩, by decide +kernel⟩
theorem wkX9_isUnderWay : CW yX9_isUnderWay cX9_isUnderWay 1 (some .boolean) 0 := ⟨⟨m_4_229, m_4_230, m_1_4, m_4_231⟩, ⟨by decide, by decide⟩, by decide +kernel⟩
theorem wkX1_drawBelow : CW yX1_drawBelow cX1_drawBelow 3 (some .int) 1 := ⟨⟨m_5_1, m_0_24, m_1_3, m_5_2⟩, ⟨by decide, by decide⟩, by decide +kernel⟩
theorem wkX1_leapNext : CW yX1_leapNext cX1_leapNext 7 (some .int) 0 := ⟨⟨m_4_233, m_4_234, m_1_3, m_4_235⟩, ⟨by decide, by decide⟩, by decide +kernel⟩
theorem wkX10_step : CW yX10_step cX10_step 1 (some .int) 0 := ⟨⟨m_4_225, m_4_226, m_1_1, m_4_227⟩, ⟨by decide, by decide⟩, by decide +kernel⟩
theorem wkX10_under : CW yX10_under cX10_under 3 (some .int) 1 := ⟨⟨m_5_6, m_5_7, m_1_1, m_5_8⟩, ⟨by decide, by decide⟩, by decide +kernel⟩
theorem wkX0_become : CW yX0_become cX0_become 2 none 1 := ⟨⟨m_5_22, m_5_23, m_1_5, m_5_24⟩, ⟨by decide, by decide⟩, by decide +kernel⟩
theorem wkX2_become : CW yX2_become cX2_become 2 none 1 := ⟨⟨m_5_27, m_5_28, m_1_6, m_5_29⟩, ⟨by decide, by decide⟩, by decide +kernel⟩
theorem wkX3_become : CW yX3_become cX3_become 2 none 1 := ⟨⟨m_5_31, m_5_32, m_1_8, m_5_33⟩, ⟨by decide, by decide⟩, by decide +kernel⟩
theorem wkX1_becomeCounted : CW yX1_becomeCounted cX1_becomeCounted 3 none 1 := ⟨⟨m_5_19, m_0_25, m_1_3, m_5_20⟩, ⟨by decide, by decide⟩, by decide +kernel⟩
theorem wkX9_become : CW yX9_become cX9_become 2 none 1 := ⟨⟨m_5_36, m_5_37, m_1_4, m_5_38⟩, ⟨by decide, by decide⟩, by decide +kernel⟩
theorem wkX1_become : CW yX1_become cX1_become 2 none 1 := ⟨⟨m_5_14, m_5_15, m_1_3, m_5_16⟩, ⟨by decide, by decide⟩, by decide +kernel⟩
theorem wkX10_image : CW yX10_image cX10_image 1 (some .int) 0 := ⟨⟨m_5_10, m_5_11, m_1_1, m_5_12⟩, ⟨by decide, by decide⟩, by decide +kernel⟩
theorem wkX10_back : CW yX10_back cX10_back 2 (some .int) 0 := ⟨⟨m_5_40, m_5_41, m_1_1, m_5_42⟩, ⟨by decide, by decide⟩, by decide +kernel⟩
theorem wkX10_shelvesInUse : CW yX10_shelvesInUse cX10_shelvesInUse 3 (some .int) 0 := ⟨⟨m_5_49, m_0_26, m_1_1, m_5_50⟩, ⟨by decide, by decide⟩, by decide +kernel⟩
theorem wkX10_status : CW yX10_status cX10_status 2 (some .int) 1 := ⟨⟨m_5_44, m_5_45, m_1_1, m_5_46⟩, ⟨by decide, by decide⟩, by decide +kernel⟩
theorem wkX11_isShelf : CW yX11_isShelf cX11_isShelf 2 (some .boolean) 1 := ⟨⟨m_5_148, m_0_27, m_1_13, m_5_149⟩, ⟨by decide, by decide⟩, by decide +kernel⟩
theorem wkX11_no : CW yX11_no cX11_no 2 (some .int) 1 := ⟨⟨m_5_152, m_0_28, m_1_13, m_5_153⟩, ⟨by decide, by decide⟩, by decide +kernel⟩
theorem wkX11_row : CW yX11_row cX11_row 5 (some .int) 3 := ⟨⟨m_5_143, m_5_144, m_1_13, m_5_145⟩, ⟨by decide, by decide⟩, by decide +kernel⟩
theorem wkX11_holdsJetty : CW yX11_holdsJetty cX11_holdsJetty 2 (some .boolean) 1 := ⟨⟨m_5_164, m_0_30, m_1_13, m_5_165⟩, ⟨by decide, by decide⟩, by decide +kernel⟩
theorem wkX11_noRow : CW yX11_noRow cX11_noRow 2 (some .int) 1 := ⟨⟨m_5_160, m_0_29, m_1_13, m_5_161⟩, ⟨by decide, by decide⟩, by decide +kernel⟩
theorem wkX11_set : CW yX11_set cX11_set 9 (some .int) 3 := ⟨⟨m_5_155, m_5_156, m_1_13, m_5_157⟩, ⟨by decide, by decide⟩, by decide +kernel⟩
theorem wkX11_isRow : CW yX11_isRow cX11_isRow 2 (some .boolean) 1 := ⟨⟨m_5_172, m_0_31, m_1_13, m_5_173⟩, ⟨by decide, by decide⟩, by decide +kernel⟩
theorem wkX11_copy : CW yX11_copy cX11_copy 7 (some .int) 5 := ⟨⟨m_5_167, m_5_168, m_1_13, m_5_169⟩, ⟨by decide, by decide⟩, by decide +kernel⟩
theorem wkX11_element : CW yX11_element cX11_element 3 (some .long) 2 := ⟨⟨m_5_175, m_5_176, m_1_13, m_5_177⟩, ⟨by decide, by decide⟩, by decide +kernel⟩
theorem wkX11_holds : CW yX11_holds cX11_holds 2 (some .int) 1 := ⟨⟨m_5_179, m_5_180, m_1_13, m_5_181⟩, ⟨by decide, by decide⟩, by decide +kernel⟩
theorem wkX11_isJetty : CW yX11_isJetty cX11_isJetty 2 (some .boolean) 1 := ⟨⟨m_5_188, m_0_32, m_1_13, m_5_189⟩, ⟨by decide, by decide⟩, by decide +kernel⟩
theorem wkX11_show : CW yX11_show cX11_show 3 (some .int) 2 := ⟨⟨m_5_183, m_5_184, m_1_13, m_5_185⟩, ⟨by decide, by decide⟩, by decide +kernel⟩
theorem wkX11_isUnder : CW yX11_isUnder cX11_isUnder 3 (some .boolean) 2 := ⟨⟨m_5_196, m_0_33, m_1_13, m_5_197⟩, ⟨by decide, by decide⟩, by decide +kernel⟩
theorem wkX11_riseAt : CW yX11_riseAt cX11_riseAt 6 (some .int) 2 := ⟨⟨m_5_204, m_0_35, m_1_13, m_5_205⟩, ⟨by decide, by decide⟩, by decide +kernel⟩
theorem wkX11_paces : CW yX11_paces cX11_paces 4 (some .int) 1 := ⟨⟨m_5_200, m_0_34, m_1_13, m_5_201⟩, ⟨by decide, by decide⟩, by decide +kernel⟩
theorem wkX11_says : CW yX11_says cX11_says 4 (some .int) 2 := ⟨⟨m_5_191, m_5_192, m_1_13, m_5_193⟩, ⟨by decide, by decide⟩, by decide +kernel⟩
theorem wkX11_isSpot : CW yX11_isSpot cX11_isSpot 2 (some .boolean) 1 := ⟨⟨m_5_212, m_0_36, m_1_13, m_5_213⟩, ⟨by decide, by decide⟩, by decide +kernel⟩
theorem wkX11_jetty : CW yX11_jetty cX11_jetty 6 (some .int) 4 := ⟨⟨m_5_207, m_5_208, m_1_13, m_5_209⟩, ⟨by decide, by decide⟩, by decide +kernel⟩
theorem wkX11_first : CW yX11_first cX11_first 2 (some .int) 1 := ⟨⟨m_5_236, m_0_41, m_1_13, m_5_237⟩, ⟨by decide, by decide⟩, by decide +kernel⟩
theorem wkX11_says_ : CW yX11_says_ cX11_says_ 2 (some .int) 1 := ⟨⟨m_5_232, m_0_40, m_1_13, m_5_233⟩, ⟨by decide, by decide⟩, by decide +kernel⟩
theorem wkX11_isTimeAt : CW yX11_isTimeAt cX11_isTimeAt 4 (some .boolean) 2 := ⟨⟨m_6_0, m_0_42, m_1_13, m_6_1⟩, ⟨by decide, by decide⟩, by decide +kernel⟩
theorem wkX11_isTime : CW yX11_isTime cX11_isTime 2 (some .boolean) 1 := ⟨⟨m_5_228, m_0_39, m_1_13, m_5_229⟩, ⟨by decide, by decide⟩, by decide +kernel⟩
theorem wkX11_deck : CW yX11_deck cX11_deck 1 (some .int) 0 := ⟨⟨m_5_224, m_0_38, m_1_13, m_5_225⟩, ⟨by decide, by decide⟩, by decide +kernel⟩
theorem wkX11_isOut : CW yX11_isOut cX11_isOut 4 (some .boolean) 2 := ⟨⟨m_5_220, m_0_37, m_1_13, m_5_221⟩, ⟨by decide, by decide⟩, by decide +kernel⟩
theorem wkX11_jettyOf : CW yX11_jettyOf cX11_jettyOf 3 (some .int) 2 := ⟨⟨m_5_215, m_5_216, m_1_13, m_5_217⟩, ⟨by decide, by decide⟩, by decide +kernel⟩
theorem wkX11_wet : CW yX11_wet cX11_wet 4 (some .int) 2 := ⟨⟨m_6_3, m_6_4, m_1_13, m_6_5⟩, ⟨by decide, by decide⟩, by decide +kernel⟩
theorem wkX11_isLevel : CW yX11_isLevel cX11_isLevel 2 (some .boolean) 1 := ⟨⟨m_6_12, m_0_43, m_1_13, m_6_13⟩, ⟨by decide, by decide⟩, by decide +kernel⟩
theorem wkX11_rise : CW yX11_rise cX11_rise 3 (some .int) 2 := ⟨⟨m_6_7, m_6_8, m_1_13, m_6_9⟩, ⟨by decide, by decide⟩, by decide +kernel⟩
theorem wkX11_lake : CW yX11_lake cX11_lake 4 (some .int) 2 := ⟨⟨m_6_15, m_6_16, m_1_13, m_6_17⟩, ⟨by decide, by decide⟩, by decide +kernel⟩
theorem wkX11_isHour : CW yX11_isHour cX11_isHour 2 (some .boolean) 1 := ⟨⟨m_6_24, m_0_44, m_1_13, m_6_25⟩, ⟨by decide, by decide⟩, by decide +kernel⟩
theorem wkX11_wind : CW yX11_wind cX11_wind 4 (some .int) 2 := ⟨⟨m_6_19, m_6_20, m_1_13, m_6_21⟩, ⟨by decide, by decide⟩, by decide +kernel⟩
theorem wkX11_winds : CW yX11_winds cX11_winds 6 (some .int) 1 := ⟨⟨m_6_27, m_6_28, m_1_13, m_6_29⟩, ⟨by decide, by decide⟩, by decide +kernel⟩
theorem wkX11_feed : CW yX11_feed cX11_feed 4 (some .int) 2 := ⟨⟨m_6_32, m_6_33, m_1_13, m_6_34⟩, ⟨by decide, by decide⟩, by decide +kernel⟩
theorem wkX11_wipe : CW yX11_wipe cX11_wipe 2 (some .int) 0 := ⟨⟨m_6_36, m_6_37, m_1_13, m_6_38⟩, ⟨by decide, by decide⟩, by decide +kernel⟩
theorem wkX11_mayBe : CW yX11_mayBe cX11_mayBe 3 (some .boolean) 2 := ⟨⟨m_6_68, m_0_48, m_1_13, m_6_69⟩, ⟨by decide, by decide⟩, by decide +kernel⟩
theorem wkX11_is : CW yX11_is cX11_is 5 (some .boolean) 3 := ⟨⟨m_6_54, m_0_47, m_1_13, m_6_55⟩, ⟨by decide, by decide⟩, by decide +kernel⟩
theorem wkX11_wordAt : CW yX11_wordAt cX11_wordAt 3 (some .int) 2 := ⟨⟨m_6_49, m_0_46, m_1_13, m_6_50⟩, ⟨by decide, by decide⟩, by decide +kernel⟩
theorem wkX11_read : CW yX11_read cX11_read 7 (some .int) 1 := ⟨⟨m_6_45, m_0_45, m_1_13, m_6_46⟩, ⟨by decide, by decide⟩, by decide +kernel⟩
theorem wkX11_law : CW yX11_law cX11_law 2 (some .int) 0 := ⟨⟨m_6_40, m_6_41, m_1_13, m_6_42⟩, ⟨by decide, by decide⟩, by decide +kernel⟩
theorem wkX11_isLaw : CW yX11_isLaw cX11_isLaw 2 (some .boolean) 1 := ⟨⟨m_6_76, m_0_49, m_1_13, m_6_77⟩, ⟨by decide, by decide⟩, by decide +kernel⟩
theorem wkX11_lawOf : CW yX11_lawOf cX11_lawOf 3 (some .int) 2 := ⟨⟨m_6_71, m_6_72, m_1_13, m_6_73⟩, ⟨by decide, by decide⟩, by decide +kernel⟩
theorem wkX11_force : CW yX11_force cX11_force 3 (some .int) 1 := ⟨⟨m_6_79, m_6_80, m_1_13, m_6_81⟩, ⟨by decide, by decide⟩, by decide +kernel⟩
theorem wkX11_leaper : CW yX11_leaper cX11_leaper 3 (some .int) 1 := ⟨⟨m_6_83, m_6_84, m_1_13, m_6_85⟩, ⟨by decide, by decide⟩, by decide +kernel⟩
theorem wkX11_isLeaper : CW yX11_isLeaper cX11_isLeaper 2 (some .boolean) 1 := ⟨⟨m_6_92, m_0_50, m_1_13, m_6_93⟩, ⟨by decide, by decide⟩, by decide +kernel⟩
theorem wkX11_leaperOf : CW yX11_leaperOf cX11_leaperOf 3 (some .int) 2 := ⟨⟨m_6_87, m_6_88, m_1_13, m_6_89⟩, ⟨by decide, by decide⟩, by decide +kernel⟩
theorem wkX11_tried : CW yX11_tried cX11_tried 4 (some .int) 3 := ⟨⟨m_6_95, m_6_96, m_1_13, m_6_97⟩, ⟨by decide, by decide⟩, by decide +kernel⟩
theorem wkX11_learntBy : CW yX11_learntBy cX11_learntBy 3 (some .int) 1 := ⟨⟨m_6_104, m_0_51, m_1_13, m_6_105⟩, ⟨by decide, by decide⟩, by decide +kernel⟩
theorem wkX11_learnt : CW yX11_learnt cX11_learnt 2 (some .int) 1 := ⟨⟨m_6_99, m_6_100, m_1_13, m_6_101⟩, ⟨by decide, by decide⟩, by decide +kernel⟩
theorem wkX11_learn : CW yX11_learn cX11_learn 3 (some .int) 1 := ⟨⟨m_6_107, m_6_108, m_1_13, m_6_109⟩, ⟨by decide, by decide⟩, by decide +kernel⟩
theorem wkX11_riskOf : CW yX11_riskOf cX11_riskOf 6 (some .int) 3 := ⟨⟨m_6_116, m_0_52, m_1_13, m_6_117⟩, ⟨by decide, by decide⟩, by decide +kernel⟩
theorem wkX11_risk : CW yX11_risk cX11_risk 4 (some .int) 3 := ⟨⟨m_6_111, m_6_112, m_1_13, m_6_113⟩, ⟨by decide, by decide⟩, by decide +kernel⟩
theorem wkX11_calm : CW yX11_calm cX11_calm 5 (some .int) 2 := ⟨⟨m_6_119, m_6_120, m_1_13, m_6_121⟩, ⟨by decide, by decide⟩, by decide +kernel⟩
theorem wkX11_legAt : CW yX11_legAt cX11_legAt 7 (some .int) 3 := ⟨⟨m_6_132, m_0_54, m_1_13, m_6_133⟩, ⟨by decide, by decide⟩, by decide +kernel⟩
theorem wkX11_legOf : CW yX11_legOf cX11_legOf 3 (some .int) 2 := ⟨⟨m_6_128, m_0_53, m_1_13, m_6_129⟩, ⟨by decide, by decide⟩, by decide +kernel⟩
theorem wkX11_leg : CW yX11_leg cX11_leg 3 (some .int) 2 := ⟨⟨m_6_123, m_6_124, m_1_13, m_6_125⟩, ⟨by decide, by decide⟩, by decide +kernel⟩
theorem wkX11_take : CW yX11_take cX11_take 7 (some .int) 2 := ⟨⟨m_6_140, m_0_55, m_1_13, m_6_141⟩, ⟨by decide, by decide⟩, by decide +kernel⟩
theorem wkX11_endOfTour : CW yX11_endOfTour cX11_endOfTour 5 (some .int) 1 := ⟨⟨m_6_152, m_0_58, m_1_13, m_6_153⟩, ⟨by decide, by decide⟩, by decide +kernel⟩
theorem wkX11_hourOf : CW yX11_hourOf cX11_hourOf 2 (some .int) 1 := ⟨⟨m_6_148, m_0_57, m_1_13, m_6_149⟩, ⟨by decide, by decide⟩, by decide +kernel⟩
theorem wkX11_riskOfTour : CW yX11_riskOfTour cX11_riskOfTour 9 (some .int) 2 := ⟨⟨m_6_144, m_0_56, m_1_13, m_6_145⟩, ⟨by decide, by decide⟩, by decide +kernel⟩
theorem wkX11_round : CW yX11_round cX11_round 8 (some .int) 4 := ⟨⟨m_6_135, m_6_136, m_1_13, m_6_137⟩, ⟨by decide, by decide⟩, by decide +kernel⟩
theorem wkX11_membersOf : CW yX11_membersOf cX11_membersOf 4 (some .int) 1 := ⟨⟨m_6_160, m_0_59, m_1_13, m_6_161⟩, ⟨by decide, by decide⟩, by decide +kernel⟩
theorem wkX11_nextOrder : CW yX11_nextOrder cX11_nextOrder 7 (some .boolean) 1 := ⟨⟨m_6_164, m_0_60, m_1_13, m_6_165⟩, ⟨by decide, by decide⟩, by decide +kernel⟩
theorem wkX11_best : CW yX11_best cX11_best 12 (some .int) 4 := ⟨⟨m_6_155, m_6_156, m_1_13, m_6_157⟩, ⟨by decide, by decide⟩, by decide +kernel⟩
theorem wkX11_team : CW yX11_team cX11_team 15 (some .int) 4 := ⟨⟨m_6_167, m_6_168, m_1_13, m_6_169⟩, ⟨by decide, by decide⟩, by decide +kernel⟩
theorem wkX11_safest : CW yX11_safest cX11_safest 5 (some .int) 2 := ⟨⟨m_6_172, m_6_173, m_1_13, m_6_174⟩, ⟨by decide, by decide⟩, by decide +kernel⟩
theorem wkX11_missed : CW yX11_missed cX11_missed 14 (some .int) 5 := ⟨⟨m_6_176, m_6_177, m_1_13, m_6_178⟩, ⟨by decide, by decide⟩, by decide +kernel⟩
theorem wkX11_pilot : CW yX11_pilot cX11_pilot 9 (some .int) 3 := ⟨⟨m_6_180, m_6_181, m_1_13, m_6_182⟩, ⟨by decide, by decide⟩, by decide +kernel⟩
theorem wkX11_still : CW yX11_still cX11_still 7 (some .int) 2 := ⟨⟨m_6_184, m_6_185, m_1_13, m_6_186⟩, ⟨by decide, by decide⟩, by decide +kernel⟩
theorem wkX11_isFall : CW yX11_isFall cX11_isFall 2 (some .boolean) 1 := ⟨⟨m_6_193, m_0_61, m_1_13, m_6_194⟩, ⟨by decide, by decide⟩, by decide +kernel⟩
theorem wkX11_firstOut : CW yX11_firstOut cX11_firstOut 4 (some .int) 1 := ⟨⟨m_6_188, m_6_189, m_1_13, m_6_190⟩, ⟨by decide, by decide⟩, by decide +kernel⟩
theorem wkX11_lifts : CW yX11_lifts cX11_lifts 12 (some .int) 4 := ⟨⟨m_6_196, m_6_197, m_1_13, m_6_198⟩, ⟨by decide, by decide⟩, by decide +kernel⟩
theorem wkX11_parcel : CW yX11_parcel cX11_parcel 5 (some .int) 3 := ⟨⟨m_6_200, m_6_201, m_1_13, m_6_202⟩, ⟨by decide, by decide⟩, by decide +kernel⟩
theorem wkX11_stops : CW yX11_stops cX11_stops 8 (some .int) 1 := ⟨⟨m_6_204, m_6_205, m_1_13, m_6_206⟩, ⟨by decide, by decide⟩, by decide +kernel⟩
theorem wkX11_week : CW yX11_week cX11_week 4 (some .int) 2 := ⟨⟨m_6_208, m_6_209, m_1_13, m_6_210⟩, ⟨by decide, by decide⟩, by decide +kernel⟩
theorem wkX11_outs : CW yX11_outs cX11_outs 5 (some .int) 2 := ⟨⟨m_6_212, m_6_213, m_1_13, m_6_214⟩, ⟨by decide, by decide⟩, by decide +kernel⟩
theorem wkX11_seed : CW yX11_seed cX11_seed 3 (some .int) 1 := ⟨⟨m_6_216, m_6_217, m_1_13, m_6_218⟩, ⟨by decide, by decide⟩, by decide +kernel⟩
theorem wkX11_begin : CW yX11_begin cX11_begin 6 (some .int) 3 := ⟨⟨m_6_220, m_6_221, m_1_13, m_6_222⟩, ⟨by decide, by decide⟩, by decide +kernel⟩
theorem wkX11_draw : CW yX11_draw cX11_draw 2 (some .int) 1 := ⟨⟨m_6_229, m_0_62, m_1_13, m_6_230⟩, ⟨by decide, by decide⟩, by decide +kernel⟩
theorem wkX11_step : CW yX11_step cX11_step 9 (some .int) 0 := ⟨⟨m_6_224, m_6_225, m_1_13, m_6_226⟩, ⟨by decide, by decide⟩, by decide +kernel⟩
theorem wkX11_under : CW yX11_under cX11_under 2 (some .int) 1 := ⟨⟨m_6_233, m_6_234, m_1_13, m_6_235⟩, ⟨by decide, by decide⟩, by decide +kernel⟩
theorem wkX11_move : CW yX11_move cX11_move 5 (some .int) 3 := ⟨⟨m_7_6, m_0_64, m_1_13, m_7_7⟩, ⟨by decide, by decide⟩, by decide +kernel⟩
theorem wkX11_moveAll : CW yX11_moveAll cX11_moveAll 3 none 1 := ⟨⟨m_7_2, m_0_63, m_1_13, m_7_3⟩, ⟨by decide, by decide⟩, by decide +kernel⟩
theorem wkX11_image : CW yX11_image cX11_image 1 (some .int) 0 := ⟨⟨m_6_237, m_6_238, m_1_13, m_6_239⟩, ⟨by decide, by decide⟩, by decide +kernel⟩
theorem wkX11_back : CW yX11_back cX11_back 2 (some .int) 0 := ⟨⟨m_7_9, m_7_10, m_1_13, m_7_11⟩, ⟨by decide, by decide⟩, by decide +kernel⟩
theorem wkX11_status : CW yX11_status cX11_status 4 (some .int) 1 := ⟨⟨m_7_13, m_7_14, m_1_13, m_7_15⟩, ⟨by decide, by decide⟩, by decide +kernel⟩
