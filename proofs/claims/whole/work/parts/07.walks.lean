theorem bi_m60 : (Int8.ofInt (-60)).toInt32 = (-60) := by decide
theorem bi_m50 : (Int8.ofInt (-50)).toInt32 = (-50) := by decide
theorem bi_m2 : (Int8.ofInt (-2)).toInt32 = (-2) := by decide
theorem bi_6 : (Int8.ofInt 6).toInt32 = 6 := by decide
theorem bi_7 : (Int8.ofInt 7).toInt32 = 7 := by decide
theorem bi_8 : (Int8.ofInt 8).toInt32 = 8 := by decide
theorem bi_9 : (Int8.ofInt 9).toInt32 = 9 := by decide
theorem bi_10 : (Int8.ofInt 10).toInt32 = 10 := by decide
theorem bi_12 : (Int8.ofInt 12).toInt32 = 12 := by decide
theorem bi_16 : (Int8.ofInt 16).toInt32 = 16 := by decide
theorem bi_20 : (Int8.ofInt 20).toInt32 = 20 := by decide
theorem bi_40 : (Int8.ofInt 40).toInt32 = 40 := by decide
theorem bi_50 : (Int8.ofInt 50).toInt32 = 50 := by decide
theorem bi_60 : (Int8.ofInt 60).toInt32 = 60 := by decide
theorem bi_100 : (Int8.ofInt 100).toInt32 = 100 := by decide
theorem ic_m1 : Int32.ofInt (-1) = (-1) := by decide
theorem ic_0 : Int32.ofInt 0 = 0 := by decide
theorem ic_1 : Int32.ofInt 1 = 1 := by decide
theorem ic_2 : Int32.ofInt 2 = 2 := by decide
theorem ic_3 : Int32.ofInt 3 = 3 := by decide
theorem ic_4 : Int32.ofInt 4 = 4 := by decide
theorem ic_5 : Int32.ofInt 5 = 5 := by decide
theorem ii_1 (x : Int32) : x + Int32.ofInt 1 = x + 1 := rfl
theorem si_256 : (Int16.ofInt 256).toInt32 = 256 := by decide
theorem si_1000 : (Int16.ofInt 1000).toInt32 = 1000 := by decide
theorem wkX10_isBelow : CS yX10_isBelow cX10_isBelow 2 (some .boolean) 2 := ⟨⟨m_2_171, m_1_1, m_2_172⟩, ⟨by decide, by decide⟩, by decide +kernel⟩
theorem wkX10_isShelf : CS yX10_isShelf cX10_isShelf 1 (some .boolean) 1 := ⟨⟨m_2_168, m_1_1, m_2_169⟩, ⟨by decide, by decide⟩, by decide +kernel⟩
theorem wkX10_refuse : CW yX10_refuse cX10_refuse 3 (some .int) 1 := ⟨⟨m_2_178, m_0_0, m_1_1, m_2_179⟩, ⟨by decide, by decide⟩, by decide +kernel⟩
theorem wkX10_isWithin : CS yX10_isWithin cX10_isWithin 3 (some .boolean) 3 := ⟨⟨m_2_174, m_1_1, m_2_175⟩, ⟨by decide, by decide⟩, by decide +kernel⟩
theorem wkX5_takeRow : CW yX5_takeRow cX5_takeRow 4 none 2 := ⟨⟨m_2_181, m_2_182, m_1_12, m_2_183⟩, ⟨by decide, by decide⟩, by decide +kernel⟩
theorem wkX10_row : CW yX10_row cX10_row 4 (some .int) 3 := ⟨⟨m_2_164, m_2_165, m_1_1, m_2_166⟩, ⟨by decide, by decide⟩, by decide +kernel⟩
theorem wkX10_holds : CW yX10_holds cX10_holds 3 (some .int) 1 := ⟨⟨m_2_223, m_2_224, m_1_1, m_2_225⟩, ⟨by decide, by decide⟩, by decide +kernel⟩
theorem wkX5_takeJetty : CW yX5_takeJetty cX5_takeJetty 2 none 1 := ⟨⟨m_2_235, m_2_236, m_1_12, m_2_237⟩, ⟨by decide, by decide⟩, by decide +kernel⟩
theorem wkX10_isJetty : CW yX10_isJetty cX10_isJetty 2 (some .boolean) 1 := ⟨⟨m_2_232, m_0_3, m_1_1, m_2_233⟩, ⟨by decide, by decide⟩, by decide +kernel⟩
theorem wkX10_show : CW yX10_show cX10_show 3 (some .int) 2 := ⟨⟨m_2_227, m_2_228, m_1_1, m_2_229⟩, ⟨by decide, by decide⟩, by decide +kernel⟩
theorem wkX10_toNumber : CS yX10_toNumber cX10_toNumber 1 (some .int) 1 := ⟨⟨m_3_25, m_1_1, m_3_26⟩, ⟨by decide, by decide⟩, by decide +kernel⟩
theorem wkX10_lake : CW yX10_lake cX10_lake 4 (some .int) 2 := ⟨⟨m_3_81, m_3_82, m_1_1, m_3_83⟩, ⟨by decide, by decide⟩, by decide +kernel⟩
theorem wkX10_isHour : CS yX10_isHour cX10_isHour 1 (some .boolean) 1 := ⟨⟨m_3_89, m_1_1, m_3_90⟩, ⟨by decide, by decide⟩, by decide +kernel⟩
theorem wkX10_wind : CW yX10_wind cX10_wind 4 (some .int) 2 := ⟨⟨m_3_85, m_3_86, m_1_1, m_3_87⟩, ⟨by decide, by decide⟩, by decide +kernel⟩
theorem wkX10_isLaw : CW yX10_isLaw cX10_isLaw 2 (some .boolean) 1 := ⟨⟨m_3_211, m_0_12, m_1_1, m_3_212⟩, ⟨by decide, by decide⟩, by decide +kernel⟩
theorem wkX10_force : CW yX10_force cX10_force 3 (some .int) 1 := ⟨⟨m_3_214, m_3_215, m_1_1, m_3_216⟩, ⟨by decide, by decide⟩, by decide +kernel⟩
theorem wkX10_isLeaper : CW yX10_isLeaper cX10_isLeaper 2 (some .boolean) 1 := ⟨⟨m_3_231, m_0_13, m_1_1, m_3_232⟩, ⟨by decide, by decide⟩, by decide +kernel⟩
theorem wkX0_riseAt : CW yX0_riseAt cX0_riseAt 2 (some .int) 1 := ⟨⟨m_3_18, m_3_19, m_1_7, m_3_20⟩, ⟨by decide, by decide⟩, by decide +kernel⟩
theorem wkX1_deck : CW yX1_deck cX1_deck 1 (some .int) 0 := ⟨⟨m_3_46, m_0_5, m_1_3, m_3_47⟩, ⟨by decide, by decide⟩, by decide +kernel⟩
theorem wkX1_isOut : CW yX1_isOut cX1_isOut 3 (some .boolean) 2 := ⟨⟨m_3_40, m_3_41, m_1_3, m_3_42⟩, ⟨by decide, by decide⟩, by decide +kernel⟩
theorem wkX1_lawValue : CW yX1_lawValue cX1_lawValue 3 (some .int) 1 := ⟨⟨m_3_57, m_0_6, m_1_3, m_3_58⟩, ⟨by decide, by decide⟩, by decide +kernel⟩
theorem wkX1_speed : CW yX1_speed cX1_speed 1 (some .int) 0 := ⟨⟨m_3_52, m_3_53, m_1_3, m_3_54⟩, ⟨by decide, by decide⟩, by decide +kernel⟩
theorem wkX0_paces : CW yX0_paces cX0_paces 1 (some .int) 0 := ⟨⟨m_3_14, m_3_15, m_1_7, m_3_16⟩, ⟨by decide, by decide⟩, by decide +kernel⟩
theorem wkX10_cutBy : CS yX10_cutBy cX10_cutBy 2 (some .int) 2 := ⟨⟨m_3_69, m_1_1, m_3_70⟩, ⟨by decide, by decide⟩, by decide +kernel⟩
theorem wkX10_roundedUpBy : CS yX10_roundedUpBy cX10_roundedUpBy 2 (some .int) 2 := ⟨⟨m_3_66, m_1_1, m_3_67⟩, ⟨by decide, by decide⟩, by decide +kernel⟩
theorem wkX1_hasTime : CW yX1_hasTime cX1_hasTime 4 (some .boolean) 2 := ⟨⟨m_3_61, m_3_62, m_1_3, m_3_63⟩, ⟨by decide, by decide⟩, by decide +kernel⟩
theorem wkX1_isHopeless : CW yX1_isHopeless cX1_isHopeless 2 (some .boolean) 1 := ⟨⟨m_4_24, m_4_25, m_1_3, m_4_26⟩, ⟨by decide, by decide⟩, by decide +kernel⟩
theorem wkX1_riskOf : CW yX1_riskOf cX1_riskOf 6 (some .int) 3 := ⟨⟨m_4_20, m_4_21, m_1_3, m_4_22⟩, ⟨by decide, by decide⟩, by decide +kernel⟩
theorem wkX10_risk : CW yX10_risk cX10_risk 4 (some .int) 3 := ⟨⟨m_4_16, m_4_17, m_1_1, m_4_18⟩, ⟨by decide, by decide⟩, by decide +kernel⟩
theorem wkX1_legMinutes : CW yX1_legMinutes cX1_legMinutes 6 (some .int) 3 := ⟨⟨m_4_45, m_4_46, m_1_3, m_4_47⟩, ⟨by decide, by decide⟩, by decide +kernel⟩
theorem wkX10_leg : CW yX10_leg cX10_leg 3 (some .int) 2 := ⟨⟨m_4_41, m_4_42, m_1_1, m_4_43⟩, ⟨by decide, by decide⟩, by decide +kernel⟩
theorem wkX11_isShelf : CW yX11_isShelf cX11_isShelf 2 (some .boolean) 1 := ⟨⟨m_5_152, m_0_27, m_1_13, m_5_153⟩, ⟨by decide, by decide⟩, by decide +kernel⟩
theorem wkX11_no : CW yX11_no cX11_no 2 (some .int) 1 := ⟨⟨m_5_156, m_0_28, m_1_13, m_5_157⟩, ⟨by decide, by decide⟩, by decide +kernel⟩
theorem wkX11_row : CW yX11_row cX11_row 5 (some .int) 3 := ⟨⟨m_5_147, m_5_148, m_1_13, m_5_149⟩, ⟨by decide, by decide⟩, by decide +kernel⟩
theorem wkX11_isRow : CW yX11_isRow cX11_isRow 2 (some .boolean) 1 := ⟨⟨m_5_176, m_0_31, m_1_13, m_5_177⟩, ⟨by decide, by decide⟩, by decide +kernel⟩
theorem wkX11_holds : CW yX11_holds cX11_holds 2 (some .int) 1 := ⟨⟨m_5_183, m_5_184, m_1_13, m_5_185⟩, ⟨by decide, by decide⟩, by decide +kernel⟩
theorem wkX11_isJetty : CW yX11_isJetty cX11_isJetty 2 (some .boolean) 1 := ⟨⟨m_5_192, m_0_32, m_1_13, m_5_193⟩, ⟨by decide, by decide⟩, by decide +kernel⟩
theorem wkX11_show : CW yX11_show cX11_show 3 (some .int) 2 := ⟨⟨m_5_187, m_5_188, m_1_13, m_5_189⟩, ⟨by decide, by decide⟩, by decide +kernel⟩
theorem wkX11_isSpot : CW yX11_isSpot cX11_isSpot 2 (some .boolean) 1 := ⟨⟨m_5_216, m_0_36, m_1_13, m_5_217⟩, ⟨by decide, by decide⟩, by decide +kernel⟩
theorem wkX11_isLevel : CW yX11_isLevel cX11_isLevel 2 (some .boolean) 1 := ⟨⟨m_6_16, m_0_43, m_1_13, m_6_17⟩, ⟨by decide, by decide⟩, by decide +kernel⟩
theorem wkX11_lake : CW yX11_lake cX11_lake 4 (some .int) 2 := ⟨⟨m_6_19, m_6_20, m_1_13, m_6_21⟩, ⟨by decide, by decide⟩, by decide +kernel⟩
theorem wkX11_isHour : CW yX11_isHour cX11_isHour 2 (some .boolean) 1 := ⟨⟨m_6_28, m_0_44, m_1_13, m_6_29⟩, ⟨by decide, by decide⟩, by decide +kernel⟩
theorem wkX11_wind : CW yX11_wind cX11_wind 4 (some .int) 2 := ⟨⟨m_6_23, m_6_24, m_1_13, m_6_25⟩, ⟨by decide, by decide⟩, by decide +kernel⟩
theorem wkX11_isLaw : CW yX11_isLaw cX11_isLaw 2 (some .boolean) 1 := ⟨⟨m_6_80, m_0_49, m_1_13, m_6_81⟩, ⟨by decide, by decide⟩, by decide +kernel⟩
theorem wkX11_force : CW yX11_force cX11_force 3 (some .int) 1 := ⟨⟨m_6_83, m_6_84, m_1_13, m_6_85⟩, ⟨by decide, by decide⟩, by decide +kernel⟩
theorem wkX11_isLeaper : CW yX11_isLeaper cX11_isLeaper 2 (some .boolean) 1 := ⟨⟨m_6_96, m_0_50, m_1_13, m_6_97⟩, ⟨by decide, by decide⟩, by decide +kernel⟩
theorem wkX11_riseAt : CW yX11_riseAt cX11_riseAt 6 (some .int) 2 := ⟨⟨m_5_208, m_0_35, m_1_13, m_5_209⟩, ⟨by decide, by decide⟩, by decide +kernel⟩
theorem wkX11_deck : CW yX11_deck cX11_deck 1 (some .int) 0 := ⟨⟨m_5_228, m_0_38, m_1_13, m_5_229⟩, ⟨by decide, by decide⟩, by decide +kernel⟩
theorem wkX11_isOut : CW yX11_isOut cX11_isOut 4 (some .boolean) 2 := ⟨⟨m_5_224, m_0_37, m_1_13, m_5_225⟩, ⟨by decide, by decide⟩, by decide +kernel⟩
theorem wkX11_first : CW yX11_first cX11_first 2 (some .int) 1 := ⟨⟨m_6_0, m_0_41, m_1_13, m_6_1⟩, ⟨by decide, by decide⟩, by decide +kernel⟩
theorem wkX11_says_ : CW yX11_says_ cX11_says_ 2 (some .int) 1 := ⟨⟨m_5_236, m_0_40, m_1_13, m_5_237⟩, ⟨by decide, by decide⟩, by decide +kernel⟩
theorem wkX11_paces : CW yX11_paces cX11_paces 4 (some .int) 1 := ⟨⟨m_5_204, m_0_34, m_1_13, m_5_205⟩, ⟨by decide, by decide⟩, by decide +kernel⟩
theorem wkX11_isTimeAt : CW yX11_isTimeAt cX11_isTimeAt 4 (some .boolean) 2 := ⟨⟨m_6_4, m_0_42, m_1_13, m_6_5⟩, ⟨by decide, by decide⟩, by decide +kernel⟩
theorem wkX11_isTime : CW yX11_isTime cX11_isTime 2 (some .boolean) 1 := ⟨⟨m_5_232, m_0_39, m_1_13, m_5_233⟩, ⟨by decide, by decide⟩, by decide +kernel⟩
theorem wkX11_riskOf : CW yX11_riskOf cX11_riskOf 6 (some .int) 3 := ⟨⟨m_6_120, m_0_52, m_1_13, m_6_121⟩, ⟨by decide, by decide⟩, by decide +kernel⟩
theorem wkX11_risk : CW yX11_risk cX11_risk 4 (some .int) 3 := ⟨⟨m_6_115, m_6_116, m_1_13, m_6_117⟩, ⟨by decide, by decide⟩, by decide +kernel⟩
theorem wkX11_legAt : CW yX11_legAt cX11_legAt 7 (some .int) 3 := ⟨⟨m_6_136, m_0_54, m_1_13, m_6_137⟩, ⟨by decide, by decide⟩, by decide +kernel⟩
theorem wkX11_legOf : CW yX11_legOf cX11_legOf 3 (some .int) 2 := ⟨⟨m_6_132, m_0_53, m_1_13, m_6_133⟩, ⟨by decide, by decide⟩, by decide +kernel⟩
theorem wkX11_leg : CW yX11_leg cX11_leg 3 (some .int) 2 := ⟨⟨m_6_127, m_6_128, m_1_13, m_6_129⟩, ⟨by decide, by decide⟩, by decide +kernel⟩
set_option maxRecDepth 100000 in
set_option maxHeartbeats 4000000 in
theorem tc_isBelow {l : Launch} {D : va_G} {cy : Nat → ClassId} {ad : Nat → Nat} {N : Mem} (M : Mem) (a0 : Int32) (a1 : Int32) {x : Int32} (h : fc_isBelow M a0 a1 = some x) : Mt l D cy ad yX10_isBelow cX10_isBelow 2 (some .boolean) 1 [.int a0, .int a1] ((wfC N) M) (some (.int x), (wfC N) M) := by
  refine met_of (fin := (finI M)) (lv0 := [(0, .int a0), (1, .int a1)]) (by decide) (Nat.le_of_ble_eq_true rfl) rfl (lC N) h (fun p e s m args below meth c X hr => ?_)
  unfold fc_isBelow
  refine g_iload_n X dX10_isBelow_0 0 rfl rfl ?_
  refine g_if_lt X 13 (by decide) dX10_isBelow_1 (fun q1 => ?_) (fun q1 => ?_)
  · refine g_iconst X dX10_isBelow_13 ic_0 ?_
    exact g_zret X hr (isB_n (by decide)) rfl dX10_isBelow_14
  · refine g_iload_n X dX10_isBelow_4 0 rfl rfl ?_
    refine g_iload_n X dX10_isBelow_5 1 rfl rfl ?_
    refine g_icmp_ge X 13 (by decide) dX10_isBelow_6 (fun q6 => ?_) (fun q6 => ?_)
    · refine g_iconst X dX10_isBelow_13 ic_0 ?_
      exact g_zret X hr (isB_n (by decide)) rfl dX10_isBelow_14
    · refine g_iconst X dX10_isBelow_9 ic_1 ?_
      refine g_goto X 14 (by decide) dX10_isBelow_10 ?_
      exact g_zret X hr (isB_n (by decide)) rfl dX10_isBelow_14
theorem tc_isBelowT {l : Launch} {D : va_G} {cy : Nat → ClassId} {ad : Nat → Nat} {N : Mem} (M : Mem) (a0 : Int32) (a1 : Int32) : Mt l D cy ad yX10_isBelow cX10_isBelow 2 (some .boolean) 1 [.int a0, .int a1] ((wfC N) M) (some (.int (fc_isBelowT M a0 a1)), (wfC N) M) := tc_isBelow M a0 a1 (fc_isBelowE M a0 a1)
set_option maxRecDepth 100000 in
set_option maxHeartbeats 4000000 in
theorem tc_isShelf {l : Launch} {D : va_G} {cy : Nat → ClassId} {ad : Nat → Nat} {N : Mem} (M : Mem) (a0 : Int32) {x : Int32} (h : fc_isShelf M a0 = some x) : Mt l D cy ad yX10_isShelf cX10_isShelf 1 (some .boolean) 2 [.int a0] ((wfC N) M) (some (.int x), (wfC N) M) := by
  refine met_of (fin := (finI M)) (lv0 := [(0, .int a0)]) (by decide) (Nat.le_of_ble_eq_true rfl) rfl (lC N) h (fun p e s m args below meth c X hr => ?_)
  unfold fc_isShelf
  refine g_iload_n X dX10_isShelf_0 0 rfl rfl ?_
  refine g_bipush X dX10_isShelf_1 bi_8 ?_
  refine g_ct X (v0 := .int (fc_isBelowT M a0 8)) (st := []) (ok_S X (As := [.int a0, .int 8]) wkX10_isBelow (tc_isBelowT M a0 8) rfl m_2_170 rfl (hRm (by decide) (by decide)) ⟨Nat.zero_le _, Nat.zero_le _⟩ (Nat.le_of_ble_eq_true rfl) dX10_isShelf_3) ?_
  exact g_zret X hr (isB_n (fc_isBelowB M a0 8)) rfl dX10_isShelf_6
theorem tc_isShelfT {l : Launch} {D : va_G} {cy : Nat → ClassId} {ad : Nat → Nat} {N : Mem} (M : Mem) (a0 : Int32) : Mt l D cy ad yX10_isShelf cX10_isShelf 1 (some .boolean) 2 [.int a0] ((wfC N) M) (some (.int (fc_isShelfT M a0)), (wfC N) M) := tc_isShelf M a0 (fc_isShelfE M a0)
set_option maxRecDepth 100000 in
set_option maxHeartbeats 4000000 in
theorem tc_refuse {l : Launch} {D : va_G} {cy : Nat → ClassId} {ad : Nat → Nat} {N : Mem} (M : Mem) (a1 : Int32) {x : (Int32 × Mem)} (h : fc_refuse M a1 = some x) : Mt l D cy ad yX10_refuse cX10_refuse 3 (some .int) 2 [.ref (ad 0), .int a1] ((wfC N) M) (some (.int x.1), (wfC N) x.2) := by
  refine met_of (fin := finS) (lv0 := [(0, .ref (ad 0)), (1, .int a1)]) (by decide) (Nat.le_of_ble_eq_true rfl) rfl (lC N) h (fun p e s m args below meth c X hr => ?_)
  unfold fc_refuse
  refine g_bipush X dX10_refuse_0 bi_m2 ?_
  refine g_iload_n X dX10_refuse_2 1 rfl rfl ?_
  refine g_isub X dX10_refuse_3 ?_
  refine g_ilet X (fun v1 => ?_)
  refine g_istore_n X dX10_refuse_4 rfl (by decide) rfl [1, 2, 0] (lu := [(0, .ref (ad 0)), (1, .int a1), (2, .int v1)]) rfl ?_
  refine g_iload_n X dX10_refuse_5 2 rfl rfl ?_
  refine g_iconst X dX10_refuse_6 ic_5 ?_
  refine g_ct X (v0 := .int (fc_isBelowT M v1 5)) (st := []) (ok_S X (As := [.int v1, .int 5]) wkX10_isBelow (tc_isBelowT M v1 5) rfl m_2_170 rfl (hRm (by decide) (by decide)) ⟨Nat.zero_le _, Nat.zero_le _⟩ (Nat.le_of_ble_eq_true rfl) dX10_refuse_7) ?_
  refine g_if_eq X 23 (by decide) dX10_refuse_10 (fun q10 => ?_) (fun q10 => ?_)
  · refine g_iload_n X dX10_refuse_23 1 rfl rfl ?_
    exact g_iret X hr rfl dX10_refuse_24
  · refine g_aload_n X dX10_refuse_13 0 rfl rfl ?_
    refine get_10_5 X (k := 0) k_0 s_0 m_2_134 dX10_refuse_14 ?_
    refine g_iload_n X dX10_refuse_17 2 rfl rfl ?_
    refine g_dup2 X dX10_refuse_18 rfl rfl ?_
    refine g_iald X (n := 5) (k := 118) k_118 s_118 dX10_refuse_19 (fun h2 => ?_)
    refine g_iconst X dX10_refuse_20 ic_1 ?_
    refine g_iadd X dX10_refuse_21 ?_
    refine g_iast X (n := 5) (k := 118) k_118 s_118 dX10_refuse_22 (fun h3 => ?_)
    refine g_mlet X (fun M4 => ?_)
    refine g_iload_n X dX10_refuse_23 1 rfl rfl ?_
    exact g_iret X hr rfl dX10_refuse_24
set_option maxRecDepth 100000 in
set_option maxHeartbeats 4000000 in
theorem tc_isWithin {l : Launch} {D : va_G} {cy : Nat → ClassId} {ad : Nat → Nat} {N : Mem} (M : Mem) (a0 : Int32) (a1 : Int32) (a2 : Int32) {x : Int32} (h : fc_isWithin M a0 a1 a2 = some x) : Mt l D cy ad yX10_isWithin cX10_isWithin 3 (some .boolean) 1 [.int a0, .int a1, .int a2] ((wfC N) M) (some (.int x), (wfC N) M) := by
  refine met_of (fin := (finI M)) (lv0 := [(0, .int a0), (1, .int a1), (2, .int a2)]) (by decide) (Nat.le_of_ble_eq_true rfl) rfl (lC N) h (fun p e s m args below meth c X hr => ?_)
  unfold fc_isWithin
  refine g_iload_n X dX10_isWithin_0 0 rfl rfl ?_
  refine g_iload_n X dX10_isWithin_1 1 rfl rfl ?_
  refine g_icmp_lt X 14 (by decide) dX10_isWithin_2 (fun q2 => ?_) (fun q2 => ?_)
  · refine g_iconst X dX10_isWithin_14 ic_0 ?_
    exact g_zret X hr (isB_n (by decide)) rfl dX10_isWithin_15
  · refine g_iload_n X dX10_isWithin_5 0 rfl rfl ?_
    refine g_iload_n X dX10_isWithin_6 2 rfl rfl ?_
    refine g_icmp_gt X 14 (by decide) dX10_isWithin_7 (fun q7 => ?_) (fun q7 => ?_)
    · refine g_iconst X dX10_isWithin_14 ic_0 ?_
      exact g_zret X hr (isB_n (by decide)) rfl dX10_isWithin_15
    · refine g_iconst X dX10_isWithin_10 ic_1 ?_
      refine g_goto X 15 (by decide) dX10_isWithin_11 ?_
      exact g_zret X hr (isB_n (by decide)) rfl dX10_isWithin_15
theorem tc_isWithinT {l : Launch} {D : va_G} {cy : Nat → ClassId} {ad : Nat → Nat} {N : Mem} (M : Mem) (a0 : Int32) (a1 : Int32) (a2 : Int32) : Mt l D cy ad yX10_isWithin cX10_isWithin 3 (some .boolean) 1 [.int a0, .int a1, .int a2] ((wfC N) M) (some (.int (fc_isWithinT M a0 a1 a2)), (wfC N) M) := tc_isWithin M a0 a1 a2 (fc_isWithinE M a0 a1 a2)
set_option maxRecDepth 100000 in
set_option maxHeartbeats 4000000 in
theorem LShelf_takeRow_L17 {l : Launch} {D : va_G} {cy : Nat → ClassId} {ad : Nat → Nat} {N : Mem} {p : Program} {e : Env} {s : State} {m : MethodId} {args : Array Value} {below : List Frame} {meth : Method} {c : Code} (X : Cx p s m args meth c cX5_takeRow 4 RX5 D cy ad (AA ad) (wfC N) sdC) (hr : meth.sig.returnType = none) (b0 : Nat) (hb0 : b0 < 8) : ∀ (n : Nat) (x3 : Int32) (M : Mem), GF p l e (Rm 1) s m args below meth c 4 D cy ad (AA ad) 0 0 (wfC N) (QM D cy ad (wfC N) below args s) finV (fShelf_takeRow_L17 b0 n x3 M) 17 [(0, .ref (ad (b0 + 2))), (3, .int x3)] [] M := by
  intro n
  induction n with
  | zero => intro x3 M; exact g_none
  | succ n ih =>
    intro x3 M
    rw [fShelf_takeRow_L17]
    refine g_iload_n X dX5_takeRow_17 1 rfl rfl ?_
    refine g_aload_n X dX5_takeRow_18 0 rfl rfl ?_
    refine get_5_3 X (k := b0 + 2) (kf_2 _ hb0) (sf_2 _ hb0) m_2_117 dX5_takeRow_19 ?_
    refine g_alenL X (k := b0 + 10) (v0 := 40) rfl (kf_10 _ hb0) (sf_10 _ hb0) dX5_takeRow_22 ?_
    refine g_icmp_ge X 39 (by decide) dX5_takeRow_23 (fun q23 => ?_) (fun q23 => ?_)
    · exact g_vret X hr rfl dX5_takeRow_39
    · refine g_aload_n X dX5_takeRow_26 0 rfl rfl ?_
      refine get_5_3 X (k := b0 + 2) (kf_2 _ hb0) (sf_2 _ hb0) m_2_117 dX5_takeRow_27 ?_
      refine g_iload_n X dX5_takeRow_30 1 rfl rfl ?_
      refine g_lconst X (v := 0) dX5_takeRow_31 (by decide) ?_
      refine g_last22 X (k := b0 + 10) (kf_10 _ hb0) (sf_10 _ hb0) dX5_takeRow_32 (fun h4 => ?_)
      refine g_mlet X (fun M5 => ?_)
      refine g_iinc X (k := 1) (v := (x3 + 1)) dX5_takeRow_33 rfl (ii_1 _) (by decide) rfl [1, 0] (lu := [(0, .ref (ad (b0 + 2))), (3, .int (x3 + 1))]) rfl ?_
      refine g_goto X 17 (by decide) dX5_takeRow_36 ?_
      exact ih (x3 + 1) M5
set_option maxRecDepth 100000 in
set_option maxHeartbeats 4000000 in
theorem tShelf_takeRow {l : Launch} {D : va_G} {cy : Nat → ClassId} {ad : Nat → Nat} {N : Mem} (M : Mem) (a0 : Nat) (a1 : Int32) (a2 : Int32) (ha0 : a0 < 8) {x : Mem} (h : fShelf_takeRow M a0 a1 a2 = some x) : Mt l D cy ad yX5_takeRow cX5_takeRow 4 none 1 [.ref (ad (a0 + 2)), .int a1, .int a2] ((wfC N) M) (none, (wfC N) x) := by
  refine met_of (fin := finV) (lv0 := [(0, .ref (ad (a0 + 2))), (1, .int a1), (2, .int a2)]) (by decide) (Nat.le_of_ble_eq_true rfl) rfl (lC N) h (fun p e s m args below meth c X hr => ?_)
  unfold fShelf_takeRow
  refine g_aload_n X dX5_takeRow_0 0 rfl rfl ?_
  refine g_iload_n X dX5_takeRow_1 1 rfl rfl ?_
  refine put_5_0 X (k := a0 + 2) (kf_2 _ ha0) (sf_2 _ ha0) m_2_111 dX5_takeRow_2 ?_
  refine g_mlet X (fun M1 => ?_)
  refine g_aload_n X dX5_takeRow_5 0 rfl rfl ?_
  refine g_iload_n X dX5_takeRow_6 2 rfl rfl ?_
  refine put_5_1 X (k := a0 + 2) (kf_2 _ ha0) (sf_2 _ ha0) m_2_113 dX5_takeRow_7 ?_
  refine g_mlet X (fun M2 => ?_)
  refine g_aload_n X dX5_takeRow_10 0 rfl rfl ?_
  refine g_iconst X dX5_takeRow_11 ic_m1 ?_
  refine put_5_2 X (k := a0 + 2) (kf_2 _ ha0) (sf_2 _ ha0) m_2_115 dX5_takeRow_12 ?_
  refine g_mlet X (fun M3 => ?_)
  refine g_iconst X dX5_takeRow_15 ic_0 ?_
  refine g_istore_n X dX5_takeRow_16 rfl (by decide) rfl [1, 0] (lu := [(0, .ref (ad (a0 + 2))), (3, .int 0)]) rfl ?_
  exact LShelf_takeRow_L17 X hr  a0 ha0   1000 0 M3
set_option maxRecDepth 100000 in
set_option maxHeartbeats 4000000 in
theorem tc_row {l : Launch} {D : va_G} {cy : Nat → ClassId} {ad : Nat → Nat} {N : Mem} (M : Mem) (a1 : Int32) (a2 : Int32) (a3 : Int32) {x : (Int32 × Mem)} (h : fc_row M a1 a2 a3 = some x) : Mt l D cy ad yX10_row cX10_row 4 (some .int) 3 [.ref (ad 0), .int a1, .int a2, .int a3] ((wfC N) M) (some (.int x.1), (wfC N) x.2) := by
  refine met_of (fin := finS) (lv0 := [(0, .ref (ad 0)), (1, .int a1), (2, .int a2), (3, .int a3)]) (by decide) (Nat.le_of_ble_eq_true rfl) rfl (lC N) h (fun p e s m args below meth c X hr => ?_)
  unfold fc_row
  refine g_iload_n X dX10_row_0 1 rfl rfl ?_
  refine g_ct X (v0 := .int (fc_isShelfT M a1)) (st := []) (ok_S X (As := [.int a1]) wkX10_isShelf (tc_isShelfT M a1) rfl m_2_167 rfl (hRm (by decide) (by decide)) ⟨Nat.zero_le _, Nat.zero_le _⟩ (Nat.le_of_ble_eq_true rfl) dX10_row_1) ?_
  refine g_if_eq X 25 (by decide) dX10_row_4 (fun q4 => ?_) (fun q4 => ?_)
  · refine g_aload_n X dX10_row_25 0 rfl rfl ?_
    refine g_bipush X dX10_row_26 bi_m2 ?_
    refine g_cs X (st := []) (fun _ hh => ok_V X (k0 := 0) (As := [.int (-2)]) wkX10_refuse (tc_refuse M (-2) hh) rfl k_0 s_0 (by decide) rfl m_2_176 rfl (hRm (by decide) (by decide)) ⟨Nat.zero_le _, Nat.zero_le _⟩ (Nat.le_of_ble_eq_true rfl) dX10_row_28) (fun r2 M1 _ => ?_)
    exact g_iret X hr rfl dX10_row_31
  · refine g_iload_n X dX10_row_7 2 rfl rfl ?_
    refine g_iconst X dX10_row_8 ic_5 ?_
    refine g_ct X (v0 := .int (fc_isBelowT M a2 5)) (st := []) (ok_S X (As := [.int a2, .int 5]) wkX10_isBelow (tc_isBelowT M a2 5) rfl m_2_170 rfl (hRm (by decide) (by decide)) ⟨Nat.zero_le _, Nat.zero_le _⟩ (Nat.le_of_ble_eq_true rfl) dX10_row_9) ?_
    refine g_if_eq X 25 (by decide) dX10_row_12 (fun q12 => ?_) (fun q12 => ?_)
    · refine g_aload_n X dX10_row_25 0 rfl rfl ?_
      refine g_bipush X dX10_row_26 bi_m2 ?_
      refine g_cs X (st := []) (fun _ hh => ok_V X (k0 := 0) (As := [.int (-2)]) wkX10_refuse (tc_refuse M (-2) hh) rfl k_0 s_0 (by decide) rfl m_2_176 rfl (hRm (by decide) (by decide)) ⟨Nat.zero_le _, Nat.zero_le _⟩ (Nat.le_of_ble_eq_true rfl) dX10_row_28) (fun r4 M3 _ => ?_)
      exact g_iret X hr rfl dX10_row_31
    · refine g_iload_n X dX10_row_15 3 rfl rfl ?_
      refine g_iconst X dX10_row_16 ic_0 ?_
      refine g_bipush X dX10_row_17 bi_40 ?_
      refine g_ct X (v0 := .int (fc_isWithinT M a3 0 40)) (st := []) (ok_S X (As := [.int a3, .int 0, .int 40]) wkX10_isWithin (tc_isWithinT M a3 0 40) rfl m_2_173 rfl (hRm (by decide) (by decide)) ⟨Nat.zero_le _, Nat.zero_le _⟩ (Nat.le_of_ble_eq_true rfl) dX10_row_19) ?_
      refine g_if_ne X 32 (by decide) dX10_row_22 (fun q22 => ?_) (fun q22 => ?_)
      · refine g_aload_n X dX10_row_32 0 rfl rfl ?_
        refine get_10_0 X (k := 0) k_0 s_0 m_2_129 dX10_row_33 ?_
        refine g_iload_n X dX10_row_36 1 rfl rfl ?_
        refine g_aald27 X (k := 1) k_1 s_1 dX10_row_37 (fun h5 => ?_)
        refine g_iload_n X dX10_row_38 2 rfl rfl ?_
        refine g_iload_n X dX10_row_39 3 rfl rfl ?_
        refine g_cv X (st := []) (fun _ hh => ok_V X (k0 := (ix a1) + 2) (As := [.int a2, .int a3]) wkX5_takeRow (tShelf_takeRow M (ix a1) a2 a3 (inb_lt h5) hh) rfl (kf_2 _ (inb_lt h5)) (sf_2 _ (inb_lt h5)) (by decide) rfl m_2_180 rfl (hRm (by decide) (by decide)) ⟨Nat.zero_le _, Nat.zero_le _⟩ (Nat.le_of_ble_eq_true rfl) dX10_row_40) (fun M6 _ => ?_)
        refine g_iconst X dX10_row_43 ic_1 ?_
        exact g_iret X hr rfl dX10_row_44
      · refine g_aload_n X dX10_row_25 0 rfl rfl ?_
        refine g_bipush X dX10_row_26 bi_m2 ?_
        refine g_cs X (st := []) (fun _ hh => ok_V X (k0 := 0) (As := [.int (-2)]) wkX10_refuse (tc_refuse M (-2) hh) rfl k_0 s_0 (by decide) rfl m_2_176 rfl (hRm (by decide) (by decide)) ⟨Nat.zero_le _, Nat.zero_le _⟩ (Nat.le_of_ble_eq_true rfl) dX10_row_28) (fun r8 M7 _ => ?_)
        exact g_iret X hr rfl dX10_row_31
set_option maxRecDepth 100000 in
set_option maxHeartbeats 4000000 in
theorem tc_holds {l : Launch} {D : va_G} {cy : Nat → ClassId} {ad : Nat → Nat} {N : Mem} (M : Mem) (a1 : Int32) {x : Int32} (h : fc_holds M a1 = some x) : Mt l D cy ad yX10_holds cX10_holds 3 (some .int) 3 [.ref (ad 0), .int a1] ((wfC N) M) (some (.int x), (wfC N) M) := by
  refine met_of (fin := (finI M)) (lv0 := [(0, .ref (ad 0)), (1, .int a1)]) (by decide) (Nat.le_of_ble_eq_true rfl) rfl (lC N) h (fun p e s m args below meth c X hr => ?_)
  unfold fc_holds
  refine g_iload_n X dX10_holds_0 1 rfl rfl ?_
  refine g_ct X (v0 := .int (fc_isShelfT M a1)) (st := []) (ok_S X (As := [.int a1]) wkX10_isShelf (tc_isShelfT M a1) rfl m_2_167 rfl (hRm (by decide) (by decide)) ⟨Nat.zero_le _, Nat.zero_le _⟩ (Nat.le_of_ble_eq_true rfl) dX10_holds_1) ?_
  refine g_if_ne X 9 (by decide) dX10_holds_4 (fun q4 => ?_) (fun q4 => ?_)
  · refine g_aload_n X dX10_holds_9 0 rfl rfl ?_
    refine get_10_0 X (k := 0) k_0 s_0 m_2_129 dX10_holds_10 ?_
    refine g_iload_n X dX10_holds_13 1 rfl rfl ?_
    refine g_aald27 X (k := 1) k_1 s_1 dX10_holds_14 (fun h1 => ?_)
    refine g_astore_n X dX10_holds_15 rfl (by decide) rfl [0] (lu := [(2, .ref (ad ((ix a1) + 2)))]) rfl ?_
    refine g_aload_n X dX10_holds_16 0 rfl rfl ?_
    refine get_5_2 X (k := (ix a1) + 2) (kf_2 _ (inb_lt h1)) (sf_2 _ (inb_lt h1)) m_2_116 dX10_holds_17 ?_
    refine g_iconst X dX10_holds_20 ic_m1 ?_
    refine g_icmp_ne X 31 (by decide) dX10_holds_21 (fun q21 => ?_) (fun q21 => ?_)
    · refine g_bipush X dX10_holds_31 bi_10 ?_
      refine g_aload_n X dX10_holds_33 0 rfl rfl ?_
      refine get_5_2 X (k := (ix a1) + 2) (kf_2 _ (inb_lt h1)) (sf_2 _ (inb_lt h1)) m_2_116 dX10_holds_34 ?_
      refine g_iadd X dX10_holds_37 ?_
      exact g_iret X hr rfl dX10_holds_38
    · refine g_aload_n X dX10_holds_24 0 rfl rfl ?_
      refine get_5_0 X (k := (ix a1) + 2) (kf_2 _ (inb_lt h1)) (sf_2 _ (inb_lt h1)) m_2_112 dX10_holds_25 ?_
      refine g_goto X 38 (by decide) dX10_holds_28 ?_
      exact g_iret X hr rfl dX10_holds_38
  · refine g_iconst X dX10_holds_7 ic_m1 ?_
    exact g_iret X hr rfl dX10_holds_8
set_option maxRecDepth 100000 in
set_option maxHeartbeats 4000000 in
theorem tShelf_takeJetty {l : Launch} {D : va_G} {cy : Nat → ClassId} {ad : Nat → Nat} {N : Mem} (M : Mem) (a0 : Nat) (a1 : Int32) (ha0 : a0 < 8) {x : Mem} (h : fShelf_takeJetty M a0 a1 = some x) : Mt l D cy ad yX5_takeJetty cX5_takeJetty 2 none 1 [.ref (ad (a0 + 2)), .int a1] ((wfC N) M) (none, (wfC N) x) := by
  refine met_of (fin := finV) (lv0 := [(0, .ref (ad (a0 + 2))), (1, .int a1)]) (by decide) (Nat.le_of_ble_eq_true rfl) rfl (lC N) h (fun p e s m args below meth c X hr => ?_)
  unfold fShelf_takeJetty
  refine g_aload_n X dX5_takeJetty_0 0 rfl rfl ?_
  refine g_iconst X dX5_takeJetty_1 ic_m1 ?_
  refine put_5_0 X (k := a0 + 2) (kf_2 _ ha0) (sf_2 _ ha0) m_2_111 dX5_takeJetty_2 ?_
  refine g_mlet X (fun M1 => ?_)
  refine g_aload_n X dX5_takeJetty_5 0 rfl rfl ?_
  refine g_iconst X dX5_takeJetty_6 ic_0 ?_
  refine put_5_1 X (k := a0 + 2) (kf_2 _ ha0) (sf_2 _ ha0) m_2_113 dX5_takeJetty_7 ?_
  refine g_mlet X (fun M2 => ?_)
  refine g_aload_n X dX5_takeJetty_10 0 rfl rfl ?_
  refine g_iload_n X dX5_takeJetty_11 1 rfl rfl ?_
  refine put_5_2 X (k := a0 + 2) (kf_2 _ ha0) (sf_2 _ ha0) m_2_115 dX5_takeJetty_12 ?_
  refine g_mlet X (fun M3 => ?_)
  exact g_vret X hr rfl dX5_takeJetty_15
set_option maxRecDepth 100000 in
set_option maxHeartbeats 4000000 in
theorem tc_isJetty {l : Launch} {D : va_G} {cy : Nat → ClassId} {ad : Nat → Nat} {N : Mem} (M : Mem) (a1 : Int32) {x : Int32} (h : fc_isJetty M a1 = some x) : Mt l D cy ad yX10_isJetty cX10_isJetty 2 (some .boolean) 2 [.ref (ad 0), .int a1] ((wfC N) M) (some (.int x), (wfC N) M) := by
  refine met_of (fin := (finI M)) (lv0 := [(0, .ref (ad 0)), (1, .int a1)]) (by decide) (Nat.le_of_ble_eq_true rfl) rfl (lC N) h (fun p e s m args below meth c X hr => ?_)
  unfold fc_isJetty
  refine g_iload_n X dX10_isJetty_0 1 rfl rfl ?_
  refine g_aload_n X dX10_isJetty_1 0 rfl rfl ?_
  refine get_10_2 X (k := 0) k_0 s_0 m_2_131 dX10_isJetty_2 ?_
  refine get_1_1 X (k := 20) k_20 s_20 m_1_179 dX10_isJetty_5 ?_
  refine g_ct X (v0 := .int (fc_isBelowT M a1 (M.1 20 1))) (st := []) (ok_S X (As := [.int a1, .int (M.1 20 1)]) wkX10_isBelow (tc_isBelowT M a1 (M.1 20 1)) rfl m_2_170 rfl (hRm (by decide) (by decide)) ⟨Nat.zero_le _, Nat.zero_le _⟩ (Nat.le_of_ble_eq_true rfl) dX10_isJetty_8) ?_
  exact g_zret X hr (isB_n (fc_isBelowB M a1 (M.1 20 1))) rfl dX10_isJetty_11
theorem tc_isJettyT {l : Launch} {D : va_G} {cy : Nat → ClassId} {ad : Nat → Nat} {N : Mem} (M : Mem) (a1 : Int32) : Mt l D cy ad yX10_isJetty cX10_isJetty 2 (some .boolean) 2 [.ref (ad 0), .int a1] ((wfC N) M) (some (.int (fc_isJettyT M a1)), (wfC N) M) := tc_isJetty M a1 (fc_isJettyE M a1)
set_option maxRecDepth 100000 in
set_option maxHeartbeats 4000000 in
theorem tc_show {l : Launch} {D : va_G} {cy : Nat → ClassId} {ad : Nat → Nat} {N : Mem} (M : Mem) (a1 : Int32) (a2 : Int32) {x : (Int32 × Mem)} (h : fc_show M a1 a2 = some x) : Mt l D cy ad yX10_show cX10_show 3 (some .int) 3 [.ref (ad 0), .int a1, .int a2] ((wfC N) M) (some (.int x.1), (wfC N) x.2) := by
  refine met_of (fin := finS) (lv0 := [(0, .ref (ad 0)), (1, .int a1), (2, .int a2)]) (by decide) (Nat.le_of_ble_eq_true rfl) rfl (lC N) h (fun p e s m args below meth c X hr => ?_)
  unfold fc_show
  refine g_iload_n X dX10_show_0 1 rfl rfl ?_
  refine g_ct X (v0 := .int (fc_isShelfT M a1)) (st := []) (ok_S X (As := [.int a1]) wkX10_isShelf (tc_isShelfT M a1) rfl m_2_167 rfl (hRm (by decide) (by decide)) ⟨Nat.zero_le _, Nat.zero_le _⟩ (Nat.le_of_ble_eq_true rfl) dX10_show_1) ?_
  refine g_if_eq X 20 (by decide) dX10_show_4 (fun q4 => ?_) (fun q4 => ?_)
  · refine g_aload_n X dX10_show_20 0 rfl rfl ?_
    refine g_bipush X dX10_show_21 bi_m2 ?_
    refine g_cs X (st := []) (fun _ hh => ok_V X (k0 := 0) (As := [.int (-2)]) wkX10_refuse (tc_refuse M (-2) hh) rfl k_0 s_0 (by decide) rfl m_2_176 rfl (hRm (by decide) (by decide)) ⟨Nat.zero_le _, Nat.zero_le _⟩ (Nat.le_of_ble_eq_true rfl) dX10_show_23) (fun r2 M1 _ => ?_)
    exact g_iret X hr rfl dX10_show_26
  · refine g_iload_n X dX10_show_7 2 rfl rfl ?_
    refine g_iconst X dX10_show_8 ic_m1 ?_
    refine g_icmp_eq X 27 (by decide) dX10_show_9 (fun q9 => ?_) (fun q9 => ?_)
    · refine g_aload_n X dX10_show_27 0 rfl rfl ?_
      refine get_10_0 X (k := 0) k_0 s_0 m_2_129 dX10_show_28 ?_
      refine g_iload_n X dX10_show_31 1 rfl rfl ?_
      refine g_aald27 X (k := 1) k_1 s_1 dX10_show_32 (fun h3 => ?_)
      refine g_iload_n X dX10_show_33 2 rfl rfl ?_
      refine g_cv X (st := []) (fun _ hh => ok_V X (k0 := (ix a1) + 2) (As := [.int a2]) wkX5_takeJetty (tShelf_takeJetty M (ix a1) a2 (inb_lt h3) hh) rfl (kf_2 _ (inb_lt h3)) (sf_2 _ (inb_lt h3)) (by decide) rfl m_2_234 rfl (hRm (by decide) (by decide)) ⟨Nat.zero_le _, Nat.zero_le _⟩ (Nat.le_of_ble_eq_true rfl) dX10_show_34) (fun M4 _ => ?_)
      refine g_iconst X dX10_show_37 ic_1 ?_
      exact g_iret X hr rfl dX10_show_38
    · refine g_aload_n X dX10_show_12 0 rfl rfl ?_
      refine g_iload_n X dX10_show_13 2 rfl rfl ?_
      refine g_ct X (v0 := .int (fc_isJettyT M a2)) (st := []) (ok_V X (k0 := 0) (As := [.int a2]) wkX10_isJetty (tc_isJettyT M a2) rfl k_0 s_0 (by decide) rfl m_2_230 rfl (hRm (by decide) (by decide)) ⟨Nat.zero_le _, Nat.zero_le _⟩ (Nat.le_of_ble_eq_true rfl) dX10_show_14) ?_
      refine g_if_ne X 27 (by decide) dX10_show_17 (fun q17 => ?_) (fun q17 => ?_)
      · refine g_aload_n X dX10_show_27 0 rfl rfl ?_
        refine get_10_0 X (k := 0) k_0 s_0 m_2_129 dX10_show_28 ?_
        refine g_iload_n X dX10_show_31 1 rfl rfl ?_
        refine g_aald27 X (k := 1) k_1 s_1 dX10_show_32 (fun h5 => ?_)
        refine g_iload_n X dX10_show_33 2 rfl rfl ?_
        refine g_cv X (st := []) (fun _ hh => ok_V X (k0 := (ix a1) + 2) (As := [.int a2]) wkX5_takeJetty (tShelf_takeJetty M (ix a1) a2 (inb_lt h5) hh) rfl (kf_2 _ (inb_lt h5)) (sf_2 _ (inb_lt h5)) (by decide) rfl m_2_234 rfl (hRm (by decide) (by decide)) ⟨Nat.zero_le _, Nat.zero_le _⟩ (Nat.le_of_ble_eq_true rfl) dX10_show_34) (fun M6 _ => ?_)
        refine g_iconst X dX10_show_37 ic_1 ?_
        exact g_iret X hr rfl dX10_show_38
      · refine g_aload_n X dX10_show_20 0 rfl rfl ?_
        refine g_bipush X dX10_show_21 bi_m2 ?_
        refine g_cs X (st := []) (fun _ hh => ok_V X (k0 := 0) (As := [.int (-2)]) wkX10_refuse (tc_refuse M (-2) hh) rfl k_0 s_0 (by decide) rfl m_2_176 rfl (hRm (by decide) (by decide)) ⟨Nat.zero_le _, Nat.zero_le _⟩ (Nat.le_of_ble_eq_true rfl) dX10_show_23) (fun r8 M7 _ => ?_)
        exact g_iret X hr rfl dX10_show_26
set_option maxRecDepth 100000 in
set_option maxHeartbeats 4000000 in
theorem tc_toNumber {l : Launch} {D : va_G} {cy : Nat → ClassId} {ad : Nat → Nat} {N : Mem} (M : Mem) (a0 : Int32) {x : Int32} (h : fc_toNumber M a0 = some x) : Mt l D cy ad yX10_toNumber cX10_toNumber 1 (some .int) 1 [.int a0] ((wfC N) M) (some (.int x), (wfC N) M) := by
  refine met_of (fin := (finI M)) (lv0 := [(0, .int a0)]) (by decide) (Nat.le_of_ble_eq_true rfl) rfl (lC N) h (fun p e s m args below meth c X hr => ?_)
  unfold fc_toNumber
  refine g_iload_n X dX10_toNumber_0 0 rfl rfl ?_
  refine g_if_eq X 8 (by decide) dX10_toNumber_1 (fun q1 => ?_) (fun q1 => ?_)
  · refine g_iconst X dX10_toNumber_8 ic_0 ?_
    exact g_iret X hr rfl dX10_toNumber_9
  · refine g_iconst X dX10_toNumber_4 ic_1 ?_
    refine g_goto X 9 (by decide) dX10_toNumber_5 ?_
    exact g_iret X hr rfl dX10_toNumber_9
theorem tc_toNumberT {l : Launch} {D : va_G} {cy : Nat → ClassId} {ad : Nat → Nat} {N : Mem} (M : Mem) (a0 : Int32) : Mt l D cy ad yX10_toNumber cX10_toNumber 1 (some .int) 1 [.int a0] ((wfC N) M) (some (.int (fc_toNumberT M a0)), (wfC N) M) := tc_toNumber M a0 (fc_toNumberE M a0)
set_option maxRecDepth 100000 in
set_option maxHeartbeats 4000000 in
theorem tc_lake {l : Launch} {D : va_G} {cy : Nat → ClassId} {ad : Nat → Nat} {N : Mem} (M : Mem) (a1 : Int32) (a2 : Int32) {x : (Int32 × Mem)} (h : fc_lake M a1 a2 = some x) : Mt l D cy ad yX10_lake cX10_lake 4 (some .int) 3 [.ref (ad 0), .int a1, .int a2] ((wfC N) M) (some (.int x.1), (wfC N) x.2) := by
  refine met_of (fin := finS) (lv0 := [(0, .ref (ad 0)), (1, .int a1), (2, .int a2)]) (by decide) (Nat.le_of_ble_eq_true rfl) rfl (lC N) h (fun p e s m args below meth c X hr => ?_)
  unfold fc_lake
  refine g_iload_n X dX10_lake_0 1 rfl rfl ?_
  refine g_jlet X 34 (fun z34 : Unit => [(0, .ref (ad 0)), (1, .int a1), (2, .int a2)]) (fun z34 : Unit => []) (fun z34 : Unit => M) (fun z34 => ?_) (fun J34 hJ34 => ?_)
  · show GF _ _ _ _ _ _ _ _ _ _ _ _ _ _ _ _ _ _ _ _ _ 34 [(0, .ref (ad 0)), (1, .int a1), (2, .int a2)] [] M
    refine g_iload_n X dX10_lake_34 1 rfl rfl ?_
    refine g_iconst X dX10_lake_35 ic_1 ?_
    refine g_jlet X 68 (fun z68 : Unit => [(0, .ref (ad 0)), (1, .int a1), (2, .int a2)]) (fun z68 : Unit => []) (fun z68 : Unit => M) (fun z68 => ?_) (fun J68 hJ68 => ?_)
    · show GF _ _ _ _ _ _ _ _ _ _ _ _ _ _ _ _ _ _ _ _ _ 68 [(0, .ref (ad 0)), (1, .int a1), (2, .int a2)] [] M
      refine g_iload_n X dX10_lake_68 1 rfl rfl ?_
      refine g_iconst X dX10_lake_69 ic_2 ?_
      refine g_icmp_ne X 102 (by decide) dX10_lake_70 (fun q70 => ?_) (fun q70 => ?_)
      · refine g_aload_n X dX10_lake_102 0 rfl rfl ?_
        refine g_bipush X dX10_lake_103 bi_m2 ?_
        refine g_cs X (st := []) (fun _ hh => ok_V X (k0 := 0) (As := [.int (-2)]) wkX10_refuse (tc_refuse M (-2) hh) rfl k_0 s_0 (by decide) rfl m_2_176 rfl (hRm (by decide) (by decide)) ⟨Nat.zero_le _, Nat.zero_le _⟩ (Nat.le_of_ble_eq_true rfl) dX10_lake_105) (fun r2 M1 _ => ?_)
        exact g_iret X hr rfl dX10_lake_108
      · refine g_iload_n X dX10_lake_73 2 rfl rfl ?_
        refine g_sipush X dX10_lake_74 si_256 ?_
        refine g_ct X (v0 := .int (fc_isBelowT M a2 256)) (st := []) (ok_S X (As := [.int a2, .int 256]) wkX10_isBelow (tc_isBelowT M a2 256) rfl m_2_170 rfl (hRm (by decide) (by decide)) ⟨Nat.zero_le _, Nat.zero_le _⟩ (Nat.le_of_ble_eq_true rfl) dX10_lake_77) ?_
        refine g_if_eq X 102 (by decide) dX10_lake_80 (fun q80 => ?_) (fun q80 => ?_)
        · refine g_aload_n X dX10_lake_102 0 rfl rfl ?_
          refine g_bipush X dX10_lake_103 bi_m2 ?_
          refine g_cs X (st := []) (fun _ hh => ok_V X (k0 := 0) (As := [.int (-2)]) wkX10_refuse (tc_refuse M (-2) hh) rfl k_0 s_0 (by decide) rfl m_2_176 rfl (hRm (by decide) (by decide)) ⟨Nat.zero_le _, Nat.zero_le _⟩ (Nat.le_of_ble_eq_true rfl) dX10_lake_105) (fun r4 M3 _ => ?_)
          exact g_iret X hr rfl dX10_lake_108
        · refine g_aload_n X dX10_lake_83 0 rfl rfl ?_
          refine get_10_2 X (k := 0) k_0 s_0 m_2_131 dX10_lake_84 ?_
          refine get_1_14 X (k := 20) k_20 s_20 m_1_207 dX10_lake_87 ?_
          refine g_ilet X (fun v5 => ?_)
          refine g_istore_n X dX10_lake_90 rfl (by decide) rfl [1, 3, 0] (lu := [(0, .ref (ad 0)), (2, .int a2), (3, .int v5)]) rfl ?_
          refine g_aload_n X dX10_lake_91 0 rfl rfl ?_
          refine get_10_2 X (k := 0) k_0 s_0 m_2_131 dX10_lake_92 ?_
          refine g_iload_n X dX10_lake_95 1 rfl rfl ?_
          refine put_1_14 X (k := 20) k_20 s_20 m_1_207 dX10_lake_96 ?_
          refine g_mlet X (fun M6 => ?_)
          refine g_goto X 109 (by decide) dX10_lake_99 ?_
          refine g_iload_n X dX10_lake_109 2 rfl rfl ?_
          refine g_iload_n X dX10_lake_110 1 rfl rfl ?_
          refine g_icmp_eq X 118 (by decide) dX10_lake_111 (fun q111 => ?_) (fun q111 => ?_)
          · refine g_iconst X dX10_lake_118 ic_0 ?_
            refine g_ct X (v0 := .int (fc_toNumberT M6 0)) (st := []) (ok_S X (As := [.int 0]) wkX10_toNumber (tc_toNumberT M6 0) rfl m_3_24 rfl (hRm (by decide) (by decide)) ⟨Nat.zero_le _, Nat.zero_le _⟩ (Nat.le_of_ble_eq_true rfl) dX10_lake_119) ?_
            exact g_iret X hr rfl dX10_lake_122
          · refine g_iconst X dX10_lake_114 ic_1 ?_
            refine g_goto X 119 (by decide) dX10_lake_115 ?_
            refine g_ct X (v0 := .int (fc_toNumberT M6 1)) (st := []) (ok_S X (As := [.int 1]) wkX10_toNumber (tc_toNumberT M6 1) rfl m_3_24 rfl (hRm (by decide) (by decide)) ⟨Nat.zero_le _, Nat.zero_le _⟩ (Nat.le_of_ble_eq_true rfl) dX10_lake_119) ?_
            exact g_iret X hr rfl dX10_lake_122
    refine g_icmp_ne X 68 (by decide) dX10_lake_36 (fun q36 => ?_) (fun q36 => ?_)
    · exact hJ68 ()
    · refine g_iload_n X dX10_lake_39 2 rfl rfl ?_
      refine g_iconst X dX10_lake_40 ic_0 ?_
      refine g_bipush X dX10_lake_41 bi_60 ?_
      refine g_ct X (v0 := .int (fc_isWithinT M a2 0 60)) (st := []) (ok_S X (As := [.int a2, .int 0, .int 60]) wkX10_isWithin (tc_isWithinT M a2 0 60) rfl m_2_173 rfl (hRm (by decide) (by decide)) ⟨Nat.zero_le _, Nat.zero_le _⟩ (Nat.le_of_ble_eq_true rfl) dX10_lake_43) ?_
      refine g_if_eq X 68 (by decide) dX10_lake_46 (fun q46 => ?_) (fun q46 => ?_)
      · exact hJ68 ()
      · refine g_aload_n X dX10_lake_49 0 rfl rfl ?_
        refine get_10_2 X (k := 0) k_0 s_0 m_2_131 dX10_lake_50 ?_
        refine get_1_13 X (k := 20) k_20 s_20 m_1_203 dX10_lake_53 ?_
        refine g_ilet X (fun v7 => ?_)
        refine g_istore_n X dX10_lake_56 rfl (by decide) rfl [1, 3, 0] (lu := [(0, .ref (ad 0)), (2, .int a2), (3, .int v7)]) rfl ?_
        refine g_aload_n X dX10_lake_57 0 rfl rfl ?_
        refine get_10_2 X (k := 0) k_0 s_0 m_2_131 dX10_lake_58 ?_
        refine g_iload_n X dX10_lake_61 1 rfl rfl ?_
        refine put_1_13 X (k := 20) k_20 s_20 m_1_203 dX10_lake_62 ?_
        refine g_mlet X (fun M8 => ?_)
        refine g_goto X 109 (by decide) dX10_lake_65 ?_
        refine g_iload_n X dX10_lake_109 2 rfl rfl ?_
        refine g_iload_n X dX10_lake_110 1 rfl rfl ?_
        refine g_icmp_eq X 118 (by decide) dX10_lake_111 (fun q111 => ?_) (fun q111 => ?_)
        · refine g_iconst X dX10_lake_118 ic_0 ?_
          refine g_ct X (v0 := .int (fc_toNumberT M8 0)) (st := []) (ok_S X (As := [.int 0]) wkX10_toNumber (tc_toNumberT M8 0) rfl m_3_24 rfl (hRm (by decide) (by decide)) ⟨Nat.zero_le _, Nat.zero_le _⟩ (Nat.le_of_ble_eq_true rfl) dX10_lake_119) ?_
          exact g_iret X hr rfl dX10_lake_122
        · refine g_iconst X dX10_lake_114 ic_1 ?_
          refine g_goto X 119 (by decide) dX10_lake_115 ?_
          refine g_ct X (v0 := .int (fc_toNumberT M8 1)) (st := []) (ok_S X (As := [.int 1]) wkX10_toNumber (tc_toNumberT M8 1) rfl m_3_24 rfl (hRm (by decide) (by decide)) ⟨Nat.zero_le _, Nat.zero_le _⟩ (Nat.le_of_ble_eq_true rfl) dX10_lake_119) ?_
          exact g_iret X hr rfl dX10_lake_122
  refine g_if_ne X 34 (by decide) dX10_lake_1 (fun q1 => ?_) (fun q1 => ?_)
  · exact hJ34 ()
  · refine g_iload_n X dX10_lake_4 2 rfl rfl ?_
    refine g_bipush X dX10_lake_5 bi_m50 ?_
    refine g_bipush X dX10_lake_7 bi_50 ?_
    refine g_ct X (v0 := .int (fc_isWithinT M a2 (-50) 50)) (st := []) (ok_S X (As := [.int a2, .int (-50), .int 50]) wkX10_isWithin (tc_isWithinT M a2 (-50) 50) rfl m_2_173 rfl (hRm (by decide) (by decide)) ⟨Nat.zero_le _, Nat.zero_le _⟩ (Nat.le_of_ble_eq_true rfl) dX10_lake_9) ?_
    refine g_if_eq X 34 (by decide) dX10_lake_12 (fun q12 => ?_) (fun q12 => ?_)
    · exact hJ34 ()
    · refine g_aload_n X dX10_lake_15 0 rfl rfl ?_
      refine get_10_2 X (k := 0) k_0 s_0 m_2_131 dX10_lake_16 ?_
      refine get_1_12 X (k := 20) k_20 s_20 m_1_201 dX10_lake_19 ?_
      refine g_ilet X (fun v9 => ?_)
      refine g_istore_n X dX10_lake_22 rfl (by decide) rfl [1, 3, 0] (lu := [(0, .ref (ad 0)), (2, .int a2), (3, .int v9)]) rfl ?_
      refine g_aload_n X dX10_lake_23 0 rfl rfl ?_
      refine get_10_2 X (k := 0) k_0 s_0 m_2_131 dX10_lake_24 ?_
      refine g_iload_n X dX10_lake_27 1 rfl rfl ?_
      refine put_1_12 X (k := 20) k_20 s_20 m_1_201 dX10_lake_28 ?_
      refine g_mlet X (fun M10 => ?_)
      refine g_goto X 109 (by decide) dX10_lake_31 ?_
      refine g_iload_n X dX10_lake_109 2 rfl rfl ?_
      refine g_iload_n X dX10_lake_110 1 rfl rfl ?_
      refine g_icmp_eq X 118 (by decide) dX10_lake_111 (fun q111 => ?_) (fun q111 => ?_)
      · refine g_iconst X dX10_lake_118 ic_0 ?_
        refine g_ct X (v0 := .int (fc_toNumberT M10 0)) (st := []) (ok_S X (As := [.int 0]) wkX10_toNumber (tc_toNumberT M10 0) rfl m_3_24 rfl (hRm (by decide) (by decide)) ⟨Nat.zero_le _, Nat.zero_le _⟩ (Nat.le_of_ble_eq_true rfl) dX10_lake_119) ?_
        exact g_iret X hr rfl dX10_lake_122
      · refine g_iconst X dX10_lake_114 ic_1 ?_
        refine g_goto X 119 (by decide) dX10_lake_115 ?_
        refine g_ct X (v0 := .int (fc_toNumberT M10 1)) (st := []) (ok_S X (As := [.int 1]) wkX10_toNumber (tc_toNumberT M10 1) rfl m_3_24 rfl (hRm (by decide) (by decide)) ⟨Nat.zero_le _, Nat.zero_le _⟩ (Nat.le_of_ble_eq_true rfl) dX10_lake_119) ?_
        exact g_iret X hr rfl dX10_lake_122
set_option maxRecDepth 100000 in
set_option maxHeartbeats 4000000 in
theorem tc_isHour {l : Launch} {D : va_G} {cy : Nat → ClassId} {ad : Nat → Nat} {N : Mem} (M : Mem) (a0 : Int32) {x : Int32} (h : fc_isHour M a0 = some x) : Mt l D cy ad yX10_isHour cX10_isHour 1 (some .boolean) 2 [.int a0] ((wfC N) M) (some (.int x), (wfC N) M) := by
  refine met_of (fin := (finI M)) (lv0 := [(0, .int a0)]) (by decide) (Nat.le_of_ble_eq_true rfl) rfl (lC N) h (fun p e s m args below meth c X hr => ?_)
  unfold fc_isHour
  refine g_iload_n X dX10_isHour_0 0 rfl rfl ?_
  refine g_bipush X dX10_isHour_1 bi_12 ?_
  refine g_ct X (v0 := .int (fc_isBelowT M a0 12)) (st := []) (ok_S X (As := [.int a0, .int 12]) wkX10_isBelow (tc_isBelowT M a0 12) rfl m_2_170 rfl (hRm (by decide) (by decide)) ⟨Nat.zero_le _, Nat.zero_le _⟩ (Nat.le_of_ble_eq_true rfl) dX10_isHour_3) ?_
  exact g_zret X hr (isB_n (fc_isBelowB M a0 12)) rfl dX10_isHour_6
theorem tc_isHourT {l : Launch} {D : va_G} {cy : Nat → ClassId} {ad : Nat → Nat} {N : Mem} (M : Mem) (a0 : Int32) : Mt l D cy ad yX10_isHour cX10_isHour 1 (some .boolean) 2 [.int a0] ((wfC N) M) (some (.int (fc_isHourT M a0)), (wfC N) M) := tc_isHour M a0 (fc_isHourE M a0)
set_option maxRecDepth 100000 in
set_option maxHeartbeats 4000000 in
theorem tc_wind {l : Launch} {D : va_G} {cy : Nat → ClassId} {ad : Nat → Nat} {N : Mem} (M : Mem) (a1 : Int32) (a2 : Int32) {x : (Int32 × Mem)} (h : fc_wind M a1 a2 = some x) : Mt l D cy ad yX10_wind cX10_wind 4 (some .int) 3 [.ref (ad 0), .int a1, .int a2] ((wfC N) M) (some (.int x.1), (wfC N) x.2) := by
  refine met_of (fin := finS) (lv0 := [(0, .ref (ad 0)), (1, .int a1), (2, .int a2)]) (by decide) (Nat.le_of_ble_eq_true rfl) rfl (lC N) h (fun p e s m args below meth c X hr => ?_)
  unfold fc_wind
  refine g_iload_n X dX10_wind_0 1 rfl rfl ?_
  refine g_ct X (v0 := .int (fc_isHourT M a1)) (st := []) (ok_S X (As := [.int a1]) wkX10_isHour (tc_isHourT M a1) rfl m_3_88 rfl (hRm (by decide) (by decide)) ⟨Nat.zero_le _, Nat.zero_le _⟩ (Nat.le_of_ble_eq_true rfl) dX10_wind_1) ?_
  refine g_if_eq X 17 (by decide) dX10_wind_4 (fun q4 => ?_) (fun q4 => ?_)
  · refine g_aload_n X dX10_wind_17 0 rfl rfl ?_
    refine g_bipush X dX10_wind_18 bi_m2 ?_
    refine g_cs X (st := []) (fun _ hh => ok_V X (k0 := 0) (As := [.int (-2)]) wkX10_refuse (tc_refuse M (-2) hh) rfl k_0 s_0 (by decide) rfl m_2_176 rfl (hRm (by decide) (by decide)) ⟨Nat.zero_le _, Nat.zero_le _⟩ (Nat.le_of_ble_eq_true rfl) dX10_wind_20) (fun r2 M1 _ => ?_)
    exact g_iret X hr rfl dX10_wind_23
  · refine g_iload_n X dX10_wind_7 2 rfl rfl ?_
    refine g_iconst X dX10_wind_8 ic_0 ?_
    refine g_bipush X dX10_wind_9 bi_9 ?_
    refine g_ct X (v0 := .int (fc_isWithinT M a2 0 9)) (st := []) (ok_S X (As := [.int a2, .int 0, .int 9]) wkX10_isWithin (tc_isWithinT M a2 0 9) rfl m_2_173 rfl (hRm (by decide) (by decide)) ⟨Nat.zero_le _, Nat.zero_le _⟩ (Nat.le_of_ble_eq_true rfl) dX10_wind_11) ?_
    refine g_if_ne X 24 (by decide) dX10_wind_14 (fun q14 => ?_) (fun q14 => ?_)
    · refine g_aload_n X dX10_wind_24 0 rfl rfl ?_
      refine get_10_2 X (k := 0) k_0 s_0 m_2_131 dX10_wind_25 ?_
      refine get_1_11 X (k := 20) k_20 s_20 m_1_199 dX10_wind_28 ?_
      refine g_iload_n X dX10_wind_31 1 rfl rfl ?_
      refine g_iald X (n := 12) (k := 66) k_66 s_66 dX10_wind_32 (fun h3 => ?_)
      refine g_ilet X (fun v4 => ?_)
      refine g_istore_n X dX10_wind_33 rfl (by decide) rfl [1, 2, 3, 0] (lu := [(0, .ref (ad 0)), (1, .int a1), (2, .int a2), (3, .int v4)]) rfl ?_
      refine g_aload_n X dX10_wind_34 0 rfl rfl ?_
      refine get_10_2 X (k := 0) k_0 s_0 m_2_131 dX10_wind_35 ?_
      refine get_1_11 X (k := 20) k_20 s_20 m_1_199 dX10_wind_38 ?_
      refine g_iload_n X dX10_wind_41 1 rfl rfl ?_
      refine g_iload_n X dX10_wind_42 2 rfl rfl ?_
      refine g_iast X (n := 12) (k := 66) k_66 s_66 dX10_wind_43 (fun h5 => ?_)
      refine g_mlet X (fun M6 => ?_)
      refine g_iload_n X dX10_wind_44 3 rfl rfl ?_
      exact g_iret X hr rfl dX10_wind_45
    · refine g_aload_n X dX10_wind_17 0 rfl rfl ?_
      refine g_bipush X dX10_wind_18 bi_m2 ?_
      refine g_cs X (st := []) (fun _ hh => ok_V X (k0 := 0) (As := [.int (-2)]) wkX10_refuse (tc_refuse M (-2) hh) rfl k_0 s_0 (by decide) rfl m_2_176 rfl (hRm (by decide) (by decide)) ⟨Nat.zero_le _, Nat.zero_le _⟩ (Nat.le_of_ble_eq_true rfl) dX10_wind_20) (fun r8 M7 _ => ?_)
      exact g_iret X hr rfl dX10_wind_23
set_option maxRecDepth 100000 in
set_option maxHeartbeats 4000000 in
theorem tc_isLaw {l : Launch} {D : va_G} {cy : Nat → ClassId} {ad : Nat → Nat} {N : Mem} (M : Mem) (a1 : Int32) {x : Int32} (h : fc_isLaw M a1 = some x) : Mt l D cy ad yX10_isLaw cX10_isLaw 2 (some .boolean) 2 [.ref (ad 0), .int a1] ((wfC N) M) (some (.int x), (wfC N) M) := by
  refine met_of (fin := (finI M)) (lv0 := [(0, .ref (ad 0)), (1, .int a1)]) (by decide) (Nat.le_of_ble_eq_true rfl) rfl (lC N) h (fun p e s m args below meth c X hr => ?_)
  unfold fc_isLaw
  refine g_iload_n X dX10_isLaw_0 1 rfl rfl ?_
  refine g_aload_n X dX10_isLaw_1 0 rfl rfl ?_
  refine get_10_2 X (k := 0) k_0 s_0 m_2_131 dX10_isLaw_2 ?_
  refine get_1_3 X (k := 20) k_20 s_20 m_1_183 dX10_isLaw_5 ?_
  refine g_ct X (v0 := .int (fc_isBelowT M a1 (M.1 20 3))) (st := []) (ok_S X (As := [.int a1, .int (M.1 20 3)]) wkX10_isBelow (tc_isBelowT M a1 (M.1 20 3)) rfl m_2_170 rfl (hRm (by decide) (by decide)) ⟨Nat.zero_le _, Nat.zero_le _⟩ (Nat.le_of_ble_eq_true rfl) dX10_isLaw_8) ?_
  exact g_zret X hr (isB_n (fc_isBelowB M a1 (M.1 20 3))) rfl dX10_isLaw_11
theorem tc_isLawT {l : Launch} {D : va_G} {cy : Nat → ClassId} {ad : Nat → Nat} {N : Mem} (M : Mem) (a1 : Int32) : Mt l D cy ad yX10_isLaw cX10_isLaw 2 (some .boolean) 2 [.ref (ad 0), .int a1] ((wfC N) M) (some (.int (fc_isLawT M a1)), (wfC N) M) := tc_isLaw M a1 (fc_isLawE M a1)
set_option maxRecDepth 100000 in
set_option maxHeartbeats 4000000 in
theorem tc_force {l : Launch} {D : va_G} {cy : Nat → ClassId} {ad : Nat → Nat} {N : Mem} (M : Mem) (a1 : Int32) {x : (Int32 × Mem)} (h : fc_force M a1 = some x) : Mt l D cy ad yX10_force cX10_force 3 (some .int) 3 [.ref (ad 0), .int a1] ((wfC N) M) (some (.int x.1), (wfC N) x.2) := by
  refine met_of (fin := finS) (lv0 := [(0, .ref (ad 0)), (1, .int a1)]) (by decide) (Nat.le_of_ble_eq_true rfl) rfl (lC N) h (fun p e s m args below meth c X hr => ?_)
  unfold fc_force
  refine g_iload_n X dX10_force_0 1 rfl rfl ?_
  refine g_iconst X dX10_force_1 ic_m1 ?_
  refine g_icmp_eq X 20 (by decide) dX10_force_2 (fun q2 => ?_) (fun q2 => ?_)
  · refine g_aload_n X dX10_force_20 0 rfl rfl ?_
    refine get_10_2 X (k := 0) k_0 s_0 m_2_131 dX10_force_21 ?_
    refine get_1_4 X (k := 20) k_20 s_20 m_1_185 dX10_force_24 ?_
    refine g_ilet X (fun v1 => ?_)
    refine g_istore_n X dX10_force_27 rfl (by decide) rfl [1, 2, 0] (lu := [(0, .ref (ad 0)), (1, .int a1), (2, .int v1)]) rfl ?_
    refine g_aload_n X dX10_force_28 0 rfl rfl ?_
    refine get_10_2 X (k := 0) k_0 s_0 m_2_131 dX10_force_29 ?_
    refine g_iload_n X dX10_force_32 1 rfl rfl ?_
    refine put_1_4 X (k := 20) k_20 s_20 m_1_185 dX10_force_33 ?_
    refine g_mlet X (fun M2 => ?_)
    refine g_iload_n X dX10_force_36 2 rfl rfl ?_
    exact g_iret X hr rfl dX10_force_37
  · refine g_aload_n X dX10_force_5 0 rfl rfl ?_
    refine g_iload_n X dX10_force_6 1 rfl rfl ?_
    refine g_ct X (v0 := .int (fc_isLawT M a1)) (st := []) (ok_V X (k0 := 0) (As := [.int a1]) wkX10_isLaw (tc_isLawT M a1) rfl k_0 s_0 (by decide) rfl m_3_209 rfl (hRm (by decide) (by decide)) ⟨Nat.zero_le _, Nat.zero_le _⟩ (Nat.le_of_ble_eq_true rfl) dX10_force_7) ?_
    refine g_if_ne X 20 (by decide) dX10_force_10 (fun q10 => ?_) (fun q10 => ?_)
    · refine g_aload_n X dX10_force_20 0 rfl rfl ?_
      refine get_10_2 X (k := 0) k_0 s_0 m_2_131 dX10_force_21 ?_
      refine get_1_4 X (k := 20) k_20 s_20 m_1_185 dX10_force_24 ?_
      refine g_ilet X (fun v3 => ?_)
      refine g_istore_n X dX10_force_27 rfl (by decide) rfl [1, 2, 0] (lu := [(0, .ref (ad 0)), (1, .int a1), (2, .int v3)]) rfl ?_
      refine g_aload_n X dX10_force_28 0 rfl rfl ?_
      refine get_10_2 X (k := 0) k_0 s_0 m_2_131 dX10_force_29 ?_
      refine g_iload_n X dX10_force_32 1 rfl rfl ?_
      refine put_1_4 X (k := 20) k_20 s_20 m_1_185 dX10_force_33 ?_
      refine g_mlet X (fun M4 => ?_)
      refine g_iload_n X dX10_force_36 2 rfl rfl ?_
      exact g_iret X hr rfl dX10_force_37
    · refine g_aload_n X dX10_force_13 0 rfl rfl ?_
      refine g_bipush X dX10_force_14 bi_m2 ?_
      refine g_cs X (st := []) (fun _ hh => ok_V X (k0 := 0) (As := [.int (-2)]) wkX10_refuse (tc_refuse M (-2) hh) rfl k_0 s_0 (by decide) rfl m_2_176 rfl (hRm (by decide) (by decide)) ⟨Nat.zero_le _, Nat.zero_le _⟩ (Nat.le_of_ble_eq_true rfl) dX10_force_16) (fun r6 M5 _ => ?_)
      exact g_iret X hr rfl dX10_force_19
set_option maxRecDepth 100000 in
set_option maxHeartbeats 4000000 in
theorem tc_isLeaper {l : Launch} {D : va_G} {cy : Nat → ClassId} {ad : Nat → Nat} {N : Mem} (M : Mem) (a1 : Int32) {x : Int32} (h : fc_isLeaper M a1 = some x) : Mt l D cy ad yX10_isLeaper cX10_isLeaper 2 (some .boolean) 2 [.ref (ad 0), .int a1] ((wfC N) M) (some (.int x), (wfC N) M) := by
  refine met_of (fin := (finI M)) (lv0 := [(0, .ref (ad 0)), (1, .int a1)]) (by decide) (Nat.le_of_ble_eq_true rfl) rfl (lC N) h (fun p e s m args below meth c X hr => ?_)
  unfold fc_isLeaper
  refine g_iload_n X dX10_isLeaper_0 1 rfl rfl ?_
  refine g_aload_n X dX10_isLeaper_1 0 rfl rfl ?_
  refine get_10_2 X (k := 0) k_0 s_0 m_2_131 dX10_isLeaper_2 ?_
  refine get_1_7 X (k := 20) k_20 s_20 m_1_191 dX10_isLeaper_5 ?_
  refine g_ct X (v0 := .int (fc_isBelowT M a1 (M.1 20 7))) (st := []) (ok_S X (As := [.int a1, .int (M.1 20 7)]) wkX10_isBelow (tc_isBelowT M a1 (M.1 20 7)) rfl m_2_170 rfl (hRm (by decide) (by decide)) ⟨Nat.zero_le _, Nat.zero_le _⟩ (Nat.le_of_ble_eq_true rfl) dX10_isLeaper_8) ?_
  exact g_zret X hr (isB_n (fc_isBelowB M a1 (M.1 20 7))) rfl dX10_isLeaper_11
theorem tc_isLeaperT {l : Launch} {D : va_G} {cy : Nat → ClassId} {ad : Nat → Nat} {N : Mem} (M : Mem) (a1 : Int32) : Mt l D cy ad yX10_isLeaper cX10_isLeaper 2 (some .boolean) 2 [.ref (ad 0), .int a1] ((wfC N) M) (some (.int (fc_isLeaperT M a1)), (wfC N) M) := tc_isLeaper M a1 (fc_isLeaperE M a1)
set_option maxRecDepth 100000 in
set_option maxHeartbeats 4000000 in
theorem tJetty_riseAt {l : Launch} {D : va_G} {cy : Nat → ClassId} {ad : Nat → Nat} {N : Mem} (M : Mem) (a0 : Nat) (a1 : Int32) (ha0 : a0 < 20) {x : Int32} (h : fJetty_riseAt M a0 a1 = some x) : Mt l D cy ad yX0_riseAt cX0_riseAt 2 (some .int) 2 [.ref (ad (a0 + 22)), .int a1] ((wfC N) M) (some (.int x), (wfC N) M) := by
  refine met_of (fin := (finI M)) (lv0 := [(0, .ref (ad (a0 + 22))), (1, .int a1)]) (by decide) (Nat.le_of_ble_eq_true rfl) rfl (lC N) h (fun p e s m args below meth c X hr => ?_)
  unfold fJetty_riseAt
  refine g_aload_n X dX0_riseAt_0 0 rfl rfl ?_
  refine get_0_0 X (k := a0 + 22) (kf_22 _ ha0) (sf_22 _ ha0) m_1_130 dX0_riseAt_1 ?_
  refine g_ifc X (fun q4_0 => ?_) (fun q4_0 => ?_)
  · refine g_swI X (v0 := 1) (tgt := 36) (off := 32) q4_0 (by decide) (by decide) (by decide) dX0_riseAt_4 ?_
    refine g_aload_n X dX0_riseAt_36 0 rfl rfl ?_
    refine get_0_3 X (k := a0 + 22) (kf_22 _ ha0) (sf_22 _ ha0) m_1_139 dX0_riseAt_37 ?_
    refine g_iload_n X dX0_riseAt_40 1 rfl rfl ?_
    refine g_isub X dX0_riseAt_41 ?_
    refine g_bipush X dX0_riseAt_42 bi_10 ?_
    refine g_isub X dX0_riseAt_44 ?_
    exact g_iret X hr rfl dX0_riseAt_45
  ·
    refine g_ifc X (fun q4_1 => ?_) (fun q4_1 => ?_)
    · refine g_swI X (v0 := 2) (tgt := 46) (off := 42) q4_1 (by decide) (by decide) (by decide) dX0_riseAt_4 ?_
      refine g_iconst X dX0_riseAt_46 ic_0 ?_
      refine g_aload_n X dX0_riseAt_47 0 rfl rfl ?_
      refine get_0_3 X (k := a0 + 22) (kf_22 _ ha0) (sf_22 _ ha0) m_1_139 dX0_riseAt_48 ?_
      refine g_iload_n X dX0_riseAt_51 1 rfl rfl ?_
      refine g_isub X dX0_riseAt_52 ?_
      refine g_bipush X dX0_riseAt_53 bi_10 ?_
      refine g_isub X dX0_riseAt_55 ?_
      refine g_max X m_3_21 (hR1 (by decide) (by decide)) ⟨Nat.zero_le _, Nat.zero_le _⟩ dX0_riseAt_56 ?_
      exact g_iret X hr rfl dX0_riseAt_59
    ·
      refine g_ifc X (fun q4_2 => ?_) (fun q4_2 => ?_)
      · refine g_swI X (v0 := 3) (tgt := 60) (off := 56) q4_2 (by decide) (by decide) (by decide) dX0_riseAt_4 ?_
        refine g_aload_n X dX0_riseAt_60 0 rfl rfl ?_
        refine get_0_3 X (k := a0 + 22) (kf_22 _ ha0) (sf_22 _ ha0) m_1_139 dX0_riseAt_61 ?_
        exact g_iret X hr rfl dX0_riseAt_64
      ·
        refine g_ifc X (fun q4_3 => ?_) (fun q4_3 => ?_)
        · refine g_swI X (v0 := 4) (tgt := 65) (off := 61) q4_3 (by decide) (by decide) (by decide) dX0_riseAt_4 ?_
          refine g_aload_n X dX0_riseAt_65 0 rfl rfl ?_
          refine get_0_3 X (k := a0 + 22) (kf_22 _ ha0) (sf_22 _ ha0) m_1_139 dX0_riseAt_66 ?_
          refine g_iconst X dX0_riseAt_69 ic_2 ?_
          refine g_idivC X dX0_riseAt_70 (by decide) ?_
          exact g_iret X hr rfl dX0_riseAt_71
        ·
          refine g_swO X (tgt := 72) dX0_riseAt_4 (fun n h1 h2 hx => by
              rcases (show n = 1 ∨ n = 2 ∨ n = 3 ∨ n = 4 by omega) with rfl | rfl | rfl | rfl
              · exact absurd hx q4_0
              · exact absurd hx q4_1
              · exact absurd hx q4_2
              · exact absurd hx q4_3) (by decide) ?_
          refine g_aload_n X dX0_riseAt_72 0 rfl rfl ?_
          refine get_0_3 X (k := a0 + 22) (kf_22 _ ha0) (sf_22 _ ha0) m_1_139 dX0_riseAt_73 ?_
          refine g_iload_n X dX0_riseAt_76 1 rfl rfl ?_
          refine g_isub X dX0_riseAt_77 ?_
          exact g_iret X hr rfl dX0_riseAt_78
theorem tJetty_riseAtT {l : Launch} {D : va_G} {cy : Nat → ClassId} {ad : Nat → Nat} {N : Mem} (M : Mem) (a0 : Nat) (a1 : Int32) (ha0 : a0 < 20) : Mt l D cy ad yX0_riseAt cX0_riseAt 2 (some .int) 2 [.ref (ad (a0 + 22)), .int a1] ((wfC N) M) (some (.int (fJetty_riseAtT M a0 a1)), (wfC N) M) := tJetty_riseAt M a0 a1 ha0 (fJetty_riseAtE M a0 a1)
set_option maxRecDepth 100000 in
set_option maxHeartbeats 4000000 in
theorem tLake_deck {l : Launch} {D : va_G} {cy : Nat → ClassId} {ad : Nat → Nat} {N : Mem} (M : Mem) {x : Int32} (h : fLake_deck M = some x) : Mt l D cy ad yX1_deck cX1_deck 1 (some .int) 1 [.ref (ad 20)] ((wfC N) M) (some (.int x), (wfC N) M) := by
  refine met_of (fin := (finI M)) (lv0 := [(0, .ref (ad 20))]) (by decide) (Nat.le_of_ble_eq_true rfl) rfl (lC N) h (fun p e s m args below meth c X hr => ?_)
  unfold fLake_deck
  refine g_bipush X dX1_deck_0 bi_20 ?_
  refine g_aload_n X dX1_deck_2 0 rfl rfl ?_
  refine get_1_13 X (k := 20) k_20 s_20 m_1_202 dX1_deck_3 ?_
  refine g_iconst X dX1_deck_6 ic_4 ?_
  refine g_idivC X dX1_deck_7 (by decide) ?_
  refine g_isub X dX1_deck_8 ?_
  exact g_iret X hr rfl dX1_deck_9
theorem tLake_deckT {l : Launch} {D : va_G} {cy : Nat → ClassId} {ad : Nat → Nat} {N : Mem} (M : Mem) : Mt l D cy ad yX1_deck cX1_deck 1 (some .int) 1 [.ref (ad 20)] ((wfC N) M) (some (.int (fLake_deckT M)), (wfC N) M) := tLake_deck M (fLake_deckE M)
set_option maxRecDepth 100000 in
set_option maxHeartbeats 4000000 in
theorem tLake_isOut {l : Launch} {D : va_G} {cy : Nat → ClassId} {ad : Nat → Nat} {N : Mem} (M : Mem) (a1 : Nat) (a2 : Int32) (ha1 : a1 < 20) {x : Int32} (h : fLake_isOut M a1 a2 = some x) : Mt l D cy ad yX1_isOut cX1_isOut 3 (some .boolean) 3 [.ref (ad 20), .ref (ad (a1 + 22)), .int a2] ((wfC N) M) (some (.int x), (wfC N) M) := by
  refine met_of (fin := (finI M)) (lv0 := [(0, .ref (ad 20)), (1, .ref (ad (a1 + 22))), (2, .int a2)]) (by decide) (Nat.le_of_ble_eq_true rfl) rfl (lC N) h (fun p e s m args below meth c X hr => ?_)
  unfold fLake_isOut
  refine g_aload_n X dX1_isOut_0 1 rfl rfl ?_
  refine g_iload_n X dX1_isOut_1 2 rfl rfl ?_
  refine g_ct X (v0 := .int (fJetty_riseAtT M a1 a2)) (st := []) (ok_V X (k0 := a1 + 22) (As := [.int a2]) wkX0_riseAt (tJetty_riseAtT M a1 a2 ha1) rfl (kf_22 _ ha1) (sf_22 _ ha1) (by decide) rfl m_3_43 rfl (hRm (by decide) (by decide)) ⟨Nat.zero_le _, Nat.zero_le _⟩ (Nat.le_of_ble_eq_true rfl) dX1_isOut_2) ?_
  refine g_aload_n X dX1_isOut_5 0 rfl rfl ?_
  refine g_ct X (v0 := .int (fLake_deckT M)) (st := [.int (fJetty_riseAtT M a1 a2)]) (ok_V X (k0 := 20) (As := []) wkX1_deck (tLake_deckT M) rfl k_20 s_20 (by decide) rfl m_3_44 rfl (hRm (by decide) (by decide)) ⟨Nat.zero_le _, Nat.zero_le _⟩ (Nat.le_of_ble_eq_true rfl) dX1_isOut_6) ?_
  refine g_isub X dX1_isOut_9 ?_
  refine g_abs X m_3_48 (hR1 (by decide) (by decide)) ⟨Nat.zero_le _, Nat.zero_le _⟩ dX1_isOut_10 ?_
  refine g_bipush X dX1_isOut_13 bi_60 ?_
  refine g_icmp_le X 22 (by decide) dX1_isOut_15 (fun q15 => ?_) (fun q15 => ?_)
  · refine g_iconst X dX1_isOut_22 ic_0 ?_
    exact g_zret X hr (isB_n (by decide)) rfl dX1_isOut_23
  · refine g_iconst X dX1_isOut_18 ic_1 ?_
    refine g_goto X 23 (by decide) dX1_isOut_19 ?_
    exact g_zret X hr (isB_n (by decide)) rfl dX1_isOut_23
theorem tLake_isOutT {l : Launch} {D : va_G} {cy : Nat → ClassId} {ad : Nat → Nat} {N : Mem} (M : Mem) (a1 : Nat) (a2 : Int32) (ha1 : a1 < 20) : Mt l D cy ad yX1_isOut cX1_isOut 3 (some .boolean) 3 [.ref (ad 20), .ref (ad (a1 + 22)), .int a2] ((wfC N) M) (some (.int (fLake_isOutT M a1 a2)), (wfC N) M) := tLake_isOut M a1 a2 ha1 (fLake_isOutE M a1 a2)
set_option maxRecDepth 100000 in
set_option maxHeartbeats 4000000 in
theorem tLake_lawValue {l : Launch} {D : va_G} {cy : Nat → ClassId} {ad : Nat → Nat} {N : Mem} (M : Mem) (a1 : Int32) {x : Int32} (h : fLake_lawValue M a1 = some x) : Mt l D cy ad yX1_lawValue cX1_lawValue 3 (some .int) 2 [.ref (ad 20), .int a1] ((wfC N) M) (some (.int x), (wfC N) M) := by
  refine met_of (fin := (finI M)) (lv0 := [(0, .ref (ad 20)), (1, .int a1)]) (by decide) (Nat.le_of_ble_eq_true rfl) rfl (lC N) h (fun p e s m args below meth c X hr => ?_)
  unfold fLake_lawValue
  refine g_aload_n X dX1_lawValue_0 0 rfl rfl ?_
  refine get_1_4 X (k := 20) k_20 s_20 m_1_184 dX1_lawValue_1 ?_
  refine g_aload_n X dX1_lawValue_4 0 rfl rfl ?_
  refine get_1_3 X (k := 20) k_20 s_20 m_1_182 dX1_lawValue_5 ?_
  refine g_ct X (v0 := .int (fc_isBelowT M (M.1 20 4) (M.1 20 3))) (st := []) (ok_N X (As := [.int (M.1 20 4), .int (M.1 20 3)]) wkX10_isBelow (tc_isBelowT M (M.1 20 4) (M.1 20 3)) rfl m_3_59 rfl (hRm (by decide) (by decide)) ⟨Nat.zero_le _, Nat.zero_le _⟩ (Nat.le_of_ble_eq_true rfl) dX1_lawValue_8) ?_
  refine g_if_eq X 26 (by decide) dX1_lawValue_11 (fun q11 => ?_) (fun q11 => ?_)
  · refine g_aload_n X dX1_lawValue_26 0 rfl rfl ?_
    refine get_1_5 X (k := 20) k_20 s_20 m_1_186 dX1_lawValue_27 ?_
    refine g_astore_n X dX1_lawValue_30 rfl (by decide) rfl [2, 0] (lu := [(1, .int a1), (2, .ref (ad 49))]) rfl ?_
    refine g_aload_n X dX1_lawValue_31 1 rfl rfl ?_
    refine get_2_0 X (k := 49) k_49 s_49 m_1_74 dX1_lawValue_32 ?_
    refine g_iload_n X dX1_lawValue_35 0 rfl rfl ?_
    refine g_iald X (n := 9) (k := 56) k_56 s_56 dX1_lawValue_36 (fun h1 => ?_)
    exact g_iret X hr rfl dX1_lawValue_37
  · refine g_aload_n X dX1_lawValue_14 0 rfl rfl ?_
    refine get_1_2 X (k := 20) k_20 s_20 m_1_180 dX1_lawValue_15 ?_
    refine g_aload_n X dX1_lawValue_18 0 rfl rfl ?_
    refine get_1_4 X (k := 20) k_20 s_20 m_1_184 dX1_lawValue_19 ?_
    refine g_aald25 X (k := 42) k_42 s_42 dX1_lawValue_22 (fun h2 => ?_)
    refine g_goto X 30 (by decide) dX1_lawValue_23 ?_
    refine g_astore_n X dX1_lawValue_30 rfl (by decide) rfl [2, 0] (lu := [(1, .int a1), (2, .ref (ad ((ix (M.1 20 4)) + 43)))]) rfl ?_
    refine g_aload_n X dX1_lawValue_31 1 rfl rfl ?_
    refine get_2_0 X (k := (ix (M.1 20 4)) + 43) (kf_43 _ (inb_lt h2)) (sf_43 _ (inb_lt h2)) m_1_74 dX1_lawValue_32 ?_
    refine g_iload_n X dX1_lawValue_35 0 rfl rfl ?_
    refine g_iald X (n := 9) (k := (ix (M.1 20 4)) + 50) (kf_50 _ (inb_lt h2)) (sf_50 _ (inb_lt h2)) dX1_lawValue_36 (fun h3 => ?_)
    exact g_iret X hr rfl dX1_lawValue_37
set_option maxRecDepth 100000 in
set_option maxHeartbeats 4000000 in
theorem tLake_speed {l : Launch} {D : va_G} {cy : Nat → ClassId} {ad : Nat → Nat} {N : Mem} (M : Mem) {x : Int32} (h : fLake_speed M = some x) : Mt l D cy ad yX1_speed cX1_speed 1 (some .int) 3 [.ref (ad 20)] ((wfC N) M) (some (.int x), (wfC N) M) := by
  refine met_of (fin := (finI M)) (lv0 := [(0, .ref (ad 20))]) (by decide) (Nat.le_of_ble_eq_true rfl) rfl (lC N) h (fun p e s m args below meth c X hr => ?_)
  unfold fLake_speed
  refine g_aload_n X dX1_speed_0 0 rfl rfl ?_
  refine g_iconst X dX1_speed_1 ic_1 ?_
  refine g_ci X (st := []) (fun _ hh => ok_V X (k0 := 20) (As := [.int 1]) wkX1_lawValue (tLake_lawValue M 1 hh) rfl k_20 s_20 (by decide) rfl m_3_55 rfl (hRm (by decide) (by decide)) ⟨Nat.zero_le _, Nat.zero_le _⟩ (Nat.le_of_ble_eq_true rfl) dX1_speed_2) (fun r1 _ => ?_)
  exact g_iret X hr rfl dX1_speed_5
set_option maxRecDepth 100000 in
set_option maxHeartbeats 4000000 in
theorem tJetty_paces {l : Launch} {D : va_G} {cy : Nat → ClassId} {ad : Nat → Nat} {N : Mem} (M : Mem) (a0 : Nat) (ha0 : a0 < 20) {x : Int32} (h : fJetty_paces M a0 = some x) : Mt l D cy ad yX0_paces cX0_paces 1 (some .int) 1 [.ref (ad (a0 + 22))] ((wfC N) M) (some (.int x), (wfC N) M) := by
  refine met_of (fin := (finI M)) (lv0 := [(0, .ref (ad (a0 + 22)))]) (by decide) (Nat.le_of_ble_eq_true rfl) rfl (lC N) h (fun p e s m args below meth c X hr => ?_)
  unfold fJetty_paces
  refine g_aload_n X dX0_paces_0 0 rfl rfl ?_
  refine get_0_0 X (k := a0 + 22) (kf_22 _ ha0) (sf_22 _ ha0) m_1_130 dX0_paces_1 ?_
  refine g_ifc X (fun q4_0 => ?_) (fun q4_0 => ?_)
  · refine g_swI X (v0 := 1) (tgt := 40) (off := 36) q4_0 (by decide) (by decide) (by decide) dX0_paces_4 ?_
    refine g_iconst X dX0_paces_40 ic_2 ?_
    refine g_aload_n X dX0_paces_41 0 rfl rfl ?_
    refine get_0_2 X (k := a0 + 22) (kf_22 _ ha0) (sf_22 _ ha0) m_1_137 dX0_paces_42 ?_
    refine g_imul X dX0_paces_45 ?_
    exact g_iret X hr rfl dX0_paces_46
  ·
    refine g_ifc X (fun q4_1 => ?_) (fun q4_1 => ?_)
    · refine g_swI X (v0 := 2) (tgt := 47) (off := 43) q4_1 (by decide) (by decide) (by decide) dX0_paces_4 ?_
      refine g_iconst X dX0_paces_47 ic_2 ?_
      refine g_aload_n X dX0_paces_48 0 rfl rfl ?_
      refine get_0_2 X (k := a0 + 22) (kf_22 _ ha0) (sf_22 _ ha0) m_1_137 dX0_paces_49 ?_
      refine g_imul X dX0_paces_52 ?_
      refine g_iconst X dX0_paces_53 ic_4 ?_
      refine g_iadd X dX0_paces_54 ?_
      exact g_iret X hr rfl dX0_paces_55
    ·
      refine g_ifc X (fun q4_3 => ?_) (fun q4_3 => ?_)
      · refine g_swI X (v0 := 4) (tgt := 56) (off := 52) q4_3 (by decide) (by decide) (by decide) dX0_paces_4 ?_
        refine g_aload_n X dX0_paces_56 0 rfl rfl ?_
        refine get_0_2 X (k := a0 + 22) (kf_22 _ ha0) (sf_22 _ ha0) m_1_137 dX0_paces_57 ?_
        refine g_iconst X dX0_paces_60 ic_2 ?_
        refine g_iadd X dX0_paces_61 ?_
        exact g_iret X hr rfl dX0_paces_62
      ·
        refine g_ifc X (fun q4_4 => ?_) (fun q4_4 => ?_)
        · refine g_swI X (v0 := 5) (tgt := 63) (off := 59) q4_4 (by decide) (by decide) (by decide) dX0_paces_4 ?_
          refine g_iconst X dX0_paces_63 ic_1 ?_
          exact g_iret X hr rfl dX0_paces_64
        ·
          refine g_swO X (tgt := 65) dX0_paces_4 (fun n h1 h2 hx => by
              rcases (show n = 1 ∨ n = 2 ∨ n = 3 ∨ n = 4 ∨ n = 5 by omega) with rfl | rfl | rfl | rfl | rfl
              · exact absurd hx q4_0
              · exact absurd hx q4_1
              · exact ⟨_, rfl, by decide⟩
              · exact absurd hx q4_3
              · exact absurd hx q4_4) (by decide) ?_
          refine g_aload_n X dX0_paces_65 0 rfl rfl ?_
          refine get_0_2 X (k := a0 + 22) (kf_22 _ ha0) (sf_22 _ ha0) m_1_137 dX0_paces_66 ?_
          exact g_iret X hr rfl dX0_paces_69
theorem tJetty_pacesT {l : Launch} {D : va_G} {cy : Nat → ClassId} {ad : Nat → Nat} {N : Mem} (M : Mem) (a0 : Nat) (ha0 : a0 < 20) : Mt l D cy ad yX0_paces cX0_paces 1 (some .int) 1 [.ref (ad (a0 + 22))] ((wfC N) M) (some (.int (fJetty_pacesT M a0)), (wfC N) M) := tJetty_paces M a0 ha0 (fJetty_pacesE M a0)
set_option maxRecDepth 100000 in
set_option maxHeartbeats 4000000 in
theorem tc_cutBy {l : Launch} {D : va_G} {cy : Nat → ClassId} {ad : Nat → Nat} {N : Mem} (M : Mem) (a0 : Int32) (a1 : Int32) {x : Int32} (h : fc_cutBy M a0 a1 = some x) : Mt l D cy ad yX10_cutBy cX10_cutBy 2 (some .int) 1 [.int a0, .int a1] ((wfC N) M) (some (.int x), (wfC N) M) := by
  refine met_of (fin := (finI M)) (lv0 := [(0, .int a0), (1, .int a1)]) (by decide) (Nat.le_of_ble_eq_true rfl) rfl (lC N) h (fun p e s m args below meth c X hr => ?_)
  unfold fc_cutBy
  refine g_iload_n X dX10_cutBy_0 1 rfl rfl ?_
  refine g_iconst X dX10_cutBy_1 ic_1 ?_
  refine g_icmp_ge X 9 (by decide) dX10_cutBy_2 (fun q2 => ?_) (fun q2 => ?_)
  · refine g_iload_n X dX10_cutBy_9 0 rfl rfl ?_
    refine g_iload_n X dX10_cutBy_10 1 rfl rfl ?_
    refine g_idiv X dX10_cutBy_11 (fun _ => ?_)
    exact g_iret X hr rfl dX10_cutBy_12
  · refine g_iconst X dX10_cutBy_5 ic_0 ?_
    refine g_goto X 12 (by decide) dX10_cutBy_6 ?_
    exact g_iret X hr rfl dX10_cutBy_12
set_option maxRecDepth 100000 in
set_option maxHeartbeats 4000000 in
theorem tc_roundedUpBy {l : Launch} {D : va_G} {cy : Nat → ClassId} {ad : Nat → Nat} {N : Mem} (M : Mem) (a0 : Int32) (a1 : Int32) {x : Int32} (h : fc_roundedUpBy M a0 a1 = some x) : Mt l D cy ad yX10_roundedUpBy cX10_roundedUpBy 2 (some .int) 2 [.int a0, .int a1] ((wfC N) M) (some (.int x), (wfC N) M) := by
  refine met_of (fin := (finI M)) (lv0 := [(0, .int a0), (1, .int a1)]) (by decide) (Nat.le_of_ble_eq_true rfl) rfl (lC N) h (fun p e s m args below meth c X hr => ?_)
  unfold fc_roundedUpBy
  refine g_iload_n X dX10_roundedUpBy_0 0 rfl rfl ?_
  refine g_iload_n X dX10_roundedUpBy_1 1 rfl rfl ?_
  refine g_iadd X dX10_roundedUpBy_2 ?_
  refine g_iconst X dX10_roundedUpBy_3 ic_1 ?_
  refine g_isub X dX10_roundedUpBy_4 ?_
  refine g_iload_n X dX10_roundedUpBy_5 1 rfl rfl ?_
  refine g_ci X (st := []) (fun _ hh => ok_S X (As := [.int ((a0 + a1) - 1), .int a1]) wkX10_cutBy (tc_cutBy M ((a0 + a1) - 1) a1 hh) rfl m_3_68 rfl (hRm (by decide) (by decide)) ⟨Nat.zero_le _, Nat.zero_le _⟩ (Nat.le_of_ble_eq_true rfl) dX10_roundedUpBy_6) (fun r1 _ => ?_)
  exact g_iret X hr rfl dX10_roundedUpBy_9
set_option maxRecDepth 100000 in
set_option maxHeartbeats 4000000 in
theorem tLake_hasTime {l : Launch} {D : va_G} {cy : Nat → ClassId} {ad : Nat → Nat} {N : Mem} (M : Mem) (a1 : Nat) (a2 : Int32) (ha1 : a1 < 20) {x : Int32} (h : fLake_hasTime M a1 a2 = some x) : Mt l D cy ad yX1_hasTime cX1_hasTime 4 (some .boolean) 3 [.ref (ad 20), .ref (ad (a1 + 22)), .int a2] ((wfC N) M) (some (.int x), (wfC N) M) := by
  refine met_of (fin := (finI M)) (lv0 := [(0, .ref (ad 20)), (1, .ref (ad (a1 + 22))), (2, .int a2)]) (by decide) (Nat.le_of_ble_eq_true rfl) rfl (lC N) h (fun p e s m args below meth c X hr => ?_)
  unfold fLake_hasTime
  refine g_iconst X dX1_hasTime_0 ic_2 ?_
  refine g_aload_n X dX1_hasTime_1 1 rfl rfl ?_
  refine g_ct X (v0 := .int (fJetty_pacesT M a1)) (st := [.int 2]) (ok_V X (k0 := a1 + 22) (As := []) wkX0_paces (tJetty_pacesT M a1 ha1) rfl (kf_22 _ ha1) (sf_22 _ ha1) (by decide) rfl m_3_64 rfl (hRm (by decide) (by decide)) ⟨Nat.zero_le _, Nat.zero_le _⟩ (Nat.le_of_ble_eq_true rfl) dX1_hasTime_2) ?_
  refine g_imul X dX1_hasTime_5 ?_
  refine g_aload_n X dX1_hasTime_6 0 rfl rfl ?_
  refine g_iconst X dX1_hasTime_7 ic_2 ?_
  refine g_ci X (st := [.int ((2 : Int32) * (fJetty_pacesT M a1))]) (fun _ hh => ok_V X (k0 := 20) (As := [.int 2]) wkX1_lawValue (tLake_lawValue M 2 hh) rfl k_20 s_20 (by decide) rfl m_3_55 rfl (hRm (by decide) (by decide)) ⟨Nat.zero_le _, Nat.zero_le _⟩ (Nat.le_of_ble_eq_true rfl) dX1_hasTime_8) (fun r1 _ => ?_)
  refine g_ci X (st := []) (fun _ hh => ok_N X (As := [.int ((2 : Int32) * (fJetty_pacesT M a1)), .int r1]) wkX10_roundedUpBy (tc_roundedUpBy M ((2 : Int32) * (fJetty_pacesT M a1)) r1 hh) rfl m_3_65 rfl (hRm (by decide) (by decide)) ⟨Nat.zero_le _, Nat.zero_le _⟩ (Nat.le_of_ble_eq_true rfl) dX1_hasTime_11) (fun r2 _ => ?_)
  refine g_aload_n X dX1_hasTime_14 0 rfl rfl ?_
  refine g_iconst X dX1_hasTime_15 ic_3 ?_
  refine g_ci X (st := [.int r2]) (fun _ hh => ok_V X (k0 := 20) (As := [.int 3]) wkX1_lawValue (tLake_lawValue M 3 hh) rfl k_20 s_20 (by decide) rfl m_3_55 rfl (hRm (by decide) (by decide)) ⟨Nat.zero_le _, Nat.zero_le _⟩ (Nat.le_of_ble_eq_true rfl) dX1_hasTime_16) (fun r3 _ => ?_)
  refine g_iadd X dX1_hasTime_19 ?_
  refine g_ilet X (fun v4 => ?_)
  refine g_istore_n X dX1_hasTime_20 rfl (by decide) rfl [1, 3, 0] (lu := [(0, .ref (ad 20)), (2, .int a2), (3, .int v4)]) rfl ?_
  refine g_iload_n X dX1_hasTime_21 2 rfl rfl ?_
  refine g_aload_n X dX1_hasTime_22 0 rfl rfl ?_
  refine g_iconst X dX1_hasTime_23 ic_0 ?_
  refine g_ci X (st := [.int v4]) (fun _ hh => ok_V X (k0 := 20) (As := [.int 0]) wkX1_lawValue (tLake_lawValue M 0 hh) rfl k_20 s_20 (by decide) rfl m_3_55 rfl (hRm (by decide) (by decide)) ⟨Nat.zero_le _, Nat.zero_le _⟩ (Nat.le_of_ble_eq_true rfl) dX1_hasTime_24) (fun r5 _ => ?_)
  refine g_iload_n X dX1_hasTime_27 1 rfl rfl ?_
  refine g_ci X (st := [.int v4]) (fun _ hh => ok_N X (As := [.int r5, .int a2]) wkX10_cutBy (tc_cutBy M r5 a2 hh) rfl m_3_71 rfl (hRm (by decide) (by decide)) ⟨Nat.zero_le _, Nat.zero_le _⟩ (Nat.le_of_ble_eq_true rfl) dX1_hasTime_28) (fun r6 _ => ?_)
  refine g_icmp_gt X 38 (by decide) dX1_hasTime_31 (fun q31 => ?_) (fun q31 => ?_)
  · refine g_iconst X dX1_hasTime_38 ic_0 ?_
    exact g_zret X hr (isB_n (by decide)) rfl dX1_hasTime_39
  · refine g_iconst X dX1_hasTime_34 ic_1 ?_
    refine g_goto X 39 (by decide) dX1_hasTime_35 ?_
    exact g_zret X hr (isB_n (by decide)) rfl dX1_hasTime_39
set_option maxRecDepth 100000 in
set_option maxHeartbeats 4000000 in
theorem tLake_isHopeless {l : Launch} {D : va_G} {cy : Nat → ClassId} {ad : Nat → Nat} {N : Mem} (M : Mem) (a1 : Nat) (ha1 : a1 < 20) {x : Int32} (h : fLake_isHopeless M a1 = some x) : Mt l D cy ad yX1_isHopeless cX1_isHopeless 2 (some .boolean) 4 [.ref (ad 20), .ref (ad (a1 + 22))] ((wfC N) M) (some (.int x), (wfC N) M) := by
  refine met_of (fin := (finI M)) (lv0 := [(0, .ref (ad 20)), (1, .ref (ad (a1 + 22)))]) (by decide) (Nat.le_of_ble_eq_true rfl) rfl (lC N) h (fun p e s m args below meth c X hr => ?_)
  unfold fLake_isHopeless
  refine g_aload_n X dX1_isHopeless_0 0 rfl rfl ?_
  refine g_aload_n X dX1_isHopeless_1 1 rfl rfl ?_
  refine g_aload_n X dX1_isHopeless_2 0 rfl rfl ?_
  refine get_1_12 X (k := 20) k_20 s_20 m_1_200 dX1_isHopeless_3 ?_
  refine g_ct X (v0 := .int (fLake_isOutT M a1 (M.1 20 12))) (st := []) (ok_V X (k0 := 20) (As := [.ref (ad (a1 + 22)), .int (M.1 20 12)]) wkX1_isOut (tLake_isOutT M a1 (M.1 20 12) ha1) rfl k_20 s_20 (by decide) rfl m_4_27 rfl (hRm (by decide) (by decide)) ⟨Nat.zero_le _, Nat.zero_le _⟩ (Nat.le_of_ble_eq_true rfl) dX1_isHopeless_6) ?_
  refine g_if_ne X 24 (by decide) dX1_isHopeless_9 (fun q9 => ?_) (fun q9 => ?_)
  · refine g_iconst X dX1_isHopeless_24 ic_1 ?_
    refine g_goto X 29 (by decide) dX1_isHopeless_25 ?_
    exact g_zret X hr (isB_n (by decide)) rfl dX1_isHopeless_29
  · refine g_aload_n X dX1_isHopeless_12 0 rfl rfl ?_
    refine g_aload_n X dX1_isHopeless_13 1 rfl rfl ?_
    refine g_aload_n X dX1_isHopeless_14 0 rfl rfl ?_
    refine g_ci X (st := [.ref (ad (a1 + 22)), .ref (ad 20)]) (fun _ hh => ok_V X (k0 := 20) (As := []) wkX1_speed (tLake_speed M hh) rfl k_20 s_20 (by decide) rfl m_4_28 rfl (hRm (by decide) (by decide)) ⟨Nat.zero_le _, Nat.zero_le _⟩ (Nat.le_of_ble_eq_true rfl) dX1_isHopeless_15) (fun r1 _ => ?_)
    refine g_ci X (st := []) (fun _ hh => ok_V X (k0 := 20) (As := [.ref (ad (a1 + 22)), .int r1]) wkX1_hasTime (tLake_hasTime M a1 r1 ha1 hh) rfl k_20 s_20 (by decide) rfl m_4_29 rfl (hRm (by decide) (by decide)) ⟨Nat.zero_le _, Nat.zero_le _⟩ (Nat.le_of_ble_eq_true rfl) dX1_isHopeless_18) (fun r2 _ => ?_)
    refine g_if_ne X 28 (by decide) dX1_isHopeless_21 (fun q21 => ?_) (fun q21 => ?_)
    · refine g_iconst X dX1_isHopeless_28 ic_0 ?_
      exact g_zret X hr (isB_n (by decide)) rfl dX1_isHopeless_29
    · refine g_iconst X dX1_isHopeless_24 ic_1 ?_
      refine g_goto X 29 (by decide) dX1_isHopeless_25 ?_
      exact g_zret X hr (isB_n (by decide)) rfl dX1_isHopeless_29
set_option maxRecDepth 100000 in
set_option maxHeartbeats 4000000 in
theorem tLake_riskOf {l : Launch} {D : va_G} {cy : Nat → ClassId} {ad : Nat → Nat} {N : Mem} (M : Mem) (a1 : Int32) (a2 : Int32) (a3 : Int32) {x : Int32} (h : fLake_riskOf M a1 a2 a3 = some x) : Mt l D cy ad yX1_riskOf cX1_riskOf 6 (some .int) 5 [.ref (ad 20), .int a1, .int a2, .int a3] ((wfC N) M) (some (.int x), (wfC N) M) := by
  refine met_of (fin := (finI M)) (lv0 := [(0, .ref (ad 20)), (1, .int a1), (2, .int a2), (3, .int a3)]) (by decide) (Nat.le_of_ble_eq_true rfl) rfl (lC N) h (fun p e s m args below meth c X hr => ?_)
  unfold fLake_riskOf
  refine g_aload_n X dX1_riskOf_0 0 rfl rfl ?_
  refine get_1_0 X (k := 20) k_20 s_20 m_1_174 dX1_riskOf_1 ?_
  refine g_iload_n X dX1_riskOf_4 2 rfl rfl ?_
  refine g_aald24 X (k := 21) k_21 s_21 dX1_riskOf_5 (fun h1 => ?_)
  refine g_astore X dX1_riskOf_6 (by decide) rfl [1, 2, 4, 0] (lu := [(0, .ref (ad 20)), (1, .int a1), (3, .int a3), (4, .ref (ad ((ix a2) + 22)))]) rfl ?_
  refine g_aload_n X dX1_riskOf_8 0 rfl rfl ?_
  refine g_aload X dX1_riskOf_9 3 rfl ?_
  refine g_ci X (st := []) (fun _ hh => ok_V X (k0 := 20) (As := [.ref (ad ((ix a2) + 22))]) wkX1_isHopeless (tLake_isHopeless M (ix a2) (inb_lt h1) hh) rfl k_20 s_20 (by decide) rfl m_4_23 rfl (hRm (by decide) (by decide)) ⟨Nat.zero_le _, Nat.zero_le _⟩ (Nat.le_of_ble_eq_true rfl) dX1_riskOf_11) (fun r2 _ => ?_)
  refine g_if_eq X 21 (by decide) dX1_riskOf_14 (fun q14 => ?_) (fun q14 => ?_)
  · refine g_aload_n X dX1_riskOf_21 0 rfl rfl ?_
    refine g_iconst X dX1_riskOf_22 ic_4 ?_
    refine g_ci X (st := []) (fun _ hh => ok_V X (k0 := 20) (As := [.int 4]) wkX1_lawValue (tLake_lawValue M 4 hh) rfl k_20 s_20 (by decide) rfl m_3_55 rfl (hRm (by decide) (by decide)) ⟨Nat.zero_le _, Nat.zero_le _⟩ (Nat.le_of_ble_eq_true rfl) dX1_riskOf_23) (fun r3 _ => ?_)
    refine g_aload X dX1_riskOf_26 3 rfl ?_
    refine g_aload_n X dX1_riskOf_28 0 rfl rfl ?_
    refine get_1_12 X (k := 20) k_20 s_20 m_1_200 dX1_riskOf_29 ?_
    refine g_ct X (v0 := .int (fJetty_riseAtT M (ix a2) (M.1 20 12))) (st := [.int r3]) (ok_V X (k0 := (ix a2) + 22) (As := [.int (M.1 20 12)]) wkX0_riseAt (tJetty_riseAtT M (ix a2) (M.1 20 12) (inb_lt h1)) rfl (kf_22 _ (inb_lt h1)) (sf_22 _ (inb_lt h1)) (by decide) rfl m_3_43 rfl (hRm (by decide) (by decide)) ⟨Nat.zero_le _, Nat.zero_le _⟩ (Nat.le_of_ble_eq_true rfl) dX1_riskOf_32) ?_
    refine g_aload_n X dX1_riskOf_35 0 rfl rfl ?_
    refine g_ct X (v0 := .int (fLake_deckT M)) (st := [.int (fJetty_riseAtT M (ix a2) (M.1 20 12)), .int r3]) (ok_V X (k0 := 20) (As := []) wkX1_deck (tLake_deckT M) rfl k_20 s_20 (by decide) rfl m_3_44 rfl (hRm (by decide) (by decide)) ⟨Nat.zero_le _, Nat.zero_le _⟩ (Nat.le_of_ble_eq_true rfl) dX1_riskOf_36) ?_
    refine g_isub X dX1_riskOf_39 ?_
    refine g_abs X m_3_48 (hR1 (by decide) (by decide)) ⟨Nat.zero_le _, Nat.zero_le _⟩ dX1_riskOf_40 ?_
    refine g_imul X dX1_riskOf_43 ?_
    refine g_aload X dX1_riskOf_44 3 rfl ?_
    refine get_0_4 X (k := (ix a2) + 22) (kf_22 _ (inb_lt h1)) (sf_22 _ (inb_lt h1)) m_1_143 dX1_riskOf_46 ?_
    refine g_jlet X 61 (fun z61 : Int32 => [(0, .ref (ad 20)), (1, .int a1), (3, .int a3)]) (fun z61 : Int32 => [.int z61, .int (r3 * (if 0 ≤ ((fJetty_riseAtT M (ix a2) (M.1 20 12)) - (fLake_deckT M)) then ((fJetty_riseAtT M (ix a2) (M.1 20 12)) - (fLake_deckT M)) else 0 - ((fJetty_riseAtT M (ix a2) (M.1 20 12)) - (fLake_deckT M))))]) (fun z61 : Int32 => M) (fun z61 => ?_) (fun J61 hJ61 => ?_)
    · show GF _ _ _ _ _ _ _ _ _ _ _ _ _ _ _ _ _ _ _ _ _ 61 [(0, .ref (ad 20)), (1, .int a1), (3, .int a3)] [.int z61, .int (r3 * (if 0 ≤ ((fJetty_riseAtT M (ix a2) (M.1 20 12)) - (fLake_deckT M)) then ((fJetty_riseAtT M (ix a2) (M.1 20 12)) - (fLake_deckT M)) else 0 - ((fJetty_riseAtT M (ix a2) (M.1 20 12)) - (fLake_deckT M))))] M
      refine g_iadd X dX1_riskOf_61 ?_
      refine g_aload_n X dX1_riskOf_62 0 rfl rfl ?_
      refine g_bipush X dX1_riskOf_63 bi_6 ?_
      refine g_ci X (st := [.int ((r3 * (if 0 ≤ ((fJetty_riseAtT M (ix a2) (M.1 20 12)) - (fLake_deckT M)) then ((fJetty_riseAtT M (ix a2) (M.1 20 12)) - (fLake_deckT M)) else 0 - ((fJetty_riseAtT M (ix a2) (M.1 20 12)) - (fLake_deckT M)))) + z61)]) (fun _ hh => ok_V X (k0 := 20) (As := [.int 6]) wkX1_lawValue (tLake_lawValue M 6 hh) rfl k_20 s_20 (by decide) rfl m_3_55 rfl (hRm (by decide) (by decide)) ⟨Nat.zero_le _, Nat.zero_le _⟩ (Nat.le_of_ble_eq_true rfl) dX1_riskOf_65) (fun r4 _ => ?_)
      refine g_aload_n X dX1_riskOf_68 0 rfl rfl ?_
      refine get_1_11 X (k := 20) k_20 s_20 m_1_198 dX1_riskOf_69 ?_
      refine g_iload_n X dX1_riskOf_72 2 rfl rfl ?_
      refine g_iald X (n := 12) (k := 66) k_66 s_66 dX1_riskOf_73 (fun h5 => ?_)
      refine g_imul X dX1_riskOf_74 ?_
      refine g_iadd X dX1_riskOf_75 ?_
      refine g_aload_n X dX1_riskOf_76 0 rfl rfl ?_
      refine g_bipush X dX1_riskOf_77 bi_7 ?_
      refine g_ci X (st := [.int (((r3 * (if 0 ≤ ((fJetty_riseAtT M (ix a2) (M.1 20 12)) - (fLake_deckT M)) then ((fJetty_riseAtT M (ix a2) (M.1 20 12)) - (fLake_deckT M)) else 0 - ((fJetty_riseAtT M (ix a2) (M.1 20 12)) - (fLake_deckT M)))) + z61) + (r4 * (M.1 66 (ix a3))))]) (fun _ hh => ok_V X (k0 := 20) (As := [.int 7]) wkX1_lawValue (tLake_lawValue M 7 hh) rfl k_20 s_20 (by decide) rfl m_3_55 rfl (hRm (by decide) (by decide)) ⟨Nat.zero_le _, Nat.zero_le _⟩ (Nat.le_of_ble_eq_true rfl) dX1_riskOf_79) (fun r6 _ => ?_)
      refine g_aload_n X dX1_riskOf_82 0 rfl rfl ?_
      refine get_1_6 X (k := 20) k_20 s_20 m_1_187 dX1_riskOf_83 ?_
      refine g_iload_n X dX1_riskOf_86 1 rfl rfl ?_
      refine g_aald26 X (k := 57) k_57 s_57 dX1_riskOf_87 (fun h7 => ?_)
      refine get_3_0 X (k := (ix a1) + 58) (kf_58 _ (inb_lt h7)) (sf_58 _ (inb_lt h7)) m_1_161 dX1_riskOf_88 ?_
      refine g_imul X dX1_riskOf_91 ?_
      refine g_isub X dX1_riskOf_92 ?_
      refine g_ilet X (fun v8 => ?_)
      refine g_istore X dX1_riskOf_93 (by decide) rfl [0] (lu := [(5, .int v8)]) rfl ?_
      refine g_iconst X dX1_riskOf_95 ic_0 ?_
      refine g_sipush X dX1_riskOf_96 si_1000 ?_
      refine g_iload X dX1_riskOf_99 0 rfl ?_
      refine g_min X m_4_30 (hR1 (by decide) (by decide)) ⟨Nat.zero_le _, Nat.zero_le _⟩ dX1_riskOf_101 ?_
      refine g_max X m_4_31 (hR1 (by decide) (by decide)) ⟨Nat.zero_le _, Nat.zero_le _⟩ dX1_riskOf_104 ?_
      exact g_iret X hr rfl dX1_riskOf_107
    refine g_if_eq X 60 (by decide) dX1_riskOf_49 (fun q49 => ?_) (fun q49 => ?_)
    · refine g_iconst X dX1_riskOf_60 ic_0 ?_
      refine g_sub (lu := [(0, .ref (ad 20)), (1, .int a1), (3, .int a3)]) [0, 1, 2] rfl ?_
      exact hJ61 0
    · refine g_aload_n X dX1_riskOf_52 0 rfl rfl ?_
      refine g_iconst X dX1_riskOf_53 ic_5 ?_
      refine g_ci X (st := [.int (r3 * (if 0 ≤ ((fJetty_riseAtT M (ix a2) (M.1 20 12)) - (fLake_deckT M)) then ((fJetty_riseAtT M (ix a2) (M.1 20 12)) - (fLake_deckT M)) else 0 - ((fJetty_riseAtT M (ix a2) (M.1 20 12)) - (fLake_deckT M))))]) (fun _ hh => ok_V X (k0 := 20) (As := [.int 5]) wkX1_lawValue (tLake_lawValue M 5 hh) rfl k_20 s_20 (by decide) rfl m_3_55 rfl (hRm (by decide) (by decide)) ⟨Nat.zero_le _, Nat.zero_le _⟩ (Nat.le_of_ble_eq_true rfl) dX1_riskOf_54) (fun r9 _ => ?_)
      refine g_goto X 61 (by decide) dX1_riskOf_57 ?_
      refine g_sub (lu := [(0, .ref (ad 20)), (1, .int a1), (3, .int a3)]) [0, 1, 2] rfl ?_
      exact hJ61 r9
  · refine g_sipush X dX1_riskOf_17 si_1000 ?_
    exact g_iret X hr rfl dX1_riskOf_20
set_option maxRecDepth 100000 in
set_option maxHeartbeats 4000000 in
theorem tc_risk {l : Launch} {D : va_G} {cy : Nat → ClassId} {ad : Nat → Nat} {N : Mem} (M : Mem) (a1 : Int32) (a2 : Int32) (a3 : Int32) {x : (Int32 × Mem)} (h : fc_risk M a1 a2 a3 = some x) : Mt l D cy ad yX10_risk cX10_risk 4 (some .int) 6 [.ref (ad 0), .int a1, .int a2, .int a3] ((wfC N) M) (some (.int x.1), (wfC N) x.2) := by
  refine met_of (fin := finS) (lv0 := [(0, .ref (ad 0)), (1, .int a1), (2, .int a2), (3, .int a3)]) (by decide) (Nat.le_of_ble_eq_true rfl) rfl (lC N) h (fun p e s m args below meth c X hr => ?_)
  unfold fc_risk
  refine g_aload_n X dX10_risk_0 0 rfl rfl ?_
  refine g_iload_n X dX10_risk_1 1 rfl rfl ?_
  refine g_ct X (v0 := .int (fc_isLeaperT M a1)) (st := []) (ok_V X (k0 := 0) (As := [.int a1]) wkX10_isLeaper (tc_isLeaperT M a1) rfl k_0 s_0 (by decide) rfl m_3_229 rfl (hRm (by decide) (by decide)) ⟨Nat.zero_le _, Nat.zero_le _⟩ (Nat.le_of_ble_eq_true rfl) dX10_risk_2) ?_
  refine g_if_eq X 23 (by decide) dX10_risk_5 (fun q5 => ?_) (fun q5 => ?_)
  · refine g_aload_n X dX10_risk_23 0 rfl rfl ?_
    refine g_bipush X dX10_risk_24 bi_m2 ?_
    refine g_cs X (st := []) (fun _ hh => ok_V X (k0 := 0) (As := [.int (-2)]) wkX10_refuse (tc_refuse M (-2) hh) rfl k_0 s_0 (by decide) rfl m_2_176 rfl (hRm (by decide) (by decide)) ⟨Nat.zero_le _, Nat.zero_le _⟩ (Nat.le_of_ble_eq_true rfl) dX10_risk_26) (fun r2 M1 _ => ?_)
    exact g_iret X hr rfl dX10_risk_29
  · refine g_aload_n X dX10_risk_8 0 rfl rfl ?_
    refine g_iload_n X dX10_risk_9 2 rfl rfl ?_
    refine g_ct X (v0 := .int (fc_isJettyT M a2)) (st := []) (ok_V X (k0 := 0) (As := [.int a2]) wkX10_isJetty (tc_isJettyT M a2) rfl k_0 s_0 (by decide) rfl m_2_230 rfl (hRm (by decide) (by decide)) ⟨Nat.zero_le _, Nat.zero_le _⟩ (Nat.le_of_ble_eq_true rfl) dX10_risk_10) ?_
    refine g_if_eq X 23 (by decide) dX10_risk_13 (fun q13 => ?_) (fun q13 => ?_)
    · refine g_aload_n X dX10_risk_23 0 rfl rfl ?_
      refine g_bipush X dX10_risk_24 bi_m2 ?_
      refine g_cs X (st := []) (fun _ hh => ok_V X (k0 := 0) (As := [.int (-2)]) wkX10_refuse (tc_refuse M (-2) hh) rfl k_0 s_0 (by decide) rfl m_2_176 rfl (hRm (by decide) (by decide)) ⟨Nat.zero_le _, Nat.zero_le _⟩ (Nat.le_of_ble_eq_true rfl) dX10_risk_26) (fun r4 M3 _ => ?_)
      exact g_iret X hr rfl dX10_risk_29
    · refine g_iload_n X dX10_risk_16 3 rfl rfl ?_
      refine g_ct X (v0 := .int (fc_isHourT M a3)) (st := []) (ok_S X (As := [.int a3]) wkX10_isHour (tc_isHourT M a3) rfl m_3_88 rfl (hRm (by decide) (by decide)) ⟨Nat.zero_le _, Nat.zero_le _⟩ (Nat.le_of_ble_eq_true rfl) dX10_risk_17) ?_
      refine g_if_ne X 30 (by decide) dX10_risk_20 (fun q20 => ?_) (fun q20 => ?_)
      · refine g_aload_n X dX10_risk_30 0 rfl rfl ?_
        refine get_10_2 X (k := 0) k_0 s_0 m_2_131 dX10_risk_31 ?_
        refine g_iload_n X dX10_risk_34 1 rfl rfl ?_
        refine g_iload_n X dX10_risk_35 2 rfl rfl ?_
        refine g_iload_n X dX10_risk_36 3 rfl rfl ?_
        refine g_ci X (st := []) (fun _ hh => ok_V X (k0 := 20) (As := [.int a1, .int a2, .int a3]) wkX1_riskOf (tLake_riskOf M a1 a2 a3 hh) rfl k_20 s_20 (by decide) rfl m_4_19 rfl (hRm (by decide) (by decide)) ⟨Nat.zero_le _, Nat.zero_le _⟩ (Nat.le_of_ble_eq_true rfl) dX10_risk_37) (fun r5 _ => ?_)
        exact g_iret X hr rfl dX10_risk_40
      · refine g_aload_n X dX10_risk_23 0 rfl rfl ?_
        refine g_bipush X dX10_risk_24 bi_m2 ?_
        refine g_cs X (st := []) (fun _ hh => ok_V X (k0 := 0) (As := [.int (-2)]) wkX10_refuse (tc_refuse M (-2) hh) rfl k_0 s_0 (by decide) rfl m_2_176 rfl (hRm (by decide) (by decide)) ⟨Nat.zero_le _, Nat.zero_le _⟩ (Nat.le_of_ble_eq_true rfl) dX10_risk_26) (fun r7 M6 _ => ?_)
        exact g_iret X hr rfl dX10_risk_29
set_option maxRecDepth 100000 in
set_option maxHeartbeats 4000000 in
theorem tLake_legMinutes {l : Launch} {D : va_G} {cy : Nat → ClassId} {ad : Nat → Nat} {N : Mem} (M : Mem) (a1 : Int32) (a2 : Int32) (a3 : Int32) {x : Int32} (h : fLake_legMinutes M a1 a2 a3 = some x) : Mt l D cy ad yX1_legMinutes cX1_legMinutes 6 (some .int) 3 [.ref (ad 20), .int a1, .int a2, .int a3] ((wfC N) M) (some (.int x), (wfC N) M) := by
  refine met_of (fin := (finI M)) (lv0 := [(0, .ref (ad 20)), (1, .int a1), (2, .int a2), (3, .int a3)]) (by decide) (Nat.le_of_ble_eq_true rfl) rfl (lC N) h (fun p e s m args below meth c X hr => ?_)
  unfold fLake_legMinutes
  refine g_iload_n X dX1_legMinutes_0 1 rfl rfl ?_
  refine g_bipush X dX1_legMinutes_1 bi_16 ?_
  refine g_idivC X dX1_legMinutes_3 (by decide) ?_
  refine g_iload_n X dX1_legMinutes_4 2 rfl rfl ?_
  refine g_bipush X dX1_legMinutes_5 bi_16 ?_
  refine g_idivC X dX1_legMinutes_7 (by decide) ?_
  refine g_isub X dX1_legMinutes_8 ?_
  refine g_abs X m_3_48 (hR1 (by decide) (by decide)) ⟨Nat.zero_le _, Nat.zero_le _⟩ dX1_legMinutes_9 ?_
  refine g_ilet X (fun v1 => ?_)
  refine g_istore X dX1_legMinutes_12 (by decide) rfl [1, 2, 3, 4, 0] (lu := [(0, .ref (ad 20)), (1, .int a1), (2, .int a2), (3, .int a3), (4, .int v1)]) rfl ?_
  refine g_iload_n X dX1_legMinutes_14 1 rfl rfl ?_
  refine g_bipush X dX1_legMinutes_15 bi_16 ?_
  refine g_iremC X dX1_legMinutes_17 (by decide) ?_
  refine g_iload_n X dX1_legMinutes_18 2 rfl rfl ?_
  refine g_bipush X dX1_legMinutes_19 bi_16 ?_
  refine g_iremC X dX1_legMinutes_21 (by decide) ?_
  refine g_isub X dX1_legMinutes_22 ?_
  refine g_abs X m_3_48 (hR1 (by decide) (by decide)) ⟨Nat.zero_le _, Nat.zero_le _⟩ dX1_legMinutes_23 ?_
  refine g_ilet X (fun v2 => ?_)
  refine g_istore X dX1_legMinutes_26 (by decide) rfl [1, 4, 5, 0] (lu := [(0, .ref (ad 20)), (3, .int a3), (4, .int v1), (5, .int v2)]) rfl ?_
  refine g_aload_n X dX1_legMinutes_28 0 rfl rfl ?_
  refine g_bipush X dX1_legMinutes_29 bi_8 ?_
  refine g_ci X (st := []) (fun _ hh => ok_V X (k0 := 20) (As := [.int 8]) wkX1_lawValue (tLake_lawValue M 8 hh) rfl k_20 s_20 (by decide) rfl m_3_55 rfl (hRm (by decide) (by decide)) ⟨Nat.zero_le _, Nat.zero_le _⟩ (Nat.le_of_ble_eq_true rfl) dX1_legMinutes_31) (fun r3 _ => ?_)
  refine g_iload X dX1_legMinutes_34 2 rfl ?_
  refine g_iload X dX1_legMinutes_36 3 rfl ?_
  refine g_iadd X dX1_legMinutes_38 ?_
  refine g_imul X dX1_legMinutes_39 ?_
  refine g_iload_n X dX1_legMinutes_40 1 rfl rfl ?_
  refine g_ci X (st := []) (fun _ hh => ok_N X (As := [.int (r3 * (v1 + v2)), .int a3]) wkX10_roundedUpBy (tc_roundedUpBy M (r3 * (v1 + v2)) a3 hh) rfl m_3_65 rfl (hRm (by decide) (by decide)) ⟨Nat.zero_le _, Nat.zero_le _⟩ (Nat.le_of_ble_eq_true rfl) dX1_legMinutes_41) (fun r4 _ => ?_)
  exact g_iret X hr rfl dX1_legMinutes_44
set_option maxRecDepth 100000 in
set_option maxHeartbeats 4000000 in
theorem tc_leg {l : Launch} {D : va_G} {cy : Nat → ClassId} {ad : Nat → Nat} {N : Mem} (M : Mem) (a1 : Int32) (a2 : Int32) {x : (Int32 × Mem)} (h : fc_leg M a1 a2 = some x) : Mt l D cy ad yX10_leg cX10_leg 3 (some .int) 4 [.ref (ad 0), .int a1, .int a2] ((wfC N) M) (some (.int x.1), (wfC N) x.2) := by
  refine met_of (fin := finS) (lv0 := [(0, .ref (ad 0)), (1, .int a1), (2, .int a2)]) (by decide) (Nat.le_of_ble_eq_true rfl) rfl (lC N) h (fun p e s m args below meth c X hr => ?_)
  unfold fc_leg
  refine g_iload_n X dX10_leg_0 1 rfl rfl ?_
  refine g_sipush X dX10_leg_1 si_256 ?_
  refine g_ct X (v0 := .int (fc_isBelowT M a1 256)) (st := []) (ok_S X (As := [.int a1, .int 256]) wkX10_isBelow (tc_isBelowT M a1 256) rfl m_2_170 rfl (hRm (by decide) (by decide)) ⟨Nat.zero_le _, Nat.zero_le _⟩ (Nat.le_of_ble_eq_true rfl) dX10_leg_4) ?_
  refine g_if_eq X 20 (by decide) dX10_leg_7 (fun q7 => ?_) (fun q7 => ?_)
  · refine g_aload_n X dX10_leg_20 0 rfl rfl ?_
    refine g_bipush X dX10_leg_21 bi_m2 ?_
    refine g_cs X (st := []) (fun _ hh => ok_V X (k0 := 0) (As := [.int (-2)]) wkX10_refuse (tc_refuse M (-2) hh) rfl k_0 s_0 (by decide) rfl m_2_176 rfl (hRm (by decide) (by decide)) ⟨Nat.zero_le _, Nat.zero_le _⟩ (Nat.le_of_ble_eq_true rfl) dX10_leg_23) (fun r2 M1 _ => ?_)
    exact g_iret X hr rfl dX10_leg_26
  · refine g_iload_n X dX10_leg_10 2 rfl rfl ?_
    refine g_sipush X dX10_leg_11 si_256 ?_
    refine g_ct X (v0 := .int (fc_isBelowT M a2 256)) (st := []) (ok_S X (As := [.int a2, .int 256]) wkX10_isBelow (tc_isBelowT M a2 256) rfl m_2_170 rfl (hRm (by decide) (by decide)) ⟨Nat.zero_le _, Nat.zero_le _⟩ (Nat.le_of_ble_eq_true rfl) dX10_leg_14) ?_
    refine g_if_ne X 27 (by decide) dX10_leg_17 (fun q17 => ?_) (fun q17 => ?_)
    · refine g_aload_n X dX10_leg_27 0 rfl rfl ?_
      refine get_10_2 X (k := 0) k_0 s_0 m_2_131 dX10_leg_28 ?_
      refine g_iload_n X dX10_leg_31 1 rfl rfl ?_
      refine g_iload_n X dX10_leg_32 2 rfl rfl ?_
      refine g_aload_n X dX10_leg_33 0 rfl rfl ?_
      refine get_10_2 X (k := 0) k_0 s_0 m_2_131 dX10_leg_34 ?_
      refine g_ci X (st := [.int a2, .int a1, .ref (ad 20)]) (fun _ hh => ok_V X (k0 := 20) (As := []) wkX1_speed (tLake_speed M hh) rfl k_20 s_20 (by decide) rfl m_3_51 rfl (hRm (by decide) (by decide)) ⟨Nat.zero_le _, Nat.zero_le _⟩ (Nat.le_of_ble_eq_true rfl) dX10_leg_37) (fun r3 _ => ?_)
      refine g_ci X (st := []) (fun _ hh => ok_V X (k0 := 20) (As := [.int a1, .int a2, .int r3]) wkX1_legMinutes (tLake_legMinutes M a1 a2 r3 hh) rfl k_20 s_20 (by decide) rfl m_4_44 rfl (hRm (by decide) (by decide)) ⟨Nat.zero_le _, Nat.zero_le _⟩ (Nat.le_of_ble_eq_true rfl) dX10_leg_40) (fun r4 _ => ?_)
      exact g_iret X hr rfl dX10_leg_43
    · refine g_aload_n X dX10_leg_20 0 rfl rfl ?_
      refine g_bipush X dX10_leg_21 bi_m2 ?_
      refine g_cs X (st := []) (fun _ hh => ok_V X (k0 := 0) (As := [.int (-2)]) wkX10_refuse (tc_refuse M (-2) hh) rfl k_0 s_0 (by decide) rfl m_2_176 rfl (hRm (by decide) (by decide)) ⟨Nat.zero_le _, Nat.zero_le _⟩ (Nat.le_of_ble_eq_true rfl) dX10_leg_23) (fun r6 M5 _ => ?_)
      exact g_iret X hr rfl dX10_leg_26
set_option maxRecDepth 100000 in
set_option maxHeartbeats 4000000 in
theorem tm_isShelf {l : Launch} {D : va_G} {cy : Nat → ClassId} {ad : Nat → Nat} {N : Mem} (M : Mem) (a1 : Int32) {x : Int32} (h : fm_isShelf M a1 = some x) : Mt l D cy ad yX11_isShelf cX11_isShelf 2 (some .boolean) 1 [.ref (ad 138), .int a1] ((wfM N) M) (some (.int x), (wfM N) M) := by
  refine met_of (fin := (finI M)) (lv0 := [(0, .ref (ad 138)), (1, .int a1)]) (by decide) (Nat.le_of_ble_eq_true rfl) rfl (lM N) h (fun p e s m args below meth c X hr => ?_)
  unfold fm_isShelf
  refine g_iload_n X dX11_isShelf_0 1 rfl rfl ?_
  refine g_if_lt X 14 (by decide) dX11_isShelf_1 (fun q1 => ?_) (fun q1 => ?_)
  · refine g_iconst X dX11_isShelf_14 ic_0 ?_
    exact g_zret X hr (isB_n (by decide)) rfl dX11_isShelf_15
  · refine g_iload_n X dX11_isShelf_4 1 rfl rfl ?_
    refine g_bipush X dX11_isShelf_5 bi_8 ?_
    refine g_icmp_ge X 14 (by decide) dX11_isShelf_7 (fun q7 => ?_) (fun q7 => ?_)
    · refine g_iconst X dX11_isShelf_14 ic_0 ?_
      exact g_zret X hr (isB_n (by decide)) rfl dX11_isShelf_15
    · refine g_iconst X dX11_isShelf_10 ic_1 ?_
      refine g_goto X 15 (by decide) dX11_isShelf_11 ?_
      exact g_zret X hr (isB_n (by decide)) rfl dX11_isShelf_15
theorem tm_isShelfT {l : Launch} {D : va_G} {cy : Nat → ClassId} {ad : Nat → Nat} {N : Mem} (M : Mem) (a1 : Int32) : Mt l D cy ad yX11_isShelf cX11_isShelf 2 (some .boolean) 1 [.ref (ad 138), .int a1] ((wfM N) M) (some (.int (fm_isShelfT M a1)), (wfM N) M) := tm_isShelf M a1 (fm_isShelfE M a1)
set_option maxRecDepth 100000 in
set_option maxHeartbeats 4000000 in
theorem tm_no {l : Launch} {D : va_G} {cy : Nat → ClassId} {ad : Nat → Nat} {N : Mem} (M : Mem) (a1 : Int32) {x : (Int32 × Mem)} (h : fm_no M a1 = some x) : Mt l D cy ad yX11_no cX11_no 2 (some .int) 1 [.ref (ad 138), .int a1] ((wfM N) M) (some (.int x.1), (wfM N) x.2) := by
  refine met_of (fin := finS) (lv0 := [(0, .ref (ad 138)), (1, .int a1)]) (by decide) (Nat.le_of_ble_eq_true rfl) rfl (lM N) h (fun p e s m args below meth c X hr => ?_)
  unfold fm_no
  refine g_aload_n X dX11_no_0 0 rfl rfl ?_
  refine get_11_20 X (k := 138) k_138 s_138 m_5_81 dX11_no_1 ?_
  refine g_iload_n X dX11_no_4 1 rfl rfl ?_
  refine g_ineg X dX11_no_5 ?_
  refine g_dup2 X dX11_no_6 rfl rfl ?_
  refine g_iald X (n := 7) (k := 158) k_158 s_158 dX11_no_7 (fun h1 => ?_)
  refine g_iconst X dX11_no_8 ic_1 ?_
  refine g_iadd X dX11_no_9 ?_
  refine g_iast X (n := 7) (k := 158) k_158 s_158 dX11_no_10 (fun h2 => ?_)
  refine g_mlet X (fun M3 => ?_)
  refine g_iload_n X dX11_no_11 1 rfl rfl ?_
  exact g_iret X hr rfl dX11_no_12
set_option maxRecDepth 100000 in
set_option maxHeartbeats 4000000 in
theorem Lm_row_L54 {l : Launch} {D : va_G} {cy : Nat → ClassId} {ad : Nat → Nat} {N : Mem} {p : Program} {e : Env} {s : State} {m : MethodId} {args : Array Value} {below : List Frame} {meth : Method} {c : Code} (X : Cx p s m args meth c cX11_row 5 RX11 D cy ad (AA ad) (wfM N) sdM) (hr : meth.sig.returnType = (some .int)) (b1 : Int32) : ∀ (n : Nat) (x4 : Int32) (M : Mem), GF p l e (Rm 2) s m args below meth c 5 D cy ad (AA ad) 0 0 (wfM N) (QM D cy ad (wfM N) below args s) finS (fm_row_L54 b1 n x4 M) 54 [(0, .ref (ad 138)), (1, .int b1), (4, .int x4)] [] M := by
  intro n
  induction n with
  | zero => intro x4 M; exact g_none
  | succ n ih =>
    intro x4 M
    rw [fm_row_L54]
    refine g_iload X dX11_row_54 2 rfl ?_
    refine g_bipush X dX11_row_56 bi_40 ?_
    refine g_icmp_ge X 80 (by decide) dX11_row_58 (fun q58 => ?_) (fun q58 => ?_)
    · refine g_iconst X dX11_row_80 ic_1 ?_
      exact g_iret X hr rfl dX11_row_81
    · refine g_aload_n X dX11_row_61 0 rfl rfl ?_
      refine get_11_2 X (k := 138) k_138 s_138 m_5_63 dX11_row_62 ?_
      refine g_bipush X dX11_row_65 bi_40 ?_
      refine g_iload_n X dX11_row_67 1 rfl rfl ?_
      refine g_imul X dX11_row_68 ?_
      refine g_iload X dX11_row_69 2 rfl ?_
      refine g_iadd X dX11_row_71 ?_
      refine g_lconst X (v := 0) dX11_row_72 (by decide) ?_
      refine g_last23 X (k := 141) k_141 s_141 dX11_row_73 (fun h13 => ?_)
      refine g_mlet X (fun M14 => ?_)
      refine g_iinc X (k := 2) (v := (x4 + 1)) dX11_row_74 rfl (ii_1 _) (by decide) rfl [1, 2, 0] (lu := [(0, .ref (ad 138)), (1, .int b1), (4, .int (x4 + 1))]) rfl ?_
      refine g_goto X 54 (by decide) dX11_row_77 ?_
      exact ih (x4 + 1) M14
set_option maxRecDepth 100000 in
set_option maxHeartbeats 4000000 in
theorem tm_row {l : Launch} {D : va_G} {cy : Nat → ClassId} {ad : Nat → Nat} {N : Mem} (M : Mem) (a1 : Int32) (a2 : Int32) (a3 : Int32) {x : (Int32 × Mem)} (h : fm_row M a1 a2 a3 = some x) : Mt l D cy ad yX11_row cX11_row 5 (some .int) 2 [.ref (ad 138), .int a1, .int a2, .int a3] ((wfM N) M) (some (.int x.1), (wfM N) x.2) := by
  refine met_of (fin := finS) (lv0 := [(0, .ref (ad 138)), (1, .int a1), (2, .int a2), (3, .int a3)]) (by decide) (Nat.le_of_ble_eq_true rfl) rfl (lM N) h (fun p e s m args below meth c X hr => ?_)
  unfold fm_row
  refine g_aload_n X dX11_row_0 0 rfl rfl ?_
  refine g_iload_n X dX11_row_1 1 rfl rfl ?_
  refine g_ct X (v0 := .int (fm_isShelfT M a1)) (st := []) (ok_V X (k0 := 138) (As := [.int a1]) wkX11_isShelf (tm_isShelfT M a1) rfl k_138 s_138 (by decide) rfl m_5_150 rfl (hRm (by decide) (by decide)) ⟨Nat.zero_le _, Nat.zero_le _⟩ (Nat.le_of_ble_eq_true rfl) dX11_row_2) ?_
  refine g_if_eq X 27 (by decide) dX11_row_5 (fun q5 => ?_) (fun q5 => ?_)
  · refine g_aload_n X dX11_row_27 0 rfl rfl ?_
    refine g_bipush X dX11_row_28 bi_m2 ?_
    refine g_cs X (st := []) (fun _ hh => ok_V X (k0 := 138) (As := [.int (-2)]) wkX11_no (tm_no M (-2) hh) rfl k_138 s_138 (by decide) rfl m_5_154 rfl (hRm (by decide) (by decide)) ⟨Nat.zero_le _, Nat.zero_le _⟩ (Nat.le_of_ble_eq_true rfl) dX11_row_30) (fun r2 M1 _ => ?_)
    exact g_iret X hr rfl dX11_row_33
  · refine g_iload_n X dX11_row_8 2 rfl rfl ?_
    refine g_if_lt X 27 (by decide) dX11_row_9 (fun q9 => ?_) (fun q9 => ?_)
    · refine g_aload_n X dX11_row_27 0 rfl rfl ?_
      refine g_bipush X dX11_row_28 bi_m2 ?_
      refine g_cs X (st := []) (fun _ hh => ok_V X (k0 := 138) (As := [.int (-2)]) wkX11_no (tm_no M (-2) hh) rfl k_138 s_138 (by decide) rfl m_5_154 rfl (hRm (by decide) (by decide)) ⟨Nat.zero_le _, Nat.zero_le _⟩ (Nat.le_of_ble_eq_true rfl) dX11_row_30) (fun r4 M3 _ => ?_)
      exact g_iret X hr rfl dX11_row_33
    · refine g_iload_n X dX11_row_12 2 rfl rfl ?_
      refine g_iconst X dX11_row_13 ic_4 ?_
      refine g_icmp_gt X 27 (by decide) dX11_row_14 (fun q14 => ?_) (fun q14 => ?_)
      · refine g_aload_n X dX11_row_27 0 rfl rfl ?_
        refine g_bipush X dX11_row_28 bi_m2 ?_
        refine g_cs X (st := []) (fun _ hh => ok_V X (k0 := 138) (As := [.int (-2)]) wkX11_no (tm_no M (-2) hh) rfl k_138 s_138 (by decide) rfl m_5_154 rfl (hRm (by decide) (by decide)) ⟨Nat.zero_le _, Nat.zero_le _⟩ (Nat.le_of_ble_eq_true rfl) dX11_row_30) (fun r6 M5 _ => ?_)
        exact g_iret X hr rfl dX11_row_33
      · refine g_iload_n X dX11_row_17 3 rfl rfl ?_
        refine g_if_lt X 27 (by decide) dX11_row_18 (fun q18 => ?_) (fun q18 => ?_)
        · refine g_aload_n X dX11_row_27 0 rfl rfl ?_
          refine g_bipush X dX11_row_28 bi_m2 ?_
          refine g_cs X (st := []) (fun _ hh => ok_V X (k0 := 138) (As := [.int (-2)]) wkX11_no (tm_no M (-2) hh) rfl k_138 s_138 (by decide) rfl m_5_154 rfl (hRm (by decide) (by decide)) ⟨Nat.zero_le _, Nat.zero_le _⟩ (Nat.le_of_ble_eq_true rfl) dX11_row_30) (fun r8 M7 _ => ?_)
          exact g_iret X hr rfl dX11_row_33
        · refine g_iload_n X dX11_row_21 3 rfl rfl ?_
          refine g_bipush X dX11_row_22 bi_40 ?_
          refine g_icmp_le X 34 (by decide) dX11_row_24 (fun q24 => ?_) (fun q24 => ?_)
          · refine g_aload_n X dX11_row_34 0 rfl rfl ?_
            refine get_11_0 X (k := 138) k_138 s_138 m_5_61 dX11_row_35 ?_
            refine g_iload_n X dX11_row_38 1 rfl rfl ?_
            refine g_bipush X dX11_row_39 bi_100 ?_
            refine g_iload_n X dX11_row_41 2 rfl rfl ?_
            refine g_iadd X dX11_row_42 ?_
            refine g_iast X (n := 8) (k := 139) k_139 s_139 dX11_row_43 (fun h9 => ?_)
            refine g_mlet X (fun M10 => ?_)
            refine g_aload_n X dX11_row_44 0 rfl rfl ?_
            refine get_11_1 X (k := 138) k_138 s_138 m_5_62 dX11_row_45 ?_
            refine g_iload_n X dX11_row_48 1 rfl rfl ?_
            refine g_iload_n X dX11_row_49 3 rfl rfl ?_
            refine g_iast X (n := 8) (k := 140) k_140 s_140 dX11_row_50 (fun h11 => ?_)
            refine g_mlet X (fun M12 => ?_)
            refine g_iconst X dX11_row_51 ic_0 ?_
            refine g_istore X dX11_row_52 (by decide) rfl [1, 2, 0] (lu := [(0, .ref (ad 138)), (1, .int a1), (4, .int 0)]) rfl ?_
            exact Lm_row_L54 X hr  a1    1000 0 M12
          · refine g_aload_n X dX11_row_27 0 rfl rfl ?_
            refine g_bipush X dX11_row_28 bi_m2 ?_
            refine g_cs X (st := []) (fun _ hh => ok_V X (k0 := 138) (As := [.int (-2)]) wkX11_no (tm_no M (-2) hh) rfl k_138 s_138 (by decide) rfl m_5_154 rfl (hRm (by decide) (by decide)) ⟨Nat.zero_le _, Nat.zero_le _⟩ (Nat.le_of_ble_eq_true rfl) dX11_row_30) (fun r16 M15 _ => ?_)
            exact g_iret X hr rfl dX11_row_33
set_option maxRecDepth 100000 in
set_option maxHeartbeats 4000000 in
theorem tm_isRow {l : Launch} {D : va_G} {cy : Nat → ClassId} {ad : Nat → Nat} {N : Mem} (M : Mem) (a1 : Int32) {x : Int32} (h : fm_isRow M a1 = some x) : Mt l D cy ad yX11_isRow cX11_isRow 2 (some .boolean) 1 [.ref (ad 138), .int a1] ((wfM N) M) (some (.int x), (wfM N) M) := by
  refine met_of (fin := (finI M)) (lv0 := [(0, .ref (ad 138)), (1, .int a1)]) (by decide) (Nat.le_of_ble_eq_true rfl) rfl (lM N) h (fun p e s m args below meth c X hr => ?_)
  unfold fm_isRow
  refine g_aload_n X dX11_isRow_0 0 rfl rfl ?_
  refine get_11_0 X (k := 138) k_138 s_138 m_5_61 dX11_isRow_1 ?_
  refine g_iload_n X dX11_isRow_4 1 rfl rfl ?_
  refine g_iald X (n := 8) (k := 139) k_139 s_139 dX11_isRow_5 (fun h1 => ?_)
  refine g_bipush X dX11_isRow_6 bi_100 ?_
  refine g_icmp_lt X 15 (by decide) dX11_isRow_8 (fun q8 => ?_) (fun q8 => ?_)
  · refine g_iconst X dX11_isRow_15 ic_0 ?_
    exact g_zret X hr (isB_n (by decide)) rfl dX11_isRow_16
  · refine g_iconst X dX11_isRow_11 ic_1 ?_
    refine g_goto X 16 (by decide) dX11_isRow_12 ?_
    exact g_zret X hr (isB_n (by decide)) rfl dX11_isRow_16
set_option maxRecDepth 100000 in
set_option maxHeartbeats 4000000 in
theorem tm_holds {l : Launch} {D : va_G} {cy : Nat → ClassId} {ad : Nat → Nat} {N : Mem} (M : Mem) (a1 : Int32) {x : Int32} (h : fm_holds M a1 = some x) : Mt l D cy ad yX11_holds cX11_holds 2 (some .int) 2 [.ref (ad 138), .int a1] ((wfM N) M) (some (.int x), (wfM N) M) := by
  refine met_of (fin := (finI M)) (lv0 := [(0, .ref (ad 138)), (1, .int a1)]) (by decide) (Nat.le_of_ble_eq_true rfl) rfl (lM N) h (fun p e s m args below meth c X hr => ?_)
  unfold fm_holds
  refine g_aload_n X dX11_holds_0 0 rfl rfl ?_
  refine g_iload_n X dX11_holds_1 1 rfl rfl ?_
  refine g_ct X (v0 := .int (fm_isShelfT M a1)) (st := []) (ok_V X (k0 := 138) (As := [.int a1]) wkX11_isShelf (tm_isShelfT M a1) rfl k_138 s_138 (by decide) rfl m_5_150 rfl (hRm (by decide) (by decide)) ⟨Nat.zero_le _, Nat.zero_le _⟩ (Nat.le_of_ble_eq_true rfl) dX11_holds_2) ?_
  refine g_if_eq X 17 (by decide) dX11_holds_5 (fun q5 => ?_) (fun q5 => ?_)
  · refine g_iconst X dX11_holds_17 ic_m1 ?_
    exact g_iret X hr rfl dX11_holds_18
  · refine g_aload_n X dX11_holds_8 0 rfl rfl ?_
    refine get_11_0 X (k := 138) k_138 s_138 m_5_61 dX11_holds_9 ?_
    refine g_iload_n X dX11_holds_12 1 rfl rfl ?_
    refine g_iald X (n := 8) (k := 139) k_139 s_139 dX11_holds_13 (fun h1 => ?_)
    refine g_if_ge X 19 (by decide) dX11_holds_14 (fun q14 => ?_) (fun q14 => ?_)
    · refine g_aload_n X dX11_holds_19 0 rfl rfl ?_
      refine g_iload_n X dX11_holds_20 1 rfl rfl ?_
      refine g_ci X (st := []) (fun _ hh => ok_V X (k0 := 138) (As := [.int a1]) wkX11_isRow (tm_isRow M a1 hh) rfl k_138 s_138 (by decide) rfl m_5_174 rfl (hRm (by decide) (by decide)) ⟨Nat.zero_le _, Nat.zero_le _⟩ (Nat.le_of_ble_eq_true rfl) dX11_holds_21) (fun r2 _ => ?_)
      refine g_if_eq X 39 (by decide) dX11_holds_24 (fun q24 => ?_) (fun q24 => ?_)
      · refine g_bipush X dX11_holds_39 bi_10 ?_
        refine g_aload_n X dX11_holds_41 0 rfl rfl ?_
        refine get_11_0 X (k := 138) k_138 s_138 m_5_61 dX11_holds_42 ?_
        refine g_iload_n X dX11_holds_45 1 rfl rfl ?_
        refine g_iald X (n := 8) (k := 139) k_139 s_139 dX11_holds_46 (fun h3 => ?_)
        refine g_iadd X dX11_holds_47 ?_
        exact g_iret X hr rfl dX11_holds_48
      · refine g_aload_n X dX11_holds_27 0 rfl rfl ?_
        refine get_11_0 X (k := 138) k_138 s_138 m_5_61 dX11_holds_28 ?_
        refine g_iload_n X dX11_holds_31 1 rfl rfl ?_
        refine g_iald X (n := 8) (k := 139) k_139 s_139 dX11_holds_32 (fun h4 => ?_)
        refine g_bipush X dX11_holds_33 bi_100 ?_
        refine g_isub X dX11_holds_35 ?_
        refine g_goto X 48 (by decide) dX11_holds_36 ?_
        exact g_iret X hr rfl dX11_holds_48
    · refine g_iconst X dX11_holds_17 ic_m1 ?_
      exact g_iret X hr rfl dX11_holds_18
set_option maxRecDepth 100000 in
set_option maxHeartbeats 4000000 in
theorem tm_isJetty {l : Launch} {D : va_G} {cy : Nat → ClassId} {ad : Nat → Nat} {N : Mem} (M : Mem) (a1 : Int32) {x : Int32} (h : fm_isJetty M a1 = some x) : Mt l D cy ad yX11_isJetty cX11_isJetty 2 (some .boolean) 1 [.ref (ad 138), .int a1] ((wfM N) M) (some (.int x), (wfM N) M) := by
  refine met_of (fin := (finI M)) (lv0 := [(0, .ref (ad 138)), (1, .int a1)]) (by decide) (Nat.le_of_ble_eq_true rfl) rfl (lM N) h (fun p e s m args below meth c X hr => ?_)
  unfold fm_isJetty
  refine g_iload_n X dX11_isJetty_0 1 rfl rfl ?_
  refine g_if_lt X 18 (by decide) dX11_isJetty_1 (fun q1 => ?_) (fun q1 => ?_)
  · refine g_iconst X dX11_isJetty_18 ic_0 ?_
    exact g_zret X hr (isB_n (by decide)) rfl dX11_isJetty_19
  · refine g_iload_n X dX11_isJetty_4 1 rfl rfl ?_
    refine g_aload_n X dX11_isJetty_5 0 rfl rfl ?_
    refine get_11_18 X (k := 138) k_138 s_138 m_5_79 dX11_isJetty_6 ?_
    refine g_iconst X dX11_isJetty_9 ic_0 ?_
    refine g_ialdC X (n := 9) (k := 156) k_156 s_156 (by decide) dX11_isJetty_10 ?_
    refine g_icmp_ge X 18 (by decide) dX11_isJetty_11 (fun q11 => ?_) (fun q11 => ?_)
    · refine g_iconst X dX11_isJetty_18 ic_0 ?_
      exact g_zret X hr (isB_n (by decide)) rfl dX11_isJetty_19
    · refine g_iconst X dX11_isJetty_14 ic_1 ?_
      refine g_goto X 19 (by decide) dX11_isJetty_15 ?_
      exact g_zret X hr (isB_n (by decide)) rfl dX11_isJetty_19
theorem tm_isJettyT {l : Launch} {D : va_G} {cy : Nat → ClassId} {ad : Nat → Nat} {N : Mem} (M : Mem) (a1 : Int32) : Mt l D cy ad yX11_isJetty cX11_isJetty 2 (some .boolean) 1 [.ref (ad 138), .int a1] ((wfM N) M) (some (.int (fm_isJettyT M a1)), (wfM N) M) := tm_isJetty M a1 (fm_isJettyE M a1)
set_option maxRecDepth 100000 in
set_option maxHeartbeats 4000000 in
theorem tm_show {l : Launch} {D : va_G} {cy : Nat → ClassId} {ad : Nat → Nat} {N : Mem} (M : Mem) (a1 : Int32) (a2 : Int32) {x : (Int32 × Mem)} (h : fm_show M a1 a2 = some x) : Mt l D cy ad yX11_show cX11_show 3 (some .int) 2 [.ref (ad 138), .int a1, .int a2] ((wfM N) M) (some (.int x.1), (wfM N) x.2) := by
  refine met_of (fin := finS) (lv0 := [(0, .ref (ad 138)), (1, .int a1), (2, .int a2)]) (by decide) (Nat.le_of_ble_eq_true rfl) rfl (lM N) h (fun p e s m args below meth c X hr => ?_)
  unfold fm_show
  refine g_aload_n X dX11_show_0 0 rfl rfl ?_
  refine g_iload_n X dX11_show_1 1 rfl rfl ?_
  refine g_ct X (v0 := .int (fm_isShelfT M a1)) (st := []) (ok_V X (k0 := 138) (As := [.int a1]) wkX11_isShelf (tm_isShelfT M a1) rfl k_138 s_138 (by decide) rfl m_5_150 rfl (hRm (by decide) (by decide)) ⟨Nat.zero_le _, Nat.zero_le _⟩ (Nat.le_of_ble_eq_true rfl) dX11_show_2) ?_
  refine g_if_eq X 21 (by decide) dX11_show_5 (fun q5 => ?_) (fun q5 => ?_)
  · refine g_aload_n X dX11_show_21 0 rfl rfl ?_
    refine g_bipush X dX11_show_22 bi_m2 ?_
    refine g_cs X (st := []) (fun _ hh => ok_V X (k0 := 138) (As := [.int (-2)]) wkX11_no (tm_no M (-2) hh) rfl k_138 s_138 (by decide) rfl m_5_154 rfl (hRm (by decide) (by decide)) ⟨Nat.zero_le _, Nat.zero_le _⟩ (Nat.le_of_ble_eq_true rfl) dX11_show_24) (fun r2 M1 _ => ?_)
    exact g_iret X hr rfl dX11_show_27
  · refine g_iload_n X dX11_show_8 2 rfl rfl ?_
    refine g_iconst X dX11_show_9 ic_m1 ?_
    refine g_icmp_eq X 28 (by decide) dX11_show_10 (fun q10 => ?_) (fun q10 => ?_)
    · refine g_aload_n X dX11_show_28 0 rfl rfl ?_
      refine get_11_0 X (k := 138) k_138 s_138 m_5_61 dX11_show_29 ?_
      refine g_iload_n X dX11_show_32 1 rfl rfl ?_
      refine g_iload_n X dX11_show_33 2 rfl rfl ?_
      refine g_iast X (n := 8) (k := 139) k_139 s_139 dX11_show_34 (fun h3 => ?_)
      refine g_mlet X (fun M4 => ?_)
      refine g_iconst X dX11_show_35 ic_1 ?_
      exact g_iret X hr rfl dX11_show_36
    · refine g_aload_n X dX11_show_13 0 rfl rfl ?_
      refine g_iload_n X dX11_show_14 2 rfl rfl ?_
      refine g_ct X (v0 := .int (fm_isJettyT M a2)) (st := []) (ok_V X (k0 := 138) (As := [.int a2]) wkX11_isJetty (tm_isJettyT M a2) rfl k_138 s_138 (by decide) rfl m_5_190 rfl (hRm (by decide) (by decide)) ⟨Nat.zero_le _, Nat.zero_le _⟩ (Nat.le_of_ble_eq_true rfl) dX11_show_15) ?_
      refine g_if_ne X 28 (by decide) dX11_show_18 (fun q18 => ?_) (fun q18 => ?_)
      · refine g_aload_n X dX11_show_28 0 rfl rfl ?_
        refine get_11_0 X (k := 138) k_138 s_138 m_5_61 dX11_show_29 ?_
        refine g_iload_n X dX11_show_32 1 rfl rfl ?_
        refine g_iload_n X dX11_show_33 2 rfl rfl ?_
        refine g_iast X (n := 8) (k := 139) k_139 s_139 dX11_show_34 (fun h5 => ?_)
        refine g_mlet X (fun M6 => ?_)
        refine g_iconst X dX11_show_35 ic_1 ?_
        exact g_iret X hr rfl dX11_show_36
      · refine g_aload_n X dX11_show_21 0 rfl rfl ?_
        refine g_bipush X dX11_show_22 bi_m2 ?_
        refine g_cs X (st := []) (fun _ hh => ok_V X (k0 := 138) (As := [.int (-2)]) wkX11_no (tm_no M (-2) hh) rfl k_138 s_138 (by decide) rfl m_5_154 rfl (hRm (by decide) (by decide)) ⟨Nat.zero_le _, Nat.zero_le _⟩ (Nat.le_of_ble_eq_true rfl) dX11_show_24) (fun r8 M7 _ => ?_)
        exact g_iret X hr rfl dX11_show_27
set_option maxRecDepth 100000 in
set_option maxHeartbeats 4000000 in
theorem tm_isSpot {l : Launch} {D : va_G} {cy : Nat → ClassId} {ad : Nat → Nat} {N : Mem} (M : Mem) (a1 : Int32) {x : Int32} (h : fm_isSpot M a1 = some x) : Mt l D cy ad yX11_isSpot cX11_isSpot 2 (some .boolean) 1 [.ref (ad 138), .int a1] ((wfM N) M) (some (.int x), (wfM N) M) := by
  refine met_of (fin := (finI M)) (lv0 := [(0, .ref (ad 138)), (1, .int a1)]) (by decide) (Nat.le_of_ble_eq_true rfl) rfl (lM N) h (fun p e s m args below meth c X hr => ?_)
  unfold fm_isSpot
  refine g_iload_n X dX11_isSpot_0 1 rfl rfl ?_
  refine g_if_lt X 15 (by decide) dX11_isSpot_1 (fun q1 => ?_) (fun q1 => ?_)
  · refine g_iconst X dX11_isSpot_15 ic_0 ?_
    exact g_zret X hr (isB_n (by decide)) rfl dX11_isSpot_16
  · refine g_iload_n X dX11_isSpot_4 1 rfl rfl ?_
    refine g_sipush X dX11_isSpot_5 si_256 ?_
    refine g_icmp_ge X 15 (by decide) dX11_isSpot_8 (fun q8 => ?_) (fun q8 => ?_)
    · refine g_iconst X dX11_isSpot_15 ic_0 ?_
      exact g_zret X hr (isB_n (by decide)) rfl dX11_isSpot_16
    · refine g_iconst X dX11_isSpot_11 ic_1 ?_
      refine g_goto X 16 (by decide) dX11_isSpot_12 ?_
      exact g_zret X hr (isB_n (by decide)) rfl dX11_isSpot_16
theorem tm_isSpotT {l : Launch} {D : va_G} {cy : Nat → ClassId} {ad : Nat → Nat} {N : Mem} (M : Mem) (a1 : Int32) : Mt l D cy ad yX11_isSpot cX11_isSpot 2 (some .boolean) 1 [.ref (ad 138), .int a1] ((wfM N) M) (some (.int (fm_isSpotT M a1)), (wfM N) M) := tm_isSpot M a1 (fm_isSpotE M a1)
set_option maxRecDepth 100000 in
set_option maxHeartbeats 4000000 in
theorem tm_isLevel {l : Launch} {D : va_G} {cy : Nat → ClassId} {ad : Nat → Nat} {N : Mem} (M : Mem) (a1 : Int32) {x : Int32} (h : fm_isLevel M a1 = some x) : Mt l D cy ad yX11_isLevel cX11_isLevel 2 (some .boolean) 1 [.ref (ad 138), .int a1] ((wfM N) M) (some (.int x), (wfM N) M) := by
  refine met_of (fin := (finI M)) (lv0 := [(0, .ref (ad 138)), (1, .int a1)]) (by decide) (Nat.le_of_ble_eq_true rfl) rfl (lM N) h (fun p e s m args below meth c X hr => ?_)
  unfold fm_isLevel
  refine g_iload_n X dX11_isLevel_0 1 rfl rfl ?_
  refine g_bipush X dX11_isLevel_1 bi_m50 ?_
  refine g_icmp_lt X 16 (by decide) dX11_isLevel_3 (fun q3 => ?_) (fun q3 => ?_)
  · refine g_iconst X dX11_isLevel_16 ic_0 ?_
    exact g_zret X hr (isB_n (by decide)) rfl dX11_isLevel_17
  · refine g_iload_n X dX11_isLevel_6 1 rfl rfl ?_
    refine g_bipush X dX11_isLevel_7 bi_50 ?_
    refine g_icmp_gt X 16 (by decide) dX11_isLevel_9 (fun q9 => ?_) (fun q9 => ?_)
    · refine g_iconst X dX11_isLevel_16 ic_0 ?_
      exact g_zret X hr (isB_n (by decide)) rfl dX11_isLevel_17
    · refine g_iconst X dX11_isLevel_12 ic_1 ?_
      refine g_goto X 17 (by decide) dX11_isLevel_13 ?_
      exact g_zret X hr (isB_n (by decide)) rfl dX11_isLevel_17
theorem tm_isLevelT {l : Launch} {D : va_G} {cy : Nat → ClassId} {ad : Nat → Nat} {N : Mem} (M : Mem) (a1 : Int32) : Mt l D cy ad yX11_isLevel cX11_isLevel 2 (some .boolean) 1 [.ref (ad 138), .int a1] ((wfM N) M) (some (.int (fm_isLevelT M a1)), (wfM N) M) := tm_isLevel M a1 (fm_isLevelE M a1)
set_option maxRecDepth 100000 in
set_option maxHeartbeats 4000000 in
theorem tm_lake {l : Launch} {D : va_G} {cy : Nat → ClassId} {ad : Nat → Nat} {N : Mem} (M : Mem) (a1 : Int32) (a2 : Int32) {x : (Int32 × Mem)} (h : fm_lake M a1 a2 = some x) : Mt l D cy ad yX11_lake cX11_lake 4 (some .int) 2 [.ref (ad 138), .int a1, .int a2] ((wfM N) M) (some (.int x.1), (wfM N) x.2) := by
  refine met_of (fin := finS) (lv0 := [(0, .ref (ad 138)), (1, .int a1), (2, .int a2)]) (by decide) (Nat.le_of_ble_eq_true rfl) rfl (lM N) h (fun p e s m args below meth c X hr => ?_)
  unfold fm_lake
  refine g_iload_n X dX11_lake_0 1 rfl rfl ?_
  refine g_if_lt X 9 (by decide) dX11_lake_1 (fun q1 => ?_) (fun q1 => ?_)
  · refine g_aload_n X dX11_lake_9 0 rfl rfl ?_
    refine g_bipush X dX11_lake_10 bi_m2 ?_
    refine g_cs X (st := []) (fun _ hh => ok_V X (k0 := 138) (As := [.int (-2)]) wkX11_no (tm_no M (-2) hh) rfl k_138 s_138 (by decide) rfl m_5_154 rfl (hRm (by decide) (by decide)) ⟨Nat.zero_le _, Nat.zero_le _⟩ (Nat.le_of_ble_eq_true rfl) dX11_lake_12) (fun r2 M1 _ => ?_)
    exact g_iret X hr rfl dX11_lake_15
  · refine g_iload_n X dX11_lake_4 1 rfl rfl ?_
    refine g_iconst X dX11_lake_5 ic_2 ?_
    refine g_icmp_le X 16 (by decide) dX11_lake_6 (fun q6 => ?_) (fun q6 => ?_)
    · refine g_iload_n X dX11_lake_16 1 rfl rfl ?_
      refine g_jlet X 28 (fun z28 : Unit => [(0, .ref (ad 138)), (1, .int a1), (2, .int a2)]) (fun z28 : Unit => []) (fun z28 : Unit => M) (fun z28 => ?_) (fun J28 hJ28 => ?_)
      · show GF _ _ _ _ _ _ _ _ _ _ _ _ _ _ _ _ _ _ _ _ _ 28 [(0, .ref (ad 138)), (1, .int a1), (2, .int a2)] [] M
        refine g_iload_n X dX11_lake_28 1 rfl rfl ?_
        refine g_iconst X dX11_lake_29 ic_1 ?_
        refine g_jlet X 43 (fun z43 : Unit => [(0, .ref (ad 138)), (1, .int a1), (2, .int a2)]) (fun z43 : Unit => []) (fun z43 : Unit => M) (fun z43 => ?_) (fun J43 hJ43 => ?_)
        · show GF _ _ _ _ _ _ _ _ _ _ _ _ _ _ _ _ _ _ _ _ _ 43 [(0, .ref (ad 138)), (1, .int a1), (2, .int a2)] [] M
          refine g_iload_n X dX11_lake_43 1 rfl rfl ?_
          refine g_iconst X dX11_lake_44 ic_2 ?_
          refine g_jlet X 63 (fun z63 : Unit => [(0, .ref (ad 138)), (1, .int a1), (2, .int a2)]) (fun z63 : Unit => []) (fun z63 : Unit => M) (fun z63 => ?_) (fun J63 hJ63 => ?_)
          · show GF _ _ _ _ _ _ _ _ _ _ _ _ _ _ _ _ _ _ _ _ _ 63 [(0, .ref (ad 138)), (1, .int a1), (2, .int a2)] [] M
            refine g_aload_n X dX11_lake_63 0 rfl rfl ?_
            refine get_11_18 X (k := 138) k_138 s_138 m_5_79 dX11_lake_64 ?_
            refine g_iconst X dX11_lake_67 ic_5 ?_
            refine g_iload_n X dX11_lake_68 1 rfl rfl ?_
            refine g_iadd X dX11_lake_69 ?_
            refine g_iald X (n := 9) (k := 156) k_156 s_156 dX11_lake_70 (fun h3 => ?_)
            refine g_ilet X (fun v4 => ?_)
            refine g_istore_n X dX11_lake_71 rfl (by decide) rfl [1, 2, 3, 0] (lu := [(0, .ref (ad 138)), (1, .int a1), (2, .int a2), (3, .int v4)]) rfl ?_
            refine g_aload_n X dX11_lake_72 0 rfl rfl ?_
            refine get_11_18 X (k := 138) k_138 s_138 m_5_79 dX11_lake_73 ?_
            refine g_iconst X dX11_lake_76 ic_5 ?_
            refine g_iload_n X dX11_lake_77 1 rfl rfl ?_
            refine g_iadd X dX11_lake_78 ?_
            refine g_iload_n X dX11_lake_79 2 rfl rfl ?_
            refine g_iast X (n := 9) (k := 156) k_156 s_156 dX11_lake_80 (fun h5 => ?_)
            refine g_mlet X (fun M6 => ?_)
            refine g_iload_n X dX11_lake_81 3 rfl rfl ?_
            refine g_iload_n X dX11_lake_82 2 rfl rfl ?_
            refine g_icmp_eq X 90 (by decide) dX11_lake_83 (fun q83 => ?_) (fun q83 => ?_)
            · refine g_iconst X dX11_lake_90 ic_0 ?_
              exact g_iret X hr rfl dX11_lake_91
            · refine g_iconst X dX11_lake_86 ic_1 ?_
              refine g_goto X 91 (by decide) dX11_lake_87 ?_
              exact g_iret X hr rfl dX11_lake_91
          refine g_icmp_ne X 63 (by decide) dX11_lake_45 (fun q45 => ?_) (fun q45 => ?_)
          · exact hJ63 ()
          · refine g_aload_n X dX11_lake_48 0 rfl rfl ?_
            refine g_iload_n X dX11_lake_49 2 rfl rfl ?_
            refine g_ct X (v0 := .int (fm_isSpotT M a2)) (st := []) (ok_V X (k0 := 138) (As := [.int a2]) wkX11_isSpot (tm_isSpotT M a2) rfl k_138 s_138 (by decide) rfl m_5_214 rfl (hRm (by decide) (by decide)) ⟨Nat.zero_le _, Nat.zero_le _⟩ (Nat.le_of_ble_eq_true rfl) dX11_lake_50) ?_
            refine g_if_ne X 63 (by decide) dX11_lake_53 (fun q53 => ?_) (fun q53 => ?_)
            · exact hJ63 ()
            · refine g_aload_n X dX11_lake_56 0 rfl rfl ?_
              refine g_bipush X dX11_lake_57 bi_m2 ?_
              refine g_cs X (st := []) (fun _ hh => ok_V X (k0 := 138) (As := [.int (-2)]) wkX11_no (tm_no M (-2) hh) rfl k_138 s_138 (by decide) rfl m_5_154 rfl (hRm (by decide) (by decide)) ⟨Nat.zero_le _, Nat.zero_le _⟩ (Nat.le_of_ble_eq_true rfl) dX11_lake_59) (fun r8 M7 _ => ?_)
              exact g_iret X hr rfl dX11_lake_62
        refine g_icmp_ne X 43 (by decide) dX11_lake_30 (fun q30 => ?_) (fun q30 => ?_)
        · exact hJ43 ()
        · refine g_iload_n X dX11_lake_33 2 rfl rfl ?_
          refine g_if_lt X 56 (by decide) dX11_lake_34 (fun q34 => ?_) (fun q34 => ?_)
          · refine g_aload_n X dX11_lake_56 0 rfl rfl ?_
            refine g_bipush X dX11_lake_57 bi_m2 ?_
            refine g_cs X (st := []) (fun _ hh => ok_V X (k0 := 138) (As := [.int (-2)]) wkX11_no (tm_no M (-2) hh) rfl k_138 s_138 (by decide) rfl m_5_154 rfl (hRm (by decide) (by decide)) ⟨Nat.zero_le _, Nat.zero_le _⟩ (Nat.le_of_ble_eq_true rfl) dX11_lake_59) (fun r10 M9 _ => ?_)
            exact g_iret X hr rfl dX11_lake_62
          · refine g_iload_n X dX11_lake_37 2 rfl rfl ?_
            refine g_bipush X dX11_lake_38 bi_60 ?_
            refine g_icmp_gt X 56 (by decide) dX11_lake_40 (fun q40 => ?_) (fun q40 => ?_)
            · refine g_aload_n X dX11_lake_56 0 rfl rfl ?_
              refine g_bipush X dX11_lake_57 bi_m2 ?_
              refine g_cs X (st := []) (fun _ hh => ok_V X (k0 := 138) (As := [.int (-2)]) wkX11_no (tm_no M (-2) hh) rfl k_138 s_138 (by decide) rfl m_5_154 rfl (hRm (by decide) (by decide)) ⟨Nat.zero_le _, Nat.zero_le _⟩ (Nat.le_of_ble_eq_true rfl) dX11_lake_59) (fun r12 M11 _ => ?_)
              exact g_iret X hr rfl dX11_lake_62
            · exact hJ43 ()
      refine g_if_ne X 28 (by decide) dX11_lake_17 (fun q17 => ?_) (fun q17 => ?_)
      · exact hJ28 ()
      · refine g_aload_n X dX11_lake_20 0 rfl rfl ?_
        refine g_iload_n X dX11_lake_21 2 rfl rfl ?_
        refine g_ct X (v0 := .int (fm_isLevelT M a2)) (st := []) (ok_V X (k0 := 138) (As := [.int a2]) wkX11_isLevel (tm_isLevelT M a2) rfl k_138 s_138 (by decide) rfl m_6_14 rfl (hRm (by decide) (by decide)) ⟨Nat.zero_le _, Nat.zero_le _⟩ (Nat.le_of_ble_eq_true rfl) dX11_lake_22) ?_
        refine g_if_eq X 56 (by decide) dX11_lake_25 (fun q25 => ?_) (fun q25 => ?_)
        · refine g_aload_n X dX11_lake_56 0 rfl rfl ?_
          refine g_bipush X dX11_lake_57 bi_m2 ?_
          refine g_cs X (st := []) (fun _ hh => ok_V X (k0 := 138) (As := [.int (-2)]) wkX11_no (tm_no M (-2) hh) rfl k_138 s_138 (by decide) rfl m_5_154 rfl (hRm (by decide) (by decide)) ⟨Nat.zero_le _, Nat.zero_le _⟩ (Nat.le_of_ble_eq_true rfl) dX11_lake_59) (fun r14 M13 _ => ?_)
          exact g_iret X hr rfl dX11_lake_62
        · exact hJ28 ()
    · refine g_aload_n X dX11_lake_9 0 rfl rfl ?_
      refine g_bipush X dX11_lake_10 bi_m2 ?_
      refine g_cs X (st := []) (fun _ hh => ok_V X (k0 := 138) (As := [.int (-2)]) wkX11_no (tm_no M (-2) hh) rfl k_138 s_138 (by decide) rfl m_5_154 rfl (hRm (by decide) (by decide)) ⟨Nat.zero_le _, Nat.zero_le _⟩ (Nat.le_of_ble_eq_true rfl) dX11_lake_12) (fun r16 M15 _ => ?_)
      exact g_iret X hr rfl dX11_lake_15
set_option maxRecDepth 100000 in
set_option maxHeartbeats 4000000 in
theorem tm_isHour {l : Launch} {D : va_G} {cy : Nat → ClassId} {ad : Nat → Nat} {N : Mem} (M : Mem) (a1 : Int32) {x : Int32} (h : fm_isHour M a1 = some x) : Mt l D cy ad yX11_isHour cX11_isHour 2 (some .boolean) 1 [.ref (ad 138), .int a1] ((wfM N) M) (some (.int x), (wfM N) M) := by
  refine met_of (fin := (finI M)) (lv0 := [(0, .ref (ad 138)), (1, .int a1)]) (by decide) (Nat.le_of_ble_eq_true rfl) rfl (lM N) h (fun p e s m args below meth c X hr => ?_)
  unfold fm_isHour
  refine g_iload_n X dX11_isHour_0 1 rfl rfl ?_
  refine g_if_lt X 14 (by decide) dX11_isHour_1 (fun q1 => ?_) (fun q1 => ?_)
  · refine g_iconst X dX11_isHour_14 ic_0 ?_
    exact g_zret X hr (isB_n (by decide)) rfl dX11_isHour_15
  · refine g_iload_n X dX11_isHour_4 1 rfl rfl ?_
    refine g_bipush X dX11_isHour_5 bi_12 ?_
    refine g_icmp_ge X 14 (by decide) dX11_isHour_7 (fun q7 => ?_) (fun q7 => ?_)
    · refine g_iconst X dX11_isHour_14 ic_0 ?_
      exact g_zret X hr (isB_n (by decide)) rfl dX11_isHour_15
    · refine g_iconst X dX11_isHour_10 ic_1 ?_
      refine g_goto X 15 (by decide) dX11_isHour_11 ?_
      exact g_zret X hr (isB_n (by decide)) rfl dX11_isHour_15
theorem tm_isHourT {l : Launch} {D : va_G} {cy : Nat → ClassId} {ad : Nat → Nat} {N : Mem} (M : Mem) (a1 : Int32) : Mt l D cy ad yX11_isHour cX11_isHour 2 (some .boolean) 1 [.ref (ad 138), .int a1] ((wfM N) M) (some (.int (fm_isHourT M a1)), (wfM N) M) := tm_isHour M a1 (fm_isHourE M a1)
set_option maxRecDepth 100000 in
set_option maxHeartbeats 4000000 in
theorem tm_wind {l : Launch} {D : va_G} {cy : Nat → ClassId} {ad : Nat → Nat} {N : Mem} (M : Mem) (a1 : Int32) (a2 : Int32) {x : (Int32 × Mem)} (h : fm_wind M a1 a2 = some x) : Mt l D cy ad yX11_wind cX11_wind 4 (some .int) 2 [.ref (ad 138), .int a1, .int a2] ((wfM N) M) (some (.int x.1), (wfM N) x.2) := by
  refine met_of (fin := finS) (lv0 := [(0, .ref (ad 138)), (1, .int a1), (2, .int a2)]) (by decide) (Nat.le_of_ble_eq_true rfl) rfl (lM N) h (fun p e s m args below meth c X hr => ?_)
  unfold fm_wind
  refine g_aload_n X dX11_wind_0 0 rfl rfl ?_
  refine g_iload_n X dX11_wind_1 1 rfl rfl ?_
  refine g_ct X (v0 := .int (fm_isHourT M a1)) (st := []) (ok_V X (k0 := 138) (As := [.int a1]) wkX11_isHour (tm_isHourT M a1) rfl k_138 s_138 (by decide) rfl m_6_26 rfl (hRm (by decide) (by decide)) ⟨Nat.zero_le _, Nat.zero_le _⟩ (Nat.le_of_ble_eq_true rfl) dX11_wind_2) ?_
  refine g_if_eq X 18 (by decide) dX11_wind_5 (fun q5 => ?_) (fun q5 => ?_)
  · refine g_aload_n X dX11_wind_18 0 rfl rfl ?_
    refine g_bipush X dX11_wind_19 bi_m2 ?_
    refine g_cs X (st := []) (fun _ hh => ok_V X (k0 := 138) (As := [.int (-2)]) wkX11_no (tm_no M (-2) hh) rfl k_138 s_138 (by decide) rfl m_5_154 rfl (hRm (by decide) (by decide)) ⟨Nat.zero_le _, Nat.zero_le _⟩ (Nat.le_of_ble_eq_true rfl) dX11_wind_21) (fun r2 M1 _ => ?_)
    exact g_iret X hr rfl dX11_wind_24
  · refine g_iload_n X dX11_wind_8 2 rfl rfl ?_
    refine g_if_lt X 18 (by decide) dX11_wind_9 (fun q9 => ?_) (fun q9 => ?_)
    · refine g_aload_n X dX11_wind_18 0 rfl rfl ?_
      refine g_bipush X dX11_wind_19 bi_m2 ?_
      refine g_cs X (st := []) (fun _ hh => ok_V X (k0 := 138) (As := [.int (-2)]) wkX11_no (tm_no M (-2) hh) rfl k_138 s_138 (by decide) rfl m_5_154 rfl (hRm (by decide) (by decide)) ⟨Nat.zero_le _, Nat.zero_le _⟩ (Nat.le_of_ble_eq_true rfl) dX11_wind_21) (fun r4 M3 _ => ?_)
      exact g_iret X hr rfl dX11_wind_24
    · refine g_iload_n X dX11_wind_12 2 rfl rfl ?_
      refine g_bipush X dX11_wind_13 bi_9 ?_
      refine g_icmp_le X 25 (by decide) dX11_wind_15 (fun q15 => ?_) (fun q15 => ?_)
      · refine g_aload_n X dX11_wind_25 0 rfl rfl ?_
        refine get_11_17 X (k := 138) k_138 s_138 m_5_78 dX11_wind_26 ?_
        refine g_iload_n X dX11_wind_29 1 rfl rfl ?_
        refine g_iald X (n := 12) (k := 155) k_155 s_155 dX11_wind_30 (fun h5 => ?_)
        refine g_ilet X (fun v6 => ?_)
        refine g_istore_n X dX11_wind_31 rfl (by decide) rfl [1, 2, 3, 0] (lu := [(0, .ref (ad 138)), (1, .int a1), (2, .int a2), (3, .int v6)]) rfl ?_
        refine g_aload_n X dX11_wind_32 0 rfl rfl ?_
        refine get_11_17 X (k := 138) k_138 s_138 m_5_78 dX11_wind_33 ?_
        refine g_iload_n X dX11_wind_36 1 rfl rfl ?_
        refine g_iload_n X dX11_wind_37 2 rfl rfl ?_
        refine g_iast X (n := 12) (k := 155) k_155 s_155 dX11_wind_38 (fun h7 => ?_)
        refine g_mlet X (fun M8 => ?_)
        refine g_iload_n X dX11_wind_39 3 rfl rfl ?_
        exact g_iret X hr rfl dX11_wind_40
      · refine g_aload_n X dX11_wind_18 0 rfl rfl ?_
        refine g_bipush X dX11_wind_19 bi_m2 ?_
        refine g_cs X (st := []) (fun _ hh => ok_V X (k0 := 138) (As := [.int (-2)]) wkX11_no (tm_no M (-2) hh) rfl k_138 s_138 (by decide) rfl m_5_154 rfl (hRm (by decide) (by decide)) ⟨Nat.zero_le _, Nat.zero_le _⟩ (Nat.le_of_ble_eq_true rfl) dX11_wind_21) (fun r10 M9 _ => ?_)
        exact g_iret X hr rfl dX11_wind_24
set_option maxRecDepth 100000 in
set_option maxHeartbeats 4000000 in
theorem tm_isLaw {l : Launch} {D : va_G} {cy : Nat → ClassId} {ad : Nat → Nat} {N : Mem} (M : Mem) (a1 : Int32) {x : Int32} (h : fm_isLaw M a1 = some x) : Mt l D cy ad yX11_isLaw cX11_isLaw 2 (some .boolean) 1 [.ref (ad 138), .int a1] ((wfM N) M) (some (.int x), (wfM N) M) := by
  refine met_of (fin := (finI M)) (lv0 := [(0, .ref (ad 138)), (1, .int a1)]) (by decide) (Nat.le_of_ble_eq_true rfl) rfl (lM N) h (fun p e s m args below meth c X hr => ?_)
  unfold fm_isLaw
  refine g_iload_n X dX11_isLaw_0 1 rfl rfl ?_
  refine g_if_lt X 18 (by decide) dX11_isLaw_1 (fun q1 => ?_) (fun q1 => ?_)
  · refine g_iconst X dX11_isLaw_18 ic_0 ?_
    exact g_zret X hr (isB_n (by decide)) rfl dX11_isLaw_19
  · refine g_iload_n X dX11_isLaw_4 1 rfl rfl ?_
    refine g_aload_n X dX11_isLaw_5 0 rfl rfl ?_
    refine get_11_18 X (k := 138) k_138 s_138 m_5_79 dX11_isLaw_6 ?_
    refine g_iconst X dX11_isLaw_9 ic_1 ?_
    refine g_ialdC X (n := 9) (k := 156) k_156 s_156 (by decide) dX11_isLaw_10 ?_
    refine g_icmp_ge X 18 (by decide) dX11_isLaw_11 (fun q11 => ?_) (fun q11 => ?_)
    · refine g_iconst X dX11_isLaw_18 ic_0 ?_
      exact g_zret X hr (isB_n (by decide)) rfl dX11_isLaw_19
    · refine g_iconst X dX11_isLaw_14 ic_1 ?_
      refine g_goto X 19 (by decide) dX11_isLaw_15 ?_
      exact g_zret X hr (isB_n (by decide)) rfl dX11_isLaw_19
theorem tm_isLawT {l : Launch} {D : va_G} {cy : Nat → ClassId} {ad : Nat → Nat} {N : Mem} (M : Mem) (a1 : Int32) : Mt l D cy ad yX11_isLaw cX11_isLaw 2 (some .boolean) 1 [.ref (ad 138), .int a1] ((wfM N) M) (some (.int (fm_isLawT M a1)), (wfM N) M) := tm_isLaw M a1 (fm_isLawE M a1)
set_option maxRecDepth 100000 in
set_option maxHeartbeats 4000000 in
theorem tm_force {l : Launch} {D : va_G} {cy : Nat → ClassId} {ad : Nat → Nat} {N : Mem} (M : Mem) (a1 : Int32) {x : (Int32 × Mem)} (h : fm_force M a1 = some x) : Mt l D cy ad yX11_force cX11_force 3 (some .int) 2 [.ref (ad 138), .int a1] ((wfM N) M) (some (.int x.1), (wfM N) x.2) := by
  refine met_of (fin := finS) (lv0 := [(0, .ref (ad 138)), (1, .int a1)]) (by decide) (Nat.le_of_ble_eq_true rfl) rfl (lM N) h (fun p e s m args below meth c X hr => ?_)
  unfold fm_force
  refine g_iload_n X dX11_force_0 1 rfl rfl ?_
  refine g_iconst X dX11_force_1 ic_m1 ?_
  refine g_icmp_eq X 20 (by decide) dX11_force_2 (fun q2 => ?_) (fun q2 => ?_)
  · refine g_aload_n X dX11_force_20 0 rfl rfl ?_
    refine get_11_18 X (k := 138) k_138 s_138 m_5_79 dX11_force_21 ?_
    refine g_iconst X dX11_force_24 ic_4 ?_
    refine g_ialdC X (n := 9) (k := 156) k_156 s_156 (by decide) dX11_force_25 ?_
    refine g_ilet X (fun v2 => ?_)
    refine g_istore_n X dX11_force_26 rfl (by decide) rfl [1, 2, 0] (lu := [(0, .ref (ad 138)), (1, .int a1), (2, .int v2)]) rfl ?_
    refine g_aload_n X dX11_force_27 0 rfl rfl ?_
    refine get_11_18 X (k := 138) k_138 s_138 m_5_79 dX11_force_28 ?_
    refine g_iconst X dX11_force_31 ic_4 ?_
    refine g_iload_n X dX11_force_32 1 rfl rfl ?_
    refine g_iastC X (n := 9) (k := 156) k_156 s_156 (by decide) dX11_force_33 ?_
    refine g_mlet X (fun M4 => ?_)
    refine g_iload_n X dX11_force_34 2 rfl rfl ?_
    exact g_iret X hr rfl dX11_force_35
  · refine g_aload_n X dX11_force_5 0 rfl rfl ?_
    refine g_iload_n X dX11_force_6 1 rfl rfl ?_
    refine g_ct X (v0 := .int (fm_isLawT M a1)) (st := []) (ok_V X (k0 := 138) (As := [.int a1]) wkX11_isLaw (tm_isLawT M a1) rfl k_138 s_138 (by decide) rfl m_6_78 rfl (hRm (by decide) (by decide)) ⟨Nat.zero_le _, Nat.zero_le _⟩ (Nat.le_of_ble_eq_true rfl) dX11_force_7) ?_
    refine g_if_ne X 20 (by decide) dX11_force_10 (fun q10 => ?_) (fun q10 => ?_)
    · refine g_aload_n X dX11_force_20 0 rfl rfl ?_
      refine get_11_18 X (k := 138) k_138 s_138 m_5_79 dX11_force_21 ?_
      refine g_iconst X dX11_force_24 ic_4 ?_
      refine g_ialdC X (n := 9) (k := 156) k_156 s_156 (by decide) dX11_force_25 ?_
      refine g_ilet X (fun v6 => ?_)
      refine g_istore_n X dX11_force_26 rfl (by decide) rfl [1, 2, 0] (lu := [(0, .ref (ad 138)), (1, .int a1), (2, .int v6)]) rfl ?_
      refine g_aload_n X dX11_force_27 0 rfl rfl ?_
      refine get_11_18 X (k := 138) k_138 s_138 m_5_79 dX11_force_28 ?_
      refine g_iconst X dX11_force_31 ic_4 ?_
      refine g_iload_n X dX11_force_32 1 rfl rfl ?_
      refine g_iastC X (n := 9) (k := 156) k_156 s_156 (by decide) dX11_force_33 ?_
      refine g_mlet X (fun M8 => ?_)
      refine g_iload_n X dX11_force_34 2 rfl rfl ?_
      exact g_iret X hr rfl dX11_force_35
    · refine g_aload_n X dX11_force_13 0 rfl rfl ?_
      refine g_bipush X dX11_force_14 bi_m2 ?_
      refine g_cs X (st := []) (fun _ hh => ok_V X (k0 := 138) (As := [.int (-2)]) wkX11_no (tm_no M (-2) hh) rfl k_138 s_138 (by decide) rfl m_5_154 rfl (hRm (by decide) (by decide)) ⟨Nat.zero_le _, Nat.zero_le _⟩ (Nat.le_of_ble_eq_true rfl) dX11_force_16) (fun r10 M9 _ => ?_)
      exact g_iret X hr rfl dX11_force_19
set_option maxRecDepth 100000 in
set_option maxHeartbeats 4000000 in
theorem tm_isLeaper {l : Launch} {D : va_G} {cy : Nat → ClassId} {ad : Nat → Nat} {N : Mem} (M : Mem) (a1 : Int32) {x : Int32} (h : fm_isLeaper M a1 = some x) : Mt l D cy ad yX11_isLeaper cX11_isLeaper 2 (some .boolean) 1 [.ref (ad 138), .int a1] ((wfM N) M) (some (.int x), (wfM N) M) := by
  refine met_of (fin := (finI M)) (lv0 := [(0, .ref (ad 138)), (1, .int a1)]) (by decide) (Nat.le_of_ble_eq_true rfl) rfl (lM N) h (fun p e s m args below meth c X hr => ?_)
  unfold fm_isLeaper
  refine g_iload_n X dX11_isLeaper_0 1 rfl rfl ?_
  refine g_if_lt X 18 (by decide) dX11_isLeaper_1 (fun q1 => ?_) (fun q1 => ?_)
  · refine g_iconst X dX11_isLeaper_18 ic_0 ?_
    exact g_zret X hr (isB_n (by decide)) rfl dX11_isLeaper_19
  · refine g_iload_n X dX11_isLeaper_4 1 rfl rfl ?_
    refine g_aload_n X dX11_isLeaper_5 0 rfl rfl ?_
    refine get_11_18 X (k := 138) k_138 s_138 m_5_79 dX11_isLeaper_6 ?_
    refine g_iconst X dX11_isLeaper_9 ic_2 ?_
    refine g_ialdC X (n := 9) (k := 156) k_156 s_156 (by decide) dX11_isLeaper_10 ?_
    refine g_icmp_ge X 18 (by decide) dX11_isLeaper_11 (fun q11 => ?_) (fun q11 => ?_)
    · refine g_iconst X dX11_isLeaper_18 ic_0 ?_
      exact g_zret X hr (isB_n (by decide)) rfl dX11_isLeaper_19
    · refine g_iconst X dX11_isLeaper_14 ic_1 ?_
      refine g_goto X 19 (by decide) dX11_isLeaper_15 ?_
      exact g_zret X hr (isB_n (by decide)) rfl dX11_isLeaper_19
theorem tm_isLeaperT {l : Launch} {D : va_G} {cy : Nat → ClassId} {ad : Nat → Nat} {N : Mem} (M : Mem) (a1 : Int32) : Mt l D cy ad yX11_isLeaper cX11_isLeaper 2 (some .boolean) 1 [.ref (ad 138), .int a1] ((wfM N) M) (some (.int (fm_isLeaperT M a1)), (wfM N) M) := tm_isLeaper M a1 (fm_isLeaperE M a1)
set_option maxRecDepth 100000 in
set_option maxHeartbeats 4000000 in
theorem tm_riseAt {l : Launch} {D : va_G} {cy : Nat → ClassId} {ad : Nat → Nat} {N : Mem} (M : Mem) (a1 : Int32) (a2 : Int32) {x : Int32} (h : fm_riseAt M a1 a2 = some x) : Mt l D cy ad yX11_riseAt cX11_riseAt 6 (some .int) 1 [.ref (ad 138), .int a1, .int a2] ((wfM N) M) (some (.int x), (wfM N) M) := by
  refine met_of (fin := (finI M)) (lv0 := [(0, .ref (ad 138)), (1, .int a1), (2, .int a2)]) (by decide) (Nat.le_of_ble_eq_true rfl) rfl (lM N) h (fun p e s m args below meth c X hr => ?_)
  unfold fm_riseAt
  refine g_aload_n X dX11_riseAt_0 0 rfl rfl ?_
  refine get_11_3 X (k := 138) k_138 s_138 m_5_64 dX11_riseAt_1 ?_
  refine g_iload_n X dX11_riseAt_4 1 rfl rfl ?_
  refine g_iald X (n := 20) (k := 142) k_142 s_142 dX11_riseAt_5 (fun h1 => ?_)
  refine g_ilet X (fun v2 => ?_)
  refine g_istore_n X dX11_riseAt_6 rfl (by decide) rfl [1, 2, 3, 0] (lu := [(0, .ref (ad 138)), (1, .int a1), (2, .int a2), (3, .int v2)]) rfl ?_
  refine g_aload_n X dX11_riseAt_7 0 rfl rfl ?_
  refine get_11_6 X (k := 138) k_138 s_138 m_5_67 dX11_riseAt_8 ?_
  refine g_iload_n X dX11_riseAt_11 1 rfl rfl ?_
  refine g_iald X (n := 20) (k := 145) k_145 s_145 dX11_riseAt_12 (fun h3 => ?_)
  refine g_ilet X (fun v4 => ?_)
  refine g_istore X dX11_riseAt_13 (by decide) rfl [3, 4, 0] (lu := [(2, .int a2), (3, .int v2), (4, .int v4)]) rfl ?_
  refine g_iload_n X dX11_riseAt_15 1 rfl rfl ?_
  refine g_iconst X dX11_riseAt_16 ic_3 ?_
  refine g_icmp_ne X 23 (by decide) dX11_riseAt_17 (fun q17 => ?_) (fun q17 => ?_)
  · refine g_iload_n X dX11_riseAt_23 1 rfl rfl ?_
    refine g_iconst X dX11_riseAt_24 ic_4 ?_
    refine g_icmp_ne X 33 (by decide) dX11_riseAt_25 (fun q25 => ?_) (fun q25 => ?_)
    · refine g_iload_n X dX11_riseAt_33 1 rfl rfl ?_
      refine g_if_eq X 42 (by decide) dX11_riseAt_34 (fun q34 => ?_) (fun q34 => ?_)
      · refine g_iload X dX11_riseAt_42 2 rfl ?_
        refine g_iload_n X dX11_riseAt_44 0 rfl rfl ?_
        refine g_isub X dX11_riseAt_45 ?_
        exact g_iret X hr rfl dX11_riseAt_46
      · refine g_iload_n X dX11_riseAt_37 1 rfl rfl ?_
        refine g_iconst X dX11_riseAt_38 ic_5 ?_
        refine g_icmp_ne X 47 (by decide) dX11_riseAt_39 (fun q39 => ?_) (fun q39 => ?_)
        · refine g_iload X dX11_riseAt_47 2 rfl ?_
          refine g_iload_n X dX11_riseAt_49 0 rfl rfl ?_
          refine g_isub X dX11_riseAt_50 ?_
          refine g_bipush X dX11_riseAt_51 bi_10 ?_
          refine g_isub X dX11_riseAt_53 ?_
          refine g_ilet X (fun v5 => ?_)
          refine g_istore X dX11_riseAt_54 (by decide) rfl [2, 0] (lu := [(3, .int v2), (5, .int v5)]) rfl ?_
          refine g_iload_n X dX11_riseAt_56 0 rfl rfl ?_
          refine g_iconst X dX11_riseAt_57 ic_2 ?_
          refine g_icmp_ne X 70 (by decide) dX11_riseAt_58 (fun q58 => ?_) (fun q58 => ?_)
          · refine g_iload X dX11_riseAt_70 1 rfl ?_
            exact g_iret X hr rfl dX11_riseAt_72
          · refine g_iload X dX11_riseAt_61 1 rfl ?_
            refine g_if_ge X 70 (by decide) dX11_riseAt_63 (fun q63 => ?_) (fun q63 => ?_)
            · refine g_iload X dX11_riseAt_70 1 rfl ?_
              exact g_iret X hr rfl dX11_riseAt_72
            · refine g_iconst X dX11_riseAt_66 ic_0 ?_
              refine g_goto X 72 (by decide) dX11_riseAt_67 ?_
              exact g_iret X hr rfl dX11_riseAt_72
        · refine g_iload X dX11_riseAt_42 2 rfl ?_
          refine g_iload_n X dX11_riseAt_44 0 rfl rfl ?_
          refine g_isub X dX11_riseAt_45 ?_
          exact g_iret X hr rfl dX11_riseAt_46
    · refine g_iload X dX11_riseAt_28 2 rfl ?_
      refine g_iconst X dX11_riseAt_30 ic_2 ?_
      refine g_idivC X dX11_riseAt_31 (by decide) ?_
      exact g_iret X hr rfl dX11_riseAt_32
  · refine g_iload X dX11_riseAt_20 2 rfl ?_
    exact g_iret X hr rfl dX11_riseAt_22
set_option maxRecDepth 100000 in
set_option maxHeartbeats 4000000 in
theorem tm_deck {l : Launch} {D : va_G} {cy : Nat → ClassId} {ad : Nat → Nat} {N : Mem} (M : Mem) {x : Int32} (h : fm_deck M = some x) : Mt l D cy ad yX11_deck cX11_deck 1 (some .int) 1 [.ref (ad 138)] ((wfM N) M) (some (.int x), (wfM N) M) := by
  refine met_of (fin := (finI M)) (lv0 := [(0, .ref (ad 138))]) (by decide) (Nat.le_of_ble_eq_true rfl) rfl (lM N) h (fun p e s m args below meth c X hr => ?_)
  unfold fm_deck
  refine g_bipush X dX11_deck_0 bi_20 ?_
  refine g_aload_n X dX11_deck_2 0 rfl rfl ?_
  refine get_11_18 X (k := 138) k_138 s_138 m_5_79 dX11_deck_3 ?_
  refine g_bipush X dX11_deck_6 bi_6 ?_
  refine g_ialdC X (n := 9) (k := 156) k_156 s_156 (by decide) dX11_deck_8 ?_
  refine g_iconst X dX11_deck_9 ic_4 ?_
  refine g_idivC X dX11_deck_10 (by decide) ?_
  refine g_isub X dX11_deck_11 ?_
  exact g_iret X hr rfl dX11_deck_12
theorem tm_deckT {l : Launch} {D : va_G} {cy : Nat → ClassId} {ad : Nat → Nat} {N : Mem} (M : Mem) : Mt l D cy ad yX11_deck cX11_deck 1 (some .int) 1 [.ref (ad 138)] ((wfM N) M) (some (.int (fm_deckT M)), (wfM N) M) := tm_deck M (fm_deckE M)
set_option maxRecDepth 100000 in
set_option maxHeartbeats 4000000 in
theorem tm_isOut {l : Launch} {D : va_G} {cy : Nat → ClassId} {ad : Nat → Nat} {N : Mem} (M : Mem) (a1 : Int32) (a2 : Int32) {x : Int32} (h : fm_isOut M a1 a2 = some x) : Mt l D cy ad yX11_isOut cX11_isOut 4 (some .boolean) 2 [.ref (ad 138), .int a1, .int a2] ((wfM N) M) (some (.int x), (wfM N) M) := by
  refine met_of (fin := (finI M)) (lv0 := [(0, .ref (ad 138)), (1, .int a1), (2, .int a2)]) (by decide) (Nat.le_of_ble_eq_true rfl) rfl (lM N) h (fun p e s m args below meth c X hr => ?_)
  unfold fm_isOut
  refine g_aload_n X dX11_isOut_0 0 rfl rfl ?_
  refine g_iload_n X dX11_isOut_1 1 rfl rfl ?_
  refine g_iload_n X dX11_isOut_2 2 rfl rfl ?_
  refine g_ci X (st := []) (fun _ hh => ok_V X (k0 := 138) (As := [.int a1, .int a2]) wkX11_riseAt (tm_riseAt M a1 a2 hh) rfl k_138 s_138 (by decide) rfl m_5_206 rfl (hRm (by decide) (by decide)) ⟨Nat.zero_le _, Nat.zero_le _⟩ (Nat.le_of_ble_eq_true rfl) dX11_isOut_3) (fun r1 _ => ?_)
  refine g_aload_n X dX11_isOut_6 0 rfl rfl ?_
  refine g_ct X (v0 := .int (fm_deckT M)) (st := [.int r1]) (ok_V X (k0 := 138) (As := []) wkX11_deck (tm_deckT M) rfl k_138 s_138 (by decide) rfl m_5_226 rfl (hRm (by decide) (by decide)) ⟨Nat.zero_le _, Nat.zero_le _⟩ (Nat.le_of_ble_eq_true rfl) dX11_isOut_7) ?_
  refine g_isub X dX11_isOut_10 ?_
  refine g_ilet X (fun v2 => ?_)
  refine g_istore_n X dX11_isOut_11 rfl (by decide) rfl [0] (lu := [(3, .int v2)]) rfl ?_
  refine g_iload_n X dX11_isOut_12 0 rfl rfl ?_
  refine g_bipush X dX11_isOut_13 bi_60 ?_
  refine g_icmp_gt X 24 (by decide) dX11_isOut_15 (fun q15 => ?_) (fun q15 => ?_)
  · refine g_iconst X dX11_isOut_24 ic_1 ?_
    refine g_goto X 29 (by decide) dX11_isOut_25 ?_
    exact g_zret X hr (isB_n (by decide)) rfl dX11_isOut_29
  · refine g_iload_n X dX11_isOut_18 0 rfl rfl ?_
    refine g_bipush X dX11_isOut_19 bi_m60 ?_
    refine g_icmp_ge X 28 (by decide) dX11_isOut_21 (fun q21 => ?_) (fun q21 => ?_)
    · refine g_iconst X dX11_isOut_28 ic_0 ?_
      exact g_zret X hr (isB_n (by decide)) rfl dX11_isOut_29
    · refine g_iconst X dX11_isOut_24 ic_1 ?_
      refine g_goto X 29 (by decide) dX11_isOut_25 ?_
      exact g_zret X hr (isB_n (by decide)) rfl dX11_isOut_29
set_option maxRecDepth 100000 in
set_option maxHeartbeats 4000000 in
theorem tm_first {l : Launch} {D : va_G} {cy : Nat → ClassId} {ad : Nat → Nat} {N : Mem} (M : Mem) (a1 : Int32) {x : Int32} (h : fm_first M a1 = some x) : Mt l D cy ad yX11_first cX11_first 2 (some .int) 1 [.ref (ad 138), .int a1] ((wfM N) M) (some (.int x), (wfM N) M) := by
  refine met_of (fin := (finI M)) (lv0 := [(0, .ref (ad 138)), (1, .int a1)]) (by decide) (Nat.le_of_ble_eq_true rfl) rfl (lM N) h (fun p e s m args below meth c X hr => ?_)
  unfold fm_first
  refine g_iload_n X dX11_first_0 1 rfl rfl ?_
  refine g_if_ne X 7 (by decide) dX11_first_1 (fun q1 => ?_) (fun q1 => ?_)
  · refine g_iload_n X dX11_first_7 1 rfl rfl ?_
    refine g_iconst X dX11_first_8 ic_1 ?_
    refine g_icmp_eq X 18 (by decide) dX11_first_9 (fun q9 => ?_) (fun q9 => ?_)
    · refine g_iconst X dX11_first_18 ic_4 ?_
      exact g_iret X hr rfl dX11_first_19
    · refine g_iload_n X dX11_first_12 1 rfl rfl ?_
      refine g_bipush X dX11_first_13 bi_7 ?_
      refine g_icmp_ne X 20 (by decide) dX11_first_15 (fun q15 => ?_) (fun q15 => ?_)
      · refine g_iload_n X dX11_first_20 1 rfl rfl ?_
        refine g_iconst X dX11_first_21 ic_2 ?_
        refine g_icmp_ne X 27 (by decide) dX11_first_22 (fun q22 => ?_) (fun q22 => ?_)
        · refine g_iload_n X dX11_first_27 1 rfl rfl ?_
          refine g_iconst X dX11_first_28 ic_3 ?_
          refine g_icmp_eq X 37 (by decide) dX11_first_29 (fun q29 => ?_) (fun q29 => ?_)
          · refine g_iconst X dX11_first_37 ic_3 ?_
            exact g_iret X hr rfl dX11_first_38
          · refine g_iload_n X dX11_first_32 1 rfl rfl ?_
            refine g_iconst X dX11_first_33 ic_4 ?_
            refine g_icmp_ne X 39 (by decide) dX11_first_34 (fun q34 => ?_) (fun q34 => ?_)
            · refine g_iload_n X dX11_first_39 1 rfl rfl ?_
              refine g_iconst X dX11_first_40 ic_5 ?_
              refine g_icmp_ne X 47 (by decide) dX11_first_41 (fun q41 => ?_) (fun q41 => ?_)
              · refine g_iload_n X dX11_first_47 1 rfl rfl ?_
                refine g_bipush X dX11_first_48 bi_6 ?_
                refine g_icmp_ne X 58 (by decide) dX11_first_50 (fun q50 => ?_) (fun q50 => ?_)
                · refine g_iconst X dX11_first_58 ic_2 ?_
                  exact g_iret X hr rfl dX11_first_59
                · refine g_bipush X dX11_first_53 bi_20 ?_
                  refine g_goto X 59 (by decide) dX11_first_55 ?_
                  exact g_iret X hr rfl dX11_first_59
              · refine g_bipush X dX11_first_44 bi_40 ?_
                exact g_iret X hr rfl dX11_first_46
            · refine g_iconst X dX11_first_37 ic_3 ?_
              exact g_iret X hr rfl dX11_first_38
        · refine g_iconst X dX11_first_25 ic_5 ?_
          exact g_iret X hr rfl dX11_first_26
      · refine g_iconst X dX11_first_18 ic_4 ?_
        exact g_iret X hr rfl dX11_first_19
  · refine g_bipush X dX11_first_4 bi_40 ?_
    exact g_iret X hr rfl dX11_first_6
theorem tm_firstT {l : Launch} {D : va_G} {cy : Nat → ClassId} {ad : Nat → Nat} {N : Mem} (M : Mem) (a1 : Int32) : Mt l D cy ad yX11_first cX11_first 2 (some .int) 1 [.ref (ad 138), .int a1] ((wfM N) M) (some (.int (fm_firstT M a1)), (wfM N) M) := tm_first M a1 (fm_firstE M a1)
set_option maxRecDepth 100000 in
set_option maxHeartbeats 4000000 in
theorem tm_says1 {l : Launch} {D : va_G} {cy : Nat → ClassId} {ad : Nat → Nat} {N : Mem} (M : Mem) (a1 : Int32) {x : Int32} (h : fm_says1 M a1 = some x) : Mt l D cy ad yX11_says_ cX11_says_ 2 (some .int) 2 [.ref (ad 138), .int a1] ((wfM N) M) (some (.int x), (wfM N) M) := by
  refine met_of (fin := (finI M)) (lv0 := [(0, .ref (ad 138)), (1, .int a1)]) (by decide) (Nat.le_of_ble_eq_true rfl) rfl (lM N) h (fun p e s m args below meth c X hr => ?_)
  unfold fm_says1
  refine g_aload_n X dX11_says__0 0 rfl rfl ?_
  refine get_11_18 X (k := 138) k_138 s_138 m_5_79 dX11_says__1 ?_
  refine g_iconst X dX11_says__4 ic_4 ?_
  refine g_ialdC X (n := 9) (k := 156) k_156 s_156 (by decide) dX11_says__5 ?_
  refine g_if_lt X 26 (by decide) dX11_says__6 (fun q6 => ?_) (fun q6 => ?_)
  · refine g_aload_n X dX11_says__26 0 rfl rfl ?_
    refine g_iload_n X dX11_says__27 1 rfl rfl ?_
    refine g_ct X (v0 := .int (fm_firstT M a1)) (st := []) (ok_V X (k0 := 138) (As := [.int a1]) wkX11_first (tm_firstT M a1) rfl k_138 s_138 (by decide) rfl m_5_238 rfl (hRm (by decide) (by decide)) ⟨Nat.zero_le _, Nat.zero_le _⟩ (Nat.le_of_ble_eq_true rfl) dX11_says__28) ?_
    exact g_iret X hr rfl dX11_says__31
  · refine g_aload_n X dX11_says__9 0 rfl rfl ?_
    refine get_11_10 X (k := 138) k_138 s_138 m_5_71 dX11_says__10 ?_
    refine g_bipush X dX11_says__13 bi_9 ?_
    refine g_aload_n X dX11_says__15 0 rfl rfl ?_
    refine get_11_18 X (k := 138) k_138 s_138 m_5_79 dX11_says__16 ?_
    refine g_iconst X dX11_says__19 ic_4 ?_
    refine g_ialdC X (n := 9) (k := 156) k_156 s_156 (by decide) dX11_says__20 ?_
    refine g_imul X dX11_says__21 ?_
    refine g_iload_n X dX11_says__22 1 rfl rfl ?_
    refine g_iadd X dX11_says__23 ?_
    refine g_iald X (n := 54) (k := 148) k_148 s_148 dX11_says__24 (fun h3 => ?_)
    exact g_iret X hr rfl dX11_says__25
set_option maxRecDepth 100000 in
set_option maxHeartbeats 4000000 in
theorem tm_paces {l : Launch} {D : va_G} {cy : Nat → ClassId} {ad : Nat → Nat} {N : Mem} (M : Mem) (a1 : Int32) {x : Int32} (h : fm_paces M a1 = some x) : Mt l D cy ad yX11_paces cX11_paces 4 (some .int) 1 [.ref (ad 138), .int a1] ((wfM N) M) (some (.int x), (wfM N) M) := by
  refine met_of (fin := (finI M)) (lv0 := [(0, .ref (ad 138)), (1, .int a1)]) (by decide) (Nat.le_of_ble_eq_true rfl) rfl (lM N) h (fun p e s m args below meth c X hr => ?_)
  unfold fm_paces
  refine g_aload_n X dX11_paces_0 0 rfl rfl ?_
  refine get_11_3 X (k := 138) k_138 s_138 m_5_64 dX11_paces_1 ?_
  refine g_iload_n X dX11_paces_4 1 rfl rfl ?_
  refine g_iald X (n := 20) (k := 142) k_142 s_142 dX11_paces_5 (fun h1 => ?_)
  refine g_ilet X (fun v2 => ?_)
  refine g_istore_n X dX11_paces_6 rfl (by decide) rfl [1, 2, 0] (lu := [(0, .ref (ad 138)), (1, .int a1), (2, .int v2)]) rfl ?_
  refine g_aload_n X dX11_paces_7 0 rfl rfl ?_
  refine get_11_5 X (k := 138) k_138 s_138 m_5_66 dX11_paces_8 ?_
  refine g_iload_n X dX11_paces_11 1 rfl rfl ?_
  refine g_iald X (n := 20) (k := 144) k_144 s_144 dX11_paces_12 (fun h3 => ?_)
  refine g_ilet X (fun v4 => ?_)
  refine g_istore_n X dX11_paces_13 rfl (by decide) rfl [3, 0] (lu := [(2, .int v2), (3, .int v4)]) rfl ?_
  refine g_iload_n X dX11_paces_14 0 rfl rfl ?_
  refine g_if_eq X 23 (by decide) dX11_paces_15 (fun q15 => ?_) (fun q15 => ?_)
  · refine g_iload_n X dX11_paces_23 1 rfl rfl ?_
    exact g_iret X hr rfl dX11_paces_24
  · refine g_iload_n X dX11_paces_18 0 rfl rfl ?_
    refine g_iconst X dX11_paces_19 ic_3 ?_
    refine g_icmp_ne X 25 (by decide) dX11_paces_20 (fun q20 => ?_) (fun q20 => ?_)
    · refine g_iload_n X dX11_paces_25 0 rfl rfl ?_
      refine g_iconst X dX11_paces_26 ic_1 ?_
      refine g_icmp_ne X 34 (by decide) dX11_paces_27 (fun q27 => ?_) (fun q27 => ?_)
      · refine g_iload_n X dX11_paces_34 0 rfl rfl ?_
        refine g_iconst X dX11_paces_35 ic_2 ?_
        refine g_icmp_ne X 45 (by decide) dX11_paces_36 (fun q36 => ?_) (fun q36 => ?_)
        · refine g_iload_n X dX11_paces_45 0 rfl rfl ?_
          refine g_iconst X dX11_paces_46 ic_4 ?_
          refine g_icmp_ne X 56 (by decide) dX11_paces_47 (fun q47 => ?_) (fun q47 => ?_)
          · refine g_iconst X dX11_paces_56 ic_1 ?_
            exact g_iret X hr rfl dX11_paces_57
          · refine g_iload_n X dX11_paces_50 1 rfl rfl ?_
            refine g_iconst X dX11_paces_51 ic_2 ?_
            refine g_iadd X dX11_paces_52 ?_
            refine g_goto X 57 (by decide) dX11_paces_53 ?_
            exact g_iret X hr rfl dX11_paces_57
        · refine g_iconst X dX11_paces_39 ic_2 ?_
          refine g_iload_n X dX11_paces_40 1 rfl rfl ?_
          refine g_imul X dX11_paces_41 ?_
          refine g_iconst X dX11_paces_42 ic_4 ?_
          refine g_iadd X dX11_paces_43 ?_
          exact g_iret X hr rfl dX11_paces_44
      · refine g_iconst X dX11_paces_30 ic_2 ?_
        refine g_iload_n X dX11_paces_31 1 rfl rfl ?_
        refine g_imul X dX11_paces_32 ?_
        exact g_iret X hr rfl dX11_paces_33
    · refine g_iload_n X dX11_paces_23 1 rfl rfl ?_
      exact g_iret X hr rfl dX11_paces_24
set_option maxRecDepth 100000 in
set_option maxHeartbeats 4000000 in
theorem tm_isTimeAt {l : Launch} {D : va_G} {cy : Nat → ClassId} {ad : Nat → Nat} {N : Mem} (M : Mem) (a1 : Int32) (a2 : Int32) {x : Int32} (h : fm_isTimeAt M a1 a2 = some x) : Mt l D cy ad yX11_isTimeAt cX11_isTimeAt 4 (some .boolean) 3 [.ref (ad 138), .int a1, .int a2] ((wfM N) M) (some (.int x), (wfM N) M) := by
  refine met_of (fin := (finI M)) (lv0 := [(0, .ref (ad 138)), (1, .int a1), (2, .int a2)]) (by decide) (Nat.le_of_ble_eq_true rfl) rfl (lM N) h (fun p e s m args below meth c X hr => ?_)
  unfold fm_isTimeAt
  refine g_aload_n X dX11_isTimeAt_0 0 rfl rfl ?_
  refine g_iconst X dX11_isTimeAt_1 ic_2 ?_
  refine g_ci X (st := []) (fun _ hh => ok_V X (k0 := 138) (As := [.int 2]) wkX11_says_ (tm_says1 M 2 hh) rfl k_138 s_138 (by decide) rfl m_5_234 rfl (hRm (by decide) (by decide)) ⟨Nat.zero_le _, Nat.zero_le _⟩ (Nat.le_of_ble_eq_true rfl) dX11_isTimeAt_2) (fun r1 _ => ?_)
  refine g_istore_n X dX11_isTimeAt_5 rfl (by decide) rfl [1, 2, 3, 0] (lu := [(0, .ref (ad 138)), (1, .int a1), (2, .int a2), (3, .int r1)]) rfl ?_
  refine g_iconst X dX11_isTimeAt_6 ic_2 ?_
  refine g_aload_n X dX11_isTimeAt_7 0 rfl rfl ?_
  refine g_iload_n X dX11_isTimeAt_8 1 rfl rfl ?_
  refine g_ci X (st := [.int 2]) (fun _ hh => ok_V X (k0 := 138) (As := [.int a1]) wkX11_paces (tm_paces M a1 hh) rfl k_138 s_138 (by decide) rfl m_5_202 rfl (hRm (by decide) (by decide)) ⟨Nat.zero_le _, Nat.zero_le _⟩ (Nat.le_of_ble_eq_true rfl) dX11_isTimeAt_9) (fun r2 _ => ?_)
  refine g_imul X dX11_isTimeAt_12 ?_
  refine g_iload_n X dX11_isTimeAt_13 3 rfl rfl ?_
  refine g_iadd X dX11_isTimeAt_14 ?_
  refine g_iconst X dX11_isTimeAt_15 ic_1 ?_
  refine g_isub X dX11_isTimeAt_16 ?_
  refine g_iload_n X dX11_isTimeAt_17 3 rfl rfl ?_
  refine g_idiv X dX11_isTimeAt_18 (fun _ => ?_)
  refine g_aload_n X dX11_isTimeAt_19 0 rfl rfl ?_
  refine g_iconst X dX11_isTimeAt_20 ic_3 ?_
  refine g_ci X (st := [.int (((((2 : Int32) * r2) + r1) - 1) / r1)]) (fun _ hh => ok_V X (k0 := 138) (As := [.int 3]) wkX11_says_ (tm_says1 M 3 hh) rfl k_138 s_138 (by decide) rfl m_5_234 rfl (hRm (by decide) (by decide)) ⟨Nat.zero_le _, Nat.zero_le _⟩ (Nat.le_of_ble_eq_true rfl) dX11_isTimeAt_21) (fun r3 _ => ?_)
  refine g_iadd X dX11_isTimeAt_24 ?_
  refine g_aload_n X dX11_isTimeAt_25 0 rfl rfl ?_
  refine g_iconst X dX11_isTimeAt_26 ic_0 ?_
  refine g_ci X (st := [.int ((((((2 : Int32) * r2) + r1) - 1) / r1) + r3)]) (fun _ hh => ok_V X (k0 := 138) (As := [.int 0]) wkX11_says_ (tm_says1 M 0 hh) rfl k_138 s_138 (by decide) rfl m_5_234 rfl (hRm (by decide) (by decide)) ⟨Nat.zero_le _, Nat.zero_le _⟩ (Nat.le_of_ble_eq_true rfl) dX11_isTimeAt_27) (fun r4 _ => ?_)
  refine g_iload_n X dX11_isTimeAt_30 2 rfl rfl ?_
  refine g_idiv X dX11_isTimeAt_31 (fun _ => ?_)
  refine g_icmp_gt X 39 (by decide) dX11_isTimeAt_32 (fun q32 => ?_) (fun q32 => ?_)
  · refine g_iconst X dX11_isTimeAt_39 ic_0 ?_
    exact g_zret X hr (isB_n (by decide)) rfl dX11_isTimeAt_40
  · refine g_iconst X dX11_isTimeAt_35 ic_1 ?_
    refine g_goto X 40 (by decide) dX11_isTimeAt_36 ?_
    exact g_zret X hr (isB_n (by decide)) rfl dX11_isTimeAt_40
set_option maxRecDepth 100000 in
set_option maxHeartbeats 4000000 in
theorem tm_isTime {l : Launch} {D : va_G} {cy : Nat → ClassId} {ad : Nat → Nat} {N : Mem} (M : Mem) (a1 : Int32) {x : Int32} (h : fm_isTime M a1 = some x) : Mt l D cy ad yX11_isTime cX11_isTime 2 (some .boolean) 4 [.ref (ad 138), .int a1] ((wfM N) M) (some (.int x), (wfM N) M) := by
  refine met_of (fin := (finI M)) (lv0 := [(0, .ref (ad 138)), (1, .int a1)]) (by decide) (Nat.le_of_ble_eq_true rfl) rfl (lM N) h (fun p e s m args below meth c X hr => ?_)
  unfold fm_isTime
  refine g_aload_n X dX11_isTime_0 0 rfl rfl ?_
  refine g_iload_n X dX11_isTime_1 1 rfl rfl ?_
  refine g_aload_n X dX11_isTime_2 0 rfl rfl ?_
  refine g_iconst X dX11_isTime_3 ic_1 ?_
  refine g_ci X (st := [.int a1, .ref (ad 138)]) (fun _ hh => ok_V X (k0 := 138) (As := [.int 1]) wkX11_says_ (tm_says1 M 1 hh) rfl k_138 s_138 (by decide) rfl m_5_234 rfl (hRm (by decide) (by decide)) ⟨Nat.zero_le _, Nat.zero_le _⟩ (Nat.le_of_ble_eq_true rfl) dX11_isTime_4) (fun r1 _ => ?_)
  refine g_ci X (st := []) (fun _ hh => ok_V X (k0 := 138) (As := [.int a1, .int r1]) wkX11_isTimeAt (tm_isTimeAt M a1 r1 hh) rfl k_138 s_138 (by decide) rfl m_6_2 rfl (hRm (by decide) (by decide)) ⟨Nat.zero_le _, Nat.zero_le _⟩ (Nat.le_of_ble_eq_true rfl) dX11_isTime_7) (fun r2 _ => ?_)
  exact g_gd (fun hz => g_zret X hr (isB_n hz) rfl dX11_isTime_10)
set_option maxRecDepth 100000 in
set_option maxHeartbeats 4000000 in
theorem tm_riskOf {l : Launch} {D : va_G} {cy : Nat → ClassId} {ad : Nat → Nat} {N : Mem} (M : Mem) (a1 : Int32) (a2 : Int32) (a3 : Int32) {x : Int32} (h : fm_riskOf M a1 a2 a3 = some x) : Mt l D cy ad yX11_riskOf cX11_riskOf 6 (some .int) 5 [.ref (ad 138), .int a1, .int a2, .int a3] ((wfM N) M) (some (.int x), (wfM N) M) := by
  refine met_of (fin := (finI M)) (lv0 := [(0, .ref (ad 138)), (1, .int a1), (2, .int a2), (3, .int a3)]) (by decide) (Nat.le_of_ble_eq_true rfl) rfl (lM N) h (fun p e s m args below meth c X hr => ?_)
  unfold fm_riskOf
  refine g_aload_n X dX11_riskOf_0 0 rfl rfl ?_
  refine g_iload_n X dX11_riskOf_1 2 rfl rfl ?_
  refine g_aload_n X dX11_riskOf_2 0 rfl rfl ?_
  refine get_11_18 X (k := 138) k_138 s_138 m_5_79 dX11_riskOf_3 ?_
  refine g_iconst X dX11_riskOf_6 ic_5 ?_
  refine g_ialdC X (n := 9) (k := 156) k_156 s_156 (by decide) dX11_riskOf_7 ?_
  refine g_ci X (st := []) (fun _ hh => ok_V X (k0 := 138) (As := [.int a2, .int (M.1 156 (ix 5))]) wkX11_isOut (tm_isOut M a2 (M.1 156 (ix 5)) hh) rfl k_138 s_138 (by decide) rfl m_5_222 rfl (hRm (by decide) (by decide)) ⟨Nat.zero_le _, Nat.zero_le _⟩ (Nat.le_of_ble_eq_true rfl) dX11_riskOf_8) (fun r2 _ => ?_)
  refine g_if_ne X 22 (by decide) dX11_riskOf_11 (fun q11 => ?_) (fun q11 => ?_)
  · refine g_sipush X dX11_riskOf_22 si_1000 ?_
    exact g_iret X hr rfl dX11_riskOf_25
  · refine g_aload_n X dX11_riskOf_14 0 rfl rfl ?_
    refine g_iload_n X dX11_riskOf_15 2 rfl rfl ?_
    refine g_ci X (st := []) (fun _ hh => ok_V X (k0 := 138) (As := [.int a2]) wkX11_isTime (tm_isTime M a2 hh) rfl k_138 s_138 (by decide) rfl m_5_230 rfl (hRm (by decide) (by decide)) ⟨Nat.zero_le _, Nat.zero_le _⟩ (Nat.le_of_ble_eq_true rfl) dX11_riskOf_16) (fun r3 _ => ?_)
    refine g_if_ne X 26 (by decide) dX11_riskOf_19 (fun q19 => ?_) (fun q19 => ?_)
    · refine g_aload_n X dX11_riskOf_26 0 rfl rfl ?_
      refine g_iload_n X dX11_riskOf_27 2 rfl rfl ?_
      refine g_aload_n X dX11_riskOf_28 0 rfl rfl ?_
      refine get_11_18 X (k := 138) k_138 s_138 m_5_79 dX11_riskOf_29 ?_
      refine g_iconst X dX11_riskOf_32 ic_5 ?_
      refine g_ialdC X (n := 9) (k := 156) k_156 s_156 (by decide) dX11_riskOf_33 ?_
      refine g_ci X (st := []) (fun _ hh => ok_V X (k0 := 138) (As := [.int a2, .int (M.1 156 (ix 5))]) wkX11_riseAt (tm_riseAt M a2 (M.1 156 (ix 5)) hh) rfl k_138 s_138 (by decide) rfl m_5_206 rfl (hRm (by decide) (by decide)) ⟨Nat.zero_le _, Nat.zero_le _⟩ (Nat.le_of_ble_eq_true rfl) dX11_riskOf_34) (fun r5 _ => ?_)
      refine g_aload_n X dX11_riskOf_37 0 rfl rfl ?_
      refine g_ct X (v0 := .int (fm_deckT M)) (st := [.int r5]) (ok_V X (k0 := 138) (As := []) wkX11_deck (tm_deckT M) rfl k_138 s_138 (by decide) rfl m_5_226 rfl (hRm (by decide) (by decide)) ⟨Nat.zero_le _, Nat.zero_le _⟩ (Nat.le_of_ble_eq_true rfl) dX11_riskOf_38) ?_
      refine g_isub X dX11_riskOf_41 ?_
      refine g_ilet X (fun v6 => ?_)
      refine g_istore X dX11_riskOf_42 (by decide) rfl [1, 2, 3, 4, 0] (lu := [(0, .ref (ad 138)), (1, .int a1), (2, .int a2), (3, .int a3), (4, .int v6)]) rfl ?_
      refine g_aload_n X dX11_riskOf_44 0 rfl rfl ?_
      refine g_iconst X dX11_riskOf_45 ic_4 ?_
      refine g_ci X (st := []) (fun _ hh => ok_V X (k0 := 138) (As := [.int 4]) wkX11_says_ (tm_says1 M 4 hh) rfl k_138 s_138 (by decide) rfl m_5_234 rfl (hRm (by decide) (by decide)) ⟨Nat.zero_le _, Nat.zero_le _⟩ (Nat.le_of_ble_eq_true rfl) dX11_riskOf_46) (fun r7 _ => ?_)
      refine g_iload X dX11_riskOf_49 4 rfl ?_
      refine g_jlet X 62 (fun z62 : Int32 => [(0, .ref (ad 138)), (1, .int a1), (2, .int a2), (3, .int a3)]) (fun z62 : Int32 => [.int z62, .int r7]) (fun z62 : Int32 => M) (fun z62 => ?_) (fun J62 hJ62 => ?_)
      · show GF _ _ _ _ _ _ _ _ _ _ _ _ _ _ _ _ _ _ _ _ _ 62 [(0, .ref (ad 138)), (1, .int a1), (2, .int a2), (3, .int a3)] [.int z62, .int r7] M
        refine g_imul X dX11_riskOf_62 ?_
        refine g_aload_n X dX11_riskOf_63 0 rfl rfl ?_
        refine g_iconst X dX11_riskOf_64 ic_5 ?_
        refine g_ci X (st := [.int (r7 * z62)]) (fun _ hh => ok_V X (k0 := 138) (As := [.int 5]) wkX11_says_ (tm_says1 M 5 hh) rfl k_138 s_138 (by decide) rfl m_5_234 rfl (hRm (by decide) (by decide)) ⟨Nat.zero_le _, Nat.zero_le _⟩ (Nat.le_of_ble_eq_true rfl) dX11_riskOf_65) (fun r8 _ => ?_)
        refine g_aload_n X dX11_riskOf_68 0 rfl rfl ?_
        refine get_11_7 X (k := 138) k_138 s_138 m_5_68 dX11_riskOf_69 ?_
        refine g_iload_n X dX11_riskOf_72 2 rfl rfl ?_
        refine g_iald X (n := 20) (k := 146) k_146 s_146 dX11_riskOf_73 (fun h9 => ?_)
        refine g_imul X dX11_riskOf_74 ?_
        refine g_iadd X dX11_riskOf_75 ?_
        refine g_aload_n X dX11_riskOf_76 0 rfl rfl ?_
        refine g_bipush X dX11_riskOf_77 bi_6 ?_
        refine g_ci X (st := [.int ((r7 * z62) + (r8 * (M.1 146 (ix a2))))]) (fun _ hh => ok_V X (k0 := 138) (As := [.int 6]) wkX11_says_ (tm_says1 M 6 hh) rfl k_138 s_138 (by decide) rfl m_5_234 rfl (hRm (by decide) (by decide)) ⟨Nat.zero_le _, Nat.zero_le _⟩ (Nat.le_of_ble_eq_true rfl) dX11_riskOf_79) (fun r10 _ => ?_)
        refine g_aload_n X dX11_riskOf_82 0 rfl rfl ?_
        refine get_11_17 X (k := 138) k_138 s_138 m_5_78 dX11_riskOf_83 ?_
        refine g_iload_n X dX11_riskOf_86 3 rfl rfl ?_
        refine g_iald X (n := 12) (k := 155) k_155 s_155 dX11_riskOf_87 (fun h11 => ?_)
        refine g_imul X dX11_riskOf_88 ?_
        refine g_iadd X dX11_riskOf_89 ?_
        refine g_aload_n X dX11_riskOf_90 0 rfl rfl ?_
        refine g_bipush X dX11_riskOf_91 bi_7 ?_
        refine g_ci X (st := [.int (((r7 * z62) + (r8 * (M.1 146 (ix a2)))) + (r10 * (M.1 155 (ix a3))))]) (fun _ hh => ok_V X (k0 := 138) (As := [.int 7]) wkX11_says_ (tm_says1 M 7 hh) rfl k_138 s_138 (by decide) rfl m_5_234 rfl (hRm (by decide) (by decide)) ⟨Nat.zero_le _, Nat.zero_le _⟩ (Nat.le_of_ble_eq_true rfl) dX11_riskOf_93) (fun r12 _ => ?_)
        refine g_aload_n X dX11_riskOf_96 0 rfl rfl ?_
        refine get_11_11 X (k := 138) k_138 s_138 m_5_72 dX11_riskOf_97 ?_
        refine g_iload_n X dX11_riskOf_100 1 rfl rfl ?_
        refine g_iald X (n := 6) (k := 149) k_149 s_149 dX11_riskOf_101 (fun h13 => ?_)
        refine g_imul X dX11_riskOf_102 ?_
        refine g_isub X dX11_riskOf_103 ?_
        refine g_ilet X (fun v14 => ?_)
        refine g_istore X dX11_riskOf_104 (by decide) rfl [0] (lu := [(5, .int v14)]) rfl ?_
        refine g_iload X dX11_riskOf_106 0 rfl ?_
        refine g_if_ge X 113 (by decide) dX11_riskOf_108 (fun q108 => ?_) (fun q108 => ?_)
        · refine g_iload X dX11_riskOf_113 0 rfl ?_
          refine g_sipush X dX11_riskOf_115 si_1000 ?_
          refine g_icmp_le X 127 (by decide) dX11_riskOf_118 (fun q118 => ?_) (fun q118 => ?_)
          · refine g_iload X dX11_riskOf_127 0 rfl ?_
            exact g_iret X hr rfl dX11_riskOf_129
          · refine g_sipush X dX11_riskOf_121 si_1000 ?_
            refine g_goto X 129 (by decide) dX11_riskOf_124 ?_
            exact g_iret X hr rfl dX11_riskOf_129
        · refine g_iconst X dX11_riskOf_111 ic_0 ?_
          exact g_iret X hr rfl dX11_riskOf_112
      refine g_if_ge X 60 (by decide) dX11_riskOf_51 (fun q51 => ?_) (fun q51 => ?_)
      · refine g_iload X dX11_riskOf_60 4 rfl ?_
        refine g_sub (lu := [(0, .ref (ad 138)), (1, .int a1), (2, .int a2), (3, .int a3)]) [0, 1, 2, 3] rfl ?_
        exact hJ62 v6
      · refine g_iload X dX11_riskOf_54 4 rfl ?_
        refine g_ineg X dX11_riskOf_56 ?_
        refine g_goto X 62 (by decide) dX11_riskOf_57 ?_
        refine g_sub (lu := [(0, .ref (ad 138)), (1, .int a1), (2, .int a2), (3, .int a3)]) [0, 1, 2, 3] rfl ?_
        exact hJ62 (-v6)
    · refine g_sipush X dX11_riskOf_22 si_1000 ?_
      exact g_iret X hr rfl dX11_riskOf_25
set_option maxRecDepth 100000 in
set_option maxHeartbeats 4000000 in
theorem tm_risk {l : Launch} {D : va_G} {cy : Nat → ClassId} {ad : Nat → Nat} {N : Mem} (M : Mem) (a1 : Int32) (a2 : Int32) (a3 : Int32) {x : (Int32 × Mem)} (h : fm_risk M a1 a2 a3 = some x) : Mt l D cy ad yX11_risk cX11_risk 4 (some .int) 6 [.ref (ad 138), .int a1, .int a2, .int a3] ((wfM N) M) (some (.int x.1), (wfM N) x.2) := by
  refine met_of (fin := finS) (lv0 := [(0, .ref (ad 138)), (1, .int a1), (2, .int a2), (3, .int a3)]) (by decide) (Nat.le_of_ble_eq_true rfl) rfl (lM N) h (fun p e s m args below meth c X hr => ?_)
  unfold fm_risk
  refine g_aload_n X dX11_risk_0 0 rfl rfl ?_
  refine g_iload_n X dX11_risk_1 1 rfl rfl ?_
  refine g_ct X (v0 := .int (fm_isLeaperT M a1)) (st := []) (ok_V X (k0 := 138) (As := [.int a1]) wkX11_isLeaper (tm_isLeaperT M a1) rfl k_138 s_138 (by decide) rfl m_6_94 rfl (hRm (by decide) (by decide)) ⟨Nat.zero_le _, Nat.zero_le _⟩ (Nat.le_of_ble_eq_true rfl) dX11_risk_2) ?_
  refine g_if_eq X 24 (by decide) dX11_risk_5 (fun q5 => ?_) (fun q5 => ?_)
  · refine g_aload_n X dX11_risk_24 0 rfl rfl ?_
    refine g_bipush X dX11_risk_25 bi_m2 ?_
    refine g_cs X (st := []) (fun _ hh => ok_V X (k0 := 138) (As := [.int (-2)]) wkX11_no (tm_no M (-2) hh) rfl k_138 s_138 (by decide) rfl m_5_154 rfl (hRm (by decide) (by decide)) ⟨Nat.zero_le _, Nat.zero_le _⟩ (Nat.le_of_ble_eq_true rfl) dX11_risk_27) (fun r2 M1 _ => ?_)
    exact g_iret X hr rfl dX11_risk_30
  · refine g_aload_n X dX11_risk_8 0 rfl rfl ?_
    refine g_iload_n X dX11_risk_9 2 rfl rfl ?_
    refine g_ct X (v0 := .int (fm_isJettyT M a2)) (st := []) (ok_V X (k0 := 138) (As := [.int a2]) wkX11_isJetty (tm_isJettyT M a2) rfl k_138 s_138 (by decide) rfl m_5_190 rfl (hRm (by decide) (by decide)) ⟨Nat.zero_le _, Nat.zero_le _⟩ (Nat.le_of_ble_eq_true rfl) dX11_risk_10) ?_
    refine g_if_eq X 24 (by decide) dX11_risk_13 (fun q13 => ?_) (fun q13 => ?_)
    · refine g_aload_n X dX11_risk_24 0 rfl rfl ?_
      refine g_bipush X dX11_risk_25 bi_m2 ?_
      refine g_cs X (st := []) (fun _ hh => ok_V X (k0 := 138) (As := [.int (-2)]) wkX11_no (tm_no M (-2) hh) rfl k_138 s_138 (by decide) rfl m_5_154 rfl (hRm (by decide) (by decide)) ⟨Nat.zero_le _, Nat.zero_le _⟩ (Nat.le_of_ble_eq_true rfl) dX11_risk_27) (fun r4 M3 _ => ?_)
      exact g_iret X hr rfl dX11_risk_30
    · refine g_aload_n X dX11_risk_16 0 rfl rfl ?_
      refine g_iload_n X dX11_risk_17 3 rfl rfl ?_
      refine g_ct X (v0 := .int (fm_isHourT M a3)) (st := []) (ok_V X (k0 := 138) (As := [.int a3]) wkX11_isHour (tm_isHourT M a3) rfl k_138 s_138 (by decide) rfl m_6_26 rfl (hRm (by decide) (by decide)) ⟨Nat.zero_le _, Nat.zero_le _⟩ (Nat.le_of_ble_eq_true rfl) dX11_risk_18) ?_
      refine g_if_ne X 31 (by decide) dX11_risk_21 (fun q21 => ?_) (fun q21 => ?_)
      · refine g_aload_n X dX11_risk_31 0 rfl rfl ?_
        refine g_iload_n X dX11_risk_32 1 rfl rfl ?_
        refine g_iload_n X dX11_risk_33 2 rfl rfl ?_
        refine g_iload_n X dX11_risk_34 3 rfl rfl ?_
        refine g_ci X (st := []) (fun _ hh => ok_V X (k0 := 138) (As := [.int a1, .int a2, .int a3]) wkX11_riskOf (tm_riskOf M a1 a2 a3 hh) rfl k_138 s_138 (by decide) rfl m_6_118 rfl (hRm (by decide) (by decide)) ⟨Nat.zero_le _, Nat.zero_le _⟩ (Nat.le_of_ble_eq_true rfl) dX11_risk_35) (fun r5 _ => ?_)
        exact g_iret X hr rfl dX11_risk_38
      · refine g_aload_n X dX11_risk_24 0 rfl rfl ?_
        refine g_bipush X dX11_risk_25 bi_m2 ?_
        refine g_cs X (st := []) (fun _ hh => ok_V X (k0 := 138) (As := [.int (-2)]) wkX11_no (tm_no M (-2) hh) rfl k_138 s_138 (by decide) rfl m_5_154 rfl (hRm (by decide) (by decide)) ⟨Nat.zero_le _, Nat.zero_le _⟩ (Nat.le_of_ble_eq_true rfl) dX11_risk_27) (fun r7 M6 _ => ?_)
        exact g_iret X hr rfl dX11_risk_30
set_option maxRecDepth 100000 in
set_option maxHeartbeats 4000000 in
theorem tm_legAt {l : Launch} {D : va_G} {cy : Nat → ClassId} {ad : Nat → Nat} {N : Mem} (M : Mem) (a1 : Int32) (a2 : Int32) (a3 : Int32) {x : Int32} (h : fm_legAt M a1 a2 a3 = some x) : Mt l D cy ad yX11_legAt cX11_legAt 7 (some .int) 3 [.ref (ad 138), .int a1, .int a2, .int a3] ((wfM N) M) (some (.int x), (wfM N) M) := by
  refine met_of (fin := (finI M)) (lv0 := [(0, .ref (ad 138)), (1, .int a1), (2, .int a2), (3, .int a3)]) (by decide) (Nat.le_of_ble_eq_true rfl) rfl (lM N) h (fun p e s m args below meth c X hr => ?_)
  unfold fm_legAt
  refine g_iload_n X dX11_legAt_0 1 rfl rfl ?_
  refine g_bipush X dX11_legAt_1 bi_16 ?_
  refine g_idivC X dX11_legAt_3 (by decide) ?_
  refine g_iload_n X dX11_legAt_4 2 rfl rfl ?_
  refine g_bipush X dX11_legAt_5 bi_16 ?_
  refine g_idivC X dX11_legAt_7 (by decide) ?_
  refine g_isub X dX11_legAt_8 ?_
  refine g_ilet X (fun v1 => ?_)
  refine g_istore X dX11_legAt_9 (by decide) rfl [1, 2, 3, 4, 0] (lu := [(0, .ref (ad 138)), (1, .int a1), (2, .int a2), (3, .int a3), (4, .int v1)]) rfl ?_
  refine g_iload_n X dX11_legAt_11 1 rfl rfl ?_
  refine g_bipush X dX11_legAt_12 bi_16 ?_
  refine g_iremC X dX11_legAt_14 (by decide) ?_
  refine g_iload_n X dX11_legAt_15 2 rfl rfl ?_
  refine g_bipush X dX11_legAt_16 bi_16 ?_
  refine g_iremC X dX11_legAt_18 (by decide) ?_
  refine g_isub X dX11_legAt_19 ?_
  refine g_ilet X (fun v2 => ?_)
  refine g_istore X dX11_legAt_20 (by decide) rfl [1, 4, 5, 0] (lu := [(0, .ref (ad 138)), (3, .int a3), (4, .int v1), (5, .int v2)]) rfl ?_
  refine g_iload X dX11_legAt_22 2 rfl ?_
  refine g_jlet X 35 (fun z35 : Int32 => [(0, .ref (ad 138)), (3, .int a3), (5, .int v2)]) (fun z35 : Int32 => [.int z35]) (fun z35 : Int32 => M) (fun z35 => ?_) (fun J35 hJ35 => ?_)
  · show GF _ _ _ _ _ _ _ _ _ _ _ _ _ _ _ _ _ _ _ _ _ 35 [(0, .ref (ad 138)), (3, .int a3), (5, .int v2)] [.int z35] M
    refine g_iload X dX11_legAt_35 2 rfl ?_
    refine g_if_ge X 46 (by decide) dX11_legAt_37 (fun q37 => ?_) (fun q37 => ?_)
    · refine g_iload X dX11_legAt_46 2 rfl ?_
      refine g_iadd X dX11_legAt_48 ?_
      refine g_ilet X (fun v3 => ?_)
      refine g_istore X dX11_legAt_49 (by decide) rfl [1, 2, 0] (lu := [(0, .ref (ad 138)), (3, .int a3), (6, .int v3)]) rfl ?_
      refine g_aload_n X dX11_legAt_51 0 rfl rfl ?_
      refine g_bipush X dX11_legAt_52 bi_8 ?_
      refine g_ci X (st := []) (fun _ hh => ok_V X (k0 := 138) (As := [.int 8]) wkX11_says_ (tm_says1 M 8 hh) rfl k_138 s_138 (by decide) rfl m_5_234 rfl (hRm (by decide) (by decide)) ⟨Nat.zero_le _, Nat.zero_le _⟩ (Nat.le_of_ble_eq_true rfl) dX11_legAt_54) (fun r4 _ => ?_)
      refine g_iload X dX11_legAt_57 2 rfl ?_
      refine g_imul X dX11_legAt_59 ?_
      refine g_iload_n X dX11_legAt_60 1 rfl rfl ?_
      refine g_iadd X dX11_legAt_61 ?_
      refine g_iconst X dX11_legAt_62 ic_1 ?_
      refine g_isub X dX11_legAt_63 ?_
      refine g_iload_n X dX11_legAt_64 1 rfl rfl ?_
      refine g_idiv X dX11_legAt_65 (fun _ => ?_)
      exact g_iret X hr rfl dX11_legAt_66
    · refine g_iload X dX11_legAt_40 2 rfl ?_
      refine g_ineg X dX11_legAt_42 ?_
      refine g_goto X 48 (by decide) dX11_legAt_43 ?_
      refine g_iadd X dX11_legAt_48 ?_
      refine g_ilet X (fun v5 => ?_)
      refine g_istore X dX11_legAt_49 (by decide) rfl [1, 2, 0] (lu := [(0, .ref (ad 138)), (3, .int a3), (6, .int v5)]) rfl ?_
      refine g_aload_n X dX11_legAt_51 0 rfl rfl ?_
      refine g_bipush X dX11_legAt_52 bi_8 ?_
      refine g_ci X (st := []) (fun _ hh => ok_V X (k0 := 138) (As := [.int 8]) wkX11_says_ (tm_says1 M 8 hh) rfl k_138 s_138 (by decide) rfl m_5_234 rfl (hRm (by decide) (by decide)) ⟨Nat.zero_le _, Nat.zero_le _⟩ (Nat.le_of_ble_eq_true rfl) dX11_legAt_54) (fun r6 _ => ?_)
      refine g_iload X dX11_legAt_57 2 rfl ?_
      refine g_imul X dX11_legAt_59 ?_
      refine g_iload_n X dX11_legAt_60 1 rfl rfl ?_
      refine g_iadd X dX11_legAt_61 ?_
      refine g_iconst X dX11_legAt_62 ic_1 ?_
      refine g_isub X dX11_legAt_63 ?_
      refine g_iload_n X dX11_legAt_64 1 rfl rfl ?_
      refine g_idiv X dX11_legAt_65 (fun _ => ?_)
      exact g_iret X hr rfl dX11_legAt_66
  refine g_if_ge X 33 (by decide) dX11_legAt_24 (fun q24 => ?_) (fun q24 => ?_)
  · refine g_iload X dX11_legAt_33 2 rfl ?_
    refine g_sub (lu := [(0, .ref (ad 138)), (3, .int a3), (5, .int v2)]) [0, 1, 3] rfl ?_
    exact hJ35 v1
  · refine g_iload X dX11_legAt_27 2 rfl ?_
    refine g_ineg X dX11_legAt_29 ?_
    refine g_goto X 35 (by decide) dX11_legAt_30 ?_
    refine g_sub (lu := [(0, .ref (ad 138)), (3, .int a3), (5, .int v2)]) [0, 1, 3] rfl ?_
    exact hJ35 (-v1)
set_option maxRecDepth 100000 in
set_option maxHeartbeats 4000000 in
theorem tm_legOf {l : Launch} {D : va_G} {cy : Nat → ClassId} {ad : Nat → Nat} {N : Mem} (M : Mem) (a1 : Int32) (a2 : Int32) {x : Int32} (h : fm_legOf M a1 a2 = some x) : Mt l D cy ad yX11_legOf cX11_legOf 3 (some .int) 4 [.ref (ad 138), .int a1, .int a2] ((wfM N) M) (some (.int x), (wfM N) M) := by
  refine met_of (fin := (finI M)) (lv0 := [(0, .ref (ad 138)), (1, .int a1), (2, .int a2)]) (by decide) (Nat.le_of_ble_eq_true rfl) rfl (lM N) h (fun p e s m args below meth c X hr => ?_)
  unfold fm_legOf
  refine g_aload_n X dX11_legOf_0 0 rfl rfl ?_
  refine g_iload_n X dX11_legOf_1 1 rfl rfl ?_
  refine g_iload_n X dX11_legOf_2 2 rfl rfl ?_
  refine g_aload_n X dX11_legOf_3 0 rfl rfl ?_
  refine g_iconst X dX11_legOf_4 ic_1 ?_
  refine g_ci X (st := [.int a2, .int a1, .ref (ad 138)]) (fun _ hh => ok_V X (k0 := 138) (As := [.int 1]) wkX11_says_ (tm_says1 M 1 hh) rfl k_138 s_138 (by decide) rfl m_5_234 rfl (hRm (by decide) (by decide)) ⟨Nat.zero_le _, Nat.zero_le _⟩ (Nat.le_of_ble_eq_true rfl) dX11_legOf_5) (fun r1 _ => ?_)
  refine g_ci X (st := []) (fun _ hh => ok_V X (k0 := 138) (As := [.int a1, .int a2, .int r1]) wkX11_legAt (tm_legAt M a1 a2 r1 hh) rfl k_138 s_138 (by decide) rfl m_6_134 rfl (hRm (by decide) (by decide)) ⟨Nat.zero_le _, Nat.zero_le _⟩ (Nat.le_of_ble_eq_true rfl) dX11_legOf_8) (fun r2 _ => ?_)
  exact g_iret X hr rfl dX11_legOf_11
set_option maxRecDepth 100000 in
set_option maxHeartbeats 4000000 in
theorem tm_leg {l : Launch} {D : va_G} {cy : Nat → ClassId} {ad : Nat → Nat} {N : Mem} (M : Mem) (a1 : Int32) (a2 : Int32) {x : (Int32 × Mem)} (h : fm_leg M a1 a2 = some x) : Mt l D cy ad yX11_leg cX11_leg 3 (some .int) 5 [.ref (ad 138), .int a1, .int a2] ((wfM N) M) (some (.int x.1), (wfM N) x.2) := by
  refine met_of (fin := finS) (lv0 := [(0, .ref (ad 138)), (1, .int a1), (2, .int a2)]) (by decide) (Nat.le_of_ble_eq_true rfl) rfl (lM N) h (fun p e s m args below meth c X hr => ?_)
  unfold fm_leg
  refine g_aload_n X dX11_leg_0 0 rfl rfl ?_
  refine g_iload_n X dX11_leg_1 1 rfl rfl ?_
  refine g_ct X (v0 := .int (fm_isSpotT M a1)) (st := []) (ok_V X (k0 := 138) (As := [.int a1]) wkX11_isSpot (tm_isSpotT M a1) rfl k_138 s_138 (by decide) rfl m_5_214 rfl (hRm (by decide) (by decide)) ⟨Nat.zero_le _, Nat.zero_le _⟩ (Nat.le_of_ble_eq_true rfl) dX11_leg_2) ?_
  refine g_if_eq X 16 (by decide) dX11_leg_5 (fun q5 => ?_) (fun q5 => ?_)
  · refine g_aload_n X dX11_leg_16 0 rfl rfl ?_
    refine g_bipush X dX11_leg_17 bi_m2 ?_
    refine g_cs X (st := []) (fun _ hh => ok_V X (k0 := 138) (As := [.int (-2)]) wkX11_no (tm_no M (-2) hh) rfl k_138 s_138 (by decide) rfl m_5_154 rfl (hRm (by decide) (by decide)) ⟨Nat.zero_le _, Nat.zero_le _⟩ (Nat.le_of_ble_eq_true rfl) dX11_leg_19) (fun r2 M1 _ => ?_)
    exact g_iret X hr rfl dX11_leg_22
  · refine g_aload_n X dX11_leg_8 0 rfl rfl ?_
    refine g_iload_n X dX11_leg_9 2 rfl rfl ?_
    refine g_ct X (v0 := .int (fm_isSpotT M a2)) (st := []) (ok_V X (k0 := 138) (As := [.int a2]) wkX11_isSpot (tm_isSpotT M a2) rfl k_138 s_138 (by decide) rfl m_5_214 rfl (hRm (by decide) (by decide)) ⟨Nat.zero_le _, Nat.zero_le _⟩ (Nat.le_of_ble_eq_true rfl) dX11_leg_10) ?_
    refine g_if_ne X 23 (by decide) dX11_leg_13 (fun q13 => ?_) (fun q13 => ?_)
    · refine g_aload_n X dX11_leg_23 0 rfl rfl ?_
      refine g_iload_n X dX11_leg_24 1 rfl rfl ?_
      refine g_iload_n X dX11_leg_25 2 rfl rfl ?_
      refine g_ci X (st := []) (fun _ hh => ok_V X (k0 := 138) (As := [.int a1, .int a2]) wkX11_legOf (tm_legOf M a1 a2 hh) rfl k_138 s_138 (by decide) rfl m_6_130 rfl (hRm (by decide) (by decide)) ⟨Nat.zero_le _, Nat.zero_le _⟩ (Nat.le_of_ble_eq_true rfl) dX11_leg_26) (fun r3 _ => ?_)
      exact g_iret X hr rfl dX11_leg_29
    · refine g_aload_n X dX11_leg_16 0 rfl rfl ?_
      refine g_bipush X dX11_leg_17 bi_m2 ?_
      refine g_cs X (st := []) (fun _ hh => ok_V X (k0 := 138) (As := [.int (-2)]) wkX11_no (tm_no M (-2) hh) rfl k_138 s_138 (by decide) rfl m_5_154 rfl (hRm (by decide) (by decide)) ⟨Nat.zero_le _, Nat.zero_le _⟩ (Nat.le_of_ble_eq_true rfl) dX11_leg_19) (fun r5 M4 _ => ?_)
      exact g_iret X hr rfl dX11_leg_22
