def okW : Cond → Bool
  | .methodLinkNest .. => true
  | .fieldLinkNest .. => true
  | w => goodWord w
def TB : List Cond := lw_tbl.filter okW
theorem tb_mem {w : Cond} (h : w ∈ lw_tbl) (g : okW w = true) : w ∈ TB := List.mem_filter.mpr ⟨h, g⟩
theorem tb_0 {w : Cond} (h : w ∈ k2_sels lw_privs) : w ∈ lw_tbl := List.mem_append_left _ h
theorem tb_1 {w : Cond} (h : w ∈ tables_1_1) : w ∈ lw_tbl := List.mem_append_right _ (List.mem_append_left _ h)
theorem tb_2 {w : Cond} (h : w ∈ tables_1_2) : w ∈ lw_tbl := List.mem_append_right _ (List.mem_append_right _ (List.mem_append_left _ h))
theorem tb_3 {w : Cond} (h : w ∈ tables_1_3) : w ∈ lw_tbl := List.mem_append_right _ (List.mem_append_right _ (List.mem_append_right _ (List.mem_append_left _ h)))
theorem tb_4 {w : Cond} (h : w ∈ tables_1_4) : w ∈ lw_tbl := List.mem_append_right _ (List.mem_append_right _ (List.mem_append_right _ (List.mem_append_right _ (List.mem_append_left _ h))))
theorem tb_5 {w : Cond} (h : w ∈ tables_1_5) : w ∈ lw_tbl := List.mem_append_right _ (List.mem_append_right _ (List.mem_append_right _ (List.mem_append_right _ (List.mem_append_right _ (List.mem_append_left _ h)))))
theorem tb_6 {w : Cond} (h : w ∈ tables_1_6) : w ∈ lw_tbl := List.mem_append_right _ (List.mem_append_right _ (List.mem_append_right _ (List.mem_append_right _ (List.mem_append_right _ (List.mem_append_right _ (List.mem_append_left _ h))))))
theorem tb_7 {w : Cond} (h : w ∈ tables_1_7) : w ∈ lw_tbl := List.mem_append_right _ (List.mem_append_right _ (List.mem_append_right _ (List.mem_append_right _ (List.mem_append_right _ (List.mem_append_right _ (List.mem_append_right _ h))))))
theorem okW_cases {w : Cond} (h : okW w = true) : (∃ a i x g, w = .methodLinkNest a i x g) ∨ (∃ a i b n d g, w = .fieldLinkNest a i b n d g) ∨ goodWord w = true := by
  unfold okW at h
  split at h
  · exact Or.inl ⟨_, _, _, _, rfl⟩
  · exact Or.inr (Or.inl ⟨_, _, _, _, _, _, rfl⟩)
  · exact Or.inr (Or.inr h)
theorem tb_warm {args a' : Array Value} {s U : State} (hW : s.WarmedH U.vm) (h : ∀ w ∈ TB, w.before args s = true) : ∀ w ∈ TB, w.before a' U = true := by
  intro w hw
  have h1 := h w hw
  rcases okW_cases (List.mem_filter.mp hw).2 with ⟨a, i, x, g, rfl⟩ | ⟨a, i, b, n, d, g, rfl⟩ | g
  · exact va_Nw.use rfl (va_Nw.warmM hW (va_Nw.of rfl h1))
  · exact va_Nw.use rfl (va_Nw.warmF hW (va_Nw.of rfl h1))
  · exact word_at hW (good_of_word g) h1
theorem m_1_0 : Cond.initialized RL ∈ TB := tb_mem (tb_1 (List.mem_of_getElem? (i := 0) (by decide +kernel))) rfl
theorem m_1_1 : Cond.initialized RX10 ∈ TB := tb_mem (tb_1 (List.mem_of_getElem? (i := 1) (by decide +kernel))) rfl
theorem m_1_2 : Cond.initialized RX6 ∈ TB := tb_mem (tb_1 (List.mem_of_getElem? (i := 2) (by decide +kernel))) rfl
theorem m_1_3 : Cond.initialized RX1 ∈ TB := tb_mem (tb_1 (List.mem_of_getElem? (i := 3) (by decide +kernel))) rfl
theorem m_1_4 : Cond.initialized RX9 ∈ TB := tb_mem (tb_1 (List.mem_of_getElem? (i := 4) (by decide +kernel))) rfl
theorem m_1_5 : Cond.initialized RX0 ∈ TB := tb_mem (tb_1 (List.mem_of_getElem? (i := 5) (by decide +kernel))) rfl
theorem m_1_6 : Cond.initialized RX2 ∈ TB := tb_mem (tb_1 (List.mem_of_getElem? (i := 6) (by decide +kernel))) rfl
theorem m_1_7 : Cond.initialized RJ10 ∈ TB := tb_mem (tb_1 (List.mem_of_getElem? (i := 7) (by decide +kernel))) rfl
theorem m_1_8 : Cond.initialized RX3 ∈ TB := tb_mem (tb_1 (List.mem_of_getElem? (i := 8) (by decide +kernel))) rfl
theorem m_1_9 : Cond.initialized RX8 ∈ TB := tb_mem (tb_1 (List.mem_of_getElem? (i := 9) (by decide +kernel))) rfl
theorem m_1_10 : Cond.initialized RX4 ∈ TB := tb_mem (tb_1 (List.mem_of_getElem? (i := 10) (by decide +kernel))) rfl
theorem m_1_11 : Cond.initialized RX7 ∈ TB := tb_mem (tb_1 (List.mem_of_getElem? (i := 11) (by decide +kernel))) rfl
theorem m_1_12 : Cond.initialized RX5 ∈ TB := tb_mem (tb_1 (List.mem_of_getElem? (i := 12) (by decide +kernel))) rfl
theorem m_1_13 : Cond.initialized RX11 ∈ TB := tb_mem (tb_1 (List.mem_of_getElem? (i := 13) (by decide +kernel))) rfl
theorem m_1_14 : Cond.initialized RJ9 ∈ TB := tb_mem (tb_1 (List.mem_of_getElem? (i := 14) (by decide +kernel))) rfl
theorem m_1_15 : Cond.initialized RJ0 ∈ TB := tb_mem (tb_1 (List.mem_of_getElem? (i := 15) (by decide +kernel))) rfl
theorem m_1_16 : Cond.initialized RJ1 ∈ TB := tb_mem (tb_1 (List.mem_of_getElem? (i := 16) (by decide +kernel))) rfl
theorem m_1_17 : Cond.initialized RJ3 ∈ TB := tb_mem (tb_1 (List.mem_of_getElem? (i := 17) (by decide +kernel))) rfl
theorem m_1_18 : Cond.initialized RJ2 ∈ TB := tb_mem (tb_1 (List.mem_of_getElem? (i := 18) (by decide +kernel))) rfl
theorem m_1_19 : Cond.initialized RJ6 ∈ TB := tb_mem (tb_1 (List.mem_of_getElem? (i := 19) (by decide +kernel))) rfl
theorem m_1_20 : Cond.classLink RL 7 RX10 ∈ TB := tb_mem (tb_1 (List.mem_of_getElem? (i := 20) (by decide +kernel))) rfl
theorem m_1_21 : Cond.instantiable RX10 11 ∈ TB := tb_mem (tb_1 (List.mem_of_getElem? (i := 21) (by decide +kernel))) rfl
theorem m_1_22 : Cond.methodLink RL 9 yX10_init ∈ TB := tb_mem (tb_1 (List.mem_of_getElem? (i := 22) (by decide +kernel))) rfl
theorem m_1_23 : Cond.instanceMethod yX10_init ∈ TB := tb_mem (tb_1 (List.mem_of_getElem? (i := 23) (by decide +kernel))) rfl
theorem m_1_24 : Cond.code yX10_init cX10_init 2 none ∈ TB := tb_mem (tb_1 (List.mem_of_getElem? (i := 24) (by decide +kernel))) rfl
theorem m_1_25 : Cond.methodLink RX10 1 objectInit ∈ TB := tb_mem (tb_1 (List.mem_of_getElem? (i := 25) (by decide +kernel))) rfl
theorem m_1_26 : Cond.instanceMethod objectInit ∈ TB := tb_mem (tb_1 (List.mem_of_getElem? (i := 26) (by decide +kernel))) rfl
theorem m_1_27 : Cond.code objectInit ⟨#[0xb1]⟩ 1 none ∈ TB := tb_mem (tb_1 (List.mem_of_getElem? (i := 27) (by decide +kernel))) rfl
theorem m_1_28 : Cond.classLink RX10 9 RX5 ∈ TB := tb_mem (tb_1 (List.mem_of_getElem? (i := 28) (by decide +kernel))) rfl
theorem m_1_30 : Cond.classLink RX10 15 RX6 ∈ TB := tb_mem (tb_1 (List.mem_of_getElem? (i := 30) (by decide +kernel))) rfl
theorem m_1_31 : Cond.instantiable RX6 3 ∈ TB := tb_mem (tb_1 (List.mem_of_getElem? (i := 31) (by decide +kernel))) rfl
theorem m_1_32 : Cond.methodLink RX10 17 yX6_init ∈ TB := tb_mem (tb_1 (List.mem_of_getElem? (i := 32) (by decide +kernel))) rfl
theorem m_1_33 : Cond.instanceMethod yX6_init ∈ TB := tb_mem (tb_1 (List.mem_of_getElem? (i := 33) (by decide +kernel))) rfl
theorem m_1_34 : Cond.code yX6_init cX6_init 1 none ∈ TB := tb_mem (tb_1 (List.mem_of_getElem? (i := 34) (by decide +kernel))) rfl
theorem m_1_35 : Cond.methodLink RX6 3 objectInit ∈ TB := tb_mem (tb_1 (List.mem_of_getElem? (i := 35) (by decide +kernel))) rfl
theorem m_1_36 : Cond.fieldLink RX6 9 RX6 "bytes" "[B" ∈ TB := tb_mem (tb_1 (List.mem_of_getElem? (i := 36) (by decide +kernel))) rfl
theorem m_1_37 : Cond.fieldLink RX6 15 RX6 "size" "I" ∈ TB := tb_mem (tb_1 (List.mem_of_getElem? (i := 37) (by decide +kernel))) rfl
theorem m_1_38 : Cond.fieldLink RX10 205 RX6 "size" "I" ∈ TB := tb_mem (tb_1 (List.mem_of_getElem? (i := 38) (by decide +kernel))) rfl
theorem m_1_39 : Cond.fieldLink RX6 24 RX6 "place" "I" ∈ TB := tb_mem (tb_1 (List.mem_of_getElem? (i := 39) (by decide +kernel))) rfl
theorem m_1_40 : Cond.laysFinal RX6 RX6 "bytes" "[B" ∈ TB := tb_mem (tb_1 (List.mem_of_getElem? (i := 40) (by decide +kernel))) rfl
theorem m_1_42 : Cond.lays RX6 RX6 "size" "I" ∈ TB := tb_mem (tb_1 (List.mem_of_getElem? (i := 42) (by decide +kernel))) rfl
theorem m_1_44 : Cond.lays RX6 RX6 "place" "I" ∈ TB := tb_mem (tb_1 (List.mem_of_getElem? (i := 44) (by decide +kernel))) rfl
theorem m_1_47 : Cond.arrayClass .byte ∈ TB := tb_mem (tb_1 (List.mem_of_getElem? (i := 47) (by decide +kernel))) rfl
theorem m_1_48 : Cond.classLink RX10 22 RX1 ∈ TB := tb_mem (tb_1 (List.mem_of_getElem? (i := 48) (by decide +kernel))) rfl
theorem m_1_49 : Cond.instantiable RX1 16 ∈ TB := tb_mem (tb_1 (List.mem_of_getElem? (i := 49) (by decide +kernel))) rfl
theorem m_1_50 : Cond.methodLink RX10 24 yX1_init ∈ TB := tb_mem (tb_1 (List.mem_of_getElem? (i := 50) (by decide +kernel))) rfl
theorem m_1_51 : Cond.instanceMethod yX1_init ∈ TB := tb_mem (tb_1 (List.mem_of_getElem? (i := 51) (by decide +kernel))) rfl
theorem m_1_52 : Cond.code yX1_init cX1_init 2 none ∈ TB := tb_mem (tb_1 (List.mem_of_getElem? (i := 52) (by decide +kernel))) rfl
theorem m_1_53 : Cond.methodLink RX1 3 objectInit ∈ TB := tb_mem (tb_1 (List.mem_of_getElem? (i := 53) (by decide +kernel))) rfl
theorem m_1_54 : Cond.classLink RX1 9 RX0 ∈ TB := tb_mem (tb_1 (List.mem_of_getElem? (i := 54) (by decide +kernel))) rfl
theorem m_1_56 : Cond.classLink RX1 17 RX2 ∈ TB := tb_mem (tb_1 (List.mem_of_getElem? (i := 56) (by decide +kernel))) rfl
theorem m_1_58 : Cond.classLink RX1 27 RX3 ∈ TB := tb_mem (tb_1 (List.mem_of_getElem? (i := 58) (by decide +kernel))) rfl
theorem m_1_60 : Cond.classLink RX1 46 RX9 ∈ TB := tb_mem (tb_1 (List.mem_of_getElem? (i := 60) (by decide +kernel))) rfl
theorem m_1_61 : Cond.instantiable RX9 8 ∈ TB := tb_mem (tb_1 (List.mem_of_getElem? (i := 61) (by decide +kernel))) rfl
theorem m_1_62 : Cond.methodLink RX1 48 yX9_init ∈ TB := tb_mem (tb_1 (List.mem_of_getElem? (i := 62) (by decide +kernel))) rfl
theorem m_1_63 : Cond.instanceMethod yX9_init ∈ TB := tb_mem (tb_1 (List.mem_of_getElem? (i := 63) (by decide +kernel))) rfl
theorem m_1_64 : Cond.code yX9_init cX9_init 1 none ∈ TB := tb_mem (tb_1 (List.mem_of_getElem? (i := 64) (by decide +kernel))) rfl
theorem m_1_65 : Cond.methodLink RX9 3 objectInit ∈ TB := tb_mem (tb_1 (List.mem_of_getElem? (i := 65) (by decide +kernel))) rfl
theorem m_1_66 : Cond.fieldLink RX9 9 RX9 "leaper" "I" ∈ TB := tb_mem (tb_1 (List.mem_of_getElem? (i := 66) (by decide +kernel))) rfl
theorem m_1_67 : Cond.fieldLink RX1 176 RX9 "leaper" "I" ∈ TB := tb_mem (tb_1 (List.mem_of_getElem? (i := 67) (by decide +kernel))) rfl
theorem m_1_68 : Cond.fieldLink RX10 375 RX9 "leaper" "I" ∈ TB := tb_mem (tb_1 (List.mem_of_getElem? (i := 68) (by decide +kernel))) rfl
theorem m_1_69 : Cond.fieldLink RX9 15 RX9 "jetties" "[I" ∈ TB := tb_mem (tb_1 (List.mem_of_getElem? (i := 69) (by decide +kernel))) rfl
theorem m_1_70 : Cond.fieldLink RX1 160 RX9 "jetties" "[I" ∈ TB := tb_mem (tb_1 (List.mem_of_getElem? (i := 70) (by decide +kernel))) rfl
theorem m_1_71 : Cond.fieldLink RX9 24 RX9 "count" "I" ∈ TB := tb_mem (tb_1 (List.mem_of_getElem? (i := 71) (by decide +kernel))) rfl
theorem m_1_72 : Cond.fieldLink RX9 32 RX9 "spot" "I" ∈ TB := tb_mem (tb_1 (List.mem_of_getElem? (i := 72) (by decide +kernel))) rfl
theorem m_1_73 : Cond.fieldLink RX1 171 RX9 "spot" "I" ∈ TB := tb_mem (tb_1 (List.mem_of_getElem? (i := 73) (by decide +kernel))) rfl
theorem m_1_74 : Cond.fieldLink RX9 35 RX9 "goesOn" "I" ∈ TB := tb_mem (tb_1 (List.mem_of_getElem? (i := 74) (by decide +kernel))) rfl
theorem m_1_75 : Cond.fieldLink RX1 168 RX9 "goesOn" "I" ∈ TB := tb_mem (tb_1 (List.mem_of_getElem? (i := 75) (by decide +kernel))) rfl
theorem m_1_76 : Cond.fieldLink RX10 381 RX9 "goesOn" "I" ∈ TB := tb_mem (tb_1 (List.mem_of_getElem? (i := 76) (by decide +kernel))) rfl
theorem m_1_77 : Cond.fieldLink RX9 38 RX9 "done" "I" ∈ TB := tb_mem (tb_1 (List.mem_of_getElem? (i := 77) (by decide +kernel))) rfl
theorem m_1_78 : Cond.fieldLink RX1 162 RX9 "done" "I" ∈ TB := tb_mem (tb_1 (List.mem_of_getElem? (i := 78) (by decide +kernel))) rfl
theorem m_1_79 : Cond.fieldLink RX10 378 RX9 "done" "I" ∈ TB := tb_mem (tb_1 (List.mem_of_getElem? (i := 79) (by decide +kernel))) rfl
theorem m_1_80 : Cond.fieldLink RX9 41 RX9 "drops" "I" ∈ TB := tb_mem (tb_1 (List.mem_of_getElem? (i := 80) (by decide +kernel))) rfl
theorem m_1_81 : Cond.fieldLink RX1 195 RX9 "drops" "I" ∈ TB := tb_mem (tb_1 (List.mem_of_getElem? (i := 81) (by decide +kernel))) rfl
theorem m_1_82 : Cond.fieldLink RX10 384 RX9 "drops" "I" ∈ TB := tb_mem (tb_1 (List.mem_of_getElem? (i := 82) (by decide +kernel))) rfl
theorem m_1_83 : Cond.fieldLink RX9 44 RX9 "misses" "I" ∈ TB := tb_mem (tb_1 (List.mem_of_getElem? (i := 83) (by decide +kernel))) rfl
theorem m_1_84 : Cond.fieldLink RX1 188 RX9 "misses" "I" ∈ TB := tb_mem (tb_1 (List.mem_of_getElem? (i := 84) (by decide +kernel))) rfl
theorem m_1_85 : Cond.fieldLink RX10 385 RX9 "misses" "I" ∈ TB := tb_mem (tb_1 (List.mem_of_getElem? (i := 85) (by decide +kernel))) rfl
theorem m_1_86 : Cond.lays RX9 RX9 "leaper" "I" ∈ TB := tb_mem (tb_1 (List.mem_of_getElem? (i := 86) (by decide +kernel))) rfl
theorem m_1_88 : Cond.laysFinal RX9 RX9 "jetties" "[I" ∈ TB := tb_mem (tb_1 (List.mem_of_getElem? (i := 88) (by decide +kernel))) rfl
theorem m_1_90 : Cond.lays RX9 RX9 "count" "I" ∈ TB := tb_mem (tb_1 (List.mem_of_getElem? (i := 90) (by decide +kernel))) rfl
theorem m_1_92 : Cond.lays RX9 RX9 "spot" "I" ∈ TB := tb_mem (tb_1 (List.mem_of_getElem? (i := 92) (by decide +kernel))) rfl
theorem m_1_94 : Cond.lays RX9 RX9 "goesOn" "I" ∈ TB := tb_mem (tb_1 (List.mem_of_getElem? (i := 94) (by decide +kernel))) rfl
theorem m_1_96 : Cond.lays RX9 RX9 "done" "I" ∈ TB := tb_mem (tb_1 (List.mem_of_getElem? (i := 96) (by decide +kernel))) rfl
theorem m_1_98 : Cond.lays RX9 RX9 "drops" "I" ∈ TB := tb_mem (tb_1 (List.mem_of_getElem? (i := 98) (by decide +kernel))) rfl
theorem m_1_100 : Cond.lays RX9 RX9 "misses" "I" ∈ TB := tb_mem (tb_1 (List.mem_of_getElem? (i := 100) (by decide +kernel))) rfl
theorem m_1_103 : Cond.arrayClass .int ∈ TB := tb_mem (tb_1 (List.mem_of_getElem? (i := 103) (by decide +kernel))) rfl
theorem m_1_104 : Cond.instantiable RX0 5 ∈ TB := tb_mem (tb_1 (List.mem_of_getElem? (i := 104) (by decide +kernel))) rfl
theorem m_1_105 : Cond.methodLink RX1 53 yX0_init ∈ TB := tb_mem (tb_1 (List.mem_of_getElem? (i := 105) (by decide +kernel))) rfl
theorem m_1_106 : Cond.instanceMethod yX0_init ∈ TB := tb_mem (tb_1 (List.mem_of_getElem? (i := 106) (by decide +kernel))) rfl
theorem m_1_107 : Cond.code yX0_init cX0_init 1 none ∈ TB := tb_mem (tb_1 (List.mem_of_getElem? (i := 107) (by decide +kernel))) rfl
theorem m_1_108 : Cond.methodLink RX0 3 objectInit ∈ TB := tb_mem (tb_1 (List.mem_of_getElem? (i := 108) (by decide +kernel))) rfl
theorem m_1_109 : Cond.fieldLink RX0 9 RX0 "kind" "I" ∈ TB := tb_mem (tb_1 (List.mem_of_getElem? (i := 109) (by decide +kernel))) rfl
theorem m_1_110 : Cond.fieldLink RX10 167 RX0 "kind" "I" ∈ TB := tb_mem (tb_1 (List.mem_of_getElem? (i := 110) (by decide +kernel))) rfl
theorem m_1_111 : Cond.fieldLink RX0 15 RX0 "spot" "I" ∈ TB := tb_mem (tb_1 (List.mem_of_getElem? (i := 111) (by decide +kernel))) rfl
theorem m_1_112 : Cond.fieldLink RX8 30 RX0 "spot" "I" ∈ TB := tb_mem (tb_1 (List.mem_of_getElem? (i := 112) (by decide +kernel))) rfl
theorem m_1_113 : Cond.fieldLink RX4 72 RX0 "spot" "I" ∈ TB := tb_mem (tb_1 (List.mem_of_getElem? (i := 113) (by decide +kernel))) rfl
theorem m_1_114 : Cond.fieldLink RX10 157 RX0 "spot" "I" ∈ TB := tb_mem (tb_1 (List.mem_of_getElem? (i := 114) (by decide +kernel))) rfl
theorem m_1_115 : Cond.fieldLink RX1 165 RX0 "spot" "I" ∈ TB := tb_mem (tb_1 (List.mem_of_getElem? (i := 115) (by decide +kernel))) rfl
theorem m_1_116 : Cond.fieldLink RX0 18 RX0 "length" "I" ∈ TB := tb_mem (tb_1 (List.mem_of_getElem? (i := 116) (by decide +kernel))) rfl
theorem m_1_117 : Cond.fieldLink RX10 170 RX0 "length" "I" ∈ TB := tb_mem (tb_1 (List.mem_of_getElem? (i := 117) (by decide +kernel))) rfl
theorem m_1_118 : Cond.fieldLink RX0 21 RX0 "height" "I" ∈ TB := tb_mem (tb_1 (List.mem_of_getElem? (i := 118) (by decide +kernel))) rfl
theorem m_1_119 : Cond.fieldLink RX10 173 RX0 "height" "I" ∈ TB := tb_mem (tb_1 (List.mem_of_getElem? (i := 119) (by decide +kernel))) rfl
theorem m_1_120 : Cond.fieldLink RX0 24 RX0 "isWet" "Z" ∈ TB := tb_mem (tb_1 (List.mem_of_getElem? (i := 120) (by decide +kernel))) rfl
theorem m_1_121 : Cond.fieldLink RX10 149 RX0 "isWet" "Z" ∈ TB := tb_mem (tb_1 (List.mem_of_getElem? (i := 121) (by decide +kernel))) rfl
theorem m_1_122 : Cond.fieldLink RX1 146 RX0 "isWet" "Z" ∈ TB := tb_mem (tb_1 (List.mem_of_getElem? (i := 122) (by decide +kernel))) rfl
theorem m_1_123 : Cond.lays RX0 RX0 "kind" "I" ∈ TB := tb_mem (tb_1 (List.mem_of_getElem? (i := 123) (by decide +kernel))) rfl
theorem m_1_125 : Cond.lays RX0 RX0 "spot" "I" ∈ TB := tb_mem (tb_1 (List.mem_of_getElem? (i := 125) (by decide +kernel))) rfl
theorem m_1_127 : Cond.lays RX0 RX0 "length" "I" ∈ TB := tb_mem (tb_1 (List.mem_of_getElem? (i := 127) (by decide +kernel))) rfl
theorem m_1_129 : Cond.lays RX0 RX0 "height" "I" ∈ TB := tb_mem (tb_1 (List.mem_of_getElem? (i := 129) (by decide +kernel))) rfl
theorem m_1_131 : Cond.lays RX0 RX0 "isWet" "Z" ∈ TB := tb_mem (tb_1 (List.mem_of_getElem? (i := 131) (by decide +kernel))) rfl
theorem m_1_134 : Cond.instantiable RX2 1 ∈ TB := tb_mem (tb_1 (List.mem_of_getElem? (i := 134) (by decide +kernel))) rfl
theorem m_1_135 : Cond.methodLink RX1 54 yX2_init ∈ TB := tb_mem (tb_1 (List.mem_of_getElem? (i := 135) (by decide +kernel))) rfl
theorem m_1_136 : Cond.instanceMethod yX2_init ∈ TB := tb_mem (tb_1 (List.mem_of_getElem? (i := 136) (by decide +kernel))) rfl
theorem m_1_137 : Cond.code yX2_init cX2_init 1 none ∈ TB := tb_mem (tb_1 (List.mem_of_getElem? (i := 137) (by decide +kernel))) rfl
theorem m_1_138 : Cond.methodLink RX2 3 objectInit ∈ TB := tb_mem (tb_1 (List.mem_of_getElem? (i := 138) (by decide +kernel))) rfl
theorem m_1_139 : Cond.methodLink RX2 15 yX2_reset ∈ TB := tb_mem (tb_1 (List.mem_of_getElem? (i := 139) (by decide +kernel))) rfl
theorem m_1_140 : Cond.instanceMethod yX2_reset ∈ TB := tb_mem (tb_1 (List.mem_of_getElem? (i := 140) (by decide +kernel))) rfl
theorem m_1_141 : Cond.selects RX2 yX2_reset yX2_reset ∈ TB := tb_mem (tb_1 (List.mem_of_getElem? (i := 141) (by decide +kernel))) rfl
theorem m_1_142 : Cond.code yX2_reset cX2_reset 1 none ∈ TB := tb_mem (tb_1 (List.mem_of_getElem? (i := 142) (by decide +kernel))) rfl
theorem m_1_143 : Cond.fieldLinkNest RX2 18 RX10 "LAW_AT_FIRST" "[I" RX10 ∈ TB := tb_mem (tb_1 (List.mem_of_getElem? (i := 143) (by decide +kernel))) rfl
theorem m_1_145 : Cond.methodLink RX2 21 arraycopyName ∈ TB := tb_mem (tb_1 (List.mem_of_getElem? (i := 145) (by decide +kernel))) rfl
theorem m_1_146 : Cond.static arraycopyName ∈ TB := tb_mem (tb_1 (List.mem_of_getElem? (i := 146) (by decide +kernel))) rfl
theorem m_1_147 : Cond.native arraycopyName ∈ TB := tb_mem (tb_1 (List.mem_of_getElem? (i := 147) (by decide +kernel))) rfl
theorem m_1_148 : Cond.fieldLink RX2 9 RX2 "values" "[I" ∈ TB := tb_mem (tb_1 (List.mem_of_getElem? (i := 148) (by decide +kernel))) rfl
theorem m_1_149 : Cond.fieldLink RX6 48 RX2 "values" "[I" ∈ TB := tb_mem (tb_1 (List.mem_of_getElem? (i := 149) (by decide +kernel))) rfl
theorem m_1_150 : Cond.fieldLink RX1 100 RX2 "values" "[I" ∈ TB := tb_mem (tb_1 (List.mem_of_getElem? (i := 150) (by decide +kernel))) rfl
theorem m_1_151 : Cond.fieldLink RX10 223 RX2 "values" "[I" ∈ TB := tb_mem (tb_1 (List.mem_of_getElem? (i := 151) (by decide +kernel))) rfl
theorem m_1_152 : Cond.laysFinal RX2 RX2 "values" "[I" ∈ TB := tb_mem (tb_1 (List.mem_of_getElem? (i := 152) (by decide +kernel))) rfl
theorem m_1_155 : Cond.instantiable RX3 3 ∈ TB := tb_mem (tb_1 (List.mem_of_getElem? (i := 155) (by decide +kernel))) rfl
theorem m_1_156 : Cond.methodLink RX1 55 yX3_init ∈ TB := tb_mem (tb_1 (List.mem_of_getElem? (i := 156) (by decide +kernel))) rfl
theorem m_1_157 : Cond.instanceMethod yX3_init ∈ TB := tb_mem (tb_1 (List.mem_of_getElem? (i := 157) (by decide +kernel))) rfl
theorem m_1_158 : Cond.code yX3_init cX3_init 1 none ∈ TB := tb_mem (tb_1 (List.mem_of_getElem? (i := 158) (by decide +kernel))) rfl
theorem m_1_159 : Cond.methodLink RX3 3 objectInit ∈ TB := tb_mem (tb_1 (List.mem_of_getElem? (i := 159) (by decide +kernel))) rfl
theorem m_1_160 : Cond.fieldLink RX3 9 RX3 "skill" "I" ∈ TB := tb_mem (tb_1 (List.mem_of_getElem? (i := 160) (by decide +kernel))) rfl
theorem m_1_161 : Cond.fieldLink RX1 150 RX3 "skill" "I" ∈ TB := tb_mem (tb_1 (List.mem_of_getElem? (i := 161) (by decide +kernel))) rfl
theorem m_1_162 : Cond.fieldLink RX10 246 RX3 "skill" "I" ∈ TB := tb_mem (tb_1 (List.mem_of_getElem? (i := 162) (by decide +kernel))) rfl
theorem m_1_163 : Cond.fieldLink RX3 15 RX3 "leaps" "I" ∈ TB := tb_mem (tb_1 (List.mem_of_getElem? (i := 163) (by decide +kernel))) rfl
theorem m_1_164 : Cond.fieldLink RX10 249 RX3 "leaps" "I" ∈ TB := tb_mem (tb_1 (List.mem_of_getElem? (i := 164) (by decide +kernel))) rfl
theorem m_1_165 : Cond.fieldLink RX3 18 RX3 "drops" "I" ∈ TB := tb_mem (tb_1 (List.mem_of_getElem? (i := 165) (by decide +kernel))) rfl
theorem m_1_166 : Cond.fieldLink RX10 252 RX3 "drops" "I" ∈ TB := tb_mem (tb_1 (List.mem_of_getElem? (i := 166) (by decide +kernel))) rfl
theorem m_1_167 : Cond.lays RX3 RX3 "skill" "I" ∈ TB := tb_mem (tb_1 (List.mem_of_getElem? (i := 167) (by decide +kernel))) rfl
theorem m_1_169 : Cond.lays RX3 RX3 "leaps" "I" ∈ TB := tb_mem (tb_1 (List.mem_of_getElem? (i := 169) (by decide +kernel))) rfl
theorem m_1_171 : Cond.lays RX3 RX3 "drops" "I" ∈ TB := tb_mem (tb_1 (List.mem_of_getElem? (i := 171) (by decide +kernel))) rfl
theorem m_1_174 : Cond.fieldLink RX1 11 RX1 "jetties" "[LLettersLeaping$Jetty;" ∈ TB := tb_mem (tb_1 (List.mem_of_getElem? (i := 174) (by decide +kernel))) rfl
theorem m_1_175 : Cond.fieldLink RX8 27 RX1 "jetties" "[LLettersLeaping$Jetty;" ∈ TB := tb_mem (tb_1 (List.mem_of_getElem? (i := 175) (by decide +kernel))) rfl
theorem m_1_176 : Cond.fieldLink RX4 69 RX1 "jetties" "[LLettersLeaping$Jetty;" ∈ TB := tb_mem (tb_1 (List.mem_of_getElem? (i := 176) (by decide +kernel))) rfl
theorem m_1_177 : Cond.fieldLink RX10 126 RX1 "jetties" "[LLettersLeaping$Jetty;" ∈ TB := tb_mem (tb_1 (List.mem_of_getElem? (i := 177) (by decide +kernel))) rfl
theorem m_1_178 : Cond.fieldLink RX1 79 RX1 "jettyCount" "I" ∈ TB := tb_mem (tb_1 (List.mem_of_getElem? (i := 178) (by decide +kernel))) rfl
theorem m_1_179 : Cond.fieldLink RX10 160 RX1 "jettyCount" "I" ∈ TB := tb_mem (tb_1 (List.mem_of_getElem? (i := 179) (by decide +kernel))) rfl
theorem m_1_180 : Cond.fieldLink RX1 19 RX1 "laws" "[LLettersLeaping$Law;" ∈ TB := tb_mem (tb_1 (List.mem_of_getElem? (i := 180) (by decide +kernel))) rfl
theorem m_1_181 : Cond.fieldLink RX10 212 RX1 "laws" "[LLettersLeaping$Law;" ∈ TB := tb_mem (tb_1 (List.mem_of_getElem? (i := 181) (by decide +kernel))) rfl
theorem m_1_182 : Cond.fieldLink RX1 85 RX1 "lawCount" "I" ∈ TB := tb_mem (tb_1 (List.mem_of_getElem? (i := 182) (by decide +kernel))) rfl
theorem m_1_183 : Cond.fieldLink RX10 209 RX1 "lawCount" "I" ∈ TB := tb_mem (tb_1 (List.mem_of_getElem? (i := 183) (by decide +kernel))) rfl
theorem m_1_184 : Cond.fieldLink RX1 23 RX1 "lawInForce" "I" ∈ TB := tb_mem (tb_1 (List.mem_of_getElem? (i := 184) (by decide +kernel))) rfl
theorem m_1_185 : Cond.fieldLink RX10 228 RX1 "lawInForce" "I" ∈ TB := tb_mem (tb_1 (List.mem_of_getElem? (i := 185) (by decide +kernel))) rfl
theorem m_1_186 : Cond.fieldLink RX1 29 RX1 "leapers" "[LLettersLeaping$Leaper;" ∈ TB := tb_mem (tb_1 (List.mem_of_getElem? (i := 186) (by decide +kernel))) rfl
theorem m_1_187 : Cond.fieldLink RX10 234 RX1 "leapers" "[LLettersLeaping$Leaper;" ∈ TB := tb_mem (tb_1 (List.mem_of_getElem? (i := 187) (by decide +kernel))) rfl
theorem m_1_188 : Cond.fieldLink RX7 34 RX1 "leaperCount" "I" ∈ TB := tb_mem (tb_1 (List.mem_of_getElem? (i := 188) (by decide +kernel))) rfl
theorem m_1_189 : Cond.fieldLink RX1 91 RX1 "leaperCount" "I" ∈ TB := tb_mem (tb_1 (List.mem_of_getElem? (i := 189) (by decide +kernel))) rfl
theorem m_1_190 : Cond.fieldLink RX10 231 RX1 "leaperCount" "I" ∈ TB := tb_mem (tb_1 (List.mem_of_getElem? (i := 190) (by decide +kernel))) rfl
theorem m_1_191 : Cond.fieldLink RX1 33 RX1 "parcelMinutes" "[I" ∈ TB := tb_mem (tb_1 (List.mem_of_getElem? (i := 191) (by decide +kernel))) rfl
theorem m_1_192 : Cond.fieldLink RX10 343 RX1 "parcelMinutes" "[I" ∈ TB := tb_mem (tb_1 (List.mem_of_getElem? (i := 192) (by decide +kernel))) rfl
theorem m_1_193 : Cond.fieldLink RX1 37 RX1 "parcelWorths" "[I" ∈ TB := tb_mem (tb_1 (List.mem_of_getElem? (i := 193) (by decide +kernel))) rfl
theorem m_1_194 : Cond.fieldLink RX10 346 RX1 "parcelWorths" "[I" ∈ TB := tb_mem (tb_1 (List.mem_of_getElem? (i := 194) (by decide +kernel))) rfl
theorem m_1_195 : Cond.fieldLink RX1 97 RX1 "parcelCount" "I" ∈ TB := tb_mem (tb_1 (List.mem_of_getElem? (i := 195) (by decide +kernel))) rfl
theorem m_1_196 : Cond.fieldLink RX10 340 RX1 "parcelCount" "I" ∈ TB := tb_mem (tb_1 (List.mem_of_getElem? (i := 196) (by decide +kernel))) rfl
theorem m_1_197 : Cond.fieldLink RX1 40 RX1 "winds" "[I" ∈ TB := tb_mem (tb_1 (List.mem_of_getElem? (i := 197) (by decide +kernel))) rfl
theorem m_1_198 : Cond.fieldLink RX10 195 RX1 "winds" "[I" ∈ TB := tb_mem (tb_1 (List.mem_of_getElem? (i := 198) (by decide +kernel))) rfl
theorem m_1_199 : Cond.fieldLink RX1 66 RX1 "level" "I" ∈ TB := tb_mem (tb_1 (List.mem_of_getElem? (i := 199) (by decide +kernel))) rfl
theorem m_1_200 : Cond.fieldLink RX10 143 RX1 "level" "I" ∈ TB := tb_mem (tb_1 (List.mem_of_getElem? (i := 200) (by decide +kernel))) rfl
theorem m_1_201 : Cond.fieldLink RX1 69 RX1 "guests" "I" ∈ TB := tb_mem (tb_1 (List.mem_of_getElem? (i := 201) (by decide +kernel))) rfl
theorem m_1_202 : Cond.fieldLink RX10 186 RX1 "guests" "I" ∈ TB := tb_mem (tb_1 (List.mem_of_getElem? (i := 202) (by decide +kernel))) rfl
theorem m_1_203 : Cond.fieldLink RX8 18 RX1 "harbour" "I" ∈ TB := tb_mem (tb_1 (List.mem_of_getElem? (i := 203) (by decide +kernel))) rfl
theorem m_1_204 : Cond.fieldLink RX4 50 RX1 "harbour" "I" ∈ TB := tb_mem (tb_1 (List.mem_of_getElem? (i := 204) (by decide +kernel))) rfl
theorem m_1_205 : Cond.fieldLink RX1 72 RX1 "harbour" "I" ∈ TB := tb_mem (tb_1 (List.mem_of_getElem? (i := 205) (by decide +kernel))) rfl
theorem m_1_206 : Cond.fieldLink RX10 189 RX1 "harbour" "I" ∈ TB := tb_mem (tb_1 (List.mem_of_getElem? (i := 206) (by decide +kernel))) rfl
theorem m_1_207 : Cond.fieldLink RX1 43 RX1 "seed" "I" ∈ TB := tb_mem (tb_1 (List.mem_of_getElem? (i := 207) (by decide +kernel))) rfl
theorem m_1_208 : Cond.fieldLink RX10 355 RX1 "seed" "I" ∈ TB := tb_mem (tb_1 (List.mem_of_getElem? (i := 208) (by decide +kernel))) rfl
theorem m_1_209 : Cond.fieldLink RX1 49 RX1 "voyage" "LLettersLeaping$Voyage;" ∈ TB := tb_mem (tb_1 (List.mem_of_getElem? (i := 209) (by decide +kernel))) rfl
theorem m_1_210 : Cond.fieldLink RX10 358 RX1 "voyage" "LLettersLeaping$Voyage;" ∈ TB := tb_mem (tb_1 (List.mem_of_getElem? (i := 210) (by decide +kernel))) rfl
theorem m_1_211 : Cond.laysFinal RX1 RX1 "jetties" "[LLettersLeaping$Jetty;" ∈ TB := tb_mem (tb_1 (List.mem_of_getElem? (i := 211) (by decide +kernel))) rfl
theorem m_1_213 : Cond.lays RX1 RX1 "jettyCount" "I" ∈ TB := tb_mem (tb_1 (List.mem_of_getElem? (i := 213) (by decide +kernel))) rfl
theorem m_1_215 : Cond.laysFinal RX1 RX1 "laws" "[LLettersLeaping$Law;" ∈ TB := tb_mem (tb_1 (List.mem_of_getElem? (i := 215) (by decide +kernel))) rfl
theorem m_1_217 : Cond.lays RX1 RX1 "lawCount" "I" ∈ TB := tb_mem (tb_1 (List.mem_of_getElem? (i := 217) (by decide +kernel))) rfl
theorem m_1_219 : Cond.lays RX1 RX1 "lawInForce" "I" ∈ TB := tb_mem (tb_1 (List.mem_of_getElem? (i := 219) (by decide +kernel))) rfl
theorem m_1_221 : Cond.laysFinal RX1 RX1 "leapers" "[LLettersLeaping$Leaper;" ∈ TB := tb_mem (tb_1 (List.mem_of_getElem? (i := 221) (by decide +kernel))) rfl
theorem m_1_223 : Cond.lays RX1 RX1 "leaperCount" "I" ∈ TB := tb_mem (tb_1 (List.mem_of_getElem? (i := 223) (by decide +kernel))) rfl
theorem m_1_225 : Cond.laysFinal RX1 RX1 "parcelMinutes" "[I" ∈ TB := tb_mem (tb_1 (List.mem_of_getElem? (i := 225) (by decide +kernel))) rfl
theorem m_1_227 : Cond.laysFinal RX1 RX1 "parcelWorths" "[I" ∈ TB := tb_mem (tb_1 (List.mem_of_getElem? (i := 227) (by decide +kernel))) rfl
theorem m_1_229 : Cond.lays RX1 RX1 "parcelCount" "I" ∈ TB := tb_mem (tb_1 (List.mem_of_getElem? (i := 229) (by decide +kernel))) rfl
theorem m_1_231 : Cond.laysFinal RX1 RX1 "winds" "[I" ∈ TB := tb_mem (tb_1 (List.mem_of_getElem? (i := 231) (by decide +kernel))) rfl
theorem m_1_233 : Cond.lays RX1 RX1 "level" "I" ∈ TB := tb_mem (tb_1 (List.mem_of_getElem? (i := 233) (by decide +kernel))) rfl
theorem m_1_235 : Cond.lays RX1 RX1 "guests" "I" ∈ TB := tb_mem (tb_1 (List.mem_of_getElem? (i := 235) (by decide +kernel))) rfl
theorem m_1_237 : Cond.lays RX1 RX1 "harbour" "I" ∈ TB := tb_mem (tb_1 (List.mem_of_getElem? (i := 237) (by decide +kernel))) rfl
theorem m_1_239 : Cond.lays RX1 RX1 "seed" "I" ∈ TB := tb_mem (tb_1 (List.mem_of_getElem? (i := 239) (by decide +kernel))) rfl
theorem m_2_1 : Cond.laysFinal RX1 RX1 "voyage" "LLettersLeaping$Voyage;" ∈ TB := tb_mem (tb_2 (List.mem_of_getElem? (i := 1) (by decide +kernel))) rfl
theorem m_2_4 : Cond.classLink RX10 36 RX8 ∈ TB := tb_mem (tb_2 (List.mem_of_getElem? (i := 4) (by decide +kernel))) rfl
theorem m_2_5 : Cond.instantiable RX8 3 ∈ TB := tb_mem (tb_2 (List.mem_of_getElem? (i := 5) (by decide +kernel))) rfl
theorem m_2_6 : Cond.methodLink RX10 38 yX8_init ∈ TB := tb_mem (tb_2 (List.mem_of_getElem? (i := 6) (by decide +kernel))) rfl
theorem m_2_7 : Cond.instanceMethod yX8_init ∈ TB := tb_mem (tb_2 (List.mem_of_getElem? (i := 7) (by decide +kernel))) rfl
theorem m_2_8 : Cond.code yX8_init cX8_init 1 none ∈ TB := tb_mem (tb_2 (List.mem_of_getElem? (i := 8) (by decide +kernel))) rfl
theorem m_2_9 : Cond.methodLink RX8 3 objectInit ∈ TB := tb_mem (tb_2 (List.mem_of_getElem? (i := 9) (by decide +kernel))) rfl
theorem m_2_10 : Cond.fieldLink RX8 9 RX8 "jetties" "[I" ∈ TB := tb_mem (tb_2 (List.mem_of_getElem? (i := 10) (by decide +kernel))) rfl
theorem m_2_11 : Cond.fieldLink RX9 25 RX8 "jetties" "[I" ∈ TB := tb_mem (tb_2 (List.mem_of_getElem? (i := 11) (by decide +kernel))) rfl
theorem m_2_12 : Cond.fieldLink RX10 403 RX8 "jetties" "[I" ∈ TB := tb_mem (tb_2 (List.mem_of_getElem? (i := 12) (by decide +kernel))) rfl
theorem m_2_13 : Cond.fieldLink RX8 15 RX8 "comes" "[I" ∈ TB := tb_mem (tb_2 (List.mem_of_getElem? (i := 13) (by decide +kernel))) rfl
theorem m_2_14 : Cond.fieldLink RX9 19 RX8 "count" "I" ∈ TB := tb_mem (tb_2 (List.mem_of_getElem? (i := 14) (by decide +kernel))) rfl
theorem m_2_15 : Cond.fieldLink RX8 24 RX8 "count" "I" ∈ TB := tb_mem (tb_2 (List.mem_of_getElem? (i := 15) (by decide +kernel))) rfl
theorem m_2_16 : Cond.fieldLink RX10 401 RX8 "count" "I" ∈ TB := tb_mem (tb_2 (List.mem_of_getElem? (i := 16) (by decide +kernel))) rfl
theorem m_2_17 : Cond.laysFinal RX8 RX8 "jetties" "[I" ∈ TB := tb_mem (tb_2 (List.mem_of_getElem? (i := 17) (by decide +kernel))) rfl
theorem m_2_19 : Cond.laysFinal RX8 RX8 "comes" "[I" ∈ TB := tb_mem (tb_2 (List.mem_of_getElem? (i := 19) (by decide +kernel))) rfl
theorem m_2_21 : Cond.lays RX8 RX8 "count" "I" ∈ TB := tb_mem (tb_2 (List.mem_of_getElem? (i := 21) (by decide +kernel))) rfl
theorem m_2_24 : Cond.classLink RX10 46 RX4 ∈ TB := tb_mem (tb_2 (List.mem_of_getElem? (i := 24) (by decide +kernel))) rfl
theorem m_2_25 : Cond.instantiable RX4 10 ∈ TB := tb_mem (tb_2 (List.mem_of_getElem? (i := 25) (by decide +kernel))) rfl
theorem m_2_26 : Cond.methodLink RX10 48 yX4_init ∈ TB := tb_mem (tb_2 (List.mem_of_getElem? (i := 26) (by decide +kernel))) rfl
theorem m_2_27 : Cond.instanceMethod yX4_init ∈ TB := tb_mem (tb_2 (List.mem_of_getElem? (i := 27) (by decide +kernel))) rfl
theorem m_2_28 : Cond.code yX4_init cX4_init 1 none ∈ TB := tb_mem (tb_2 (List.mem_of_getElem? (i := 28) (by decide +kernel))) rfl
theorem m_2_29 : Cond.methodLink RX4 3 objectInit ∈ TB := tb_mem (tb_2 (List.mem_of_getElem? (i := 29) (by decide +kernel))) rfl
theorem m_2_30 : Cond.fieldLink RX4 9 RX4 "bestOrder" "[I" ∈ TB := tb_mem (tb_2 (List.mem_of_getElem? (i := 30) (by decide +kernel))) rfl
theorem m_2_31 : Cond.fieldLink RX10 302 RX4 "bestOrder" "[I" ∈ TB := tb_mem (tb_2 (List.mem_of_getElem? (i := 31) (by decide +kernel))) rfl
theorem m_2_32 : Cond.fieldLink RX4 44 RX4 "bestRisk" "I" ∈ TB := tb_mem (tb_2 (List.mem_of_getElem? (i := 32) (by decide +kernel))) rfl
theorem m_2_33 : Cond.fieldLink RX10 305 RX4 "bestRisk" "I" ∈ TB := tb_mem (tb_2 (List.mem_of_getElem? (i := 33) (by decide +kernel))) rfl
theorem m_2_34 : Cond.fieldLink RX4 47 RX4 "bestEnd" "I" ∈ TB := tb_mem (tb_2 (List.mem_of_getElem? (i := 34) (by decide +kernel))) rfl
theorem m_2_35 : Cond.fieldLink RX10 308 RX4 "bestEnd" "I" ∈ TB := tb_mem (tb_2 (List.mem_of_getElem? (i := 35) (by decide +kernel))) rfl
theorem m_2_36 : Cond.fieldLink RX4 25 RX4 "lake" "LLettersLeaping$Lake;" ∈ TB := tb_mem (tb_2 (List.mem_of_getElem? (i := 36) (by decide +kernel))) rfl
theorem m_2_37 : Cond.fieldLink RX4 29 RX4 "leaper" "I" ∈ TB := tb_mem (tb_2 (List.mem_of_getElem? (i := 37) (by decide +kernel))) rfl
theorem m_2_38 : Cond.fieldLink RX4 33 RX4 "latest" "I" ∈ TB := tb_mem (tb_2 (List.mem_of_getElem? (i := 38) (by decide +kernel))) rfl
theorem m_2_39 : Cond.fieldLink RX4 40 RX4 "count" "I" ∈ TB := tb_mem (tb_2 (List.mem_of_getElem? (i := 39) (by decide +kernel))) rfl
theorem m_2_40 : Cond.fieldLink RX4 15 RX4 "jetties" "[I" ∈ TB := tb_mem (tb_2 (List.mem_of_getElem? (i := 40) (by decide +kernel))) rfl
theorem m_2_41 : Cond.fieldLink RX4 18 RX4 "isUsed" "[Z" ∈ TB := tb_mem (tb_2 (List.mem_of_getElem? (i := 41) (by decide +kernel))) rfl
theorem m_2_42 : Cond.fieldLink RX4 22 RX4 "order" "[I" ∈ TB := tb_mem (tb_2 (List.mem_of_getElem? (i := 42) (by decide +kernel))) rfl
theorem m_2_43 : Cond.laysFinal RX4 RX4 "bestOrder" "[I" ∈ TB := tb_mem (tb_2 (List.mem_of_getElem? (i := 43) (by decide +kernel))) rfl
theorem m_2_45 : Cond.lays RX4 RX4 "bestRisk" "I" ∈ TB := tb_mem (tb_2 (List.mem_of_getElem? (i := 45) (by decide +kernel))) rfl
theorem m_2_47 : Cond.lays RX4 RX4 "bestEnd" "I" ∈ TB := tb_mem (tb_2 (List.mem_of_getElem? (i := 47) (by decide +kernel))) rfl
theorem m_2_49 : Cond.lays RX4 RX4 "lake" "LLettersLeaping$Lake;" ∈ TB := tb_mem (tb_2 (List.mem_of_getElem? (i := 49) (by decide +kernel))) rfl
theorem m_2_51 : Cond.lays RX4 RX4 "leaper" "I" ∈ TB := tb_mem (tb_2 (List.mem_of_getElem? (i := 51) (by decide +kernel))) rfl
theorem m_2_53 : Cond.lays RX4 RX4 "latest" "I" ∈ TB := tb_mem (tb_2 (List.mem_of_getElem? (i := 53) (by decide +kernel))) rfl
theorem m_2_55 : Cond.lays RX4 RX4 "count" "I" ∈ TB := tb_mem (tb_2 (List.mem_of_getElem? (i := 55) (by decide +kernel))) rfl
theorem m_2_57 : Cond.laysFinal RX4 RX4 "jetties" "[I" ∈ TB := tb_mem (tb_2 (List.mem_of_getElem? (i := 57) (by decide +kernel))) rfl
theorem m_2_59 : Cond.laysFinal RX4 RX4 "isUsed" "[Z" ∈ TB := tb_mem (tb_2 (List.mem_of_getElem? (i := 59) (by decide +kernel))) rfl
theorem m_2_61 : Cond.laysFinal RX4 RX4 "order" "[I" ∈ TB := tb_mem (tb_2 (List.mem_of_getElem? (i := 61) (by decide +kernel))) rfl
theorem m_2_64 : Cond.arrayClass .boolean ∈ TB := tb_mem (tb_2 (List.mem_of_getElem? (i := 64) (by decide +kernel))) rfl
theorem m_2_65 : Cond.classLink RX10 53 RX7 ∈ TB := tb_mem (tb_2 (List.mem_of_getElem? (i := 65) (by decide +kernel))) rfl
theorem m_2_66 : Cond.instantiable RX7 10 ∈ TB := tb_mem (tb_2 (List.mem_of_getElem? (i := 66) (by decide +kernel))) rfl
theorem m_2_67 : Cond.methodLink RX10 55 yX7_init ∈ TB := tb_mem (tb_2 (List.mem_of_getElem? (i := 67) (by decide +kernel))) rfl
theorem m_2_68 : Cond.instanceMethod yX7_init ∈ TB := tb_mem (tb_2 (List.mem_of_getElem? (i := 68) (by decide +kernel))) rfl
theorem m_2_69 : Cond.code yX7_init cX7_init 1 none ∈ TB := tb_mem (tb_2 (List.mem_of_getElem? (i := 69) (by decide +kernel))) rfl
theorem m_2_70 : Cond.methodLink RX7 3 objectInit ∈ TB := tb_mem (tb_2 (List.mem_of_getElem? (i := 70) (by decide +kernel))) rfl
theorem m_2_71 : Cond.fieldLink RX7 52 RX7 "bestSum" "I" ∈ TB := tb_mem (tb_2 (List.mem_of_getElem? (i := 71) (by decide +kernel))) rfl
theorem m_2_72 : Cond.fieldLink RX10 317 RX7 "bestSum" "I" ∈ TB := tb_mem (tb_2 (List.mem_of_getElem? (i := 72) (by decide +kernel))) rfl
theorem m_2_73 : Cond.fieldLink RX7 39 RX7 "leaperCount" "I" ∈ TB := tb_mem (tb_2 (List.mem_of_getElem? (i := 73) (by decide +kernel))) rfl
theorem m_2_74 : Cond.fieldLink RX7 30 RX7 "most" "I" ∈ TB := tb_mem (tb_2 (List.mem_of_getElem? (i := 74) (by decide +kernel))) rfl
theorem m_2_75 : Cond.fieldLink RX7 44 RX7 "count" "I" ∈ TB := tb_mem (tb_2 (List.mem_of_getElem? (i := 75) (by decide +kernel))) rfl
theorem m_2_76 : Cond.fieldLink RX7 9 RX7 "jetties" "[I" ∈ TB := tb_mem (tb_2 (List.mem_of_getElem? (i := 76) (by decide +kernel))) rfl
theorem m_2_77 : Cond.fieldLink RX7 15 RX7 "risks" "[I" ∈ TB := tb_mem (tb_2 (List.mem_of_getElem? (i := 77) (by decide +kernel))) rfl
theorem m_2_78 : Cond.fieldLink RX7 18 RX7 "leastFrom" "[I" ∈ TB := tb_mem (tb_2 (List.mem_of_getElem? (i := 78) (by decide +kernel))) rfl
theorem m_2_79 : Cond.fieldLink RX7 21 RX7 "loads" "[I" ∈ TB := tb_mem (tb_2 (List.mem_of_getElem? (i := 79) (by decide +kernel))) rfl
theorem m_2_80 : Cond.fieldLink RX7 24 RX7 "chosen" "[I" ∈ TB := tb_mem (tb_2 (List.mem_of_getElem? (i := 80) (by decide +kernel))) rfl
theorem m_2_81 : Cond.fieldLink RX7 27 RX7 "bestChosen" "[I" ∈ TB := tb_mem (tb_2 (List.mem_of_getElem? (i := 81) (by decide +kernel))) rfl
theorem m_2_82 : Cond.lays RX7 RX7 "bestSum" "I" ∈ TB := tb_mem (tb_2 (List.mem_of_getElem? (i := 82) (by decide +kernel))) rfl
theorem m_2_84 : Cond.lays RX7 RX7 "leaperCount" "I" ∈ TB := tb_mem (tb_2 (List.mem_of_getElem? (i := 84) (by decide +kernel))) rfl
theorem m_2_86 : Cond.lays RX7 RX7 "most" "I" ∈ TB := tb_mem (tb_2 (List.mem_of_getElem? (i := 86) (by decide +kernel))) rfl
theorem m_2_88 : Cond.lays RX7 RX7 "count" "I" ∈ TB := tb_mem (tb_2 (List.mem_of_getElem? (i := 88) (by decide +kernel))) rfl
theorem m_2_90 : Cond.laysFinal RX7 RX7 "jetties" "[I" ∈ TB := tb_mem (tb_2 (List.mem_of_getElem? (i := 90) (by decide +kernel))) rfl
theorem m_2_92 : Cond.laysFinal RX7 RX7 "risks" "[I" ∈ TB := tb_mem (tb_2 (List.mem_of_getElem? (i := 92) (by decide +kernel))) rfl
theorem m_2_94 : Cond.laysFinal RX7 RX7 "leastFrom" "[I" ∈ TB := tb_mem (tb_2 (List.mem_of_getElem? (i := 94) (by decide +kernel))) rfl
theorem m_2_96 : Cond.laysFinal RX7 RX7 "loads" "[I" ∈ TB := tb_mem (tb_2 (List.mem_of_getElem? (i := 96) (by decide +kernel))) rfl
theorem m_2_98 : Cond.laysFinal RX7 RX7 "chosen" "[I" ∈ TB := tb_mem (tb_2 (List.mem_of_getElem? (i := 98) (by decide +kernel))) rfl
theorem m_2_100 : Cond.laysFinal RX7 RX7 "bestChosen" "[I" ∈ TB := tb_mem (tb_2 (List.mem_of_getElem? (i := 100) (by decide +kernel))) rfl
theorem m_2_103 : Cond.instantiable RX5 4 ∈ TB := tb_mem (tb_2 (List.mem_of_getElem? (i := 103) (by decide +kernel))) rfl
theorem m_2_104 : Cond.methodLink RX10 63 yX5_init ∈ TB := tb_mem (tb_2 (List.mem_of_getElem? (i := 104) (by decide +kernel))) rfl
theorem m_2_105 : Cond.instanceMethod yX5_init ∈ TB := tb_mem (tb_2 (List.mem_of_getElem? (i := 105) (by decide +kernel))) rfl
theorem m_2_106 : Cond.code yX5_init cX5_init 1 none ∈ TB := tb_mem (tb_2 (List.mem_of_getElem? (i := 106) (by decide +kernel))) rfl
theorem m_2_107 : Cond.methodLink RX5 3 objectInit ∈ TB := tb_mem (tb_2 (List.mem_of_getElem? (i := 107) (by decide +kernel))) rfl
theorem m_2_108 : Cond.fieldLink RX5 9 RX5 "sort" "I" ∈ TB := tb_mem (tb_2 (List.mem_of_getElem? (i := 108) (by decide +kernel))) rfl
theorem m_2_109 : Cond.fieldLink RX10 96 RX5 "sort" "I" ∈ TB := tb_mem (tb_2 (List.mem_of_getElem? (i := 109) (by decide +kernel))) rfl
theorem m_2_110 : Cond.fieldLink RX5 22 RX5 "size" "I" ∈ TB := tb_mem (tb_2 (List.mem_of_getElem? (i := 110) (by decide +kernel))) rfl
theorem m_2_111 : Cond.fieldLink RX10 88 RX5 "size" "I" ∈ TB := tb_mem (tb_2 (List.mem_of_getElem? (i := 111) (by decide +kernel))) rfl
theorem m_2_112 : Cond.fieldLink RX5 15 RX5 "jetty" "I" ∈ TB := tb_mem (tb_2 (List.mem_of_getElem? (i := 112) (by decide +kernel))) rfl
theorem m_2_113 : Cond.fieldLink RX10 116 RX5 "jetty" "I" ∈ TB := tb_mem (tb_2 (List.mem_of_getElem? (i := 113) (by decide +kernel))) rfl
theorem m_2_114 : Cond.fieldLink RX5 18 RX5 "elements" "[J" ∈ TB := tb_mem (tb_2 (List.mem_of_getElem? (i := 114) (by decide +kernel))) rfl
theorem m_2_115 : Cond.fieldLink RX10 102 RX5 "elements" "[J" ∈ TB := tb_mem (tb_2 (List.mem_of_getElem? (i := 115) (by decide +kernel))) rfl
theorem m_2_116 : Cond.lays RX5 RX5 "sort" "I" ∈ TB := tb_mem (tb_2 (List.mem_of_getElem? (i := 116) (by decide +kernel))) rfl
theorem m_2_118 : Cond.lays RX5 RX5 "size" "I" ∈ TB := tb_mem (tb_2 (List.mem_of_getElem? (i := 118) (by decide +kernel))) rfl
theorem m_2_120 : Cond.lays RX5 RX5 "jetty" "I" ∈ TB := tb_mem (tb_2 (List.mem_of_getElem? (i := 120) (by decide +kernel))) rfl
theorem m_2_122 : Cond.laysFinal RX5 RX5 "elements" "[J" ∈ TB := tb_mem (tb_2 (List.mem_of_getElem? (i := 122) (by decide +kernel))) rfl
theorem m_2_125 : Cond.arrayClass .long ∈ TB := tb_mem (tb_2 (List.mem_of_getElem? (i := 125) (by decide +kernel))) rfl
theorem m_2_126 : Cond.fieldLink RX10 11 RX10 "shelves" "[LLettersLeaping$Shelf;" ∈ TB := tb_mem (tb_2 (List.mem_of_getElem? (i := 126) (by decide +kernel))) rfl
theorem m_2_127 : Cond.fieldLink RX10 18 RX10 "tape" "LLettersLeaping$Tape;" ∈ TB := tb_mem (tb_2 (List.mem_of_getElem? (i := 127) (by decide +kernel))) rfl
theorem m_2_128 : Cond.fieldLink RX10 25 RX10 "now" "LLettersLeaping$Lake;" ∈ TB := tb_mem (tb_2 (List.mem_of_getElem? (i := 128) (by decide +kernel))) rfl
theorem m_2_129 : Cond.fieldLink RX10 29 RX10 "kept" "LLettersLeaping$Lake;" ∈ TB := tb_mem (tb_2 (List.mem_of_getElem? (i := 129) (by decide +kernel))) rfl
theorem m_2_130 : Cond.fieldLink RX10 392 RX10 "isKept" "Z" ∈ TB := tb_mem (tb_2 (List.mem_of_getElem? (i := 130) (by decide +kernel))) rfl
theorem m_2_131 : Cond.fieldLink RX10 32 RX10 "refusals" "[I" ∈ TB := tb_mem (tb_2 (List.mem_of_getElem? (i := 131) (by decide +kernel))) rfl
theorem m_2_132 : Cond.fieldLink RX10 39 RX10 "tour" "LLettersLeaping$Tour;" ∈ TB := tb_mem (tb_2 (List.mem_of_getElem? (i := 132) (by decide +kernel))) rfl
theorem m_2_133 : Cond.fieldLink RX10 43 RX10 "plainTour" "LLettersLeaping$Tour;" ∈ TB := tb_mem (tb_2 (List.mem_of_getElem? (i := 133) (by decide +kernel))) rfl
theorem m_2_134 : Cond.fieldLink RX10 49 RX10 "orders" "LLettersLeaping$OrderSearch;" ∈ TB := tb_mem (tb_2 (List.mem_of_getElem? (i := 134) (by decide +kernel))) rfl
theorem m_2_135 : Cond.fieldLink RX10 56 RX10 "teams" "LLettersLeaping$TeamSearch;" ∈ TB := tb_mem (tb_2 (List.mem_of_getElem? (i := 135) (by decide +kernel))) rfl
theorem m_2_136 : Cond.fieldLink RX10 60 RX10 "bag" "[I" ∈ TB := tb_mem (tb_2 (List.mem_of_getElem? (i := 136) (by decide +kernel))) rfl
theorem m_2_137 : Cond.laysFinal RX10 RX10 "shelves" "[LLettersLeaping$Shelf;" ∈ TB := tb_mem (tb_2 (List.mem_of_getElem? (i := 137) (by decide +kernel))) rfl
theorem m_2_139 : Cond.laysFinal RX10 RX10 "tape" "LLettersLeaping$Tape;" ∈ TB := tb_mem (tb_2 (List.mem_of_getElem? (i := 139) (by decide +kernel))) rfl
theorem m_2_141 : Cond.laysFinal RX10 RX10 "now" "LLettersLeaping$Lake;" ∈ TB := tb_mem (tb_2 (List.mem_of_getElem? (i := 141) (by decide +kernel))) rfl
theorem m_2_143 : Cond.laysFinal RX10 RX10 "kept" "LLettersLeaping$Lake;" ∈ TB := tb_mem (tb_2 (List.mem_of_getElem? (i := 143) (by decide +kernel))) rfl
theorem m_2_145 : Cond.lays RX10 RX10 "isKept" "Z" ∈ TB := tb_mem (tb_2 (List.mem_of_getElem? (i := 145) (by decide +kernel))) rfl
theorem m_2_147 : Cond.laysFinal RX10 RX10 "refusals" "[I" ∈ TB := tb_mem (tb_2 (List.mem_of_getElem? (i := 147) (by decide +kernel))) rfl
theorem m_2_149 : Cond.laysFinal RX10 RX10 "tour" "LLettersLeaping$Tour;" ∈ TB := tb_mem (tb_2 (List.mem_of_getElem? (i := 149) (by decide +kernel))) rfl
theorem m_2_151 : Cond.laysFinal RX10 RX10 "plainTour" "LLettersLeaping$Tour;" ∈ TB := tb_mem (tb_2 (List.mem_of_getElem? (i := 151) (by decide +kernel))) rfl
theorem m_2_153 : Cond.laysFinal RX10 RX10 "orders" "LLettersLeaping$OrderSearch;" ∈ TB := tb_mem (tb_2 (List.mem_of_getElem? (i := 153) (by decide +kernel))) rfl
theorem m_2_155 : Cond.laysFinal RX10 RX10 "teams" "LLettersLeaping$TeamSearch;" ∈ TB := tb_mem (tb_2 (List.mem_of_getElem? (i := 155) (by decide +kernel))) rfl
theorem m_2_157 : Cond.laysFinal RX10 RX10 "bag" "[I" ∈ TB := tb_mem (tb_2 (List.mem_of_getElem? (i := 157) (by decide +kernel))) rfl
theorem m_2_160 : Cond.methodLink RL 13 yX10_row ∈ TB := tb_mem (tb_2 (List.mem_of_getElem? (i := 160) (by decide +kernel))) rfl
theorem m_2_161 : Cond.instanceMethod yX10_row ∈ TB := tb_mem (tb_2 (List.mem_of_getElem? (i := 161) (by decide +kernel))) rfl
theorem m_2_162 : Cond.selects RX10 yX10_row yX10_row ∈ TB := tb_mem (tb_2 (List.mem_of_getElem? (i := 162) (by decide +kernel))) rfl
theorem m_2_163 : Cond.code yX10_row cX10_row 4 (some .int) ∈ TB := tb_mem (tb_2 (List.mem_of_getElem? (i := 163) (by decide +kernel))) rfl
theorem m_2_164 : Cond.methodLink RX10 64 yX10_isShelf ∈ TB := tb_mem (tb_2 (List.mem_of_getElem? (i := 164) (by decide +kernel))) rfl
theorem m_2_165 : Cond.static yX10_isShelf ∈ TB := tb_mem (tb_2 (List.mem_of_getElem? (i := 165) (by decide +kernel))) rfl
theorem m_2_166 : Cond.code yX10_isShelf cX10_isShelf 1 (some .boolean) ∈ TB := tb_mem (tb_2 (List.mem_of_getElem? (i := 166) (by decide +kernel))) rfl
theorem m_2_167 : Cond.methodLink RX10 68 yX10_isBelow ∈ TB := tb_mem (tb_2 (List.mem_of_getElem? (i := 167) (by decide +kernel))) rfl
theorem m_2_168 : Cond.static yX10_isBelow ∈ TB := tb_mem (tb_2 (List.mem_of_getElem? (i := 168) (by decide +kernel))) rfl
theorem m_2_169 : Cond.code yX10_isBelow cX10_isBelow 2 (some .boolean) ∈ TB := tb_mem (tb_2 (List.mem_of_getElem? (i := 169) (by decide +kernel))) rfl
theorem m_2_170 : Cond.methodLink RX10 72 yX10_isWithin ∈ TB := tb_mem (tb_2 (List.mem_of_getElem? (i := 170) (by decide +kernel))) rfl
theorem m_2_171 : Cond.static yX10_isWithin ∈ TB := tb_mem (tb_2 (List.mem_of_getElem? (i := 171) (by decide +kernel))) rfl
theorem m_2_172 : Cond.code yX10_isWithin cX10_isWithin 3 (some .boolean) ∈ TB := tb_mem (tb_2 (List.mem_of_getElem? (i := 172) (by decide +kernel))) rfl
theorem m_2_173 : Cond.methodLink RX10 76 yX10_refuse ∈ TB := tb_mem (tb_2 (List.mem_of_getElem? (i := 173) (by decide +kernel))) rfl
theorem m_2_175 : Cond.instanceMethod yX10_refuse ∈ TB := tb_mem (tb_2 (List.mem_of_getElem? (i := 175) (by decide +kernel))) rfl
theorem m_2_176 : Cond.code yX10_refuse cX10_refuse 3 (some .int) ∈ TB := tb_mem (tb_2 (List.mem_of_getElem? (i := 176) (by decide +kernel))) rfl
theorem m_2_177 : Cond.methodLink RX10 80 yX5_takeRow ∈ TB := tb_mem (tb_2 (List.mem_of_getElem? (i := 177) (by decide +kernel))) rfl
theorem m_2_178 : Cond.instanceMethod yX5_takeRow ∈ TB := tb_mem (tb_2 (List.mem_of_getElem? (i := 178) (by decide +kernel))) rfl
theorem m_2_179 : Cond.selects RX5 yX5_takeRow yX5_takeRow ∈ TB := tb_mem (tb_2 (List.mem_of_getElem? (i := 179) (by decide +kernel))) rfl
theorem m_2_180 : Cond.code yX5_takeRow cX5_takeRow 4 none ∈ TB := tb_mem (tb_2 (List.mem_of_getElem? (i := 180) (by decide +kernel))) rfl
theorem m_2_181 : Cond.methodLink RL 20 yX10_set ∈ TB := tb_mem (tb_2 (List.mem_of_getElem? (i := 181) (by decide +kernel))) rfl
theorem m_2_182 : Cond.instanceMethod yX10_set ∈ TB := tb_mem (tb_2 (List.mem_of_getElem? (i := 182) (by decide +kernel))) rfl
theorem m_2_183 : Cond.selects RX10 yX10_set yX10_set ∈ TB := tb_mem (tb_2 (List.mem_of_getElem? (i := 183) (by decide +kernel))) rfl
theorem m_2_184 : Cond.code yX10_set cX10_set 6 (some .int) ∈ TB := tb_mem (tb_2 (List.mem_of_getElem? (i := 184) (by decide +kernel))) rfl
theorem m_2_185 : Cond.methodLink RX10 84 yX10_rowTrouble ∈ TB := tb_mem (tb_2 (List.mem_of_getElem? (i := 185) (by decide +kernel))) rfl
theorem m_2_187 : Cond.instanceMethod yX10_rowTrouble ∈ TB := tb_mem (tb_2 (List.mem_of_getElem? (i := 187) (by decide +kernel))) rfl
theorem m_2_188 : Cond.code yX10_rowTrouble cX10_rowTrouble 3 (some .int) ∈ TB := tb_mem (tb_2 (List.mem_of_getElem? (i := 188) (by decide +kernel))) rfl
theorem m_2_189 : Cond.methodLink RX10 398 yX5_isEmpty ∈ TB := tb_mem (tb_2 (List.mem_of_getElem? (i := 189) (by decide +kernel))) rfl
theorem m_2_190 : Cond.instanceMethod yX5_isEmpty ∈ TB := tb_mem (tb_2 (List.mem_of_getElem? (i := 190) (by decide +kernel))) rfl
theorem m_2_191 : Cond.selects RX5 yX5_isEmpty yX5_isEmpty ∈ TB := tb_mem (tb_2 (List.mem_of_getElem? (i := 191) (by decide +kernel))) rfl
theorem m_2_192 : Cond.code yX5_isEmpty cX5_isEmpty 1 (some .boolean) ∈ TB := tb_mem (tb_2 (List.mem_of_getElem? (i := 192) (by decide +kernel))) rfl
theorem m_2_193 : Cond.methodLink RX10 92 yX5_put ∈ TB := tb_mem (tb_2 (List.mem_of_getElem? (i := 193) (by decide +kernel))) rfl
theorem m_2_194 : Cond.instanceMethod yX5_put ∈ TB := tb_mem (tb_2 (List.mem_of_getElem? (i := 194) (by decide +kernel))) rfl
theorem m_2_195 : Cond.selects RX5 yX5_put yX5_put ∈ TB := tb_mem (tb_2 (List.mem_of_getElem? (i := 195) (by decide +kernel))) rfl
theorem m_2_196 : Cond.code yX5_put cX5_put 4 none ∈ TB := tb_mem (tb_2 (List.mem_of_getElem? (i := 196) (by decide +kernel))) rfl
theorem m_2_197 : Cond.methodLinkNest RX5 25 yX10_isBelow RX10 ∈ TB := tb_mem (tb_2 (List.mem_of_getElem? (i := 197) (by decide +kernel))) rfl
theorem m_2_198 : Cond.methodLink RX5 29 yX5_lowestBits ∈ TB := tb_mem (tb_2 (List.mem_of_getElem? (i := 198) (by decide +kernel))) rfl
theorem m_2_200 : Cond.instanceMethod yX5_lowestBits ∈ TB := tb_mem (tb_2 (List.mem_of_getElem? (i := 200) (by decide +kernel))) rfl
theorem m_2_201 : Cond.code yX5_lowestBits cX5_lowestBits 3 (some .long) ∈ TB := tb_mem (tb_2 (List.mem_of_getElem? (i := 201) (by decide +kernel))) rfl
theorem m_2_202 : Cond.methodLink RL 25 yX10_copy ∈ TB := tb_mem (tb_2 (List.mem_of_getElem? (i := 202) (by decide +kernel))) rfl
theorem m_2_203 : Cond.instanceMethod yX10_copy ∈ TB := tb_mem (tb_2 (List.mem_of_getElem? (i := 203) (by decide +kernel))) rfl
theorem m_2_204 : Cond.selects RX10 yX10_copy yX10_copy ∈ TB := tb_mem (tb_2 (List.mem_of_getElem? (i := 204) (by decide +kernel))) rfl
theorem m_2_205 : Cond.code yX10_copy cX10_copy 9 (some .int) ∈ TB := tb_mem (tb_2 (List.mem_of_getElem? (i := 205) (by decide +kernel))) rfl
theorem m_2_206 : Cond.methodLink RX10 99 yX5_hasPart ∈ TB := tb_mem (tb_2 (List.mem_of_getElem? (i := 206) (by decide +kernel))) rfl
theorem m_2_207 : Cond.instanceMethod yX5_hasPart ∈ TB := tb_mem (tb_2 (List.mem_of_getElem? (i := 207) (by decide +kernel))) rfl
theorem m_2_208 : Cond.selects RX5 yX5_hasPart yX5_hasPart ∈ TB := tb_mem (tb_2 (List.mem_of_getElem? (i := 208) (by decide +kernel))) rfl
theorem m_2_209 : Cond.code yX5_hasPart cX5_hasPart 3 (some .boolean) ∈ TB := tb_mem (tb_2 (List.mem_of_getElem? (i := 209) (by decide +kernel))) rfl
theorem m_2_210 : Cond.methodLink RX10 106 arraycopyName ∈ TB := tb_mem (tb_2 (List.mem_of_getElem? (i := 210) (by decide +kernel))) rfl
theorem m_2_211 : Cond.methodLink RL 30 yX10_element ∈ TB := tb_mem (tb_2 (List.mem_of_getElem? (i := 211) (by decide +kernel))) rfl
theorem m_2_212 : Cond.instanceMethod yX10_element ∈ TB := tb_mem (tb_2 (List.mem_of_getElem? (i := 212) (by decide +kernel))) rfl
theorem m_2_213 : Cond.selects RX10 yX10_element yX10_element ∈ TB := tb_mem (tb_2 (List.mem_of_getElem? (i := 213) (by decide +kernel))) rfl
theorem m_2_214 : Cond.code yX10_element cX10_element 3 (some .long) ∈ TB := tb_mem (tb_2 (List.mem_of_getElem? (i := 214) (by decide +kernel))) rfl
theorem m_2_215 : Cond.methodLink RX10 112 yX5_at ∈ TB := tb_mem (tb_2 (List.mem_of_getElem? (i := 215) (by decide +kernel))) rfl
theorem m_2_216 : Cond.instanceMethod yX5_at ∈ TB := tb_mem (tb_2 (List.mem_of_getElem? (i := 216) (by decide +kernel))) rfl
theorem m_2_217 : Cond.selects RX5 yX5_at yX5_at ∈ TB := tb_mem (tb_2 (List.mem_of_getElem? (i := 217) (by decide +kernel))) rfl
theorem m_2_218 : Cond.code yX5_at cX5_at 2 (some .long) ∈ TB := tb_mem (tb_2 (List.mem_of_getElem? (i := 218) (by decide +kernel))) rfl
theorem m_2_219 : Cond.methodLink RL 35 yX10_holds ∈ TB := tb_mem (tb_2 (List.mem_of_getElem? (i := 219) (by decide +kernel))) rfl
theorem m_2_220 : Cond.instanceMethod yX10_holds ∈ TB := tb_mem (tb_2 (List.mem_of_getElem? (i := 220) (by decide +kernel))) rfl
theorem m_2_221 : Cond.selects RX10 yX10_holds yX10_holds ∈ TB := tb_mem (tb_2 (List.mem_of_getElem? (i := 221) (by decide +kernel))) rfl
theorem m_2_222 : Cond.code yX10_holds cX10_holds 3 (some .int) ∈ TB := tb_mem (tb_2 (List.mem_of_getElem? (i := 222) (by decide +kernel))) rfl
theorem m_2_223 : Cond.methodLink RL 40 yX10_show ∈ TB := tb_mem (tb_2 (List.mem_of_getElem? (i := 223) (by decide +kernel))) rfl
theorem m_2_224 : Cond.instanceMethod yX10_show ∈ TB := tb_mem (tb_2 (List.mem_of_getElem? (i := 224) (by decide +kernel))) rfl
theorem m_2_225 : Cond.selects RX10 yX10_show yX10_show ∈ TB := tb_mem (tb_2 (List.mem_of_getElem? (i := 225) (by decide +kernel))) rfl
theorem m_2_226 : Cond.code yX10_show cX10_show 3 (some .int) ∈ TB := tb_mem (tb_2 (List.mem_of_getElem? (i := 226) (by decide +kernel))) rfl
theorem m_2_227 : Cond.methodLink RX10 119 yX10_isJetty ∈ TB := tb_mem (tb_2 (List.mem_of_getElem? (i := 227) (by decide +kernel))) rfl
theorem m_2_229 : Cond.instanceMethod yX10_isJetty ∈ TB := tb_mem (tb_2 (List.mem_of_getElem? (i := 229) (by decide +kernel))) rfl
theorem m_2_230 : Cond.code yX10_isJetty cX10_isJetty 2 (some .boolean) ∈ TB := tb_mem (tb_2 (List.mem_of_getElem? (i := 230) (by decide +kernel))) rfl
theorem m_2_231 : Cond.methodLink RX10 122 yX5_takeJetty ∈ TB := tb_mem (tb_2 (List.mem_of_getElem? (i := 231) (by decide +kernel))) rfl
theorem m_2_232 : Cond.instanceMethod yX5_takeJetty ∈ TB := tb_mem (tb_2 (List.mem_of_getElem? (i := 232) (by decide +kernel))) rfl
theorem m_2_233 : Cond.selects RX5 yX5_takeJetty yX5_takeJetty ∈ TB := tb_mem (tb_2 (List.mem_of_getElem? (i := 233) (by decide +kernel))) rfl
theorem m_2_234 : Cond.code yX5_takeJetty cX5_takeJetty 2 none ∈ TB := tb_mem (tb_2 (List.mem_of_getElem? (i := 234) (by decide +kernel))) rfl
theorem m_2_235 : Cond.methodLink RL 45 yX10_says ∈ TB := tb_mem (tb_2 (List.mem_of_getElem? (i := 235) (by decide +kernel))) rfl
theorem m_2_236 : Cond.instanceMethod yX10_says ∈ TB := tb_mem (tb_2 (List.mem_of_getElem? (i := 236) (by decide +kernel))) rfl
theorem m_2_237 : Cond.selects RX10 yX10_says yX10_says ∈ TB := tb_mem (tb_2 (List.mem_of_getElem? (i := 237) (by decide +kernel))) rfl
theorem m_2_238 : Cond.code yX10_says cX10_says 5 (some .int) ∈ TB := tb_mem (tb_2 (List.mem_of_getElem? (i := 238) (by decide +kernel))) rfl
theorem m_2_239 : Cond.methodLink RX10 130 yX0_isOfKind ∈ TB := tb_mem (tb_2 (List.mem_of_getElem? (i := 239) (by decide +kernel))) rfl
theorem m_3_0 : Cond.instanceMethod yX0_isOfKind ∈ TB := tb_mem (tb_3 (List.mem_of_getElem? (i := 0) (by decide +kernel))) rfl
theorem m_3_1 : Cond.selects RX0 yX0_isOfKind yX0_isOfKind ∈ TB := tb_mem (tb_3 (List.mem_of_getElem? (i := 1) (by decide +kernel))) rfl
theorem m_3_2 : Cond.code yX0_isOfKind cX0_isOfKind 4 (some .boolean) ∈ TB := tb_mem (tb_3 (List.mem_of_getElem? (i := 2) (by decide +kernel))) rfl
theorem m_3_3 : Cond.methodLinkNest RX0 32 yX10_isBelow RX10 ∈ TB := tb_mem (tb_3 (List.mem_of_getElem? (i := 3) (by decide +kernel))) rfl
theorem m_3_4 : Cond.fieldLinkNest RX0 36 RX10 "KIND_ABOVE" "[I" RX10 ∈ TB := tb_mem (tb_3 (List.mem_of_getElem? (i := 4) (by decide +kernel))) rfl
theorem m_3_6 : Cond.methodLink RX10 135 yX10_saying ∈ TB := tb_mem (tb_3 (List.mem_of_getElem? (i := 6) (by decide +kernel))) rfl
theorem m_3_8 : Cond.instanceMethod yX10_saying ∈ TB := tb_mem (tb_3 (List.mem_of_getElem? (i := 8) (by decide +kernel))) rfl
theorem m_3_9 : Cond.code yX10_saying cX10_saying 3 (some .int) ∈ TB := tb_mem (tb_3 (List.mem_of_getElem? (i := 9) (by decide +kernel))) rfl
theorem m_3_10 : Cond.methodLink RX10 139 yX0_paces ∈ TB := tb_mem (tb_3 (List.mem_of_getElem? (i := 10) (by decide +kernel))) rfl
theorem m_3_11 : Cond.instanceMethod yX0_paces ∈ TB := tb_mem (tb_3 (List.mem_of_getElem? (i := 11) (by decide +kernel))) rfl
theorem m_3_12 : Cond.selects RX0 yX0_paces yX0_paces ∈ TB := tb_mem (tb_3 (List.mem_of_getElem? (i := 12) (by decide +kernel))) rfl
theorem m_3_13 : Cond.code yX0_paces cX0_paces 1 (some .int) ∈ TB := tb_mem (tb_3 (List.mem_of_getElem? (i := 13) (by decide +kernel))) rfl
theorem m_3_14 : Cond.methodLink RX10 146 yX0_riseAt ∈ TB := tb_mem (tb_3 (List.mem_of_getElem? (i := 14) (by decide +kernel))) rfl
theorem m_3_15 : Cond.instanceMethod yX0_riseAt ∈ TB := tb_mem (tb_3 (List.mem_of_getElem? (i := 15) (by decide +kernel))) rfl
theorem m_3_16 : Cond.selects RX0 yX0_riseAt yX0_riseAt ∈ TB := tb_mem (tb_3 (List.mem_of_getElem? (i := 16) (by decide +kernel))) rfl
theorem m_3_17 : Cond.code yX0_riseAt cX0_riseAt 2 (some .int) ∈ TB := tb_mem (tb_3 (List.mem_of_getElem? (i := 17) (by decide +kernel))) rfl
theorem m_3_18 : Cond.methodLink RX0 40 Lib.Math.max.name ∈ TB := tb_mem (tb_3 (List.mem_of_getElem? (i := 18) (by decide +kernel))) rfl
theorem m_3_19 : Cond.static Lib.Math.max.name ∈ TB := tb_mem (tb_3 (List.mem_of_getElem? (i := 19) (by decide +kernel))) rfl
theorem m_3_20 : Cond.code Lib.Math.max.name Lib.Math.max.code 2 (some .int) ∈ TB := tb_mem (tb_3 (List.mem_of_getElem? (i := 20) (by decide +kernel))) rfl
theorem m_3_21 : Cond.methodLink RX10 153 yX10_toNumber ∈ TB := tb_mem (tb_3 (List.mem_of_getElem? (i := 21) (by decide +kernel))) rfl
theorem m_3_22 : Cond.static yX10_toNumber ∈ TB := tb_mem (tb_3 (List.mem_of_getElem? (i := 22) (by decide +kernel))) rfl
theorem m_3_23 : Cond.code yX10_toNumber cX10_toNumber 1 (some .int) ∈ TB := tb_mem (tb_3 (List.mem_of_getElem? (i := 23) (by decide +kernel))) rfl
theorem m_3_24 : Cond.methodLink RL 49 yX10_jetty ∈ TB := tb_mem (tb_3 (List.mem_of_getElem? (i := 24) (by decide +kernel))) rfl
theorem m_3_25 : Cond.instanceMethod yX10_jetty ∈ TB := tb_mem (tb_3 (List.mem_of_getElem? (i := 25) (by decide +kernel))) rfl
theorem m_3_26 : Cond.selects RX10 yX10_jetty yX10_jetty ∈ TB := tb_mem (tb_3 (List.mem_of_getElem? (i := 26) (by decide +kernel))) rfl
theorem m_3_27 : Cond.code yX10_jetty cX10_jetty 5 (some .int) ∈ TB := tb_mem (tb_3 (List.mem_of_getElem? (i := 27) (by decide +kernel))) rfl
theorem m_3_28 : Cond.methodLink RX10 163 yX0_build ∈ TB := tb_mem (tb_3 (List.mem_of_getElem? (i := 28) (by decide +kernel))) rfl
theorem m_3_29 : Cond.instanceMethod yX0_build ∈ TB := tb_mem (tb_3 (List.mem_of_getElem? (i := 29) (by decide +kernel))) rfl
theorem m_3_30 : Cond.selects RX0 yX0_build yX0_build ∈ TB := tb_mem (tb_3 (List.mem_of_getElem? (i := 30) (by decide +kernel))) rfl
theorem m_3_31 : Cond.code yX0_build cX0_build 5 none ∈ TB := tb_mem (tb_3 (List.mem_of_getElem? (i := 31) (by decide +kernel))) rfl
theorem m_3_32 : Cond.methodLink RL 54 yX10_jettyOf ∈ TB := tb_mem (tb_3 (List.mem_of_getElem? (i := 32) (by decide +kernel))) rfl
theorem m_3_33 : Cond.instanceMethod yX10_jettyOf ∈ TB := tb_mem (tb_3 (List.mem_of_getElem? (i := 33) (by decide +kernel))) rfl
theorem m_3_34 : Cond.selects RX10 yX10_jettyOf yX10_jettyOf ∈ TB := tb_mem (tb_3 (List.mem_of_getElem? (i := 34) (by decide +kernel))) rfl
theorem m_3_35 : Cond.code yX10_jettyOf cX10_jettyOf 4 (some .int) ∈ TB := tb_mem (tb_3 (List.mem_of_getElem? (i := 35) (by decide +kernel))) rfl
theorem m_3_36 : Cond.methodLink RX10 176 yX1_isOut ∈ TB := tb_mem (tb_3 (List.mem_of_getElem? (i := 36) (by decide +kernel))) rfl
theorem m_3_37 : Cond.instanceMethod yX1_isOut ∈ TB := tb_mem (tb_3 (List.mem_of_getElem? (i := 37) (by decide +kernel))) rfl
theorem m_3_38 : Cond.selects RX1 yX1_isOut yX1_isOut ∈ TB := tb_mem (tb_3 (List.mem_of_getElem? (i := 38) (by decide +kernel))) rfl
theorem m_3_39 : Cond.code yX1_isOut cX1_isOut 3 (some .boolean) ∈ TB := tb_mem (tb_3 (List.mem_of_getElem? (i := 39) (by decide +kernel))) rfl
theorem m_3_40 : Cond.methodLink RX1 110 yX0_riseAt ∈ TB := tb_mem (tb_3 (List.mem_of_getElem? (i := 40) (by decide +kernel))) rfl
theorem m_3_41 : Cond.methodLink RX1 113 yX1_deck ∈ TB := tb_mem (tb_3 (List.mem_of_getElem? (i := 41) (by decide +kernel))) rfl
theorem m_3_43 : Cond.instanceMethod yX1_deck ∈ TB := tb_mem (tb_3 (List.mem_of_getElem? (i := 43) (by decide +kernel))) rfl
theorem m_3_44 : Cond.code yX1_deck cX1_deck 1 (some .int) ∈ TB := tb_mem (tb_3 (List.mem_of_getElem? (i := 44) (by decide +kernel))) rfl
theorem m_3_45 : Cond.methodLink RX1 117 Lib.Math.abs.name ∈ TB := tb_mem (tb_3 (List.mem_of_getElem? (i := 45) (by decide +kernel))) rfl
theorem m_3_46 : Cond.static Lib.Math.abs.name ∈ TB := tb_mem (tb_3 (List.mem_of_getElem? (i := 46) (by decide +kernel))) rfl
theorem m_3_47 : Cond.code Lib.Math.abs.name Lib.Math.abs.code 1 (some .int) ∈ TB := tb_mem (tb_3 (List.mem_of_getElem? (i := 47) (by decide +kernel))) rfl
theorem m_3_48 : Cond.methodLink RX10 180 yX1_speed ∈ TB := tb_mem (tb_3 (List.mem_of_getElem? (i := 48) (by decide +kernel))) rfl
theorem m_3_49 : Cond.instanceMethod yX1_speed ∈ TB := tb_mem (tb_3 (List.mem_of_getElem? (i := 49) (by decide +kernel))) rfl
theorem m_3_50 : Cond.selects RX1 yX1_speed yX1_speed ∈ TB := tb_mem (tb_3 (List.mem_of_getElem? (i := 50) (by decide +kernel))) rfl
theorem m_3_51 : Cond.code yX1_speed cX1_speed 1 (some .int) ∈ TB := tb_mem (tb_3 (List.mem_of_getElem? (i := 51) (by decide +kernel))) rfl
theorem m_3_52 : Cond.methodLink RX1 106 yX1_lawValue ∈ TB := tb_mem (tb_3 (List.mem_of_getElem? (i := 52) (by decide +kernel))) rfl
theorem m_3_54 : Cond.instanceMethod yX1_lawValue ∈ TB := tb_mem (tb_3 (List.mem_of_getElem? (i := 54) (by decide +kernel))) rfl
theorem m_3_55 : Cond.code yX1_lawValue cX1_lawValue 3 (some .int) ∈ TB := tb_mem (tb_3 (List.mem_of_getElem? (i := 55) (by decide +kernel))) rfl
theorem m_3_56 : Cond.fieldLinkNest RX1 103 RX10 "LAW_AT_FIRST" "[I" RX10 ∈ TB := tb_mem (tb_3 (List.mem_of_getElem? (i := 56) (by decide +kernel))) rfl
theorem m_3_57 : Cond.methodLink RX10 183 yX1_hasTime ∈ TB := tb_mem (tb_3 (List.mem_of_getElem? (i := 57) (by decide +kernel))) rfl
theorem m_3_58 : Cond.instanceMethod yX1_hasTime ∈ TB := tb_mem (tb_3 (List.mem_of_getElem? (i := 58) (by decide +kernel))) rfl
theorem m_3_59 : Cond.selects RX1 yX1_hasTime yX1_hasTime ∈ TB := tb_mem (tb_3 (List.mem_of_getElem? (i := 59) (by decide +kernel))) rfl
theorem m_3_60 : Cond.code yX1_hasTime cX1_hasTime 4 (some .boolean) ∈ TB := tb_mem (tb_3 (List.mem_of_getElem? (i := 60) (by decide +kernel))) rfl
theorem m_3_61 : Cond.methodLink RX1 122 yX0_paces ∈ TB := tb_mem (tb_3 (List.mem_of_getElem? (i := 61) (by decide +kernel))) rfl
theorem m_3_62 : Cond.methodLinkNest RX1 125 yX10_roundedUpBy RX10 ∈ TB := tb_mem (tb_3 (List.mem_of_getElem? (i := 62) (by decide +kernel))) rfl
theorem m_3_63 : Cond.static yX10_roundedUpBy ∈ TB := tb_mem (tb_3 (List.mem_of_getElem? (i := 63) (by decide +kernel))) rfl
theorem m_3_64 : Cond.code yX10_roundedUpBy cX10_roundedUpBy 2 (some .int) ∈ TB := tb_mem (tb_3 (List.mem_of_getElem? (i := 64) (by decide +kernel))) rfl
theorem m_3_65 : Cond.methodLinkNest RX1 129 yX10_cutBy RX10 ∈ TB := tb_mem (tb_3 (List.mem_of_getElem? (i := 65) (by decide +kernel))) rfl
theorem m_3_66 : Cond.static yX10_cutBy ∈ TB := tb_mem (tb_3 (List.mem_of_getElem? (i := 66) (by decide +kernel))) rfl
theorem m_3_67 : Cond.code yX10_cutBy cX10_cutBy 2 (some .int) ∈ TB := tb_mem (tb_3 (List.mem_of_getElem? (i := 67) (by decide +kernel))) rfl
theorem m_3_68 : Cond.methodLink RL 58 yX10_wet ∈ TB := tb_mem (tb_3 (List.mem_of_getElem? (i := 68) (by decide +kernel))) rfl
theorem m_3_69 : Cond.instanceMethod yX10_wet ∈ TB := tb_mem (tb_3 (List.mem_of_getElem? (i := 69) (by decide +kernel))) rfl
theorem m_3_70 : Cond.selects RX10 yX10_wet yX10_wet ∈ TB := tb_mem (tb_3 (List.mem_of_getElem? (i := 70) (by decide +kernel))) rfl
theorem m_3_71 : Cond.code yX10_wet cX10_wet 5 (some .int) ∈ TB := tb_mem (tb_3 (List.mem_of_getElem? (i := 71) (by decide +kernel))) rfl
theorem m_3_72 : Cond.methodLink RL 63 yX10_rise ∈ TB := tb_mem (tb_3 (List.mem_of_getElem? (i := 72) (by decide +kernel))) rfl
theorem m_3_73 : Cond.instanceMethod yX10_rise ∈ TB := tb_mem (tb_3 (List.mem_of_getElem? (i := 73) (by decide +kernel))) rfl
theorem m_3_74 : Cond.selects RX10 yX10_rise yX10_rise ∈ TB := tb_mem (tb_3 (List.mem_of_getElem? (i := 74) (by decide +kernel))) rfl
theorem m_3_75 : Cond.code yX10_rise cX10_rise 3 (some .int) ∈ TB := tb_mem (tb_3 (List.mem_of_getElem? (i := 75) (by decide +kernel))) rfl
theorem m_3_76 : Cond.methodLink RL 67 yX10_lake ∈ TB := tb_mem (tb_3 (List.mem_of_getElem? (i := 76) (by decide +kernel))) rfl
theorem m_3_77 : Cond.instanceMethod yX10_lake ∈ TB := tb_mem (tb_3 (List.mem_of_getElem? (i := 77) (by decide +kernel))) rfl
theorem m_3_78 : Cond.selects RX10 yX10_lake yX10_lake ∈ TB := tb_mem (tb_3 (List.mem_of_getElem? (i := 78) (by decide +kernel))) rfl
theorem m_3_79 : Cond.code yX10_lake cX10_lake 4 (some .int) ∈ TB := tb_mem (tb_3 (List.mem_of_getElem? (i := 79) (by decide +kernel))) rfl
theorem m_3_80 : Cond.methodLink RL 71 yX10_wind ∈ TB := tb_mem (tb_3 (List.mem_of_getElem? (i := 80) (by decide +kernel))) rfl
theorem m_3_81 : Cond.instanceMethod yX10_wind ∈ TB := tb_mem (tb_3 (List.mem_of_getElem? (i := 81) (by decide +kernel))) rfl
theorem m_3_82 : Cond.selects RX10 yX10_wind yX10_wind ∈ TB := tb_mem (tb_3 (List.mem_of_getElem? (i := 82) (by decide +kernel))) rfl
theorem m_3_83 : Cond.code yX10_wind cX10_wind 4 (some .int) ∈ TB := tb_mem (tb_3 (List.mem_of_getElem? (i := 83) (by decide +kernel))) rfl
theorem m_3_84 : Cond.methodLink RX10 192 yX10_isHour ∈ TB := tb_mem (tb_3 (List.mem_of_getElem? (i := 84) (by decide +kernel))) rfl
theorem m_3_85 : Cond.static yX10_isHour ∈ TB := tb_mem (tb_3 (List.mem_of_getElem? (i := 85) (by decide +kernel))) rfl
theorem m_3_86 : Cond.code yX10_isHour cX10_isHour 1 (some .boolean) ∈ TB := tb_mem (tb_3 (List.mem_of_getElem? (i := 86) (by decide +kernel))) rfl
theorem m_3_87 : Cond.methodLink RL 75 yX10_winds ∈ TB := tb_mem (tb_3 (List.mem_of_getElem? (i := 87) (by decide +kernel))) rfl
theorem m_3_88 : Cond.instanceMethod yX10_winds ∈ TB := tb_mem (tb_3 (List.mem_of_getElem? (i := 88) (by decide +kernel))) rfl
theorem m_3_89 : Cond.selects RX10 yX10_winds yX10_winds ∈ TB := tb_mem (tb_3 (List.mem_of_getElem? (i := 89) (by decide +kernel))) rfl
theorem m_3_90 : Cond.code yX10_winds cX10_winds 7 (some .int) ∈ TB := tb_mem (tb_3 (List.mem_of_getElem? (i := 90) (by decide +kernel))) rfl
theorem m_3_91 : Cond.methodLink RX10 198 Lib.Math.min.name ∈ TB := tb_mem (tb_3 (List.mem_of_getElem? (i := 91) (by decide +kernel))) rfl
theorem m_3_92 : Cond.static Lib.Math.min.name ∈ TB := tb_mem (tb_3 (List.mem_of_getElem? (i := 92) (by decide +kernel))) rfl
theorem m_3_93 : Cond.code Lib.Math.min.name Lib.Math.min.code 2 (some .int) ∈ TB := tb_mem (tb_3 (List.mem_of_getElem? (i := 93) (by decide +kernel))) rfl
theorem m_3_94 : Cond.constantLong RX10 203 9 ∈ TB := tb_mem (tb_3 (List.mem_of_getElem? (i := 94) (by decide +kernel))) rfl
theorem m_3_95 : Cond.methodLink RL 79 yX10_feed ∈ TB := tb_mem (tb_3 (List.mem_of_getElem? (i := 95) (by decide +kernel))) rfl
theorem m_3_96 : Cond.instanceMethod yX10_feed ∈ TB := tb_mem (tb_3 (List.mem_of_getElem? (i := 96) (by decide +kernel))) rfl
theorem m_3_97 : Cond.selects RX10 yX10_feed yX10_feed ∈ TB := tb_mem (tb_3 (List.mem_of_getElem? (i := 97) (by decide +kernel))) rfl
theorem m_3_98 : Cond.code yX10_feed cX10_feed 3 (some .int) ∈ TB := tb_mem (tb_3 (List.mem_of_getElem? (i := 98) (by decide +kernel))) rfl
theorem m_3_99 : Cond.methodLink RX10 206 yX6_append ∈ TB := tb_mem (tb_3 (List.mem_of_getElem? (i := 99) (by decide +kernel))) rfl
theorem m_3_100 : Cond.instanceMethod yX6_append ∈ TB := tb_mem (tb_3 (List.mem_of_getElem? (i := 100) (by decide +kernel))) rfl
theorem m_3_101 : Cond.selects RX6 yX6_append yX6_append ∈ TB := tb_mem (tb_3 (List.mem_of_getElem? (i := 101) (by decide +kernel))) rfl
theorem m_3_102 : Cond.code yX6_append cX6_append 4 none ∈ TB := tb_mem (tb_3 (List.mem_of_getElem? (i := 102) (by decide +kernel))) rfl
theorem m_3_103 : Cond.methodLink RL 83 yX10_wipe ∈ TB := tb_mem (tb_3 (List.mem_of_getElem? (i := 103) (by decide +kernel))) rfl
theorem m_3_104 : Cond.instanceMethod yX10_wipe ∈ TB := tb_mem (tb_3 (List.mem_of_getElem? (i := 104) (by decide +kernel))) rfl
theorem m_3_105 : Cond.selects RX10 yX10_wipe yX10_wipe ∈ TB := tb_mem (tb_3 (List.mem_of_getElem? (i := 105) (by decide +kernel))) rfl
theorem m_3_106 : Cond.code yX10_wipe cX10_wipe 2 (some .int) ∈ TB := tb_mem (tb_3 (List.mem_of_getElem? (i := 106) (by decide +kernel))) rfl
theorem m_3_107 : Cond.methodLink RL 88 yX10_law ∈ TB := tb_mem (tb_3 (List.mem_of_getElem? (i := 107) (by decide +kernel))) rfl
theorem m_3_108 : Cond.instanceMethod yX10_law ∈ TB := tb_mem (tb_3 (List.mem_of_getElem? (i := 108) (by decide +kernel))) rfl
theorem m_3_109 : Cond.selects RX10 yX10_law yX10_law ∈ TB := tb_mem (tb_3 (List.mem_of_getElem? (i := 109) (by decide +kernel))) rfl
theorem m_3_110 : Cond.code yX10_law cX10_law 2 (some .int) ∈ TB := tb_mem (tb_3 (List.mem_of_getElem? (i := 110) (by decide +kernel))) rfl
theorem m_3_111 : Cond.methodLink RX10 216 yX6_readInto ∈ TB := tb_mem (tb_3 (List.mem_of_getElem? (i := 111) (by decide +kernel))) rfl
theorem m_3_112 : Cond.instanceMethod yX6_readInto ∈ TB := tb_mem (tb_3 (List.mem_of_getElem? (i := 112) (by decide +kernel))) rfl
theorem m_3_113 : Cond.selects RX6 yX6_readInto yX6_readInto ∈ TB := tb_mem (tb_3 (List.mem_of_getElem? (i := 113) (by decide +kernel))) rfl
theorem m_3_114 : Cond.code yX6_readInto cX6_readInto 6 (some .int) ∈ TB := tb_mem (tb_3 (List.mem_of_getElem? (i := 114) (by decide +kernel))) rfl
theorem m_3_115 : Cond.methodLink RX6 19 yX2_reset ∈ TB := tb_mem (tb_3 (List.mem_of_getElem? (i := 115) (by decide +kernel))) rfl
theorem m_3_116 : Cond.methodLink RX6 27 yX6_skipBlanks ∈ TB := tb_mem (tb_3 (List.mem_of_getElem? (i := 116) (by decide +kernel))) rfl
theorem m_3_118 : Cond.instanceMethod yX6_skipBlanks ∈ TB := tb_mem (tb_3 (List.mem_of_getElem? (i := 118) (by decide +kernel))) rfl
theorem m_3_119 : Cond.code yX6_skipBlanks cX6_skipBlanks 1 none ∈ TB := tb_mem (tb_3 (List.mem_of_getElem? (i := 119) (by decide +kernel))) rfl
theorem m_3_120 : Cond.methodLink RX6 30 yX6_readWord ∈ TB := tb_mem (tb_3 (List.mem_of_getElem? (i := 120) (by decide +kernel))) rfl
theorem m_3_122 : Cond.instanceMethod yX6_readWord ∈ TB := tb_mem (tb_3 (List.mem_of_getElem? (i := 122) (by decide +kernel))) rfl
theorem m_3_123 : Cond.code yX6_readWord cX6_readWord 3 (some .int) ∈ TB := tb_mem (tb_3 (List.mem_of_getElem? (i := 123) (by decide +kernel))) rfl
theorem m_3_124 : Cond.methodLink RX6 51 yX6_endOfRun ∈ TB := tb_mem (tb_3 (List.mem_of_getElem? (i := 124) (by decide +kernel))) rfl
theorem m_3_126 : Cond.instanceMethod yX6_endOfRun ∈ TB := tb_mem (tb_3 (List.mem_of_getElem? (i := 126) (by decide +kernel))) rfl
theorem m_3_127 : Cond.code yX6_endOfRun cX6_endOfRun 4 (some .int) ∈ TB := tb_mem (tb_3 (List.mem_of_getElem? (i := 127) (by decide +kernel))) rfl
theorem m_3_128 : Cond.methodLink RX6 55 yX6_lawWord ∈ TB := tb_mem (tb_3 (List.mem_of_getElem? (i := 128) (by decide +kernel))) rfl
theorem m_3_129 : Cond.static yX6_lawWord ∈ TB := tb_mem (tb_3 (List.mem_of_getElem? (i := 129) (by decide +kernel))) rfl
theorem m_3_130 : Cond.code yX6_lawWord cX6_lawWord 1 (some (.object "java/lang/String")) ∈ TB := tb_mem (tb_3 (List.mem_of_getElem? (i := 130) (by decide +kernel))) rfl
theorem m_3_140 : Cond.methodLink RX6 59 yX6_stands ∈ TB := tb_mem (tb_3 (List.mem_of_getElem? (i := 140) (by decide +kernel))) rfl
theorem m_3_142 : Cond.instanceMethod yX6_stands ∈ TB := tb_mem (tb_3 (List.mem_of_getElem? (i := 142) (by decide +kernel))) rfl
theorem m_3_143 : Cond.code yX6_stands cX6_stands 4 (some .boolean) ∈ TB := tb_mem (tb_3 (List.mem_of_getElem? (i := 143) (by decide +kernel))) rfl
theorem m_3_144 : Cond.methodLink RX6 63 yJ0_length_8abf5 ∈ TB := tb_mem (tb_3 (List.mem_of_getElem? (i := 144) (by decide +kernel))) rfl
theorem m_3_145 : Cond.instanceMethod yJ0_length_8abf5 ∈ TB := tb_mem (tb_3 (List.mem_of_getElem? (i := 145) (by decide +kernel))) rfl
theorem m_3_146 : Cond.selects RJ0 yJ0_length_8abf5 yJ0_length_8abf5 ∈ TB := tb_mem (tb_3 (List.mem_of_getElem? (i := 146) (by decide +kernel))) rfl
theorem m_3_147 : Cond.code yJ0_length_8abf5 cJ0_length_8abf5 1 (some .int) ∈ TB := tb_mem (tb_3 (List.mem_of_getElem? (i := 147) (by decide +kernel))) rfl
theorem m_3_148 : Cond.methodLink RJ0 335 yJ0_coder_7d493 ∈ TB := tb_mem (tb_3 (List.mem_of_getElem? (i := 148) (by decide +kernel))) rfl
theorem m_3_149 : Cond.instanceMethod yJ0_coder_7d493 ∈ TB := tb_mem (tb_3 (List.mem_of_getElem? (i := 149) (by decide +kernel))) rfl
theorem m_3_150 : Cond.selects RJ0 yJ0_coder_7d493 yJ0_coder_7d493 ∈ TB := tb_mem (tb_3 (List.mem_of_getElem? (i := 150) (by decide +kernel))) rfl
theorem m_3_151 : Cond.code yJ0_coder_7d493 cJ0_coder_7d493 1 (some .byte) ∈ TB := tb_mem (tb_3 (List.mem_of_getElem? (i := 151) (by decide +kernel))) rfl
theorem m_3_152 : Cond.fieldLink RJ0 38 RJ0 "COMPACT_STRINGS" "Z" ∈ TB := tb_mem (tb_3 (List.mem_of_getElem? (i := 152) (by decide +kernel))) rfl
theorem m_3_154 : Cond.methodLink RX6 68 yJ0_charAt_5068e ∈ TB := tb_mem (tb_3 (List.mem_of_getElem? (i := 154) (by decide +kernel))) rfl
theorem m_3_155 : Cond.instanceMethod yJ0_charAt_5068e ∈ TB := tb_mem (tb_3 (List.mem_of_getElem? (i := 155) (by decide +kernel))) rfl
theorem m_3_156 : Cond.selects RJ0 yJ0_charAt_5068e yJ0_charAt_5068e ∈ TB := tb_mem (tb_3 (List.mem_of_getElem? (i := 156) (by decide +kernel))) rfl
theorem m_3_157 : Cond.code yJ0_charAt_5068e cJ0_charAt_5068e 2 (some .char) ∈ TB := tb_mem (tb_3 (List.mem_of_getElem? (i := 157) (by decide +kernel))) rfl
theorem m_3_158 : Cond.methodLink RJ0 492 yJ0_isLatin1_aae02 ∈ TB := tb_mem (tb_3 (List.mem_of_getElem? (i := 158) (by decide +kernel))) rfl
theorem m_3_159 : Cond.instanceMethod yJ0_isLatin1_aae02 ∈ TB := tb_mem (tb_3 (List.mem_of_getElem? (i := 159) (by decide +kernel))) rfl
theorem m_3_160 : Cond.selects RJ0 yJ0_isLatin1_aae02 yJ0_isLatin1_aae02 ∈ TB := tb_mem (tb_3 (List.mem_of_getElem? (i := 160) (by decide +kernel))) rfl
theorem m_3_161 : Cond.code yJ0_isLatin1_aae02 cJ0_isLatin1_aae02 1 (some .boolean) ∈ TB := tb_mem (tb_3 (List.mem_of_getElem? (i := 161) (by decide +kernel))) rfl
theorem m_3_162 : Cond.methodLink RJ0 495 yJ1_charAt_3b067 ∈ TB := tb_mem (tb_3 (List.mem_of_getElem? (i := 162) (by decide +kernel))) rfl
theorem m_3_163 : Cond.static yJ1_charAt_3b067 ∈ TB := tb_mem (tb_3 (List.mem_of_getElem? (i := 163) (by decide +kernel))) rfl
theorem m_3_164 : Cond.code yJ1_charAt_3b067 cJ1_charAt_3b067 2 (some .char) ∈ TB := tb_mem (tb_3 (List.mem_of_getElem? (i := 164) (by decide +kernel))) rfl
theorem m_3_165 : Cond.methodLink RJ1 9 yJ0_checkIndex_df160 ∈ TB := tb_mem (tb_3 (List.mem_of_getElem? (i := 165) (by decide +kernel))) rfl
theorem m_3_166 : Cond.static yJ0_checkIndex_df160 ∈ TB := tb_mem (tb_3 (List.mem_of_getElem? (i := 166) (by decide +kernel))) rfl
theorem m_3_167 : Cond.code yJ0_checkIndex_df160 cJ0_checkIndex_df160 2 none ∈ TB := tb_mem (tb_3 (List.mem_of_getElem? (i := 167) (by decide +kernel))) rfl
theorem m_3_168 : Cond.fieldLink RJ0 1053 RJ3 "SIOOBE_FORMATTER" "Ljava/util/function/BiFunction;" ∈ TB := tb_mem (tb_3 (List.mem_of_getElem? (i := 168) (by decide +kernel))) rfl
theorem m_3_170 : Cond.methodLink RJ0 1059 yJ3_checkIndex_8e157 ∈ TB := tb_mem (tb_3 (List.mem_of_getElem? (i := 170) (by decide +kernel))) rfl
theorem m_3_171 : Cond.static yJ3_checkIndex_8e157 ∈ TB := tb_mem (tb_3 (List.mem_of_getElem? (i := 171) (by decide +kernel))) rfl
theorem m_3_172 : Cond.code yJ3_checkIndex_8e157 cJ3_checkIndex_8e157 3 (some .int) ∈ TB := tb_mem (tb_3 (List.mem_of_getElem? (i := 172) (by decide +kernel))) rfl
theorem m_3_173 : Cond.methodLink RJ0 498 yJ2_charAt_3b067 ∈ TB := tb_mem (tb_3 (List.mem_of_getElem? (i := 173) (by decide +kernel))) rfl
theorem m_3_174 : Cond.static yJ2_charAt_3b067 ∈ TB := tb_mem (tb_3 (List.mem_of_getElem? (i := 174) (by decide +kernel))) rfl
theorem m_3_175 : Cond.code yJ2_charAt_3b067 cJ2_charAt_3b067 2 (some .char) ∈ TB := tb_mem (tb_3 (List.mem_of_getElem? (i := 175) (by decide +kernel))) rfl
theorem m_3_176 : Cond.methodLink RJ2 67 yJ2_checkIndex_2214a ∈ TB := tb_mem (tb_3 (List.mem_of_getElem? (i := 176) (by decide +kernel))) rfl
theorem m_3_177 : Cond.static yJ2_checkIndex_2214a ∈ TB := tb_mem (tb_3 (List.mem_of_getElem? (i := 177) (by decide +kernel))) rfl
theorem m_3_178 : Cond.code yJ2_checkIndex_2214a cJ2_checkIndex_2214a 2 none ∈ TB := tb_mem (tb_3 (List.mem_of_getElem? (i := 178) (by decide +kernel))) rfl
theorem m_3_179 : Cond.methodLink RJ2 48 yJ2_length_9d52b ∈ TB := tb_mem (tb_3 (List.mem_of_getElem? (i := 179) (by decide +kernel))) rfl
theorem m_3_180 : Cond.static yJ2_length_9d52b ∈ TB := tb_mem (tb_3 (List.mem_of_getElem? (i := 180) (by decide +kernel))) rfl
theorem m_3_181 : Cond.code yJ2_length_9d52b cJ2_length_9d52b 1 (some .int) ∈ TB := tb_mem (tb_3 (List.mem_of_getElem? (i := 181) (by decide +kernel))) rfl
theorem m_3_182 : Cond.methodLink RJ2 414 yJ0_checkIndex_df160 ∈ TB := tb_mem (tb_3 (List.mem_of_getElem? (i := 182) (by decide +kernel))) rfl
theorem m_3_183 : Cond.methodLink RJ2 71 yJ2_getChar_3b067 ∈ TB := tb_mem (tb_3 (List.mem_of_getElem? (i := 183) (by decide +kernel))) rfl
theorem m_3_184 : Cond.static yJ2_getChar_3b067 ∈ TB := tb_mem (tb_3 (List.mem_of_getElem? (i := 184) (by decide +kernel))) rfl
theorem m_3_185 : Cond.code yJ2_getChar_3b067 cJ2_getChar_3b067 2 (some .char) ∈ TB := tb_mem (tb_3 (List.mem_of_getElem? (i := 185) (by decide +kernel))) rfl
theorem m_3_186 : Cond.fieldLink RJ2 44 RJ2 "$assertionsDisabled" "Z" ∈ TB := tb_mem (tb_3 (List.mem_of_getElem? (i := 186) (by decide +kernel))) rfl
theorem m_3_188 : Cond.fieldLink RJ2 59 RJ2 "HI_BYTE_SHIFT" "I" ∈ TB := tb_mem (tb_3 (List.mem_of_getElem? (i := 188) (by decide +kernel))) rfl
theorem m_3_190 : Cond.fieldLink RJ2 63 RJ2 "LO_BYTE_SHIFT" "I" ∈ TB := tb_mem (tb_3 (List.mem_of_getElem? (i := 190) (by decide +kernel))) rfl
theorem m_3_192 : Cond.methodLink RX6 34 yX6_readNumber ∈ TB := tb_mem (tb_3 (List.mem_of_getElem? (i := 192) (by decide +kernel))) rfl
theorem m_3_194 : Cond.instanceMethod yX6_readNumber ∈ TB := tb_mem (tb_3 (List.mem_of_getElem? (i := 194) (by decide +kernel))) rfl
theorem m_3_195 : Cond.code yX6_readNumber cX6_readNumber 4 (some .int) ∈ TB := tb_mem (tb_3 (List.mem_of_getElem? (i := 195) (by decide +kernel))) rfl
theorem m_3_196 : Cond.fieldLinkNest RX6 37 RX10 "LAW_LEAST" "[I" RX10 ∈ TB := tb_mem (tb_3 (List.mem_of_getElem? (i := 196) (by decide +kernel))) rfl
theorem m_3_198 : Cond.fieldLinkNest RX6 41 RX10 "LAW_MOST" "[I" RX10 ∈ TB := tb_mem (tb_3 (List.mem_of_getElem? (i := 198) (by decide +kernel))) rfl
theorem m_3_200 : Cond.methodLinkNest RX6 44 yX10_isWithin RX10 ∈ TB := tb_mem (tb_3 (List.mem_of_getElem? (i := 200) (by decide +kernel))) rfl
theorem m_3_201 : Cond.methodLink RL 92 yX10_lawOf ∈ TB := tb_mem (tb_3 (List.mem_of_getElem? (i := 201) (by decide +kernel))) rfl
theorem m_3_202 : Cond.instanceMethod yX10_lawOf ∈ TB := tb_mem (tb_3 (List.mem_of_getElem? (i := 202) (by decide +kernel))) rfl
theorem m_3_203 : Cond.selects RX10 yX10_lawOf yX10_lawOf ∈ TB := tb_mem (tb_3 (List.mem_of_getElem? (i := 203) (by decide +kernel))) rfl
theorem m_3_204 : Cond.code yX10_lawOf cX10_lawOf 3 (some .int) ∈ TB := tb_mem (tb_3 (List.mem_of_getElem? (i := 204) (by decide +kernel))) rfl
theorem m_3_205 : Cond.methodLink RX10 220 yX10_isLaw ∈ TB := tb_mem (tb_3 (List.mem_of_getElem? (i := 205) (by decide +kernel))) rfl
theorem m_3_207 : Cond.instanceMethod yX10_isLaw ∈ TB := tb_mem (tb_3 (List.mem_of_getElem? (i := 207) (by decide +kernel))) rfl
theorem m_3_208 : Cond.code yX10_isLaw cX10_isLaw 2 (some .boolean) ∈ TB := tb_mem (tb_3 (List.mem_of_getElem? (i := 208) (by decide +kernel))) rfl
theorem m_3_209 : Cond.methodLink RL 96 yX10_force ∈ TB := tb_mem (tb_3 (List.mem_of_getElem? (i := 209) (by decide +kernel))) rfl
theorem m_3_210 : Cond.instanceMethod yX10_force ∈ TB := tb_mem (tb_3 (List.mem_of_getElem? (i := 210) (by decide +kernel))) rfl
theorem m_3_211 : Cond.selects RX10 yX10_force yX10_force ∈ TB := tb_mem (tb_3 (List.mem_of_getElem? (i := 211) (by decide +kernel))) rfl
theorem m_3_212 : Cond.code yX10_force cX10_force 3 (some .int) ∈ TB := tb_mem (tb_3 (List.mem_of_getElem? (i := 212) (by decide +kernel))) rfl
theorem m_3_213 : Cond.methodLink RL 100 yX10_leaper ∈ TB := tb_mem (tb_3 (List.mem_of_getElem? (i := 213) (by decide +kernel))) rfl
theorem m_3_214 : Cond.instanceMethod yX10_leaper ∈ TB := tb_mem (tb_3 (List.mem_of_getElem? (i := 214) (by decide +kernel))) rfl
theorem m_3_215 : Cond.selects RX10 yX10_leaper yX10_leaper ∈ TB := tb_mem (tb_3 (List.mem_of_getElem? (i := 215) (by decide +kernel))) rfl
theorem m_3_216 : Cond.code yX10_leaper cX10_leaper 2 (some .int) ∈ TB := tb_mem (tb_3 (List.mem_of_getElem? (i := 216) (by decide +kernel))) rfl
theorem m_3_217 : Cond.methodLink RX10 238 yX3_join ∈ TB := tb_mem (tb_3 (List.mem_of_getElem? (i := 217) (by decide +kernel))) rfl
theorem m_3_218 : Cond.instanceMethod yX3_join ∈ TB := tb_mem (tb_3 (List.mem_of_getElem? (i := 218) (by decide +kernel))) rfl
theorem m_3_219 : Cond.selects RX3 yX3_join yX3_join ∈ TB := tb_mem (tb_3 (List.mem_of_getElem? (i := 219) (by decide +kernel))) rfl
theorem m_3_220 : Cond.code yX3_join cX3_join 2 none ∈ TB := tb_mem (tb_3 (List.mem_of_getElem? (i := 220) (by decide +kernel))) rfl
theorem m_3_221 : Cond.methodLink RL 104 yX10_leaperOf ∈ TB := tb_mem (tb_3 (List.mem_of_getElem? (i := 221) (by decide +kernel))) rfl
theorem m_3_222 : Cond.instanceMethod yX10_leaperOf ∈ TB := tb_mem (tb_3 (List.mem_of_getElem? (i := 222) (by decide +kernel))) rfl
theorem m_3_223 : Cond.selects RX10 yX10_leaperOf yX10_leaperOf ∈ TB := tb_mem (tb_3 (List.mem_of_getElem? (i := 223) (by decide +kernel))) rfl
theorem m_3_224 : Cond.code yX10_leaperOf cX10_leaperOf 3 (some .int) ∈ TB := tb_mem (tb_3 (List.mem_of_getElem? (i := 224) (by decide +kernel))) rfl
theorem m_3_225 : Cond.methodLink RX10 243 yX10_isLeaper ∈ TB := tb_mem (tb_3 (List.mem_of_getElem? (i := 225) (by decide +kernel))) rfl
theorem m_3_227 : Cond.instanceMethod yX10_isLeaper ∈ TB := tb_mem (tb_3 (List.mem_of_getElem? (i := 227) (by decide +kernel))) rfl
theorem m_3_228 : Cond.code yX10_isLeaper cX10_isLeaper 2 (some .boolean) ∈ TB := tb_mem (tb_3 (List.mem_of_getElem? (i := 228) (by decide +kernel))) rfl
theorem m_3_229 : Cond.methodLink RL 108 yX10_tried ∈ TB := tb_mem (tb_3 (List.mem_of_getElem? (i := 229) (by decide +kernel))) rfl
theorem m_3_230 : Cond.instanceMethod yX10_tried ∈ TB := tb_mem (tb_3 (List.mem_of_getElem? (i := 230) (by decide +kernel))) rfl
theorem m_3_231 : Cond.selects RX10 yX10_tried yX10_tried ∈ TB := tb_mem (tb_3 (List.mem_of_getElem? (i := 231) (by decide +kernel))) rfl
theorem m_3_232 : Cond.code yX10_tried cX10_tried 4 (some .int) ∈ TB := tb_mem (tb_3 (List.mem_of_getElem? (i := 232) (by decide +kernel))) rfl
theorem m_3_233 : Cond.methodLink RX10 255 yX3_count ∈ TB := tb_mem (tb_3 (List.mem_of_getElem? (i := 233) (by decide +kernel))) rfl
theorem m_3_234 : Cond.instanceMethod yX3_count ∈ TB := tb_mem (tb_3 (List.mem_of_getElem? (i := 234) (by decide +kernel))) rfl
theorem m_3_235 : Cond.selects RX3 yX3_count yX3_count ∈ TB := tb_mem (tb_3 (List.mem_of_getElem? (i := 235) (by decide +kernel))) rfl
theorem m_3_236 : Cond.code yX3_count cX3_count 3 none ∈ TB := tb_mem (tb_3 (List.mem_of_getElem? (i := 236) (by decide +kernel))) rfl
theorem m_3_237 : Cond.methodLink RL 112 yX10_learnt ∈ TB := tb_mem (tb_3 (List.mem_of_getElem? (i := 237) (by decide +kernel))) rfl
theorem m_3_238 : Cond.instanceMethod yX10_learnt ∈ TB := tb_mem (tb_3 (List.mem_of_getElem? (i := 238) (by decide +kernel))) rfl
theorem m_3_239 : Cond.selects RX10 yX10_learnt yX10_learnt ∈ TB := tb_mem (tb_3 (List.mem_of_getElem? (i := 239) (by decide +kernel))) rfl
theorem m_4_0 : Cond.code yX10_learnt cX10_learnt 2 (some .int) ∈ TB := tb_mem (tb_4 (List.mem_of_getElem? (i := 0) (by decide +kernel))) rfl
theorem m_4_1 : Cond.methodLink RX10 258 yX3_learntSkill ∈ TB := tb_mem (tb_4 (List.mem_of_getElem? (i := 1) (by decide +kernel))) rfl
theorem m_4_2 : Cond.instanceMethod yX3_learntSkill ∈ TB := tb_mem (tb_4 (List.mem_of_getElem? (i := 2) (by decide +kernel))) rfl
theorem m_4_3 : Cond.selects RX3 yX3_learntSkill yX3_learntSkill ∈ TB := tb_mem (tb_4 (List.mem_of_getElem? (i := 3) (by decide +kernel))) rfl
theorem m_4_4 : Cond.code yX3_learntSkill cX3_learntSkill 1 (some .int) ∈ TB := tb_mem (tb_4 (List.mem_of_getElem? (i := 4) (by decide +kernel))) rfl
theorem m_4_5 : Cond.methodLinkNest RX3 21 yX10_cutBy RX10 ∈ TB := tb_mem (tb_4 (List.mem_of_getElem? (i := 5) (by decide +kernel))) rfl
theorem m_4_6 : Cond.methodLink RX3 25 Lib.Math.min.name ∈ TB := tb_mem (tb_4 (List.mem_of_getElem? (i := 6) (by decide +kernel))) rfl
theorem m_4_7 : Cond.methodLink RL 116 yX10_learn ∈ TB := tb_mem (tb_4 (List.mem_of_getElem? (i := 7) (by decide +kernel))) rfl
theorem m_4_8 : Cond.instanceMethod yX10_learn ∈ TB := tb_mem (tb_4 (List.mem_of_getElem? (i := 8) (by decide +kernel))) rfl
theorem m_4_9 : Cond.selects RX10 yX10_learn yX10_learn ∈ TB := tb_mem (tb_4 (List.mem_of_getElem? (i := 9) (by decide +kernel))) rfl
theorem m_4_10 : Cond.code yX10_learn cX10_learn 4 (some .int) ∈ TB := tb_mem (tb_4 (List.mem_of_getElem? (i := 10) (by decide +kernel))) rfl
theorem m_4_11 : Cond.methodLink RL 120 yX10_risk ∈ TB := tb_mem (tb_4 (List.mem_of_getElem? (i := 11) (by decide +kernel))) rfl
theorem m_4_12 : Cond.instanceMethod yX10_risk ∈ TB := tb_mem (tb_4 (List.mem_of_getElem? (i := 12) (by decide +kernel))) rfl
theorem m_4_13 : Cond.selects RX10 yX10_risk yX10_risk ∈ TB := tb_mem (tb_4 (List.mem_of_getElem? (i := 13) (by decide +kernel))) rfl
theorem m_4_14 : Cond.code yX10_risk cX10_risk 4 (some .int) ∈ TB := tb_mem (tb_4 (List.mem_of_getElem? (i := 14) (by decide +kernel))) rfl
theorem m_4_15 : Cond.methodLink RX10 261 yX1_riskOf ∈ TB := tb_mem (tb_4 (List.mem_of_getElem? (i := 15) (by decide +kernel))) rfl
theorem m_4_16 : Cond.instanceMethod yX1_riskOf ∈ TB := tb_mem (tb_4 (List.mem_of_getElem? (i := 16) (by decide +kernel))) rfl
theorem m_4_17 : Cond.selects RX1 yX1_riskOf yX1_riskOf ∈ TB := tb_mem (tb_4 (List.mem_of_getElem? (i := 17) (by decide +kernel))) rfl
theorem m_4_18 : Cond.code yX1_riskOf cX1_riskOf 6 (some .int) ∈ TB := tb_mem (tb_4 (List.mem_of_getElem? (i := 18) (by decide +kernel))) rfl
theorem m_4_19 : Cond.methodLink RX1 142 yX1_isHopeless ∈ TB := tb_mem (tb_4 (List.mem_of_getElem? (i := 19) (by decide +kernel))) rfl
theorem m_4_20 : Cond.instanceMethod yX1_isHopeless ∈ TB := tb_mem (tb_4 (List.mem_of_getElem? (i := 20) (by decide +kernel))) rfl
theorem m_4_21 : Cond.selects RX1 yX1_isHopeless yX1_isHopeless ∈ TB := tb_mem (tb_4 (List.mem_of_getElem? (i := 21) (by decide +kernel))) rfl
theorem m_4_22 : Cond.code yX1_isHopeless cX1_isHopeless 2 (some .boolean) ∈ TB := tb_mem (tb_4 (List.mem_of_getElem? (i := 22) (by decide +kernel))) rfl
theorem m_4_23 : Cond.methodLink RX1 132 yX1_isOut ∈ TB := tb_mem (tb_4 (List.mem_of_getElem? (i := 23) (by decide +kernel))) rfl
theorem m_4_24 : Cond.methodLink RX1 136 yX1_speed ∈ TB := tb_mem (tb_4 (List.mem_of_getElem? (i := 24) (by decide +kernel))) rfl
theorem m_4_25 : Cond.methodLink RX1 139 yX1_hasTime ∈ TB := tb_mem (tb_4 (List.mem_of_getElem? (i := 25) (by decide +kernel))) rfl
theorem m_4_26 : Cond.methodLink RX1 153 Lib.Math.min.name ∈ TB := tb_mem (tb_4 (List.mem_of_getElem? (i := 26) (by decide +kernel))) rfl
theorem m_4_27 : Cond.methodLink RX1 156 Lib.Math.max.name ∈ TB := tb_mem (tb_4 (List.mem_of_getElem? (i := 27) (by decide +kernel))) rfl
theorem m_4_28 : Cond.methodLink RL 124 yX10_calm ∈ TB := tb_mem (tb_4 (List.mem_of_getElem? (i := 28) (by decide +kernel))) rfl
theorem m_4_29 : Cond.instanceMethod yX10_calm ∈ TB := tb_mem (tb_4 (List.mem_of_getElem? (i := 29) (by decide +kernel))) rfl
theorem m_4_30 : Cond.selects RX10 yX10_calm yX10_calm ∈ TB := tb_mem (tb_4 (List.mem_of_getElem? (i := 30) (by decide +kernel))) rfl
theorem m_4_31 : Cond.code yX10_calm cX10_calm 7 (some .int) ∈ TB := tb_mem (tb_4 (List.mem_of_getElem? (i := 31) (by decide +kernel))) rfl
theorem m_4_32 : Cond.methodLink RL 144 yX10_safest ∈ TB := tb_mem (tb_4 (List.mem_of_getElem? (i := 32) (by decide +kernel))) rfl
theorem m_4_33 : Cond.instanceMethod yX10_safest ∈ TB := tb_mem (tb_4 (List.mem_of_getElem? (i := 33) (by decide +kernel))) rfl
theorem m_4_34 : Cond.selects RX10 yX10_safest yX10_safest ∈ TB := tb_mem (tb_4 (List.mem_of_getElem? (i := 34) (by decide +kernel))) rfl
theorem m_4_35 : Cond.code yX10_safest cX10_safest 7 (some .int) ∈ TB := tb_mem (tb_4 (List.mem_of_getElem? (i := 35) (by decide +kernel))) rfl
theorem m_4_36 : Cond.methodLink RL 128 yX10_leg ∈ TB := tb_mem (tb_4 (List.mem_of_getElem? (i := 36) (by decide +kernel))) rfl
theorem m_4_37 : Cond.instanceMethod yX10_leg ∈ TB := tb_mem (tb_4 (List.mem_of_getElem? (i := 37) (by decide +kernel))) rfl
theorem m_4_38 : Cond.selects RX10 yX10_leg yX10_leg ∈ TB := tb_mem (tb_4 (List.mem_of_getElem? (i := 38) (by decide +kernel))) rfl
theorem m_4_39 : Cond.code yX10_leg cX10_leg 3 (some .int) ∈ TB := tb_mem (tb_4 (List.mem_of_getElem? (i := 39) (by decide +kernel))) rfl
theorem m_4_40 : Cond.methodLink RX10 265 yX1_legMinutes ∈ TB := tb_mem (tb_4 (List.mem_of_getElem? (i := 40) (by decide +kernel))) rfl
theorem m_4_41 : Cond.instanceMethod yX1_legMinutes ∈ TB := tb_mem (tb_4 (List.mem_of_getElem? (i := 41) (by decide +kernel))) rfl
theorem m_4_42 : Cond.selects RX1 yX1_legMinutes yX1_legMinutes ∈ TB := tb_mem (tb_4 (List.mem_of_getElem? (i := 42) (by decide +kernel))) rfl
theorem m_4_43 : Cond.code yX1_legMinutes cX1_legMinutes 6 (some .int) ∈ TB := tb_mem (tb_4 (List.mem_of_getElem? (i := 43) (by decide +kernel))) rfl
theorem m_4_44 : Cond.methodLink RL 132 yX10_round ∈ TB := tb_mem (tb_4 (List.mem_of_getElem? (i := 44) (by decide +kernel))) rfl
theorem m_4_45 : Cond.instanceMethod yX10_round ∈ TB := tb_mem (tb_4 (List.mem_of_getElem? (i := 45) (by decide +kernel))) rfl
theorem m_4_46 : Cond.selects RX10 yX10_round yX10_round ∈ TB := tb_mem (tb_4 (List.mem_of_getElem? (i := 46) (by decide +kernel))) rfl
theorem m_4_47 : Cond.code yX10_round cX10_round 6 (some .int) ∈ TB := tb_mem (tb_4 (List.mem_of_getElem? (i := 47) (by decide +kernel))) rfl
theorem m_4_48 : Cond.methodLink RX10 268 yX10_roundTrouble ∈ TB := tb_mem (tb_4 (List.mem_of_getElem? (i := 48) (by decide +kernel))) rfl
theorem m_4_50 : Cond.instanceMethod yX10_roundTrouble ∈ TB := tb_mem (tb_4 (List.mem_of_getElem? (i := 50) (by decide +kernel))) rfl
theorem m_4_51 : Cond.code yX10_roundTrouble cX10_roundTrouble 4 (some .int) ∈ TB := tb_mem (tb_4 (List.mem_of_getElem? (i := 51) (by decide +kernel))) rfl
theorem m_4_52 : Cond.methodLink RX10 331 yX10_tellsJetties ∈ TB := tb_mem (tb_4 (List.mem_of_getElem? (i := 52) (by decide +kernel))) rfl
theorem m_4_54 : Cond.instanceMethod yX10_tellsJetties ∈ TB := tb_mem (tb_4 (List.mem_of_getElem? (i := 54) (by decide +kernel))) rfl
theorem m_4_55 : Cond.code yX10_tellsJetties cX10_tellsJetties 7 (some .boolean) ∈ TB := tb_mem (tb_4 (List.mem_of_getElem? (i := 55) (by decide +kernel))) rfl
theorem m_4_56 : Cond.methodLink RX10 271 yX10_readTour ∈ TB := tb_mem (tb_4 (List.mem_of_getElem? (i := 56) (by decide +kernel))) rfl
theorem m_4_58 : Cond.instanceMethod yX10_readTour ∈ TB := tb_mem (tb_4 (List.mem_of_getElem? (i := 58) (by decide +kernel))) rfl
theorem m_4_59 : Cond.code yX10_readTour cX10_readTour 5 none ∈ TB := tb_mem (tb_4 (List.mem_of_getElem? (i := 59) (by decide +kernel))) rfl
theorem m_4_60 : Cond.methodLink RX10 275 yX8_hopeless ∈ TB := tb_mem (tb_4 (List.mem_of_getElem? (i := 60) (by decide +kernel))) rfl
theorem m_4_61 : Cond.instanceMethod yX8_hopeless ∈ TB := tb_mem (tb_4 (List.mem_of_getElem? (i := 61) (by decide +kernel))) rfl
theorem m_4_62 : Cond.selects RX8 yX8_hopeless yX8_hopeless ∈ TB := tb_mem (tb_4 (List.mem_of_getElem? (i := 62) (by decide +kernel))) rfl
theorem m_4_63 : Cond.code yX8_hopeless cX8_hopeless 4 (some .int) ∈ TB := tb_mem (tb_4 (List.mem_of_getElem? (i := 63) (by decide +kernel))) rfl
theorem m_4_64 : Cond.methodLink RX8 46 yX1_isHopeless ∈ TB := tb_mem (tb_4 (List.mem_of_getElem? (i := 64) (by decide +kernel))) rfl
theorem m_4_65 : Cond.methodLinkNest RX8 50 yX10_toNumber RX10 ∈ TB := tb_mem (tb_4 (List.mem_of_getElem? (i := 65) (by decide +kernel))) rfl
theorem m_4_66 : Cond.methodLink RX10 279 yX8_sail ∈ TB := tb_mem (tb_4 (List.mem_of_getElem? (i := 66) (by decide +kernel))) rfl
theorem m_4_67 : Cond.instanceMethod yX8_sail ∈ TB := tb_mem (tb_4 (List.mem_of_getElem? (i := 67) (by decide +kernel))) rfl
theorem m_4_68 : Cond.selects RX8 yX8_sail yX8_sail ∈ TB := tb_mem (tb_4 (List.mem_of_getElem? (i := 68) (by decide +kernel))) rfl
theorem m_4_69 : Cond.code yX8_sail cX8_sail 8 none ∈ TB := tb_mem (tb_4 (List.mem_of_getElem? (i := 69) (by decide +kernel))) rfl
theorem m_4_70 : Cond.methodLink RX8 35 yX1_legMinutes ∈ TB := tb_mem (tb_4 (List.mem_of_getElem? (i := 70) (by decide +kernel))) rfl
theorem m_4_71 : Cond.methodLink RX10 283 yX8_riskBy ∈ TB := tb_mem (tb_4 (List.mem_of_getElem? (i := 71) (by decide +kernel))) rfl
theorem m_4_72 : Cond.instanceMethod yX8_riskBy ∈ TB := tb_mem (tb_4 (List.mem_of_getElem? (i := 72) (by decide +kernel))) rfl
theorem m_4_73 : Cond.selects RX8 yX8_riskBy yX8_riskBy ∈ TB := tb_mem (tb_4 (List.mem_of_getElem? (i := 73) (by decide +kernel))) rfl
theorem m_4_74 : Cond.code yX8_riskBy cX8_riskBy 5 (some .int) ∈ TB := tb_mem (tb_4 (List.mem_of_getElem? (i := 74) (by decide +kernel))) rfl
theorem m_4_75 : Cond.methodLinkNest RX8 39 yX10_hourOf RX10 ∈ TB := tb_mem (tb_4 (List.mem_of_getElem? (i := 75) (by decide +kernel))) rfl
theorem m_4_76 : Cond.static yX10_hourOf ∈ TB := tb_mem (tb_4 (List.mem_of_getElem? (i := 76) (by decide +kernel))) rfl
theorem m_4_77 : Cond.code yX10_hourOf cX10_hourOf 1 (some .int) ∈ TB := tb_mem (tb_4 (List.mem_of_getElem? (i := 77) (by decide +kernel))) rfl
theorem m_4_78 : Cond.methodLink RX8 43 yX1_riskOf ∈ TB := tb_mem (tb_4 (List.mem_of_getElem? (i := 78) (by decide +kernel))) rfl
theorem m_4_79 : Cond.methodLink RX10 287 yX8_end ∈ TB := tb_mem (tb_4 (List.mem_of_getElem? (i := 79) (by decide +kernel))) rfl
theorem m_4_80 : Cond.instanceMethod yX8_end ∈ TB := tb_mem (tb_4 (List.mem_of_getElem? (i := 80) (by decide +kernel))) rfl
theorem m_4_81 : Cond.selects RX8 yX8_end yX8_end ∈ TB := tb_mem (tb_4 (List.mem_of_getElem? (i := 81) (by decide +kernel))) rfl
theorem m_4_82 : Cond.code yX8_end cX8_end 1 (some .int) ∈ TB := tb_mem (tb_4 (List.mem_of_getElem? (i := 82) (by decide +kernel))) rfl
theorem m_4_83 : Cond.methodLink RL 136 yX10_best ∈ TB := tb_mem (tb_4 (List.mem_of_getElem? (i := 83) (by decide +kernel))) rfl
theorem m_4_84 : Cond.instanceMethod yX10_best ∈ TB := tb_mem (tb_4 (List.mem_of_getElem? (i := 84) (by decide +kernel))) rfl
theorem m_4_85 : Cond.selects RX10 yX10_best yX10_best ∈ TB := tb_mem (tb_4 (List.mem_of_getElem? (i := 85) (by decide +kernel))) rfl
theorem m_4_86 : Cond.code yX10_best cX10_best 7 (some .int) ∈ TB := tb_mem (tb_4 (List.mem_of_getElem? (i := 86) (by decide +kernel))) rfl
theorem m_4_87 : Cond.methodLink RX10 290 yX10_isSet ∈ TB := tb_mem (tb_4 (List.mem_of_getElem? (i := 87) (by decide +kernel))) rfl
theorem m_4_89 : Cond.instanceMethod yX10_isSet ∈ TB := tb_mem (tb_4 (List.mem_of_getElem? (i := 89) (by decide +kernel))) rfl
theorem m_4_90 : Cond.code yX10_isSet cX10_isSet 3 (some .boolean) ∈ TB := tb_mem (tb_4 (List.mem_of_getElem? (i := 90) (by decide +kernel))) rfl
theorem m_4_91 : Cond.methodLink RX10 293 yJ6_bitCount_0f7a4 ∈ TB := tb_mem (tb_4 (List.mem_of_getElem? (i := 91) (by decide +kernel))) rfl
theorem m_4_92 : Cond.static yJ6_bitCount_0f7a4 ∈ TB := tb_mem (tb_4 (List.mem_of_getElem? (i := 92) (by decide +kernel))) rfl
theorem m_4_93 : Cond.code yJ6_bitCount_0f7a4 cJ6_bitCount_0f7a4 1 (some .int) ∈ TB := tb_mem (tb_4 (List.mem_of_getElem? (i := 93) (by decide +kernel))) rfl
theorem m_4_94 : Cond.constant RJ6 265 1431655765 ∈ TB := tb_mem (tb_4 (List.mem_of_getElem? (i := 94) (by decide +kernel))) rfl
theorem m_4_95 : Cond.constant RJ6 266 858993459 ∈ TB := tb_mem (tb_4 (List.mem_of_getElem? (i := 95) (by decide +kernel))) rfl
theorem m_4_96 : Cond.constant RJ6 267 252645135 ∈ TB := tb_mem (tb_4 (List.mem_of_getElem? (i := 96) (by decide +kernel))) rfl
theorem m_4_97 : Cond.methodLink RX10 298 yX4_find ∈ TB := tb_mem (tb_4 (List.mem_of_getElem? (i := 97) (by decide +kernel))) rfl
theorem m_4_98 : Cond.instanceMethod yX4_find ∈ TB := tb_mem (tb_4 (List.mem_of_getElem? (i := 98) (by decide +kernel))) rfl
theorem m_4_99 : Cond.selects RX4 yX4_find yX4_find ∈ TB := tb_mem (tb_4 (List.mem_of_getElem? (i := 99) (by decide +kernel))) rfl
theorem m_4_100 : Cond.code yX4_find cX4_find 5 (some .boolean) ∈ TB := tb_mem (tb_4 (List.mem_of_getElem? (i := 100) (by decide +kernel))) rfl
theorem m_4_101 : Cond.methodLinkNest RX4 36 yX10_readSet RX10 ∈ TB := tb_mem (tb_4 (List.mem_of_getElem? (i := 101) (by decide +kernel))) rfl
theorem m_4_102 : Cond.static yX10_readSet ∈ TB := tb_mem (tb_4 (List.mem_of_getElem? (i := 102) (by decide +kernel))) rfl
theorem m_4_103 : Cond.code yX10_readSet cX10_readSet 4 (some .int) ∈ TB := tb_mem (tb_4 (List.mem_of_getElem? (i := 103) (by decide +kernel))) rfl
theorem m_4_104 : Cond.constant RX4 43 1000000 ∈ TB := tb_mem (tb_4 (List.mem_of_getElem? (i := 104) (by decide +kernel))) rfl
theorem m_4_105 : Cond.methodLink RX4 55 yX4_extend ∈ TB := tb_mem (tb_4 (List.mem_of_getElem? (i := 105) (by decide +kernel))) rfl
theorem m_4_106 : Cond.static yX4_extend ∈ TB := tb_mem (tb_4 (List.mem_of_getElem? (i := 106) (by decide +kernel))) rfl
theorem m_4_107 : Cond.code yX4_extend cX4_extend 9 none ∈ TB := tb_mem (tb_4 (List.mem_of_getElem? (i := 107) (by decide +kernel))) rfl
theorem m_4_108 : Cond.methodLink RX4 59 Lib.Math.max.name ∈ TB := tb_mem (tb_4 (List.mem_of_getElem? (i := 108) (by decide +kernel))) rfl
theorem m_4_109 : Cond.methodLink RX4 65 yX4_keep ∈ TB := tb_mem (tb_4 (List.mem_of_getElem? (i := 109) (by decide +kernel))) rfl
theorem m_4_111 : Cond.instanceMethod yX4_keep ∈ TB := tb_mem (tb_4 (List.mem_of_getElem? (i := 111) (by decide +kernel))) rfl
theorem m_4_112 : Cond.code yX4_keep cX4_keep 3 none ∈ TB := tb_mem (tb_4 (List.mem_of_getElem? (i := 112) (by decide +kernel))) rfl
theorem m_4_113 : Cond.methodLink RX4 96 arraycopyName ∈ TB := tb_mem (tb_4 (List.mem_of_getElem? (i := 113) (by decide +kernel))) rfl
theorem m_4_114 : Cond.methodLink RX4 77 yX1_speed ∈ TB := tb_mem (tb_4 (List.mem_of_getElem? (i := 114) (by decide +kernel))) rfl
theorem m_4_115 : Cond.methodLink RX4 81 yX1_legMinutes ∈ TB := tb_mem (tb_4 (List.mem_of_getElem? (i := 115) (by decide +kernel))) rfl
theorem m_4_116 : Cond.methodLinkNest RX4 85 yX10_hourOf RX10 ∈ TB := tb_mem (tb_4 (List.mem_of_getElem? (i := 116) (by decide +kernel))) rfl
theorem m_4_117 : Cond.methodLink RX4 89 yX1_riskOf ∈ TB := tb_mem (tb_4 (List.mem_of_getElem? (i := 117) (by decide +kernel))) rfl
theorem m_4_118 : Cond.methodLink RX4 92 yX4_isBetter ∈ TB := tb_mem (tb_4 (List.mem_of_getElem? (i := 118) (by decide +kernel))) rfl
theorem m_4_120 : Cond.instanceMethod yX4_isBetter ∈ TB := tb_mem (tb_4 (List.mem_of_getElem? (i := 120) (by decide +kernel))) rfl
theorem m_4_121 : Cond.code yX4_isBetter cX4_isBetter 3 (some .boolean) ∈ TB := tb_mem (tb_4 (List.mem_of_getElem? (i := 121) (by decide +kernel))) rfl
theorem m_4_122 : Cond.methodLink RL 140 yX10_team ∈ TB := tb_mem (tb_4 (List.mem_of_getElem? (i := 122) (by decide +kernel))) rfl
theorem m_4_123 : Cond.instanceMethod yX10_team ∈ TB := tb_mem (tb_4 (List.mem_of_getElem? (i := 123) (by decide +kernel))) rfl
theorem m_4_124 : Cond.selects RX10 yX10_team yX10_team ∈ TB := tb_mem (tb_4 (List.mem_of_getElem? (i := 124) (by decide +kernel))) rfl
theorem m_4_125 : Cond.code yX10_team cX10_team 5 (some .int) ∈ TB := tb_mem (tb_4 (List.mem_of_getElem? (i := 125) (by decide +kernel))) rfl
theorem m_4_126 : Cond.methodLink RX10 311 yX10_isInSet ∈ TB := tb_mem (tb_4 (List.mem_of_getElem? (i := 126) (by decide +kernel))) rfl
theorem m_4_128 : Cond.instanceMethod yX10_isInSet ∈ TB := tb_mem (tb_4 (List.mem_of_getElem? (i := 128) (by decide +kernel))) rfl
theorem m_4_129 : Cond.code yX10_isInSet cX10_isInSet 3 (some .boolean) ∈ TB := tb_mem (tb_4 (List.mem_of_getElem? (i := 129) (by decide +kernel))) rfl
theorem m_4_130 : Cond.methodLink RX10 314 yX7_find ∈ TB := tb_mem (tb_4 (List.mem_of_getElem? (i := 130) (by decide +kernel))) rfl
theorem m_4_131 : Cond.instanceMethod yX7_find ∈ TB := tb_mem (tb_4 (List.mem_of_getElem? (i := 131) (by decide +kernel))) rfl
theorem m_4_132 : Cond.selects RX7 yX7_find yX7_find ∈ TB := tb_mem (tb_4 (List.mem_of_getElem? (i := 132) (by decide +kernel))) rfl
theorem m_4_133 : Cond.code yX7_find cX7_find 5 none ∈ TB := tb_mem (tb_4 (List.mem_of_getElem? (i := 133) (by decide +kernel))) rfl
theorem m_4_134 : Cond.methodLinkNest RX7 40 yX10_readSet RX10 ∈ TB := tb_mem (tb_4 (List.mem_of_getElem? (i := 134) (by decide +kernel))) rfl
theorem m_4_135 : Cond.methodLink RX7 47 yX7_readRisks ∈ TB := tb_mem (tb_4 (List.mem_of_getElem? (i := 135) (by decide +kernel))) rfl
theorem m_4_137 : Cond.instanceMethod yX7_readRisks ∈ TB := tb_mem (tb_4 (List.mem_of_getElem? (i := 137) (by decide +kernel))) rfl
theorem m_4_138 : Cond.code yX7_readRisks cX7_readRisks 7 none ∈ TB := tb_mem (tb_4 (List.mem_of_getElem? (i := 138) (by decide +kernel))) rfl
theorem m_4_139 : Cond.methodLink RX7 59 yX1_riskOf ∈ TB := tb_mem (tb_4 (List.mem_of_getElem? (i := 139) (by decide +kernel))) rfl
theorem m_4_140 : Cond.methodLink RX7 63 Lib.Math.min.name ∈ TB := tb_mem (tb_4 (List.mem_of_getElem? (i := 140) (by decide +kernel))) rfl
theorem m_4_141 : Cond.constant RX7 51 1000000 ∈ TB := tb_mem (tb_4 (List.mem_of_getElem? (i := 141) (by decide +kernel))) rfl
theorem m_4_142 : Cond.methodLink RX7 55 yX7_assign ∈ TB := tb_mem (tb_4 (List.mem_of_getElem? (i := 142) (by decide +kernel))) rfl
theorem m_4_143 : Cond.static yX7_assign ∈ TB := tb_mem (tb_4 (List.mem_of_getElem? (i := 143) (by decide +kernel))) rfl
theorem m_4_144 : Cond.code yX7_assign cX7_assign 5 none ∈ TB := tb_mem (tb_4 (List.mem_of_getElem? (i := 144) (by decide +kernel))) rfl
theorem m_4_145 : Cond.methodLink RX7 69 arraycopyName ∈ TB := tb_mem (tb_4 (List.mem_of_getElem? (i := 145) (by decide +kernel))) rfl
theorem m_4_146 : Cond.methodLink RX10 320 yX7_leaperOfJetty ∈ TB := tb_mem (tb_4 (List.mem_of_getElem? (i := 146) (by decide +kernel))) rfl
theorem m_4_147 : Cond.instanceMethod yX7_leaperOfJetty ∈ TB := tb_mem (tb_4 (List.mem_of_getElem? (i := 147) (by decide +kernel))) rfl
theorem m_4_148 : Cond.selects RX7 yX7_leaperOfJetty yX7_leaperOfJetty ∈ TB := tb_mem (tb_4 (List.mem_of_getElem? (i := 148) (by decide +kernel))) rfl
theorem m_4_149 : Cond.code yX7_leaperOfJetty cX7_leaperOfJetty 3 (some .int) ∈ TB := tb_mem (tb_4 (List.mem_of_getElem? (i := 149) (by decide +kernel))) rfl
theorem m_4_150 : Cond.methodLink RL 148 yX10_missed ∈ TB := tb_mem (tb_4 (List.mem_of_getElem? (i := 150) (by decide +kernel))) rfl
theorem m_4_151 : Cond.instanceMethod yX10_missed ∈ TB := tb_mem (tb_4 (List.mem_of_getElem? (i := 151) (by decide +kernel))) rfl
theorem m_4_152 : Cond.selects RX10 yX10_missed yX10_missed ∈ TB := tb_mem (tb_4 (List.mem_of_getElem? (i := 152) (by decide +kernel))) rfl
theorem m_4_153 : Cond.code yX10_missed cX10_missed 7 (some .int) ∈ TB := tb_mem (tb_4 (List.mem_of_getElem? (i := 153) (by decide +kernel))) rfl
theorem m_4_154 : Cond.methodLink RX10 323 yX8_laterHoursThan ∈ TB := tb_mem (tb_4 (List.mem_of_getElem? (i := 154) (by decide +kernel))) rfl
theorem m_4_155 : Cond.instanceMethod yX8_laterHoursThan ∈ TB := tb_mem (tb_4 (List.mem_of_getElem? (i := 155) (by decide +kernel))) rfl
theorem m_4_156 : Cond.selects RX8 yX8_laterHoursThan yX8_laterHoursThan ∈ TB := tb_mem (tb_4 (List.mem_of_getElem? (i := 156) (by decide +kernel))) rfl
theorem m_4_157 : Cond.code yX8_laterHoursThan cX8_laterHoursThan 4 (some .int) ∈ TB := tb_mem (tb_4 (List.mem_of_getElem? (i := 157) (by decide +kernel))) rfl
theorem m_4_158 : Cond.methodLink RL 152 yX10_pilot ∈ TB := tb_mem (tb_4 (List.mem_of_getElem? (i := 158) (by decide +kernel))) rfl
theorem m_4_159 : Cond.instanceMethod yX10_pilot ∈ TB := tb_mem (tb_4 (List.mem_of_getElem? (i := 159) (by decide +kernel))) rfl
theorem m_4_160 : Cond.selects RX10 yX10_pilot yX10_pilot ∈ TB := tb_mem (tb_4 (List.mem_of_getElem? (i := 160) (by decide +kernel))) rfl
theorem m_4_161 : Cond.code yX10_pilot cX10_pilot 6 (some .int) ∈ TB := tb_mem (tb_4 (List.mem_of_getElem? (i := 161) (by decide +kernel))) rfl
theorem m_4_162 : Cond.methodLink RL 156 yX10_still ∈ TB := tb_mem (tb_4 (List.mem_of_getElem? (i := 162) (by decide +kernel))) rfl
theorem m_4_163 : Cond.instanceMethod yX10_still ∈ TB := tb_mem (tb_4 (List.mem_of_getElem? (i := 163) (by decide +kernel))) rfl
theorem m_4_164 : Cond.selects RX10 yX10_still yX10_still ∈ TB := tb_mem (tb_4 (List.mem_of_getElem? (i := 164) (by decide +kernel))) rfl
theorem m_4_165 : Cond.code yX10_still cX10_still 5 (some .int) ∈ TB := tb_mem (tb_4 (List.mem_of_getElem? (i := 165) (by decide +kernel))) rfl
theorem m_4_166 : Cond.methodLink RX10 327 yX8_hasTimeEverywhere ∈ TB := tb_mem (tb_4 (List.mem_of_getElem? (i := 166) (by decide +kernel))) rfl
theorem m_4_167 : Cond.instanceMethod yX8_hasTimeEverywhere ∈ TB := tb_mem (tb_4 (List.mem_of_getElem? (i := 167) (by decide +kernel))) rfl
theorem m_4_168 : Cond.selects RX8 yX8_hasTimeEverywhere yX8_hasTimeEverywhere ∈ TB := tb_mem (tb_4 (List.mem_of_getElem? (i := 168) (by decide +kernel))) rfl
theorem m_4_169 : Cond.code yX8_hasTimeEverywhere cX8_hasTimeEverywhere 4 (some .boolean) ∈ TB := tb_mem (tb_4 (List.mem_of_getElem? (i := 169) (by decide +kernel))) rfl
theorem m_4_170 : Cond.methodLink RX8 54 yX1_hasTime ∈ TB := tb_mem (tb_4 (List.mem_of_getElem? (i := 170) (by decide +kernel))) rfl
theorem m_4_171 : Cond.methodLink RL 164 yX10_lifts ∈ TB := tb_mem (tb_4 (List.mem_of_getElem? (i := 171) (by decide +kernel))) rfl
theorem m_4_172 : Cond.instanceMethod yX10_lifts ∈ TB := tb_mem (tb_4 (List.mem_of_getElem? (i := 172) (by decide +kernel))) rfl
theorem m_4_173 : Cond.selects RX10 yX10_lifts yX10_lifts ∈ TB := tb_mem (tb_4 (List.mem_of_getElem? (i := 173) (by decide +kernel))) rfl
theorem m_4_174 : Cond.code yX10_lifts cX10_lifts 11 (some .int) ∈ TB := tb_mem (tb_4 (List.mem_of_getElem? (i := 174) (by decide +kernel))) rfl
theorem m_4_175 : Cond.methodLink RX10 334 yX10_lowestLetter ∈ TB := tb_mem (tb_4 (List.mem_of_getElem? (i := 175) (by decide +kernel))) rfl
theorem m_4_177 : Cond.instanceMethod yX10_lowestLetter ∈ TB := tb_mem (tb_4 (List.mem_of_getElem? (i := 177) (by decide +kernel))) rfl
theorem m_4_178 : Cond.code yX10_lowestLetter cX10_lowestLetter 4 (some .int) ∈ TB := tb_mem (tb_4 (List.mem_of_getElem? (i := 178) (by decide +kernel))) rfl
theorem m_4_179 : Cond.methodLink RX10 337 yX10_takeLetters ∈ TB := tb_mem (tb_4 (List.mem_of_getElem? (i := 179) (by decide +kernel))) rfl
theorem m_4_181 : Cond.instanceMethod yX10_takeLetters ∈ TB := tb_mem (tb_4 (List.mem_of_getElem? (i := 181) (by decide +kernel))) rfl
theorem m_4_182 : Cond.code yX10_takeLetters cX10_takeLetters 5 (some .int) ∈ TB := tb_mem (tb_4 (List.mem_of_getElem? (i := 182) (by decide +kernel))) rfl
theorem m_4_183 : Cond.methodLink RL 168 yX10_parcel ∈ TB := tb_mem (tb_4 (List.mem_of_getElem? (i := 183) (by decide +kernel))) rfl
theorem m_4_184 : Cond.instanceMethod yX10_parcel ∈ TB := tb_mem (tb_4 (List.mem_of_getElem? (i := 184) (by decide +kernel))) rfl
theorem m_4_185 : Cond.selects RX10 yX10_parcel yX10_parcel ∈ TB := tb_mem (tb_4 (List.mem_of_getElem? (i := 185) (by decide +kernel))) rfl
theorem m_4_186 : Cond.code yX10_parcel cX10_parcel 4 (some .int) ∈ TB := tb_mem (tb_4 (List.mem_of_getElem? (i := 186) (by decide +kernel))) rfl
theorem m_4_187 : Cond.methodLink RL 172 yX10_stops ∈ TB := tb_mem (tb_4 (List.mem_of_getElem? (i := 187) (by decide +kernel))) rfl
theorem m_4_188 : Cond.instanceMethod yX10_stops ∈ TB := tb_mem (tb_4 (List.mem_of_getElem? (i := 188) (by decide +kernel))) rfl
theorem m_4_189 : Cond.selects RX10 yX10_stops yX10_stops ∈ TB := tb_mem (tb_4 (List.mem_of_getElem? (i := 189) (by decide +kernel))) rfl
theorem m_4_190 : Cond.code yX10_stops cX10_stops 7 (some .int) ∈ TB := tb_mem (tb_4 (List.mem_of_getElem? (i := 190) (by decide +kernel))) rfl
theorem m_4_191 : Cond.methodLink RX10 349 yX1_worthWithin ∈ TB := tb_mem (tb_4 (List.mem_of_getElem? (i := 191) (by decide +kernel))) rfl
theorem m_4_192 : Cond.instanceMethod yX1_worthWithin ∈ TB := tb_mem (tb_4 (List.mem_of_getElem? (i := 192) (by decide +kernel))) rfl
theorem m_4_193 : Cond.selects RX1 yX1_worthWithin yX1_worthWithin ∈ TB := tb_mem (tb_4 (List.mem_of_getElem? (i := 193) (by decide +kernel))) rfl
theorem m_4_194 : Cond.code yX1_worthWithin cX1_worthWithin 6 (some .int) ∈ TB := tb_mem (tb_4 (List.mem_of_getElem? (i := 194) (by decide +kernel))) rfl
theorem m_4_195 : Cond.methodLink RL 160 yX10_firstOut ∈ TB := tb_mem (tb_4 (List.mem_of_getElem? (i := 195) (by decide +kernel))) rfl
theorem m_4_196 : Cond.instanceMethod yX10_firstOut ∈ TB := tb_mem (tb_4 (List.mem_of_getElem? (i := 196) (by decide +kernel))) rfl
theorem m_4_197 : Cond.selects RX10 yX10_firstOut yX10_firstOut ∈ TB := tb_mem (tb_4 (List.mem_of_getElem? (i := 197) (by decide +kernel))) rfl
theorem m_4_198 : Cond.code yX10_firstOut cX10_firstOut 6 (some .int) ∈ TB := tb_mem (tb_4 (List.mem_of_getElem? (i := 198) (by decide +kernel))) rfl
theorem m_4_199 : Cond.methodLink RX10 352 yX1_firstWeekOut ∈ TB := tb_mem (tb_4 (List.mem_of_getElem? (i := 199) (by decide +kernel))) rfl
theorem m_4_200 : Cond.instanceMethod yX1_firstWeekOut ∈ TB := tb_mem (tb_4 (List.mem_of_getElem? (i := 200) (by decide +kernel))) rfl
theorem m_4_201 : Cond.selects RX1 yX1_firstWeekOut yX1_firstWeekOut ∈ TB := tb_mem (tb_4 (List.mem_of_getElem? (i := 201) (by decide +kernel))) rfl
theorem m_4_202 : Cond.code yX1_firstWeekOut cX1_firstWeekOut 4 (some .int) ∈ TB := tb_mem (tb_4 (List.mem_of_getElem? (i := 202) (by decide +kernel))) rfl
theorem m_4_203 : Cond.methodLink RL 176 yX10_week ∈ TB := tb_mem (tb_4 (List.mem_of_getElem? (i := 203) (by decide +kernel))) rfl
theorem m_4_204 : Cond.instanceMethod yX10_week ∈ TB := tb_mem (tb_4 (List.mem_of_getElem? (i := 204) (by decide +kernel))) rfl
theorem m_4_205 : Cond.selects RX10 yX10_week yX10_week ∈ TB := tb_mem (tb_4 (List.mem_of_getElem? (i := 205) (by decide +kernel))) rfl
theorem m_4_206 : Cond.code yX10_week cX10_week 3 (some .int) ∈ TB := tb_mem (tb_4 (List.mem_of_getElem? (i := 206) (by decide +kernel))) rfl
theorem m_4_207 : Cond.methodLink RL 180 yX10_outs ∈ TB := tb_mem (tb_4 (List.mem_of_getElem? (i := 207) (by decide +kernel))) rfl
theorem m_4_208 : Cond.instanceMethod yX10_outs ∈ TB := tb_mem (tb_4 (List.mem_of_getElem? (i := 208) (by decide +kernel))) rfl
theorem m_4_209 : Cond.selects RX10 yX10_outs yX10_outs ∈ TB := tb_mem (tb_4 (List.mem_of_getElem? (i := 209) (by decide +kernel))) rfl
theorem m_4_210 : Cond.code yX10_outs cX10_outs 5 (some .int) ∈ TB := tb_mem (tb_4 (List.mem_of_getElem? (i := 210) (by decide +kernel))) rfl
theorem m_4_211 : Cond.methodLink RL 184 yX10_seed ∈ TB := tb_mem (tb_4 (List.mem_of_getElem? (i := 211) (by decide +kernel))) rfl
theorem m_4_212 : Cond.instanceMethod yX10_seed ∈ TB := tb_mem (tb_4 (List.mem_of_getElem? (i := 212) (by decide +kernel))) rfl
theorem m_4_213 : Cond.selects RX10 yX10_seed yX10_seed ∈ TB := tb_mem (tb_4 (List.mem_of_getElem? (i := 213) (by decide +kernel))) rfl
theorem m_4_214 : Cond.code yX10_seed cX10_seed 3 (some .int) ∈ TB := tb_mem (tb_4 (List.mem_of_getElem? (i := 214) (by decide +kernel))) rfl
theorem m_4_215 : Cond.methodLink RL 188 yX10_begin ∈ TB := tb_mem (tb_4 (List.mem_of_getElem? (i := 215) (by decide +kernel))) rfl
theorem m_4_216 : Cond.instanceMethod yX10_begin ∈ TB := tb_mem (tb_4 (List.mem_of_getElem? (i := 216) (by decide +kernel))) rfl
theorem m_4_217 : Cond.selects RX10 yX10_begin yX10_begin ∈ TB := tb_mem (tb_4 (List.mem_of_getElem? (i := 217) (by decide +kernel))) rfl
theorem m_4_218 : Cond.code yX10_begin cX10_begin 5 (some .int) ∈ TB := tb_mem (tb_4 (List.mem_of_getElem? (i := 218) (by decide +kernel))) rfl
theorem m_4_219 : Cond.methodLink RX10 362 yX9_start ∈ TB := tb_mem (tb_4 (List.mem_of_getElem? (i := 219) (by decide +kernel))) rfl
theorem m_4_220 : Cond.instanceMethod yX9_start ∈ TB := tb_mem (tb_4 (List.mem_of_getElem? (i := 220) (by decide +kernel))) rfl
theorem m_4_221 : Cond.selects RX9 yX9_start yX9_start ∈ TB := tb_mem (tb_4 (List.mem_of_getElem? (i := 221) (by decide +kernel))) rfl
theorem m_4_222 : Cond.code yX9_start cX9_start 4 none ∈ TB := tb_mem (tb_4 (List.mem_of_getElem? (i := 222) (by decide +kernel))) rfl
theorem m_4_223 : Cond.methodLink RX9 26 arraycopyName ∈ TB := tb_mem (tb_4 (List.mem_of_getElem? (i := 223) (by decide +kernel))) rfl
theorem m_4_224 : Cond.methodLink RL 192 yX10_step ∈ TB := tb_mem (tb_4 (List.mem_of_getElem? (i := 224) (by decide +kernel))) rfl
theorem m_4_225 : Cond.instanceMethod yX10_step ∈ TB := tb_mem (tb_4 (List.mem_of_getElem? (i := 225) (by decide +kernel))) rfl
theorem m_4_226 : Cond.selects RX10 yX10_step yX10_step ∈ TB := tb_mem (tb_4 (List.mem_of_getElem? (i := 226) (by decide +kernel))) rfl
theorem m_4_227 : Cond.code yX10_step cX10_step 1 (some .int) ∈ TB := tb_mem (tb_4 (List.mem_of_getElem? (i := 227) (by decide +kernel))) rfl
theorem m_4_228 : Cond.methodLink RX10 368 yX9_isUnderWay ∈ TB := tb_mem (tb_4 (List.mem_of_getElem? (i := 228) (by decide +kernel))) rfl
theorem m_4_229 : Cond.instanceMethod yX9_isUnderWay ∈ TB := tb_mem (tb_4 (List.mem_of_getElem? (i := 229) (by decide +kernel))) rfl
theorem m_4_230 : Cond.selects RX9 yX9_isUnderWay yX9_isUnderWay ∈ TB := tb_mem (tb_4 (List.mem_of_getElem? (i := 230) (by decide +kernel))) rfl
theorem m_4_231 : Cond.code yX9_isUnderWay cX9_isUnderWay 1 (some .boolean) ∈ TB := tb_mem (tb_4 (List.mem_of_getElem? (i := 231) (by decide +kernel))) rfl
theorem m_4_232 : Cond.methodLink RX10 372 yX1_leapNext ∈ TB := tb_mem (tb_4 (List.mem_of_getElem? (i := 232) (by decide +kernel))) rfl
theorem m_4_233 : Cond.instanceMethod yX1_leapNext ∈ TB := tb_mem (tb_4 (List.mem_of_getElem? (i := 233) (by decide +kernel))) rfl
theorem m_4_234 : Cond.selects RX1 yX1_leapNext yX1_leapNext ∈ TB := tb_mem (tb_4 (List.mem_of_getElem? (i := 234) (by decide +kernel))) rfl
theorem m_4_235 : Cond.code yX1_leapNext cX1_leapNext 7 (some .int) ∈ TB := tb_mem (tb_4 (List.mem_of_getElem? (i := 235) (by decide +kernel))) rfl
theorem m_4_236 : Cond.methodLink RX1 172 yX1_legMinutes ∈ TB := tb_mem (tb_4 (List.mem_of_getElem? (i := 236) (by decide +kernel))) rfl
theorem m_4_237 : Cond.methodLinkNest RX1 179 yX10_hourOf RX10 ∈ TB := tb_mem (tb_4 (List.mem_of_getElem? (i := 237) (by decide +kernel))) rfl
theorem m_4_238 : Cond.methodLink RX1 182 yX1_riskOf ∈ TB := tb_mem (tb_4 (List.mem_of_getElem? (i := 238) (by decide +kernel))) rfl
theorem m_4_239 : Cond.methodLink RX1 185 yX1_drawBelow ∈ TB := tb_mem (tb_4 (List.mem_of_getElem? (i := 239) (by decide +kernel))) rfl
theorem m_5_1 : Cond.instanceMethod yX1_drawBelow ∈ TB := tb_mem (tb_5 (List.mem_of_getElem? (i := 1) (by decide +kernel))) rfl
theorem m_5_2 : Cond.code yX1_drawBelow cX1_drawBelow 3 (some .int) ∈ TB := tb_mem (tb_5 (List.mem_of_getElem? (i := 2) (by decide +kernel))) rfl
theorem m_5_3 : Cond.constant RX1 159 1103515245 ∈ TB := tb_mem (tb_5 (List.mem_of_getElem? (i := 3) (by decide +kernel))) rfl
theorem m_5_4 : Cond.methodLink RX1 191 yX3_count ∈ TB := tb_mem (tb_5 (List.mem_of_getElem? (i := 4) (by decide +kernel))) rfl
theorem m_5_5 : Cond.methodLink RL 196 yX10_under ∈ TB := tb_mem (tb_5 (List.mem_of_getElem? (i := 5) (by decide +kernel))) rfl
theorem m_5_6 : Cond.instanceMethod yX10_under ∈ TB := tb_mem (tb_5 (List.mem_of_getElem? (i := 6) (by decide +kernel))) rfl
theorem m_5_7 : Cond.selects RX10 yX10_under yX10_under ∈ TB := tb_mem (tb_5 (List.mem_of_getElem? (i := 7) (by decide +kernel))) rfl
theorem m_5_8 : Cond.code yX10_under cX10_under 3 (some .int) ∈ TB := tb_mem (tb_5 (List.mem_of_getElem? (i := 8) (by decide +kernel))) rfl
theorem m_5_9 : Cond.methodLink RL 200 yX10_image ∈ TB := tb_mem (tb_5 (List.mem_of_getElem? (i := 9) (by decide +kernel))) rfl
theorem m_5_10 : Cond.instanceMethod yX10_image ∈ TB := tb_mem (tb_5 (List.mem_of_getElem? (i := 10) (by decide +kernel))) rfl
theorem m_5_11 : Cond.selects RX10 yX10_image yX10_image ∈ TB := tb_mem (tb_5 (List.mem_of_getElem? (i := 11) (by decide +kernel))) rfl
theorem m_5_12 : Cond.code yX10_image cX10_image 1 (some .int) ∈ TB := tb_mem (tb_5 (List.mem_of_getElem? (i := 12) (by decide +kernel))) rfl
theorem m_5_13 : Cond.methodLink RX10 388 yX1_become ∈ TB := tb_mem (tb_5 (List.mem_of_getElem? (i := 13) (by decide +kernel))) rfl
theorem m_5_14 : Cond.instanceMethod yX1_become ∈ TB := tb_mem (tb_5 (List.mem_of_getElem? (i := 14) (by decide +kernel))) rfl
theorem m_5_15 : Cond.selects RX1 yX1_become yX1_become ∈ TB := tb_mem (tb_5 (List.mem_of_getElem? (i := 15) (by decide +kernel))) rfl
theorem m_5_16 : Cond.code yX1_become cX1_become 2 none ∈ TB := tb_mem (tb_5 (List.mem_of_getElem? (i := 16) (by decide +kernel))) rfl
theorem m_5_17 : Cond.methodLink RX1 56 yX1_becomeCounted ∈ TB := tb_mem (tb_5 (List.mem_of_getElem? (i := 17) (by decide +kernel))) rfl
theorem m_5_19 : Cond.instanceMethod yX1_becomeCounted ∈ TB := tb_mem (tb_5 (List.mem_of_getElem? (i := 19) (by decide +kernel))) rfl
theorem m_5_20 : Cond.code yX1_becomeCounted cX1_becomeCounted 3 none ∈ TB := tb_mem (tb_5 (List.mem_of_getElem? (i := 20) (by decide +kernel))) rfl
theorem m_5_21 : Cond.methodLink RX1 82 yX0_become ∈ TB := tb_mem (tb_5 (List.mem_of_getElem? (i := 21) (by decide +kernel))) rfl
theorem m_5_22 : Cond.instanceMethod yX0_become ∈ TB := tb_mem (tb_5 (List.mem_of_getElem? (i := 22) (by decide +kernel))) rfl
theorem m_5_23 : Cond.selects RX0 yX0_become yX0_become ∈ TB := tb_mem (tb_5 (List.mem_of_getElem? (i := 23) (by decide +kernel))) rfl
theorem m_5_24 : Cond.code yX0_become cX0_become 2 none ∈ TB := tb_mem (tb_5 (List.mem_of_getElem? (i := 24) (by decide +kernel))) rfl
theorem m_5_25 : Cond.methodLink RX0 28 yX0_build ∈ TB := tb_mem (tb_5 (List.mem_of_getElem? (i := 25) (by decide +kernel))) rfl
theorem m_5_26 : Cond.methodLink RX1 88 yX2_become ∈ TB := tb_mem (tb_5 (List.mem_of_getElem? (i := 26) (by decide +kernel))) rfl
theorem m_5_27 : Cond.instanceMethod yX2_become ∈ TB := tb_mem (tb_5 (List.mem_of_getElem? (i := 27) (by decide +kernel))) rfl
theorem m_5_28 : Cond.selects RX2 yX2_become yX2_become ∈ TB := tb_mem (tb_5 (List.mem_of_getElem? (i := 28) (by decide +kernel))) rfl
theorem m_5_29 : Cond.code yX2_become cX2_become 2 none ∈ TB := tb_mem (tb_5 (List.mem_of_getElem? (i := 29) (by decide +kernel))) rfl
theorem m_5_30 : Cond.methodLink RX1 94 yX3_become ∈ TB := tb_mem (tb_5 (List.mem_of_getElem? (i := 30) (by decide +kernel))) rfl
theorem m_5_31 : Cond.instanceMethod yX3_become ∈ TB := tb_mem (tb_5 (List.mem_of_getElem? (i := 31) (by decide +kernel))) rfl
theorem m_5_32 : Cond.selects RX3 yX3_become yX3_become ∈ TB := tb_mem (tb_5 (List.mem_of_getElem? (i := 32) (by decide +kernel))) rfl
theorem m_5_33 : Cond.code yX3_become cX3_become 2 none ∈ TB := tb_mem (tb_5 (List.mem_of_getElem? (i := 33) (by decide +kernel))) rfl
theorem m_5_34 : Cond.methodLink RX1 60 arraycopyName ∈ TB := tb_mem (tb_5 (List.mem_of_getElem? (i := 34) (by decide +kernel))) rfl
theorem m_5_35 : Cond.methodLink RX1 75 yX9_become ∈ TB := tb_mem (tb_5 (List.mem_of_getElem? (i := 35) (by decide +kernel))) rfl
theorem m_5_36 : Cond.instanceMethod yX9_become ∈ TB := tb_mem (tb_5 (List.mem_of_getElem? (i := 36) (by decide +kernel))) rfl
theorem m_5_37 : Cond.selects RX9 yX9_become yX9_become ∈ TB := tb_mem (tb_5 (List.mem_of_getElem? (i := 37) (by decide +kernel))) rfl
theorem m_5_38 : Cond.code yX9_become cX9_become 2 none ∈ TB := tb_mem (tb_5 (List.mem_of_getElem? (i := 38) (by decide +kernel))) rfl
theorem m_5_39 : Cond.methodLink RL 204 yX10_back ∈ TB := tb_mem (tb_5 (List.mem_of_getElem? (i := 39) (by decide +kernel))) rfl
theorem m_5_40 : Cond.instanceMethod yX10_back ∈ TB := tb_mem (tb_5 (List.mem_of_getElem? (i := 40) (by decide +kernel))) rfl
theorem m_5_41 : Cond.selects RX10 yX10_back yX10_back ∈ TB := tb_mem (tb_5 (List.mem_of_getElem? (i := 41) (by decide +kernel))) rfl
theorem m_5_42 : Cond.code yX10_back cX10_back 2 (some .int) ∈ TB := tb_mem (tb_5 (List.mem_of_getElem? (i := 42) (by decide +kernel))) rfl
theorem m_5_43 : Cond.methodLink RL 208 yX10_status ∈ TB := tb_mem (tb_5 (List.mem_of_getElem? (i := 43) (by decide +kernel))) rfl
theorem m_5_44 : Cond.instanceMethod yX10_status ∈ TB := tb_mem (tb_5 (List.mem_of_getElem? (i := 44) (by decide +kernel))) rfl
theorem m_5_45 : Cond.selects RX10 yX10_status yX10_status ∈ TB := tb_mem (tb_5 (List.mem_of_getElem? (i := 45) (by decide +kernel))) rfl
theorem m_5_46 : Cond.code yX10_status cX10_status 2 (some .int) ∈ TB := tb_mem (tb_5 (List.mem_of_getElem? (i := 46) (by decide +kernel))) rfl
theorem m_5_47 : Cond.methodLink RX10 395 yX10_shelvesInUse ∈ TB := tb_mem (tb_5 (List.mem_of_getElem? (i := 47) (by decide +kernel))) rfl
theorem m_5_49 : Cond.instanceMethod yX10_shelvesInUse ∈ TB := tb_mem (tb_5 (List.mem_of_getElem? (i := 49) (by decide +kernel))) rfl
theorem m_5_50 : Cond.code yX10_shelvesInUse cX10_shelvesInUse 3 (some .int) ∈ TB := tb_mem (tb_5 (List.mem_of_getElem? (i := 50) (by decide +kernel))) rfl
theorem m_5_51 : Cond.classLink RL 10 RX11 ∈ TB := tb_mem (tb_5 (List.mem_of_getElem? (i := 51) (by decide +kernel))) rfl
theorem m_5_52 : Cond.instantiable RX11 28 ∈ TB := tb_mem (tb_5 (List.mem_of_getElem? (i := 52) (by decide +kernel))) rfl
theorem m_5_53 : Cond.methodLink RL 12 yX11_init ∈ TB := tb_mem (tb_5 (List.mem_of_getElem? (i := 53) (by decide +kernel))) rfl
theorem m_5_54 : Cond.instanceMethod yX11_init ∈ TB := tb_mem (tb_5 (List.mem_of_getElem? (i := 54) (by decide +kernel))) rfl
theorem m_5_55 : Cond.code yX11_init cX11_init 2 none ∈ TB := tb_mem (tb_5 (List.mem_of_getElem? (i := 55) (by decide +kernel))) rfl
theorem m_5_56 : Cond.methodLink RX11 1 objectInit ∈ TB := tb_mem (tb_5 (List.mem_of_getElem? (i := 56) (by decide +kernel))) rfl
theorem m_5_57 : Cond.fieldLink RX11 7 RX11 "holding" "[I" ∈ TB := tb_mem (tb_5 (List.mem_of_getElem? (i := 57) (by decide +kernel))) rfl
theorem m_5_58 : Cond.fieldLink RX11 13 RX11 "rowLength" "[I" ∈ TB := tb_mem (tb_5 (List.mem_of_getElem? (i := 58) (by decide +kernel))) rfl
theorem m_5_59 : Cond.fieldLink RX11 16 RX11 "rowOf" "[J" ∈ TB := tb_mem (tb_5 (List.mem_of_getElem? (i := 59) (by decide +kernel))) rfl
theorem m_5_60 : Cond.fieldLink RX11 20 RX11 "jeKind" "[I" ∈ TB := tb_mem (tb_5 (List.mem_of_getElem? (i := 60) (by decide +kernel))) rfl
theorem m_5_61 : Cond.fieldLink RX11 23 RX11 "jeSpot" "[I" ∈ TB := tb_mem (tb_5 (List.mem_of_getElem? (i := 61) (by decide +kernel))) rfl
theorem m_5_62 : Cond.fieldLink RX11 26 RX11 "jeLength" "[I" ∈ TB := tb_mem (tb_5 (List.mem_of_getElem? (i := 62) (by decide +kernel))) rfl
theorem m_5_63 : Cond.fieldLink RX11 29 RX11 "jeHeight" "[I" ∈ TB := tb_mem (tb_5 (List.mem_of_getElem? (i := 63) (by decide +kernel))) rfl
theorem m_5_64 : Cond.fieldLink RX11 32 RX11 "jeWet" "[I" ∈ TB := tb_mem (tb_5 (List.mem_of_getElem? (i := 64) (by decide +kernel))) rfl
theorem m_5_65 : Cond.fieldLink RX11 150 RX11 "tapeSize" "I" ∈ TB := tb_mem (tb_5 (List.mem_of_getElem? (i := 65) (by decide +kernel))) rfl
theorem m_5_66 : Cond.fieldLink RX11 35 RX11 "tape" "[I" ∈ TB := tb_mem (tb_5 (List.mem_of_getElem? (i := 66) (by decide +kernel))) rfl
theorem m_5_67 : Cond.fieldLink RX11 38 RX11 "lawSays" "[I" ∈ TB := tb_mem (tb_5 (List.mem_of_getElem? (i := 67) (by decide +kernel))) rfl
theorem m_5_68 : Cond.fieldLink RX11 41 RX11 "leSkill" "[I" ∈ TB := tb_mem (tb_5 (List.mem_of_getElem? (i := 68) (by decide +kernel))) rfl
theorem m_5_69 : Cond.fieldLink RX11 44 RX11 "leLeaps" "[I" ∈ TB := tb_mem (tb_5 (List.mem_of_getElem? (i := 69) (by decide +kernel))) rfl
theorem m_5_70 : Cond.fieldLink RX11 47 RX11 "leDrops" "[I" ∈ TB := tb_mem (tb_5 (List.mem_of_getElem? (i := 70) (by decide +kernel))) rfl
theorem m_5_71 : Cond.fieldLink RX11 50 RX11 "paJetty" "[I" ∈ TB := tb_mem (tb_5 (List.mem_of_getElem? (i := 71) (by decide +kernel))) rfl
theorem m_5_72 : Cond.fieldLink RX11 53 RX11 "paMinutes" "[I" ∈ TB := tb_mem (tb_5 (List.mem_of_getElem? (i := 72) (by decide +kernel))) rfl
theorem m_5_73 : Cond.fieldLink RX11 56 RX11 "paWorth" "[I" ∈ TB := tb_mem (tb_5 (List.mem_of_getElem? (i := 73) (by decide +kernel))) rfl
theorem m_5_74 : Cond.fieldLink RX11 59 RX11 "winds" "[I" ∈ TB := tb_mem (tb_5 (List.mem_of_getElem? (i := 74) (by decide +kernel))) rfl
theorem m_5_75 : Cond.fieldLink RX11 62 RX11 "lake" "[I" ∈ TB := tb_mem (tb_5 (List.mem_of_getElem? (i := 75) (by decide +kernel))) rfl
theorem m_5_76 : Cond.fieldLink RX11 65 RX11 "way" "[I" ∈ TB := tb_mem (tb_5 (List.mem_of_getElem? (i := 76) (by decide +kernel))) rfl
theorem m_5_77 : Cond.fieldLink RX11 68 RX11 "refusals" "[I" ∈ TB := tb_mem (tb_5 (List.mem_of_getElem? (i := 77) (by decide +kernel))) rfl
theorem m_5_78 : Cond.fieldLink RX11 248 RX11 "isImage" "Z" ∈ TB := tb_mem (tb_5 (List.mem_of_getElem? (i := 78) (by decide +kernel))) rfl
theorem m_5_79 : Cond.fieldLink RX11 71 RX11 "kept" "[I" ∈ TB := tb_mem (tb_5 (List.mem_of_getElem? (i := 79) (by decide +kernel))) rfl
theorem m_5_80 : Cond.fieldLink RX11 74 RX11 "tour" "[I" ∈ TB := tb_mem (tb_5 (List.mem_of_getElem? (i := 80) (by decide +kernel))) rfl
theorem m_5_81 : Cond.fieldLink RX11 77 RX11 "order" "[I" ∈ TB := tb_mem (tb_5 (List.mem_of_getElem? (i := 81) (by decide +kernel))) rfl
theorem m_5_82 : Cond.fieldLink RX11 80 RX11 "members" "[I" ∈ TB := tb_mem (tb_5 (List.mem_of_getElem? (i := 82) (by decide +kernel))) rfl
theorem m_5_83 : Cond.fieldLink RX11 83 RX11 "bestOrder" "[I" ∈ TB := tb_mem (tb_5 (List.mem_of_getElem? (i := 83) (by decide +kernel))) rfl
theorem m_5_84 : Cond.fieldLink RX11 86 RX11 "bag" "[I" ∈ TB := tb_mem (tb_5 (List.mem_of_getElem? (i := 84) (by decide +kernel))) rfl
theorem m_5_85 : Cond.laysFinal RX11 RX11 "holding" "[I" ∈ TB := tb_mem (tb_5 (List.mem_of_getElem? (i := 85) (by decide +kernel))) rfl
theorem m_5_87 : Cond.laysFinal RX11 RX11 "rowLength" "[I" ∈ TB := tb_mem (tb_5 (List.mem_of_getElem? (i := 87) (by decide +kernel))) rfl
theorem m_5_89 : Cond.laysFinal RX11 RX11 "rowOf" "[J" ∈ TB := tb_mem (tb_5 (List.mem_of_getElem? (i := 89) (by decide +kernel))) rfl
theorem m_5_91 : Cond.laysFinal RX11 RX11 "jeKind" "[I" ∈ TB := tb_mem (tb_5 (List.mem_of_getElem? (i := 91) (by decide +kernel))) rfl
theorem m_5_93 : Cond.laysFinal RX11 RX11 "jeSpot" "[I" ∈ TB := tb_mem (tb_5 (List.mem_of_getElem? (i := 93) (by decide +kernel))) rfl
theorem m_5_95 : Cond.laysFinal RX11 RX11 "jeLength" "[I" ∈ TB := tb_mem (tb_5 (List.mem_of_getElem? (i := 95) (by decide +kernel))) rfl
theorem m_5_97 : Cond.laysFinal RX11 RX11 "jeHeight" "[I" ∈ TB := tb_mem (tb_5 (List.mem_of_getElem? (i := 97) (by decide +kernel))) rfl
theorem m_5_99 : Cond.laysFinal RX11 RX11 "jeWet" "[I" ∈ TB := tb_mem (tb_5 (List.mem_of_getElem? (i := 99) (by decide +kernel))) rfl
theorem m_5_101 : Cond.lays RX11 RX11 "tapeSize" "I" ∈ TB := tb_mem (tb_5 (List.mem_of_getElem? (i := 101) (by decide +kernel))) rfl
theorem m_5_103 : Cond.laysFinal RX11 RX11 "tape" "[I" ∈ TB := tb_mem (tb_5 (List.mem_of_getElem? (i := 103) (by decide +kernel))) rfl
theorem m_5_105 : Cond.laysFinal RX11 RX11 "lawSays" "[I" ∈ TB := tb_mem (tb_5 (List.mem_of_getElem? (i := 105) (by decide +kernel))) rfl
theorem m_5_107 : Cond.laysFinal RX11 RX11 "leSkill" "[I" ∈ TB := tb_mem (tb_5 (List.mem_of_getElem? (i := 107) (by decide +kernel))) rfl
theorem m_5_109 : Cond.laysFinal RX11 RX11 "leLeaps" "[I" ∈ TB := tb_mem (tb_5 (List.mem_of_getElem? (i := 109) (by decide +kernel))) rfl
theorem m_5_111 : Cond.laysFinal RX11 RX11 "leDrops" "[I" ∈ TB := tb_mem (tb_5 (List.mem_of_getElem? (i := 111) (by decide +kernel))) rfl
theorem m_5_113 : Cond.laysFinal RX11 RX11 "paJetty" "[I" ∈ TB := tb_mem (tb_5 (List.mem_of_getElem? (i := 113) (by decide +kernel))) rfl
theorem m_5_115 : Cond.laysFinal RX11 RX11 "paMinutes" "[I" ∈ TB := tb_mem (tb_5 (List.mem_of_getElem? (i := 115) (by decide +kernel))) rfl
theorem m_5_117 : Cond.laysFinal RX11 RX11 "paWorth" "[I" ∈ TB := tb_mem (tb_5 (List.mem_of_getElem? (i := 117) (by decide +kernel))) rfl
theorem m_5_119 : Cond.laysFinal RX11 RX11 "winds" "[I" ∈ TB := tb_mem (tb_5 (List.mem_of_getElem? (i := 119) (by decide +kernel))) rfl
theorem m_5_121 : Cond.laysFinal RX11 RX11 "lake" "[I" ∈ TB := tb_mem (tb_5 (List.mem_of_getElem? (i := 121) (by decide +kernel))) rfl
theorem m_5_123 : Cond.laysFinal RX11 RX11 "way" "[I" ∈ TB := tb_mem (tb_5 (List.mem_of_getElem? (i := 123) (by decide +kernel))) rfl
theorem m_5_125 : Cond.laysFinal RX11 RX11 "refusals" "[I" ∈ TB := tb_mem (tb_5 (List.mem_of_getElem? (i := 125) (by decide +kernel))) rfl
theorem m_5_127 : Cond.lays RX11 RX11 "isImage" "Z" ∈ TB := tb_mem (tb_5 (List.mem_of_getElem? (i := 127) (by decide +kernel))) rfl
theorem m_5_129 : Cond.laysFinal RX11 RX11 "kept" "[I" ∈ TB := tb_mem (tb_5 (List.mem_of_getElem? (i := 129) (by decide +kernel))) rfl
theorem m_5_131 : Cond.laysFinal RX11 RX11 "tour" "[I" ∈ TB := tb_mem (tb_5 (List.mem_of_getElem? (i := 131) (by decide +kernel))) rfl
theorem m_5_133 : Cond.laysFinal RX11 RX11 "order" "[I" ∈ TB := tb_mem (tb_5 (List.mem_of_getElem? (i := 133) (by decide +kernel))) rfl
theorem m_5_135 : Cond.laysFinal RX11 RX11 "members" "[I" ∈ TB := tb_mem (tb_5 (List.mem_of_getElem? (i := 135) (by decide +kernel))) rfl
theorem m_5_137 : Cond.laysFinal RX11 RX11 "bestOrder" "[I" ∈ TB := tb_mem (tb_5 (List.mem_of_getElem? (i := 137) (by decide +kernel))) rfl
theorem m_5_139 : Cond.laysFinal RX11 RX11 "bag" "[I" ∈ TB := tb_mem (tb_5 (List.mem_of_getElem? (i := 139) (by decide +kernel))) rfl
theorem m_5_142 : Cond.methodLink RL 17 yX11_row ∈ TB := tb_mem (tb_5 (List.mem_of_getElem? (i := 142) (by decide +kernel))) rfl
theorem m_5_143 : Cond.instanceMethod yX11_row ∈ TB := tb_mem (tb_5 (List.mem_of_getElem? (i := 143) (by decide +kernel))) rfl
theorem m_5_144 : Cond.selects RX11 yX11_row yX11_row ∈ TB := tb_mem (tb_5 (List.mem_of_getElem? (i := 144) (by decide +kernel))) rfl
theorem m_5_145 : Cond.code yX11_row cX11_row 5 (some .int) ∈ TB := tb_mem (tb_5 (List.mem_of_getElem? (i := 145) (by decide +kernel))) rfl
theorem m_5_146 : Cond.methodLink RX11 89 yX11_isShelf ∈ TB := tb_mem (tb_5 (List.mem_of_getElem? (i := 146) (by decide +kernel))) rfl
theorem m_5_148 : Cond.instanceMethod yX11_isShelf ∈ TB := tb_mem (tb_5 (List.mem_of_getElem? (i := 148) (by decide +kernel))) rfl
theorem m_5_149 : Cond.code yX11_isShelf cX11_isShelf 2 (some .boolean) ∈ TB := tb_mem (tb_5 (List.mem_of_getElem? (i := 149) (by decide +kernel))) rfl
theorem m_5_150 : Cond.methodLink RX11 93 yX11_no ∈ TB := tb_mem (tb_5 (List.mem_of_getElem? (i := 150) (by decide +kernel))) rfl
theorem m_5_152 : Cond.instanceMethod yX11_no ∈ TB := tb_mem (tb_5 (List.mem_of_getElem? (i := 152) (by decide +kernel))) rfl
theorem m_5_153 : Cond.code yX11_no cX11_no 2 (some .int) ∈ TB := tb_mem (tb_5 (List.mem_of_getElem? (i := 153) (by decide +kernel))) rfl
theorem m_5_154 : Cond.methodLink RL 24 yX11_set ∈ TB := tb_mem (tb_5 (List.mem_of_getElem? (i := 154) (by decide +kernel))) rfl
theorem m_5_155 : Cond.instanceMethod yX11_set ∈ TB := tb_mem (tb_5 (List.mem_of_getElem? (i := 155) (by decide +kernel))) rfl
theorem m_5_156 : Cond.selects RX11 yX11_set yX11_set ∈ TB := tb_mem (tb_5 (List.mem_of_getElem? (i := 156) (by decide +kernel))) rfl
theorem m_5_157 : Cond.code yX11_set cX11_set 9 (some .int) ∈ TB := tb_mem (tb_5 (List.mem_of_getElem? (i := 157) (by decide +kernel))) rfl
theorem m_5_158 : Cond.methodLink RX11 100 yX11_noRow ∈ TB := tb_mem (tb_5 (List.mem_of_getElem? (i := 158) (by decide +kernel))) rfl
theorem m_5_160 : Cond.instanceMethod yX11_noRow ∈ TB := tb_mem (tb_5 (List.mem_of_getElem? (i := 160) (by decide +kernel))) rfl
theorem m_5_161 : Cond.code yX11_noRow cX11_noRow 2 (some .int) ∈ TB := tb_mem (tb_5 (List.mem_of_getElem? (i := 161) (by decide +kernel))) rfl
theorem m_5_162 : Cond.methodLink RX11 97 yX11_holdsJetty ∈ TB := tb_mem (tb_5 (List.mem_of_getElem? (i := 162) (by decide +kernel))) rfl
theorem m_5_164 : Cond.instanceMethod yX11_holdsJetty ∈ TB := tb_mem (tb_5 (List.mem_of_getElem? (i := 164) (by decide +kernel))) rfl
theorem m_5_165 : Cond.code yX11_holdsJetty cX11_holdsJetty 2 (some .boolean) ∈ TB := tb_mem (tb_5 (List.mem_of_getElem? (i := 165) (by decide +kernel))) rfl
theorem m_5_166 : Cond.methodLink RL 29 yX11_copy ∈ TB := tb_mem (tb_5 (List.mem_of_getElem? (i := 166) (by decide +kernel))) rfl
theorem m_5_167 : Cond.instanceMethod yX11_copy ∈ TB := tb_mem (tb_5 (List.mem_of_getElem? (i := 167) (by decide +kernel))) rfl
theorem m_5_168 : Cond.selects RX11 yX11_copy yX11_copy ∈ TB := tb_mem (tb_5 (List.mem_of_getElem? (i := 168) (by decide +kernel))) rfl
theorem m_5_169 : Cond.code yX11_copy cX11_copy 7 (some .int) ∈ TB := tb_mem (tb_5 (List.mem_of_getElem? (i := 169) (by decide +kernel))) rfl
theorem m_5_170 : Cond.methodLink RX11 103 yX11_isRow ∈ TB := tb_mem (tb_5 (List.mem_of_getElem? (i := 170) (by decide +kernel))) rfl
theorem m_5_172 : Cond.instanceMethod yX11_isRow ∈ TB := tb_mem (tb_5 (List.mem_of_getElem? (i := 172) (by decide +kernel))) rfl
theorem m_5_173 : Cond.code yX11_isRow cX11_isRow 2 (some .boolean) ∈ TB := tb_mem (tb_5 (List.mem_of_getElem? (i := 173) (by decide +kernel))) rfl
theorem m_5_174 : Cond.methodLink RL 34 yX11_element ∈ TB := tb_mem (tb_5 (List.mem_of_getElem? (i := 174) (by decide +kernel))) rfl
theorem m_5_175 : Cond.instanceMethod yX11_element ∈ TB := tb_mem (tb_5 (List.mem_of_getElem? (i := 175) (by decide +kernel))) rfl
theorem m_5_176 : Cond.selects RX11 yX11_element yX11_element ∈ TB := tb_mem (tb_5 (List.mem_of_getElem? (i := 176) (by decide +kernel))) rfl
theorem m_5_177 : Cond.code yX11_element cX11_element 3 (some .long) ∈ TB := tb_mem (tb_5 (List.mem_of_getElem? (i := 177) (by decide +kernel))) rfl
theorem m_5_178 : Cond.methodLink RL 39 yX11_holds ∈ TB := tb_mem (tb_5 (List.mem_of_getElem? (i := 178) (by decide +kernel))) rfl
theorem m_5_179 : Cond.instanceMethod yX11_holds ∈ TB := tb_mem (tb_5 (List.mem_of_getElem? (i := 179) (by decide +kernel))) rfl
theorem m_5_180 : Cond.selects RX11 yX11_holds yX11_holds ∈ TB := tb_mem (tb_5 (List.mem_of_getElem? (i := 180) (by decide +kernel))) rfl
theorem m_5_181 : Cond.code yX11_holds cX11_holds 2 (some .int) ∈ TB := tb_mem (tb_5 (List.mem_of_getElem? (i := 181) (by decide +kernel))) rfl
theorem m_5_182 : Cond.methodLink RL 44 yX11_show ∈ TB := tb_mem (tb_5 (List.mem_of_getElem? (i := 182) (by decide +kernel))) rfl
theorem m_5_183 : Cond.instanceMethod yX11_show ∈ TB := tb_mem (tb_5 (List.mem_of_getElem? (i := 183) (by decide +kernel))) rfl
theorem m_5_184 : Cond.selects RX11 yX11_show yX11_show ∈ TB := tb_mem (tb_5 (List.mem_of_getElem? (i := 184) (by decide +kernel))) rfl
theorem m_5_185 : Cond.code yX11_show cX11_show 3 (some .int) ∈ TB := tb_mem (tb_5 (List.mem_of_getElem? (i := 185) (by decide +kernel))) rfl
theorem m_5_186 : Cond.methodLink RX11 106 yX11_isJetty ∈ TB := tb_mem (tb_5 (List.mem_of_getElem? (i := 186) (by decide +kernel))) rfl
theorem m_5_188 : Cond.instanceMethod yX11_isJetty ∈ TB := tb_mem (tb_5 (List.mem_of_getElem? (i := 188) (by decide +kernel))) rfl
theorem m_5_189 : Cond.code yX11_isJetty cX11_isJetty 2 (some .boolean) ∈ TB := tb_mem (tb_5 (List.mem_of_getElem? (i := 189) (by decide +kernel))) rfl
theorem m_5_190 : Cond.methodLink RL 48 yX11_says ∈ TB := tb_mem (tb_5 (List.mem_of_getElem? (i := 190) (by decide +kernel))) rfl
theorem m_5_191 : Cond.instanceMethod yX11_says ∈ TB := tb_mem (tb_5 (List.mem_of_getElem? (i := 191) (by decide +kernel))) rfl
theorem m_5_192 : Cond.selects RX11 yX11_says yX11_says ∈ TB := tb_mem (tb_5 (List.mem_of_getElem? (i := 192) (by decide +kernel))) rfl
theorem m_5_193 : Cond.code yX11_says cX11_says 4 (some .int) ∈ TB := tb_mem (tb_5 (List.mem_of_getElem? (i := 193) (by decide +kernel))) rfl
theorem m_5_194 : Cond.methodLink RX11 109 yX11_isUnder ∈ TB := tb_mem (tb_5 (List.mem_of_getElem? (i := 194) (by decide +kernel))) rfl
theorem m_5_196 : Cond.instanceMethod yX11_isUnder ∈ TB := tb_mem (tb_5 (List.mem_of_getElem? (i := 196) (by decide +kernel))) rfl
theorem m_5_197 : Cond.code yX11_isUnder cX11_isUnder 3 (some .boolean) ∈ TB := tb_mem (tb_5 (List.mem_of_getElem? (i := 197) (by decide +kernel))) rfl
theorem m_5_198 : Cond.methodLink RX11 113 yX11_paces ∈ TB := tb_mem (tb_5 (List.mem_of_getElem? (i := 198) (by decide +kernel))) rfl
theorem m_5_200 : Cond.instanceMethod yX11_paces ∈ TB := tb_mem (tb_5 (List.mem_of_getElem? (i := 200) (by decide +kernel))) rfl
theorem m_5_201 : Cond.code yX11_paces cX11_paces 4 (some .int) ∈ TB := tb_mem (tb_5 (List.mem_of_getElem? (i := 201) (by decide +kernel))) rfl
theorem m_5_202 : Cond.methodLink RX11 116 yX11_riseAt ∈ TB := tb_mem (tb_5 (List.mem_of_getElem? (i := 202) (by decide +kernel))) rfl
theorem m_5_204 : Cond.instanceMethod yX11_riseAt ∈ TB := tb_mem (tb_5 (List.mem_of_getElem? (i := 204) (by decide +kernel))) rfl
theorem m_5_205 : Cond.code yX11_riseAt cX11_riseAt 6 (some .int) ∈ TB := tb_mem (tb_5 (List.mem_of_getElem? (i := 205) (by decide +kernel))) rfl
theorem m_5_206 : Cond.methodLink RL 53 yX11_jetty ∈ TB := tb_mem (tb_5 (List.mem_of_getElem? (i := 206) (by decide +kernel))) rfl
theorem m_5_207 : Cond.instanceMethod yX11_jetty ∈ TB := tb_mem (tb_5 (List.mem_of_getElem? (i := 207) (by decide +kernel))) rfl
theorem m_5_208 : Cond.selects RX11 yX11_jetty yX11_jetty ∈ TB := tb_mem (tb_5 (List.mem_of_getElem? (i := 208) (by decide +kernel))) rfl
theorem m_5_209 : Cond.code yX11_jetty cX11_jetty 6 (some .int) ∈ TB := tb_mem (tb_5 (List.mem_of_getElem? (i := 209) (by decide +kernel))) rfl
theorem m_5_210 : Cond.methodLink RX11 133 yX11_isSpot ∈ TB := tb_mem (tb_5 (List.mem_of_getElem? (i := 210) (by decide +kernel))) rfl
theorem m_5_212 : Cond.instanceMethod yX11_isSpot ∈ TB := tb_mem (tb_5 (List.mem_of_getElem? (i := 212) (by decide +kernel))) rfl
theorem m_5_213 : Cond.code yX11_isSpot cX11_isSpot 2 (some .boolean) ∈ TB := tb_mem (tb_5 (List.mem_of_getElem? (i := 213) (by decide +kernel))) rfl
theorem m_5_214 : Cond.methodLink RL 57 yX11_jettyOf ∈ TB := tb_mem (tb_5 (List.mem_of_getElem? (i := 214) (by decide +kernel))) rfl
theorem m_5_215 : Cond.instanceMethod yX11_jettyOf ∈ TB := tb_mem (tb_5 (List.mem_of_getElem? (i := 215) (by decide +kernel))) rfl
theorem m_5_216 : Cond.selects RX11 yX11_jettyOf yX11_jettyOf ∈ TB := tb_mem (tb_5 (List.mem_of_getElem? (i := 216) (by decide +kernel))) rfl
theorem m_5_217 : Cond.code yX11_jettyOf cX11_jettyOf 3 (some .int) ∈ TB := tb_mem (tb_5 (List.mem_of_getElem? (i := 217) (by decide +kernel))) rfl
theorem m_5_218 : Cond.methodLink RX11 136 yX11_isOut ∈ TB := tb_mem (tb_5 (List.mem_of_getElem? (i := 218) (by decide +kernel))) rfl
theorem m_5_220 : Cond.instanceMethod yX11_isOut ∈ TB := tb_mem (tb_5 (List.mem_of_getElem? (i := 220) (by decide +kernel))) rfl
theorem m_5_221 : Cond.code yX11_isOut cX11_isOut 4 (some .boolean) ∈ TB := tb_mem (tb_5 (List.mem_of_getElem? (i := 221) (by decide +kernel))) rfl
theorem m_5_222 : Cond.methodLink RX11 120 yX11_deck ∈ TB := tb_mem (tb_5 (List.mem_of_getElem? (i := 222) (by decide +kernel))) rfl
theorem m_5_224 : Cond.instanceMethod yX11_deck ∈ TB := tb_mem (tb_5 (List.mem_of_getElem? (i := 224) (by decide +kernel))) rfl
theorem m_5_225 : Cond.code yX11_deck cX11_deck 1 (some .int) ∈ TB := tb_mem (tb_5 (List.mem_of_getElem? (i := 225) (by decide +kernel))) rfl
theorem m_5_226 : Cond.methodLink RX11 139 yX11_isTime ∈ TB := tb_mem (tb_5 (List.mem_of_getElem? (i := 226) (by decide +kernel))) rfl
theorem m_5_228 : Cond.instanceMethod yX11_isTime ∈ TB := tb_mem (tb_5 (List.mem_of_getElem? (i := 228) (by decide +kernel))) rfl
theorem m_5_229 : Cond.code yX11_isTime cX11_isTime 2 (some .boolean) ∈ TB := tb_mem (tb_5 (List.mem_of_getElem? (i := 229) (by decide +kernel))) rfl
theorem m_5_230 : Cond.methodLink RX11 127 yX11_says_ ∈ TB := tb_mem (tb_5 (List.mem_of_getElem? (i := 230) (by decide +kernel))) rfl
theorem m_5_232 : Cond.instanceMethod yX11_says_ ∈ TB := tb_mem (tb_5 (List.mem_of_getElem? (i := 232) (by decide +kernel))) rfl
theorem m_5_233 : Cond.code yX11_says_ cX11_says_ 2 (some .int) ∈ TB := tb_mem (tb_5 (List.mem_of_getElem? (i := 233) (by decide +kernel))) rfl
theorem m_5_234 : Cond.methodLink RX11 124 yX11_first ∈ TB := tb_mem (tb_5 (List.mem_of_getElem? (i := 234) (by decide +kernel))) rfl
theorem m_5_236 : Cond.instanceMethod yX11_first ∈ TB := tb_mem (tb_5 (List.mem_of_getElem? (i := 236) (by decide +kernel))) rfl
theorem m_5_237 : Cond.code yX11_first cX11_first 2 (some .int) ∈ TB := tb_mem (tb_5 (List.mem_of_getElem? (i := 237) (by decide +kernel))) rfl
theorem m_5_238 : Cond.methodLink RX11 130 yX11_isTimeAt ∈ TB := tb_mem (tb_5 (List.mem_of_getElem? (i := 238) (by decide +kernel))) rfl
theorem m_6_0 : Cond.instanceMethod yX11_isTimeAt ∈ TB := tb_mem (tb_6 (List.mem_of_getElem? (i := 0) (by decide +kernel))) rfl
theorem m_6_1 : Cond.code yX11_isTimeAt cX11_isTimeAt 4 (some .boolean) ∈ TB := tb_mem (tb_6 (List.mem_of_getElem? (i := 1) (by decide +kernel))) rfl
theorem m_6_2 : Cond.methodLink RL 62 yX11_wet ∈ TB := tb_mem (tb_6 (List.mem_of_getElem? (i := 2) (by decide +kernel))) rfl
theorem m_6_3 : Cond.instanceMethod yX11_wet ∈ TB := tb_mem (tb_6 (List.mem_of_getElem? (i := 3) (by decide +kernel))) rfl
theorem m_6_4 : Cond.selects RX11 yX11_wet yX11_wet ∈ TB := tb_mem (tb_6 (List.mem_of_getElem? (i := 4) (by decide +kernel))) rfl
theorem m_6_5 : Cond.code yX11_wet cX11_wet 4 (some .int) ∈ TB := tb_mem (tb_6 (List.mem_of_getElem? (i := 5) (by decide +kernel))) rfl
theorem m_6_6 : Cond.methodLink RL 66 yX11_rise ∈ TB := tb_mem (tb_6 (List.mem_of_getElem? (i := 6) (by decide +kernel))) rfl
theorem m_6_7 : Cond.instanceMethod yX11_rise ∈ TB := tb_mem (tb_6 (List.mem_of_getElem? (i := 7) (by decide +kernel))) rfl
theorem m_6_8 : Cond.selects RX11 yX11_rise yX11_rise ∈ TB := tb_mem (tb_6 (List.mem_of_getElem? (i := 8) (by decide +kernel))) rfl
theorem m_6_9 : Cond.code yX11_rise cX11_rise 3 (some .int) ∈ TB := tb_mem (tb_6 (List.mem_of_getElem? (i := 9) (by decide +kernel))) rfl
theorem m_6_10 : Cond.methodLink RX11 142 yX11_isLevel ∈ TB := tb_mem (tb_6 (List.mem_of_getElem? (i := 10) (by decide +kernel))) rfl
theorem m_6_12 : Cond.instanceMethod yX11_isLevel ∈ TB := tb_mem (tb_6 (List.mem_of_getElem? (i := 12) (by decide +kernel))) rfl
theorem m_6_13 : Cond.code yX11_isLevel cX11_isLevel 2 (some .boolean) ∈ TB := tb_mem (tb_6 (List.mem_of_getElem? (i := 13) (by decide +kernel))) rfl
theorem m_6_14 : Cond.methodLink RL 70 yX11_lake ∈ TB := tb_mem (tb_6 (List.mem_of_getElem? (i := 14) (by decide +kernel))) rfl
theorem m_6_15 : Cond.instanceMethod yX11_lake ∈ TB := tb_mem (tb_6 (List.mem_of_getElem? (i := 15) (by decide +kernel))) rfl
theorem m_6_16 : Cond.selects RX11 yX11_lake yX11_lake ∈ TB := tb_mem (tb_6 (List.mem_of_getElem? (i := 16) (by decide +kernel))) rfl
theorem m_6_17 : Cond.code yX11_lake cX11_lake 4 (some .int) ∈ TB := tb_mem (tb_6 (List.mem_of_getElem? (i := 17) (by decide +kernel))) rfl
theorem m_6_18 : Cond.methodLink RL 74 yX11_wind ∈ TB := tb_mem (tb_6 (List.mem_of_getElem? (i := 18) (by decide +kernel))) rfl
theorem m_6_19 : Cond.instanceMethod yX11_wind ∈ TB := tb_mem (tb_6 (List.mem_of_getElem? (i := 19) (by decide +kernel))) rfl
theorem m_6_20 : Cond.selects RX11 yX11_wind yX11_wind ∈ TB := tb_mem (tb_6 (List.mem_of_getElem? (i := 20) (by decide +kernel))) rfl
theorem m_6_21 : Cond.code yX11_wind cX11_wind 4 (some .int) ∈ TB := tb_mem (tb_6 (List.mem_of_getElem? (i := 21) (by decide +kernel))) rfl
theorem m_6_22 : Cond.methodLink RX11 145 yX11_isHour ∈ TB := tb_mem (tb_6 (List.mem_of_getElem? (i := 22) (by decide +kernel))) rfl
theorem m_6_24 : Cond.instanceMethod yX11_isHour ∈ TB := tb_mem (tb_6 (List.mem_of_getElem? (i := 24) (by decide +kernel))) rfl
theorem m_6_25 : Cond.code yX11_isHour cX11_isHour 2 (some .boolean) ∈ TB := tb_mem (tb_6 (List.mem_of_getElem? (i := 25) (by decide +kernel))) rfl
theorem m_6_26 : Cond.methodLink RL 78 yX11_winds ∈ TB := tb_mem (tb_6 (List.mem_of_getElem? (i := 26) (by decide +kernel))) rfl
theorem m_6_27 : Cond.instanceMethod yX11_winds ∈ TB := tb_mem (tb_6 (List.mem_of_getElem? (i := 27) (by decide +kernel))) rfl
theorem m_6_28 : Cond.selects RX11 yX11_winds yX11_winds ∈ TB := tb_mem (tb_6 (List.mem_of_getElem? (i := 28) (by decide +kernel))) rfl
theorem m_6_29 : Cond.code yX11_winds cX11_winds 6 (some .int) ∈ TB := tb_mem (tb_6 (List.mem_of_getElem? (i := 29) (by decide +kernel))) rfl
theorem m_6_30 : Cond.constantLong RX11 148 9 ∈ TB := tb_mem (tb_6 (List.mem_of_getElem? (i := 30) (by decide +kernel))) rfl
theorem m_6_31 : Cond.methodLink RL 82 yX11_feed ∈ TB := tb_mem (tb_6 (List.mem_of_getElem? (i := 31) (by decide +kernel))) rfl
theorem m_6_32 : Cond.instanceMethod yX11_feed ∈ TB := tb_mem (tb_6 (List.mem_of_getElem? (i := 32) (by decide +kernel))) rfl
theorem m_6_33 : Cond.selects RX11 yX11_feed yX11_feed ∈ TB := tb_mem (tb_6 (List.mem_of_getElem? (i := 33) (by decide +kernel))) rfl
theorem m_6_34 : Cond.code yX11_feed cX11_feed 4 (some .int) ∈ TB := tb_mem (tb_6 (List.mem_of_getElem? (i := 34) (by decide +kernel))) rfl
theorem m_6_35 : Cond.methodLink RL 87 yX11_wipe ∈ TB := tb_mem (tb_6 (List.mem_of_getElem? (i := 35) (by decide +kernel))) rfl
theorem m_6_36 : Cond.instanceMethod yX11_wipe ∈ TB := tb_mem (tb_6 (List.mem_of_getElem? (i := 36) (by decide +kernel))) rfl
theorem m_6_37 : Cond.selects RX11 yX11_wipe yX11_wipe ∈ TB := tb_mem (tb_6 (List.mem_of_getElem? (i := 37) (by decide +kernel))) rfl
theorem m_6_38 : Cond.code yX11_wipe cX11_wipe 2 (some .int) ∈ TB := tb_mem (tb_6 (List.mem_of_getElem? (i := 38) (by decide +kernel))) rfl
theorem m_6_39 : Cond.methodLink RL 91 yX11_law ∈ TB := tb_mem (tb_6 (List.mem_of_getElem? (i := 39) (by decide +kernel))) rfl
theorem m_6_40 : Cond.instanceMethod yX11_law ∈ TB := tb_mem (tb_6 (List.mem_of_getElem? (i := 40) (by decide +kernel))) rfl
theorem m_6_41 : Cond.selects RX11 yX11_law yX11_law ∈ TB := tb_mem (tb_6 (List.mem_of_getElem? (i := 41) (by decide +kernel))) rfl
theorem m_6_42 : Cond.code yX11_law cX11_law 2 (some .int) ∈ TB := tb_mem (tb_6 (List.mem_of_getElem? (i := 42) (by decide +kernel))) rfl
theorem m_6_43 : Cond.methodLink RX11 191 yX11_read ∈ TB := tb_mem (tb_6 (List.mem_of_getElem? (i := 43) (by decide +kernel))) rfl
theorem m_6_45 : Cond.instanceMethod yX11_read ∈ TB := tb_mem (tb_6 (List.mem_of_getElem? (i := 45) (by decide +kernel))) rfl
theorem m_6_46 : Cond.code yX11_read cX11_read 7 (some .int) ∈ TB := tb_mem (tb_6 (List.mem_of_getElem? (i := 46) (by decide +kernel))) rfl
theorem m_6_47 : Cond.methodLink RX11 185 yX11_wordAt ∈ TB := tb_mem (tb_6 (List.mem_of_getElem? (i := 47) (by decide +kernel))) rfl
theorem m_6_49 : Cond.instanceMethod yX11_wordAt ∈ TB := tb_mem (tb_6 (List.mem_of_getElem? (i := 49) (by decide +kernel))) rfl
theorem m_6_50 : Cond.code yX11_wordAt cX11_wordAt 3 (some .int) ∈ TB := tb_mem (tb_6 (List.mem_of_getElem? (i := 50) (by decide +kernel))) rfl
theorem m_6_52 : Cond.methodLink RX11 165 yX11_is ∈ TB := tb_mem (tb_6 (List.mem_of_getElem? (i := 52) (by decide +kernel))) rfl
theorem m_6_54 : Cond.instanceMethod yX11_is ∈ TB := tb_mem (tb_6 (List.mem_of_getElem? (i := 54) (by decide +kernel))) rfl
theorem m_6_55 : Cond.code yX11_is cX11_is 5 (some .boolean) ∈ TB := tb_mem (tb_6 (List.mem_of_getElem? (i := 55) (by decide +kernel))) rfl
theorem m_6_56 : Cond.methodLink RX11 154 yJ0_length_8abf5 ∈ TB := tb_mem (tb_6 (List.mem_of_getElem? (i := 56) (by decide +kernel))) rfl
theorem m_6_57 : Cond.methodLink RX11 159 yJ0_charAt_5068e ∈ TB := tb_mem (tb_6 (List.mem_of_getElem? (i := 57) (by decide +kernel))) rfl
theorem m_6_66 : Cond.methodLink RX11 188 yX11_mayBe ∈ TB := tb_mem (tb_6 (List.mem_of_getElem? (i := 66) (by decide +kernel))) rfl
theorem m_6_68 : Cond.instanceMethod yX11_mayBe ∈ TB := tb_mem (tb_6 (List.mem_of_getElem? (i := 68) (by decide +kernel))) rfl
theorem m_6_69 : Cond.code yX11_mayBe cX11_mayBe 3 (some .boolean) ∈ TB := tb_mem (tb_6 (List.mem_of_getElem? (i := 69) (by decide +kernel))) rfl
theorem m_6_70 : Cond.methodLink RL 95 yX11_lawOf ∈ TB := tb_mem (tb_6 (List.mem_of_getElem? (i := 70) (by decide +kernel))) rfl
theorem m_6_71 : Cond.instanceMethod yX11_lawOf ∈ TB := tb_mem (tb_6 (List.mem_of_getElem? (i := 71) (by decide +kernel))) rfl
theorem m_6_72 : Cond.selects RX11 yX11_lawOf yX11_lawOf ∈ TB := tb_mem (tb_6 (List.mem_of_getElem? (i := 72) (by decide +kernel))) rfl
theorem m_6_73 : Cond.code yX11_lawOf cX11_lawOf 3 (some .int) ∈ TB := tb_mem (tb_6 (List.mem_of_getElem? (i := 73) (by decide +kernel))) rfl
theorem m_6_74 : Cond.methodLink RX11 194 yX11_isLaw ∈ TB := tb_mem (tb_6 (List.mem_of_getElem? (i := 74) (by decide +kernel))) rfl
theorem m_6_76 : Cond.instanceMethod yX11_isLaw ∈ TB := tb_mem (tb_6 (List.mem_of_getElem? (i := 76) (by decide +kernel))) rfl
theorem m_6_77 : Cond.code yX11_isLaw cX11_isLaw 2 (some .boolean) ∈ TB := tb_mem (tb_6 (List.mem_of_getElem? (i := 77) (by decide +kernel))) rfl
theorem m_6_78 : Cond.methodLink RL 99 yX11_force ∈ TB := tb_mem (tb_6 (List.mem_of_getElem? (i := 78) (by decide +kernel))) rfl
theorem m_6_79 : Cond.instanceMethod yX11_force ∈ TB := tb_mem (tb_6 (List.mem_of_getElem? (i := 79) (by decide +kernel))) rfl
theorem m_6_80 : Cond.selects RX11 yX11_force yX11_force ∈ TB := tb_mem (tb_6 (List.mem_of_getElem? (i := 80) (by decide +kernel))) rfl
theorem m_6_81 : Cond.code yX11_force cX11_force 3 (some .int) ∈ TB := tb_mem (tb_6 (List.mem_of_getElem? (i := 81) (by decide +kernel))) rfl
theorem m_6_82 : Cond.methodLink RL 103 yX11_leaper ∈ TB := tb_mem (tb_6 (List.mem_of_getElem? (i := 82) (by decide +kernel))) rfl
theorem m_6_83 : Cond.instanceMethod yX11_leaper ∈ TB := tb_mem (tb_6 (List.mem_of_getElem? (i := 83) (by decide +kernel))) rfl
theorem m_6_84 : Cond.selects RX11 yX11_leaper yX11_leaper ∈ TB := tb_mem (tb_6 (List.mem_of_getElem? (i := 84) (by decide +kernel))) rfl
theorem m_6_85 : Cond.code yX11_leaper cX11_leaper 3 (some .int) ∈ TB := tb_mem (tb_6 (List.mem_of_getElem? (i := 85) (by decide +kernel))) rfl
theorem m_6_86 : Cond.methodLink RL 107 yX11_leaperOf ∈ TB := tb_mem (tb_6 (List.mem_of_getElem? (i := 86) (by decide +kernel))) rfl
theorem m_6_87 : Cond.instanceMethod yX11_leaperOf ∈ TB := tb_mem (tb_6 (List.mem_of_getElem? (i := 87) (by decide +kernel))) rfl
theorem m_6_88 : Cond.selects RX11 yX11_leaperOf yX11_leaperOf ∈ TB := tb_mem (tb_6 (List.mem_of_getElem? (i := 88) (by decide +kernel))) rfl
theorem m_6_89 : Cond.code yX11_leaperOf cX11_leaperOf 3 (some .int) ∈ TB := tb_mem (tb_6 (List.mem_of_getElem? (i := 89) (by decide +kernel))) rfl
theorem m_6_90 : Cond.methodLink RX11 197 yX11_isLeaper ∈ TB := tb_mem (tb_6 (List.mem_of_getElem? (i := 90) (by decide +kernel))) rfl
theorem m_6_92 : Cond.instanceMethod yX11_isLeaper ∈ TB := tb_mem (tb_6 (List.mem_of_getElem? (i := 92) (by decide +kernel))) rfl
theorem m_6_93 : Cond.code yX11_isLeaper cX11_isLeaper 2 (some .boolean) ∈ TB := tb_mem (tb_6 (List.mem_of_getElem? (i := 93) (by decide +kernel))) rfl
theorem m_6_94 : Cond.methodLink RL 111 yX11_tried ∈ TB := tb_mem (tb_6 (List.mem_of_getElem? (i := 94) (by decide +kernel))) rfl
theorem m_6_95 : Cond.instanceMethod yX11_tried ∈ TB := tb_mem (tb_6 (List.mem_of_getElem? (i := 95) (by decide +kernel))) rfl
theorem m_6_96 : Cond.selects RX11 yX11_tried yX11_tried ∈ TB := tb_mem (tb_6 (List.mem_of_getElem? (i := 96) (by decide +kernel))) rfl
theorem m_6_97 : Cond.code yX11_tried cX11_tried 4 (some .int) ∈ TB := tb_mem (tb_6 (List.mem_of_getElem? (i := 97) (by decide +kernel))) rfl
theorem m_6_98 : Cond.methodLink RL 115 yX11_learnt ∈ TB := tb_mem (tb_6 (List.mem_of_getElem? (i := 98) (by decide +kernel))) rfl
theorem m_6_99 : Cond.instanceMethod yX11_learnt ∈ TB := tb_mem (tb_6 (List.mem_of_getElem? (i := 99) (by decide +kernel))) rfl
theorem m_6_100 : Cond.selects RX11 yX11_learnt yX11_learnt ∈ TB := tb_mem (tb_6 (List.mem_of_getElem? (i := 100) (by decide +kernel))) rfl
theorem m_6_101 : Cond.code yX11_learnt cX11_learnt 2 (some .int) ∈ TB := tb_mem (tb_6 (List.mem_of_getElem? (i := 101) (by decide +kernel))) rfl
theorem m_6_102 : Cond.methodLink RX11 200 yX11_learntBy ∈ TB := tb_mem (tb_6 (List.mem_of_getElem? (i := 102) (by decide +kernel))) rfl
theorem m_6_104 : Cond.instanceMethod yX11_learntBy ∈ TB := tb_mem (tb_6 (List.mem_of_getElem? (i := 104) (by decide +kernel))) rfl
theorem m_6_105 : Cond.code yX11_learntBy cX11_learntBy 3 (some .int) ∈ TB := tb_mem (tb_6 (List.mem_of_getElem? (i := 105) (by decide +kernel))) rfl
theorem m_6_106 : Cond.methodLink RL 119 yX11_learn ∈ TB := tb_mem (tb_6 (List.mem_of_getElem? (i := 106) (by decide +kernel))) rfl
theorem m_6_107 : Cond.instanceMethod yX11_learn ∈ TB := tb_mem (tb_6 (List.mem_of_getElem? (i := 107) (by decide +kernel))) rfl
theorem m_6_108 : Cond.selects RX11 yX11_learn yX11_learn ∈ TB := tb_mem (tb_6 (List.mem_of_getElem? (i := 108) (by decide +kernel))) rfl
theorem m_6_109 : Cond.code yX11_learn cX11_learn 3 (some .int) ∈ TB := tb_mem (tb_6 (List.mem_of_getElem? (i := 109) (by decide +kernel))) rfl
theorem m_6_110 : Cond.methodLink RL 123 yX11_risk ∈ TB := tb_mem (tb_6 (List.mem_of_getElem? (i := 110) (by decide +kernel))) rfl
theorem m_6_111 : Cond.instanceMethod yX11_risk ∈ TB := tb_mem (tb_6 (List.mem_of_getElem? (i := 111) (by decide +kernel))) rfl
theorem m_6_112 : Cond.selects RX11 yX11_risk yX11_risk ∈ TB := tb_mem (tb_6 (List.mem_of_getElem? (i := 112) (by decide +kernel))) rfl
theorem m_6_113 : Cond.code yX11_risk cX11_risk 4 (some .int) ∈ TB := tb_mem (tb_6 (List.mem_of_getElem? (i := 113) (by decide +kernel))) rfl
theorem m_6_114 : Cond.methodLink RX11 203 yX11_riskOf ∈ TB := tb_mem (tb_6 (List.mem_of_getElem? (i := 114) (by decide +kernel))) rfl
theorem m_6_116 : Cond.instanceMethod yX11_riskOf ∈ TB := tb_mem (tb_6 (List.mem_of_getElem? (i := 116) (by decide +kernel))) rfl
theorem m_6_117 : Cond.code yX11_riskOf cX11_riskOf 6 (some .int) ∈ TB := tb_mem (tb_6 (List.mem_of_getElem? (i := 117) (by decide +kernel))) rfl
theorem m_6_118 : Cond.methodLink RL 127 yX11_calm ∈ TB := tb_mem (tb_6 (List.mem_of_getElem? (i := 118) (by decide +kernel))) rfl
theorem m_6_119 : Cond.instanceMethod yX11_calm ∈ TB := tb_mem (tb_6 (List.mem_of_getElem? (i := 119) (by decide +kernel))) rfl
theorem m_6_120 : Cond.selects RX11 yX11_calm yX11_calm ∈ TB := tb_mem (tb_6 (List.mem_of_getElem? (i := 120) (by decide +kernel))) rfl
theorem m_6_121 : Cond.code yX11_calm cX11_calm 5 (some .int) ∈ TB := tb_mem (tb_6 (List.mem_of_getElem? (i := 121) (by decide +kernel))) rfl
theorem m_6_122 : Cond.methodLink RL 131 yX11_leg ∈ TB := tb_mem (tb_6 (List.mem_of_getElem? (i := 122) (by decide +kernel))) rfl
theorem m_6_123 : Cond.instanceMethod yX11_leg ∈ TB := tb_mem (tb_6 (List.mem_of_getElem? (i := 123) (by decide +kernel))) rfl
theorem m_6_124 : Cond.selects RX11 yX11_leg yX11_leg ∈ TB := tb_mem (tb_6 (List.mem_of_getElem? (i := 124) (by decide +kernel))) rfl
theorem m_6_125 : Cond.code yX11_leg cX11_leg 3 (some .int) ∈ TB := tb_mem (tb_6 (List.mem_of_getElem? (i := 125) (by decide +kernel))) rfl
theorem m_6_126 : Cond.methodLink RX11 210 yX11_legOf ∈ TB := tb_mem (tb_6 (List.mem_of_getElem? (i := 126) (by decide +kernel))) rfl
theorem m_6_128 : Cond.instanceMethod yX11_legOf ∈ TB := tb_mem (tb_6 (List.mem_of_getElem? (i := 128) (by decide +kernel))) rfl
theorem m_6_129 : Cond.code yX11_legOf cX11_legOf 3 (some .int) ∈ TB := tb_mem (tb_6 (List.mem_of_getElem? (i := 129) (by decide +kernel))) rfl
theorem m_6_130 : Cond.methodLink RX11 207 yX11_legAt ∈ TB := tb_mem (tb_6 (List.mem_of_getElem? (i := 130) (by decide +kernel))) rfl
theorem m_6_132 : Cond.instanceMethod yX11_legAt ∈ TB := tb_mem (tb_6 (List.mem_of_getElem? (i := 132) (by decide +kernel))) rfl
theorem m_6_133 : Cond.code yX11_legAt cX11_legAt 7 (some .int) ∈ TB := tb_mem (tb_6 (List.mem_of_getElem? (i := 133) (by decide +kernel))) rfl
theorem m_6_134 : Cond.methodLink RL 135 yX11_round ∈ TB := tb_mem (tb_6 (List.mem_of_getElem? (i := 134) (by decide +kernel))) rfl
theorem m_6_135 : Cond.instanceMethod yX11_round ∈ TB := tb_mem (tb_6 (List.mem_of_getElem? (i := 135) (by decide +kernel))) rfl
theorem m_6_136 : Cond.selects RX11 yX11_round yX11_round ∈ TB := tb_mem (tb_6 (List.mem_of_getElem? (i := 136) (by decide +kernel))) rfl
theorem m_6_137 : Cond.code yX11_round cX11_round 8 (some .int) ∈ TB := tb_mem (tb_6 (List.mem_of_getElem? (i := 137) (by decide +kernel))) rfl
theorem m_6_138 : Cond.methodLink RX11 216 yX11_take ∈ TB := tb_mem (tb_6 (List.mem_of_getElem? (i := 138) (by decide +kernel))) rfl
theorem m_6_140 : Cond.instanceMethod yX11_take ∈ TB := tb_mem (tb_6 (List.mem_of_getElem? (i := 140) (by decide +kernel))) rfl
theorem m_6_141 : Cond.code yX11_take cX11_take 7 (some .int) ∈ TB := tb_mem (tb_6 (List.mem_of_getElem? (i := 141) (by decide +kernel))) rfl
theorem m_6_142 : Cond.methodLink RX11 219 yX11_riskOfTour ∈ TB := tb_mem (tb_6 (List.mem_of_getElem? (i := 142) (by decide +kernel))) rfl
theorem m_6_144 : Cond.instanceMethod yX11_riskOfTour ∈ TB := tb_mem (tb_6 (List.mem_of_getElem? (i := 144) (by decide +kernel))) rfl
theorem m_6_145 : Cond.code yX11_riskOfTour cX11_riskOfTour 9 (some .int) ∈ TB := tb_mem (tb_6 (List.mem_of_getElem? (i := 145) (by decide +kernel))) rfl
theorem m_6_146 : Cond.methodLink RX11 213 yX11_hourOf ∈ TB := tb_mem (tb_6 (List.mem_of_getElem? (i := 146) (by decide +kernel))) rfl
theorem m_6_148 : Cond.instanceMethod yX11_hourOf ∈ TB := tb_mem (tb_6 (List.mem_of_getElem? (i := 148) (by decide +kernel))) rfl
theorem m_6_149 : Cond.code yX11_hourOf cX11_hourOf 2 (some .int) ∈ TB := tb_mem (tb_6 (List.mem_of_getElem? (i := 149) (by decide +kernel))) rfl
theorem m_6_150 : Cond.methodLink RX11 222 yX11_endOfTour ∈ TB := tb_mem (tb_6 (List.mem_of_getElem? (i := 150) (by decide +kernel))) rfl
theorem m_6_152 : Cond.instanceMethod yX11_endOfTour ∈ TB := tb_mem (tb_6 (List.mem_of_getElem? (i := 152) (by decide +kernel))) rfl
theorem m_6_153 : Cond.code yX11_endOfTour cX11_endOfTour 5 (some .int) ∈ TB := tb_mem (tb_6 (List.mem_of_getElem? (i := 153) (by decide +kernel))) rfl
theorem m_6_154 : Cond.methodLink RL 139 yX11_best ∈ TB := tb_mem (tb_6 (List.mem_of_getElem? (i := 154) (by decide +kernel))) rfl
theorem m_6_155 : Cond.instanceMethod yX11_best ∈ TB := tb_mem (tb_6 (List.mem_of_getElem? (i := 155) (by decide +kernel))) rfl
theorem m_6_156 : Cond.selects RX11 yX11_best yX11_best ∈ TB := tb_mem (tb_6 (List.mem_of_getElem? (i := 156) (by decide +kernel))) rfl
theorem m_6_157 : Cond.code yX11_best cX11_best 12 (some .int) ∈ TB := tb_mem (tb_6 (List.mem_of_getElem? (i := 157) (by decide +kernel))) rfl
theorem m_6_158 : Cond.methodLink RX11 225 yX11_membersOf ∈ TB := tb_mem (tb_6 (List.mem_of_getElem? (i := 158) (by decide +kernel))) rfl
theorem m_6_160 : Cond.instanceMethod yX11_membersOf ∈ TB := tb_mem (tb_6 (List.mem_of_getElem? (i := 160) (by decide +kernel))) rfl
theorem m_6_161 : Cond.code yX11_membersOf cX11_membersOf 4 (some .int) ∈ TB := tb_mem (tb_6 (List.mem_of_getElem? (i := 161) (by decide +kernel))) rfl
theorem m_6_162 : Cond.methodLink RX11 228 yX11_nextOrder ∈ TB := tb_mem (tb_6 (List.mem_of_getElem? (i := 162) (by decide +kernel))) rfl
theorem m_6_164 : Cond.instanceMethod yX11_nextOrder ∈ TB := tb_mem (tb_6 (List.mem_of_getElem? (i := 164) (by decide +kernel))) rfl
theorem m_6_165 : Cond.code yX11_nextOrder cX11_nextOrder 7 (some .boolean) ∈ TB := tb_mem (tb_6 (List.mem_of_getElem? (i := 165) (by decide +kernel))) rfl
theorem m_6_166 : Cond.methodLink RL 143 yX11_team ∈ TB := tb_mem (tb_6 (List.mem_of_getElem? (i := 166) (by decide +kernel))) rfl
theorem m_6_167 : Cond.instanceMethod yX11_team ∈ TB := tb_mem (tb_6 (List.mem_of_getElem? (i := 167) (by decide +kernel))) rfl
theorem m_6_168 : Cond.selects RX11 yX11_team yX11_team ∈ TB := tb_mem (tb_6 (List.mem_of_getElem? (i := 168) (by decide +kernel))) rfl
theorem m_6_169 : Cond.code yX11_team cX11_team 15 (some .int) ∈ TB := tb_mem (tb_6 (List.mem_of_getElem? (i := 169) (by decide +kernel))) rfl
theorem m_6_170 : Cond.constantLong RX11 231 15 ∈ TB := tb_mem (tb_6 (List.mem_of_getElem? (i := 170) (by decide +kernel))) rfl
theorem m_6_171 : Cond.methodLink RL 147 yX11_safest ∈ TB := tb_mem (tb_6 (List.mem_of_getElem? (i := 171) (by decide +kernel))) rfl
theorem m_6_172 : Cond.instanceMethod yX11_safest ∈ TB := tb_mem (tb_6 (List.mem_of_getElem? (i := 172) (by decide +kernel))) rfl
theorem m_6_173 : Cond.selects RX11 yX11_safest yX11_safest ∈ TB := tb_mem (tb_6 (List.mem_of_getElem? (i := 173) (by decide +kernel))) rfl
theorem m_6_174 : Cond.code yX11_safest cX11_safest 5 (some .int) ∈ TB := tb_mem (tb_6 (List.mem_of_getElem? (i := 174) (by decide +kernel))) rfl
theorem m_6_175 : Cond.methodLink RL 151 yX11_missed ∈ TB := tb_mem (tb_6 (List.mem_of_getElem? (i := 175) (by decide +kernel))) rfl
theorem m_6_176 : Cond.instanceMethod yX11_missed ∈ TB := tb_mem (tb_6 (List.mem_of_getElem? (i := 176) (by decide +kernel))) rfl
theorem m_6_177 : Cond.selects RX11 yX11_missed yX11_missed ∈ TB := tb_mem (tb_6 (List.mem_of_getElem? (i := 177) (by decide +kernel))) rfl
theorem m_6_178 : Cond.code yX11_missed cX11_missed 14 (some .int) ∈ TB := tb_mem (tb_6 (List.mem_of_getElem? (i := 178) (by decide +kernel))) rfl
theorem m_6_179 : Cond.methodLink RL 155 yX11_pilot ∈ TB := tb_mem (tb_6 (List.mem_of_getElem? (i := 179) (by decide +kernel))) rfl
theorem m_6_180 : Cond.instanceMethod yX11_pilot ∈ TB := tb_mem (tb_6 (List.mem_of_getElem? (i := 180) (by decide +kernel))) rfl
theorem m_6_181 : Cond.selects RX11 yX11_pilot yX11_pilot ∈ TB := tb_mem (tb_6 (List.mem_of_getElem? (i := 181) (by decide +kernel))) rfl
theorem m_6_182 : Cond.code yX11_pilot cX11_pilot 9 (some .int) ∈ TB := tb_mem (tb_6 (List.mem_of_getElem? (i := 182) (by decide +kernel))) rfl
theorem m_6_183 : Cond.methodLink RL 159 yX11_still ∈ TB := tb_mem (tb_6 (List.mem_of_getElem? (i := 183) (by decide +kernel))) rfl
theorem m_6_184 : Cond.instanceMethod yX11_still ∈ TB := tb_mem (tb_6 (List.mem_of_getElem? (i := 184) (by decide +kernel))) rfl
theorem m_6_185 : Cond.selects RX11 yX11_still yX11_still ∈ TB := tb_mem (tb_6 (List.mem_of_getElem? (i := 185) (by decide +kernel))) rfl
theorem m_6_186 : Cond.code yX11_still cX11_still 7 (some .int) ∈ TB := tb_mem (tb_6 (List.mem_of_getElem? (i := 186) (by decide +kernel))) rfl
theorem m_6_187 : Cond.methodLink RL 163 yX11_firstOut ∈ TB := tb_mem (tb_6 (List.mem_of_getElem? (i := 187) (by decide +kernel))) rfl
theorem m_6_188 : Cond.instanceMethod yX11_firstOut ∈ TB := tb_mem (tb_6 (List.mem_of_getElem? (i := 188) (by decide +kernel))) rfl
theorem m_6_189 : Cond.selects RX11 yX11_firstOut yX11_firstOut ∈ TB := tb_mem (tb_6 (List.mem_of_getElem? (i := 189) (by decide +kernel))) rfl
theorem m_6_190 : Cond.code yX11_firstOut cX11_firstOut 4 (some .int) ∈ TB := tb_mem (tb_6 (List.mem_of_getElem? (i := 190) (by decide +kernel))) rfl
theorem m_6_191 : Cond.methodLink RX11 233 yX11_isFall ∈ TB := tb_mem (tb_6 (List.mem_of_getElem? (i := 191) (by decide +kernel))) rfl
theorem m_6_193 : Cond.instanceMethod yX11_isFall ∈ TB := tb_mem (tb_6 (List.mem_of_getElem? (i := 193) (by decide +kernel))) rfl
theorem m_6_194 : Cond.code yX11_isFall cX11_isFall 2 (some .boolean) ∈ TB := tb_mem (tb_6 (List.mem_of_getElem? (i := 194) (by decide +kernel))) rfl
theorem m_6_195 : Cond.methodLink RL 167 yX11_lifts ∈ TB := tb_mem (tb_6 (List.mem_of_getElem? (i := 195) (by decide +kernel))) rfl
theorem m_6_196 : Cond.instanceMethod yX11_lifts ∈ TB := tb_mem (tb_6 (List.mem_of_getElem? (i := 196) (by decide +kernel))) rfl
theorem m_6_197 : Cond.selects RX11 yX11_lifts yX11_lifts ∈ TB := tb_mem (tb_6 (List.mem_of_getElem? (i := 197) (by decide +kernel))) rfl
theorem m_6_198 : Cond.code yX11_lifts cX11_lifts 12 (some .int) ∈ TB := tb_mem (tb_6 (List.mem_of_getElem? (i := 198) (by decide +kernel))) rfl
theorem m_6_199 : Cond.methodLink RL 171 yX11_parcel ∈ TB := tb_mem (tb_6 (List.mem_of_getElem? (i := 199) (by decide +kernel))) rfl
theorem m_6_200 : Cond.instanceMethod yX11_parcel ∈ TB := tb_mem (tb_6 (List.mem_of_getElem? (i := 200) (by decide +kernel))) rfl
theorem m_6_201 : Cond.selects RX11 yX11_parcel yX11_parcel ∈ TB := tb_mem (tb_6 (List.mem_of_getElem? (i := 201) (by decide +kernel))) rfl
theorem m_6_202 : Cond.code yX11_parcel cX11_parcel 5 (some .int) ∈ TB := tb_mem (tb_6 (List.mem_of_getElem? (i := 202) (by decide +kernel))) rfl
theorem m_6_203 : Cond.methodLink RL 175 yX11_stops ∈ TB := tb_mem (tb_6 (List.mem_of_getElem? (i := 203) (by decide +kernel))) rfl
theorem m_6_204 : Cond.instanceMethod yX11_stops ∈ TB := tb_mem (tb_6 (List.mem_of_getElem? (i := 204) (by decide +kernel))) rfl
theorem m_6_205 : Cond.selects RX11 yX11_stops yX11_stops ∈ TB := tb_mem (tb_6 (List.mem_of_getElem? (i := 205) (by decide +kernel))) rfl
theorem m_6_206 : Cond.code yX11_stops cX11_stops 8 (some .int) ∈ TB := tb_mem (tb_6 (List.mem_of_getElem? (i := 206) (by decide +kernel))) rfl
theorem m_6_207 : Cond.methodLink RL 179 yX11_week ∈ TB := tb_mem (tb_6 (List.mem_of_getElem? (i := 207) (by decide +kernel))) rfl
theorem m_6_208 : Cond.instanceMethod yX11_week ∈ TB := tb_mem (tb_6 (List.mem_of_getElem? (i := 208) (by decide +kernel))) rfl
theorem m_6_209 : Cond.selects RX11 yX11_week yX11_week ∈ TB := tb_mem (tb_6 (List.mem_of_getElem? (i := 209) (by decide +kernel))) rfl
theorem m_6_210 : Cond.code yX11_week cX11_week 4 (some .int) ∈ TB := tb_mem (tb_6 (List.mem_of_getElem? (i := 210) (by decide +kernel))) rfl
theorem m_6_211 : Cond.methodLink RL 183 yX11_outs ∈ TB := tb_mem (tb_6 (List.mem_of_getElem? (i := 211) (by decide +kernel))) rfl
theorem m_6_212 : Cond.instanceMethod yX11_outs ∈ TB := tb_mem (tb_6 (List.mem_of_getElem? (i := 212) (by decide +kernel))) rfl
theorem m_6_213 : Cond.selects RX11 yX11_outs yX11_outs ∈ TB := tb_mem (tb_6 (List.mem_of_getElem? (i := 213) (by decide +kernel))) rfl
theorem m_6_214 : Cond.code yX11_outs cX11_outs 5 (some .int) ∈ TB := tb_mem (tb_6 (List.mem_of_getElem? (i := 214) (by decide +kernel))) rfl
theorem m_6_215 : Cond.methodLink RL 187 yX11_seed ∈ TB := tb_mem (tb_6 (List.mem_of_getElem? (i := 215) (by decide +kernel))) rfl
theorem m_6_216 : Cond.instanceMethod yX11_seed ∈ TB := tb_mem (tb_6 (List.mem_of_getElem? (i := 216) (by decide +kernel))) rfl
theorem m_6_217 : Cond.selects RX11 yX11_seed yX11_seed ∈ TB := tb_mem (tb_6 (List.mem_of_getElem? (i := 217) (by decide +kernel))) rfl
theorem m_6_218 : Cond.code yX11_seed cX11_seed 3 (some .int) ∈ TB := tb_mem (tb_6 (List.mem_of_getElem? (i := 218) (by decide +kernel))) rfl
theorem m_6_219 : Cond.methodLink RL 191 yX11_begin ∈ TB := tb_mem (tb_6 (List.mem_of_getElem? (i := 219) (by decide +kernel))) rfl
theorem m_6_220 : Cond.instanceMethod yX11_begin ∈ TB := tb_mem (tb_6 (List.mem_of_getElem? (i := 220) (by decide +kernel))) rfl
theorem m_6_221 : Cond.selects RX11 yX11_begin yX11_begin ∈ TB := tb_mem (tb_6 (List.mem_of_getElem? (i := 221) (by decide +kernel))) rfl
theorem m_6_222 : Cond.code yX11_begin cX11_begin 6 (some .int) ∈ TB := tb_mem (tb_6 (List.mem_of_getElem? (i := 222) (by decide +kernel))) rfl
theorem m_6_223 : Cond.methodLink RL 195 yX11_step ∈ TB := tb_mem (tb_6 (List.mem_of_getElem? (i := 223) (by decide +kernel))) rfl
theorem m_6_224 : Cond.instanceMethod yX11_step ∈ TB := tb_mem (tb_6 (List.mem_of_getElem? (i := 224) (by decide +kernel))) rfl
theorem m_6_225 : Cond.selects RX11 yX11_step yX11_step ∈ TB := tb_mem (tb_6 (List.mem_of_getElem? (i := 225) (by decide +kernel))) rfl
theorem m_6_226 : Cond.code yX11_step cX11_step 9 (some .int) ∈ TB := tb_mem (tb_6 (List.mem_of_getElem? (i := 226) (by decide +kernel))) rfl
theorem m_6_227 : Cond.methodLink RX11 237 yX11_draw ∈ TB := tb_mem (tb_6 (List.mem_of_getElem? (i := 227) (by decide +kernel))) rfl
theorem m_6_229 : Cond.instanceMethod yX11_draw ∈ TB := tb_mem (tb_6 (List.mem_of_getElem? (i := 229) (by decide +kernel))) rfl
theorem m_6_230 : Cond.code yX11_draw cX11_draw 2 (some .int) ∈ TB := tb_mem (tb_6 (List.mem_of_getElem? (i := 230) (by decide +kernel))) rfl
theorem m_6_231 : Cond.constant RX11 236 1103515245 ∈ TB := tb_mem (tb_6 (List.mem_of_getElem? (i := 231) (by decide +kernel))) rfl
theorem m_6_232 : Cond.methodLink RL 199 yX11_under ∈ TB := tb_mem (tb_6 (List.mem_of_getElem? (i := 232) (by decide +kernel))) rfl
theorem m_6_233 : Cond.instanceMethod yX11_under ∈ TB := tb_mem (tb_6 (List.mem_of_getElem? (i := 233) (by decide +kernel))) rfl
theorem m_6_234 : Cond.selects RX11 yX11_under yX11_under ∈ TB := tb_mem (tb_6 (List.mem_of_getElem? (i := 234) (by decide +kernel))) rfl
theorem m_6_235 : Cond.code yX11_under cX11_under 2 (some .int) ∈ TB := tb_mem (tb_6 (List.mem_of_getElem? (i := 235) (by decide +kernel))) rfl
theorem m_6_236 : Cond.methodLink RL 203 yX11_image ∈ TB := tb_mem (tb_6 (List.mem_of_getElem? (i := 236) (by decide +kernel))) rfl
theorem m_6_237 : Cond.instanceMethod yX11_image ∈ TB := tb_mem (tb_6 (List.mem_of_getElem? (i := 237) (by decide +kernel))) rfl
theorem m_6_238 : Cond.selects RX11 yX11_image yX11_image ∈ TB := tb_mem (tb_6 (List.mem_of_getElem? (i := 238) (by decide +kernel))) rfl
theorem m_6_239 : Cond.code yX11_image cX11_image 1 (some .int) ∈ TB := tb_mem (tb_6 (List.mem_of_getElem? (i := 239) (by decide +kernel))) rfl
theorem m_7_0 : Cond.methodLink RX11 244 yX11_moveAll ∈ TB := tb_mem (tb_7 (List.mem_of_getElem? (i := 0) (by decide +kernel))) rfl
theorem m_7_2 : Cond.instanceMethod yX11_moveAll ∈ TB := tb_mem (tb_7 (List.mem_of_getElem? (i := 2) (by decide +kernel))) rfl
theorem m_7_3 : Cond.code yX11_moveAll cX11_moveAll 3 none ∈ TB := tb_mem (tb_7 (List.mem_of_getElem? (i := 3) (by decide +kernel))) rfl
theorem m_7_4 : Cond.methodLink RX11 240 yX11_move ∈ TB := tb_mem (tb_7 (List.mem_of_getElem? (i := 4) (by decide +kernel))) rfl
theorem m_7_6 : Cond.instanceMethod yX11_move ∈ TB := tb_mem (tb_7 (List.mem_of_getElem? (i := 6) (by decide +kernel))) rfl
theorem m_7_7 : Cond.code yX11_move cX11_move 5 (some .int) ∈ TB := tb_mem (tb_7 (List.mem_of_getElem? (i := 7) (by decide +kernel))) rfl
theorem m_7_8 : Cond.methodLink RL 207 yX11_back ∈ TB := tb_mem (tb_7 (List.mem_of_getElem? (i := 8) (by decide +kernel))) rfl
theorem m_7_9 : Cond.instanceMethod yX11_back ∈ TB := tb_mem (tb_7 (List.mem_of_getElem? (i := 9) (by decide +kernel))) rfl
theorem m_7_10 : Cond.selects RX11 yX11_back yX11_back ∈ TB := tb_mem (tb_7 (List.mem_of_getElem? (i := 10) (by decide +kernel))) rfl
theorem m_7_11 : Cond.code yX11_back cX11_back 2 (some .int) ∈ TB := tb_mem (tb_7 (List.mem_of_getElem? (i := 11) (by decide +kernel))) rfl
theorem m_7_12 : Cond.methodLink RL 211 yX11_status ∈ TB := tb_mem (tb_7 (List.mem_of_getElem? (i := 12) (by decide +kernel))) rfl
theorem m_7_13 : Cond.instanceMethod yX11_status ∈ TB := tb_mem (tb_7 (List.mem_of_getElem? (i := 13) (by decide +kernel))) rfl
theorem m_7_14 : Cond.selects RX11 yX11_status yX11_status ∈ TB := tb_mem (tb_7 (List.mem_of_getElem? (i := 14) (by decide +kernel))) rfl
theorem m_7_15 : Cond.code yX11_status cX11_status 4 (some .int) ∈ TB := tb_mem (tb_7 (List.mem_of_getElem? (i := 15) (by decide +kernel))) rfl
theorem m_7_16 : Cond.constantLong RL 18 4294967295 ∈ TB := tb_mem (tb_7 (List.mem_of_getElem? (i := 16) (by decide +kernel))) rfl
theorem m_7_17 : Cond.fieldLink RJ0 9 RJ0 "value" "[B" ∈ TB := tb_mem (tb_7 (List.mem_of_getElem? (i := 17) (by decide +kernel))) rfl
theorem m_7_18 : Cond.fieldLink RJ0 15 RJ0 "coder" "B" ∈ TB := tb_mem (tb_7 (List.mem_of_getElem? (i := 18) (by decide +kernel))) rfl
theorem m_0_0 : Cond.selects RX10 yX10_refuse yX10_refuse ∈ TB := tb_mem (tb_0 (List.mem_of_getElem? (i := 0) (by decide +kernel))) rfl
theorem m_0_1 : Cond.selects RX10 yX10_rowTrouble yX10_rowTrouble ∈ TB := tb_mem (tb_0 (List.mem_of_getElem? (i := 1) (by decide +kernel))) rfl
theorem m_0_2 : Cond.selects RX5 yX5_lowestBits yX5_lowestBits ∈ TB := tb_mem (tb_0 (List.mem_of_getElem? (i := 2) (by decide +kernel))) rfl
theorem m_0_3 : Cond.selects RX10 yX10_isJetty yX10_isJetty ∈ TB := tb_mem (tb_0 (List.mem_of_getElem? (i := 3) (by decide +kernel))) rfl
theorem m_0_4 : Cond.selects RX10 yX10_saying yX10_saying ∈ TB := tb_mem (tb_0 (List.mem_of_getElem? (i := 4) (by decide +kernel))) rfl
theorem m_0_5 : Cond.selects RX1 yX1_deck yX1_deck ∈ TB := tb_mem (tb_0 (List.mem_of_getElem? (i := 5) (by decide +kernel))) rfl
theorem m_0_6 : Cond.selects RX1 yX1_lawValue yX1_lawValue ∈ TB := tb_mem (tb_0 (List.mem_of_getElem? (i := 6) (by decide +kernel))) rfl
theorem m_0_7 : Cond.selects RX6 yX6_skipBlanks yX6_skipBlanks ∈ TB := tb_mem (tb_0 (List.mem_of_getElem? (i := 7) (by decide +kernel))) rfl
theorem m_0_8 : Cond.selects RX6 yX6_readWord yX6_readWord ∈ TB := tb_mem (tb_0 (List.mem_of_getElem? (i := 8) (by decide +kernel))) rfl
theorem m_0_9 : Cond.selects RX6 yX6_endOfRun yX6_endOfRun ∈ TB := tb_mem (tb_0 (List.mem_of_getElem? (i := 9) (by decide +kernel))) rfl
theorem m_0_10 : Cond.selects RX6 yX6_stands yX6_stands ∈ TB := tb_mem (tb_0 (List.mem_of_getElem? (i := 10) (by decide +kernel))) rfl
theorem m_0_11 : Cond.selects RX6 yX6_readNumber yX6_readNumber ∈ TB := tb_mem (tb_0 (List.mem_of_getElem? (i := 11) (by decide +kernel))) rfl
theorem m_0_12 : Cond.selects RX10 yX10_isLaw yX10_isLaw ∈ TB := tb_mem (tb_0 (List.mem_of_getElem? (i := 12) (by decide +kernel))) rfl
theorem m_0_13 : Cond.selects RX10 yX10_isLeaper yX10_isLeaper ∈ TB := tb_mem (tb_0 (List.mem_of_getElem? (i := 13) (by decide +kernel))) rfl
theorem m_0_14 : Cond.selects RX10 yX10_roundTrouble yX10_roundTrouble ∈ TB := tb_mem (tb_0 (List.mem_of_getElem? (i := 14) (by decide +kernel))) rfl
theorem m_0_15 : Cond.selects RX10 yX10_tellsJetties yX10_tellsJetties ∈ TB := tb_mem (tb_0 (List.mem_of_getElem? (i := 15) (by decide +kernel))) rfl
theorem m_0_16 : Cond.selects RX10 yX10_readTour yX10_readTour ∈ TB := tb_mem (tb_0 (List.mem_of_getElem? (i := 16) (by decide +kernel))) rfl
theorem m_0_17 : Cond.selects RX10 yX10_isSet yX10_isSet ∈ TB := tb_mem (tb_0 (List.mem_of_getElem? (i := 17) (by decide +kernel))) rfl
theorem m_0_18 : Cond.selects RX4 yX4_keep yX4_keep ∈ TB := tb_mem (tb_0 (List.mem_of_getElem? (i := 18) (by decide +kernel))) rfl
theorem m_0_19 : Cond.selects RX4 yX4_isBetter yX4_isBetter ∈ TB := tb_mem (tb_0 (List.mem_of_getElem? (i := 19) (by decide +kernel))) rfl
theorem m_0_20 : Cond.selects RX10 yX10_isInSet yX10_isInSet ∈ TB := tb_mem (tb_0 (List.mem_of_getElem? (i := 20) (by decide +kernel))) rfl
theorem m_0_21 : Cond.selects RX7 yX7_readRisks yX7_readRisks ∈ TB := tb_mem (tb_0 (List.mem_of_getElem? (i := 21) (by decide +kernel))) rfl
theorem m_0_22 : Cond.selects RX10 yX10_lowestLetter yX10_lowestLetter ∈ TB := tb_mem (tb_0 (List.mem_of_getElem? (i := 22) (by decide +kernel))) rfl
theorem m_0_23 : Cond.selects RX10 yX10_takeLetters yX10_takeLetters ∈ TB := tb_mem (tb_0 (List.mem_of_getElem? (i := 23) (by decide +kernel))) rfl
theorem m_0_24 : Cond.selects RX1 yX1_drawBelow yX1_drawBelow ∈ TB := tb_mem (tb_0 (List.mem_of_getElem? (i := 24) (by decide +kernel))) rfl
theorem m_0_25 : Cond.selects RX1 yX1_becomeCounted yX1_becomeCounted ∈ TB := tb_mem (tb_0 (List.mem_of_getElem? (i := 25) (by decide +kernel))) rfl
theorem m_0_26 : Cond.selects RX10 yX10_shelvesInUse yX10_shelvesInUse ∈ TB := tb_mem (tb_0 (List.mem_of_getElem? (i := 26) (by decide +kernel))) rfl
theorem m_0_27 : Cond.selects RX11 yX11_isShelf yX11_isShelf ∈ TB := tb_mem (tb_0 (List.mem_of_getElem? (i := 27) (by decide +kernel))) rfl
theorem m_0_28 : Cond.selects RX11 yX11_no yX11_no ∈ TB := tb_mem (tb_0 (List.mem_of_getElem? (i := 28) (by decide +kernel))) rfl
theorem m_0_29 : Cond.selects RX11 yX11_noRow yX11_noRow ∈ TB := tb_mem (tb_0 (List.mem_of_getElem? (i := 29) (by decide +kernel))) rfl
theorem m_0_30 : Cond.selects RX11 yX11_holdsJetty yX11_holdsJetty ∈ TB := tb_mem (tb_0 (List.mem_of_getElem? (i := 30) (by decide +kernel))) rfl
theorem m_0_31 : Cond.selects RX11 yX11_isRow yX11_isRow ∈ TB := tb_mem (tb_0 (List.mem_of_getElem? (i := 31) (by decide +kernel))) rfl
theorem m_0_32 : Cond.selects RX11 yX11_isJetty yX11_isJetty ∈ TB := tb_mem (tb_0 (List.mem_of_getElem? (i := 32) (by decide +kernel))) rfl
theorem m_0_33 : Cond.selects RX11 yX11_isUnder yX11_isUnder ∈ TB := tb_mem (tb_0 (List.mem_of_getElem? (i := 33) (by decide +kernel))) rfl
theorem m_0_34 : Cond.selects RX11 yX11_paces yX11_paces ∈ TB := tb_mem (tb_0 (List.mem_of_getElem? (i := 34) (by decide +kernel))) rfl
theorem m_0_35 : Cond.selects RX11 yX11_riseAt yX11_riseAt ∈ TB := tb_mem (tb_0 (List.mem_of_getElem? (i := 35) (by decide +kernel))) rfl
theorem m_0_36 : Cond.selects RX11 yX11_isSpot yX11_isSpot ∈ TB := tb_mem (tb_0 (List.mem_of_getElem? (i := 36) (by decide +kernel))) rfl
theorem m_0_37 : Cond.selects RX11 yX11_isOut yX11_isOut ∈ TB := tb_mem (tb_0 (List.mem_of_getElem? (i := 37) (by decide +kernel))) rfl
theorem m_0_38 : Cond.selects RX11 yX11_deck yX11_deck ∈ TB := tb_mem (tb_0 (List.mem_of_getElem? (i := 38) (by decide +kernel))) rfl
theorem m_0_39 : Cond.selects RX11 yX11_isTime yX11_isTime ∈ TB := tb_mem (tb_0 (List.mem_of_getElem? (i := 39) (by decide +kernel))) rfl
theorem m_0_40 : Cond.selects RX11 yX11_says_ yX11_says_ ∈ TB := tb_mem (tb_0 (List.mem_of_getElem? (i := 40) (by decide +kernel))) rfl
theorem m_0_41 : Cond.selects RX11 yX11_first yX11_first ∈ TB := tb_mem (tb_0 (List.mem_of_getElem? (i := 41) (by decide +kernel))) rfl
theorem m_0_42 : Cond.selects RX11 yX11_isTimeAt yX11_isTimeAt ∈ TB := tb_mem (tb_0 (List.mem_of_getElem? (i := 42) (by decide +kernel))) rfl
theorem m_0_43 : Cond.selects RX11 yX11_isLevel yX11_isLevel ∈ TB := tb_mem (tb_0 (List.mem_of_getElem? (i := 43) (by decide +kernel))) rfl
theorem m_0_44 : Cond.selects RX11 yX11_isHour yX11_isHour ∈ TB := tb_mem (tb_0 (List.mem_of_getElem? (i := 44) (by decide +kernel))) rfl
theorem m_0_45 : Cond.selects RX11 yX11_read yX11_read ∈ TB := tb_mem (tb_0 (List.mem_of_getElem? (i := 45) (by decide +kernel))) rfl
theorem m_0_46 : Cond.selects RX11 yX11_wordAt yX11_wordAt ∈ TB := tb_mem (tb_0 (List.mem_of_getElem? (i := 46) (by decide +kernel))) rfl
theorem m_0_47 : Cond.selects RX11 yX11_is yX11_is ∈ TB := tb_mem (tb_0 (List.mem_of_getElem? (i := 47) (by decide +kernel))) rfl
theorem m_0_48 : Cond.selects RX11 yX11_mayBe yX11_mayBe ∈ TB := tb_mem (tb_0 (List.mem_of_getElem? (i := 48) (by decide +kernel))) rfl
theorem m_0_49 : Cond.selects RX11 yX11_isLaw yX11_isLaw ∈ TB := tb_mem (tb_0 (List.mem_of_getElem? (i := 49) (by decide +kernel))) rfl
theorem m_0_50 : Cond.selects RX11 yX11_isLeaper yX11_isLeaper ∈ TB := tb_mem (tb_0 (List.mem_of_getElem? (i := 50) (by decide +kernel))) rfl
theorem m_0_51 : Cond.selects RX11 yX11_learntBy yX11_learntBy ∈ TB := tb_mem (tb_0 (List.mem_of_getElem? (i := 51) (by decide +kernel))) rfl
theorem m_0_52 : Cond.selects RX11 yX11_riskOf yX11_riskOf ∈ TB := tb_mem (tb_0 (List.mem_of_getElem? (i := 52) (by decide +kernel))) rfl
theorem m_0_53 : Cond.selects RX11 yX11_legOf yX11_legOf ∈ TB := tb_mem (tb_0 (List.mem_of_getElem? (i := 53) (by decide +kernel))) rfl
theorem m_0_54 : Cond.selects RX11 yX11_legAt yX11_legAt ∈ TB := tb_mem (tb_0 (List.mem_of_getElem? (i := 54) (by decide +kernel))) rfl
theorem m_0_55 : Cond.selects RX11 yX11_take yX11_take ∈ TB := tb_mem (tb_0 (List.mem_of_getElem? (i := 55) (by decide +kernel))) rfl
theorem m_0_56 : Cond.selects RX11 yX11_riskOfTour yX11_riskOfTour ∈ TB := tb_mem (tb_0 (List.mem_of_getElem? (i := 56) (by decide +kernel))) rfl
theorem m_0_57 : Cond.selects RX11 yX11_hourOf yX11_hourOf ∈ TB := tb_mem (tb_0 (List.mem_of_getElem? (i := 57) (by decide +kernel))) rfl
theorem m_0_58 : Cond.selects RX11 yX11_endOfTour yX11_endOfTour ∈ TB := tb_mem (tb_0 (List.mem_of_getElem? (i := 58) (by decide +kernel))) rfl
theorem m_0_59 : Cond.selects RX11 yX11_membersOf yX11_membersOf ∈ TB := tb_mem (tb_0 (List.mem_of_getElem? (i := 59) (by decide +kernel))) rfl
theorem m_0_60 : Cond.selects RX11 yX11_nextOrder yX11_nextOrder ∈ TB := tb_mem (tb_0 (List.mem_of_getElem? (i := 60) (by decide +kernel))) rfl
theorem m_0_61 : Cond.selects RX11 yX11_isFall yX11_isFall ∈ TB := tb_mem (tb_0 (List.mem_of_getElem? (i := 61) (by decide +kernel))) rfl
theorem m_0_62 : Cond.selects RX11 yX11_draw yX11_draw ∈ TB := tb_mem (tb_0 (List.mem_of_getElem? (i := 62) (by decide +kernel))) rfl
theorem m_0_63 : Cond.selects RX11 yX11_moveAll yX11_moveAll ∈ TB := tb_mem (tb_0 (List.mem_of_getElem? (i := 63) (by decide +kernel))) rfl
theorem m_0_64 : Cond.selects RX11 yX11_move yX11_move ∈ TB := tb_mem (tb_0 (List.mem_of_getElem? (i := 64) (by decide +kernel))) rfl
theorem inX0 : ∀ w ∈ u_ws RX0 TX0 5, w ∈ TB := by
  show ∀ w ∈ [u_lay RX0 TX0 0, u_lay RX0 TX0 1, u_lay RX0 TX0 2, u_lay RX0 TX0 3, u_lay RX0 TX0 4], w ∈ TB
  exact List.forall_mem_cons.mpr ⟨m_1_123, List.forall_mem_cons.mpr ⟨m_1_125, List.forall_mem_cons.mpr ⟨m_1_127, List.forall_mem_cons.mpr ⟨m_1_129, List.forall_mem_cons.mpr ⟨m_1_131, fun _ h => absurd h List.not_mem_nil⟩⟩⟩⟩⟩
theorem inX1 : ∀ w ∈ u_ws RX1 TX1 16, w ∈ TB := by
  show ∀ w ∈ [u_lay RX1 TX1 0, u_lay RX1 TX1 1, u_lay RX1 TX1 2, u_lay RX1 TX1 3, u_lay RX1 TX1 4, u_lay RX1 TX1 5, u_lay RX1 TX1 6, u_lay RX1 TX1 7, u_lay RX1 TX1 8, u_lay RX1 TX1 9, u_lay RX1 TX1 10, u_lay RX1 TX1 11, u_lay RX1 TX1 12, u_lay RX1 TX1 13, u_lay RX1 TX1 14, u_lay RX1 TX1 15], w ∈ TB
  exact List.forall_mem_cons.mpr ⟨m_1_211, List.forall_mem_cons.mpr ⟨m_1_213, List.forall_mem_cons.mpr ⟨m_1_215, List.forall_mem_cons.mpr ⟨m_1_217, List.forall_mem_cons.mpr ⟨m_1_219, List.forall_mem_cons.mpr ⟨m_1_221, List.forall_mem_cons.mpr ⟨m_1_223, List.forall_mem_cons.mpr ⟨m_1_225, List.forall_mem_cons.mpr ⟨m_1_227, List.forall_mem_cons.mpr ⟨m_1_229, List.forall_mem_cons.mpr ⟨m_1_231, List.forall_mem_cons.mpr ⟨m_1_233, List.forall_mem_cons.mpr ⟨m_1_235, List.forall_mem_cons.mpr ⟨m_1_237, List.forall_mem_cons.mpr ⟨m_1_239, List.forall_mem_cons.mpr ⟨m_2_1, fun _ h => absurd h List.not_mem_nil⟩⟩⟩⟩⟩⟩⟩⟩⟩⟩⟩⟩⟩⟩⟩⟩
theorem inX2 : ∀ w ∈ u_ws RX2 TX2 1, w ∈ TB := by
  show ∀ w ∈ [u_lay RX2 TX2 0], w ∈ TB
  exact List.forall_mem_cons.mpr ⟨m_1_152, fun _ h => absurd h List.not_mem_nil⟩
theorem inX3 : ∀ w ∈ u_ws RX3 TX3 3, w ∈ TB := by
  show ∀ w ∈ [u_lay RX3 TX3 0, u_lay RX3 TX3 1, u_lay RX3 TX3 2], w ∈ TB
  exact List.forall_mem_cons.mpr ⟨m_1_167, List.forall_mem_cons.mpr ⟨m_1_169, List.forall_mem_cons.mpr ⟨m_1_171, fun _ h => absurd h List.not_mem_nil⟩⟩⟩
theorem inX4 : ∀ w ∈ u_ws RX4 TX4 10, w ∈ TB := by
  show ∀ w ∈ [u_lay RX4 TX4 0, u_lay RX4 TX4 1, u_lay RX4 TX4 2, u_lay RX4 TX4 3, u_lay RX4 TX4 4, u_lay RX4 TX4 5, u_lay RX4 TX4 6, u_lay RX4 TX4 7, u_lay RX4 TX4 8, u_lay RX4 TX4 9], w ∈ TB
  exact List.forall_mem_cons.mpr ⟨m_2_43, List.forall_mem_cons.mpr ⟨m_2_45, List.forall_mem_cons.mpr ⟨m_2_47, List.forall_mem_cons.mpr ⟨m_2_49, List.forall_mem_cons.mpr ⟨m_2_51, List.forall_mem_cons.mpr ⟨m_2_53, List.forall_mem_cons.mpr ⟨m_2_55, List.forall_mem_cons.mpr ⟨m_2_57, List.forall_mem_cons.mpr ⟨m_2_59, List.forall_mem_cons.mpr ⟨m_2_61, fun _ h => absurd h List.not_mem_nil⟩⟩⟩⟩⟩⟩⟩⟩⟩⟩
theorem inX5 : ∀ w ∈ u_ws RX5 TX5 4, w ∈ TB := by
  show ∀ w ∈ [u_lay RX5 TX5 0, u_lay RX5 TX5 1, u_lay RX5 TX5 2, u_lay RX5 TX5 3], w ∈ TB
  exact List.forall_mem_cons.mpr ⟨m_2_116, List.forall_mem_cons.mpr ⟨m_2_118, List.forall_mem_cons.mpr ⟨m_2_120, List.forall_mem_cons.mpr ⟨m_2_122, fun _ h => absurd h List.not_mem_nil⟩⟩⟩⟩
theorem inX6 : ∀ w ∈ u_ws RX6 TX6 3, w ∈ TB := by
  show ∀ w ∈ [u_lay RX6 TX6 0, u_lay RX6 TX6 1, u_lay RX6 TX6 2], w ∈ TB
  exact List.forall_mem_cons.mpr ⟨m_1_40, List.forall_mem_cons.mpr ⟨m_1_42, List.forall_mem_cons.mpr ⟨m_1_44, fun _ h => absurd h List.not_mem_nil⟩⟩⟩
theorem inX7 : ∀ w ∈ u_ws RX7 TX7 10, w ∈ TB := by
  show ∀ w ∈ [u_lay RX7 TX7 0, u_lay RX7 TX7 1, u_lay RX7 TX7 2, u_lay RX7 TX7 3, u_lay RX7 TX7 4, u_lay RX7 TX7 5, u_lay RX7 TX7 6, u_lay RX7 TX7 7, u_lay RX7 TX7 8, u_lay RX7 TX7 9], w ∈ TB
  exact List.forall_mem_cons.mpr ⟨m_2_82, List.forall_mem_cons.mpr ⟨m_2_84, List.forall_mem_cons.mpr ⟨m_2_86, List.forall_mem_cons.mpr ⟨m_2_88, List.forall_mem_cons.mpr ⟨m_2_90, List.forall_mem_cons.mpr ⟨m_2_92, List.forall_mem_cons.mpr ⟨m_2_94, List.forall_mem_cons.mpr ⟨m_2_96, List.forall_mem_cons.mpr ⟨m_2_98, List.forall_mem_cons.mpr ⟨m_2_100, fun _ h => absurd h List.not_mem_nil⟩⟩⟩⟩⟩⟩⟩⟩⟩⟩
theorem inX8 : ∀ w ∈ u_ws RX8 TX8 3, w ∈ TB := by
  show ∀ w ∈ [u_lay RX8 TX8 0, u_lay RX8 TX8 1, u_lay RX8 TX8 2], w ∈ TB
  exact List.forall_mem_cons.mpr ⟨m_2_17, List.forall_mem_cons.mpr ⟨m_2_19, List.forall_mem_cons.mpr ⟨m_2_21, fun _ h => absurd h List.not_mem_nil⟩⟩⟩
theorem inX9 : ∀ w ∈ u_ws RX9 TX9 8, w ∈ TB := by
  show ∀ w ∈ [u_lay RX9 TX9 0, u_lay RX9 TX9 1, u_lay RX9 TX9 2, u_lay RX9 TX9 3, u_lay RX9 TX9 4, u_lay RX9 TX9 5, u_lay RX9 TX9 6, u_lay RX9 TX9 7], w ∈ TB
  exact List.forall_mem_cons.mpr ⟨m_1_86, List.forall_mem_cons.mpr ⟨m_1_88, List.forall_mem_cons.mpr ⟨m_1_90, List.forall_mem_cons.mpr ⟨m_1_92, List.forall_mem_cons.mpr ⟨m_1_94, List.forall_mem_cons.mpr ⟨m_1_96, List.forall_mem_cons.mpr ⟨m_1_98, List.forall_mem_cons.mpr ⟨m_1_100, fun _ h => absurd h List.not_mem_nil⟩⟩⟩⟩⟩⟩⟩⟩
theorem inX10 : ∀ w ∈ u_ws RX10 TX10 11, w ∈ TB := by
  show ∀ w ∈ [u_lay RX10 TX10 0, u_lay RX10 TX10 1, u_lay RX10 TX10 2, u_lay RX10 TX10 3, u_lay RX10 TX10 4, u_lay RX10 TX10 5, u_lay RX10 TX10 6, u_lay RX10 TX10 7, u_lay RX10 TX10 8, u_lay RX10 TX10 9, u_lay RX10 TX10 10], w ∈ TB
  exact List.forall_mem_cons.mpr ⟨m_2_137, List.forall_mem_cons.mpr ⟨m_2_139, List.forall_mem_cons.mpr ⟨m_2_141, List.forall_mem_cons.mpr ⟨m_2_143, List.forall_mem_cons.mpr ⟨m_2_145, List.forall_mem_cons.mpr ⟨m_2_147, List.forall_mem_cons.mpr ⟨m_2_149, List.forall_mem_cons.mpr ⟨m_2_151, List.forall_mem_cons.mpr ⟨m_2_153, List.forall_mem_cons.mpr ⟨m_2_155, List.forall_mem_cons.mpr ⟨m_2_157, fun _ h => absurd h List.not_mem_nil⟩⟩⟩⟩⟩⟩⟩⟩⟩⟩⟩
theorem inX11 : ∀ w ∈ u_ws RX11 TX11 28, w ∈ TB := by
  show ∀ w ∈ [u_lay RX11 TX11 0, u_lay RX11 TX11 1, u_lay RX11 TX11 2, u_lay RX11 TX11 3, u_lay RX11 TX11 4, u_lay RX11 TX11 5, u_lay RX11 TX11 6, u_lay RX11 TX11 7, u_lay RX11 TX11 8, u_lay RX11 TX11 9, u_lay RX11 TX11 10, u_lay RX11 TX11 11, u_lay RX11 TX11 12, u_lay RX11 TX11 13, u_lay RX11 TX11 14, u_lay RX11 TX11 15, u_lay RX11 TX11 16, u_lay RX11 TX11 17, u_lay RX11 TX11 18, u_lay RX11 TX11 19, u_lay RX11 TX11 20, u_lay RX11 TX11 21, u_lay RX11 TX11 22, u_lay RX11 TX11 23, u_lay RX11 TX11 24, u_lay RX11 TX11 25, u_lay RX11 TX11 26, u_lay RX11 TX11 27], w ∈ TB
  exact List.forall_mem_cons.mpr ⟨m_5_85, List.forall_mem_cons.mpr ⟨m_5_87, List.forall_mem_cons.mpr ⟨m_5_89, List.forall_mem_cons.mpr ⟨m_5_91, List.forall_mem_cons.mpr ⟨m_5_93, List.forall_mem_cons.mpr ⟨m_5_95, List.forall_mem_cons.mpr ⟨m_5_97, List.forall_mem_cons.mpr ⟨m_5_99, List.forall_mem_cons.mpr ⟨m_5_101, List.forall_mem_cons.mpr ⟨m_5_103, List.forall_mem_cons.mpr ⟨m_5_105, List.forall_mem_cons.mpr ⟨m_5_107, List.forall_mem_cons.mpr ⟨m_5_109, List.forall_mem_cons.mpr ⟨m_5_111, List.forall_mem_cons.mpr ⟨m_5_113, List.forall_mem_cons.mpr ⟨m_5_115, List.forall_mem_cons.mpr ⟨m_5_117, List.forall_mem_cons.mpr ⟨m_5_119, List.forall_mem_cons.mpr ⟨m_5_121, List.forall_mem_cons.mpr ⟨m_5_123, List.forall_mem_cons.mpr ⟨m_5_125, List.forall_mem_cons.mpr ⟨m_5_127, List.forall_mem_cons.mpr ⟨m_5_129, List.forall_mem_cons.mpr ⟨m_5_131, List.forall_mem_cons.mpr ⟨m_5_133, List.forall_mem_cons.mpr ⟨m_5_135, List.forall_mem_cons.mpr ⟨m_5_137, List.forall_mem_cons.mpr ⟨m_5_139, fun _ h => absurd h List.not_mem_nil⟩⟩⟩⟩⟩⟩⟩⟩⟩⟩⟩⟩⟩⟩⟩⟩⟩⟩⟩⟩⟩⟩⟩⟩⟩⟩⟩⟩
