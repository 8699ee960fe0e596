set_option maxRecDepth 100000 in
set_option maxHeartbeats 4000000 in
theorem tc_status {l : Launch} {D : va_G} {cy : Nat → ClassId} {ad : Nat → Nat} {N : Mem} (M : Mem) (a1 : Int32) {x : Int32} (h : fc_status M a1 = some x) : Mt l D cy ad yX10_status cX10_status 2 (some .int) 3 [.ref (ad 0), .int a1] ((wfC N) M) (some (.int x), (wfC N) M) := by
  refine met_of (fin := (finI M)) (lv0 := [(0, .ref (ad 0)), (1, .int a1)]) (by decide) (Nat.le_of_ble_eq_true rfl) rfl (lC N) h (fun p e s m args below meth c X hr => ?_)
  unfold fc_status
  refine g_iload_n X dX10_status_0 1 rfl rfl ?_
  refine g_ifc X (fun q1_0 => ?_) (fun q1_0 => ?_)
  · refine g_swI X (v0 := 0) (tgt := 52) (off := 51) q1_0 (by decide) (by decide) (by decide) dX10_status_1 ?_
    refine g_aload_n X dX10_status_52 0 rfl rfl ?_
    refine get_10_2 X (k := 0) k_0 s_0 m_2_128 dX10_status_53 ?_
    refine get_1_1 X (k := 20) k_20 s_20 m_1_179 dX10_status_56 ?_
    exact g_iret X hr rfl dX10_status_59
  ·
    refine g_ifc X (fun q1_1 => ?_) (fun q1_1 => ?_)
    · refine g_swI X (v0 := 1) (tgt := 60) (off := 59) q1_1 (by decide) (by decide) (by decide) dX10_status_1 ?_
      refine g_aload_n X dX10_status_60 0 rfl rfl ?_
      refine get_10_2 X (k := 0) k_0 s_0 m_2_128 dX10_status_61 ?_
      refine get_1_3 X (k := 20) k_20 s_20 m_1_183 dX10_status_64 ?_
      exact g_iret X hr rfl dX10_status_67
    ·
      refine g_ifc X (fun q1_2 => ?_) (fun q1_2 => ?_)
      · refine g_swI X (v0 := 2) (tgt := 68) (off := 67) q1_2 (by decide) (by decide) (by decide) dX10_status_1 ?_
        refine g_aload_n X dX10_status_68 0 rfl rfl ?_
        refine get_10_2 X (k := 0) k_0 s_0 m_2_128 dX10_status_69 ?_
        refine get_1_6 X (k := 20) k_20 s_20 m_1_190 dX10_status_72 ?_
        exact g_iret X hr rfl dX10_status_75
      ·
        refine g_ifc X (fun q1_3 => ?_) (fun q1_3 => ?_)
        · refine g_swI X (v0 := 3) (tgt := 76) (off := 75) q1_3 (by decide) (by decide) (by decide) dX10_status_1 ?_
          refine g_aload_n X dX10_status_76 0 rfl rfl ?_
          refine get_10_2 X (k := 0) k_0 s_0 m_2_128 dX10_status_77 ?_
          refine get_1_9 X (k := 20) k_20 s_20 m_1_196 dX10_status_80 ?_
          exact g_iret X hr rfl dX10_status_83
        ·
          refine g_ifc X (fun q1_4 => ?_) (fun q1_4 => ?_)
          · refine g_swI X (v0 := 4) (tgt := 84) (off := 83) q1_4 (by decide) (by decide) (by decide) dX10_status_1 ?_
            refine g_aload_n X dX10_status_84 0 rfl rfl ?_
            refine get_10_1 X (k := 0) k_0 s_0 m_2_127 dX10_status_85 ?_
            refine get_6_1 X (k := 18) k_18 s_18 m_1_38 dX10_status_88 ?_
            exact g_iret X hr rfl dX10_status_91
          ·
            refine g_ifc X (fun q1_5 => ?_) (fun q1_5 => ?_)
            · refine g_swI X (v0 := 5) (tgt := 92) (off := 91) q1_5 (by decide) (by decide) (by decide) dX10_status_1 ?_
              refine g_aload_n X dX10_status_92 0 rfl rfl ?_
              refine get_10_2 X (k := 0) k_0 s_0 m_2_128 dX10_status_93 ?_
              refine get_1_14 X (k := 20) k_20 s_20 m_1_208 dX10_status_96 ?_
              exact g_iret X hr rfl dX10_status_99
            ·
              refine g_ifc X (fun q1_6 => ?_) (fun q1_6 => ?_)
              · refine g_swI X (v0 := 6) (tgt := 100) (off := 99) q1_6 (by decide) (by decide) (by decide) dX10_status_1 ?_
                refine g_aload_n X dX10_status_100 0 rfl rfl ?_
                refine g_ci X (st := []) (fun _ hh => ok_V X (k0 := 0) (As := []) wkX10_shelvesInUse (tc_shelvesInUse M hh) rfl k_0 s_0 (by decide) rfl m_5_47 rfl (hRm (by decide) (by decide)) ⟨Nat.zero_le _, Nat.zero_le _⟩ (Nat.le_of_ble_eq_true rfl) dX10_status_101) (fun r1 _ => ?_)
                exact g_iret X hr rfl dX10_status_104
              ·
                refine g_ifc X (fun q1_7 => ?_) (fun q1_7 => ?_)
                · refine g_swI X (v0 := 7) (tgt := 105) (off := 104) q1_7 (by decide) (by decide) (by decide) dX10_status_1 ?_
                  refine g_aload_n X dX10_status_105 0 rfl rfl ?_
                  refine get_10_2 X (k := 0) k_0 s_0 m_2_128 dX10_status_106 ?_
                  refine get_1_12 X (k := 20) k_20 s_20 m_1_202 dX10_status_109 ?_
                  exact g_iret X hr rfl dX10_status_112
                ·
                  refine g_ifc X (fun q1_8 => ?_) (fun q1_8 => ?_)
                  · refine g_swI X (v0 := 8) (tgt := 113) (off := 112) q1_8 (by decide) (by decide) (by decide) dX10_status_1 ?_
                    refine g_aload_n X dX10_status_113 0 rfl rfl ?_
                    refine get_10_2 X (k := 0) k_0 s_0 m_2_128 dX10_status_114 ?_
                    refine get_1_13 X (k := 20) k_20 s_20 m_1_206 dX10_status_117 ?_
                    exact g_iret X hr rfl dX10_status_120
                  ·
                    refine g_swO X (tgt := 121) dX10_status_1 (fun n h1 h2 hx => by
                        rcases (show n = 0 ∨ n = 1 ∨ n = 2 ∨ n = 3 ∨ n = 4 ∨ n = 5 ∨ n = 6 ∨ n = 7 ∨ n = 8 by omega) with rfl | rfl | rfl | rfl | rfl | rfl | rfl | rfl | rfl
                        · exact absurd hx q1_0
                        · exact absurd hx q1_1
                        · exact absurd hx q1_2
                        · exact absurd hx q1_3
                        · exact absurd hx q1_4
                        · exact absurd hx q1_5
                        · exact absurd hx q1_6
                        · exact absurd hx q1_7
                        · exact absurd hx q1_8) (by decide) ?_
                    refine g_iload_n X dX10_status_121 1 rfl rfl ?_
                    refine g_bipush X dX10_status_122 bi_12 ?_
                    refine g_bipush X dX10_status_124 bi_16 ?_
                    refine g_ct X (v0 := .int (fc_isWithinT M a1 12 16)) (st := []) (ok_S X (As := [.int a1, .int 12, .int 16]) wkX10_isWithin (tc_isWithinT M a1 12 16) rfl m_2_170 rfl (hRm (by decide) (by decide)) ⟨Nat.zero_le _, Nat.zero_le _⟩ (Nat.le_of_ble_eq_true rfl) dX10_status_126) ?_
                    refine g_if_eq X 144 (by decide) dX10_status_129 (fun q129 => ?_) (fun q129 => ?_)
                    · refine g_iconst X dX10_status_144 ic_m1 ?_
                      exact g_iret X hr rfl dX10_status_145
                    · refine g_aload_n X dX10_status_132 0 rfl rfl ?_
                      refine get_10_5 X (k := 0) k_0 s_0 m_2_131 dX10_status_133 ?_
                      refine g_iload_n X dX10_status_136 1 rfl rfl ?_
                      refine g_bipush X dX10_status_137 bi_12 ?_
                      refine g_isub X dX10_status_139 ?_
                      refine g_iald X (n := 5) (k := 118) k_118 s_118 dX10_status_140 (fun h2 => ?_)
                      refine g_goto X 145 (by decide) dX10_status_141 ?_
                      exact g_iret X hr rfl dX10_status_145
set_option maxRecDepth 100000 in
set_option maxHeartbeats 4000000 in
theorem tm_isShelf {l : Launch} {D : va_G} {cy : Nat → ClassId} {ad : Nat → Nat} {N : Mem} (M : Mem) (a1 : Int32) {x : Int32} (h : fm_isShelf M a1 = some x) : Mt l D cy ad yX11_isShelf cX11_isShelf 2 (some .boolean) 1 [.ref (ad 138), .int a1] ((wfM N) M) (some (.int x), (wfM N) M) := by
  refine met_of (fin := (finI M)) (lv0 := [(0, .ref (ad 138)), (1, .int a1)]) (by decide) (Nat.le_of_ble_eq_true rfl) rfl (lM N) h (fun p e s m args below meth c X hr => ?_)
  unfold fm_isShelf
  refine g_iload_n X dX11_isShelf_0 1 rfl rfl ?_
  refine g_if_lt X 14 (by decide) dX11_isShelf_1 (fun q1 => ?_) (fun q1 => ?_)
  · refine g_iconst X dX11_isShelf_14 ic_0 ?_
    exact g_zret X hr (isB_n (by decide)) rfl dX11_isShelf_15
  · refine g_iload_n X dX11_isShelf_4 1 rfl rfl ?_
    refine g_bipush X dX11_isShelf_5 bi_8 ?_
    refine g_icmp_ge X 14 (by decide) dX11_isShelf_7 (fun q7 => ?_) (fun q7 => ?_)
    · refine g_iconst X dX11_isShelf_14 ic_0 ?_
      exact g_zret X hr (isB_n (by decide)) rfl dX11_isShelf_15
    · refine g_iconst X dX11_isShelf_10 ic_1 ?_
      refine g_goto X 15 (by decide) dX11_isShelf_11 ?_
      exact g_zret X hr (isB_n (by decide)) rfl dX11_isShelf_15
theorem tm_isShelfT {l : Launch} {D : va_G} {cy : Nat → ClassId} {ad : Nat → Nat} {N : Mem} (M : Mem) (a1 : Int32) : Mt l D cy ad yX11_isShelf cX11_isShelf 2 (some .boolean) 1 [.ref (ad 138), .int a1] ((wfM N) M) (some (.int (fm_isShelfT M a1)), (wfM N) M) := tm_isShelf M a1 (fm_isShelfE M a1)
set_option maxRecDepth 100000 in
set_option maxHeartbeats 4000000 in
theorem tm_no {l : Launch} {D : va_G} {cy : Nat → ClassId} {ad : Nat → Nat} {N : Mem} (M : Mem) (a1 : Int32) {x : (Int32 × Mem)} (h : fm_no M a1 = some x) : Mt l D cy ad yX11_no cX11_no 2 (some .int) 1 [.ref (ad 138), .int a1] ((wfM N) M) (some (.int x.1), (wfM N) x.2) := by
  refine met_of (fin := finS) (lv0 := [(0, .ref (ad 138)), (1, .int a1)]) (by decide) (Nat.le_of_ble_eq_true rfl) rfl (lM N) h (fun p e s m args below meth c X hr => ?_)
  unfold fm_no
  refine g_aload_n X dX11_no_0 0 rfl rfl ?_
  refine get_11_20 X (k := 138) k_138 s_138 m_5_77 dX11_no_1 ?_
  refine g_iload_n X dX11_no_4 1 rfl rfl ?_
  refine g_ineg X dX11_no_5 ?_
  refine g_dup2 X dX11_no_6 rfl rfl ?_
  refine g_iald X (n := 7) (k := 158) k_158 s_158 dX11_no_7 (fun h1 => ?_)
  refine g_iconst X dX11_no_8 ic_1 ?_
  refine g_iadd X dX11_no_9 ?_
  refine g_iast X (n := 7) (k := 158) k_158 s_158 dX11_no_10 (fun h2 => ?_)
  refine g_mlet X (fun M3 => ?_)
  refine g_iload_n X dX11_no_11 1 rfl rfl ?_
  exact g_iret X hr rfl dX11_no_12
set_option maxRecDepth 100000 in
set_option maxHeartbeats 4000000 in
theorem Lm_row_L54 {l : Launch} {D : va_G} {cy : Nat → ClassId} {ad : Nat → Nat} {N : Mem} {p : Program} {e : Env} {s : State} {m : MethodId} {args : Array Value} {below : List Frame} {meth : Method} {c : Code} (X : Cx p s m args meth c cX11_row 5 RX11 D cy ad (AA ad) (wfM N) sdM) (hr : meth.sig.returnType = (some .int)) (b1 : Int32) : ∀ (n : Nat) (x4 : Int32) (M : Mem), GF p l e (Rm 2) s m args below meth c 5 D cy ad (AA ad) 0 0 (wfM N) (QM D cy ad (wfM N) below args s) finS (fm_row_L54 b1 n x4 M) 54 [(0, .ref (ad 138)), (1, .int b1), (4, .int x4)] [] M := by
  intro n
  induction n with
  | zero => intro x4 M; exact g_none
  | succ n ih =>
    intro x4 M
    rw [fm_row_L54]
    refine g_iload X dX11_row_54 2 rfl ?_
    refine g_bipush X dX11_row_56 bi_40 ?_
    refine g_icmp_ge X 80 (by decide) dX11_row_58 (fun q58 => ?_) (fun q58 => ?_)
    · refine g_iconst X dX11_row_80 ic_1 ?_
      exact g_iret X hr rfl dX11_row_81
    · refine g_aload_n X dX11_row_61 0 rfl rfl ?_
      refine get_11_2 X (k := 138) k_138 s_138 m_5_59 dX11_row_62 ?_
      refine g_bipush X dX11_row_65 bi_40 ?_
      refine g_iload_n X dX11_row_67 1 rfl rfl ?_
      refine g_imul X dX11_row_68 ?_
      refine g_iload X dX11_row_69 2 rfl ?_
      refine g_iadd X dX11_row_71 ?_
      refine g_lconst X (v := 0) dX11_row_72 (by decide) ?_
      refine g_last23 X (k := 141) k_141 s_141 dX11_row_73 (fun h13 => ?_)
      refine g_mlet X (fun M14 => ?_)
      refine g_iinc X (k := 2) (v := (x4 + 1)) dX11_row_74 rfl (ii_1 _) (by decide) rfl [1, 2, 0] (lu := [(0, .ref (ad 138)), (1, .int b1), (4, .int (x4 + 1))]) rfl ?_
      refine g_goto X 54 (by decide) dX11_row_77 ?_
      exact ih (x4 + 1) M14
set_option maxRecDepth 100000 in
set_option maxHeartbeats 4000000 in
theorem tm_row {l : Launch} {D : va_G} {cy : Nat → ClassId} {ad : Nat → Nat} {N : Mem} (M : Mem) (a1 : Int32) (a2 : Int32) (a3 : Int32) {x : (Int32 × Mem)} (h : fm_row M a1 a2 a3 = some x) : Mt l D cy ad yX11_row cX11_row 5 (some .int) 2 [.ref (ad 138), .int a1, .int a2, .int a3] ((wfM N) M) (some (.int x.1), (wfM N) x.2) := by
  refine met_of (fin := finS) (lv0 := [(0, .ref (ad 138)), (1, .int a1), (2, .int a2), (3, .int a3)]) (by decide) (Nat.le_of_ble_eq_true rfl) rfl (lM N) h (fun p e s m args below meth c X hr => ?_)
  unfold fm_row
  refine g_aload_n X dX11_row_0 0 rfl rfl ?_
  refine g_iload_n X dX11_row_1 1 rfl rfl ?_
  refine g_ct X (v0 := .int (fm_isShelfT M a1)) (st := []) (ok_V X (k0 := 138) (As := [.int a1]) wkX11_isShelf (tm_isShelfT M a1) rfl k_138 s_138 (by decide) rfl m_5_146 rfl (hRm (by decide) (by decide)) ⟨Nat.zero_le _, Nat.zero_le _⟩ (Nat.le_of_ble_eq_true rfl) dX11_row_2) ?_
  refine g_if_eq X 27 (by decide) dX11_row_5 (fun q5 => ?_) (fun q5 => ?_)
  · refine g_aload_n X dX11_row_27 0 rfl rfl ?_
    refine g_bipush X dX11_row_28 bi_m2 ?_
    refine g_cs X (st := []) (fun _ hh => ok_V X (k0 := 138) (As := [.int (-2)]) wkX11_no (tm_no M (-2) hh) rfl k_138 s_138 (by decide) rfl m_5_150 rfl (hRm (by decide) (by decide)) ⟨Nat.zero_le _, Nat.zero_le _⟩ (Nat.le_of_ble_eq_true rfl) dX11_row_30) (fun r2 M1 _ => ?_)
    exact g_iret X hr rfl dX11_row_33
  · refine g_iload_n X dX11_row_8 2 rfl rfl ?_
    refine g_if_lt X 27 (by decide) dX11_row_9 (fun q9 => ?_) (fun q9 => ?_)
    · refine g_aload_n X dX11_row_27 0 rfl rfl ?_
      refine g_bipush X dX11_row_28 bi_m2 ?_
      refine g_cs X (st := []) (fun _ hh => ok_V X (k0 := 138) (As := [.int (-2)]) wkX11_no (tm_no M (-2) hh) rfl k_138 s_138 (by decide) rfl m_5_150 rfl (hRm (by decide) (by decide)) ⟨Nat.zero_le _, Nat.zero_le _⟩ (Nat.le_of_ble_eq_true rfl) dX11_row_30) (fun r4 M3 _ => ?_)
      exact g_iret X hr rfl dX11_row_33
    · refine g_iload_n X dX11_row_12 2 rfl rfl ?_
      refine g_iconst X dX11_row_13 ic_4 ?_
      refine g_icmp_gt X 27 (by decide) dX11_row_14 (fun q14 => ?_) (fun q14 => ?_)
      · refine g_aload_n X dX11_row_27 0 rfl rfl ?_
        refine g_bipush X dX11_row_28 bi_m2 ?_
        refine g_cs X (st := []) (fun _ hh => ok_V X (k0 := 138) (As := [.int (-2)]) wkX11_no (tm_no M (-2) hh) rfl k_138 s_138 (by decide) rfl m_5_150 rfl (hRm (by decide) (by decide)) ⟨Nat.zero_le _, Nat.zero_le _⟩ (Nat.le_of_ble_eq_true rfl) dX11_row_30) (fun r6 M5 _ => ?_)
        exact g_iret X hr rfl dX11_row_33
      · refine g_iload_n X dX11_row_17 3 rfl rfl ?_
        refine g_if_lt X 27 (by decide) dX11_row_18 (fun q18 => ?_) (fun q18 => ?_)
        · refine g_aload_n X dX11_row_27 0 rfl rfl ?_
          refine g_bipush X dX11_row_28 bi_m2 ?_
          refine g_cs X (st := []) (fun _ hh => ok_V X (k0 := 138) (As := [.int (-2)]) wkX11_no (tm_no M (-2) hh) rfl k_138 s_138 (by decide) rfl m_5_150 rfl (hRm (by decide) (by decide)) ⟨Nat.zero_le _, Nat.zero_le _⟩ (Nat.le_of_ble_eq_true rfl) dX11_row_30) (fun r8 M7 _ => ?_)
          exact g_iret X hr rfl dX11_row_33
        · refine g_iload_n X dX11_row_21 3 rfl rfl ?_
          refine g_bipush X dX11_row_22 bi_40 ?_
          refine g_icmp_le X 34 (by decide) dX11_row_24 (fun q24 => ?_) (fun q24 => ?_)
          · refine g_aload_n X dX11_row_34 0 rfl rfl ?_
            refine get_11_0 X (k := 138) k_138 s_138 m_5_57 dX11_row_35 ?_
            refine g_iload_n X dX11_row_38 1 rfl rfl ?_
            refine g_bipush X dX11_row_39 bi_100 ?_
            refine g_iload_n X dX11_row_41 2 rfl rfl ?_
            refine g_iadd X dX11_row_42 ?_
            refine g_iast X (n := 8) (k := 139) k_139 s_139 dX11_row_43 (fun h9 => ?_)
            refine g_mlet X (fun M10 => ?_)
            refine g_aload_n X dX11_row_44 0 rfl rfl ?_
            refine get_11_1 X (k := 138) k_138 s_138 m_5_58 dX11_row_45 ?_
            refine g_iload_n X dX11_row_48 1 rfl rfl ?_
            refine g_iload_n X dX11_row_49 3 rfl rfl ?_
            refine g_iast X (n := 8) (k := 140) k_140 s_140 dX11_row_50 (fun h11 => ?_)
            refine g_mlet X (fun M12 => ?_)
            refine g_iconst X dX11_row_51 ic_0 ?_
            refine g_istore X dX11_row_52 (by decide) rfl [1, 2, 0] (lu := [(0, .ref (ad 138)), (1, .int a1), (4, .int 0)]) rfl ?_
            exact Lm_row_L54  X hr a1    FU 0 M12
          · refine g_aload_n X dX11_row_27 0 rfl rfl ?_
            refine g_bipush X dX11_row_28 bi_m2 ?_
            refine g_cs X (st := []) (fun _ hh => ok_V X (k0 := 138) (As := [.int (-2)]) wkX11_no (tm_no M (-2) hh) rfl k_138 s_138 (by decide) rfl m_5_150 rfl (hRm (by decide) (by decide)) ⟨Nat.zero_le _, Nat.zero_le _⟩ (Nat.le_of_ble_eq_true rfl) dX11_row_30) (fun r16 M15 _ => ?_)
            exact g_iret X hr rfl dX11_row_33
set_option maxRecDepth 100000 in
set_option maxHeartbeats 4000000 in
theorem tm_holdsJetty {l : Launch} {D : va_G} {cy : Nat → ClassId} {ad : Nat → Nat} {N : Mem} (M : Mem) (a1 : Int32) {x : Int32} (h : fm_holdsJetty M a1 = some x) : Mt l D cy ad yX11_holdsJetty cX11_holdsJetty 2 (some .boolean) 1 [.ref (ad 138), .int a1] ((wfM N) M) (some (.int x), (wfM N) M) := by
  refine met_of (fin := (finI M)) (lv0 := [(0, .ref (ad 138)), (1, .int a1)]) (by decide) (Nat.le_of_ble_eq_true rfl) rfl (lM N) h (fun p e s m args below meth c X hr => ?_)
  unfold fm_holdsJetty
  refine g_aload_n X dX11_holdsJetty_0 0 rfl rfl ?_
  refine get_11_0 X (k := 138) k_138 s_138 m_5_57 dX11_holdsJetty_1 ?_
  refine g_iload_n X dX11_holdsJetty_4 1 rfl rfl ?_
  refine g_iald X (n := 8) (k := 139) k_139 s_139 dX11_holdsJetty_5 (fun h1 => ?_)
  refine g_if_lt X 24 (by decide) dX11_holdsJetty_6 (fun q6 => ?_) (fun q6 => ?_)
  · refine g_iconst X dX11_holdsJetty_24 ic_0 ?_
    exact g_zret X hr (isB_n (by decide)) rfl dX11_holdsJetty_25
  · refine g_aload_n X dX11_holdsJetty_9 0 rfl rfl ?_
    refine get_11_0 X (k := 138) k_138 s_138 m_5_57 dX11_holdsJetty_10 ?_
    refine g_iload_n X dX11_holdsJetty_13 1 rfl rfl ?_
    refine g_iald X (n := 8) (k := 139) k_139 s_139 dX11_holdsJetty_14 (fun h2 => ?_)
    refine g_bipush X dX11_holdsJetty_15 bi_100 ?_
    refine g_icmp_ge X 24 (by decide) dX11_holdsJetty_17 (fun q17 => ?_) (fun q17 => ?_)
    · refine g_iconst X dX11_holdsJetty_24 ic_0 ?_
      exact g_zret X hr (isB_n (by decide)) rfl dX11_holdsJetty_25
    · refine g_iconst X dX11_holdsJetty_20 ic_1 ?_
      refine g_goto X 25 (by decide) dX11_holdsJetty_21 ?_
      exact g_zret X hr (isB_n (by decide)) rfl dX11_holdsJetty_25
set_option maxRecDepth 100000 in
set_option maxHeartbeats 4000000 in
theorem tm_noRow {l : Launch} {D : va_G} {cy : Nat → ClassId} {ad : Nat → Nat} {N : Mem} (M : Mem) (a1 : Int32) {x : Int32} (h : fm_noRow M a1 = some x) : Mt l D cy ad yX11_noRow cX11_noRow 2 (some .int) 2 [.ref (ad 138), .int a1] ((wfM N) M) (some (.int x), (wfM N) M) := by
  refine met_of (fin := (finI M)) (lv0 := [(0, .ref (ad 138)), (1, .int a1)]) (by decide) (Nat.le_of_ble_eq_true rfl) rfl (lM N) h (fun p e s m args below meth c X hr => ?_)
  unfold fm_noRow
  refine g_aload_n X dX11_noRow_0 0 rfl rfl ?_
  refine g_iload_n X dX11_noRow_1 1 rfl rfl ?_
  refine g_ct X (v0 := .int (fm_isShelfT M a1)) (st := []) (ok_V X (k0 := 138) (As := [.int a1]) wkX11_isShelf (tm_isShelfT M a1) rfl k_138 s_138 (by decide) rfl m_5_146 rfl (hRm (by decide) (by decide)) ⟨Nat.zero_le _, Nat.zero_le _⟩ (Nat.le_of_ble_eq_true rfl) dX11_noRow_2) ?_
  refine g_if_ne X 11 (by decide) dX11_noRow_5 (fun q5 => ?_) (fun q5 => ?_)
  · refine g_aload_n X dX11_noRow_11 0 rfl rfl ?_
    refine g_iload_n X dX11_noRow_12 1 rfl rfl ?_
    refine g_ci X (st := []) (fun _ hh => ok_V X (k0 := 138) (As := [.int a1]) wkX11_holdsJetty (tm_holdsJetty M a1 hh) rfl k_138 s_138 (by decide) rfl m_5_162 rfl (hRm (by decide) (by decide)) ⟨Nat.zero_le _, Nat.zero_le _⟩ (Nat.le_of_ble_eq_true rfl) dX11_noRow_13) (fun r1 _ => ?_)
    refine g_if_eq X 22 (by decide) dX11_noRow_16 (fun q16 => ?_) (fun q16 => ?_)
    · refine g_aload_n X dX11_noRow_22 0 rfl rfl ?_
      refine get_11_0 X (k := 138) k_138 s_138 m_5_57 dX11_noRow_23 ?_
      refine g_iload_n X dX11_noRow_26 1 rfl rfl ?_
      refine g_iald X (n := 8) (k := 139) k_139 s_139 dX11_noRow_27 (fun h2 => ?_)
      refine g_if_ge X 36 (by decide) dX11_noRow_28 (fun q28 => ?_) (fun q28 => ?_)
      · refine g_iconst X dX11_noRow_36 ic_0 ?_
        exact g_iret X hr rfl dX11_noRow_37
      · refine g_bipush X dX11_noRow_31 bi_m4 ?_
        refine g_goto X 37 (by decide) dX11_noRow_33 ?_
        exact g_iret X hr rfl dX11_noRow_37
    · refine g_bipush X dX11_noRow_19 bi_m3 ?_
      exact g_iret X hr rfl dX11_noRow_21
  · refine g_bipush X dX11_noRow_8 bi_m2 ?_
    exact g_iret X hr rfl dX11_noRow_10
set_option maxRecDepth 100000 in
set_option maxHeartbeats 4000000 in
theorem tm_set {l : Launch} {D : va_G} {cy : Nat → ClassId} {ad : Nat → Nat} {N : Mem} (M : Mem) (a1 : Int32) (a2 : Int32) (a3 : Int64) {x : (Int32 × Mem)} (h : fm_set M a1 a2 a3 = some x) : Mt l D cy ad yX11_set cX11_set 9 (some .int) 3 [.ref (ad 138), .int a1, .int a2, .long a3] ((wfM N) M) (some (.int x.1), (wfM N) x.2) := by
  refine met_of (fin := finS) (lv0 := [(0, .ref (ad 138)), (1, .int a1), (2, .int a2), (3, .long a3)]) (by decide) (Nat.le_of_ble_eq_true rfl) rfl (lM N) h (fun p e s m args below meth c X hr => ?_)
  unfold fm_set
  refine g_aload_n X dX11_set_0 0 rfl rfl ?_
  refine g_iload_n X dX11_set_1 1 rfl rfl ?_
  refine g_ci X (st := []) (fun _ hh => ok_V X (k0 := 138) (As := [.int a1]) wkX11_noRow (tm_noRow M a1 hh) rfl k_138 s_138 (by decide) rfl m_5_158 rfl (hRm (by decide) (by decide)) ⟨Nat.zero_le _, Nat.zero_le _⟩ (Nat.le_of_ble_eq_true rfl) dX11_set_2) (fun r1 _ => ?_)
  refine g_istore X dX11_set_5 (by decide) rfl [1, 2, 3, 4, 0] (lu := [(0, .ref (ad 138)), (1, .int a1), (2, .int a2), (3, .long a3), (5, .int r1)]) rfl ?_
  refine g_iload X dX11_set_7 4 rfl ?_
  refine g_if_ge X 19 (by decide) dX11_set_9 (fun q9 => ?_) (fun q9 => ?_)
  · refine g_iload_n X dX11_set_19 2 rfl rfl ?_
    refine g_if_lt X 33 (by decide) dX11_set_20 (fun q20 => ?_) (fun q20 => ?_)
    · refine g_aload_n X dX11_set_33 0 rfl rfl ?_
      refine g_bipush X dX11_set_34 bi_m2 ?_
      refine g_cs X (st := []) (fun _ hh => ok_V X (k0 := 138) (As := [.int (-2)]) wkX11_no (tm_no M (-2) hh) rfl k_138 s_138 (by decide) rfl m_5_150 rfl (hRm (by decide) (by decide)) ⟨Nat.zero_le _, Nat.zero_le _⟩ (Nat.le_of_ble_eq_true rfl) dX11_set_36) (fun r3 M2 _ => ?_)
      exact g_iret X hr rfl dX11_set_39
    · refine g_iload_n X dX11_set_23 2 rfl rfl ?_
      refine g_aload_n X dX11_set_24 0 rfl rfl ?_
      refine get_11_1 X (k := 138) k_138 s_138 m_5_58 dX11_set_25 ?_
      refine g_iload_n X dX11_set_28 1 rfl rfl ?_
      refine g_iald X (n := 8) (k := 140) k_140 s_140 dX11_set_29 (fun h4 => ?_)
      refine g_icmp_lt X 40 (by decide) dX11_set_30 (fun q30 => ?_) (fun q30 => ?_)
      · refine g_aload_n X dX11_set_40 0 rfl rfl ?_
        refine get_11_0 X (k := 138) k_138 s_138 m_5_57 dX11_set_41 ?_
        refine g_iload_n X dX11_set_44 1 rfl rfl ?_
        refine g_iald X (n := 8) (k := 139) k_139 s_139 dX11_set_45 (fun h5 => ?_)
        refine g_bipush X dX11_set_46 bi_100 ?_
        refine g_isub X dX11_set_48 ?_
        refine g_ilet X (fun v6 => ?_)
        refine g_istore X dX11_set_49 (by decide) rfl [1, 2, 3, 4, 0] (lu := [(0, .ref (ad 138)), (1, .int a1), (2, .int a2), (3, .long a3), (6, .int v6)]) rfl ?_
        refine g_lload_n X dX11_set_51 3 rfl rfl ?_
        refine g_lstore X dX11_set_52 (by decide) rfl [1, 2, 3, 4, 5, 0] (lu := [(0, .ref (ad 138)), (1, .int a1), (2, .int a2), (3, .long a3), (6, .int v6), (7, .long a3)]) rfl ?_
        refine g_iload X dX11_set_54 4 rfl ?_
        refine g_jlet X 65 (fun z65 : Int64 => [(0, .ref (ad 138)), (1, .int a1), (2, .int a2), (3, .long a3), (6, .int v6), (7, .long z65)]) (fun z65 : Int64 => []) (fun z65 : Int64 => M) (fun z65 => ?_) (fun J65 hJ65 => ?_)
        · show GF _ _ _ _ _ _ _ _ _ _ _ _ _ _ _ _ _ _ _ _ _ 65 [(0, .ref (ad 138)), (1, .int a1), (2, .int a2), (3, .long a3), (6, .int v6), (7, .long z65)] [] M
          refine g_iload X dX11_set_65 4 rfl ?_
          refine g_iconst X dX11_set_67 ic_1 ?_
          refine g_jlet X 77 (fun z77 : Int64 => [(0, .ref (ad 138)), (1, .int a1), (2, .int a2), (3, .long a3), (6, .int v6), (7, .long z77)]) (fun z77 : Int64 => []) (fun z77 : Int64 => M) (fun z77 => ?_) (fun J77 hJ77 => ?_)
          · show GF _ _ _ _ _ _ _ _ _ _ _ _ _ _ _ _ _ _ _ _ _ 77 [(0, .ref (ad 138)), (1, .int a1), (2, .int a2), (3, .long a3), (6, .int v6), (7, .long z77)] [] M
            refine g_iload X dX11_set_77 4 rfl ?_
            refine g_iconst X dX11_set_79 ic_2 ?_
            refine g_jlet X 88 (fun z88 : Int64 => [(0, .ref (ad 138)), (1, .int a1), (2, .int a2), (3, .long a3), (6, .int v6), (7, .long z88)]) (fun z88 : Int64 => []) (fun z88 : Int64 => M) (fun z88 => ?_) (fun J88 hJ88 => ?_)
            · show GF _ _ _ _ _ _ _ _ _ _ _ _ _ _ _ _ _ _ _ _ _ 88 [(0, .ref (ad 138)), (1, .int a1), (2, .int a2), (3, .long a3), (6, .int v6), (7, .long z88)] [] M
              refine g_iload X dX11_set_88 4 rfl ?_
              refine g_iconst X dX11_set_90 ic_4 ?_
              refine g_icmp_ne X 107 (by decide) dX11_set_91 (fun q91 => ?_) (fun q91 => ?_)
              · refine g_aload_n X dX11_set_107 0 rfl rfl ?_
                refine get_11_2 X (k := 138) k_138 s_138 m_5_59 dX11_set_108 ?_
                refine g_bipush X dX11_set_111 bi_40 ?_
                refine g_iload_n X dX11_set_113 1 rfl rfl ?_
                refine g_imul X dX11_set_114 ?_
                refine g_iload_n X dX11_set_115 2 rfl rfl ?_
                refine g_iadd X dX11_set_116 ?_
                refine g_lload X dX11_set_117 5 rfl ?_
                refine g_last23 X (k := 141) k_141 s_141 dX11_set_119 (fun h7 => ?_)
                refine g_mlet X (fun M8 => ?_)
                refine g_iconst X dX11_set_120 ic_1 ?_
                exact g_iret X hr rfl dX11_set_121
              · refine g_lload_n X dX11_set_94 3 rfl rfl ?_
                refine g_lconst X (v := 0) dX11_set_95 (by decide) ?_
                refine g_lcmp X dX11_set_96 ?_
                refine g_if_eq X 104 (by decide) dX11_set_97 (fun q97 => ?_) (fun q97 => ?_)
                · refine g_lconst X (v := 0) dX11_set_104 (by decide) ?_
                  refine g_lstore X dX11_set_105 (by decide) rfl [1, 2, 3, 0] (lu := [(0, .ref (ad 138)), (1, .int a1), (2, .int a2), (7, .long 0)]) rfl ?_
                  refine g_aload_n X dX11_set_107 0 rfl rfl ?_
                  refine get_11_2 X (k := 138) k_138 s_138 m_5_59 dX11_set_108 ?_
                  refine g_bipush X dX11_set_111 bi_40 ?_
                  refine g_iload_n X dX11_set_113 1 rfl rfl ?_
                  refine g_imul X dX11_set_114 ?_
                  refine g_iload_n X dX11_set_115 2 rfl rfl ?_
                  refine g_iadd X dX11_set_116 ?_
                  refine g_lload X dX11_set_117 3 rfl ?_
                  refine g_last23 X (k := 141) k_141 s_141 dX11_set_119 (fun h9 => ?_)
                  refine g_mlet X (fun M10 => ?_)
                  refine g_iconst X dX11_set_120 ic_1 ?_
                  exact g_iret X hr rfl dX11_set_121
                · refine g_lconst X (v := 1) dX11_set_100 (by decide) ?_
                  refine g_goto X 105 (by decide) dX11_set_101 ?_
                  refine g_lstore X dX11_set_105 (by decide) rfl [1, 2, 3, 0] (lu := [(0, .ref (ad 138)), (1, .int a1), (2, .int a2), (7, .long 1)]) rfl ?_
                  refine g_aload_n X dX11_set_107 0 rfl rfl ?_
                  refine get_11_2 X (k := 138) k_138 s_138 m_5_59 dX11_set_108 ?_
                  refine g_bipush X dX11_set_111 bi_40 ?_
                  refine g_iload_n X dX11_set_113 1 rfl rfl ?_
                  refine g_imul X dX11_set_114 ?_
                  refine g_iload_n X dX11_set_115 2 rfl rfl ?_
                  refine g_iadd X dX11_set_116 ?_
                  refine g_lload X dX11_set_117 3 rfl ?_
                  refine g_last23 X (k := 141) k_141 s_141 dX11_set_119 (fun h11 => ?_)
                  refine g_mlet X (fun M12 => ?_)
                  refine g_iconst X dX11_set_120 ic_1 ?_
                  exact g_iret X hr rfl dX11_set_121
            refine g_icmp_ne X 88 (by decide) dX11_set_80 (fun q80 => ?_) (fun q80 => ?_)
            · exact hJ88 z77
            · refine g_lload_n X dX11_set_83 3 rfl rfl ?_
              refine g_l2i X dX11_set_84 ?_
              refine g_i2l X dX11_set_85 ?_
              refine g_llet X (fun v13 => ?_)
              refine g_lstore X dX11_set_86 (by decide) rfl [1, 2, 3, 4, 5, 0] (lu := [(0, .ref (ad 138)), (1, .int a1), (2, .int a2), (3, .long a3), (6, .int v6), (7, .long v13)]) rfl ?_
              exact hJ88 v13
          refine g_icmp_ne X 77 (by decide) dX11_set_68 (fun q68 => ?_) (fun q68 => ?_)
          · exact hJ77 z65
          · refine g_lload_n X dX11_set_71 3 rfl rfl ?_
            refine g_l2i X dX11_set_72 ?_
            refine g_i2s X dX11_set_73 ?_
            refine g_i2l X dX11_set_74 ?_
            refine g_llet X (fun v14 => ?_)
            refine g_lstore X dX11_set_75 (by decide) rfl [1, 2, 3, 4, 5, 0] (lu := [(0, .ref (ad 138)), (1, .int a1), (2, .int a2), (3, .long a3), (6, .int v6), (7, .long v14)]) rfl ?_
            exact hJ77 v14
        refine g_if_ne X 65 (by decide) dX11_set_56 (fun q56 => ?_) (fun q56 => ?_)
        · exact hJ65 a3
        · refine g_lload_n X dX11_set_59 3 rfl rfl ?_
          refine g_l2i X dX11_set_60 ?_
          refine g_i2b X dX11_set_61 ?_
          refine g_i2l X dX11_set_62 ?_
          refine g_llet X (fun v15 => ?_)
          refine g_lstore X dX11_set_63 (by decide) rfl [1, 2, 3, 4, 5, 0] (lu := [(0, .ref (ad 138)), (1, .int a1), (2, .int a2), (3, .long a3), (6, .int v6), (7, .long v15)]) rfl ?_
          exact hJ65 v15
      · refine g_aload_n X dX11_set_33 0 rfl rfl ?_
        refine g_bipush X dX11_set_34 bi_m2 ?_
        refine g_cs X (st := []) (fun _ hh => ok_V X (k0 := 138) (As := [.int (-2)]) wkX11_no (tm_no M (-2) hh) rfl k_138 s_138 (by decide) rfl m_5_150 rfl (hRm (by decide) (by decide)) ⟨Nat.zero_le _, Nat.zero_le _⟩ (Nat.le_of_ble_eq_true rfl) dX11_set_36) (fun r17 M16 _ => ?_)
        exact g_iret X hr rfl dX11_set_39
  · refine g_aload_n X dX11_set_12 0 rfl rfl ?_
    refine g_iload X dX11_set_13 4 rfl ?_
    refine g_cs X (st := []) (fun _ hh => ok_V X (k0 := 138) (As := [.int r1]) wkX11_no (tm_no M r1 hh) rfl k_138 s_138 (by decide) rfl m_5_150 rfl (hRm (by decide) (by decide)) ⟨Nat.zero_le _, Nat.zero_le _⟩ (Nat.le_of_ble_eq_true rfl) dX11_set_15) (fun r19 M18 _ => ?_)
    exact g_iret X hr rfl dX11_set_18
set_option maxRecDepth 100000 in
set_option maxHeartbeats 4000000 in
theorem tm_isRow {l : Launch} {D : va_G} {cy : Nat → ClassId} {ad : Nat → Nat} {N : Mem} (M : Mem) (a1 : Int32) {x : Int32} (h : fm_isRow M a1 = some x) : Mt l D cy ad yX11_isRow cX11_isRow 2 (some .boolean) 1 [.ref (ad 138), .int a1] ((wfM N) M) (some (.int x), (wfM N) M) := by
  refine met_of (fin := (finI M)) (lv0 := [(0, .ref (ad 138)), (1, .int a1)]) (by decide) (Nat.le_of_ble_eq_true rfl) rfl (lM N) h (fun p e s m args below meth c X hr => ?_)
  unfold fm_isRow
  refine g_aload_n X dX11_isRow_0 0 rfl rfl ?_
  refine get_11_0 X (k := 138) k_138 s_138 m_5_57 dX11_isRow_1 ?_
  refine g_iload_n X dX11_isRow_4 1 rfl rfl ?_
  refine g_iald X (n := 8) (k := 139) k_139 s_139 dX11_isRow_5 (fun h1 => ?_)
  refine g_bipush X dX11_isRow_6 bi_100 ?_
  refine g_icmp_lt X 15 (by decide) dX11_isRow_8 (fun q8 => ?_) (fun q8 => ?_)
  · refine g_iconst X dX11_isRow_15 ic_0 ?_
    exact g_zret X hr (isB_n (by decide)) rfl dX11_isRow_16
  · refine g_iconst X dX11_isRow_11 ic_1 ?_
    refine g_goto X 16 (by decide) dX11_isRow_12 ?_
    exact g_zret X hr (isB_n (by decide)) rfl dX11_isRow_16
set_option maxRecDepth 100000 in
set_option maxHeartbeats 4000000 in
theorem Lm_copy_L221 {l : Launch} {D : va_G} {cy : Nat → ClassId} {ad : Nat → Nat} {N : Mem} {p : Program} {e : Env} {s : State} {m : MethodId} {args : Array Value} {below : List Frame} {meth : Method} {c : Code} (X : Cx p s m args meth c cX11_copy 7 RX11 D cy ad (AA ad) (wfM N) sdM) (hr : meth.sig.returnType = (some .int)) (b1 : Int32) (b2 : Int32) (b3 : Int32) (b4 : Int32) (b5 : Int32) : ∀ (n : Nat) (x6 : Int32) (M : Mem), GF p l e (Rm 2) s m args below meth c 7 D cy ad (AA ad) 0 0 (wfM N) (QM D cy ad (wfM N) below args s) finS (fm_copy_L221 b1 b2 b3 b4 b5 n x6 M) 221 [(0, .ref (ad 138)), (1, .int b1), (2, .int b2), (3, .int b3), (4, .int b4), (5, .int b5), (6, .int x6)] [] M := by
  intro n
  induction n with
  | zero => intro x6 M; exact g_none
  | succ n ih =>
    intro x6 M
    rw [fm_copy_L221]
    refine g_iload X dX11_copy_221 6 rfl ?_
    refine g_iload X dX11_copy_223 5 rfl ?_
    refine g_icmp_ge X 263 (by decide) dX11_copy_225 (fun q225 => ?_) (fun q225 => ?_)
    · refine g_iload X dX11_copy_263 5 rfl ?_
      exact g_iret X hr rfl dX11_copy_265
    · refine g_aload_n X dX11_copy_228 0 rfl rfl ?_
      refine get_11_2 X (k := 138) k_138 s_138 m_5_59 dX11_copy_229 ?_
      refine g_bipush X dX11_copy_232 bi_40 ?_
      refine g_iload_n X dX11_copy_234 2 rfl rfl ?_
      refine g_imul X dX11_copy_235 ?_
      refine g_iload X dX11_copy_236 4 rfl ?_
      refine g_iadd X dX11_copy_238 ?_
      refine g_iload X dX11_copy_239 6 rfl ?_
      refine g_iadd X dX11_copy_241 ?_
      refine g_aload_n X dX11_copy_242 0 rfl rfl ?_
      refine get_11_2 X (k := 138) k_138 s_138 m_5_59 dX11_copy_243 ?_
      refine g_bipush X dX11_copy_246 bi_40 ?_
      refine g_iload_n X dX11_copy_248 1 rfl rfl ?_
      refine g_imul X dX11_copy_249 ?_
      refine g_iload_n X dX11_copy_250 3 rfl rfl ?_
      refine g_iadd X dX11_copy_251 ?_
      refine g_iload X dX11_copy_252 6 rfl ?_
      refine g_iadd X dX11_copy_254 ?_
      refine g_lald23 X (k := 141) k_141 s_141 dX11_copy_255 (fun h24 => ?_)
      refine g_last23 X (k := 141) k_141 s_141 dX11_copy_256 (fun h25 => ?_)
      refine g_mlet X (fun M26 => ?_)
      refine g_iinc X (k := 6) (v := (x6 + 1)) dX11_copy_257 rfl (ii_1 _) (by decide) rfl [1, 2, 3, 4, 5, 6, 0] (lu := [(0, .ref (ad 138)), (1, .int b1), (2, .int b2), (3, .int b3), (4, .int b4), (5, .int b5), (6, .int (x6 + 1))]) rfl ?_
      refine g_goto X 221 (by decide) dX11_copy_260 ?_
      exact ih (x6 + 1) M26
set_option maxRecDepth 100000 in
set_option maxHeartbeats 4000000 in
theorem Lm_copy_L175 {l : Launch} {D : va_G} {cy : Nat → ClassId} {ad : Nat → Nat} {N : Mem} {p : Program} {e : Env} {s : State} {m : MethodId} {args : Array Value} {below : List Frame} {meth : Method} {c : Code} (X : Cx p s m args meth c cX11_copy 7 RX11 D cy ad (AA ad) (wfM N) sdM) (hr : meth.sig.returnType = (some .int)) (b1 : Int32) (b2 : Int32) (b3 : Int32) (b4 : Int32) (b5 : Int32) (kx215 : Mem → Option (Int32 × Mem)) (hkx215 : ∀ (M : Mem), GF p l e (Rm 2) s m args below meth c 7 D cy ad (AA ad) 0 0 (wfM N) (QM D cy ad (wfM N) below args s) finS (kx215 M) 215 [(5, .int b5)] [] M) : ∀ (n : Nat) (x6 : Int32) (M : Mem), GF p l e (Rm 2) s m args below meth c 7 D cy ad (AA ad) 0 0 (wfM N) (QM D cy ad (wfM N) below args s) finS (fm_copy_L175 b1 b2 b3 b4 b5 kx215 n x6 M) 175 [(0, .ref (ad 138)), (1, .int b1), (2, .int b2), (3, .int b3), (4, .int b4), (5, .int b5), (6, .int x6)] [] M := by
  intro n
  induction n with
  | zero => intro x6 M; exact g_none
  | succ n ih =>
    intro x6 M
    rw [fm_copy_L175]
    refine g_iload X dX11_copy_175 6 rfl ?_
    refine g_if_lt X 215 (by decide) dX11_copy_177 (fun q177 => ?_) (fun q177 => ?_)
    · refine g_sub (lu := [(5, .int b5)]) [5] rfl ?_
      exact hkx215 M
    · refine g_aload_n X dX11_copy_180 0 rfl rfl ?_
      refine get_11_2 X (k := 138) k_138 s_138 m_5_59 dX11_copy_181 ?_
      refine g_bipush X dX11_copy_184 bi_40 ?_
      refine g_iload_n X dX11_copy_186 2 rfl rfl ?_
      refine g_imul X dX11_copy_187 ?_
      refine g_iload X dX11_copy_188 4 rfl ?_
      refine g_iadd X dX11_copy_190 ?_
      refine g_iload X dX11_copy_191 6 rfl ?_
      refine g_iadd X dX11_copy_193 ?_
      refine g_aload_n X dX11_copy_194 0 rfl rfl ?_
      refine get_11_2 X (k := 138) k_138 s_138 m_5_59 dX11_copy_195 ?_
      refine g_bipush X dX11_copy_198 bi_40 ?_
      refine g_iload_n X dX11_copy_200 1 rfl rfl ?_
      refine g_imul X dX11_copy_201 ?_
      refine g_iload_n X dX11_copy_202 3 rfl rfl ?_
      refine g_iadd X dX11_copy_203 ?_
      refine g_iload X dX11_copy_204 6 rfl ?_
      refine g_iadd X dX11_copy_206 ?_
      refine g_lald23 X (k := 141) k_141 s_141 dX11_copy_207 (fun h28 => ?_)
      refine g_last23 X (k := 141) k_141 s_141 dX11_copy_208 (fun h29 => ?_)
      refine g_mlet X (fun M30 => ?_)
      refine g_iinc X (k := 6) (v := (x6 + (-1))) dX11_copy_209 rfl (ii_m1 _) (by decide) rfl [1, 2, 3, 4, 5, 6, 0] (lu := [(0, .ref (ad 138)), (1, .int b1), (2, .int b2), (3, .int b3), (4, .int b4), (5, .int b5), (6, .int (x6 + (-1)))]) rfl ?_
      refine g_goto X 175 (by decide) dX11_copy_212 ?_
      exact ih (x6 + (-1)) M30
set_option maxRecDepth 100000 in
set_option maxHeartbeats 4000000 in
theorem tm_copy {l : Launch} {D : va_G} {cy : Nat → ClassId} {ad : Nat → Nat} {N : Mem} (M : Mem) (a1 : Int32) (a2 : Int32) (a3 : Int32) (a4 : Int32) (a5 : Int32) {x : (Int32 × Mem)} (h : fm_copy M a1 a2 a3 a4 a5 = some x) : Mt l D cy ad yX11_copy cX11_copy 7 (some .int) 2 [.ref (ad 138), .int a1, .int a2, .int a3, .int a4, .int a5] ((wfM N) M) (some (.int x.1), (wfM N) x.2) := by
  refine met_of (fin := finS) (lv0 := [(0, .ref (ad 138)), (1, .int a1), (2, .int a2), (3, .int a3), (4, .int a4), (5, .int a5)]) (by decide) (Nat.le_of_ble_eq_true rfl) rfl (lM N) h (fun p e s m args below meth c X hr => ?_)
  unfold fm_copy
  refine g_aload_n X dX11_copy_0 0 rfl rfl ?_
  refine g_iload_n X dX11_copy_1 1 rfl rfl ?_
  refine g_ct X (v0 := .int (fm_isShelfT M a1)) (st := []) (ok_V X (k0 := 138) (As := [.int a1]) wkX11_isShelf (tm_isShelfT M a1) rfl k_138 s_138 (by decide) rfl m_5_146 rfl (hRm (by decide) (by decide)) ⟨Nat.zero_le _, Nat.zero_le _⟩ (Nat.le_of_ble_eq_true rfl) dX11_copy_2) ?_
  refine g_if_eq X 16 (by decide) dX11_copy_5 (fun q5 => ?_) (fun q5 => ?_)
  · refine g_aload_n X dX11_copy_16 0 rfl rfl ?_
    refine g_bipush X dX11_copy_17 bi_m2 ?_
    refine g_cs X (st := []) (fun _ hh => ok_V X (k0 := 138) (As := [.int (-2)]) wkX11_no (tm_no M (-2) hh) rfl k_138 s_138 (by decide) rfl m_5_150 rfl (hRm (by decide) (by decide)) ⟨Nat.zero_le _, Nat.zero_le _⟩ (Nat.le_of_ble_eq_true rfl) dX11_copy_19) (fun r2 M1 _ => ?_)
    exact g_iret X hr rfl dX11_copy_22
  · refine g_aload_n X dX11_copy_8 0 rfl rfl ?_
    refine g_iload_n X dX11_copy_9 2 rfl rfl ?_
    refine g_ct X (v0 := .int (fm_isShelfT M a2)) (st := []) (ok_V X (k0 := 138) (As := [.int a2]) wkX11_isShelf (tm_isShelfT M a2) rfl k_138 s_138 (by decide) rfl m_5_146 rfl (hRm (by decide) (by decide)) ⟨Nat.zero_le _, Nat.zero_le _⟩ (Nat.le_of_ble_eq_true rfl) dX11_copy_10) ?_
    refine g_if_ne X 23 (by decide) dX11_copy_13 (fun q13 => ?_) (fun q13 => ?_)
    · refine g_aload_n X dX11_copy_23 0 rfl rfl ?_
      refine g_iload_n X dX11_copy_24 1 rfl rfl ?_
      refine g_ci X (st := []) (fun _ hh => ok_V X (k0 := 138) (As := [.int a1]) wkX11_holdsJetty (tm_holdsJetty M a1 hh) rfl k_138 s_138 (by decide) rfl m_5_162 rfl (hRm (by decide) (by decide)) ⟨Nat.zero_le _, Nat.zero_le _⟩ (Nat.le_of_ble_eq_true rfl) dX11_copy_25) (fun r3 _ => ?_)
      refine g_if_ne X 70 (by decide) dX11_copy_28 (fun q28 => ?_) (fun q28 => ?_)
      · refine g_aload_n X dX11_copy_70 0 rfl rfl ?_
        refine g_bipush X dX11_copy_71 bi_m3 ?_
        refine g_cs X (st := []) (fun _ hh => ok_V X (k0 := 138) (As := [.int (-3)]) wkX11_no (tm_no M (-3) hh) rfl k_138 s_138 (by decide) rfl m_5_150 rfl (hRm (by decide) (by decide)) ⟨Nat.zero_le _, Nat.zero_le _⟩ (Nat.le_of_ble_eq_true rfl) dX11_copy_73) (fun r5 M4 _ => ?_)
        exact g_iret X hr rfl dX11_copy_76
      · refine g_aload_n X dX11_copy_31 0 rfl rfl ?_
        refine g_iload_n X dX11_copy_32 2 rfl rfl ?_
        refine g_ci X (st := []) (fun _ hh => ok_V X (k0 := 138) (As := [.int a2]) wkX11_holdsJetty (tm_holdsJetty M a2 hh) rfl k_138 s_138 (by decide) rfl m_5_162 rfl (hRm (by decide) (by decide)) ⟨Nat.zero_le _, Nat.zero_le _⟩ (Nat.le_of_ble_eq_true rfl) dX11_copy_33) (fun r6 _ => ?_)
        refine g_if_ne X 70 (by decide) dX11_copy_36 (fun q36 => ?_) (fun q36 => ?_)
        · refine g_aload_n X dX11_copy_70 0 rfl rfl ?_
          refine g_bipush X dX11_copy_71 bi_m3 ?_
          refine g_cs X (st := []) (fun _ hh => ok_V X (k0 := 138) (As := [.int (-3)]) wkX11_no (tm_no M (-3) hh) rfl k_138 s_138 (by decide) rfl m_5_150 rfl (hRm (by decide) (by decide)) ⟨Nat.zero_le _, Nat.zero_le _⟩ (Nat.le_of_ble_eq_true rfl) dX11_copy_73) (fun r8 M7 _ => ?_)
          exact g_iret X hr rfl dX11_copy_76
        · refine g_aload_n X dX11_copy_39 0 rfl rfl ?_
          refine g_iload_n X dX11_copy_40 1 rfl rfl ?_
          refine g_ci X (st := []) (fun _ hh => ok_V X (k0 := 138) (As := [.int a1]) wkX11_isRow (tm_isRow M a1 hh) rfl k_138 s_138 (by decide) rfl m_5_170 rfl (hRm (by decide) (by decide)) ⟨Nat.zero_le _, Nat.zero_le _⟩ (Nat.le_of_ble_eq_true rfl) dX11_copy_41) (fun r9 _ => ?_)
          refine g_jlet X 77 (fun z77 : Unit => [(0, .ref (ad 138)), (1, .int a1), (2, .int a2), (3, .int a3), (4, .int a4), (5, .int a5)]) (fun z77 : Unit => []) (fun z77 : Unit => M) (fun z77 => ?_) (fun J77 hJ77 => ?_)
          · show GF _ _ _ _ _ _ _ _ _ _ _ _ _ _ _ _ _ _ _ _ _ 77 [(0, .ref (ad 138)), (1, .int a1), (2, .int a2), (3, .int a3), (4, .int a4), (5, .int a5)] [] M
            refine g_aload_n X dX11_copy_77 0 rfl rfl ?_
            refine get_11_0 X (k := 138) k_138 s_138 m_5_57 dX11_copy_78 ?_
            refine g_iload_n X dX11_copy_81 1 rfl rfl ?_
            refine g_iald X (n := 8) (k := 139) k_139 s_139 dX11_copy_82 (fun h10 => ?_)
            refine g_if_lt X 95 (by decide) dX11_copy_83 (fun q83 => ?_) (fun q83 => ?_)
            · refine g_aload_n X dX11_copy_95 0 rfl rfl ?_
              refine g_bipush X dX11_copy_96 bi_m4 ?_
              refine g_cs X (st := []) (fun _ hh => ok_V X (k0 := 138) (As := [.int (-4)]) wkX11_no (tm_no M (-4) hh) rfl k_138 s_138 (by decide) rfl m_5_150 rfl (hRm (by decide) (by decide)) ⟨Nat.zero_le _, Nat.zero_le _⟩ (Nat.le_of_ble_eq_true rfl) dX11_copy_98) (fun r12 M11 _ => ?_)
              exact g_iret X hr rfl dX11_copy_101
            · refine g_aload_n X dX11_copy_86 0 rfl rfl ?_
              refine get_11_0 X (k := 138) k_138 s_138 m_5_57 dX11_copy_87 ?_
              refine g_iload_n X dX11_copy_90 2 rfl rfl ?_
              refine g_iald X (n := 8) (k := 139) k_139 s_139 dX11_copy_91 (fun h13 => ?_)
              refine g_if_ge X 102 (by decide) dX11_copy_92 (fun q92 => ?_) (fun q92 => ?_)
              · refine g_iload X dX11_copy_102 5 rfl ?_
                refine g_if_lt X 151 (by decide) dX11_copy_104 (fun q104 => ?_) (fun q104 => ?_)
                · refine g_aload_n X dX11_copy_151 0 rfl rfl ?_
                  refine g_bipush X dX11_copy_152 bi_m2 ?_
                  refine g_cs X (st := []) (fun _ hh => ok_V X (k0 := 138) (As := [.int (-2)]) wkX11_no (tm_no M (-2) hh) rfl k_138 s_138 (by decide) rfl m_5_150 rfl (hRm (by decide) (by decide)) ⟨Nat.zero_le _, Nat.zero_le _⟩ (Nat.le_of_ble_eq_true rfl) dX11_copy_154) (fun r15 M14 _ => ?_)
                  exact g_iret X hr rfl dX11_copy_157
                · refine g_iload_n X dX11_copy_107 3 rfl rfl ?_
                  refine g_if_lt X 151 (by decide) dX11_copy_108 (fun q108 => ?_) (fun q108 => ?_)
                  · refine g_aload_n X dX11_copy_151 0 rfl rfl ?_
                    refine g_bipush X dX11_copy_152 bi_m2 ?_
                    refine g_cs X (st := []) (fun _ hh => ok_V X (k0 := 138) (As := [.int (-2)]) wkX11_no (tm_no M (-2) hh) rfl k_138 s_138 (by decide) rfl m_5_150 rfl (hRm (by decide) (by decide)) ⟨Nat.zero_le _, Nat.zero_le _⟩ (Nat.le_of_ble_eq_true rfl) dX11_copy_154) (fun r17 M16 _ => ?_)
                    exact g_iret X hr rfl dX11_copy_157
                  · refine g_iload X dX11_copy_111 4 rfl ?_
                    refine g_if_lt X 151 (by decide) dX11_copy_113 (fun q113 => ?_) (fun q113 => ?_)
                    · refine g_aload_n X dX11_copy_151 0 rfl rfl ?_
                      refine g_bipush X dX11_copy_152 bi_m2 ?_
                      refine g_cs X (st := []) (fun _ hh => ok_V X (k0 := 138) (As := [.int (-2)]) wkX11_no (tm_no M (-2) hh) rfl k_138 s_138 (by decide) rfl m_5_150 rfl (hRm (by decide) (by decide)) ⟨Nat.zero_le _, Nat.zero_le _⟩ (Nat.le_of_ble_eq_true rfl) dX11_copy_154) (fun r19 M18 _ => ?_)
                      exact g_iret X hr rfl dX11_copy_157
                    · refine g_iload_n X dX11_copy_116 3 rfl rfl ?_
                      refine g_i2l X dX11_copy_117 ?_
                      refine g_iload X dX11_copy_118 5 rfl ?_
                      refine g_i2l X dX11_copy_120 ?_
                      refine g_ladd X dX11_copy_121 ?_
                      refine g_aload_n X dX11_copy_122 0 rfl rfl ?_
                      refine get_11_1 X (k := 138) k_138 s_138 m_5_58 dX11_copy_123 ?_
                      refine g_iload_n X dX11_copy_126 1 rfl rfl ?_
                      refine g_iald X (n := 8) (k := 140) k_140 s_140 dX11_copy_127 (fun h20 => ?_)
                      refine g_i2l X dX11_copy_128 ?_
                      refine g_lcmp X dX11_copy_129 ?_
                      refine g_if_gt X 151 (by decide) dX11_copy_130 (fun q130 => ?_) (fun q130 => ?_)
                      · refine g_aload_n X dX11_copy_151 0 rfl rfl ?_
                        refine g_bipush X dX11_copy_152 bi_m2 ?_
                        refine g_cs X (st := []) (fun _ hh => ok_V X (k0 := 138) (As := [.int (-2)]) wkX11_no (tm_no M (-2) hh) rfl k_138 s_138 (by decide) rfl m_5_150 rfl (hRm (by decide) (by decide)) ⟨Nat.zero_le _, Nat.zero_le _⟩ (Nat.le_of_ble_eq_true rfl) dX11_copy_154) (fun r22 M21 _ => ?_)
                        exact g_iret X hr rfl dX11_copy_157
                      · refine g_iload X dX11_copy_133 4 rfl ?_
                        refine g_i2l X dX11_copy_135 ?_
                        refine g_iload X dX11_copy_136 5 rfl ?_
                        refine g_i2l X dX11_copy_138 ?_
                        refine g_ladd X dX11_copy_139 ?_
                        refine g_aload_n X dX11_copy_140 0 rfl rfl ?_
                        refine get_11_1 X (k := 138) k_138 s_138 m_5_58 dX11_copy_141 ?_
                        refine g_iload_n X dX11_copy_144 2 rfl rfl ?_
                        refine g_iald X (n := 8) (k := 140) k_140 s_140 dX11_copy_145 (fun h23 => ?_)
                        refine g_i2l X dX11_copy_146 ?_
                        refine g_lcmp X dX11_copy_147 ?_
                        refine g_if_le X 158 (by decide) dX11_copy_148 (fun q148 => ?_) (fun q148 => ?_)
                        · refine g_iload_n X dX11_copy_158 1 rfl rfl ?_
                          refine g_iload_n X dX11_copy_159 2 rfl rfl ?_
                          refine g_jlet X 218 (fun z218 : Unit => [(0, .ref (ad 138)), (1, .int a1), (2, .int a2), (3, .int a3), (4, .int a4), (5, .int a5)]) (fun z218 : Unit => []) (fun z218 : Unit => M) (fun z218 => ?_) (fun J218 hJ218 => ?_)
                          · show GF _ _ _ _ _ _ _ _ _ _ _ _ _ _ _ _ _ _ _ _ _ 218 [(0, .ref (ad 138)), (1, .int a1), (2, .int a2), (3, .int a3), (4, .int a4), (5, .int a5)] [] M
                            refine g_iconst X dX11_copy_218 ic_0 ?_
                            refine g_istore X dX11_copy_219 (by decide) rfl [1, 2, 3, 4, 5, 6, 0] (lu := [(0, .ref (ad 138)), (1, .int a1), (2, .int a2), (3, .int a3), (4, .int a4), (5, .int a5), (6, .int 0)]) rfl ?_
                            exact Lm_copy_L221  X hr a1 a2 a3 a4 a5    FU 0 M
                          refine g_icmp_ne X 218 (by decide) dX11_copy_160 (fun q160 => ?_) (fun q160 => ?_)
                          · exact hJ218 ()
                          · refine g_iload_n X dX11_copy_163 3 rfl rfl ?_
                            refine g_iload X dX11_copy_164 4 rfl ?_
                            refine g_icmp_ge X 218 (by decide) dX11_copy_166 (fun q166 => ?_) (fun q166 => ?_)
                            · exact hJ218 ()
                            · refine g_iload X dX11_copy_169 5 rfl ?_
                              refine g_iconst X dX11_copy_171 ic_1 ?_
                              refine g_isub X dX11_copy_172 ?_
                              refine g_ilet X (fun v27 => ?_)
                              refine g_istore X dX11_copy_173 (by decide) rfl [1, 2, 3, 4, 5, 6, 0] (lu := [(0, .ref (ad 138)), (1, .int a1), (2, .int a2), (3, .int a3), (4, .int a4), (5, .int a5), (6, .int v27)]) rfl ?_
                              refine Lm_copy_L175  X hr a1 a2 a3 a4 a5  _ (fun M31 => ?_) FU v27 M
                              · refine g_goto X 263 (by decide) dX11_copy_215 ?_
                                refine g_iload X dX11_copy_263 0 rfl ?_
                                exact g_iret X hr rfl dX11_copy_265
                        · refine g_aload_n X dX11_copy_151 0 rfl rfl ?_
                          refine g_bipush X dX11_copy_152 bi_m2 ?_
                          refine g_cs X (st := []) (fun _ hh => ok_V X (k0 := 138) (As := [.int (-2)]) wkX11_no (tm_no M (-2) hh) rfl k_138 s_138 (by decide) rfl m_5_150 rfl (hRm (by decide) (by decide)) ⟨Nat.zero_le _, Nat.zero_le _⟩ (Nat.le_of_ble_eq_true rfl) dX11_copy_154) (fun r33 M32 _ => ?_)
                          exact g_iret X hr rfl dX11_copy_157
              · refine g_aload_n X dX11_copy_95 0 rfl rfl ?_
                refine g_bipush X dX11_copy_96 bi_m4 ?_
                refine g_cs X (st := []) (fun _ hh => ok_V X (k0 := 138) (As := [.int (-4)]) wkX11_no (tm_no M (-4) hh) rfl k_138 s_138 (by decide) rfl m_5_150 rfl (hRm (by decide) (by decide)) ⟨Nat.zero_le _, Nat.zero_le _⟩ (Nat.le_of_ble_eq_true rfl) dX11_copy_98) (fun r35 M34 _ => ?_)
                exact g_iret X hr rfl dX11_copy_101
          refine g_if_eq X 77 (by decide) dX11_copy_44 (fun q44 => ?_) (fun q44 => ?_)
          · exact hJ77 ()
          · refine g_aload_n X dX11_copy_47 0 rfl rfl ?_
            refine g_iload_n X dX11_copy_48 2 rfl rfl ?_
            refine g_ci X (st := []) (fun _ hh => ok_V X (k0 := 138) (As := [.int a2]) wkX11_isRow (tm_isRow M a2 hh) rfl k_138 s_138 (by decide) rfl m_5_170 rfl (hRm (by decide) (by decide)) ⟨Nat.zero_le _, Nat.zero_le _⟩ (Nat.le_of_ble_eq_true rfl) dX11_copy_49) (fun r36 _ => ?_)
            refine g_if_eq X 77 (by decide) dX11_copy_52 (fun q52 => ?_) (fun q52 => ?_)
            · exact hJ77 ()
            · refine g_aload_n X dX11_copy_55 0 rfl rfl ?_
              refine get_11_0 X (k := 138) k_138 s_138 m_5_57 dX11_copy_56 ?_
              refine g_iload_n X dX11_copy_59 1 rfl rfl ?_
              refine g_iald X (n := 8) (k := 139) k_139 s_139 dX11_copy_60 (fun h37 => ?_)
              refine g_aload_n X dX11_copy_61 0 rfl rfl ?_
              refine get_11_0 X (k := 138) k_138 s_138 m_5_57 dX11_copy_62 ?_
              refine g_iload_n X dX11_copy_65 2 rfl rfl ?_
              refine g_iald X (n := 8) (k := 139) k_139 s_139 dX11_copy_66 (fun h38 => ?_)
              refine g_icmp_eq X 77 (by decide) dX11_copy_67 (fun q67 => ?_) (fun q67 => ?_)
              · exact hJ77 ()
              · refine g_aload_n X dX11_copy_70 0 rfl rfl ?_
                refine g_bipush X dX11_copy_71 bi_m3 ?_
                refine g_cs X (st := []) (fun _ hh => ok_V X (k0 := 138) (As := [.int (-3)]) wkX11_no (tm_no M (-3) hh) rfl k_138 s_138 (by decide) rfl m_5_150 rfl (hRm (by decide) (by decide)) ⟨Nat.zero_le _, Nat.zero_le _⟩ (Nat.le_of_ble_eq_true rfl) dX11_copy_73) (fun r40 M39 _ => ?_)
                exact g_iret X hr rfl dX11_copy_76
    · refine g_aload_n X dX11_copy_16 0 rfl rfl ?_
      refine g_bipush X dX11_copy_17 bi_m2 ?_
      refine g_cs X (st := []) (fun _ hh => ok_V X (k0 := 138) (As := [.int (-2)]) wkX11_no (tm_no M (-2) hh) rfl k_138 s_138 (by decide) rfl m_5_150 rfl (hRm (by decide) (by decide)) ⟨Nat.zero_le _, Nat.zero_le _⟩ (Nat.le_of_ble_eq_true rfl) dX11_copy_19) (fun r42 M41 _ => ?_)
      exact g_iret X hr rfl dX11_copy_22
set_option maxRecDepth 100000 in
set_option maxHeartbeats 4000000 in
theorem tm_element {l : Launch} {D : va_G} {cy : Nat → ClassId} {ad : Nat → Nat} {N : Mem} (M : Mem) (a1 : Int32) (a2 : Int32) {x : Int64} (h : fm_element M a1 a2 = some x) : Mt l D cy ad yX11_element cX11_element 3 (some .long) 2 [.ref (ad 138), .int a1, .int a2] ((wfM N) M) (some (.long x), (wfM N) M) := by
  refine met_of (fin := (finJ M)) (lv0 := [(0, .ref (ad 138)), (1, .int a1), (2, .int a2)]) (by decide) (Nat.le_of_ble_eq_true rfl) rfl (lM N) h (fun p e s m args below meth c X hr => ?_)
  unfold fm_element
  refine g_aload_n X dX11_element_0 0 rfl rfl ?_
  refine g_iload_n X dX11_element_1 1 rfl rfl ?_
  refine g_ct X (v0 := .int (fm_isShelfT M a1)) (st := []) (ok_V X (k0 := 138) (As := [.int a1]) wkX11_isShelf (tm_isShelfT M a1) rfl k_138 s_138 (by decide) rfl m_5_146 rfl (hRm (by decide) (by decide)) ⟨Nat.zero_le _, Nat.zero_le _⟩ (Nat.le_of_ble_eq_true rfl) dX11_element_2) ?_
  refine g_if_eq X 30 (by decide) dX11_element_5 (fun q5 => ?_) (fun q5 => ?_)
  · refine g_lconst X (v := 0) dX11_element_30 (by decide) ?_
    exact g_lret X hr rfl dX11_element_31
  · refine g_aload_n X dX11_element_8 0 rfl rfl ?_
    refine g_iload_n X dX11_element_9 1 rfl rfl ?_
    refine g_ci X (st := []) (fun _ hh => ok_V X (k0 := 138) (As := [.int a1]) wkX11_isRow (tm_isRow M a1 hh) rfl k_138 s_138 (by decide) rfl m_5_170 rfl (hRm (by decide) (by decide)) ⟨Nat.zero_le _, Nat.zero_le _⟩ (Nat.le_of_ble_eq_true rfl) dX11_element_10) (fun r1 _ => ?_)
    refine g_if_eq X 30 (by decide) dX11_element_13 (fun q13 => ?_) (fun q13 => ?_)
    · refine g_lconst X (v := 0) dX11_element_30 (by decide) ?_
      exact g_lret X hr rfl dX11_element_31
    · refine g_iload_n X dX11_element_16 2 rfl rfl ?_
      refine g_if_lt X 30 (by decide) dX11_element_17 (fun q17 => ?_) (fun q17 => ?_)
      · refine g_lconst X (v := 0) dX11_element_30 (by decide) ?_
        exact g_lret X hr rfl dX11_element_31
      · refine g_iload_n X dX11_element_20 2 rfl rfl ?_
        refine g_aload_n X dX11_element_21 0 rfl rfl ?_
        refine get_11_1 X (k := 138) k_138 s_138 m_5_58 dX11_element_22 ?_
        refine g_iload_n X dX11_element_25 1 rfl rfl ?_
        refine g_iald X (n := 8) (k := 140) k_140 s_140 dX11_element_26 (fun h2 => ?_)
        refine g_icmp_lt X 32 (by decide) dX11_element_27 (fun q27 => ?_) (fun q27 => ?_)
        · refine g_aload_n X dX11_element_32 0 rfl rfl ?_
          refine get_11_2 X (k := 138) k_138 s_138 m_5_59 dX11_element_33 ?_
          refine g_bipush X dX11_element_36 bi_40 ?_
          refine g_iload_n X dX11_element_38 1 rfl rfl ?_
          refine g_imul X dX11_element_39 ?_
          refine g_iload_n X dX11_element_40 2 rfl rfl ?_
          refine g_iadd X dX11_element_41 ?_
          refine g_lald23 X (k := 141) k_141 s_141 dX11_element_42 (fun h3 => ?_)
          exact g_lret X hr rfl dX11_element_43
        · refine g_lconst X (v := 0) dX11_element_30 (by decide) ?_
          exact g_lret X hr rfl dX11_element_31
set_option maxRecDepth 100000 in
set_option maxHeartbeats 4000000 in
theorem tm_holds {l : Launch} {D : va_G} {cy : Nat → ClassId} {ad : Nat → Nat} {N : Mem} (M : Mem) (a1 : Int32) {x : Int32} (h : fm_holds M a1 = some x) : Mt l D cy ad yX11_holds cX11_holds 2 (some .int) 2 [.ref (ad 138), .int a1] ((wfM N) M) (some (.int x), (wfM N) M) := by
  refine met_of (fin := (finI M)) (lv0 := [(0, .ref (ad 138)), (1, .int a1)]) (by decide) (Nat.le_of_ble_eq_true rfl) rfl (lM N) h (fun p e s m args below meth c X hr => ?_)
  unfold fm_holds
  refine g_aload_n X dX11_holds_0 0 rfl rfl ?_
  refine g_iload_n X dX11_holds_1 1 rfl rfl ?_
  refine g_ct X (v0 := .int (fm_isShelfT M a1)) (st := []) (ok_V X (k0 := 138) (As := [.int a1]) wkX11_isShelf (tm_isShelfT M a1) rfl k_138 s_138 (by decide) rfl m_5_146 rfl (hRm (by decide) (by decide)) ⟨Nat.zero_le _, Nat.zero_le _⟩ (Nat.le_of_ble_eq_true rfl) dX11_holds_2) ?_
  refine g_if_eq X 17 (by decide) dX11_holds_5 (fun q5 => ?_) (fun q5 => ?_)
  · refine g_iconst X dX11_holds_17 ic_m1 ?_
    exact g_iret X hr rfl dX11_holds_18
  · refine g_aload_n X dX11_holds_8 0 rfl rfl ?_
    refine get_11_0 X (k := 138) k_138 s_138 m_5_57 dX11_holds_9 ?_
    refine g_iload_n X dX11_holds_12 1 rfl rfl ?_
    refine g_iald X (n := 8) (k := 139) k_139 s_139 dX11_holds_13 (fun h1 => ?_)
    refine g_if_ge X 19 (by decide) dX11_holds_14 (fun q14 => ?_) (fun q14 => ?_)
    · refine g_aload_n X dX11_holds_19 0 rfl rfl ?_
      refine g_iload_n X dX11_holds_20 1 rfl rfl ?_
      refine g_ci X (st := []) (fun _ hh => ok_V X (k0 := 138) (As := [.int a1]) wkX11_isRow (tm_isRow M a1 hh) rfl k_138 s_138 (by decide) rfl m_5_170 rfl (hRm (by decide) (by decide)) ⟨Nat.zero_le _, Nat.zero_le _⟩ (Nat.le_of_ble_eq_true rfl) dX11_holds_21) (fun r2 _ => ?_)
      refine g_if_eq X 39 (by decide) dX11_holds_24 (fun q24 => ?_) (fun q24 => ?_)
      · refine g_bipush X dX11_holds_39 bi_10 ?_
        refine g_aload_n X dX11_holds_41 0 rfl rfl ?_
        refine get_11_0 X (k := 138) k_138 s_138 m_5_57 dX11_holds_42 ?_
        refine g_iload_n X dX11_holds_45 1 rfl rfl ?_
        refine g_iald X (n := 8) (k := 139) k_139 s_139 dX11_holds_46 (fun h3 => ?_)
        refine g_iadd X dX11_holds_47 ?_
        exact g_iret X hr rfl dX11_holds_48
      · refine g_aload_n X dX11_holds_27 0 rfl rfl ?_
        refine get_11_0 X (k := 138) k_138 s_138 m_5_57 dX11_holds_28 ?_
        refine g_iload_n X dX11_holds_31 1 rfl rfl ?_
        refine g_iald X (n := 8) (k := 139) k_139 s_139 dX11_holds_32 (fun h4 => ?_)
        refine g_bipush X dX11_holds_33 bi_100 ?_
        refine g_isub X dX11_holds_35 ?_
        refine g_goto X 48 (by decide) dX11_holds_36 ?_
        exact g_iret X hr rfl dX11_holds_48
    · refine g_iconst X dX11_holds_17 ic_m1 ?_
      exact g_iret X hr rfl dX11_holds_18
set_option maxRecDepth 100000 in
set_option maxHeartbeats 4000000 in
theorem tm_isJetty {l : Launch} {D : va_G} {cy : Nat → ClassId} {ad : Nat → Nat} {N : Mem} (M : Mem) (a1 : Int32) {x : Int32} (h : fm_isJetty M a1 = some x) : Mt l D cy ad yX11_isJetty cX11_isJetty 2 (some .boolean) 1 [.ref (ad 138), .int a1] ((wfM N) M) (some (.int x), (wfM N) M) := by
  refine met_of (fin := (finI M)) (lv0 := [(0, .ref (ad 138)), (1, .int a1)]) (by decide) (Nat.le_of_ble_eq_true rfl) rfl (lM N) h (fun p e s m args below meth c X hr => ?_)
  unfold fm_isJetty
  refine g_iload_n X dX11_isJetty_0 1 rfl rfl ?_
  refine g_if_lt X 18 (by decide) dX11_isJetty_1 (fun q1 => ?_) (fun q1 => ?_)
  · refine g_iconst X dX11_isJetty_18 ic_0 ?_
    exact g_zret X hr (isB_n (by decide)) rfl dX11_isJetty_19
  · refine g_iload_n X dX11_isJetty_4 1 rfl rfl ?_
    refine g_aload_n X dX11_isJetty_5 0 rfl rfl ?_
    refine get_11_18 X (k := 138) k_138 s_138 m_5_75 dX11_isJetty_6 ?_
    refine g_iconst X dX11_isJetty_9 ic_0 ?_
    refine g_ialdC X (n := 9) (k := 156) k_156 s_156 (by decide) dX11_isJetty_10 ?_
    refine g_icmp_ge X 18 (by decide) dX11_isJetty_11 (fun q11 => ?_) (fun q11 => ?_)
    · refine g_iconst X dX11_isJetty_18 ic_0 ?_
      exact g_zret X hr (isB_n (by decide)) rfl dX11_isJetty_19
    · refine g_iconst X dX11_isJetty_14 ic_1 ?_
      refine g_goto X 19 (by decide) dX11_isJetty_15 ?_
      exact g_zret X hr (isB_n (by decide)) rfl dX11_isJetty_19
theorem tm_isJettyT {l : Launch} {D : va_G} {cy : Nat → ClassId} {ad : Nat → Nat} {N : Mem} (M : Mem) (a1 : Int32) : Mt l D cy ad yX11_isJetty cX11_isJetty 2 (some .boolean) 1 [.ref (ad 138), .int a1] ((wfM N) M) (some (.int (fm_isJettyT M a1)), (wfM N) M) := tm_isJetty M a1 (fm_isJettyE M a1)
set_option maxRecDepth 100000 in
set_option maxHeartbeats 4000000 in
theorem tm_show {l : Launch} {D : va_G} {cy : Nat → ClassId} {ad : Nat → Nat} {N : Mem} (M : Mem) (a1 : Int32) (a2 : Int32) {x : (Int32 × Mem)} (h : fm_show M a1 a2 = some x) : Mt l D cy ad yX11_show cX11_show 3 (some .int) 2 [.ref (ad 138), .int a1, .int a2] ((wfM N) M) (some (.int x.1), (wfM N) x.2) := by
  refine met_of (fin := finS) (lv0 := [(0, .ref (ad 138)), (1, .int a1), (2, .int a2)]) (by decide) (Nat.le_of_ble_eq_true rfl) rfl (lM N) h (fun p e s m args below meth c X hr => ?_)
  unfold fm_show
  refine g_aload_n X dX11_show_0 0 rfl rfl ?_
  refine g_iload_n X dX11_show_1 1 rfl rfl ?_
  refine g_ct X (v0 := .int (fm_isShelfT M a1)) (st := []) (ok_V X (k0 := 138) (As := [.int a1]) wkX11_isShelf (tm_isShelfT M a1) rfl k_138 s_138 (by decide) rfl m_5_146 rfl (hRm (by decide) (by decide)) ⟨Nat.zero_le _, Nat.zero_le _⟩ (Nat.le_of_ble_eq_true rfl) dX11_show_2) ?_
  refine g_if_eq X 21 (by decide) dX11_show_5 (fun q5 => ?_) (fun q5 => ?_)
  · refine g_aload_n X dX11_show_21 0 rfl rfl ?_
    refine g_bipush X dX11_show_22 bi_m2 ?_
    refine g_cs X (st := []) (fun _ hh => ok_V X (k0 := 138) (As := [.int (-2)]) wkX11_no (tm_no M (-2) hh) rfl k_138 s_138 (by decide) rfl m_5_150 rfl (hRm (by decide) (by decide)) ⟨Nat.zero_le _, Nat.zero_le _⟩ (Nat.le_of_ble_eq_true rfl) dX11_show_24) (fun r2 M1 _ => ?_)
    exact g_iret X hr rfl dX11_show_27
  · refine g_iload_n X dX11_show_8 2 rfl rfl ?_
    refine g_iconst X dX11_show_9 ic_m1 ?_
    refine g_icmp_eq X 28 (by decide) dX11_show_10 (fun q10 => ?_) (fun q10 => ?_)
    · refine g_aload_n X dX11_show_28 0 rfl rfl ?_
      refine get_11_0 X (k := 138) k_138 s_138 m_5_57 dX11_show_29 ?_
      refine g_iload_n X dX11_show_32 1 rfl rfl ?_
      refine g_iload_n X dX11_show_33 2 rfl rfl ?_
      refine g_iast X (n := 8) (k := 139) k_139 s_139 dX11_show_34 (fun h3 => ?_)
      refine g_mlet X (fun M4 => ?_)
      refine g_iconst X dX11_show_35 ic_1 ?_
      exact g_iret X hr rfl dX11_show_36
    · refine g_aload_n X dX11_show_13 0 rfl rfl ?_
      refine g_iload_n X dX11_show_14 2 rfl rfl ?_
      refine g_ct X (v0 := .int (fm_isJettyT M a2)) (st := []) (ok_V X (k0 := 138) (As := [.int a2]) wkX11_isJetty (tm_isJettyT M a2) rfl k_138 s_138 (by decide) rfl m_5_186 rfl (hRm (by decide) (by decide)) ⟨Nat.zero_le _, Nat.zero_le _⟩ (Nat.le_of_ble_eq_true rfl) dX11_show_15) ?_
      refine g_if_ne X 28 (by decide) dX11_show_18 (fun q18 => ?_) (fun q18 => ?_)
      · refine g_aload_n X dX11_show_28 0 rfl rfl ?_
        refine get_11_0 X (k := 138) k_138 s_138 m_5_57 dX11_show_29 ?_
        refine g_iload_n X dX11_show_32 1 rfl rfl ?_
        refine g_iload_n X dX11_show_33 2 rfl rfl ?_
        refine g_iast X (n := 8) (k := 139) k_139 s_139 dX11_show_34 (fun h5 => ?_)
        refine g_mlet X (fun M6 => ?_)
        refine g_iconst X dX11_show_35 ic_1 ?_
        exact g_iret X hr rfl dX11_show_36
      · refine g_aload_n X dX11_show_21 0 rfl rfl ?_
        refine g_bipush X dX11_show_22 bi_m2 ?_
        refine g_cs X (st := []) (fun _ hh => ok_V X (k0 := 138) (As := [.int (-2)]) wkX11_no (tm_no M (-2) hh) rfl k_138 s_138 (by decide) rfl m_5_150 rfl (hRm (by decide) (by decide)) ⟨Nat.zero_le _, Nat.zero_le _⟩ (Nat.le_of_ble_eq_true rfl) dX11_show_24) (fun r8 M7 _ => ?_)
        exact g_iret X hr rfl dX11_show_27
set_option maxRecDepth 100000 in
set_option maxHeartbeats 4000000 in
theorem tm_isUnder {l : Launch} {D : va_G} {cy : Nat → ClassId} {ad : Nat → Nat} {N : Mem} (M : Mem) (a1 : Int32) (a2 : Int32) {x : Int32} (h : fm_isUnder M a1 a2 = some x) : Mt l D cy ad yX11_isUnder cX11_isUnder 3 (some .boolean) 1 [.ref (ad 138), .int a1, .int a2] ((wfM N) M) (some (.int x), (wfM N) M) := by
  refine met_of (fin := (finI M)) (lv0 := [(0, .ref (ad 138)), (1, .int a1), (2, .int a2)]) (by decide) (Nat.le_of_ble_eq_true rfl) rfl (lM N) h (fun p e s m args below meth c X hr => ?_)
  unfold fm_isUnder
  refine g_iload_n X dX11_isUnder_0 2 rfl rfl ?_
  refine g_if_eq X 9 (by decide) dX11_isUnder_1 (fun q1 => ?_) (fun q1 => ?_)
  · refine g_iconst X dX11_isUnder_9 ic_1 ?_
    exact g_zret X hr (isB_n (by decide)) rfl dX11_isUnder_10
  · refine g_iload_n X dX11_isUnder_4 1 rfl rfl ?_
    refine g_iload_n X dX11_isUnder_5 2 rfl rfl ?_
    refine g_icmp_ne X 11 (by decide) dX11_isUnder_6 (fun q6 => ?_) (fun q6 => ?_)
    · refine g_iload_n X dX11_isUnder_11 2 rfl rfl ?_
      refine g_iconst X dX11_isUnder_12 ic_1 ?_
      refine g_icmp_ne X 21 (by decide) dX11_isUnder_13 (fun q13 => ?_) (fun q13 => ?_)
      · refine g_iload_n X dX11_isUnder_21 2 rfl rfl ?_
        refine g_iconst X dX11_isUnder_22 ic_3 ?_
        refine g_icmp_ne X 35 (by decide) dX11_isUnder_23 (fun q23 => ?_) (fun q23 => ?_)
        · refine g_iconst X dX11_isUnder_35 ic_0 ?_
          exact g_zret X hr (isB_n (by decide)) rfl dX11_isUnder_36
        · refine g_iload_n X dX11_isUnder_26 1 rfl rfl ?_
          refine g_iconst X dX11_isUnder_27 ic_4 ?_
          refine g_icmp_ne X 35 (by decide) dX11_isUnder_28 (fun q28 => ?_) (fun q28 => ?_)
          · refine g_iconst X dX11_isUnder_35 ic_0 ?_
            exact g_zret X hr (isB_n (by decide)) rfl dX11_isUnder_36
          · refine g_iconst X dX11_isUnder_31 ic_1 ?_
            refine g_goto X 36 (by decide) dX11_isUnder_32 ?_
            exact g_zret X hr (isB_n (by decide)) rfl dX11_isUnder_36
      · refine g_iload_n X dX11_isUnder_16 1 rfl rfl ?_
        refine g_iconst X dX11_isUnder_17 ic_2 ?_
        refine g_icmp_eq X 31 (by decide) dX11_isUnder_18 (fun q18 => ?_) (fun q18 => ?_)
        · refine g_iconst X dX11_isUnder_31 ic_1 ?_
          refine g_goto X 36 (by decide) dX11_isUnder_32 ?_
          exact g_zret X hr (isB_n (by decide)) rfl dX11_isUnder_36
        · refine g_iload_n X dX11_isUnder_21 2 rfl rfl ?_
          refine g_iconst X dX11_isUnder_22 ic_3 ?_
          refine g_icmp_ne X 35 (by decide) dX11_isUnder_23 (fun q23 => ?_) (fun q23 => ?_)
          · refine g_iconst X dX11_isUnder_35 ic_0 ?_
            exact g_zret X hr (isB_n (by decide)) rfl dX11_isUnder_36
          · refine g_iload_n X dX11_isUnder_26 1 rfl rfl ?_
            refine g_iconst X dX11_isUnder_27 ic_4 ?_
            refine g_icmp_ne X 35 (by decide) dX11_isUnder_28 (fun q28 => ?_) (fun q28 => ?_)
            · refine g_iconst X dX11_isUnder_35 ic_0 ?_
              exact g_zret X hr (isB_n (by decide)) rfl dX11_isUnder_36
            · refine g_iconst X dX11_isUnder_31 ic_1 ?_
              refine g_goto X 36 (by decide) dX11_isUnder_32 ?_
              exact g_zret X hr (isB_n (by decide)) rfl dX11_isUnder_36
    · refine g_iconst X dX11_isUnder_9 ic_1 ?_
      exact g_zret X hr (isB_n (by decide)) rfl dX11_isUnder_10
theorem tm_isUnderT {l : Launch} {D : va_G} {cy : Nat → ClassId} {ad : Nat → Nat} {N : Mem} (M : Mem) (a1 : Int32) (a2 : Int32) : Mt l D cy ad yX11_isUnder cX11_isUnder 3 (some .boolean) 1 [.ref (ad 138), .int a1, .int a2] ((wfM N) M) (some (.int (fm_isUnderT M a1 a2)), (wfM N) M) := tm_isUnder M a1 a2 (fm_isUnderE M a1 a2)
set_option maxRecDepth 100000 in
set_option maxHeartbeats 4000000 in
theorem tm_riseAt {l : Launch} {D : va_G} {cy : Nat → ClassId} {ad : Nat → Nat} {N : Mem} (M : Mem) (a1 : Int32) (a2 : Int32) {x : Int32} (h : fm_riseAt M a1 a2 = some x) : Mt l D cy ad yX11_riseAt cX11_riseAt 6 (some .int) 1 [.ref (ad 138), .int a1, .int a2] ((wfM N) M) (some (.int x), (wfM N) M) := by
  refine met_of (fin := (finI M)) (lv0 := [(0, .ref (ad 138)), (1, .int a1), (2, .int a2)]) (by decide) (Nat.le_of_ble_eq_true rfl) rfl (lM N) h (fun p e s m args below meth c X hr => ?_)
  unfold fm_riseAt
  refine g_aload_n X dX11_riseAt_0 0 rfl rfl ?_
  refine get_11_3 X (k := 138) k_138 s_138 m_5_60 dX11_riseAt_1 ?_
  refine g_iload_n X dX11_riseAt_4 1 rfl rfl ?_
  refine g_iald X (n := 20) (k := 142) k_142 s_142 dX11_riseAt_5 (fun h1 => ?_)
  refine g_ilet X (fun v2 => ?_)
  refine g_istore_n X dX11_riseAt_6 rfl (by decide) rfl [1, 2, 3, 0] (lu := [(0, .ref (ad 138)), (1, .int a1), (2, .int a2), (3, .int v2)]) rfl ?_
  refine g_aload_n X dX11_riseAt_7 0 rfl rfl ?_
  refine get_11_6 X (k := 138) k_138 s_138 m_5_63 dX11_riseAt_8 ?_
  refine g_iload_n X dX11_riseAt_11 1 rfl rfl ?_
  refine g_iald X (n := 20) (k := 145) k_145 s_145 dX11_riseAt_12 (fun h3 => ?_)
  refine g_ilet X (fun v4 => ?_)
  refine g_istore X dX11_riseAt_13 (by decide) rfl [3, 4, 0] (lu := [(2, .int a2), (3, .int v2), (4, .int v4)]) rfl ?_
  refine g_iload_n X dX11_riseAt_15 1 rfl rfl ?_
  refine g_iconst X dX11_riseAt_16 ic_3 ?_
  refine g_icmp_ne X 23 (by decide) dX11_riseAt_17 (fun q17 => ?_) (fun q17 => ?_)
  · refine g_iload_n X dX11_riseAt_23 1 rfl rfl ?_
    refine g_iconst X dX11_riseAt_24 ic_4 ?_
    refine g_icmp_ne X 33 (by decide) dX11_riseAt_25 (fun q25 => ?_) (fun q25 => ?_)
    · refine g_iload_n X dX11_riseAt_33 1 rfl rfl ?_
      refine g_if_eq X 42 (by decide) dX11_riseAt_34 (fun q34 => ?_) (fun q34 => ?_)
      · refine g_iload X dX11_riseAt_42 2 rfl ?_
        refine g_iload_n X dX11_riseAt_44 0 rfl rfl ?_
        refine g_isub X dX11_riseAt_45 ?_
        exact g_iret X hr rfl dX11_riseAt_46
      · refine g_iload_n X dX11_riseAt_37 1 rfl rfl ?_
        refine g_iconst X dX11_riseAt_38 ic_5 ?_
        refine g_icmp_ne X 47 (by decide) dX11_riseAt_39 (fun q39 => ?_) (fun q39 => ?_)
        · refine g_iload X dX11_riseAt_47 2 rfl ?_
          refine g_iload_n X dX11_riseAt_49 0 rfl rfl ?_
          refine g_isub X dX11_riseAt_50 ?_
          refine g_bipush X dX11_riseAt_51 bi_10 ?_
          refine g_isub X dX11_riseAt_53 ?_
          refine g_ilet X (fun v5 => ?_)
          refine g_istore X dX11_riseAt_54 (by decide) rfl [2, 0] (lu := [(3, .int v2), (5, .int v5)]) rfl ?_
          refine g_iload_n X dX11_riseAt_56 0 rfl rfl ?_
          refine g_iconst X dX11_riseAt_57 ic_2 ?_
          refine g_icmp_ne X 70 (by decide) dX11_riseAt_58 (fun q58 => ?_) (fun q58 => ?_)
          · refine g_iload X dX11_riseAt_70 1 rfl ?_
            exact g_iret X hr rfl dX11_riseAt_72
          · refine g_iload X dX11_riseAt_61 1 rfl ?_
            refine g_if_ge X 70 (by decide) dX11_riseAt_63 (fun q63 => ?_) (fun q63 => ?_)
            · refine g_iload X dX11_riseAt_70 1 rfl ?_
              exact g_iret X hr rfl dX11_riseAt_72
            · refine g_iconst X dX11_riseAt_66 ic_0 ?_
              refine g_goto X 72 (by decide) dX11_riseAt_67 ?_
              exact g_iret X hr rfl dX11_riseAt_72
        · refine g_iload X dX11_riseAt_42 2 rfl ?_
          refine g_iload_n X dX11_riseAt_44 0 rfl rfl ?_
          refine g_isub X dX11_riseAt_45 ?_
          exact g_iret X hr rfl dX11_riseAt_46
    · refine g_iload X dX11_riseAt_28 2 rfl ?_
      refine g_iconst X dX11_riseAt_30 ic_2 ?_
      refine g_idivC X dX11_riseAt_31 (by decide) ?_
      exact g_iret X hr rfl dX11_riseAt_32
  · refine g_iload X dX11_riseAt_20 2 rfl ?_
    exact g_iret X hr rfl dX11_riseAt_22
set_option maxRecDepth 100000 in
set_option maxHeartbeats 4000000 in
theorem tm_paces {l : Launch} {D : va_G} {cy : Nat → ClassId} {ad : Nat → Nat} {N : Mem} (M : Mem) (a1 : Int32) {x : Int32} (h : fm_paces M a1 = some x) : Mt l D cy ad yX11_paces cX11_paces 4 (some .int) 1 [.ref (ad 138), .int a1] ((wfM N) M) (some (.int x), (wfM N) M) := by
  refine met_of (fin := (finI M)) (lv0 := [(0, .ref (ad 138)), (1, .int a1)]) (by decide) (Nat.le_of_ble_eq_true rfl) rfl (lM N) h (fun p e s m args below meth c X hr => ?_)
  unfold fm_paces
  refine g_aload_n X dX11_paces_0 0 rfl rfl ?_
  refine get_11_3 X (k := 138) k_138 s_138 m_5_60 dX11_paces_1 ?_
  refine g_iload_n X dX11_paces_4 1 rfl rfl ?_
  refine g_iald X (n := 20) (k := 142) k_142 s_142 dX11_paces_5 (fun h1 => ?_)
  refine g_ilet X (fun v2 => ?_)
  refine g_istore_n X dX11_paces_6 rfl (by decide) rfl [1, 2, 0] (lu := [(0, .ref (ad 138)), (1, .int a1), (2, .int v2)]) rfl ?_
  refine g_aload_n X dX11_paces_7 0 rfl rfl ?_
  refine get_11_5 X (k := 138) k_138 s_138 m_5_62 dX11_paces_8 ?_
  refine g_iload_n X dX11_paces_11 1 rfl rfl ?_
  refine g_iald X (n := 20) (k := 144) k_144 s_144 dX11_paces_12 (fun h3 => ?_)
  refine g_ilet X (fun v4 => ?_)
  refine g_istore_n X dX11_paces_13 rfl (by decide) rfl [3, 0] (lu := [(2, .int v2), (3, .int v4)]) rfl ?_
  refine g_iload_n X dX11_paces_14 0 rfl rfl ?_
  refine g_if_eq X 23 (by decide) dX11_paces_15 (fun q15 => ?_) (fun q15 => ?_)
  · refine g_iload_n X dX11_paces_23 1 rfl rfl ?_
    exact g_iret X hr rfl dX11_paces_24
  · refine g_iload_n X dX11_paces_18 0 rfl rfl ?_
    refine g_iconst X dX11_paces_19 ic_3 ?_
    refine g_icmp_ne X 25 (by decide) dX11_paces_20 (fun q20 => ?_) (fun q20 => ?_)
    · refine g_iload_n X dX11_paces_25 0 rfl rfl ?_
      refine g_iconst X dX11_paces_26 ic_1 ?_
      refine g_icmp_ne X 34 (by decide) dX11_paces_27 (fun q27 => ?_) (fun q27 => ?_)
      · refine g_iload_n X dX11_paces_34 0 rfl rfl ?_
        refine g_iconst X dX11_paces_35 ic_2 ?_
        refine g_icmp_ne X 45 (by decide) dX11_paces_36 (fun q36 => ?_) (fun q36 => ?_)
        · refine g_iload_n X dX11_paces_45 0 rfl rfl ?_
          refine g_iconst X dX11_paces_46 ic_4 ?_
          refine g_icmp_ne X 56 (by decide) dX11_paces_47 (fun q47 => ?_) (fun q47 => ?_)
          · refine g_iconst X dX11_paces_56 ic_1 ?_
            exact g_iret X hr rfl dX11_paces_57
          · refine g_iload_n X dX11_paces_50 1 rfl rfl ?_
            refine g_iconst X dX11_paces_51 ic_2 ?_
            refine g_iadd X dX11_paces_52 ?_
            refine g_goto X 57 (by decide) dX11_paces_53 ?_
            exact g_iret X hr rfl dX11_paces_57
        · refine g_iconst X dX11_paces_39 ic_2 ?_
          refine g_iload_n X dX11_paces_40 1 rfl rfl ?_
          refine g_imul X dX11_paces_41 ?_
          refine g_iconst X dX11_paces_42 ic_4 ?_
          refine g_iadd X dX11_paces_43 ?_
          exact g_iret X hr rfl dX11_paces_44
      · refine g_iconst X dX11_paces_30 ic_2 ?_
        refine g_iload_n X dX11_paces_31 1 rfl rfl ?_
        refine g_imul X dX11_paces_32 ?_
        exact g_iret X hr rfl dX11_paces_33
    · refine g_iload_n X dX11_paces_23 1 rfl rfl ?_
      exact g_iret X hr rfl dX11_paces_24
set_option maxRecDepth 100000 in
set_option maxHeartbeats 4000000 in
theorem tm_says {l : Launch} {D : va_G} {cy : Nat → ClassId} {ad : Nat → Nat} {N : Mem} (M : Mem) (a1 : Int32) (a2 : Int32) {x : (Int32 × Mem)} (h : fm_says M a1 a2 = some x) : Mt l D cy ad yX11_says cX11_says 4 (some .int) 2 [.ref (ad 138), .int a1, .int a2] ((wfM N) M) (some (.int x.1), (wfM N) x.2) := by
  refine met_of (fin := finS) (lv0 := [(0, .ref (ad 138)), (1, .int a1), (2, .int a2)]) (by decide) (Nat.le_of_ble_eq_true rfl) rfl (lM N) h (fun p e s m args below meth c X hr => ?_)
  unfold fm_says
  refine g_aload_n X dX11_says_0 0 rfl rfl ?_
  refine g_iload_n X dX11_says_1 1 rfl rfl ?_
  refine g_ct X (v0 := .int (fm_isShelfT M a1)) (st := []) (ok_V X (k0 := 138) (As := [.int a1]) wkX11_isShelf (tm_isShelfT M a1) rfl k_138 s_138 (by decide) rfl m_5_146 rfl (hRm (by decide) (by decide)) ⟨Nat.zero_le _, Nat.zero_le _⟩ (Nat.le_of_ble_eq_true rfl) dX11_says_2) ?_
  refine g_if_eq X 17 (by decide) dX11_says_5 (fun q5 => ?_) (fun q5 => ?_)
  · refine g_aload_n X dX11_says_17 0 rfl rfl ?_
    refine g_bipush X dX11_says_18 bi_m2 ?_
    refine g_cs X (st := []) (fun _ hh => ok_V X (k0 := 138) (As := [.int (-2)]) wkX11_no (tm_no M (-2) hh) rfl k_138 s_138 (by decide) rfl m_5_150 rfl (hRm (by decide) (by decide)) ⟨Nat.zero_le _, Nat.zero_le _⟩ (Nat.le_of_ble_eq_true rfl) dX11_says_20) (fun r2 M1 _ => ?_)
    exact g_iret X hr rfl dX11_says_23
  · refine g_iload_n X dX11_says_8 2 rfl rfl ?_
    refine g_if_lt X 17 (by decide) dX11_says_9 (fun q9 => ?_) (fun q9 => ?_)
    · refine g_aload_n X dX11_says_17 0 rfl rfl ?_
      refine g_bipush X dX11_says_18 bi_m2 ?_
      refine g_cs X (st := []) (fun _ hh => ok_V X (k0 := 138) (As := [.int (-2)]) wkX11_no (tm_no M (-2) hh) rfl k_138 s_138 (by decide) rfl m_5_150 rfl (hRm (by decide) (by decide)) ⟨Nat.zero_le _, Nat.zero_le _⟩ (Nat.le_of_ble_eq_true rfl) dX11_says_20) (fun r4 M3 _ => ?_)
      exact g_iret X hr rfl dX11_says_23
    · refine g_iload_n X dX11_says_12 2 rfl rfl ?_
      refine g_iconst X dX11_says_13 ic_5 ?_
      refine g_icmp_le X 24 (by decide) dX11_says_14 (fun q14 => ?_) (fun q14 => ?_)
      · refine g_aload_n X dX11_says_24 0 rfl rfl ?_
        refine g_iload_n X dX11_says_25 1 rfl rfl ?_
        refine g_ci X (st := []) (fun _ hh => ok_V X (k0 := 138) (As := [.int a1]) wkX11_isRow (tm_isRow M a1 hh) rfl k_138 s_138 (by decide) rfl m_5_170 rfl (hRm (by decide) (by decide)) ⟨Nat.zero_le _, Nat.zero_le _⟩ (Nat.le_of_ble_eq_true rfl) dX11_says_26) (fun r5 _ => ?_)
        refine g_if_eq X 39 (by decide) dX11_says_29 (fun q29 => ?_) (fun q29 => ?_)
        · refine g_aload_n X dX11_says_39 0 rfl rfl ?_
          refine get_11_0 X (k := 138) k_138 s_138 m_5_57 dX11_says_40 ?_
          refine g_iload_n X dX11_says_43 1 rfl rfl ?_
          refine g_iald X (n := 8) (k := 139) k_139 s_139 dX11_says_44 (fun h6 => ?_)
          refine g_if_ge X 55 (by decide) dX11_says_45 (fun q45 => ?_) (fun q45 => ?_)
          · refine g_aload_n X dX11_says_55 0 rfl rfl ?_
            refine get_11_0 X (k := 138) k_138 s_138 m_5_57 dX11_says_56 ?_
            refine g_iload_n X dX11_says_59 1 rfl rfl ?_
            refine g_iald X (n := 8) (k := 139) k_139 s_139 dX11_says_60 (fun h7 => ?_)
            refine g_ilet X (fun v8 => ?_)
            refine g_istore_n X dX11_says_61 rfl (by decide) rfl [1, 3, 0] (lu := [(0, .ref (ad 138)), (2, .int a2), (3, .int v8)]) rfl ?_
            refine g_aload_n X dX11_says_62 0 rfl rfl ?_
            refine g_aload_n X dX11_says_63 0 rfl rfl ?_
            refine get_11_3 X (k := 138) k_138 s_138 m_5_60 dX11_says_64 ?_
            refine g_iload_n X dX11_says_67 2 rfl rfl ?_
            refine g_iald X (n := 20) (k := 142) k_142 s_142 dX11_says_68 (fun h9 => ?_)
            refine g_iload_n X dX11_says_69 1 rfl rfl ?_
            refine g_ct X (v0 := .int (fm_isUnderT M (M.1 142 (ix v8)) a2)) (st := []) (ok_V X (k0 := 138) (As := [.int (M.1 142 (ix v8)), .int a2]) wkX11_isUnder (tm_isUnderT M (M.1 142 (ix v8)) a2) rfl k_138 s_138 (by decide) rfl m_5_194 rfl (hRm (by decide) (by decide)) ⟨Nat.zero_le _, Nat.zero_le _⟩ (Nat.le_of_ble_eq_true rfl) dX11_says_70) ?_
            refine g_if_ne X 83 (by decide) dX11_says_73 (fun q73 => ?_) (fun q73 => ?_)
            · refine g_iload_n X dX11_says_83 1 rfl rfl ?_
              refine g_if_ne X 94 (by decide) dX11_says_84 (fun q84 => ?_) (fun q84 => ?_)
              · refine g_iload_n X dX11_says_94 1 rfl rfl ?_
                refine g_iconst X dX11_says_95 ic_3 ?_
                refine g_icmp_ge X 105 (by decide) dX11_says_96 (fun q96 => ?_) (fun q96 => ?_)
                · refine g_iload_n X dX11_says_105 1 rfl rfl ?_
                  refine g_iconst X dX11_says_106 ic_5 ?_
                  refine g_icmp_ge X 124 (by decide) dX11_says_107 (fun q107 => ?_) (fun q107 => ?_)
                  · refine g_aload_n X dX11_says_124 0 rfl rfl ?_
                    refine get_11_7 X (k := 138) k_138 s_138 m_5_64 dX11_says_125 ?_
                    refine g_iload_n X dX11_says_128 2 rfl rfl ?_
                    refine g_iald X (n := 20) (k := 146) k_146 s_146 dX11_says_129 (fun h10 => ?_)
                    exact g_iret X hr rfl dX11_says_130
                  · refine g_aload_n X dX11_says_110 0 rfl rfl ?_
                    refine g_iload_n X dX11_says_111 2 rfl rfl ?_
                    refine g_aload_n X dX11_says_112 0 rfl rfl ?_
                    refine get_11_18 X (k := 138) k_138 s_138 m_5_75 dX11_says_113 ?_
                    refine g_iconst X dX11_says_116 ic_5 ?_
                    refine g_ialdC X (n := 9) (k := 156) k_156 s_156 (by decide) dX11_says_117 ?_
                    refine g_ci X (st := []) (fun _ hh => ok_V X (k0 := 138) (As := [.int v8, .int (M.1 156 (ix 5))]) wkX11_riseAt (tm_riseAt M v8 (M.1 156 (ix 5)) hh) rfl k_138 s_138 (by decide) rfl m_5_202 rfl (hRm (by decide) (by decide)) ⟨Nat.zero_le _, Nat.zero_le _⟩ (Nat.le_of_ble_eq_true rfl) dX11_says_118) (fun r12 _ => ?_)
                    refine g_goto X 130 (by decide) dX11_says_121 ?_
                    exact g_iret X hr rfl dX11_says_130
                · refine g_aload_n X dX11_says_99 0 rfl rfl ?_
                  refine g_iload_n X dX11_says_100 2 rfl rfl ?_
                  refine g_ci X (st := []) (fun _ hh => ok_V X (k0 := 138) (As := [.int v8]) wkX11_paces (tm_paces M v8 hh) rfl k_138 s_138 (by decide) rfl m_5_198 rfl (hRm (by decide) (by decide)) ⟨Nat.zero_le _, Nat.zero_le _⟩ (Nat.le_of_ble_eq_true rfl) dX11_says_101) (fun r13 _ => ?_)
                  exact g_iret X hr rfl dX11_says_104
              · refine g_aload_n X dX11_says_87 0 rfl rfl ?_
                refine get_11_4 X (k := 138) k_138 s_138 m_5_61 dX11_says_88 ?_
                refine g_iload_n X dX11_says_91 2 rfl rfl ?_
                refine g_iald X (n := 20) (k := 143) k_143 s_143 dX11_says_92 (fun h14 => ?_)
                exact g_iret X hr rfl dX11_says_93
            · refine g_aload_n X dX11_says_76 0 rfl rfl ?_
              refine g_bipush X dX11_says_77 bi_m3 ?_
              refine g_cs X (st := []) (fun _ hh => ok_V X (k0 := 138) (As := [.int (-3)]) wkX11_no (tm_no M (-3) hh) rfl k_138 s_138 (by decide) rfl m_5_150 rfl (hRm (by decide) (by decide)) ⟨Nat.zero_le _, Nat.zero_le _⟩ (Nat.le_of_ble_eq_true rfl) dX11_says_79) (fun r16 M15 _ => ?_)
              exact g_iret X hr rfl dX11_says_82
          · refine g_aload_n X dX11_says_48 0 rfl rfl ?_
            refine g_bipush X dX11_says_49 bi_m4 ?_
            refine g_cs X (st := []) (fun _ hh => ok_V X (k0 := 138) (As := [.int (-4)]) wkX11_no (tm_no M (-4) hh) rfl k_138 s_138 (by decide) rfl m_5_150 rfl (hRm (by decide) (by decide)) ⟨Nat.zero_le _, Nat.zero_le _⟩ (Nat.le_of_ble_eq_true rfl) dX11_says_51) (fun r18 M17 _ => ?_)
            exact g_iret X hr rfl dX11_says_54
        · refine g_aload_n X dX11_says_32 0 rfl rfl ?_
          refine g_bipush X dX11_says_33 bi_m3 ?_
          refine g_cs X (st := []) (fun _ hh => ok_V X (k0 := 138) (As := [.int (-3)]) wkX11_no (tm_no M (-3) hh) rfl k_138 s_138 (by decide) rfl m_5_150 rfl (hRm (by decide) (by decide)) ⟨Nat.zero_le _, Nat.zero_le _⟩ (Nat.le_of_ble_eq_true rfl) dX11_says_35) (fun r20 M19 _ => ?_)
          exact g_iret X hr rfl dX11_says_38
      · refine g_aload_n X dX11_says_17 0 rfl rfl ?_
        refine g_bipush X dX11_says_18 bi_m2 ?_
        refine g_cs X (st := []) (fun _ hh => ok_V X (k0 := 138) (As := [.int (-2)]) wkX11_no (tm_no M (-2) hh) rfl k_138 s_138 (by decide) rfl m_5_150 rfl (hRm (by decide) (by decide)) ⟨Nat.zero_le _, Nat.zero_le _⟩ (Nat.le_of_ble_eq_true rfl) dX11_says_20) (fun r22 M21 _ => ?_)
        exact g_iret X hr rfl dX11_says_23
set_option maxRecDepth 100000 in
set_option maxHeartbeats 4000000 in
theorem tm_isSpot {l : Launch} {D : va_G} {cy : Nat → ClassId} {ad : Nat → Nat} {N : Mem} (M : Mem) (a1 : Int32) {x : Int32} (h : fm_isSpot M a1 = some x) : Mt l D cy ad yX11_isSpot cX11_isSpot 2 (some .boolean) 1 [.ref (ad 138), .int a1] ((wfM N) M) (some (.int x), (wfM N) M) := by
  refine met_of (fin := (finI M)) (lv0 := [(0, .ref (ad 138)), (1, .int a1)]) (by decide) (Nat.le_of_ble_eq_true rfl) rfl (lM N) h (fun p e s m args below meth c X hr => ?_)
  unfold fm_isSpot
  refine g_iload_n X dX11_isSpot_0 1 rfl rfl ?_
  refine g_if_lt X 15 (by decide) dX11_isSpot_1 (fun q1 => ?_) (fun q1 => ?_)
  · refine g_iconst X dX11_isSpot_15 ic_0 ?_
    exact g_zret X hr (isB_n (by decide)) rfl dX11_isSpot_16
  · refine g_iload_n X dX11_isSpot_4 1 rfl rfl ?_
    refine g_sipush X dX11_isSpot_5 si_256 ?_
    refine g_icmp_ge X 15 (by decide) dX11_isSpot_8 (fun q8 => ?_) (fun q8 => ?_)
    · refine g_iconst X dX11_isSpot_15 ic_0 ?_
      exact g_zret X hr (isB_n (by decide)) rfl dX11_isSpot_16
    · refine g_iconst X dX11_isSpot_11 ic_1 ?_
      refine g_goto X 16 (by decide) dX11_isSpot_12 ?_
      exact g_zret X hr (isB_n (by decide)) rfl dX11_isSpot_16
theorem tm_isSpotT {l : Launch} {D : va_G} {cy : Nat → ClassId} {ad : Nat → Nat} {N : Mem} (M : Mem) (a1 : Int32) : Mt l D cy ad yX11_isSpot cX11_isSpot 2 (some .boolean) 1 [.ref (ad 138), .int a1] ((wfM N) M) (some (.int (fm_isSpotT M a1)), (wfM N) M) := tm_isSpot M a1 (fm_isSpotE M a1)
set_option maxRecDepth 100000 in
set_option maxHeartbeats 4000000 in
theorem tm_jetty {l : Launch} {D : va_G} {cy : Nat → ClassId} {ad : Nat → Nat} {N : Mem} (M : Mem) (a1 : Int32) (a2 : Int32) (a3 : Int32) (a4 : Int32) {x : (Int32 × Mem)} (h : fm_jetty M a1 a2 a3 a4 = some x) : Mt l D cy ad yX11_jetty cX11_jetty 6 (some .int) 2 [.ref (ad 138), .int a1, .int a2, .int a3, .int a4] ((wfM N) M) (some (.int x.1), (wfM N) x.2) := by
  refine met_of (fin := finS) (lv0 := [(0, .ref (ad 138)), (1, .int a1), (2, .int a2), (3, .int a3), (4, .int a4)]) (by decide) (Nat.le_of_ble_eq_true rfl) rfl (lM N) h (fun p e s m args below meth c X hr => ?_)
  unfold fm_jetty
  refine g_iload_n X dX11_jetty_0 1 rfl rfl ?_
  refine g_if_lt X 40 (by decide) dX11_jetty_1 (fun q1 => ?_) (fun q1 => ?_)
  · refine g_aload_n X dX11_jetty_40 0 rfl rfl ?_
    refine g_bipush X dX11_jetty_41 bi_m2 ?_
    refine g_cs X (st := []) (fun _ hh => ok_V X (k0 := 138) (As := [.int (-2)]) wkX11_no (tm_no M (-2) hh) rfl k_138 s_138 (by decide) rfl m_5_150 rfl (hRm (by decide) (by decide)) ⟨Nat.zero_le _, Nat.zero_le _⟩ (Nat.le_of_ble_eq_true rfl) dX11_jetty_43) (fun r2 M1 _ => ?_)
    exact g_iret X hr rfl dX11_jetty_46
  · refine g_iload_n X dX11_jetty_4 1 rfl rfl ?_
    refine g_iconst X dX11_jetty_5 ic_5 ?_
    refine g_icmp_gt X 40 (by decide) dX11_jetty_6 (fun q6 => ?_) (fun q6 => ?_)
    · refine g_aload_n X dX11_jetty_40 0 rfl rfl ?_
      refine g_bipush X dX11_jetty_41 bi_m2 ?_
      refine g_cs X (st := []) (fun _ hh => ok_V X (k0 := 138) (As := [.int (-2)]) wkX11_no (tm_no M (-2) hh) rfl k_138 s_138 (by decide) rfl m_5_150 rfl (hRm (by decide) (by decide)) ⟨Nat.zero_le _, Nat.zero_le _⟩ (Nat.le_of_ble_eq_true rfl) dX11_jetty_43) (fun r4 M3 _ => ?_)
      exact g_iret X hr rfl dX11_jetty_46
    · refine g_aload_n X dX11_jetty_9 0 rfl rfl ?_
      refine g_iload_n X dX11_jetty_10 2 rfl rfl ?_
      refine g_ct X (v0 := .int (fm_isSpotT M a2)) (st := []) (ok_V X (k0 := 138) (As := [.int a2]) wkX11_isSpot (tm_isSpotT M a2) rfl k_138 s_138 (by decide) rfl m_5_210 rfl (hRm (by decide) (by decide)) ⟨Nat.zero_le _, Nat.zero_le _⟩ (Nat.le_of_ble_eq_true rfl) dX11_jetty_11) ?_
      refine g_if_eq X 40 (by decide) dX11_jetty_14 (fun q14 => ?_) (fun q14 => ?_)
      · refine g_aload_n X dX11_jetty_40 0 rfl rfl ?_
        refine g_bipush X dX11_jetty_41 bi_m2 ?_
        refine g_cs X (st := []) (fun _ hh => ok_V X (k0 := 138) (As := [.int (-2)]) wkX11_no (tm_no M (-2) hh) rfl k_138 s_138 (by decide) rfl m_5_150 rfl (hRm (by decide) (by decide)) ⟨Nat.zero_le _, Nat.zero_le _⟩ (Nat.le_of_ble_eq_true rfl) dX11_jetty_43) (fun r6 M5 _ => ?_)
        exact g_iret X hr rfl dX11_jetty_46
      · refine g_iload_n X dX11_jetty_17 3 rfl rfl ?_
        refine g_iconst X dX11_jetty_18 ic_1 ?_
        refine g_icmp_lt X 40 (by decide) dX11_jetty_19 (fun q19 => ?_) (fun q19 => ?_)
        · refine g_aload_n X dX11_jetty_40 0 rfl rfl ?_
          refine g_bipush X dX11_jetty_41 bi_m2 ?_
          refine g_cs X (st := []) (fun _ hh => ok_V X (k0 := 138) (As := [.int (-2)]) wkX11_no (tm_no M (-2) hh) rfl k_138 s_138 (by decide) rfl m_5_150 rfl (hRm (by decide) (by decide)) ⟨Nat.zero_le _, Nat.zero_le _⟩ (Nat.le_of_ble_eq_true rfl) dX11_jetty_43) (fun r8 M7 _ => ?_)
          exact g_iret X hr rfl dX11_jetty_46
        · refine g_iload_n X dX11_jetty_22 3 rfl rfl ?_
          refine g_bipush X dX11_jetty_23 bi_30 ?_
          refine g_icmp_gt X 40 (by decide) dX11_jetty_25 (fun q25 => ?_) (fun q25 => ?_)
          · refine g_aload_n X dX11_jetty_40 0 rfl rfl ?_
            refine g_bipush X dX11_jetty_41 bi_m2 ?_
            refine g_cs X (st := []) (fun _ hh => ok_V X (k0 := 138) (As := [.int (-2)]) wkX11_no (tm_no M (-2) hh) rfl k_138 s_138 (by decide) rfl m_5_150 rfl (hRm (by decide) (by decide)) ⟨Nat.zero_le _, Nat.zero_le _⟩ (Nat.le_of_ble_eq_true rfl) dX11_jetty_43) (fun r10 M9 _ => ?_)
            exact g_iret X hr rfl dX11_jetty_46
          · refine g_iload X dX11_jetty_28 4 rfl ?_
            refine g_if_lt X 40 (by decide) dX11_jetty_30 (fun q30 => ?_) (fun q30 => ?_)
            · refine g_aload_n X dX11_jetty_40 0 rfl rfl ?_
              refine g_bipush X dX11_jetty_41 bi_m2 ?_
              refine g_cs X (st := []) (fun _ hh => ok_V X (k0 := 138) (As := [.int (-2)]) wkX11_no (tm_no M (-2) hh) rfl k_138 s_138 (by decide) rfl m_5_150 rfl (hRm (by decide) (by decide)) ⟨Nat.zero_le _, Nat.zero_le _⟩ (Nat.le_of_ble_eq_true rfl) dX11_jetty_43) (fun r12 M11 _ => ?_)
              exact g_iret X hr rfl dX11_jetty_46
            · refine g_iload X dX11_jetty_33 4 rfl ?_
              refine g_bipush X dX11_jetty_35 bi_99 ?_
              refine g_icmp_le X 47 (by decide) dX11_jetty_37 (fun q37 => ?_) (fun q37 => ?_)
              · refine g_aload_n X dX11_jetty_47 0 rfl rfl ?_
                refine get_11_18 X (k := 138) k_138 s_138 m_5_75 dX11_jetty_48 ?_
                refine g_iconst X dX11_jetty_51 ic_0 ?_
                refine g_ialdC X (n := 9) (k := 156) k_156 s_156 (by decide) dX11_jetty_52 ?_
                refine g_bipush X dX11_jetty_53 bi_20 ?_
                refine g_icmp_ne X 65 (by decide) dX11_jetty_55 (fun q55 => ?_) (fun q55 => ?_)
                · refine g_aload_n X dX11_jetty_65 0 rfl rfl ?_
                  refine get_11_18 X (k := 138) k_138 s_138 m_5_75 dX11_jetty_66 ?_
                  refine g_iconst X dX11_jetty_69 ic_0 ?_
                  refine g_dup2 X dX11_jetty_70 rfl rfl ?_
                  refine g_ialdC X (n := 9) (k := 156) k_156 s_156 (by decide) dX11_jetty_71 ?_
                  refine g_dup_x2 X dX11_jetty_72 rfl rfl rfl ?_
                  refine g_iconst X dX11_jetty_73 ic_1 ?_
                  refine g_iadd X dX11_jetty_74 ?_
                  refine g_iastC X (n := 9) (k := 156) k_156 s_156 (by decide) dX11_jetty_75 ?_
                  refine g_mlet X (fun M16 => ?_)
                  refine g_ilet X (fun v17 => ?_)
                  refine g_istore X dX11_jetty_76 (by decide) rfl [1, 2, 3, 4, 5, 0] (lu := [(0, .ref (ad 138)), (1, .int a1), (2, .int a2), (3, .int a3), (4, .int a4), (5, .int v17)]) rfl ?_
                  refine g_aload_n X dX11_jetty_78 0 rfl rfl ?_
                  refine get_11_3 X (k := 138) k_138 s_138 m_5_60 dX11_jetty_79 ?_
                  refine g_iload X dX11_jetty_82 5 rfl ?_
                  refine g_iload_n X dX11_jetty_84 1 rfl rfl ?_
                  refine g_iast X (n := 20) (k := 142) k_142 s_142 dX11_jetty_85 (fun h18 => ?_)
                  refine g_mlet X (fun M19 => ?_)
                  refine g_aload_n X dX11_jetty_86 0 rfl rfl ?_
                  refine get_11_4 X (k := 138) k_138 s_138 m_5_61 dX11_jetty_87 ?_
                  refine g_iload X dX11_jetty_90 5 rfl ?_
                  refine g_iload_n X dX11_jetty_92 2 rfl rfl ?_
                  refine g_iast X (n := 20) (k := 143) k_143 s_143 dX11_jetty_93 (fun h20 => ?_)
                  refine g_mlet X (fun M21 => ?_)
                  refine g_aload_n X dX11_jetty_94 0 rfl rfl ?_
                  refine get_11_5 X (k := 138) k_138 s_138 m_5_62 dX11_jetty_95 ?_
                  refine g_iload X dX11_jetty_98 5 rfl ?_
                  refine g_iload_n X dX11_jetty_100 3 rfl rfl ?_
                  refine g_iast X (n := 20) (k := 144) k_144 s_144 dX11_jetty_101 (fun h22 => ?_)
                  refine g_mlet X (fun M23 => ?_)
                  refine g_aload_n X dX11_jetty_102 0 rfl rfl ?_
                  refine get_11_6 X (k := 138) k_138 s_138 m_5_63 dX11_jetty_103 ?_
                  refine g_iload X dX11_jetty_106 5 rfl ?_
                  refine g_iload X dX11_jetty_108 4 rfl ?_
                  refine g_iast X (n := 20) (k := 145) k_145 s_145 dX11_jetty_110 (fun h24 => ?_)
                  refine g_mlet X (fun M25 => ?_)
                  refine g_aload_n X dX11_jetty_111 0 rfl rfl ?_
                  refine get_11_7 X (k := 138) k_138 s_138 m_5_64 dX11_jetty_112 ?_
                  refine g_iload X dX11_jetty_115 5 rfl ?_
                  refine g_iconst X dX11_jetty_117 ic_0 ?_
                  refine g_iast X (n := 20) (k := 146) k_146 s_146 dX11_jetty_118 (fun h26 => ?_)
                  refine g_mlet X (fun M27 => ?_)
                  refine g_iload X dX11_jetty_119 5 rfl ?_
                  exact g_iret X hr rfl dX11_jetty_121
                · refine g_aload_n X dX11_jetty_58 0 rfl rfl ?_
                  refine g_bipush X dX11_jetty_59 bi_m6 ?_
                  refine g_cs X (st := []) (fun _ hh => ok_V X (k0 := 138) (As := [.int (-6)]) wkX11_no (tm_no M (-6) hh) rfl k_138 s_138 (by decide) rfl m_5_150 rfl (hRm (by decide) (by decide)) ⟨Nat.zero_le _, Nat.zero_le _⟩ (Nat.le_of_ble_eq_true rfl) dX11_jetty_61) (fun r29 M28 _ => ?_)
                  exact g_iret X hr rfl dX11_jetty_64
              · refine g_aload_n X dX11_jetty_40 0 rfl rfl ?_
                refine g_bipush X dX11_jetty_41 bi_m2 ?_
                refine g_cs X (st := []) (fun _ hh => ok_V X (k0 := 138) (As := [.int (-2)]) wkX11_no (tm_no M (-2) hh) rfl k_138 s_138 (by decide) rfl m_5_150 rfl (hRm (by decide) (by decide)) ⟨Nat.zero_le _, Nat.zero_le _⟩ (Nat.le_of_ble_eq_true rfl) dX11_jetty_43) (fun r31 M30 _ => ?_)
                exact g_iret X hr rfl dX11_jetty_46
set_option maxRecDepth 100000 in
set_option maxHeartbeats 4000000 in
theorem tm_first {l : Launch} {D : va_G} {cy : Nat → ClassId} {ad : Nat → Nat} {N : Mem} (M : Mem) (a1 : Int32) {x : Int32} (h : fm_first M a1 = some x) : Mt l D cy ad yX11_first cX11_first 2 (some .int) 1 [.ref (ad 138), .int a1] ((wfM N) M) (some (.int x), (wfM N) M) := by
  refine met_of (fin := (finI M)) (lv0 := [(0, .ref (ad 138)), (1, .int a1)]) (by decide) (Nat.le_of_ble_eq_true rfl) rfl (lM N) h (fun p e s m args below meth c X hr => ?_)
  unfold fm_first
  refine g_iload_n X dX11_first_0 1 rfl rfl ?_
  refine g_if_ne X 7 (by decide) dX11_first_1 (fun q1 => ?_) (fun q1 => ?_)
  · refine g_iload_n X dX11_first_7 1 rfl rfl ?_
    refine g_iconst X dX11_first_8 ic_1 ?_
    refine g_icmp_eq X 18 (by decide) dX11_first_9 (fun q9 => ?_) (fun q9 => ?_)
    · refine g_iconst X dX11_first_18 ic_4 ?_
      exact g_iret X hr rfl dX11_first_19
    · refine g_iload_n X dX11_first_12 1 rfl rfl ?_
      refine g_bipush X dX11_first_13 bi_7 ?_
      refine g_icmp_ne X 20 (by decide) dX11_first_15 (fun q15 => ?_) (fun q15 => ?_)
      · refine g_iload_n X dX11_first_20 1 rfl rfl ?_
        refine g_iconst X dX11_first_21 ic_2 ?_
        refine g_icmp_ne X 27 (by decide) dX11_first_22 (fun q22 => ?_) (fun q22 => ?_)
        · refine g_iload_n X dX11_first_27 1 rfl rfl ?_
          refine g_iconst X dX11_first_28 ic_3 ?_
          refine g_icmp_eq X 37 (by decide) dX11_first_29 (fun q29 => ?_) (fun q29 => ?_)
          · refine g_iconst X dX11_first_37 ic_3 ?_
            exact g_iret X hr rfl dX11_first_38
          · refine g_iload_n X dX11_first_32 1 rfl rfl ?_
            refine g_iconst X dX11_first_33 ic_4 ?_
            refine g_icmp_ne X 39 (by decide) dX11_first_34 (fun q34 => ?_) (fun q34 => ?_)
            · refine g_iload_n X dX11_first_39 1 rfl rfl ?_
              refine g_iconst X dX11_first_40 ic_5 ?_
              refine g_icmp_ne X 47 (by decide) dX11_first_41 (fun q41 => ?_) (fun q41 => ?_)
              · refine g_iload_n X dX11_first_47 1 rfl rfl ?_
                refine g_bipush X dX11_first_48 bi_6 ?_
                refine g_icmp_ne X 58 (by decide) dX11_first_50 (fun q50 => ?_) (fun q50 => ?_)
                · refine g_iconst X dX11_first_58 ic_2 ?_
                  exact g_iret X hr rfl dX11_first_59
                · refine g_bipush X dX11_first_53 bi_20 ?_
                  refine g_goto X 59 (by decide) dX11_first_55 ?_
                  exact g_iret X hr rfl dX11_first_59
              · refine g_bipush X dX11_first_44 bi_40 ?_
                exact g_iret X hr rfl dX11_first_46
            · refine g_iconst X dX11_first_37 ic_3 ?_
              exact g_iret X hr rfl dX11_first_38
        · refine g_iconst X dX11_first_25 ic_5 ?_
          exact g_iret X hr rfl dX11_first_26
      · refine g_iconst X dX11_first_18 ic_4 ?_
        exact g_iret X hr rfl dX11_first_19
  · refine g_bipush X dX11_first_4 bi_40 ?_
    exact g_iret X hr rfl dX11_first_6
theorem tm_firstT {l : Launch} {D : va_G} {cy : Nat → ClassId} {ad : Nat → Nat} {N : Mem} (M : Mem) (a1 : Int32) : Mt l D cy ad yX11_first cX11_first 2 (some .int) 1 [.ref (ad 138), .int a1] ((wfM N) M) (some (.int (fm_firstT M a1)), (wfM N) M) := tm_first M a1 (fm_firstE M a1)
set_option maxRecDepth 100000 in
set_option maxHeartbeats 4000000 in
theorem tm_says1 {l : Launch} {D : va_G} {cy : Nat → ClassId} {ad : Nat → Nat} {N : Mem} (M : Mem) (a1 : Int32) {x : Int32} (h : fm_says1 M a1 = some x) : Mt l D cy ad yX11_says_ cX11_says_ 2 (some .int) 2 [.ref (ad 138), .int a1] ((wfM N) M) (some (.int x), (wfM N) M) := by
  refine met_of (fin := (finI M)) (lv0 := [(0, .ref (ad 138)), (1, .int a1)]) (by decide) (Nat.le_of_ble_eq_true rfl) rfl (lM N) h (fun p e s m args below meth c X hr => ?_)
  unfold fm_says1
  refine g_aload_n X dX11_says__0 0 rfl rfl ?_
  refine get_11_18 X (k := 138) k_138 s_138 m_5_75 dX11_says__1 ?_
  refine g_iconst X dX11_says__4 ic_4 ?_
  refine g_ialdC X (n := 9) (k := 156) k_156 s_156 (by decide) dX11_says__5 ?_
  refine g_if_lt X 26 (by decide) dX11_says__6 (fun q6 => ?_) (fun q6 => ?_)
  · refine g_aload_n X dX11_says__26 0 rfl rfl ?_
    refine g_iload_n X dX11_says__27 1 rfl rfl ?_
    refine g_ct X (v0 := .int (fm_firstT M a1)) (st := []) (ok_V X (k0 := 138) (As := [.int a1]) wkX11_first (tm_firstT M a1) rfl k_138 s_138 (by decide) rfl m_5_234 rfl (hRm (by decide) (by decide)) ⟨Nat.zero_le _, Nat.zero_le _⟩ (Nat.le_of_ble_eq_true rfl) dX11_says__28) ?_
    exact g_iret X hr rfl dX11_says__31
  · refine g_aload_n X dX11_says__9 0 rfl rfl ?_
    refine get_11_10 X (k := 138) k_138 s_138 m_5_67 dX11_says__10 ?_
    refine g_bipush X dX11_says__13 bi_9 ?_
    refine g_aload_n X dX11_says__15 0 rfl rfl ?_
    refine get_11_18 X (k := 138) k_138 s_138 m_5_75 dX11_says__16 ?_
    refine g_iconst X dX11_says__19 ic_4 ?_
    refine g_ialdC X (n := 9) (k := 156) k_156 s_156 (by decide) dX11_says__20 ?_
    refine g_imul X dX11_says__21 ?_
    refine g_iload_n X dX11_says__22 1 rfl rfl ?_
    refine g_iadd X dX11_says__23 ?_
    refine g_iald X (n := 54) (k := 148) k_148 s_148 dX11_says__24 (fun h3 => ?_)
    exact g_iret X hr rfl dX11_says__25
set_option maxRecDepth 100000 in
set_option maxHeartbeats 4000000 in
theorem tm_isTimeAt {l : Launch} {D : va_G} {cy : Nat → ClassId} {ad : Nat → Nat} {N : Mem} (M : Mem) (a1 : Int32) (a2 : Int32) {x : Int32} (h : fm_isTimeAt M a1 a2 = some x) : Mt l D cy ad yX11_isTimeAt cX11_isTimeAt 4 (some .boolean) 3 [.ref (ad 138), .int a1, .int a2] ((wfM N) M) (some (.int x), (wfM N) M) := by
  refine met_of (fin := (finI M)) (lv0 := [(0, .ref (ad 138)), (1, .int a1), (2, .int a2)]) (by decide) (Nat.le_of_ble_eq_true rfl) rfl (lM N) h (fun p e s m args below meth c X hr => ?_)
  unfold fm_isTimeAt
  refine g_aload_n X dX11_isTimeAt_0 0 rfl rfl ?_
  refine g_iconst X dX11_isTimeAt_1 ic_2 ?_
  refine g_ci X (st := []) (fun _ hh => ok_V X (k0 := 138) (As := [.int 2]) wkX11_says_ (tm_says1 M 2 hh) rfl k_138 s_138 (by decide) rfl m_5_230 rfl (hRm (by decide) (by decide)) ⟨Nat.zero_le _, Nat.zero_le _⟩ (Nat.le_of_ble_eq_true rfl) dX11_isTimeAt_2) (fun r1 _ => ?_)
  refine g_istore_n X dX11_isTimeAt_5 rfl (by decide) rfl [1, 2, 3, 0] (lu := [(0, .ref (ad 138)), (1, .int a1), (2, .int a2), (3, .int r1)]) rfl ?_
  refine g_iconst X dX11_isTimeAt_6 ic_2 ?_
  refine g_aload_n X dX11_isTimeAt_7 0 rfl rfl ?_
  refine g_iload_n X dX11_isTimeAt_8 1 rfl rfl ?_
  refine g_ci X (st := [.int 2]) (fun _ hh => ok_V X (k0 := 138) (As := [.int a1]) wkX11_paces (tm_paces M a1 hh) rfl k_138 s_138 (by decide) rfl m_5_198 rfl (hRm (by decide) (by decide)) ⟨Nat.zero_le _, Nat.zero_le _⟩ (Nat.le_of_ble_eq_true rfl) dX11_isTimeAt_9) (fun r2 _ => ?_)
  refine g_imul X dX11_isTimeAt_12 ?_
  refine g_iload_n X dX11_isTimeAt_13 3 rfl rfl ?_
  refine g_iadd X dX11_isTimeAt_14 ?_
  refine g_iconst X dX11_isTimeAt_15 ic_1 ?_
  refine g_isub X dX11_isTimeAt_16 ?_
  refine g_iload_n X dX11_isTimeAt_17 3 rfl rfl ?_
  refine g_idiv X dX11_isTimeAt_18 (fun _ => ?_)
  refine g_aload_n X dX11_isTimeAt_19 0 rfl rfl ?_
  refine g_iconst X dX11_isTimeAt_20 ic_3 ?_
  refine g_ci X (st := [.int (((((2 : Int32) * r2) + r1) - 1) / r1)]) (fun _ hh => ok_V X (k0 := 138) (As := [.int 3]) wkX11_says_ (tm_says1 M 3 hh) rfl k_138 s_138 (by decide) rfl m_5_230 rfl (hRm (by decide) (by decide)) ⟨Nat.zero_le _, Nat.zero_le _⟩ (Nat.le_of_ble_eq_true rfl) dX11_isTimeAt_21) (fun r3 _ => ?_)
  refine g_iadd X dX11_isTimeAt_24 ?_
  refine g_aload_n X dX11_isTimeAt_25 0 rfl rfl ?_
  refine g_iconst X dX11_isTimeAt_26 ic_0 ?_
  refine g_ci X (st := [.int ((((((2 : Int32) * r2) + r1) - 1) / r1) + r3)]) (fun _ hh => ok_V X (k0 := 138) (As := [.int 0]) wkX11_says_ (tm_says1 M 0 hh) rfl k_138 s_138 (by decide) rfl m_5_230 rfl (hRm (by decide) (by decide)) ⟨Nat.zero_le _, Nat.zero_le _⟩ (Nat.le_of_ble_eq_true rfl) dX11_isTimeAt_27) (fun r4 _ => ?_)
  refine g_iload_n X dX11_isTimeAt_30 2 rfl rfl ?_
  refine g_idiv X dX11_isTimeAt_31 (fun _ => ?_)
  refine g_icmp_gt X 39 (by decide) dX11_isTimeAt_32 (fun q32 => ?_) (fun q32 => ?_)
  · refine g_iconst X dX11_isTimeAt_39 ic_0 ?_
    exact g_zret X hr (isB_n (by decide)) rfl dX11_isTimeAt_40
  · refine g_iconst X dX11_isTimeAt_35 ic_1 ?_
    refine g_goto X 40 (by decide) dX11_isTimeAt_36 ?_
    exact g_zret X hr (isB_n (by decide)) rfl dX11_isTimeAt_40
set_option maxRecDepth 100000 in
set_option maxHeartbeats 4000000 in
theorem tm_isTime {l : Launch} {D : va_G} {cy : Nat → ClassId} {ad : Nat → Nat} {N : Mem} (M : Mem) (a1 : Int32) {x : Int32} (h : fm_isTime M a1 = some x) : Mt l D cy ad yX11_isTime cX11_isTime 2 (some .boolean) 4 [.ref (ad 138), .int a1] ((wfM N) M) (some (.int x), (wfM N) M) := by
  refine met_of (fin := (finI M)) (lv0 := [(0, .ref (ad 138)), (1, .int a1)]) (by decide) (Nat.le_of_ble_eq_true rfl) rfl (lM N) h (fun p e s m args below meth c X hr => ?_)
  unfold fm_isTime
  refine g_aload_n X dX11_isTime_0 0 rfl rfl ?_
  refine g_iload_n X dX11_isTime_1 1 rfl rfl ?_
  refine g_aload_n X dX11_isTime_2 0 rfl rfl ?_
  refine g_iconst X dX11_isTime_3 ic_1 ?_
  refine g_ci X (st := [.int a1, .ref (ad 138)]) (fun _ hh => ok_V X (k0 := 138) (As := [.int 1]) wkX11_says_ (tm_says1 M 1 hh) rfl k_138 s_138 (by decide) rfl m_5_230 rfl (hRm (by decide) (by decide)) ⟨Nat.zero_le _, Nat.zero_le _⟩ (Nat.le_of_ble_eq_true rfl) dX11_isTime_4) (fun r1 _ => ?_)
  refine g_ci X (st := []) (fun _ hh => ok_V X (k0 := 138) (As := [.int a1, .int r1]) wkX11_isTimeAt (tm_isTimeAt M a1 r1 hh) rfl k_138 s_138 (by decide) rfl m_5_238 rfl (hRm (by decide) (by decide)) ⟨Nat.zero_le _, Nat.zero_le _⟩ (Nat.le_of_ble_eq_true rfl) dX11_isTime_7) (fun r2 _ => ?_)
  exact g_gd (fun hz => g_zret X hr (isB_n hz) rfl dX11_isTime_10)
set_option maxRecDepth 100000 in
set_option maxHeartbeats 4000000 in
theorem tm_deck {l : Launch} {D : va_G} {cy : Nat → ClassId} {ad : Nat → Nat} {N : Mem} (M : Mem) {x : Int32} (h : fm_deck M = some x) : Mt l D cy ad yX11_deck cX11_deck 1 (some .int) 1 [.ref (ad 138)] ((wfM N) M) (some (.int x), (wfM N) M) := by
  refine met_of (fin := (finI M)) (lv0 := [(0, .ref (ad 138))]) (by decide) (Nat.le_of_ble_eq_true rfl) rfl (lM N) h (fun p e s m args below meth c X hr => ?_)
  unfold fm_deck
  refine g_bipush X dX11_deck_0 bi_20 ?_
  refine g_aload_n X dX11_deck_2 0 rfl rfl ?_
  refine get_11_18 X (k := 138) k_138 s_138 m_5_75 dX11_deck_3 ?_
  refine g_bipush X dX11_deck_6 bi_6 ?_
  refine g_ialdC X (n := 9) (k := 156) k_156 s_156 (by decide) dX11_deck_8 ?_
  refine g_iconst X dX11_deck_9 ic_4 ?_
  refine g_idivC X dX11_deck_10 (by decide) ?_
  refine g_isub X dX11_deck_11 ?_
  exact g_iret X hr rfl dX11_deck_12
theorem tm_deckT {l : Launch} {D : va_G} {cy : Nat → ClassId} {ad : Nat → Nat} {N : Mem} (M : Mem) : Mt l D cy ad yX11_deck cX11_deck 1 (some .int) 1 [.ref (ad 138)] ((wfM N) M) (some (.int (fm_deckT M)), (wfM N) M) := tm_deck M (fm_deckE M)
set_option maxRecDepth 100000 in
set_option maxHeartbeats 4000000 in
theorem tm_isOut {l : Launch} {D : va_G} {cy : Nat → ClassId} {ad : Nat → Nat} {N : Mem} (M : Mem) (a1 : Int32) (a2 : Int32) {x : Int32} (h : fm_isOut M a1 a2 = some x) : Mt l D cy ad yX11_isOut cX11_isOut 4 (some .boolean) 2 [.ref (ad 138), .int a1, .int a2] ((wfM N) M) (some (.int x), (wfM N) M) := by
  refine met_of (fin := (finI M)) (lv0 := [(0, .ref (ad 138)), (1, .int a1), (2, .int a2)]) (by decide) (Nat.le_of_ble_eq_true rfl) rfl (lM N) h (fun p e s m args below meth c X hr => ?_)
  unfold fm_isOut
  refine g_aload_n X dX11_isOut_0 0 rfl rfl ?_
  refine g_iload_n X dX11_isOut_1 1 rfl rfl ?_
  refine g_iload_n X dX11_isOut_2 2 rfl rfl ?_
  refine g_ci X (st := []) (fun _ hh => ok_V X (k0 := 138) (As := [.int a1, .int a2]) wkX11_riseAt (tm_riseAt M a1 a2 hh) rfl k_138 s_138 (by decide) rfl m_5_202 rfl (hRm (by decide) (by decide)) ⟨Nat.zero_le _, Nat.zero_le _⟩ (Nat.le_of_ble_eq_true rfl) dX11_isOut_3) (fun r1 _ => ?_)
  refine g_aload_n X dX11_isOut_6 0 rfl rfl ?_
  refine g_ct X (v0 := .int (fm_deckT M)) (st := [.int r1]) (ok_V X (k0 := 138) (As := []) wkX11_deck (tm_deckT M) rfl k_138 s_138 (by decide) rfl m_5_222 rfl (hRm (by decide) (by decide)) ⟨Nat.zero_le _, Nat.zero_le _⟩ (Nat.le_of_ble_eq_true rfl) dX11_isOut_7) ?_
  refine g_isub X dX11_isOut_10 ?_
  refine g_ilet X (fun v2 => ?_)
  refine g_istore_n X dX11_isOut_11 rfl (by decide) rfl [0] (lu := [(3, .int v2)]) rfl ?_
  refine g_iload_n X dX11_isOut_12 0 rfl rfl ?_
  refine g_bipush X dX11_isOut_13 bi_60 ?_
  refine g_icmp_gt X 24 (by decide) dX11_isOut_15 (fun q15 => ?_) (fun q15 => ?_)
  · refine g_iconst X dX11_isOut_24 ic_1 ?_
    refine g_goto X 29 (by decide) dX11_isOut_25 ?_
    exact g_zret X hr (isB_n (by decide)) rfl dX11_isOut_29
  · refine g_iload_n X dX11_isOut_18 0 rfl rfl ?_
    refine g_bipush X dX11_isOut_19 bi_m60 ?_
    refine g_icmp_ge X 28 (by decide) dX11_isOut_21 (fun q21 => ?_) (fun q21 => ?_)
    · refine g_iconst X dX11_isOut_28 ic_0 ?_
      exact g_zret X hr (isB_n (by decide)) rfl dX11_isOut_29
    · refine g_iconst X dX11_isOut_24 ic_1 ?_
      refine g_goto X 29 (by decide) dX11_isOut_25 ?_
      exact g_zret X hr (isB_n (by decide)) rfl dX11_isOut_29
set_option maxRecDepth 100000 in
set_option maxHeartbeats 4000000 in
theorem tm_jettyOf {l : Launch} {D : va_G} {cy : Nat → ClassId} {ad : Nat → Nat} {N : Mem} (M : Mem) (a1 : Int32) (a2 : Int32) {x : (Int32 × Mem)} (h : fm_jettyOf M a1 a2 = some x) : Mt l D cy ad yX11_jettyOf cX11_jettyOf 3 (some .int) 5 [.ref (ad 138), .int a1, .int a2] ((wfM N) M) (some (.int x.1), (wfM N) x.2) := by
  refine met_of (fin := finS) (lv0 := [(0, .ref (ad 138)), (1, .int a1), (2, .int a2)]) (by decide) (Nat.le_of_ble_eq_true rfl) rfl (lM N) h (fun p e s m args below meth c X hr => ?_)
  unfold fm_jettyOf
  refine g_aload_n X dX11_jettyOf_0 0 rfl rfl ?_
  refine g_iload_n X dX11_jettyOf_1 1 rfl rfl ?_
  refine g_ct X (v0 := .int (fm_isJettyT M a1)) (st := []) (ok_V X (k0 := 138) (As := [.int a1]) wkX11_isJetty (tm_isJettyT M a1) rfl k_138 s_138 (by decide) rfl m_5_186 rfl (hRm (by decide) (by decide)) ⟨Nat.zero_le _, Nat.zero_le _⟩ (Nat.le_of_ble_eq_true rfl) dX11_jettyOf_2) ?_
  refine g_if_eq X 18 (by decide) dX11_jettyOf_5 (fun q5 => ?_) (fun q5 => ?_)
  · refine g_aload_n X dX11_jettyOf_18 0 rfl rfl ?_
    refine g_bipush X dX11_jettyOf_19 bi_m2 ?_
    refine g_cs X (st := []) (fun _ hh => ok_V X (k0 := 138) (As := [.int (-2)]) wkX11_no (tm_no M (-2) hh) rfl k_138 s_138 (by decide) rfl m_5_150 rfl (hRm (by decide) (by decide)) ⟨Nat.zero_le _, Nat.zero_le _⟩ (Nat.le_of_ble_eq_true rfl) dX11_jettyOf_21) (fun r2 M1 _ => ?_)
    exact g_iret X hr rfl dX11_jettyOf_24
  · refine g_iload_n X dX11_jettyOf_8 2 rfl rfl ?_
    refine g_if_lt X 18 (by decide) dX11_jettyOf_9 (fun q9 => ?_) (fun q9 => ?_)
    · refine g_aload_n X dX11_jettyOf_18 0 rfl rfl ?_
      refine g_bipush X dX11_jettyOf_19 bi_m2 ?_
      refine g_cs X (st := []) (fun _ hh => ok_V X (k0 := 138) (As := [.int (-2)]) wkX11_no (tm_no M (-2) hh) rfl k_138 s_138 (by decide) rfl m_5_150 rfl (hRm (by decide) (by decide)) ⟨Nat.zero_le _, Nat.zero_le _⟩ (Nat.le_of_ble_eq_true rfl) dX11_jettyOf_21) (fun r4 M3 _ => ?_)
      exact g_iret X hr rfl dX11_jettyOf_24
    · refine g_iload_n X dX11_jettyOf_12 2 rfl rfl ?_
      refine g_bipush X dX11_jettyOf_13 bi_7 ?_
      refine g_icmp_le X 25 (by decide) dX11_jettyOf_15 (fun q15 => ?_) (fun q15 => ?_)
      · refine g_iload_n X dX11_jettyOf_25 2 rfl rfl ?_
        refine g_if_ne X 36 (by decide) dX11_jettyOf_26 (fun q26 => ?_) (fun q26 => ?_)
        · refine g_iload_n X dX11_jettyOf_36 2 rfl rfl ?_
          refine g_iconst X dX11_jettyOf_37 ic_1 ?_
          refine g_icmp_ne X 48 (by decide) dX11_jettyOf_38 (fun q38 => ?_) (fun q38 => ?_)
          · refine g_iload_n X dX11_jettyOf_48 2 rfl rfl ?_
            refine g_iconst X dX11_jettyOf_49 ic_2 ?_
            refine g_icmp_ne X 60 (by decide) dX11_jettyOf_50 (fun q50 => ?_) (fun q50 => ?_)
            · refine g_iload_n X dX11_jettyOf_60 2 rfl rfl ?_
              refine g_iconst X dX11_jettyOf_61 ic_3 ?_
              refine g_icmp_ne X 72 (by decide) dX11_jettyOf_62 (fun q62 => ?_) (fun q62 => ?_)
              · refine g_iload_n X dX11_jettyOf_72 2 rfl rfl ?_
                refine g_iconst X dX11_jettyOf_73 ic_4 ?_
                refine g_icmp_ne X 83 (by decide) dX11_jettyOf_74 (fun q74 => ?_) (fun q74 => ?_)
                · refine g_iload_n X dX11_jettyOf_83 2 rfl rfl ?_
                  refine g_iconst X dX11_jettyOf_84 ic_5 ?_
                  refine g_icmp_ne X 95 (by decide) dX11_jettyOf_85 (fun q85 => ?_) (fun q85 => ?_)
                  · refine g_iload_n X dX11_jettyOf_95 2 rfl rfl ?_
                    refine g_bipush X dX11_jettyOf_96 bi_6 ?_
                    refine g_icmp_ne X 121 (by decide) dX11_jettyOf_98 (fun q98 => ?_) (fun q98 => ?_)
                    · refine g_aload_n X dX11_jettyOf_121 0 rfl rfl ?_
                      refine g_iload_n X dX11_jettyOf_122 1 rfl rfl ?_
                      refine g_ci X (st := []) (fun _ hh => ok_V X (k0 := 138) (As := [.int a1]) wkX11_isTime (tm_isTime M a1 hh) rfl k_138 s_138 (by decide) rfl m_5_226 rfl (hRm (by decide) (by decide)) ⟨Nat.zero_le _, Nat.zero_le _⟩ (Nat.le_of_ble_eq_true rfl) dX11_jettyOf_123) (fun r5 _ => ?_)
                      refine g_if_eq X 133 (by decide) dX11_jettyOf_126 (fun q126 => ?_) (fun q126 => ?_)
                      · refine g_iconst X dX11_jettyOf_133 ic_0 ?_
                        exact g_iret X hr rfl dX11_jettyOf_134
                      · refine g_iconst X dX11_jettyOf_129 ic_1 ?_
                        refine g_goto X 134 (by decide) dX11_jettyOf_130 ?_
                        exact g_iret X hr rfl dX11_jettyOf_134
                    · refine g_aload_n X dX11_jettyOf_101 0 rfl rfl ?_
                      refine g_iload_n X dX11_jettyOf_102 1 rfl rfl ?_
                      refine g_aload_n X dX11_jettyOf_103 0 rfl rfl ?_
                      refine get_11_18 X (k := 138) k_138 s_138 m_5_75 dX11_jettyOf_104 ?_
                      refine g_iconst X dX11_jettyOf_107 ic_5 ?_
                      refine g_ialdC X (n := 9) (k := 156) k_156 s_156 (by decide) dX11_jettyOf_108 ?_
                      refine g_ci X (st := []) (fun _ hh => ok_V X (k0 := 138) (As := [.int a1, .int (M.1 156 (ix 5))]) wkX11_isOut (tm_isOut M a1 (M.1 156 (ix 5)) hh) rfl k_138 s_138 (by decide) rfl m_5_218 rfl (hRm (by decide) (by decide)) ⟨Nat.zero_le _, Nat.zero_le _⟩ (Nat.le_of_ble_eq_true rfl) dX11_jettyOf_109) (fun r7 _ => ?_)
                      refine g_if_eq X 119 (by decide) dX11_jettyOf_112 (fun q112 => ?_) (fun q112 => ?_)
                      · refine g_iconst X dX11_jettyOf_119 ic_0 ?_
                        exact g_iret X hr rfl dX11_jettyOf_120
                      · refine g_iconst X dX11_jettyOf_115 ic_1 ?_
                        refine g_goto X 120 (by decide) dX11_jettyOf_116 ?_
                        exact g_iret X hr rfl dX11_jettyOf_120
                  · refine g_aload_n X dX11_jettyOf_88 0 rfl rfl ?_
                    refine get_11_7 X (k := 138) k_138 s_138 m_5_64 dX11_jettyOf_89 ?_
                    refine g_iload_n X dX11_jettyOf_92 1 rfl rfl ?_
                    refine g_iald X (n := 20) (k := 146) k_146 s_146 dX11_jettyOf_93 (fun h8 => ?_)
                    exact g_iret X hr rfl dX11_jettyOf_94
                · refine g_aload_n X dX11_jettyOf_77 0 rfl rfl ?_
                  refine g_iload_n X dX11_jettyOf_78 1 rfl rfl ?_
                  refine g_ci X (st := []) (fun _ hh => ok_V X (k0 := 138) (As := [.int a1]) wkX11_paces (tm_paces M a1 hh) rfl k_138 s_138 (by decide) rfl m_5_198 rfl (hRm (by decide) (by decide)) ⟨Nat.zero_le _, Nat.zero_le _⟩ (Nat.le_of_ble_eq_true rfl) dX11_jettyOf_79) (fun r9 _ => ?_)
                  exact g_iret X hr rfl dX11_jettyOf_82
              · refine g_aload_n X dX11_jettyOf_65 0 rfl rfl ?_
                refine get_11_6 X (k := 138) k_138 s_138 m_5_63 dX11_jettyOf_66 ?_
                refine g_iload_n X dX11_jettyOf_69 1 rfl rfl ?_
                refine g_iald X (n := 20) (k := 145) k_145 s_145 dX11_jettyOf_70 (fun h10 => ?_)
                exact g_iret X hr rfl dX11_jettyOf_71
            · refine g_aload_n X dX11_jettyOf_53 0 rfl rfl ?_
              refine get_11_5 X (k := 138) k_138 s_138 m_5_62 dX11_jettyOf_54 ?_
              refine g_iload_n X dX11_jettyOf_57 1 rfl rfl ?_
              refine g_iald X (n := 20) (k := 144) k_144 s_144 dX11_jettyOf_58 (fun h11 => ?_)
              exact g_iret X hr rfl dX11_jettyOf_59
          · refine g_aload_n X dX11_jettyOf_41 0 rfl rfl ?_
            refine get_11_4 X (k := 138) k_138 s_138 m_5_61 dX11_jettyOf_42 ?_
            refine g_iload_n X dX11_jettyOf_45 1 rfl rfl ?_
            refine g_iald X (n := 20) (k := 143) k_143 s_143 dX11_jettyOf_46 (fun h12 => ?_)
            exact g_iret X hr rfl dX11_jettyOf_47
        · refine g_aload_n X dX11_jettyOf_29 0 rfl rfl ?_
          refine get_11_3 X (k := 138) k_138 s_138 m_5_60 dX11_jettyOf_30 ?_
          refine g_iload_n X dX11_jettyOf_33 1 rfl rfl ?_
          refine g_iald X (n := 20) (k := 142) k_142 s_142 dX11_jettyOf_34 (fun h13 => ?_)
          exact g_iret X hr rfl dX11_jettyOf_35
      · refine g_aload_n X dX11_jettyOf_18 0 rfl rfl ?_
        refine g_bipush X dX11_jettyOf_19 bi_m2 ?_
        refine g_cs X (st := []) (fun _ hh => ok_V X (k0 := 138) (As := [.int (-2)]) wkX11_no (tm_no M (-2) hh) rfl k_138 s_138 (by decide) rfl m_5_150 rfl (hRm (by decide) (by decide)) ⟨Nat.zero_le _, Nat.zero_le _⟩ (Nat.le_of_ble_eq_true rfl) dX11_jettyOf_21) (fun r15 M14 _ => ?_)
        exact g_iret X hr rfl dX11_jettyOf_24
set_option maxRecDepth 100000 in
set_option maxHeartbeats 4000000 in
theorem tm_wet {l : Launch} {D : va_G} {cy : Nat → ClassId} {ad : Nat → Nat} {N : Mem} (M : Mem) (a1 : Int32) (a2 : Int32) {x : (Int32 × Mem)} (h : fm_wet M a1 a2 = some x) : Mt l D cy ad yX11_wet cX11_wet 4 (some .int) 2 [.ref (ad 138), .int a1, .int a2] ((wfM N) M) (some (.int x.1), (wfM N) x.2) := by
  refine met_of (fin := finS) (lv0 := [(0, .ref (ad 138)), (1, .int a1), (2, .int a2)]) (by decide) (Nat.le_of_ble_eq_true rfl) rfl (lM N) h (fun p e s m args below meth c X hr => ?_)
  unfold fm_wet
  refine g_aload_n X dX11_wet_0 0 rfl rfl ?_
  refine g_iload_n X dX11_wet_1 1 rfl rfl ?_
  refine g_ct X (v0 := .int (fm_isJettyT M a1)) (st := []) (ok_V X (k0 := 138) (As := [.int a1]) wkX11_isJetty (tm_isJettyT M a1) rfl k_138 s_138 (by decide) rfl m_5_186 rfl (hRm (by decide) (by decide)) ⟨Nat.zero_le _, Nat.zero_le _⟩ (Nat.le_of_ble_eq_true rfl) dX11_wet_2) ?_
  refine g_if_ne X 15 (by decide) dX11_wet_5 (fun q5 => ?_) (fun q5 => ?_)
  · refine g_aload_n X dX11_wet_15 0 rfl rfl ?_
    refine get_11_7 X (k := 138) k_138 s_138 m_5_64 dX11_wet_16 ?_
    refine g_iload_n X dX11_wet_19 1 rfl rfl ?_
    refine g_iald X (n := 20) (k := 146) k_146 s_146 dX11_wet_20 (fun h1 => ?_)
    refine g_ilet X (fun v2 => ?_)
    refine g_istore_n X dX11_wet_21 rfl (by decide) rfl [1, 2, 3, 0] (lu := [(0, .ref (ad 138)), (1, .int a1), (2, .int a2), (3, .int v2)]) rfl ?_
    refine g_aload_n X dX11_wet_22 0 rfl rfl ?_
    refine get_11_7 X (k := 138) k_138 s_138 m_5_64 dX11_wet_23 ?_
    refine g_iload_n X dX11_wet_26 1 rfl rfl ?_
    refine g_iload_n X dX11_wet_27 2 rfl rfl ?_
    refine g_if_eq X 35 (by decide) dX11_wet_28 (fun q28 => ?_) (fun q28 => ?_)
    · refine g_iconst X dX11_wet_35 ic_0 ?_
      refine g_iast X (n := 20) (k := 146) k_146 s_146 dX11_wet_36 (fun h3 => ?_)
      refine g_mlet X (fun M4 => ?_)
      refine g_iload_n X dX11_wet_37 3 rfl rfl ?_
      exact g_iret X hr rfl dX11_wet_38
    · refine g_iconst X dX11_wet_31 ic_1 ?_
      refine g_goto X 36 (by decide) dX11_wet_32 ?_
      refine g_iast X (n := 20) (k := 146) k_146 s_146 dX11_wet_36 (fun h5 => ?_)
      refine g_mlet X (fun M6 => ?_)
      refine g_iload_n X dX11_wet_37 3 rfl rfl ?_
      exact g_iret X hr rfl dX11_wet_38
  · refine g_aload_n X dX11_wet_8 0 rfl rfl ?_
    refine g_bipush X dX11_wet_9 bi_m2 ?_
    refine g_cs X (st := []) (fun _ hh => ok_V X (k0 := 138) (As := [.int (-2)]) wkX11_no (tm_no M (-2) hh) rfl k_138 s_138 (by decide) rfl m_5_150 rfl (hRm (by decide) (by decide)) ⟨Nat.zero_le _, Nat.zero_le _⟩ (Nat.le_of_ble_eq_true rfl) dX11_wet_11) (fun r8 M7 _ => ?_)
    exact g_iret X hr rfl dX11_wet_14
set_option maxRecDepth 100000 in
set_option maxHeartbeats 4000000 in
theorem tm_isLevel {l : Launch} {D : va_G} {cy : Nat → ClassId} {ad : Nat → Nat} {N : Mem} (M : Mem) (a1 : Int32) {x : Int32} (h : fm_isLevel M a1 = some x) : Mt l D cy ad yX11_isLevel cX11_isLevel 2 (some .boolean) 1 [.ref (ad 138), .int a1] ((wfM N) M) (some (.int x), (wfM N) M) := by
  refine met_of (fin := (finI M)) (lv0 := [(0, .ref (ad 138)), (1, .int a1)]) (by decide) (Nat.le_of_ble_eq_true rfl) rfl (lM N) h (fun p e s m args below meth c X hr => ?_)
  unfold fm_isLevel
  refine g_iload_n X dX11_isLevel_0 1 rfl rfl ?_
  refine g_bipush X dX11_isLevel_1 bi_m50 ?_
  refine g_icmp_lt X 16 (by decide) dX11_isLevel_3 (fun q3 => ?_) (fun q3 => ?_)
  · refine g_iconst X dX11_isLevel_16 ic_0 ?_
    exact g_zret X hr (isB_n (by decide)) rfl dX11_isLevel_17
  · refine g_iload_n X dX11_isLevel_6 1 rfl rfl ?_
    refine g_bipush X dX11_isLevel_7 bi_50 ?_
    refine g_icmp_gt X 16 (by decide) dX11_isLevel_9 (fun q9 => ?_) (fun q9 => ?_)
    · refine g_iconst X dX11_isLevel_16 ic_0 ?_
      exact g_zret X hr (isB_n (by decide)) rfl dX11_isLevel_17
    · refine g_iconst X dX11_isLevel_12 ic_1 ?_
      refine g_goto X 17 (by decide) dX11_isLevel_13 ?_
      exact g_zret X hr (isB_n (by decide)) rfl dX11_isLevel_17
theorem tm_isLevelT {l : Launch} {D : va_G} {cy : Nat → ClassId} {ad : Nat → Nat} {N : Mem} (M : Mem) (a1 : Int32) : Mt l D cy ad yX11_isLevel cX11_isLevel 2 (some .boolean) 1 [.ref (ad 138), .int a1] ((wfM N) M) (some (.int (fm_isLevelT M a1)), (wfM N) M) := tm_isLevel M a1 (fm_isLevelE M a1)
set_option maxRecDepth 100000 in
set_option maxHeartbeats 4000000 in
theorem tm_rise {l : Launch} {D : va_G} {cy : Nat → ClassId} {ad : Nat → Nat} {N : Mem} (M : Mem) (a1 : Int32) (a2 : Int32) {x : (Int32 × Mem)} (h : fm_rise M a1 a2 = some x) : Mt l D cy ad yX11_rise cX11_rise 3 (some .int) 2 [.ref (ad 138), .int a1, .int a2] ((wfM N) M) (some (.int x.1), (wfM N) x.2) := by
  refine met_of (fin := finS) (lv0 := [(0, .ref (ad 138)), (1, .int a1), (2, .int a2)]) (by decide) (Nat.le_of_ble_eq_true rfl) rfl (lM N) h (fun p e s m args below meth c X hr => ?_)
  unfold fm_rise
  refine g_aload_n X dX11_rise_0 0 rfl rfl ?_
  refine g_iload_n X dX11_rise_1 1 rfl rfl ?_
  refine g_ct X (v0 := .int (fm_isJettyT M a1)) (st := []) (ok_V X (k0 := 138) (As := [.int a1]) wkX11_isJetty (tm_isJettyT M a1) rfl k_138 s_138 (by decide) rfl m_5_186 rfl (hRm (by decide) (by decide)) ⟨Nat.zero_le _, Nat.zero_le _⟩ (Nat.le_of_ble_eq_true rfl) dX11_rise_2) ?_
  refine g_if_eq X 16 (by decide) dX11_rise_5 (fun q5 => ?_) (fun q5 => ?_)
  · refine g_aload_n X dX11_rise_16 0 rfl rfl ?_
    refine g_bipush X dX11_rise_17 bi_m2 ?_
    refine g_cs X (st := []) (fun _ hh => ok_V X (k0 := 138) (As := [.int (-2)]) wkX11_no (tm_no M (-2) hh) rfl k_138 s_138 (by decide) rfl m_5_150 rfl (hRm (by decide) (by decide)) ⟨Nat.zero_le _, Nat.zero_le _⟩ (Nat.le_of_ble_eq_true rfl) dX11_rise_19) (fun r2 M1 _ => ?_)
    refine g_pop X dX11_rise_22 rfl ?_
    refine g_sipush X dX11_rise_23 si_m1002 ?_
    exact g_iret X hr rfl dX11_rise_26
  · refine g_aload_n X dX11_rise_8 0 rfl rfl ?_
    refine g_iload_n X dX11_rise_9 2 rfl rfl ?_
    refine g_ct X (v0 := .int (fm_isLevelT M a2)) (st := []) (ok_V X (k0 := 138) (As := [.int a2]) wkX11_isLevel (tm_isLevelT M a2) rfl k_138 s_138 (by decide) rfl m_6_10 rfl (hRm (by decide) (by decide)) ⟨Nat.zero_le _, Nat.zero_le _⟩ (Nat.le_of_ble_eq_true rfl) dX11_rise_10) ?_
    refine g_if_ne X 27 (by decide) dX11_rise_13 (fun q13 => ?_) (fun q13 => ?_)
    · refine g_aload_n X dX11_rise_27 0 rfl rfl ?_
      refine g_iload_n X dX11_rise_28 1 rfl rfl ?_
      refine g_iload_n X dX11_rise_29 2 rfl rfl ?_
      refine g_ci X (st := []) (fun _ hh => ok_V X (k0 := 138) (As := [.int a1, .int a2]) wkX11_riseAt (tm_riseAt M a1 a2 hh) rfl k_138 s_138 (by decide) rfl m_5_202 rfl (hRm (by decide) (by decide)) ⟨Nat.zero_le _, Nat.zero_le _⟩ (Nat.le_of_ble_eq_true rfl) dX11_rise_30) (fun r3 _ => ?_)
      exact g_iret X hr rfl dX11_rise_33
    · refine g_aload_n X dX11_rise_16 0 rfl rfl ?_
      refine g_bipush X dX11_rise_17 bi_m2 ?_
      refine g_cs X (st := []) (fun _ hh => ok_V X (k0 := 138) (As := [.int (-2)]) wkX11_no (tm_no M (-2) hh) rfl k_138 s_138 (by decide) rfl m_5_150 rfl (hRm (by decide) (by decide)) ⟨Nat.zero_le _, Nat.zero_le _⟩ (Nat.le_of_ble_eq_true rfl) dX11_rise_19) (fun r5 M4 _ => ?_)
      refine g_pop X dX11_rise_22 rfl ?_
      refine g_sipush X dX11_rise_23 si_m1002 ?_
      exact g_iret X hr rfl dX11_rise_26
set_option maxRecDepth 100000 in
set_option maxHeartbeats 4000000 in
theorem tm_lake {l : Launch} {D : va_G} {cy : Nat → ClassId} {ad : Nat → Nat} {N : Mem} (M : Mem) (a1 : Int32) (a2 : Int32) {x : (Int32 × Mem)} (h : fm_lake M a1 a2 = some x) : Mt l D cy ad yX11_lake cX11_lake 4 (some .int) 2 [.ref (ad 138), .int a1, .int a2] ((wfM N) M) (some (.int x.1), (wfM N) x.2) := by
  refine met_of (fin := finS) (lv0 := [(0, .ref (ad 138)), (1, .int a1), (2, .int a2)]) (by decide) (Nat.le_of_ble_eq_true rfl) rfl (lM N) h (fun p e s m args below meth c X hr => ?_)
  unfold fm_lake
  refine g_iload_n X dX11_lake_0 1 rfl rfl ?_
  refine g_if_lt X 9 (by decide) dX11_lake_1 (fun q1 => ?_) (fun q1 => ?_)
  · refine g_aload_n X dX11_lake_9 0 rfl rfl ?_
    refine g_bipush X dX11_lake_10 bi_m2 ?_
    refine g_cs X (st := []) (fun _ hh => ok_V X (k0 := 138) (As := [.int (-2)]) wkX11_no (tm_no M (-2) hh) rfl k_138 s_138 (by decide) rfl m_5_150 rfl (hRm (by decide) (by decide)) ⟨Nat.zero_le _, Nat.zero_le _⟩ (Nat.le_of_ble_eq_true rfl) dX11_lake_12) (fun r2 M1 _ => ?_)
    exact g_iret X hr rfl dX11_lake_15
  · refine g_iload_n X dX11_lake_4 1 rfl rfl ?_
    refine g_iconst X dX11_lake_5 ic_2 ?_
    refine g_icmp_le X 16 (by decide) dX11_lake_6 (fun q6 => ?_) (fun q6 => ?_)
    · refine g_iload_n X dX11_lake_16 1 rfl rfl ?_
      refine g_jlet X 28 (fun z28 : Unit => [(0, .ref (ad 138)), (1, .int a1), (2, .int a2)]) (fun z28 : Unit => []) (fun z28 : Unit => M) (fun z28 => ?_) (fun J28 hJ28 => ?_)
      · show GF _ _ _ _ _ _ _ _ _ _ _ _ _ _ _ _ _ _ _ _ _ 28 [(0, .ref (ad 138)), (1, .int a1), (2, .int a2)] [] M
        refine g_iload_n X dX11_lake_28 1 rfl rfl ?_
        refine g_iconst X dX11_lake_29 ic_1 ?_
        refine g_jlet X 43 (fun z43 : Unit => [(0, .ref (ad 138)), (1, .int a1), (2, .int a2)]) (fun z43 : Unit => []) (fun z43 : Unit => M) (fun z43 => ?_) (fun J43 hJ43 => ?_)
        · show GF _ _ _ _ _ _ _ _ _ _ _ _ _ _ _ _ _ _ _ _ _ 43 [(0, .ref (ad 138)), (1, .int a1), (2, .int a2)] [] M
          refine g_iload_n X dX11_lake_43 1 rfl rfl ?_
          refine g_iconst X dX11_lake_44 ic_2 ?_
          refine g_jlet X 63 (fun z63 : Unit => [(0, .ref (ad 138)), (1, .int a1), (2, .int a2)]) (fun z63 : Unit => []) (fun z63 : Unit => M) (fun z63 => ?_) (fun J63 hJ63 => ?_)
          · show GF _ _ _ _ _ _ _ _ _ _ _ _ _ _ _ _ _ _ _ _ _ 63 [(0, .ref (ad 138)), (1, .int a1), (2, .int a2)] [] M
            refine g_aload_n X dX11_lake_63 0 rfl rfl ?_
            refine get_11_18 X (k := 138) k_138 s_138 m_5_75 dX11_lake_64 ?_
            refine g_iconst X dX11_lake_67 ic_5 ?_
            refine g_iload_n X dX11_lake_68 1 rfl rfl ?_
            refine g_iadd X dX11_lake_69 ?_
            refine g_iald X (n := 9) (k := 156) k_156 s_156 dX11_lake_70 (fun h3 => ?_)
            refine g_ilet X (fun v4 => ?_)
            refine g_istore_n X dX11_lake_71 rfl (by decide) rfl [1, 2, 3, 0] (lu := [(0, .ref (ad 138)), (1, .int a1), (2, .int a2), (3, .int v4)]) rfl ?_
            refine g_aload_n X dX11_lake_72 0 rfl rfl ?_
            refine get_11_18 X (k := 138) k_138 s_138 m_5_75 dX11_lake_73 ?_
            refine g_iconst X dX11_lake_76 ic_5 ?_
            refine g_iload_n X dX11_lake_77 1 rfl rfl ?_
            refine g_iadd X dX11_lake_78 ?_
            refine g_iload_n X dX11_lake_79 2 rfl rfl ?_
            refine g_iast X (n := 9) (k := 156) k_156 s_156 dX11_lake_80 (fun h5 => ?_)
            refine g_mlet X (fun M6 => ?_)
            refine g_iload_n X dX11_lake_81 3 rfl rfl ?_
            refine g_iload_n X dX11_lake_82 2 rfl rfl ?_
            refine g_icmp_eq X 90 (by decide) dX11_lake_83 (fun q83 => ?_) (fun q83 => ?_)
            · refine g_iconst X dX11_lake_90 ic_0 ?_
              exact g_iret X hr rfl dX11_lake_91
            · refine g_iconst X dX11_lake_86 ic_1 ?_
              refine g_goto X 91 (by decide) dX11_lake_87 ?_
              exact g_iret X hr rfl dX11_lake_91
          refine g_icmp_ne X 63 (by decide) dX11_lake_45 (fun q45 => ?_) (fun q45 => ?_)
          · exact hJ63 ()
          · refine g_aload_n X dX11_lake_48 0 rfl rfl ?_
            refine g_iload_n X dX11_lake_49 2 rfl rfl ?_
            refine g_ct X (v0 := .int (fm_isSpotT M a2)) (st := []) (ok_V X (k0 := 138) (As := [.int a2]) wkX11_isSpot (tm_isSpotT M a2) rfl k_138 s_138 (by decide) rfl m_5_210 rfl (hRm (by decide) (by decide)) ⟨Nat.zero_le _, Nat.zero_le _⟩ (Nat.le_of_ble_eq_true rfl) dX11_lake_50) ?_
            refine g_if_ne X 63 (by decide) dX11_lake_53 (fun q53 => ?_) (fun q53 => ?_)
            · exact hJ63 ()
            · refine g_aload_n X dX11_lake_56 0 rfl rfl ?_
              refine g_bipush X dX11_lake_57 bi_m2 ?_
              refine g_cs X (st := []) (fun _ hh => ok_V X (k0 := 138) (As := [.int (-2)]) wkX11_no (tm_no M (-2) hh) rfl k_138 s_138 (by decide) rfl m_5_150 rfl (hRm (by decide) (by decide)) ⟨Nat.zero_le _, Nat.zero_le _⟩ (Nat.le_of_ble_eq_true rfl) dX11_lake_59) (fun r8 M7 _ => ?_)
              exact g_iret X hr rfl dX11_lake_62
        refine g_icmp_ne X 43 (by decide) dX11_lake_30 (fun q30 => ?_) (fun q30 => ?_)
        · exact hJ43 ()
        · refine g_iload_n X dX11_lake_33 2 rfl rfl ?_
          refine g_if_lt X 56 (by decide) dX11_lake_34 (fun q34 => ?_) (fun q34 => ?_)
          · refine g_aload_n X dX11_lake_56 0 rfl rfl ?_
            refine g_bipush X dX11_lake_57 bi_m2 ?_
            refine g_cs X (st := []) (fun _ hh => ok_V X (k0 := 138) (As := [.int (-2)]) wkX11_no (tm_no M (-2) hh) rfl k_138 s_138 (by decide) rfl m_5_150 rfl (hRm (by decide) (by decide)) ⟨Nat.zero_le _, Nat.zero_le _⟩ (Nat.le_of_ble_eq_true rfl) dX11_lake_59) (fun r10 M9 _ => ?_)
            exact g_iret X hr rfl dX11_lake_62
          · refine g_iload_n X dX11_lake_37 2 rfl rfl ?_
            refine g_bipush X dX11_lake_38 bi_60 ?_
            refine g_icmp_gt X 56 (by decide) dX11_lake_40 (fun q40 => ?_) (fun q40 => ?_)
            · refine g_aload_n X dX11_lake_56 0 rfl rfl ?_
              refine g_bipush X dX11_lake_57 bi_m2 ?_
              refine g_cs X (st := []) (fun _ hh => ok_V X (k0 := 138) (As := [.int (-2)]) wkX11_no (tm_no M (-2) hh) rfl k_138 s_138 (by decide) rfl m_5_150 rfl (hRm (by decide) (by decide)) ⟨Nat.zero_le _, Nat.zero_le _⟩ (Nat.le_of_ble_eq_true rfl) dX11_lake_59) (fun r12 M11 _ => ?_)
              exact g_iret X hr rfl dX11_lake_62
            · exact hJ43 ()
      refine g_if_ne X 28 (by decide) dX11_lake_17 (fun q17 => ?_) (fun q17 => ?_)
      · exact hJ28 ()
      · refine g_aload_n X dX11_lake_20 0 rfl rfl ?_
        refine g_iload_n X dX11_lake_21 2 rfl rfl ?_
        refine g_ct X (v0 := .int (fm_isLevelT M a2)) (st := []) (ok_V X (k0 := 138) (As := [.int a2]) wkX11_isLevel (tm_isLevelT M a2) rfl k_138 s_138 (by decide) rfl m_6_10 rfl (hRm (by decide) (by decide)) ⟨Nat.zero_le _, Nat.zero_le _⟩ (Nat.le_of_ble_eq_true rfl) dX11_lake_22) ?_
        refine g_if_eq X 56 (by decide) dX11_lake_25 (fun q25 => ?_) (fun q25 => ?_)
        · refine g_aload_n X dX11_lake_56 0 rfl rfl ?_
          refine g_bipush X dX11_lake_57 bi_m2 ?_
          refine g_cs X (st := []) (fun _ hh => ok_V X (k0 := 138) (As := [.int (-2)]) wkX11_no (tm_no M (-2) hh) rfl k_138 s_138 (by decide) rfl m_5_150 rfl (hRm (by decide) (by decide)) ⟨Nat.zero_le _, Nat.zero_le _⟩ (Nat.le_of_ble_eq_true rfl) dX11_lake_59) (fun r14 M13 _ => ?_)
          exact g_iret X hr rfl dX11_lake_62
        · exact hJ28 ()
    · refine g_aload_n X dX11_lake_9 0 rfl rfl ?_
      refine g_bipush X dX11_lake_10 bi_m2 ?_
      refine g_cs X (st := []) (fun _ hh => ok_V X (k0 := 138) (As := [.int (-2)]) wkX11_no (tm_no M (-2) hh) rfl k_138 s_138 (by decide) rfl m_5_150 rfl (hRm (by decide) (by decide)) ⟨Nat.zero_le _, Nat.zero_le _⟩ (Nat.le_of_ble_eq_true rfl) dX11_lake_12) (fun r16 M15 _ => ?_)
      exact g_iret X hr rfl dX11_lake_15
set_option maxRecDepth 100000 in
set_option maxHeartbeats 4000000 in
theorem tm_isHour {l : Launch} {D : va_G} {cy : Nat → ClassId} {ad : Nat → Nat} {N : Mem} (M : Mem) (a1 : Int32) {x : Int32} (h : fm_isHour M a1 = some x) : Mt l D cy ad yX11_isHour cX11_isHour 2 (some .boolean) 1 [.ref (ad 138), .int a1] ((wfM N) M) (some (.int x), (wfM N) M) := by
  refine met_of (fin := (finI M)) (lv0 := [(0, .ref (ad 138)), (1, .int a1)]) (by decide) (Nat.le_of_ble_eq_true rfl) rfl (lM N) h (fun p e s m args below meth c X hr => ?_)
  unfold fm_isHour
  refine g_iload_n X dX11_isHour_0 1 rfl rfl ?_
  refine g_if_lt X 14 (by decide) dX11_isHour_1 (fun q1 => ?_) (fun q1 => ?_)
  · refine g_iconst X dX11_isHour_14 ic_0 ?_
    exact g_zret X hr (isB_n (by decide)) rfl dX11_isHour_15
  · refine g_iload_n X dX11_isHour_4 1 rfl rfl ?_
    refine g_bipush X dX11_isHour_5 bi_12 ?_
    refine g_icmp_ge X 14 (by decide) dX11_isHour_7 (fun q7 => ?_) (fun q7 => ?_)
    · refine g_iconst X dX11_isHour_14 ic_0 ?_
      exact g_zret X hr (isB_n (by decide)) rfl dX11_isHour_15
    · refine g_iconst X dX11_isHour_10 ic_1 ?_
      refine g_goto X 15 (by decide) dX11_isHour_11 ?_
      exact g_zret X hr (isB_n (by decide)) rfl dX11_isHour_15
theorem tm_isHourT {l : Launch} {D : va_G} {cy : Nat → ClassId} {ad : Nat → Nat} {N : Mem} (M : Mem) (a1 : Int32) : Mt l D cy ad yX11_isHour cX11_isHour 2 (some .boolean) 1 [.ref (ad 138), .int a1] ((wfM N) M) (some (.int (fm_isHourT M a1)), (wfM N) M) := tm_isHour M a1 (fm_isHourE M a1)
