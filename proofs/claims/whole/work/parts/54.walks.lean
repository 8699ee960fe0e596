set_option maxRecDepth 100000 in
set_option maxHeartbeats 4000000 in
theorem Lc_lowestLetter_L2 {l : Launch} {D : va_G} {cy : Nat → ClassId} {ad : Nat → Nat} {N : Mem} {p : Program} {e : Env} {s : State} {m : MethodId} {args : Array Value} {below : List Frame} {meth : Method} {c : Code} (X : Cx p s m args meth c cX10_lowestLetter 4 RX10 D cy ad (AA ad) (wfC N) sdC) (hr : meth.sig.returnType = (some .int)) (M : Mem) (b1 : Int32) (b2 : Int32) : ∀ (n : Nat) (x3 : Int32), GF p l e (Rm 1) s m args below meth c 4 D cy ad (AA ad) 0 0 (wfC N) (QM D cy ad (wfC N) below args s) (finI M) (fc_lowestLetter_L2 M b1 b2 n x3) 2 [(0, .ref (ad 0)), (1, .int b1), (2, .int b2), (3, .int x3)] [] M := by
  intro n
  induction n with
  | zero => intro x3; exact g_none
  | succ n ih =>
    intro x3
    rw [fc_lowestLetter_L2]
    refine g_iload_n X dX10_lowestLetter_2 3 rfl rfl ?_
    refine g_iload_n X dX10_lowestLetter_3 2 rfl rfl ?_
    refine g_icmp_ge X 25 (by decide) dX10_lowestLetter_4 (fun q4 => ?_) (fun q4 => ?_)
    · refine g_iload_n X dX10_lowestLetter_25 2 rfl rfl ?_
      exact g_iret X hr rfl dX10_lowestLetter_26
    · refine g_aload_n X dX10_lowestLetter_7 0 rfl rfl ?_
      refine get_10_10 X (k := 0) k_0 s_0 m_2_136 dX10_lowestLetter_8 ?_
      refine g_iload_n X dX10_lowestLetter_11 3 rfl rfl ?_
      refine g_iald X (n := 40) (k := 137) k_137 s_137 dX10_lowestLetter_12 (fun h1 => ?_)
      refine g_iload_n X dX10_lowestLetter_13 1 rfl rfl ?_
      refine g_icmp_ne X 19 (by decide) dX10_lowestLetter_14 (fun q14 => ?_) (fun q14 => ?_)
      · refine g_iinc X (k := 3) (v := (x3 + 1)) dX10_lowestLetter_19 rfl (ii_1 _) (by decide) rfl [1, 2, 3, 0] (lu := [(0, .ref (ad 0)), (1, .int b1), (2, .int b2), (3, .int (x3 + 1))]) rfl ?_
        refine g_goto X 2 (by decide) dX10_lowestLetter_22 ?_
        exact ih (x3 + 1)
      · refine g_iload_n X dX10_lowestLetter_17 3 rfl rfl ?_
        exact g_iret X hr rfl dX10_lowestLetter_18
set_option maxRecDepth 100000 in
set_option maxHeartbeats 4000000 in
theorem tc_lowestLetter {l : Launch} {D : va_G} {cy : Nat → ClassId} {ad : Nat → Nat} {N : Mem} (M : Mem) (a1 : Int32) (a2 : Int32) {x : Int32} (h : fc_lowestLetter M a1 a2 = some x) : Mt l D cy ad yX10_lowestLetter cX10_lowestLetter 4 (some .int) 1 [.ref (ad 0), .int a1, .int a2] ((wfC N) M) (some (.int x), (wfC N) M) := by
  refine met_of (fin := (finI M)) (lv0 := [(0, .ref (ad 0)), (1, .int a1), (2, .int a2)]) (by decide) (Nat.le_of_ble_eq_true rfl) rfl (lC N) h (fun p e s m args below meth c X hr => ?_)
  unfold fc_lowestLetter
  refine g_iconst X dX10_lowestLetter_0 ic_0 ?_
  refine g_istore_n X dX10_lowestLetter_1 rfl (by decide) rfl [1, 2, 3, 0] (lu := [(0, .ref (ad 0)), (1, .int a1), (2, .int a2), (3, .int 0)]) rfl ?_
  exact Lc_lowestLetter_L2  X hr M a1 a2    FU 0
set_option maxRecDepth 100000 in
set_option maxHeartbeats 4000000 in
theorem Lc_takeLetters_L5 {l : Launch} {D : va_G} {cy : Nat → ClassId} {ad : Nat → Nat} {N : Mem} {p : Program} {e : Env} {s : State} {m : MethodId} {args : Array Value} {below : List Frame} {meth : Method} {c : Code} (X : Cx p s m args meth c cX10_takeLetters 5 RX10 D cy ad (AA ad) (wfC N) sdC) (hr : meth.sig.returnType = (some .int)) (b1 : Int32) (b2 : Int32) : ∀ (n : Nat) (x3 : Int32) (x4 : Int32) (M : Mem), GF p l e (Rm 1) s m args below meth c 5 D cy ad (AA ad) 0 0 (wfC N) (QM D cy ad (wfC N) below args s) finS (fc_takeLetters_L5 b1 b2 n x3 x4 M) 5 [(0, .ref (ad 0)), (1, .int b1), (2, .int b2), (3, .int x3), (4, .int x4)] [] M := by
  intro n
  induction n with
  | zero => intro x3 x4 M; exact g_none
  | succ n ih =>
    intro x3 x4 M
    rw [fc_takeLetters_L5]
    refine g_iload X dX10_takeLetters_5 4 rfl ?_
    refine g_iload_n X dX10_takeLetters_7 2 rfl rfl ?_
    refine g_icmp_ge X 44 (by decide) dX10_takeLetters_8 (fun q8 => ?_) (fun q8 => ?_)
    · refine g_iload_n X dX10_takeLetters_44 3 rfl rfl ?_
      exact g_iret X hr rfl dX10_takeLetters_45
    · refine g_aload_n X dX10_takeLetters_11 0 rfl rfl ?_
      refine get_10_10 X (k := 0) k_0 s_0 m_2_136 dX10_takeLetters_12 ?_
      refine g_iload X dX10_takeLetters_15 4 rfl ?_
      refine g_iald X (n := 40) (k := 137) k_137 s_137 dX10_takeLetters_17 (fun h1 => ?_)
      refine g_iload_n X dX10_takeLetters_18 1 rfl rfl ?_
      refine g_jlet X 38 (fun z38 : Int32 × Mem => [(0, .ref (ad 0)), (1, .int b1), (2, .int b2), (3, .int (z38.1)), (4, .int x4)]) (fun z38 : Int32 × Mem => []) (fun z38 : Int32 × Mem => (z38.2)) (fun z38 => ?_) (fun J38 hJ38 => ?_)
      · show GF _ _ _ _ _ _ _ _ _ _ _ _ _ _ _ _ _ _ _ _ _ 38 [(0, .ref (ad 0)), (1, .int b1), (2, .int b2), (3, .int (z38.1)), (4, .int x4)] [] (z38.2)
        refine g_iinc X (k := 4) (v := (x4 + 1)) dX10_takeLetters_38 rfl (ii_1 _) (by decide) rfl [1, 2, 3, 4, 0] (lu := [(0, .ref (ad 0)), (1, .int b1), (2, .int b2), (3, .int (z38.1)), (4, .int (x4 + 1))]) rfl ?_
        refine g_goto X 5 (by decide) dX10_takeLetters_41 ?_
        exact ih (z38.1) (x4 + 1) (z38.2)
      refine g_icmp_eq X 38 (by decide) dX10_takeLetters_19 (fun q19 => ?_) (fun q19 => ?_)
      · exact hJ38 (x3, M)
      · refine g_aload_n X dX10_takeLetters_22 0 rfl rfl ?_
        refine get_10_10 X (k := 0) k_0 s_0 m_2_136 dX10_takeLetters_23 ?_
        refine g_iload_n X dX10_takeLetters_26 3 rfl rfl ?_
        refine g_aload_n X dX10_takeLetters_27 0 rfl rfl ?_
        refine get_10_10 X (k := 0) k_0 s_0 m_2_136 dX10_takeLetters_28 ?_
        refine g_iload X dX10_takeLetters_31 4 rfl ?_
        refine g_iald X (n := 40) (k := 137) k_137 s_137 dX10_takeLetters_33 (fun h2 => ?_)
        refine g_iast X (n := 40) (k := 137) k_137 s_137 dX10_takeLetters_34 (fun h3 => ?_)
        refine g_mlet X (fun M4 => ?_)
        refine g_iinc X (k := 3) (v := (x3 + 1)) dX10_takeLetters_35 rfl (ii_1 _) (by decide) rfl [1, 2, 3, 0, 4] (lu := [(0, .ref (ad 0)), (1, .int b1), (2, .int b2), (3, .int (x3 + 1)), (4, .int x4)]) rfl ?_
        exact hJ38 ((x3 + 1), M4)
set_option maxRecDepth 100000 in
set_option maxHeartbeats 4000000 in
theorem tc_takeLetters {l : Launch} {D : va_G} {cy : Nat → ClassId} {ad : Nat → Nat} {N : Mem} (M : Mem) (a1 : Int32) (a2 : Int32) {x : (Int32 × Mem)} (h : fc_takeLetters M a1 a2 = some x) : Mt l D cy ad yX10_takeLetters cX10_takeLetters 5 (some .int) 1 [.ref (ad 0), .int a1, .int a2] ((wfC N) M) (some (.int x.1), (wfC N) x.2) := by
  refine met_of (fin := finS) (lv0 := [(0, .ref (ad 0)), (1, .int a1), (2, .int a2)]) (by decide) (Nat.le_of_ble_eq_true rfl) rfl (lC N) h (fun p e s m args below meth c X hr => ?_)
  unfold fc_takeLetters
  refine g_iconst X dX10_takeLetters_0 ic_0 ?_
  refine g_istore_n X dX10_takeLetters_1 rfl (by decide) rfl [1, 2, 3, 0] (lu := [(0, .ref (ad 0)), (1, .int a1), (2, .int a2), (3, .int 0)]) rfl ?_
  refine g_iconst X dX10_takeLetters_2 ic_0 ?_
  refine g_istore X dX10_takeLetters_3 (by decide) rfl [1, 2, 3, 4, 0] (lu := [(0, .ref (ad 0)), (1, .int a1), (2, .int a2), (3, .int 0), (4, .int 0)]) rfl ?_
  exact Lc_takeLetters_L5  X hr a1 a2    FU 0 0 M
set_option maxRecDepth 100000 in
set_option maxHeartbeats 4000000 in
theorem Lc_lifts_L77 {l : Launch} {D : va_G} {cy : Nat → ClassId} {ad : Nat → Nat} {N : Mem} {p : Program} {e : Env} {s : State} {m : MethodId} {args : Array Value} {below : List Frame} {meth : Method} {c : Code} (X : Cx p s m args meth c cX10_lifts 11 RX10 D cy ad (AA ad) (wfC N) sdC) (hr : meth.sig.returnType = (some .int)) (b1 : Int32) (b2 : Int32) (b3 : Int32) (b4 : Int32) (kx108 : Mem → Option (Int32 × Mem)) (hkx108 : ∀ (M : Mem), GF p l e (Rm 4) s m args below meth c 11 D cy ad (AA ad) 0 0 (wfC N) (QM D cy ad (wfC N) below args s) finS (kx108 M) 108 [(0, .ref (ad 0)), (2, .int b2), (3, .int b3), (4, .int b4)] [] M) : ∀ (n : Nat) (x6 : Int32) (M : Mem), GF p l e (Rm 4) s m args below meth c 11 D cy ad (AA ad) 0 0 (wfC N) (QM D cy ad (wfC N) below args s) finS (fc_lifts_L77 b1 b2 b3 b4 kx108 n x6 M) 77 [(0, .ref (ad 0)), (1, .int b1), (2, .int b2), (3, .int b3), (4, .int b4), (6, .int x6)] [] M := by
  intro n
  induction n with
  | zero => intro x6 M; exact g_none
  | succ n ih =>
    intro x6 M
    rw [fc_lifts_L77]
    refine g_iload X dX10_lifts_77 5 rfl ?_
    refine g_iload_n X dX10_lifts_79 2 rfl rfl ?_
    refine g_icmp_ge X 108 (by decide) dX10_lifts_80 (fun q80 => ?_) (fun q80 => ?_)
    · refine g_sub (lu := [(0, .ref (ad 0)), (2, .int b2), (3, .int b3), (4, .int b4)]) [0, 2, 3, 4] rfl ?_
      exact hkx108 M
    · refine g_aload_n X dX10_lifts_83 0 rfl rfl ?_
      refine get_10_10 X (k := 0) k_0 s_0 m_2_136 dX10_lifts_84 ?_
      refine g_iload X dX10_lifts_87 5 rfl ?_
      refine g_aload_n X dX10_lifts_89 0 rfl rfl ?_
      refine get_10_0 X (k := 0) k_0 s_0 m_2_126 dX10_lifts_90 ?_
      refine g_iload_n X dX10_lifts_93 1 rfl rfl ?_
      refine g_aald27 X (k := 1) k_1 s_1 dX10_lifts_94 (fun h8 => ?_)
      refine g_iload X dX10_lifts_95 5 rfl ?_
      refine g_cl X (st := [.int x6, .ref (ad 137)]) (fun _ hh => ok_V X (k0 := (ix b1) + 2) (As := [.int x6]) wkX5_at (tShelf_at M (ix b1) x6 (inb_lt h8) hh) rfl (kf_2 _ (inb_lt h8)) (sf_2 _ (inb_lt h8)) (by decide) rfl m_2_215 rfl (hRm (by decide) (by decide)) ⟨Nat.zero_le _, Nat.zero_le _⟩ (Nat.le_of_ble_eq_true rfl) dX10_lifts_97) (fun r9 _ => ?_)
      refine g_l2i X dX10_lifts_100 ?_
      refine g_iast X (n := 40) (k := 137) k_137 s_137 dX10_lifts_101 (fun h10 => ?_)
      refine g_mlet X (fun M11 => ?_)
      refine g_iinc X (k := 5) (v := (x6 + 1)) dX10_lifts_102 rfl (ii_1 _) (by decide) rfl [1, 2, 3, 4, 5, 0] (lu := [(0, .ref (ad 0)), (1, .int b1), (2, .int b2), (3, .int b3), (4, .int b4), (6, .int (x6 + 1))]) rfl ?_
      refine g_goto X 77 (by decide) dX10_lifts_105 ?_
      exact ih (x6 + 1) M11
set_option maxRecDepth 100000 in
set_option maxHeartbeats 4000000 in
theorem Lc_lifts_L117 {l : Launch} {D : va_G} {cy : Nat → ClassId} {ad : Nat → Nat} {N : Mem} {p : Program} {e : Env} {s : State} {m : MethodId} {args : Array Value} {below : List Frame} {meth : Method} {c : Code} (X : Cx p s m args meth c cX10_lifts 11 RX10 D cy ad (AA ad) (wfC N) sdC) (hr : meth.sig.returnType = (some .int)) (b3 : Int32) (b4 : Int32) : ∀ (n : Nat) (x6 : Int32) (x7 : Int32) (x8 : Int32) (M : Mem), GF p l e (Rm 4) s m args below meth c 11 D cy ad (AA ad) 0 0 (wfC N) (QM D cy ad (wfC N) below args s) finS (fc_lifts_L117 b3 b4 n x6 x7 x8 M) 117 [(0, .ref (ad 0)), (3, .int b3), (4, .int b4), (6, .int x6), (7, .int x7), (8, .int x8)] [] M := by
  intro n
  induction n with
  | zero => intro x6 x7 x8 M; exact g_none
  | succ n ih =>
    intro x6 x7 x8 M
    rw [fc_lifts_L117]
    refine g_iload X dX10_lifts_117 5 rfl ?_
    refine g_iload X dX10_lifts_119 2 rfl ?_
    refine g_icmp_ge X 174 (by decide) dX10_lifts_121 (fun q121 => ?_) (fun q121 => ?_)
    · refine g_iload X dX10_lifts_174 4 rfl ?_
      exact g_iret X hr rfl dX10_lifts_176
    · refine g_aload_n X dX10_lifts_124 0 rfl rfl ?_
      refine get_10_0 X (k := 0) k_0 s_0 m_2_126 dX10_lifts_125 ?_
      refine g_iload_n X dX10_lifts_128 1 rfl rfl ?_
      refine g_aald27 X (k := 1) k_1 s_1 dX10_lifts_129 (fun h13 => ?_)
      refine g_iload X dX10_lifts_130 5 rfl ?_
      refine g_cl X (st := []) (fun _ hh => ok_V X (k0 := (ix b3) + 2) (As := [.int x8]) wkX5_at (tShelf_at M (ix b3) x8 (inb_lt h13) hh) rfl (kf_2 _ (inb_lt h13)) (sf_2 _ (inb_lt h13)) (by decide) rfl m_2_215 rfl (hRm (by decide) (by decide)) ⟨Nat.zero_le _, Nat.zero_le _⟩ (Nat.le_of_ble_eq_true rfl) dX10_lifts_132) (fun r14 _ => ?_)
      refine g_l2i X dX10_lifts_135 ?_
      refine g_ilet X (fun v15 => ?_)
      refine g_istore X dX10_lifts_136 (by decide) rfl [1, 2, 3, 4, 5, 6, 0] (lu := [(0, .ref (ad 0)), (3, .int b3), (4, .int b4), (6, .int x6), (7, .int x7), (8, .int x8), (9, .int v15)]) rfl ?_
      refine g_aload_n X dX10_lifts_138 0 rfl rfl ?_
      refine g_iload X dX10_lifts_139 6 rfl ?_
      refine g_iload X dX10_lifts_141 3 rfl ?_
      refine g_ci X (st := []) (fun _ hh => ok_V X (k0 := 0) (As := [.int v15, .int x6]) wkX10_lowestLetter (tc_lowestLetter M v15 x6 hh) rfl k_0 s_0 (by decide) rfl m_4_175 rfl (hRm (by decide) (by decide)) ⟨Nat.zero_le _, Nat.zero_le _⟩ (Nat.le_of_ble_eq_true rfl) dX10_lifts_143) (fun r16 _ => ?_)
      refine g_istore X dX10_lifts_146 (by decide) rfl [1, 2, 3, 4, 5, 6, 7, 0] (lu := [(0, .ref (ad 0)), (3, .int b3), (4, .int b4), (6, .int x6), (7, .int x7), (8, .int x8), (9, .int v15), (10, .int r16)]) rfl ?_
      refine g_aload_n X dX10_lifts_148 0 rfl rfl ?_
      refine g_iload X dX10_lifts_149 6 rfl ?_
      refine g_iload X dX10_lifts_151 3 rfl ?_
      refine g_cs X (st := []) (fun _ hh => ok_V X (k0 := 0) (As := [.int v15, .int x6]) wkX10_takeLetters (tc_takeLetters M v15 x6 hh) rfl k_0 s_0 (by decide) rfl m_4_179 rfl (hRm (by decide) (by decide)) ⟨Nat.zero_le _, Nat.zero_le _⟩ (Nat.le_of_ble_eq_true rfl) dX10_lifts_153) (fun r18 M17 _ => ?_)
      refine g_istore X dX10_lifts_156 (by decide) rfl [1, 2, 3, 0, 4, 5, 7] (lu := [(0, .ref (ad 0)), (3, .int b3), (4, .int b4), (6, .int r18), (7, .int x7), (8, .int x8), (10, .int r16)]) rfl ?_
      refine g_iload X dX10_lifts_158 4 rfl ?_
      refine g_iload X dX10_lifts_160 3 rfl ?_
      refine g_iload X dX10_lifts_162 6 rfl ?_
      refine g_isub X dX10_lifts_164 ?_
      refine g_iadd X dX10_lifts_165 ?_
      refine g_ilet X (fun v19 => ?_)
      refine g_istore X dX10_lifts_166 (by decide) rfl [1, 2, 3, 4, 0, 5] (lu := [(0, .ref (ad 0)), (3, .int b3), (4, .int b4), (6, .int r18), (7, .int v19), (8, .int x8)]) rfl ?_
      refine g_iinc X (k := 5) (v := (x8 + 1)) dX10_lifts_168 rfl (ii_1 _) (by decide) rfl [1, 2, 3, 4, 5, 0] (lu := [(0, .ref (ad 0)), (3, .int b3), (4, .int b4), (6, .int r18), (7, .int v19), (8, .int (x8 + 1))]) rfl ?_
      refine g_goto X 117 (by decide) dX10_lifts_171 ?_
      exact ih r18 v19 (x8 + 1) M17
set_option maxRecDepth 100000 in
set_option maxHeartbeats 4000000 in
theorem tc_lifts {l : Launch} {D : va_G} {cy : Nat → ClassId} {ad : Nat → Nat} {N : Mem} (M : Mem) (a1 : Int32) (a2 : Int32) (a3 : Int32) (a4 : Int32) {x : (Int32 × Mem)} (h : fc_lifts M a1 a2 a3 a4 = some x) : Mt l D cy ad yX10_lifts cX10_lifts 11 (some .int) 4 [.ref (ad 0), .int a1, .int a2, .int a3, .int a4] ((wfC N) M) (some (.int x.1), (wfC N) x.2) := by
  refine met_of (fin := finS) (lv0 := [(0, .ref (ad 0)), (1, .int a1), (2, .int a2), (3, .int a3), (4, .int a4)]) (by decide) (Nat.le_of_ble_eq_true rfl) rfl (lC N) h (fun p e s m args below meth c X hr => ?_)
  unfold fc_lifts
  refine g_iload_n X dX10_lifts_0 2 rfl rfl ?_
  refine g_iconst X dX10_lifts_1 ic_0 ?_
  refine g_bipush X dX10_lifts_2 bi_40 ?_
  refine g_ct X (v0 := .int (fc_isWithinT M a2 0 40)) (st := []) (ok_S X (As := [.int a2, .int 0, .int 40]) wkX10_isWithin (tc_isWithinT M a2 0 40) rfl m_2_170 rfl (hRm (by decide) (by decide)) ⟨Nat.zero_le _, Nat.zero_le _⟩ (Nat.le_of_ble_eq_true rfl) dX10_lifts_4) ?_
  refine g_if_eq X 21 (by decide) dX10_lifts_7 (fun q7 => ?_) (fun q7 => ?_)
  · refine g_aload_n X dX10_lifts_21 0 rfl rfl ?_
    refine g_bipush X dX10_lifts_22 bi_m2 ?_
    refine g_cs X (st := []) (fun _ hh => ok_V X (k0 := 0) (As := [.int (-2)]) wkX10_refuse (tc_refuse M (-2) hh) rfl k_0 s_0 (by decide) rfl m_2_173 rfl (hRm (by decide) (by decide)) ⟨Nat.zero_le _, Nat.zero_le _⟩ (Nat.le_of_ble_eq_true rfl) dX10_lifts_24) (fun r2 M1 _ => ?_)
    exact g_iret X hr rfl dX10_lifts_27
  · refine g_iload X dX10_lifts_10 4 rfl ?_
    refine g_iconst X dX10_lifts_12 ic_0 ?_
    refine g_bipush X dX10_lifts_13 bi_20 ?_
    refine g_ct X (v0 := .int (fc_isWithinT M a4 0 20)) (st := []) (ok_S X (As := [.int a4, .int 0, .int 20]) wkX10_isWithin (tc_isWithinT M a4 0 20) rfl m_2_170 rfl (hRm (by decide) (by decide)) ⟨Nat.zero_le _, Nat.zero_le _⟩ (Nat.le_of_ble_eq_true rfl) dX10_lifts_15) ?_
    refine g_if_ne X 28 (by decide) dX10_lifts_18 (fun q18 => ?_) (fun q18 => ?_)
    · refine g_aload_n X dX10_lifts_28 0 rfl rfl ?_
      refine g_iload_n X dX10_lifts_29 1 rfl rfl ?_
      refine g_iload_n X dX10_lifts_30 3 rfl rfl ?_
      refine g_ci X (st := []) (fun _ hh => ok_V X (k0 := 0) (As := [.int a1, .int a3]) wkX10_rowTrouble (tc_rowTrouble M a1 a3 hh) rfl k_0 s_0 (by decide) rfl m_2_185 rfl (hRm (by decide) (by decide)) ⟨Nat.zero_le _, Nat.zero_le _⟩ (Nat.le_of_ble_eq_true rfl) dX10_lifts_31) (fun r3 _ => ?_)
      refine g_istore X dX10_lifts_34 (by decide) rfl [1, 2, 3, 4, 5, 0] (lu := [(0, .ref (ad 0)), (1, .int a1), (2, .int a2), (3, .int a3), (4, .int a4), (5, .int r3)]) rfl ?_
      refine g_iload X dX10_lifts_36 5 rfl ?_
      refine g_if_eq X 48 (by decide) dX10_lifts_38 (fun q38 => ?_) (fun q38 => ?_)
      · refine g_aload_n X dX10_lifts_48 0 rfl rfl ?_
        refine g_iload_n X dX10_lifts_49 1 rfl rfl ?_
        refine g_iload_n X dX10_lifts_50 2 rfl rfl ?_
        refine g_ci X (st := []) (fun _ hh => ok_V X (k0 := 0) (As := [.int a1, .int a2]) wkX10_tellsJetties (tc_tellsJetties M a1 a2 hh) rfl k_0 s_0 (by decide) rfl m_4_52 rfl (hRm (by decide) (by decide)) ⟨Nat.zero_le _, Nat.zero_le _⟩ (Nat.le_of_ble_eq_true rfl) dX10_lifts_51) (fun r4 _ => ?_)
        refine g_if_eq X 67 (by decide) dX10_lifts_54 (fun q54 => ?_) (fun q54 => ?_)
        · refine g_aload_n X dX10_lifts_67 0 rfl rfl ?_
          refine g_bipush X dX10_lifts_68 bi_m2 ?_
          refine g_cs X (st := []) (fun _ hh => ok_V X (k0 := 0) (As := [.int (-2)]) wkX10_refuse (tc_refuse M (-2) hh) rfl k_0 s_0 (by decide) rfl m_2_173 rfl (hRm (by decide) (by decide)) ⟨Nat.zero_le _, Nat.zero_le _⟩ (Nat.le_of_ble_eq_true rfl) dX10_lifts_70) (fun r6 M5 _ => ?_)
          exact g_iret X hr rfl dX10_lifts_73
        · refine g_aload_n X dX10_lifts_57 0 rfl rfl ?_
          refine g_iload_n X dX10_lifts_58 3 rfl rfl ?_
          refine g_iload X dX10_lifts_59 4 rfl ?_
          refine g_ci X (st := []) (fun _ hh => ok_V X (k0 := 0) (As := [.int a3, .int a4]) wkX10_tellsJetties (tc_tellsJetties M a3 a4 hh) rfl k_0 s_0 (by decide) rfl m_4_52 rfl (hRm (by decide) (by decide)) ⟨Nat.zero_le _, Nat.zero_le _⟩ (Nat.le_of_ble_eq_true rfl) dX10_lifts_61) (fun r7 _ => ?_)
          refine g_if_ne X 74 (by decide) dX10_lifts_64 (fun q64 => ?_) (fun q64 => ?_)
          · refine g_iconst X dX10_lifts_74 ic_0 ?_
            refine g_istore X dX10_lifts_75 (by decide) rfl [1, 2, 3, 4, 5, 0] (lu := [(0, .ref (ad 0)), (1, .int a1), (2, .int a2), (3, .int a3), (4, .int a4), (6, .int 0)]) rfl ?_
            refine Lc_lifts_L77  X hr a1 a2 a3 a4  _ (fun M12 => ?_) FU 0 M
            · refine g_iload_n X dX10_lifts_108 1 rfl rfl ?_
              refine g_istore X dX10_lifts_109 (by decide) rfl [1, 3, 4, 0] (lu := [(0, .ref (ad 0)), (3, .int a3), (4, .int a4), (6, .int a2)]) rfl ?_
              refine g_iconst X dX10_lifts_111 ic_0 ?_
              refine g_istore X dX10_lifts_112 (by decide) rfl [1, 2, 3, 4, 0] (lu := [(0, .ref (ad 0)), (3, .int a3), (4, .int a4), (6, .int a2), (7, .int 0)]) rfl ?_
              refine g_iconst X dX10_lifts_114 ic_0 ?_
              refine g_istore X dX10_lifts_115 (by decide) rfl [1, 2, 3, 4, 5, 0] (lu := [(0, .ref (ad 0)), (3, .int a3), (4, .int a4), (6, .int a2), (7, .int 0), (8, .int 0)]) rfl ?_
              exact Lc_lifts_L117  X hr a3 a4    FU a2 0 0 M12
          · refine g_aload_n X dX10_lifts_67 0 rfl rfl ?_
            refine g_bipush X dX10_lifts_68 bi_m2 ?_
            refine g_cs X (st := []) (fun _ hh => ok_V X (k0 := 0) (As := [.int (-2)]) wkX10_refuse (tc_refuse M (-2) hh) rfl k_0 s_0 (by decide) rfl m_2_173 rfl (hRm (by decide) (by decide)) ⟨Nat.zero_le _, Nat.zero_le _⟩ (Nat.le_of_ble_eq_true rfl) dX10_lifts_70) (fun r21 M20 _ => ?_)
            exact g_iret X hr rfl dX10_lifts_73
      · refine g_aload_n X dX10_lifts_41 0 rfl rfl ?_
        refine g_iload X dX10_lifts_42 5 rfl ?_
        refine g_cs X (st := []) (fun _ hh => ok_V X (k0 := 0) (As := [.int r3]) wkX10_refuse (tc_refuse M r3 hh) rfl k_0 s_0 (by decide) rfl m_2_173 rfl (hRm (by decide) (by decide)) ⟨Nat.zero_le _, Nat.zero_le _⟩ (Nat.le_of_ble_eq_true rfl) dX10_lifts_44) (fun r23 M22 _ => ?_)
        exact g_iret X hr rfl dX10_lifts_47
    · refine g_aload_n X dX10_lifts_21 0 rfl rfl ?_
      refine g_bipush X dX10_lifts_22 bi_m2 ?_
      refine g_cs X (st := []) (fun _ hh => ok_V X (k0 := 0) (As := [.int (-2)]) wkX10_refuse (tc_refuse M (-2) hh) rfl k_0 s_0 (by decide) rfl m_2_173 rfl (hRm (by decide) (by decide)) ⟨Nat.zero_le _, Nat.zero_le _⟩ (Nat.le_of_ble_eq_true rfl) dX10_lifts_24) (fun r25 M24 _ => ?_)
      exact g_iret X hr rfl dX10_lifts_27
set_option maxRecDepth 100000 in
set_option maxHeartbeats 4000000 in
theorem tc_parcel {l : Launch} {D : va_G} {cy : Nat → ClassId} {ad : Nat → Nat} {N : Mem} (M : Mem) (a1 : Int32) (a2 : Int32) (a3 : Int32) {x : (Int32 × Mem)} (h : fc_parcel M a1 a2 a3 = some x) : Mt l D cy ad yX10_parcel cX10_parcel 4 (some .int) 3 [.ref (ad 0), .int a1, .int a2, .int a3] ((wfC N) M) (some (.int x.1), (wfC N) x.2) := by
  refine met_of (fin := finS) (lv0 := [(0, .ref (ad 0)), (1, .int a1), (2, .int a2), (3, .int a3)]) (by decide) (Nat.le_of_ble_eq_true rfl) rfl (lC N) h (fun p e s m args below meth c X hr => ?_)
  unfold fc_parcel
  refine g_aload_n X dX10_parcel_0 0 rfl rfl ?_
  refine g_iload_n X dX10_parcel_1 1 rfl rfl ?_
  refine g_ct X (v0 := .int (fc_isJettyT M a1)) (st := []) (ok_V X (k0 := 0) (As := [.int a1]) wkX10_isJetty (tc_isJettyT M a1) rfl k_0 s_0 (by decide) rfl m_2_227 rfl (hRm (by decide) (by decide)) ⟨Nat.zero_le _, Nat.zero_le _⟩ (Nat.le_of_ble_eq_true rfl) dX10_parcel_2) ?_
  refine g_if_eq X 28 (by decide) dX10_parcel_5 (fun q5 => ?_) (fun q5 => ?_)
  · refine g_aload_n X dX10_parcel_28 0 rfl rfl ?_
    refine g_bipush X dX10_parcel_29 bi_m2 ?_
    refine g_cs X (st := []) (fun _ hh => ok_V X (k0 := 0) (As := [.int (-2)]) wkX10_refuse (tc_refuse M (-2) hh) rfl k_0 s_0 (by decide) rfl m_2_173 rfl (hRm (by decide) (by decide)) ⟨Nat.zero_le _, Nat.zero_le _⟩ (Nat.le_of_ble_eq_true rfl) dX10_parcel_31) (fun r2 M1 _ => ?_)
    exact g_iret X hr rfl dX10_parcel_34
  · refine g_iload_n X dX10_parcel_8 2 rfl rfl ?_
    refine g_iconst X dX10_parcel_9 ic_1 ?_
    refine g_bipush X dX10_parcel_10 bi_60 ?_
    refine g_ct X (v0 := .int (fc_isWithinT M a2 1 60)) (st := []) (ok_S X (As := [.int a2, .int 1, .int 60]) wkX10_isWithin (tc_isWithinT M a2 1 60) rfl m_2_170 rfl (hRm (by decide) (by decide)) ⟨Nat.zero_le _, Nat.zero_le _⟩ (Nat.le_of_ble_eq_true rfl) dX10_parcel_12) ?_
    refine g_if_eq X 28 (by decide) dX10_parcel_15 (fun q15 => ?_) (fun q15 => ?_)
    · refine g_aload_n X dX10_parcel_28 0 rfl rfl ?_
      refine g_bipush X dX10_parcel_29 bi_m2 ?_
      refine g_cs X (st := []) (fun _ hh => ok_V X (k0 := 0) (As := [.int (-2)]) wkX10_refuse (tc_refuse M (-2) hh) rfl k_0 s_0 (by decide) rfl m_2_173 rfl (hRm (by decide) (by decide)) ⟨Nat.zero_le _, Nat.zero_le _⟩ (Nat.le_of_ble_eq_true rfl) dX10_parcel_31) (fun r4 M3 _ => ?_)
      exact g_iret X hr rfl dX10_parcel_34
    · refine g_iload_n X dX10_parcel_18 3 rfl rfl ?_
      refine g_iconst X dX10_parcel_19 ic_1 ?_
      refine g_bipush X dX10_parcel_20 bi_99 ?_
      refine g_ct X (v0 := .int (fc_isWithinT M a3 1 99)) (st := []) (ok_S X (As := [.int a3, .int 1, .int 99]) wkX10_isWithin (tc_isWithinT M a3 1 99) rfl m_2_170 rfl (hRm (by decide) (by decide)) ⟨Nat.zero_le _, Nat.zero_le _⟩ (Nat.le_of_ble_eq_true rfl) dX10_parcel_22) ?_
      refine g_if_ne X 35 (by decide) dX10_parcel_25 (fun q25 => ?_) (fun q25 => ?_)
      · refine g_aload_n X dX10_parcel_35 0 rfl rfl ?_
        refine get_10_2 X (k := 0) k_0 s_0 m_2_128 dX10_parcel_36 ?_
        refine get_1_9 X (k := 20) k_20 s_20 m_1_196 dX10_parcel_39 ?_
        refine g_bipush X dX10_parcel_42 bi_10 ?_
        refine g_icmp_lt X 54 (by decide) dX10_parcel_44 (fun q44 => ?_) (fun q44 => ?_)
        · refine g_aload_n X dX10_parcel_54 0 rfl rfl ?_
          refine get_10_2 X (k := 0) k_0 s_0 m_2_128 dX10_parcel_55 ?_
          refine get_1_7 X (k := 20) k_20 s_20 m_1_192 dX10_parcel_58 ?_
          refine g_aload_n X dX10_parcel_61 0 rfl rfl ?_
          refine get_10_2 X (k := 0) k_0 s_0 m_2_128 dX10_parcel_62 ?_
          refine get_1_9 X (k := 20) k_20 s_20 m_1_196 dX10_parcel_65 ?_
          refine g_iload_n X dX10_parcel_68 2 rfl rfl ?_
          refine g_iast X (n := 10) (k := 64) k_64 s_64 dX10_parcel_69 (fun h5 => ?_)
          refine g_mlet X (fun M6 => ?_)
          refine g_aload_n X dX10_parcel_70 0 rfl rfl ?_
          refine get_10_2 X (k := 0) k_0 s_0 m_2_128 dX10_parcel_71 ?_
          refine get_1_8 X (k := 20) k_20 s_20 m_1_194 dX10_parcel_74 ?_
          refine g_aload_n X dX10_parcel_77 0 rfl rfl ?_
          refine get_10_2 X (k := 0) k_0 s_0 m_2_128 dX10_parcel_78 ?_
          refine get_1_9 X (k := 20) k_20 s_20 m_1_196 dX10_parcel_81 ?_
          refine g_iload_n X dX10_parcel_84 3 rfl rfl ?_
          refine g_iast X (n := 10) (k := 65) k_65 s_65 dX10_parcel_85 (fun h7 => ?_)
          refine g_mlet X (fun M8 => ?_)
          refine g_aload_n X dX10_parcel_86 0 rfl rfl ?_
          refine get_10_2 X (k := 0) k_0 s_0 m_2_128 dX10_parcel_87 ?_
          refine g_dup X dX10_parcel_90 rfl ?_
          refine get_1_9 X (k := 20) k_20 s_20 m_1_196 dX10_parcel_91 ?_
          refine g_iconst X dX10_parcel_94 ic_1 ?_
          refine g_iadd X dX10_parcel_95 ?_
          refine put_1_9 X (k := 20) k_20 s_20 m_1_196 dX10_parcel_96 ?_
          refine g_mlet X (fun M9 => ?_)
          refine g_aload_n X dX10_parcel_99 0 rfl rfl ?_
          refine get_10_2 X (k := 0) k_0 s_0 m_2_128 dX10_parcel_100 ?_
          refine get_1_9 X (k := 20) k_20 s_20 m_1_196 dX10_parcel_103 ?_
          refine g_iconst X dX10_parcel_106 ic_1 ?_
          refine g_isub X dX10_parcel_107 ?_
          exact g_iret X hr rfl dX10_parcel_108
        · refine g_aload_n X dX10_parcel_47 0 rfl rfl ?_
          refine g_bipush X dX10_parcel_48 bi_m6 ?_
          refine g_cs X (st := []) (fun _ hh => ok_V X (k0 := 0) (As := [.int (-6)]) wkX10_refuse (tc_refuse M (-6) hh) rfl k_0 s_0 (by decide) rfl m_2_173 rfl (hRm (by decide) (by decide)) ⟨Nat.zero_le _, Nat.zero_le _⟩ (Nat.le_of_ble_eq_true rfl) dX10_parcel_50) (fun r11 M10 _ => ?_)
          exact g_iret X hr rfl dX10_parcel_53
      · refine g_aload_n X dX10_parcel_28 0 rfl rfl ?_
        refine g_bipush X dX10_parcel_29 bi_m2 ?_
        refine g_cs X (st := []) (fun _ hh => ok_V X (k0 := 0) (As := [.int (-2)]) wkX10_refuse (tc_refuse M (-2) hh) rfl k_0 s_0 (by decide) rfl m_2_173 rfl (hRm (by decide) (by decide)) ⟨Nat.zero_le _, Nat.zero_le _⟩ (Nat.le_of_ble_eq_true rfl) dX10_parcel_31) (fun r13 M12 _ => ?_)
        exact g_iret X hr rfl dX10_parcel_34
set_option maxRecDepth 100000 in
set_option maxHeartbeats 4000000 in
theorem LLake_worthWithin_L8 {l : Launch} {D : va_G} {cy : Nat → ClassId} {ad : Nat → Nat} {N : Mem} {p : Program} {e : Env} {s : State} {m : MethodId} {args : Array Value} {below : List Frame} {meth : Method} {c : Code} (X : Cx p s m args meth c cX1_worthWithin 6 RX1 D cy ad (AA ad) (wfC N) sdC) (hr : meth.sig.returnType = (some .int)) (M : Mem) (b1 : Int32) (kx55 : Int32 → Int32 → Option Int32) (hkx55 : ∀ (y3 : Int32) (y4 : Int32), GF p l e (Rm 1) s m args below meth c 6 D cy ad (AA ad) 0 0 (wfC N) (QM D cy ad (wfC N) below args s) (finI M) (kx55 y3 y4) 55 [(3, .int y3), (4, .int y4)] [] M) : ∀ (n : Nat) (x3 : Int32) (x4 : Int32) (x5 : Int32), GF p l e (Rm 1) s m args below meth c 6 D cy ad (AA ad) 0 0 (wfC N) (QM D cy ad (wfC N) below args s) (finI M) (fLake_worthWithin_L8 M b1 kx55 n x3 x4 x5) 8 [(0, .ref (ad 20)), (1, .int b1), (3, .int x3), (4, .int x4), (5, .int x5)] [] M := by
  intro n
  induction n with
  | zero => intro x3 x4 x5; exact g_none
  | succ n ih =>
    intro x3 x4 x5
    rw [fLake_worthWithin_L8]
    refine g_iload X dX1_worthWithin_8 4 rfl ?_
    refine g_aload_n X dX1_worthWithin_10 0 rfl rfl ?_
    refine get_1_9 X (k := 20) k_20 s_20 m_1_195 dX1_worthWithin_11 ?_
    refine g_icmp_ge X 55 (by decide) dX1_worthWithin_14 (fun q14 => ?_) (fun q14 => ?_)
    · refine g_sub (lu := [(3, .int x3), (4, .int x4)]) [2, 3] rfl ?_
      exact hkx55 x3 x4
    · refine g_iload_n X dX1_worthWithin_17 1 rfl rfl ?_
      refine g_iload X dX1_worthWithin_18 4 rfl ?_
      refine g_ishr X dX1_worthWithin_20 ?_
      refine g_iconst X dX1_worthWithin_21 ic_1 ?_
      refine g_iand X dX1_worthWithin_22 ?_
      refine g_iconst X dX1_worthWithin_23 ic_1 ?_
      refine g_jlet X 49 (fun z49 : Int32 × Int32 => [(0, .ref (ad 20)), (1, .int b1), (3, .int (z49.1)), (4, .int (z49.2)), (5, .int x5)]) (fun z49 : Int32 × Int32 => []) (fun z49 : Int32 × Int32 => M) (fun z49 => ?_) (fun J49 hJ49 => ?_)
      · show GF _ _ _ _ _ _ _ _ _ _ _ _ _ _ _ _ _ _ _ _ _ 49 [(0, .ref (ad 20)), (1, .int b1), (3, .int (z49.1)), (4, .int (z49.2)), (5, .int x5)] [] M
        refine g_iinc X (k := 4) (v := (x5 + 1)) dX1_worthWithin_49 rfl (ii_1 _) (by decide) rfl [1, 2, 3, 4, 0] (lu := [(0, .ref (ad 20)), (1, .int b1), (3, .int (z49.1)), (4, .int (z49.2)), (5, .int (x5 + 1))]) rfl ?_
        refine g_goto X 8 (by decide) dX1_worthWithin_52 ?_
        exact ih (z49.1) (z49.2) (x5 + 1)
      refine g_icmp_ne X 49 (by decide) dX1_worthWithin_24 (fun q24 => ?_) (fun q24 => ?_)
      · exact hJ49 (x3, x4)
      · refine g_iload_n X dX1_worthWithin_27 2 rfl rfl ?_
        refine g_aload_n X dX1_worthWithin_28 0 rfl rfl ?_
        refine get_1_8 X (k := 20) k_20 s_20 m_1_193 dX1_worthWithin_29 ?_
        refine g_iload X dX1_worthWithin_32 4 rfl ?_
        refine g_iald X (n := 10) (k := 65) k_65 s_65 dX1_worthWithin_34 (fun h1 => ?_)
        refine g_iadd X dX1_worthWithin_35 ?_
        refine g_ilet X (fun v2 => ?_)
        refine g_istore_n X dX1_worthWithin_36 rfl (by decide) rfl [1, 2, 0, 3, 4] (lu := [(0, .ref (ad 20)), (1, .int b1), (3, .int v2), (4, .int x4), (5, .int x5)]) rfl ?_
        refine g_iload X dX1_worthWithin_37 3 rfl ?_
        refine g_aload_n X dX1_worthWithin_39 0 rfl rfl ?_
        refine get_1_7 X (k := 20) k_20 s_20 m_1_191 dX1_worthWithin_40 ?_
        refine g_iload X dX1_worthWithin_43 4 rfl ?_
        refine g_iald X (n := 10) (k := 64) k_64 s_64 dX1_worthWithin_45 (fun h3 => ?_)
        refine g_isub X dX1_worthWithin_46 ?_
        refine g_ilet X (fun v4 => ?_)
        refine g_istore X dX1_worthWithin_47 (by decide) rfl [1, 2, 3, 0, 4] (lu := [(0, .ref (ad 20)), (1, .int b1), (3, .int v2), (4, .int v4), (5, .int x5)]) rfl ?_
        exact hJ49 (v2, v4)
set_option maxRecDepth 100000 in
set_option maxHeartbeats 4000000 in
theorem tLake_worthWithin {l : Launch} {D : va_G} {cy : Nat → ClassId} {ad : Nat → Nat} {N : Mem} (M : Mem) (a1 : Int32) (a2 : Int32) {x : Int32} (h : fLake_worthWithin M a1 a2 = some x) : Mt l D cy ad yX1_worthWithin cX1_worthWithin 6 (some .int) 1 [.ref (ad 20), .int a1, .int a2] ((wfC N) M) (some (.int x), (wfC N) M) := by
  refine met_of (fin := (finI M)) (lv0 := [(0, .ref (ad 20)), (1, .int a1), (2, .int a2)]) (by decide) (Nat.le_of_ble_eq_true rfl) rfl (lC N) h (fun p e s m args below meth c X hr => ?_)
  unfold fLake_worthWithin
  refine g_iconst X dX1_worthWithin_0 ic_0 ?_
  refine g_istore_n X dX1_worthWithin_1 rfl (by decide) rfl [1, 2, 3, 0] (lu := [(0, .ref (ad 20)), (1, .int a1), (2, .int a2), (3, .int 0)]) rfl ?_
  refine g_iload_n X dX1_worthWithin_2 2 rfl rfl ?_
  refine g_istore X dX1_worthWithin_3 (by decide) rfl [1, 2, 4, 0] (lu := [(0, .ref (ad 20)), (1, .int a1), (3, .int 0), (4, .int a2)]) rfl ?_
  refine g_iconst X dX1_worthWithin_5 ic_0 ?_
  refine g_istore X dX1_worthWithin_6 (by decide) rfl [1, 2, 3, 4, 0] (lu := [(0, .ref (ad 20)), (1, .int a1), (3, .int 0), (4, .int a2), (5, .int 0)]) rfl ?_
  refine LLake_worthWithin_L8  X hr M a1  _ (fun w5 w6 => ?_) FU 0 a2 0
  · refine g_iload X dX1_worthWithin_55 1 rfl ?_
    refine g_if_ge X 64 (by decide) dX1_worthWithin_57 (fun q57 => ?_) (fun q57 => ?_)
    · refine g_iload_n X dX1_worthWithin_64 0 rfl rfl ?_
      exact g_iret X hr rfl dX1_worthWithin_65
    · refine g_iconst X dX1_worthWithin_60 ic_m1 ?_
      refine g_goto X 65 (by decide) dX1_worthWithin_61 ?_
      exact g_iret X hr rfl dX1_worthWithin_65
set_option maxRecDepth 100000 in
set_option maxHeartbeats 4000000 in
theorem Lc_stops_L36 {l : Launch} {D : va_G} {cy : Nat → ClassId} {ad : Nat → Nat} {N : Mem} {p : Program} {e : Env} {s : State} {m : MethodId} {args : Array Value} {below : List Frame} {meth : Method} {c : Code} (X : Cx p s m args meth c cX10_stops 7 RX10 D cy ad (AA ad) (wfC N) sdC) (hr : meth.sig.returnType = (some .int)) (M : Mem) (b1 : Int32) (b4 : Int32) : ∀ (n : Nat) (x2 : Int32) (x3 : Int32) (x5 : Int32), GF p l e (Rm 3) s m args below meth c 7 D cy ad (AA ad) 0 0 (wfC N) (QM D cy ad (wfC N) below args s) finS (fc_stops_L36 M b1 b4 n x2 x3 x5) 36 [(0, .ref (ad 0)), (1, .int b1), (2, .int x2), (3, .int x3), (4, .int b4), (5, .int x5)] [] M := by
  intro n
  induction n with
  | zero => intro x2 x3 x5; exact g_none
  | succ n ih =>
    intro x2 x3 x5
    rw [fc_stops_L36]
    refine g_iload X dX10_stops_36 5 rfl ?_
    refine g_iload X dX10_stops_38 4 rfl ?_
    refine g_icmp_ge X 73 (by decide) dX10_stops_40 (fun q40 => ?_) (fun q40 => ?_)
    · refine g_iload_n X dX10_stops_73 2 rfl rfl ?_
      exact g_iret X hr rfl dX10_stops_74
    · refine g_aload_n X dX10_stops_43 0 rfl rfl ?_
      refine get_10_2 X (k := 0) k_0 s_0 m_2_128 dX10_stops_44 ?_
      refine g_iload X dX10_stops_47 5 rfl ?_
      refine g_iload_n X dX10_stops_49 1 rfl rfl ?_
      refine g_ci X (st := []) (fun _ hh => ok_V X (k0 := 20) (As := [.int x5, .int b1]) wkX1_worthWithin (tLake_worthWithin M x5 b1 hh) rfl k_20 s_20 (by decide) rfl m_4_191 rfl (hRm (by decide) (by decide)) ⟨Nat.zero_le _, Nat.zero_le _⟩ (Nat.le_of_ble_eq_true rfl) dX10_stops_50) (fun r2 _ => ?_)
      refine g_istore X dX10_stops_53 (by decide) rfl [1, 2, 3, 4, 5, 6, 0] (lu := [(0, .ref (ad 0)), (1, .int b1), (2, .int x2), (3, .int x3), (4, .int b4), (5, .int x5), (6, .int r2)]) rfl ?_
      refine g_iload X dX10_stops_55 6 rfl ?_
      refine g_iload_n X dX10_stops_57 3 rfl rfl ?_
      refine g_jlet X 67 (fun z67 : Int32 × Int32 => [(0, .ref (ad 0)), (1, .int b1), (2, .int (z67.1)), (3, .int (z67.2)), (4, .int b4), (5, .int x5)]) (fun z67 : Int32 × Int32 => []) (fun z67 : Int32 × Int32 => M) (fun z67 => ?_) (fun J67 hJ67 => ?_)
      · show GF _ _ _ _ _ _ _ _ _ _ _ _ _ _ _ _ _ _ _ _ _ 67 [(0, .ref (ad 0)), (1, .int b1), (2, .int (z67.1)), (3, .int (z67.2)), (4, .int b4), (5, .int x5)] [] M
        refine g_iinc X (k := 5) (v := (x5 + 1)) dX10_stops_67 rfl (ii_1 _) (by decide) rfl [1, 2, 3, 4, 5, 0] (lu := [(0, .ref (ad 0)), (1, .int b1), (2, .int (z67.1)), (3, .int (z67.2)), (4, .int b4), (5, .int (x5 + 1))]) rfl ?_
        refine g_goto X 36 (by decide) dX10_stops_70 ?_
        exact ih (z67.1) (z67.2) (x5 + 1)
      refine g_icmp_le X 67 (by decide) dX10_stops_58 (fun q58 => ?_) (fun q58 => ?_)
      · refine g_sub (lu := [(0, .ref (ad 0)), (1, .int b1), (2, .int x2), (3, .int x3), (4, .int b4), (5, .int x5)]) [0, 1, 2, 3, 4, 5] rfl ?_
        exact hJ67 (x2, x3)
      · refine g_iload X dX10_stops_61 6 rfl ?_
        refine g_istore_n X dX10_stops_63 rfl (by decide) rfl [1, 2, 0, 4, 5] (lu := [(0, .ref (ad 0)), (1, .int b1), (3, .int r2), (4, .int b4), (5, .int x5)]) rfl ?_
        refine g_iload X dX10_stops_64 4 rfl ?_
        refine g_istore_n X dX10_stops_66 rfl (by decide) rfl [1, 2, 0, 3, 4, 5] (lu := [(0, .ref (ad 0)), (1, .int b1), (2, .int x5), (3, .int r2), (4, .int b4), (5, .int x5)]) rfl ?_
        exact hJ67 (x5, r2)
set_option maxRecDepth 100000 in
set_option maxHeartbeats 4000000 in
theorem tc_stops {l : Launch} {D : va_G} {cy : Nat → ClassId} {ad : Nat → Nat} {N : Mem} (M : Mem) (a1 : Int32) {x : (Int32 × Mem)} (h : fc_stops M a1 = some x) : Mt l D cy ad yX10_stops cX10_stops 7 (some .int) 3 [.ref (ad 0), .int a1] ((wfC N) M) (some (.int x.1), (wfC N) x.2) := by
  refine met_of (fin := finS) (lv0 := [(0, .ref (ad 0)), (1, .int a1)]) (by decide) (Nat.le_of_ble_eq_true rfl) rfl (lC N) h (fun p e s m args below meth c X hr => ?_)
  unfold fc_stops
  refine g_iload_n X dX10_stops_0 1 rfl rfl ?_
  refine g_iconst X dX10_stops_1 ic_0 ?_
  refine g_sipush X dX10_stops_2 si_600 ?_
  refine g_ct X (v0 := .int (fc_isWithinT M a1 0 600)) (st := []) (ok_S X (As := [.int a1, .int 0, .int 600]) wkX10_isWithin (tc_isWithinT M a1 0 600) rfl m_2_170 rfl (hRm (by decide) (by decide)) ⟨Nat.zero_le _, Nat.zero_le _⟩ (Nat.le_of_ble_eq_true rfl) dX10_stops_5) ?_
  refine g_if_ne X 18 (by decide) dX10_stops_8 (fun q8 => ?_) (fun q8 => ?_)
  · refine g_iconst X dX10_stops_18 ic_0 ?_
    refine g_istore_n X dX10_stops_19 rfl (by decide) rfl [1, 2, 0] (lu := [(0, .ref (ad 0)), (1, .int a1), (2, .int 0)]) rfl ?_
    refine g_iconst X dX10_stops_20 ic_0 ?_
    refine g_istore_n X dX10_stops_21 rfl (by decide) rfl [1, 2, 3, 0] (lu := [(0, .ref (ad 0)), (1, .int a1), (2, .int 0), (3, .int 0)]) rfl ?_
    refine g_iconst X dX10_stops_22 ic_1 ?_
    refine g_aload_n X dX10_stops_23 0 rfl rfl ?_
    refine get_10_2 X (k := 0) k_0 s_0 m_2_128 dX10_stops_24 ?_
    refine get_1_9 X (k := 20) k_20 s_20 m_1_196 dX10_stops_27 ?_
    refine g_ishl X dX10_stops_30 ?_
    refine g_ilet X (fun v1 => ?_)
    refine g_istore X dX10_stops_31 (by decide) rfl [1, 2, 3, 4, 0] (lu := [(0, .ref (ad 0)), (1, .int a1), (2, .int 0), (3, .int 0), (4, .int v1)]) rfl ?_
    refine g_iconst X dX10_stops_33 ic_1 ?_
    refine g_istore X dX10_stops_34 (by decide) rfl [1, 2, 3, 4, 5, 0] (lu := [(0, .ref (ad 0)), (1, .int a1), (2, .int 0), (3, .int 0), (4, .int v1), (5, .int 1)]) rfl ?_
    exact Lc_stops_L36  X hr M a1 v1    FU 0 0 1
  · refine g_aload_n X dX10_stops_11 0 rfl rfl ?_
    refine g_bipush X dX10_stops_12 bi_m2 ?_
    refine g_cs X (st := []) (fun _ hh => ok_V X (k0 := 0) (As := [.int (-2)]) wkX10_refuse (tc_refuse M (-2) hh) rfl k_0 s_0 (by decide) rfl m_2_173 rfl (hRm (by decide) (by decide)) ⟨Nat.zero_le _, Nat.zero_le _⟩ (Nat.le_of_ble_eq_true rfl) dX10_stops_14) (fun r4 M3 _ => ?_)
    exact g_iret X hr rfl dX10_stops_17
set_option maxRecDepth 100000 in
set_option maxHeartbeats 4000000 in
theorem tc_week {l : Launch} {D : va_G} {cy : Nat → ClassId} {ad : Nat → Nat} {N : Mem} (M : Mem) (a1 : Int32) (a2 : Int32) {x : (Int32 × Mem)} (h : fc_week M a1 a2 = some x) : Mt l D cy ad yX10_week cX10_week 3 (some .int) 5 [.ref (ad 0), .int a1, .int a2] ((wfC N) M) (some (.int x.1), (wfC N) x.2) := by
  refine met_of (fin := finS) (lv0 := [(0, .ref (ad 0)), (1, .int a1), (2, .int a2)]) (by decide) (Nat.le_of_ble_eq_true rfl) rfl (lC N) h (fun p e s m args below meth c X hr => ?_)
  unfold fc_week
  refine g_aload_n X dX10_week_0 0 rfl rfl ?_
  refine g_iload_n X dX10_week_1 1 rfl rfl ?_
  refine g_ct X (v0 := .int (fc_isJettyT M a1)) (st := []) (ok_V X (k0 := 0) (As := [.int a1]) wkX10_isJetty (tc_isJettyT M a1) rfl k_0 s_0 (by decide) rfl m_2_227 rfl (hRm (by decide) (by decide)) ⟨Nat.zero_le _, Nat.zero_le _⟩ (Nat.le_of_ble_eq_true rfl) dX10_week_2) ?_
  refine g_if_eq X 18 (by decide) dX10_week_5 (fun q5 => ?_) (fun q5 => ?_)
  · refine g_aload_n X dX10_week_18 0 rfl rfl ?_
    refine g_bipush X dX10_week_19 bi_m2 ?_
    refine g_cs X (st := []) (fun _ hh => ok_V X (k0 := 0) (As := [.int (-2)]) wkX10_refuse (tc_refuse M (-2) hh) rfl k_0 s_0 (by decide) rfl m_2_173 rfl (hRm (by decide) (by decide)) ⟨Nat.zero_le _, Nat.zero_le _⟩ (Nat.le_of_ble_eq_true rfl) dX10_week_21) (fun r2 M1 _ => ?_)
    exact g_iret X hr rfl dX10_week_24
  · refine g_iload_n X dX10_week_8 2 rfl rfl ?_
    refine g_iconst X dX10_week_9 ic_1 ?_
    refine g_bipush X dX10_week_10 bi_20 ?_
    refine g_ct X (v0 := .int (fc_isWithinT M a2 1 20)) (st := []) (ok_S X (As := [.int a2, .int 1, .int 20]) wkX10_isWithin (tc_isWithinT M a2 1 20) rfl m_2_170 rfl (hRm (by decide) (by decide)) ⟨Nat.zero_le _, Nat.zero_le _⟩ (Nat.le_of_ble_eq_true rfl) dX10_week_12) ?_
    refine g_if_ne X 25 (by decide) dX10_week_15 (fun q15 => ?_) (fun q15 => ?_)
    · refine g_aload_n X dX10_week_25 0 rfl rfl ?_
      refine get_10_2 X (k := 0) k_0 s_0 m_2_128 dX10_week_26 ?_
      refine g_iload_n X dX10_week_29 1 rfl rfl ?_
      refine g_iload_n X dX10_week_30 2 rfl rfl ?_
      refine g_ci X (st := []) (fun _ hh => ok_V X (k0 := 20) (As := [.int a1, .int a2]) wkX1_firstWeekOut (tLake_firstWeekOut M a1 a2 hh) rfl k_20 s_20 (by decide) rfl m_4_199 rfl (hRm (by decide) (by decide)) ⟨Nat.zero_le _, Nat.zero_le _⟩ (Nat.le_of_ble_eq_true rfl) dX10_week_31) (fun r3 _ => ?_)
      exact g_iret X hr rfl dX10_week_34
    · refine g_aload_n X dX10_week_18 0 rfl rfl ?_
      refine g_bipush X dX10_week_19 bi_m2 ?_
      refine g_cs X (st := []) (fun _ hh => ok_V X (k0 := 0) (As := [.int (-2)]) wkX10_refuse (tc_refuse M (-2) hh) rfl k_0 s_0 (by decide) rfl m_2_173 rfl (hRm (by decide) (by decide)) ⟨Nat.zero_le _, Nat.zero_le _⟩ (Nat.le_of_ble_eq_true rfl) dX10_week_21) (fun r5 M4 _ => ?_)
      exact g_iret X hr rfl dX10_week_24
set_option maxRecDepth 100000 in
set_option maxHeartbeats 4000000 in
theorem Lc_outs_L32 {l : Launch} {D : va_G} {cy : Nat → ClassId} {ad : Nat → Nat} {N : Mem} {p : Program} {e : Env} {s : State} {m : MethodId} {args : Array Value} {below : List Frame} {meth : Method} {c : Code} (X : Cx p s m args meth c cX10_outs 5 RX10 D cy ad (AA ad) (wfC N) sdC) (hr : meth.sig.returnType = (some .int)) (M : Mem) (b1 : Int32) (b2 : Int32) : ∀ (n : Nat) (x3 : Int32) (x4 : Int32), GF p l e (Rm 4) s m args below meth c 5 D cy ad (AA ad) 0 0 (wfC N) (QM D cy ad (wfC N) below args s) finS (fc_outs_L32 M b1 b2 n x3 x4) 32 [(0, .ref (ad 0)), (1, .int b1), (2, .int b2), (3, .int x3), (4, .int x4)] [] M := by
  intro n
  induction n with
  | zero => intro x3 x4; exact g_none
  | succ n ih =>
    intro x3 x4
    rw [fc_outs_L32]
    refine g_iload X dX10_outs_32 4 rfl ?_
    refine g_aload_n X dX10_outs_34 0 rfl rfl ?_
    refine get_10_2 X (k := 0) k_0 s_0 m_2_128 dX10_outs_35 ?_
    refine get_1_1 X (k := 20) k_20 s_20 m_1_179 dX10_outs_38 ?_
    refine g_icmp_ge X 88 (by decide) dX10_outs_41 (fun q41 => ?_) (fun q41 => ?_)
    · refine g_iload_n X dX10_outs_88 3 rfl rfl ?_
      exact g_iret X hr rfl dX10_outs_89
    · refine g_aload_n X dX10_outs_44 0 rfl rfl ?_
      refine get_10_2 X (k := 0) k_0 s_0 m_2_128 dX10_outs_45 ?_
      refine g_aload_n X dX10_outs_48 0 rfl rfl ?_
      refine get_10_2 X (k := 0) k_0 s_0 m_2_128 dX10_outs_49 ?_
      refine get_1_0 X (k := 20) k_20 s_20 m_1_177 dX10_outs_52 ?_
      refine g_iload X dX10_outs_55 4 rfl ?_
      refine g_aald24 X (k := 21) k_21 s_21 dX10_outs_57 (fun h3 => ?_)
      refine g_aload_n X dX10_outs_58 0 rfl rfl ?_
      refine get_10_2 X (k := 0) k_0 s_0 m_2_128 dX10_outs_59 ?_
      refine get_1_11 X (k := 20) k_20 s_20 m_1_200 dX10_outs_62 ?_
      refine g_iload_n X dX10_outs_65 1 rfl rfl ?_
      refine g_iload_n X dX10_outs_66 2 rfl rfl ?_
      refine g_imul X dX10_outs_67 ?_
      refine g_isub X dX10_outs_68 ?_
      refine g_ct X (v0 := .int (fLake_isOutT M (ix x4) ((M.1 20 12) - (b1 * b2)))) (st := []) (ok_V X (k0 := 20) (As := [.ref (ad ((ix x4) + 22)), .int ((M.1 20 12) - (b1 * b2))]) wkX1_isOut (tLake_isOutT M (ix x4) ((M.1 20 12) - (b1 * b2)) (inb_lt h3)) rfl k_20 s_20 (by decide) rfl m_3_36 rfl (hRm (by decide) (by decide)) ⟨Nat.zero_le _, Nat.zero_le _⟩ (Nat.le_of_ble_eq_true rfl) dX10_outs_69) ?_
      refine g_jlet X 82 (fun z82 : Int32 => [(0, .ref (ad 0)), (1, .int b1), (2, .int b2), (3, .int z82), (4, .int x4)]) (fun z82 : Int32 => []) (fun z82 : Int32 => M) (fun z82 => ?_) (fun J82 hJ82 => ?_)
      · show GF _ _ _ _ _ _ _ _ _ _ _ _ _ _ _ _ _ _ _ _ _ 82 [(0, .ref (ad 0)), (1, .int b1), (2, .int b2), (3, .int z82), (4, .int x4)] [] M
        refine g_iinc X (k := 4) (v := (x4 + 1)) dX10_outs_82 rfl (ii_1 _) (by decide) rfl [1, 2, 3, 4, 0] (lu := [(0, .ref (ad 0)), (1, .int b1), (2, .int b2), (3, .int z82), (4, .int (x4 + 1))]) rfl ?_
        refine g_goto X 32 (by decide) dX10_outs_85 ?_
        exact ih z82 (x4 + 1)
      refine g_if_eq X 82 (by decide) dX10_outs_72 (fun q72 => ?_) (fun q72 => ?_)
      · exact hJ82 x3
      · refine g_iload_n X dX10_outs_75 3 rfl rfl ?_
        refine g_iconst X dX10_outs_76 ic_1 ?_
        refine g_iload X dX10_outs_77 4 rfl ?_
        refine g_ishl X dX10_outs_79 ?_
        refine g_ior X dX10_outs_80 ?_
        refine g_ilet X (fun v4 => ?_)
        refine g_istore_n X dX10_outs_81 rfl (by decide) rfl [1, 2, 3, 0, 4] (lu := [(0, .ref (ad 0)), (1, .int b1), (2, .int b2), (3, .int v4), (4, .int x4)]) rfl ?_
        exact hJ82 v4
set_option maxRecDepth 100000 in
set_option maxHeartbeats 4000000 in
theorem tc_outs {l : Launch} {D : va_G} {cy : Nat → ClassId} {ad : Nat → Nat} {N : Mem} (M : Mem) (a1 : Int32) (a2 : Int32) {x : (Int32 × Mem)} (h : fc_outs M a1 a2 = some x) : Mt l D cy ad yX10_outs cX10_outs 5 (some .int) 4 [.ref (ad 0), .int a1, .int a2] ((wfC N) M) (some (.int x.1), (wfC N) x.2) := by
  refine met_of (fin := finS) (lv0 := [(0, .ref (ad 0)), (1, .int a1), (2, .int a2)]) (by decide) (Nat.le_of_ble_eq_true rfl) rfl (lC N) h (fun p e s m args below meth c X hr => ?_)
  unfold fc_outs
  refine g_iload_n X dX10_outs_0 1 rfl rfl ?_
  refine g_iconst X dX10_outs_1 ic_0 ?_
  refine g_bipush X dX10_outs_2 bi_20 ?_
  refine g_ct X (v0 := .int (fc_isWithinT M a1 0 20)) (st := []) (ok_S X (As := [.int a1, .int 0, .int 20]) wkX10_isWithin (tc_isWithinT M a1 0 20) rfl m_2_170 rfl (hRm (by decide) (by decide)) ⟨Nat.zero_le _, Nat.zero_le _⟩ (Nat.le_of_ble_eq_true rfl) dX10_outs_4) ?_
  refine g_if_eq X 20 (by decide) dX10_outs_7 (fun q7 => ?_) (fun q7 => ?_)
  · refine g_aload_n X dX10_outs_20 0 rfl rfl ?_
    refine g_bipush X dX10_outs_21 bi_m2 ?_
    refine g_cs X (st := []) (fun _ hh => ok_V X (k0 := 0) (As := [.int (-2)]) wkX10_refuse (tc_refuse M (-2) hh) rfl k_0 s_0 (by decide) rfl m_2_173 rfl (hRm (by decide) (by decide)) ⟨Nat.zero_le _, Nat.zero_le _⟩ (Nat.le_of_ble_eq_true rfl) dX10_outs_23) (fun r2 M1 _ => ?_)
    exact g_iret X hr rfl dX10_outs_26
  · refine g_iload_n X dX10_outs_10 2 rfl rfl ?_
    refine g_iconst X dX10_outs_11 ic_1 ?_
    refine g_bipush X dX10_outs_12 bi_20 ?_
    refine g_ct X (v0 := .int (fc_isWithinT M a2 1 20)) (st := []) (ok_S X (As := [.int a2, .int 1, .int 20]) wkX10_isWithin (tc_isWithinT M a2 1 20) rfl m_2_170 rfl (hRm (by decide) (by decide)) ⟨Nat.zero_le _, Nat.zero_le _⟩ (Nat.le_of_ble_eq_true rfl) dX10_outs_14) ?_
    refine g_if_ne X 27 (by decide) dX10_outs_17 (fun q17 => ?_) (fun q17 => ?_)
    · refine g_iconst X dX10_outs_27 ic_0 ?_
      refine g_istore_n X dX10_outs_28 rfl (by decide) rfl [1, 2, 3, 0] (lu := [(0, .ref (ad 0)), (1, .int a1), (2, .int a2), (3, .int 0)]) rfl ?_
      refine g_iconst X dX10_outs_29 ic_0 ?_
      refine g_istore X dX10_outs_30 (by decide) rfl [1, 2, 3, 4, 0] (lu := [(0, .ref (ad 0)), (1, .int a1), (2, .int a2), (3, .int 0), (4, .int 0)]) rfl ?_
      exact Lc_outs_L32  X hr M a1 a2    FU 0 0
    · refine g_aload_n X dX10_outs_20 0 rfl rfl ?_
      refine g_bipush X dX10_outs_21 bi_m2 ?_
      refine g_cs X (st := []) (fun _ hh => ok_V X (k0 := 0) (As := [.int (-2)]) wkX10_refuse (tc_refuse M (-2) hh) rfl k_0 s_0 (by decide) rfl m_2_173 rfl (hRm (by decide) (by decide)) ⟨Nat.zero_le _, Nat.zero_le _⟩ (Nat.le_of_ble_eq_true rfl) dX10_outs_23) (fun r6 M5 _ => ?_)
      exact g_iret X hr rfl dX10_outs_26
set_option maxRecDepth 100000 in
set_option maxHeartbeats 4000000 in
theorem tc_seed {l : Launch} {D : va_G} {cy : Nat → ClassId} {ad : Nat → Nat} {N : Mem} (M : Mem) (a1 : Int32) {x : (Int32 × Mem)} (h : fc_seed M a1 = some x) : Mt l D cy ad yX10_seed cX10_seed 3 (some .int) 1 [.ref (ad 0), .int a1] ((wfC N) M) (some (.int x.1), (wfC N) x.2) := by
  refine met_of (fin := finS) (lv0 := [(0, .ref (ad 0)), (1, .int a1)]) (by decide) (Nat.le_of_ble_eq_true rfl) rfl (lC N) h (fun p e s m args below meth c X hr => ?_)
  unfold fc_seed
  refine g_aload_n X dX10_seed_0 0 rfl rfl ?_
  refine get_10_2 X (k := 0) k_0 s_0 m_2_128 dX10_seed_1 ?_
  refine get_1_14 X (k := 20) k_20 s_20 m_1_208 dX10_seed_4 ?_
  refine g_ilet X (fun v1 => ?_)
  refine g_istore_n X dX10_seed_7 rfl (by decide) rfl [1, 2, 0] (lu := [(0, .ref (ad 0)), (1, .int a1), (2, .int v1)]) rfl ?_
  refine g_aload_n X dX10_seed_8 0 rfl rfl ?_
  refine get_10_2 X (k := 0) k_0 s_0 m_2_128 dX10_seed_9 ?_
  refine g_iload_n X dX10_seed_12 1 rfl rfl ?_
  refine put_1_14 X (k := 20) k_20 s_20 m_1_208 dX10_seed_13 ?_
  refine g_mlet X (fun M2 => ?_)
  refine g_iload_n X dX10_seed_16 2 rfl rfl ?_
  exact g_iret X hr rfl dX10_seed_17
set_option maxRecDepth 100000 in
set_option maxHeartbeats 4000000 in
theorem tVoyage_start {l : Launch} {D : va_G} {cy : Nat → ClassId} {ad : Nat → Nat} {N : Mem} (M : Mem) (a1 : Int32) (a3 : Int32) {x : Mem} (h : fVoyage_start M a1 a3 = some x) : Mt l D cy ad yX9_start cX9_start 4 none 2 [.ref (ad 67), .int a1, .ref (ad 119), .int a3] ((wfC N) M) (none, (wfC N) x) := by
  refine met_of (fin := finV) (lv0 := [(0, .ref (ad 67)), (1, .int a1), (2, .ref (ad 119)), (3, .int a3)]) (by decide) (Nat.le_of_ble_eq_true rfl) rfl (lC N) h (fun p e s m args below meth c X hr => ?_)
  unfold fVoyage_start
  refine g_aload_n X dX9_start_0 0 rfl rfl ?_
  refine g_iload_n X dX9_start_1 1 rfl rfl ?_
  refine put_9_0 X (k := 67) k_67 s_67 m_1_66 dX9_start_2 ?_
  refine g_mlet X (fun M1 => ?_)
  refine g_aload_n X dX9_start_5 0 rfl rfl ?_
  refine g_aload_n X dX9_start_6 2 rfl rfl ?_
  refine get_8_2 X (k := 119) k_119 s_119 m_2_14 dX9_start_7 ?_
  refine put_9_2 X (k := 67) k_67 s_67 m_1_71 dX9_start_10 ?_
  refine g_mlet X (fun M2 => ?_)
  refine g_aload_n X dX9_start_13 2 rfl rfl ?_
  refine get_8_0 X (k := 119) k_119 s_119 m_2_11 dX9_start_14 ?_
  refine g_iconst X dX9_start_17 ic_0 ?_
  refine g_aload_n X dX9_start_18 0 rfl rfl ?_
  refine get_9_1 X (k := 67) k_67 s_67 m_1_69 dX9_start_19 ?_
  refine g_iconst X dX9_start_22 ic_0 ?_
  refine g_bipush X dX9_start_23 bi_20 ?_
  refine g_cpI X (k0 := 120) (k := 68) (n0 := 20) (n1 := 20) k_120 s_120 k_68 s_68 m_4_223 (hR2 (by decide) (Nat.le_of_ble_eq_true rfl)) dX9_start_25 (fun _ => ?_)
  refine g_mlet X (fun M3 => ?_)
  refine g_aload_n X dX9_start_28 0 rfl rfl ?_
  refine g_iload_n X dX9_start_29 3 rfl rfl ?_
  refine put_9_3 X (k := 67) k_67 s_67 m_1_72 dX9_start_30 ?_
  refine g_mlet X (fun M4 => ?_)
  refine g_aload_n X dX9_start_33 0 rfl rfl ?_
  refine g_iconst X dX9_start_34 ic_0 ?_
  refine put_9_4 X (k := 67) k_67 s_67 m_1_74 dX9_start_35 ?_
  refine g_mlet X (fun M5 => ?_)
  refine g_aload_n X dX9_start_38 0 rfl rfl ?_
  refine g_iconst X dX9_start_39 ic_0 ?_
  refine put_9_5 X (k := 67) k_67 s_67 m_1_77 dX9_start_40 ?_
  refine g_mlet X (fun M6 => ?_)
  refine g_aload_n X dX9_start_43 0 rfl rfl ?_
  refine g_iconst X dX9_start_44 ic_0 ?_
  refine put_9_6 X (k := 67) k_67 s_67 m_1_80 dX9_start_45 ?_
  refine g_mlet X (fun M7 => ?_)
  refine g_aload_n X dX9_start_48 0 rfl rfl ?_
  refine g_iconst X dX9_start_49 ic_0 ?_
  refine put_9_7 X (k := 67) k_67 s_67 m_1_83 dX9_start_50 ?_
  refine g_mlet X (fun M8 => ?_)
  exact g_vret X hr rfl dX9_start_53
set_option maxRecDepth 100000 in
set_option maxHeartbeats 4000000 in
theorem tc_begin {l : Launch} {D : va_G} {cy : Nat → ClassId} {ad : Nat → Nat} {N : Mem} (M : Mem) (a1 : Int32) (a2 : Int32) (a3 : Int32) {x : (Int32 × Mem)} (h : fc_begin M a1 a2 a3 = some x) : Mt l D cy ad yX10_begin cX10_begin 5 (some .int) 5 [.ref (ad 0), .int a1, .int a2, .int a3] ((wfC N) M) (some (.int x.1), (wfC N) x.2) := by
  refine met_of (fin := finS) (lv0 := [(0, .ref (ad 0)), (1, .int a1), (2, .int a2), (3, .int a3)]) (by decide) (Nat.le_of_ble_eq_true rfl) rfl (lC N) h (fun p e s m args below meth c X hr => ?_)
  unfold fc_begin
  refine g_aload_n X dX10_begin_0 0 rfl rfl ?_
  refine g_iload_n X dX10_begin_1 1 rfl rfl ?_
  refine g_ct X (v0 := .int (fc_isLeaperT M a1)) (st := []) (ok_V X (k0 := 0) (As := [.int a1]) wkX10_isLeaper (tc_isLeaperT M a1) rfl k_0 s_0 (by decide) rfl m_3_225 rfl (hRm (by decide) (by decide)) ⟨Nat.zero_le _, Nat.zero_le _⟩ (Nat.le_of_ble_eq_true rfl) dX10_begin_2) ?_
  refine g_if_ne X 15 (by decide) dX10_begin_5 (fun q5 => ?_) (fun q5 => ?_)
  · refine g_aload_n X dX10_begin_15 0 rfl rfl ?_
    refine g_iload_n X dX10_begin_16 2 rfl rfl ?_
    refine g_iload_n X dX10_begin_17 3 rfl rfl ?_
    refine g_ci X (st := []) (fun _ hh => ok_V X (k0 := 0) (As := [.int a2, .int a3]) wkX10_roundTrouble (tc_roundTrouble M a2 a3 hh) rfl k_0 s_0 (by decide) rfl m_4_48 rfl (hRm (by decide) (by decide)) ⟨Nat.zero_le _, Nat.zero_le _⟩ (Nat.le_of_ble_eq_true rfl) dX10_begin_18) (fun r1 _ => ?_)
    refine g_istore X dX10_begin_21 (by decide) rfl [1, 2, 3, 4, 0] (lu := [(0, .ref (ad 0)), (1, .int a1), (2, .int a2), (3, .int a3), (4, .int r1)]) rfl ?_
    refine g_iload X dX10_begin_23 4 rfl ?_
    refine g_if_eq X 35 (by decide) dX10_begin_25 (fun q25 => ?_) (fun q25 => ?_)
    · refine g_aload_n X dX10_begin_35 0 rfl rfl ?_
      refine g_aload_n X dX10_begin_36 0 rfl rfl ?_
      refine get_10_6 X (k := 0) k_0 s_0 m_2_132 dX10_begin_37 ?_
      refine g_iload_n X dX10_begin_40 2 rfl rfl ?_
      refine g_iload_n X dX10_begin_41 3 rfl rfl ?_
      refine g_cv X (st := []) (fun _ hh => ok_V X (k0 := 0) (As := [.ref (ad 119), .int a2, .int a3]) wkX10_readTour (tc_readTour M a2 a3 hh) rfl k_0 s_0 (by decide) rfl m_4_56 rfl (hRm (by decide) (by decide)) ⟨Nat.zero_le _, Nat.zero_le _⟩ (Nat.le_of_ble_eq_true rfl) dX10_begin_42) (fun M2 _ => ?_)
      refine g_aload_n X dX10_begin_45 0 rfl rfl ?_
      refine get_10_2 X (k := 0) k_0 s_0 m_2_128 dX10_begin_46 ?_
      refine get_1_15 X (k := 20) k_20 s_20 m_1_210 dX10_begin_49 ?_
      refine g_iload_n X dX10_begin_52 1 rfl rfl ?_
      refine g_aload_n X dX10_begin_53 0 rfl rfl ?_
      refine get_10_6 X (k := 0) k_0 s_0 m_2_132 dX10_begin_54 ?_
      refine g_aload_n X dX10_begin_57 0 rfl rfl ?_
      refine get_10_2 X (k := 0) k_0 s_0 m_2_128 dX10_begin_58 ?_
      refine get_1_13 X (k := 20) k_20 s_20 m_1_206 dX10_begin_61 ?_
      refine g_cv X (st := []) (fun _ hh => ok_V X (k0 := 67) (As := [.int a1, .ref (ad 119), .int (M2.1 20 14)]) wkX9_start (tVoyage_start M2 a1 (M2.1 20 14) hh) rfl k_67 s_67 (by decide) rfl m_4_219 rfl (hRm (by decide) (by decide)) ⟨Nat.zero_le _, Nat.zero_le _⟩ (Nat.le_of_ble_eq_true rfl) dX10_begin_64) (fun M3 _ => ?_)
      refine g_iload_n X dX10_begin_67 3 rfl rfl ?_
      exact g_iret X hr rfl dX10_begin_68
    · refine g_aload_n X dX10_begin_28 0 rfl rfl ?_
      refine g_iload X dX10_begin_29 4 rfl ?_
      refine g_cs X (st := []) (fun _ hh => ok_V X (k0 := 0) (As := [.int r1]) wkX10_refuse (tc_refuse M r1 hh) rfl k_0 s_0 (by decide) rfl m_2_173 rfl (hRm (by decide) (by decide)) ⟨Nat.zero_le _, Nat.zero_le _⟩ (Nat.le_of_ble_eq_true rfl) dX10_begin_31) (fun r5 M4 _ => ?_)
      exact g_iret X hr rfl dX10_begin_34
  · refine g_aload_n X dX10_begin_8 0 rfl rfl ?_
    refine g_bipush X dX10_begin_9 bi_m2 ?_
    refine g_cs X (st := []) (fun _ hh => ok_V X (k0 := 0) (As := [.int (-2)]) wkX10_refuse (tc_refuse M (-2) hh) rfl k_0 s_0 (by decide) rfl m_2_173 rfl (hRm (by decide) (by decide)) ⟨Nat.zero_le _, Nat.zero_le _⟩ (Nat.le_of_ble_eq_true rfl) dX10_begin_11) (fun r7 M6 _ => ?_)
    exact g_iret X hr rfl dX10_begin_14
set_option maxRecDepth 100000 in
set_option maxHeartbeats 4000000 in
theorem tVoyage_isUnderWay {l : Launch} {D : va_G} {cy : Nat → ClassId} {ad : Nat → Nat} {N : Mem} (M : Mem) {x : Int32} (h : fVoyage_isUnderWay M = some x) : Mt l D cy ad yX9_isUnderWay cX9_isUnderWay 1 (some .boolean) 1 [.ref (ad 67)] ((wfC N) M) (some (.int x), (wfC N) M) := by
  refine met_of (fin := (finI M)) (lv0 := [(0, .ref (ad 67))]) (by decide) (Nat.le_of_ble_eq_true rfl) rfl (lC N) h (fun p e s m args below meth c X hr => ?_)
  unfold fVoyage_isUnderWay
  refine g_aload_n X dX9_isUnderWay_0 0 rfl rfl ?_
  refine get_9_0 X (k := 67) k_67 s_67 m_1_66 dX9_isUnderWay_1 ?_
  refine g_iconst X dX9_isUnderWay_4 ic_m1 ?_
  refine g_icmp_eq X 23 (by decide) dX9_isUnderWay_5 (fun q5 => ?_) (fun q5 => ?_)
  · refine g_iconst X dX9_isUnderWay_23 ic_0 ?_
    exact g_zret X hr (isB_n (by decide)) rfl dX9_isUnderWay_24
  · refine g_aload_n X dX9_isUnderWay_8 0 rfl rfl ?_
    refine get_9_5 X (k := 67) k_67 s_67 m_1_77 dX9_isUnderWay_9 ?_
    refine g_aload_n X dX9_isUnderWay_12 0 rfl rfl ?_
    refine get_9_2 X (k := 67) k_67 s_67 m_1_71 dX9_isUnderWay_13 ?_
    refine g_icmp_ge X 23 (by decide) dX9_isUnderWay_16 (fun q16 => ?_) (fun q16 => ?_)
    · refine g_iconst X dX9_isUnderWay_23 ic_0 ?_
      exact g_zret X hr (isB_n (by decide)) rfl dX9_isUnderWay_24
    · refine g_iconst X dX9_isUnderWay_19 ic_1 ?_
      refine g_goto X 24 (by decide) dX9_isUnderWay_20 ?_
      exact g_zret X hr (isB_n (by decide)) rfl dX9_isUnderWay_24
theorem tVoyage_isUnderWayT {l : Launch} {D : va_G} {cy : Nat → ClassId} {ad : Nat → Nat} {N : Mem} (M : Mem) : Mt l D cy ad yX9_isUnderWay cX9_isUnderWay 1 (some .boolean) 1 [.ref (ad 67)] ((wfC N) M) (some (.int (fVoyage_isUnderWayT M)), (wfC N) M) := tVoyage_isUnderWay M (fVoyage_isUnderWayE M)
set_option maxRecDepth 100000 in
set_option maxHeartbeats 4000000 in
theorem tLake_drawBelow {l : Launch} {D : va_G} {cy : Nat → ClassId} {ad : Nat → Nat} {N : Mem} (M : Mem) (a1 : Int32) {x : (Int32 × Mem)} (h : fLake_drawBelow M a1 = some x) : Mt l D cy ad yX1_drawBelow cX1_drawBelow 3 (some .int) 1 [.ref (ad 20), .int a1] ((wfC N) M) (some (.int x.1), (wfC N) x.2) := by
  refine met_of (fin := finS) (lv0 := [(0, .ref (ad 20)), (1, .int a1)]) (by decide) (Nat.le_of_ble_eq_true rfl) rfl (lC N) h (fun p e s m args below meth c X hr => ?_)
  unfold fLake_drawBelow
  refine g_aload_n X dX1_drawBelow_0 0 rfl rfl ?_
  refine g_aload_n X dX1_drawBelow_1 0 rfl rfl ?_
  refine get_1_14 X (k := 20) k_20 s_20 m_1_207 dX1_drawBelow_2 ?_
  refine g_ldc X dX1_drawBelow_5 m_5_3 ?_
  refine g_imul X dX1_drawBelow_7 ?_
  refine g_sipush X dX1_drawBelow_8 si_12345 ?_
  refine g_iadd X dX1_drawBelow_11 ?_
  refine put_1_14 X (k := 20) k_20 s_20 m_1_207 dX1_drawBelow_12 ?_
  refine g_mlet X (fun M1 => ?_)
  refine g_aload_n X dX1_drawBelow_15 0 rfl rfl ?_
  refine get_1_14 X (k := 20) k_20 s_20 m_1_207 dX1_drawBelow_16 ?_
  refine g_bipush X dX1_drawBelow_19 bi_16 ?_
  refine g_iushr X dX1_drawBelow_21 ?_
  refine g_ilet X (fun v2 => ?_)
  refine g_istore_n X dX1_drawBelow_22 rfl (by decide) rfl [2, 0] (lu := [(1, .int a1), (2, .int v2)]) rfl ?_
  refine g_iload_n X dX1_drawBelow_23 0 rfl rfl ?_
  refine g_iconst X dX1_drawBelow_24 ic_1 ?_
  refine g_icmp_ge X 32 (by decide) dX1_drawBelow_25 (fun q25 => ?_) (fun q25 => ?_)
  · refine g_iload_n X dX1_drawBelow_32 1 rfl rfl ?_
    refine g_iload_n X dX1_drawBelow_33 0 rfl rfl ?_
    refine g_irem X dX1_drawBelow_34 (fun _ => ?_)
    exact g_iret X hr rfl dX1_drawBelow_35
  · refine g_iconst X dX1_drawBelow_28 ic_0 ?_
    refine g_goto X 35 (by decide) dX1_drawBelow_29 ?_
    exact g_iret X hr rfl dX1_drawBelow_35
set_option maxRecDepth 100000 in
set_option maxHeartbeats 4000000 in
theorem tLake_leapNext {l : Launch} {D : va_G} {cy : Nat → ClassId} {ad : Nat → Nat} {N : Mem} (M : Mem) {x : (Int32 × Mem)} (h : fLake_leapNext M = some x) : Mt l D cy ad yX1_leapNext cX1_leapNext 7 (some .int) 6 [.ref (ad 20)] ((wfC N) M) (some (.int x.1), (wfC N) x.2) := by
  refine met_of (fin := finS) (lv0 := [(0, .ref (ad 20))]) (by decide) (Nat.le_of_ble_eq_true rfl) rfl (lC N) h (fun p e s m args below meth c X hr => ?_)
  unfold fLake_leapNext
  refine g_aload_n X dX1_leapNext_0 0 rfl rfl ?_
  refine get_1_15 X (k := 20) k_20 s_20 m_1_209 dX1_leapNext_1 ?_
  refine get_9_1 X (k := 67) k_67 s_67 m_1_70 dX1_leapNext_4 ?_
  refine g_aload_n X dX1_leapNext_7 0 rfl rfl ?_
  refine get_1_15 X (k := 20) k_20 s_20 m_1_209 dX1_leapNext_8 ?_
  refine get_9_5 X (k := 67) k_67 s_67 m_1_78 dX1_leapNext_11 ?_
  refine g_iald X (n := 20) (k := 68) k_68 s_68 dX1_leapNext_14 (fun h1 => ?_)
  refine g_ilet X (fun v2 => ?_)
  refine g_istore_n X dX1_leapNext_15 rfl (by decide) rfl [1, 0] (lu := [(0, .ref (ad 20)), (1, .int v2)]) rfl ?_
  refine g_aload_n X dX1_leapNext_16 0 rfl rfl ?_
  refine get_1_0 X (k := 20) k_20 s_20 m_1_174 dX1_leapNext_17 ?_
  refine g_iload_n X dX1_leapNext_20 1 rfl rfl ?_
  refine g_aald24 X (k := 21) k_21 s_21 dX1_leapNext_21 (fun h3 => ?_)
  refine get_0_1 X (k := (ix v2) + 22) (kf_22 _ (inb_lt h3)) (sf_22 _ (inb_lt h3)) m_1_115 dX1_leapNext_22 ?_
  refine g_ilet X (fun v4 => ?_)
  refine g_istore_n X dX1_leapNext_25 rfl (by decide) rfl [1, 2, 0] (lu := [(0, .ref (ad 20)), (1, .int v2), (2, .int v4)]) rfl ?_
  refine g_aload_n X dX1_leapNext_26 0 rfl rfl ?_
  refine get_1_15 X (k := 20) k_20 s_20 m_1_209 dX1_leapNext_27 ?_
  refine get_9_4 X (k := 67) k_67 s_67 m_1_75 dX1_leapNext_30 ?_
  refine g_aload_n X dX1_leapNext_33 0 rfl rfl ?_
  refine g_aload_n X dX1_leapNext_34 0 rfl rfl ?_
  refine get_1_15 X (k := 20) k_20 s_20 m_1_209 dX1_leapNext_35 ?_
  refine get_9_3 X (k := 67) k_67 s_67 m_1_73 dX1_leapNext_38 ?_
  refine g_iload_n X dX1_leapNext_41 2 rfl rfl ?_
  refine g_aload_n X dX1_leapNext_42 0 rfl rfl ?_
  refine g_ci X (st := [.int v4, .int (M.1 67 3), .ref (ad 20), .int (M.1 67 4)]) (fun _ hh => ok_V X (k0 := 20) (As := []) wkX1_speed (tLake_speed M hh) rfl k_20 s_20 (by decide) rfl m_4_24 rfl (hRm (by decide) (by decide)) ⟨Nat.zero_le _, Nat.zero_le _⟩ (Nat.le_of_ble_eq_true rfl) dX1_leapNext_43) (fun r5 _ => ?_)
  refine g_ci X (st := [.int (M.1 67 4)]) (fun _ hh => ok_V X (k0 := 20) (As := [.int (M.1 67 3), .int v4, .int r5]) wkX1_legMinutes (tLake_legMinutes M (M.1 67 3) v4 r5 hh) rfl k_20 s_20 (by decide) rfl m_4_236 rfl (hRm (by decide) (by decide)) ⟨Nat.zero_le _, Nat.zero_le _⟩ (Nat.le_of_ble_eq_true rfl) dX1_leapNext_46) (fun r6 _ => ?_)
  refine g_iadd X dX1_leapNext_49 ?_
  refine g_ilet X (fun v7 => ?_)
  refine g_istore_n X dX1_leapNext_50 rfl (by decide) rfl [1, 2, 3, 0] (lu := [(0, .ref (ad 20)), (1, .int v2), (2, .int v4), (3, .int v7)]) rfl ?_
  refine g_aload_n X dX1_leapNext_51 0 rfl rfl ?_
  refine g_aload_n X dX1_leapNext_52 0 rfl rfl ?_
  refine get_1_15 X (k := 20) k_20 s_20 m_1_209 dX1_leapNext_53 ?_
  refine get_9_0 X (k := 67) k_67 s_67 m_1_67 dX1_leapNext_56 ?_
  refine g_iload_n X dX1_leapNext_59 1 rfl rfl ?_
  refine g_iload_n X dX1_leapNext_60 3 rfl rfl ?_
  refine g_ct X (v0 := .int (fc_hourOfT M v7)) (st := [.int v2, .int (M.1 67 0), .ref (ad 20)]) (ok_N X (As := [.int v7]) wkX10_hourOf (tc_hourOfT M v7) rfl m_4_237 rfl (hRm (by decide) (by decide)) ⟨Nat.zero_le _, Nat.zero_le _⟩ (Nat.le_of_ble_eq_true rfl) dX1_leapNext_61) ?_
  refine g_ci X (st := []) (fun _ hh => ok_V X (k0 := 20) (As := [.int (M.1 67 0), .int v2, .int (fc_hourOfT M v7)]) wkX1_riskOf (tLake_riskOf M (M.1 67 0) v2 (fc_hourOfT M v7) hh) rfl k_20 s_20 (by decide) rfl m_4_238 rfl (hRm (by decide) (by decide)) ⟨Nat.zero_le _, Nat.zero_le _⟩ (Nat.le_of_ble_eq_true rfl) dX1_leapNext_64) (fun r8 _ => ?_)
  refine g_istore X dX1_leapNext_67 (by decide) rfl [1, 3, 4, 0] (lu := [(0, .ref (ad 20)), (2, .int v4), (3, .int v7), (4, .int r8)]) rfl ?_
  refine g_aload_n X dX1_leapNext_69 0 rfl rfl ?_
  refine g_sipush X dX1_leapNext_70 si_1000 ?_
  refine g_cs X (st := []) (fun _ hh => ok_V X (k0 := 20) (As := [.int 1000]) wkX1_drawBelow (tLake_drawBelow M 1000 hh) rfl k_20 s_20 (by decide) rfl m_4_239 rfl (hRm (by decide) (by decide)) ⟨Nat.zero_le _, Nat.zero_le _⟩ (Nat.le_of_ble_eq_true rfl) dX1_leapNext_73) (fun r10 M9 _ => ?_)
  refine g_istore X dX1_leapNext_76 (by decide) rfl [1, 2, 3, 4, 0] (lu := [(0, .ref (ad 20)), (2, .int v4), (3, .int v7), (4, .int r8), (5, .int r10)]) rfl ?_
  refine g_aload_n X dX1_leapNext_78 0 rfl rfl ?_
  refine get_1_15 X (k := 20) k_20 s_20 m_1_209 dX1_leapNext_79 ?_
  refine g_iload_n X dX1_leapNext_82 1 rfl rfl ?_
  refine put_9_3 X (k := 67) k_67 s_67 m_1_73 dX1_leapNext_83 ?_
  refine g_mlet X (fun M11 => ?_)
  refine g_aload_n X dX1_leapNext_86 0 rfl rfl ?_
  refine get_1_15 X (k := 20) k_20 s_20 m_1_209 dX1_leapNext_87 ?_
  refine g_iload_n X dX1_leapNext_90 2 rfl rfl ?_
  refine g_iconst X dX1_leapNext_91 ic_1 ?_
  refine g_iadd X dX1_leapNext_92 ?_
  refine put_9_4 X (k := 67) k_67 s_67 m_1_75 dX1_leapNext_93 ?_
  refine g_mlet X (fun M12 => ?_)
  refine g_aload_n X dX1_leapNext_96 0 rfl rfl ?_
  refine get_1_15 X (k := 20) k_20 s_20 m_1_209 dX1_leapNext_97 ?_
  refine g_dup X dX1_leapNext_100 rfl ?_
  refine get_9_5 X (k := 67) k_67 s_67 m_1_78 dX1_leapNext_101 ?_
  refine g_iconst X dX1_leapNext_104 ic_1 ?_
  refine g_iadd X dX1_leapNext_105 ?_
  refine put_9_5 X (k := 67) k_67 s_67 m_1_78 dX1_leapNext_106 ?_
  refine g_mlet X (fun M13 => ?_)
  refine g_aload_n X dX1_leapNext_109 0 rfl rfl ?_
  refine get_1_5 X (k := 20) k_20 s_20 m_1_186 dX1_leapNext_110 ?_
  refine g_aload_n X dX1_leapNext_113 0 rfl rfl ?_
  refine get_1_15 X (k := 20) k_20 s_20 m_1_209 dX1_leapNext_114 ?_
  refine get_9_0 X (k := 67) k_67 s_67 m_1_67 dX1_leapNext_117 ?_
  refine g_aald26 X (k := 57) k_57 s_57 dX1_leapNext_120 (fun h14 => ?_)
  refine g_astore X dX1_leapNext_121 (by decide) rfl [1, 4, 5, 0] (lu := [(0, .ref (ad 20)), (4, .int r8), (5, .int r10), (6, .ref (ad ((ix (M13.1 67 0)) + 58)))]) rfl ?_
  refine g_iload X dX1_leapNext_123 2 rfl ?_
  refine g_iload X dX1_leapNext_125 1 rfl ?_
  refine g_bipush X dX1_leapNext_127 bi_10 ?_
  refine g_idivC X dX1_leapNext_129 (by decide) ?_
  refine g_icmp_ge X 173 (by decide) dX1_leapNext_130 (fun q130 => ?_) (fun q130 => ?_)
  · refine g_iload X dX1_leapNext_173 2 rfl ?_
    refine g_iload X dX1_leapNext_175 1 rfl ?_
    refine g_icmp_ge X 202 (by decide) dX1_leapNext_177 (fun q177 => ?_) (fun q177 => ?_)
    · refine g_aload X dX1_leapNext_202 3 rfl ?_
      refine g_iconst X dX1_leapNext_204 ic_1 ?_
      refine g_iconst X dX1_leapNext_205 ic_0 ?_
      refine g_cv X (st := []) (fun _ hh => ok_V X (k0 := (ix (M13.1 67 0)) + 58) (As := [.int 1, .int 0]) wkX3_count (tLeaper_count M13 (ix (M13.1 67 0)) 1 0 (inb_lt h14) hh) rfl (kf_58 _ (inb_lt h14)) (sf_58 _ (inb_lt h14)) (by decide) rfl m_5_4 rfl (hRm (by decide) (by decide)) ⟨Nat.zero_le _, Nat.zero_le _⟩ (Nat.le_of_ble_eq_true rfl) dX1_leapNext_206) (fun M15 _ => ?_)
      refine g_iconst X dX1_leapNext_209 ic_0 ?_
      exact g_iret X hr rfl dX1_leapNext_210
    · refine g_aload_n X dX1_leapNext_180 0 rfl rfl ?_
      refine get_1_15 X (k := 20) k_20 s_20 m_1_209 dX1_leapNext_181 ?_
      refine g_dup X dX1_leapNext_184 rfl ?_
      refine get_9_6 X (k := 67) k_67 s_67 m_1_81 dX1_leapNext_185 ?_
      refine g_iconst X dX1_leapNext_188 ic_1 ?_
      refine g_iadd X dX1_leapNext_189 ?_
      refine put_9_6 X (k := 67) k_67 s_67 m_1_81 dX1_leapNext_190 ?_
      refine g_mlet X (fun M16 => ?_)
      refine g_aload X dX1_leapNext_193 3 rfl ?_
      refine g_iconst X dX1_leapNext_195 ic_1 ?_
      refine g_iconst X dX1_leapNext_196 ic_1 ?_
      refine g_cv X (st := []) (fun _ hh => ok_V X (k0 := (ix (M13.1 67 0)) + 58) (As := [.int 1, .int 1]) wkX3_count (tLeaper_count M16 (ix (M13.1 67 0)) 1 1 (inb_lt h14) hh) rfl (kf_58 _ (inb_lt h14)) (sf_58 _ (inb_lt h14)) (by decide) rfl m_5_4 rfl (hRm (by decide) (by decide)) ⟨Nat.zero_le _, Nat.zero_le _⟩ (Nat.le_of_ble_eq_true rfl) dX1_leapNext_197) (fun M17 _ => ?_)
      refine g_iconst X dX1_leapNext_200 ic_1 ?_
      exact g_iret X hr rfl dX1_leapNext_201
  · refine g_aload_n X dX1_leapNext_133 0 rfl rfl ?_
    refine get_1_15 X (k := 20) k_20 s_20 m_1_209 dX1_leapNext_134 ?_
    refine g_dup X dX1_leapNext_137 rfl ?_
    refine get_9_4 X (k := 67) k_67 s_67 m_1_75 dX1_leapNext_138 ?_
    refine g_iconst X dX1_leapNext_141 ic_3 ?_
    refine g_aload_n X dX1_leapNext_142 0 rfl rfl ?_
    refine g_ci X (st := [.int 3, .int (M13.1 67 4), .ref (ad 67)]) (fun _ hh => ok_V X (k0 := 20) (As := []) wkX1_speed (tLake_speed M13 hh) rfl k_20 s_20 (by decide) rfl m_4_24 rfl (hRm (by decide) (by decide)) ⟨Nat.zero_le _, Nat.zero_le _⟩ (Nat.le_of_ble_eq_true rfl) dX1_leapNext_143) (fun r18 _ => ?_)
    refine g_imul X dX1_leapNext_146 ?_
    refine g_iadd X dX1_leapNext_147 ?_
    refine put_9_4 X (k := 67) k_67 s_67 m_1_75 dX1_leapNext_148 ?_
    refine g_mlet X (fun M19 => ?_)
    refine g_aload_n X dX1_leapNext_151 0 rfl rfl ?_
    refine get_1_15 X (k := 20) k_20 s_20 m_1_209 dX1_leapNext_152 ?_
    refine g_dup X dX1_leapNext_155 rfl ?_
    refine get_9_7 X (k := 67) k_67 s_67 m_1_84 dX1_leapNext_156 ?_
    refine g_iconst X dX1_leapNext_159 ic_1 ?_
    refine g_iadd X dX1_leapNext_160 ?_
    refine put_9_7 X (k := 67) k_67 s_67 m_1_84 dX1_leapNext_161 ?_
    refine g_mlet X (fun M20 => ?_)
    refine g_aload X dX1_leapNext_164 3 rfl ?_
    refine g_iconst X dX1_leapNext_166 ic_1 ?_
    refine g_iconst X dX1_leapNext_167 ic_1 ?_
    refine g_cv X (st := []) (fun _ hh => ok_V X (k0 := (ix (M13.1 67 0)) + 58) (As := [.int 1, .int 1]) wkX3_count (tLeaper_count M20 (ix (M13.1 67 0)) 1 1 (inb_lt h14) hh) rfl (kf_58 _ (inb_lt h14)) (sf_58 _ (inb_lt h14)) (by decide) rfl m_5_4 rfl (hRm (by decide) (by decide)) ⟨Nat.zero_le _, Nat.zero_le _⟩ (Nat.le_of_ble_eq_true rfl) dX1_leapNext_168) (fun M21 _ => ?_)
    refine g_iconst X dX1_leapNext_171 ic_2 ?_
    exact g_iret X hr rfl dX1_leapNext_172
set_option maxRecDepth 100000 in
set_option maxHeartbeats 4000000 in
theorem tc_step {l : Launch} {D : va_G} {cy : Nat → ClassId} {ad : Nat → Nat} {N : Mem} (M : Mem) {x : (Int32 × Mem)} (h : fc_step M = some x) : Mt l D cy ad yX10_step cX10_step 1 (some .int) 7 [.ref (ad 0)] ((wfC N) M) (some (.int x.1), (wfC N) x.2) := by
  refine met_of (fin := finS) (lv0 := [(0, .ref (ad 0))]) (by decide) (Nat.le_of_ble_eq_true rfl) rfl (lC N) h (fun p e s m args below meth c X hr => ?_)
  unfold fc_step
  refine g_aload_n X dX10_step_0 0 rfl rfl ?_
  refine get_10_2 X (k := 0) k_0 s_0 m_2_128 dX10_step_1 ?_
  refine get_1_15 X (k := 20) k_20 s_20 m_1_210 dX10_step_4 ?_
  refine g_ct X (v0 := .int (fVoyage_isUnderWayT M)) (st := []) (ok_V X (k0 := 67) (As := []) wkX9_isUnderWay (tVoyage_isUnderWayT M) rfl k_67 s_67 (by decide) rfl m_4_228 rfl (hRm (by decide) (by decide)) ⟨Nat.zero_le _, Nat.zero_le _⟩ (Nat.le_of_ble_eq_true rfl) dX10_step_7) ?_
  refine g_if_eq X 23 (by decide) dX10_step_10 (fun q10 => ?_) (fun q10 => ?_)
  · refine g_aload_n X dX10_step_23 0 rfl rfl ?_
    refine g_bipush X dX10_step_24 bi_m5 ?_
    refine g_cs X (st := []) (fun _ hh => ok_V X (k0 := 0) (As := [.int (-5)]) wkX10_refuse (tc_refuse M (-5) hh) rfl k_0 s_0 (by decide) rfl m_2_173 rfl (hRm (by decide) (by decide)) ⟨Nat.zero_le _, Nat.zero_le _⟩ (Nat.le_of_ble_eq_true rfl) dX10_step_26) (fun r2 M1 _ => ?_)
    exact g_iret X hr rfl dX10_step_29
  · refine g_aload_n X dX10_step_13 0 rfl rfl ?_
    refine get_10_2 X (k := 0) k_0 s_0 m_2_128 dX10_step_14 ?_
    refine g_cs X (st := []) (fun _ hh => ok_V X (k0 := 20) (As := []) wkX1_leapNext (tLake_leapNext M hh) rfl k_20 s_20 (by decide) rfl m_4_232 rfl (hRm (by decide) (by decide)) ⟨Nat.zero_le _, Nat.zero_le _⟩ (Nat.le_of_ble_eq_true rfl) dX10_step_17) (fun r4 M3 _ => ?_)
    refine g_goto X 29 (by decide) dX10_step_20 ?_
    exact g_iret X hr rfl dX10_step_29
set_option maxRecDepth 100000 in
set_option maxHeartbeats 4000000 in
theorem tc_under {l : Launch} {D : va_G} {cy : Nat → ClassId} {ad : Nat → Nat} {N : Mem} (M : Mem) (a1 : Int32) {x : (Int32 × Mem)} (h : fc_under M a1 = some x) : Mt l D cy ad yX10_under cX10_under 3 (some .int) 3 [.ref (ad 0), .int a1] ((wfC N) M) (some (.int x.1), (wfC N) x.2) := by
  refine met_of (fin := finS) (lv0 := [(0, .ref (ad 0)), (1, .int a1)]) (by decide) (Nat.le_of_ble_eq_true rfl) rfl (lC N) h (fun p e s m args below meth c X hr => ?_)
  unfold fc_under
  refine g_iload_n X dX10_under_0 1 rfl rfl ?_
  refine g_iconst X dX10_under_1 ic_0 ?_
  refine g_iconst X dX10_under_2 ic_4 ?_
  refine g_ct X (v0 := .int (fc_isWithinT M a1 0 4)) (st := []) (ok_S X (As := [.int a1, .int 0, .int 4]) wkX10_isWithin (tc_isWithinT M a1 0 4) rfl m_2_170 rfl (hRm (by decide) (by decide)) ⟨Nat.zero_le _, Nat.zero_le _⟩ (Nat.le_of_ble_eq_true rfl) dX10_under_3) ?_
  refine g_if_ne X 16 (by decide) dX10_under_6 (fun q6 => ?_) (fun q6 => ?_)
  · refine g_aload_n X dX10_under_16 0 rfl rfl ?_
    refine get_10_2 X (k := 0) k_0 s_0 m_2_128 dX10_under_17 ?_
    refine get_1_15 X (k := 20) k_20 s_20 m_1_210 dX10_under_20 ?_
    refine g_astore_n X dX10_under_23 rfl (by decide) rfl [1, 2, 0] (lu := [(0, .ref (ad 0)), (1, .int a1), (2, .ref (ad 67))]) rfl ?_
    refine g_aload_n X dX10_under_24 2 rfl rfl ?_
    refine get_9_0 X (k := 67) k_67 s_67 m_1_68 dX10_under_25 ?_
    refine g_iconst X dX10_under_28 ic_m1 ?_
    refine g_icmp_ne X 39 (by decide) dX10_under_29 (fun q29 => ?_) (fun q29 => ?_)
    · refine g_iload_n X dX10_under_39 1 rfl rfl ?_
      refine g_ifc X (fun q40_0 => ?_) (fun q40_0 => ?_)
      · refine g_swI X (v0 := 0) (tgt := 72) (off := 32) q40_0 (by decide) (by decide) (by decide) dX10_under_40 ?_
        refine g_aload_n X dX10_under_72 2 rfl rfl ?_
        refine get_9_0 X (k := 67) k_67 s_67 m_1_68 dX10_under_73 ?_
        exact g_iret X hr rfl dX10_under_76
      ·
        refine g_ifc X (fun q40_1 => ?_) (fun q40_1 => ?_)
        · refine g_swI X (v0 := 1) (tgt := 77) (off := 37) q40_1 (by decide) (by decide) (by decide) dX10_under_40 ?_
          refine g_aload_n X dX10_under_77 2 rfl rfl ?_
          refine get_9_5 X (k := 67) k_67 s_67 m_1_79 dX10_under_78 ?_
          exact g_iret X hr rfl dX10_under_81
        ·
          refine g_ifc X (fun q40_2 => ?_) (fun q40_2 => ?_)
          · refine g_swI X (v0 := 2) (tgt := 82) (off := 42) q40_2 (by decide) (by decide) (by decide) dX10_under_40 ?_
            refine g_aload_n X dX10_under_82 2 rfl rfl ?_
            refine get_9_4 X (k := 67) k_67 s_67 m_1_76 dX10_under_83 ?_
            exact g_iret X hr rfl dX10_under_86
          ·
            refine g_ifc X (fun q40_3 => ?_) (fun q40_3 => ?_)
            · refine g_swI X (v0 := 3) (tgt := 87) (off := 47) q40_3 (by decide) (by decide) (by decide) dX10_under_40 ?_
              refine g_aload_n X dX10_under_87 2 rfl rfl ?_
              refine get_9_6 X (k := 67) k_67 s_67 m_1_82 dX10_under_88 ?_
              exact g_iret X hr rfl dX10_under_91
            ·
              refine g_swO X (tgt := 92) dX10_under_40 (fun n h1 h2 hx => by
                  rcases (show n = 0 ∨ n = 1 ∨ n = 2 ∨ n = 3 by omega) with rfl | rfl | rfl | rfl
                  · exact absurd hx q40_0
                  · exact absurd hx q40_1
                  · exact absurd hx q40_2
                  · exact absurd hx q40_3) (by decide) ?_
              refine g_aload_n X dX10_under_92 2 rfl rfl ?_
              refine get_9_7 X (k := 67) k_67 s_67 m_1_85 dX10_under_93 ?_
              exact g_iret X hr rfl dX10_under_96
    · refine g_aload_n X dX10_under_32 0 rfl rfl ?_
      refine g_bipush X dX10_under_33 bi_m5 ?_
      refine g_cs X (st := []) (fun _ hh => ok_V X (k0 := 0) (As := [.int (-5)]) wkX10_refuse (tc_refuse M (-5) hh) rfl k_0 s_0 (by decide) rfl m_2_173 rfl (hRm (by decide) (by decide)) ⟨Nat.zero_le _, Nat.zero_le _⟩ (Nat.le_of_ble_eq_true rfl) dX10_under_35) (fun r2 M1 _ => ?_)
      exact g_iret X hr rfl dX10_under_38
  · refine g_aload_n X dX10_under_9 0 rfl rfl ?_
    refine g_bipush X dX10_under_10 bi_m2 ?_
    refine g_cs X (st := []) (fun _ hh => ok_V X (k0 := 0) (As := [.int (-2)]) wkX10_refuse (tc_refuse M (-2) hh) rfl k_0 s_0 (by decide) rfl m_2_173 rfl (hRm (by decide) (by decide)) ⟨Nat.zero_le _, Nat.zero_le _⟩ (Nat.le_of_ble_eq_true rfl) dX10_under_12) (fun r4 M3 _ => ?_)
    exact g_iret X hr rfl dX10_under_15
set_option maxRecDepth 100000 in
set_option maxHeartbeats 4000000 in
theorem tJetty_build_2 {l : Launch} {D : va_G} {cy : Nat → ClassId} {ad : Nat → Nat} {N : Mem} (M : Mem) (a0 : Nat) (a1 : Int32) (a2 : Int32) (a3 : Int32) (a4 : Int32) (ha0 : a0 < 20) {x : Mem} (h : fJetty_build_2 M a0 a1 a2 a3 a4 = some x) : Mt l D cy ad yX0_build cX0_build 5 none 1 [.ref (ad (a0 + 71)), .int a1, .int a2, .int a3, .int a4] ((wfC N) M) (none, (wfC N) x) := by
  refine met_of (fin := finV) (lv0 := [(0, .ref (ad (a0 + 71))), (1, .int a1), (2, .int a2), (3, .int a3), (4, .int a4)]) (by decide) (Nat.le_of_ble_eq_true rfl) rfl (lC N) h (fun p e s m args below meth c X hr => ?_)
  unfold fJetty_build_2
  refine g_aload_n X dX0_build_0 0 rfl rfl ?_
  refine g_iload_n X dX0_build_1 1 rfl rfl ?_
  refine put_0_0 X (k := a0 + 71) (kf_71 _ ha0) (sf_71 _ ha0) m_1_109 dX0_build_2 ?_
  refine g_mlet X (fun M1 => ?_)
  refine g_aload_n X dX0_build_5 0 rfl rfl ?_
  refine g_iload_n X dX0_build_6 2 rfl rfl ?_
  refine put_0_1 X (k := a0 + 71) (kf_71 _ ha0) (sf_71 _ ha0) m_1_111 dX0_build_7 ?_
  refine g_mlet X (fun M2 => ?_)
  refine g_aload_n X dX0_build_10 0 rfl rfl ?_
  refine g_iload_n X dX0_build_11 3 rfl rfl ?_
  refine put_0_2 X (k := a0 + 71) (kf_71 _ ha0) (sf_71 _ ha0) m_1_116 dX0_build_12 ?_
  refine g_mlet X (fun M3 => ?_)
  refine g_aload_n X dX0_build_15 0 rfl rfl ?_
  refine g_iload X dX0_build_16 4 rfl ?_
  refine put_0_3 X (k := a0 + 71) (kf_71 _ ha0) (sf_71 _ ha0) m_1_118 dX0_build_18 ?_
  refine g_mlet X (fun M4 => ?_)
  refine g_aload_n X dX0_build_21 0 rfl rfl ?_
  refine g_iconst X dX0_build_22 ic_0 ?_
  refine put_0_4 X (k := a0 + 71) (by decide) (kf_71 _ ha0) (sf_71 _ ha0) m_1_120 dX0_build_23 ?_
  refine g_mlet X (fun M5 => ?_)
  exact g_vret X hr rfl dX0_build_26
set_option maxRecDepth 100000 in
set_option maxHeartbeats 4000000 in
theorem tJetty_become {l : Launch} {D : va_G} {cy : Nat → ClassId} {ad : Nat → Nat} {N : Mem} (M : Mem) (a0 : Nat) (a1 : Nat) (ha0 : a0 < 20) (ha1 : a1 < 20) {x : Mem} (h : fJetty_become M a0 a1 = some x) : Mt l D cy ad yX0_become cX0_become 2 none 2 [.ref (ad (a0 + 71)), .ref (ad (a1 + 22))] ((wfC N) M) (none, (wfC N) x) := by
  refine met_of (fin := finV) (lv0 := [(0, .ref (ad (a0 + 71))), (1, .ref (ad (a1 + 22)))]) (by decide) (Nat.le_of_ble_eq_true rfl) rfl (lC N) h (fun p e s m args below meth c X hr => ?_)
  unfold fJetty_become
  refine g_aload_n X dX0_become_0 0 rfl rfl ?_
  refine g_aload_n X dX0_become_1 1 rfl rfl ?_
  refine get_0_0 X (k := a1 + 22) (kf_22 _ ha1) (sf_22 _ ha1) m_1_109 dX0_become_2 ?_
  refine g_aload_n X dX0_become_5 1 rfl rfl ?_
  refine get_0_1 X (k := a1 + 22) (kf_22 _ ha1) (sf_22 _ ha1) m_1_111 dX0_become_6 ?_
  refine g_aload_n X dX0_become_9 1 rfl rfl ?_
  refine get_0_2 X (k := a1 + 22) (kf_22 _ ha1) (sf_22 _ ha1) m_1_116 dX0_become_10 ?_
  refine g_aload_n X dX0_become_13 1 rfl rfl ?_
  refine get_0_3 X (k := a1 + 22) (kf_22 _ ha1) (sf_22 _ ha1) m_1_118 dX0_become_14 ?_
  refine g_cv X (st := []) (fun _ hh => ok_V X (k0 := a0 + 71) (As := [.int (M.1 (a1 + 22) 0), .int (M.1 (a1 + 22) 1), .int (M.1 (a1 + 22) 2), .int (M.1 (a1 + 22) 3)]) wkX0_build (tJetty_build_2 M a0 (M.1 (a1 + 22) 0) (M.1 (a1 + 22) 1) (M.1 (a1 + 22) 2) (M.1 (a1 + 22) 3) ha0 hh) rfl (kf_71 _ ha0) (sf_71 _ ha0) (by decide) rfl m_5_25 rfl (hRm (by decide) (by decide)) ⟨Nat.zero_le _, Nat.zero_le _⟩ (Nat.le_of_ble_eq_true rfl) dX0_become_17) (fun M1 _ => ?_)
  refine g_aload_n X dX0_become_20 0 rfl rfl ?_
  refine g_aload_n X dX0_become_21 1 rfl rfl ?_
  refine get_0_4 X (k := a1 + 22) (kf_22 _ ha1) (sf_22 _ ha1) m_1_120 dX0_become_22 ?_
  refine g_gd (q := isB (M1.1 (a1 + 22) 4)) (fun hz => ?_)
  refine put_0_4 X (k := a0 + 71) hz (kf_71 _ ha0) (sf_71 _ ha0) m_1_120 dX0_become_25 ?_
  refine g_mlet X (fun M2 => ?_)
  exact g_vret X hr rfl dX0_become_28
set_option maxRecDepth 100000 in
set_option maxHeartbeats 4000000 in
theorem tLaw_become {l : Launch} {D : va_G} {cy : Nat → ClassId} {ad : Nat → Nat} {N : Mem} (M : Mem) (a0 : Nat) (a1 : Nat) (ha0 : a0 < 6) (ha1 : a1 < 6) {x : Mem} (h : fLaw_become M a0 a1 = some x) : Mt l D cy ad yX2_become cX2_become 2 none 2 [.ref (ad (a0 + 92)), .ref (ad (a1 + 43))] ((wfC N) M) (none, (wfC N) x) := by
  refine met_of (fin := finV) (lv0 := [(0, .ref (ad (a0 + 92))), (1, .ref (ad (a1 + 43)))]) (by decide) (Nat.le_of_ble_eq_true rfl) rfl (lC N) h (fun p e s m args below meth c X hr => ?_)
  unfold fLaw_become
  refine g_aload_n X dX2_become_0 1 rfl rfl ?_
  refine get_2_0 X (k := a1 + 43) (kf_43 _ ha1) (sf_43 _ ha1) m_1_148 dX2_become_1 ?_
  refine g_iconst X dX2_become_4 ic_0 ?_
  refine g_aload_n X dX2_become_5 0 rfl rfl ?_
  refine get_2_0 X (k := a0 + 92) (kf_92 _ ha0) (sf_92 _ ha0) m_1_148 dX2_become_6 ?_
  refine g_iconst X dX2_become_9 ic_0 ?_
  refine g_bipush X dX2_become_10 bi_9 ?_
  refine g_cpI X (k0 := a1 + 50) (k := a0 + 99) (n0 := 9) (n1 := 9) (kf_50 _ ha1) (sf_50 _ ha1) (kf_99 _ ha0) (sf_99 _ ha0) m_1_145 (hR2 (by decide) (Nat.le_of_ble_eq_true rfl)) dX2_become_12 (fun _ => ?_)
  refine g_mlet X (fun M1 => ?_)
  exact g_vret X hr rfl dX2_become_15
set_option maxRecDepth 100000 in
set_option maxHeartbeats 4000000 in
theorem tLeaper_become {l : Launch} {D : va_G} {cy : Nat → ClassId} {ad : Nat → Nat} {N : Mem} (M : Mem) (a0 : Nat) (a1 : Nat) (ha0 : a0 < 6) (ha1 : a1 < 6) {x : Mem} (h : fLeaper_become M a0 a1 = some x) : Mt l D cy ad yX3_become cX3_become 2 none 1 [.ref (ad (a0 + 107)), .ref (ad (a1 + 58))] ((wfC N) M) (none, (wfC N) x) := by
  refine met_of (fin := finV) (lv0 := [(0, .ref (ad (a0 + 107))), (1, .ref (ad (a1 + 58)))]) (by decide) (Nat.le_of_ble_eq_true rfl) rfl (lC N) h (fun p e s m args below meth c X hr => ?_)
  unfold fLeaper_become
  refine g_aload_n X dX3_become_0 0 rfl rfl ?_
  refine g_aload_n X dX3_become_1 1 rfl rfl ?_
  refine get_3_0 X (k := a1 + 58) (kf_58 _ ha1) (sf_58 _ ha1) m_1_160 dX3_become_2 ?_
  refine put_3_0 X (k := a0 + 107) (kf_107 _ ha0) (sf_107 _ ha0) m_1_160 dX3_become_5 ?_
  refine g_mlet X (fun M1 => ?_)
  refine g_aload_n X dX3_become_8 0 rfl rfl ?_
  refine g_aload_n X dX3_become_9 1 rfl rfl ?_
  refine get_3_1 X (k := a1 + 58) (kf_58 _ ha1) (sf_58 _ ha1) m_1_163 dX3_become_10 ?_
  refine put_3_1 X (k := a0 + 107) (kf_107 _ ha0) (sf_107 _ ha0) m_1_163 dX3_become_13 ?_
  refine g_mlet X (fun M2 => ?_)
  refine g_aload_n X dX3_become_16 0 rfl rfl ?_
  refine g_aload_n X dX3_become_17 1 rfl rfl ?_
  refine get_3_2 X (k := a1 + 58) (kf_58 _ ha1) (sf_58 _ ha1) m_1_165 dX3_become_18 ?_
  refine put_3_2 X (k := a0 + 107) (kf_107 _ ha0) (sf_107 _ ha0) m_1_165 dX3_become_21 ?_
  refine g_mlet X (fun M3 => ?_)
  exact g_vret X hr rfl dX3_become_24
set_option maxRecDepth 100000 in
set_option maxHeartbeats 4000000 in
theorem LLake_becomeCounted_L10 {l : Launch} {D : va_G} {cy : Nat → ClassId} {ad : Nat → Nat} {N : Mem} {p : Program} {e : Env} {s : State} {m : MethodId} {args : Array Value} {below : List Frame} {meth : Method} {c : Code} (X : Cx p s m args meth c cX1_becomeCounted 3 RX1 D cy ad (AA ad) (wfC N) sdC) (hr : meth.sig.returnType = none) (kx39 : Mem → Option Mem) (hkx39 : ∀ (M : Mem), GF p l e (Rm 3) s m args below meth c 3 D cy ad (AA ad) 0 0 (wfC N) (QM D cy ad (wfC N) below args s) finV (kx39 M) 39 [(0, .ref (ad 69)), (1, .ref (ad 20))] [] M) : ∀ (n : Nat) (x2 : Int32) (M : Mem), GF p l e (Rm 3) s m args below meth c 3 D cy ad (AA ad) 0 0 (wfC N) (QM D cy ad (wfC N) below args s) finV (fLake_becomeCounted_L10 kx39 n x2 M) 10 [(0, .ref (ad 69)), (1, .ref (ad 20)), (2, .int x2)] [] M := by
  intro n
  induction n with
  | zero => intro x2 M; exact g_none
  | succ n ih =>
    intro x2 M
    rw [fLake_becomeCounted_L10]
    refine g_iload_n X dX1_becomeCounted_10 2 rfl rfl ?_
    refine g_aload_n X dX1_becomeCounted_11 0 rfl rfl ?_
    refine get_1_1 X (k := 69) k_69 s_69 m_1_178 dX1_becomeCounted_12 ?_
    refine g_icmp_ge X 39 (by decide) dX1_becomeCounted_15 (fun q15 => ?_) (fun q15 => ?_)
    · refine g_sub (lu := [(0, .ref (ad 69)), (1, .ref (ad 20))]) [0, 1] rfl ?_
      exact hkx39 M
    · refine g_aload_n X dX1_becomeCounted_18 0 rfl rfl ?_
      refine get_1_0 X (k := 69) k_69 s_69 m_1_174 dX1_becomeCounted_19 ?_
      refine g_iload_n X dX1_becomeCounted_22 2 rfl rfl ?_
      refine g_aald24 X (k := 70) k_70 s_70 dX1_becomeCounted_23 (fun h2 => ?_)
      refine g_aload_n X dX1_becomeCounted_24 1 rfl rfl ?_
      refine get_1_0 X (k := 20) k_20 s_20 m_1_174 dX1_becomeCounted_25 ?_
      refine g_iload_n X dX1_becomeCounted_28 2 rfl rfl ?_
      refine g_aald24 X (k := 21) k_21 s_21 dX1_becomeCounted_29 (fun h3 => ?_)
      refine g_cv X (st := []) (fun _ hh => ok_V X (k0 := (ix x2) + 71) (As := [.ref (ad ((ix x2) + 22))]) wkX0_become (tJetty_become M (ix x2) (ix x2) (inb_lt h2) (inb_lt h3) hh) rfl (kf_71 _ (inb_lt h2)) (sf_71 _ (inb_lt h2)) (by decide) rfl m_5_21 rfl (hRm (by decide) (by decide)) ⟨Nat.zero_le _, Nat.zero_le _⟩ (Nat.le_of_ble_eq_true rfl) dX1_becomeCounted_30) (fun M4 _ => ?_)
      refine g_iinc X (k := 2) (v := (x2 + 1)) dX1_becomeCounted_33 rfl (ii_1 _) (by decide) rfl [1, 2, 0] (lu := [(0, .ref (ad 69)), (1, .ref (ad 20)), (2, .int (x2 + 1))]) rfl ?_
      refine g_goto X 10 (by decide) dX1_becomeCounted_36 ?_
      exact ih (x2 + 1) M4
set_option maxRecDepth 100000 in
set_option maxHeartbeats 4000000 in
theorem LLake_becomeCounted_L49 {l : Launch} {D : va_G} {cy : Nat → ClassId} {ad : Nat → Nat} {N : Mem} {p : Program} {e : Env} {s : State} {m : MethodId} {args : Array Value} {below : List Frame} {meth : Method} {c : Code} (X : Cx p s m args meth c cX1_becomeCounted 3 RX1 D cy ad (AA ad) (wfC N) sdC) (hr : meth.sig.returnType = none) (kx78 : Mem → Option Mem) (hkx78 : ∀ (M : Mem), GF p l e (Rm 3) s m args below meth c 3 D cy ad (AA ad) 0 0 (wfC N) (QM D cy ad (wfC N) below args s) finV (kx78 M) 78 [(0, .ref (ad 69)), (1, .ref (ad 20))] [] M) : ∀ (n : Nat) (x2 : Int32) (M : Mem), GF p l e (Rm 3) s m args below meth c 3 D cy ad (AA ad) 0 0 (wfC N) (QM D cy ad (wfC N) below args s) finV (fLake_becomeCounted_L49 kx78 n x2 M) 49 [(0, .ref (ad 69)), (1, .ref (ad 20)), (2, .int x2)] [] M := by
  intro n
  induction n with
  | zero => intro x2 M; exact g_none
  | succ n ih =>
    intro x2 M
    rw [fLake_becomeCounted_L49]
    refine g_iload_n X dX1_becomeCounted_49 2 rfl rfl ?_
    refine g_aload_n X dX1_becomeCounted_50 0 rfl rfl ?_
    refine get_1_3 X (k := 69) k_69 s_69 m_1_182 dX1_becomeCounted_51 ?_
    refine g_icmp_ge X 78 (by decide) dX1_becomeCounted_54 (fun q54 => ?_) (fun q54 => ?_)
    · refine g_sub (lu := [(0, .ref (ad 69)), (1, .ref (ad 20))]) [0, 1] rfl ?_
      exact hkx78 M
    · refine g_aload_n X dX1_becomeCounted_57 0 rfl rfl ?_
      refine get_1_2 X (k := 69) k_69 s_69 m_1_180 dX1_becomeCounted_58 ?_
      refine g_iload_n X dX1_becomeCounted_61 2 rfl rfl ?_
      refine g_aald25 X (k := 91) k_91 s_91 dX1_becomeCounted_62 (fun h7 => ?_)
      refine g_aload_n X dX1_becomeCounted_63 1 rfl rfl ?_
      refine get_1_2 X (k := 20) k_20 s_20 m_1_180 dX1_becomeCounted_64 ?_
      refine g_iload_n X dX1_becomeCounted_67 2 rfl rfl ?_
      refine g_aald25 X (k := 42) k_42 s_42 dX1_becomeCounted_68 (fun h8 => ?_)
      refine g_cv X (st := []) (fun _ hh => ok_V X (k0 := (ix x2) + 92) (As := [.ref (ad ((ix x2) + 43))]) wkX2_become (tLaw_become M (ix x2) (ix x2) (inb_lt h7) (inb_lt h8) hh) rfl (kf_92 _ (inb_lt h7)) (sf_92 _ (inb_lt h7)) (by decide) rfl m_5_26 rfl (hRm (by decide) (by decide)) ⟨Nat.zero_le _, Nat.zero_le _⟩ (Nat.le_of_ble_eq_true rfl) dX1_becomeCounted_69) (fun M9 _ => ?_)
      refine g_iinc X (k := 2) (v := (x2 + 1)) dX1_becomeCounted_72 rfl (ii_1 _) (by decide) rfl [1, 2, 0] (lu := [(0, .ref (ad 69)), (1, .ref (ad 20)), (2, .int (x2 + 1))]) rfl ?_
      refine g_goto X 49 (by decide) dX1_becomeCounted_75 ?_
      exact ih (x2 + 1) M9
set_option maxRecDepth 100000 in
set_option maxHeartbeats 4000000 in
theorem LLake_becomeCounted_L88 {l : Launch} {D : va_G} {cy : Nat → ClassId} {ad : Nat → Nat} {N : Mem} {p : Program} {e : Env} {s : State} {m : MethodId} {args : Array Value} {below : List Frame} {meth : Method} {c : Code} (X : Cx p s m args meth c cX1_becomeCounted 3 RX1 D cy ad (AA ad) (wfC N) sdC) (hr : meth.sig.returnType = none) (kx117 : Mem → Option Mem) (hkx117 : ∀ (M : Mem), GF p l e (Rm 3) s m args below meth c 3 D cy ad (AA ad) 0 0 (wfC N) (QM D cy ad (wfC N) below args s) finV (kx117 M) 117 [(0, .ref (ad 69)), (1, .ref (ad 20))] [] M) : ∀ (n : Nat) (x2 : Int32) (M : Mem), GF p l e (Rm 3) s m args below meth c 3 D cy ad (AA ad) 0 0 (wfC N) (QM D cy ad (wfC N) below args s) finV (fLake_becomeCounted_L88 kx117 n x2 M) 88 [(0, .ref (ad 69)), (1, .ref (ad 20)), (2, .int x2)] [] M := by
  intro n
  induction n with
  | zero => intro x2 M; exact g_none
  | succ n ih =>
    intro x2 M
    rw [fLake_becomeCounted_L88]
    refine g_iload_n X dX1_becomeCounted_88 2 rfl rfl ?_
    refine g_aload_n X dX1_becomeCounted_89 0 rfl rfl ?_
    refine get_1_6 X (k := 69) k_69 s_69 m_1_189 dX1_becomeCounted_90 ?_
    refine g_icmp_ge X 117 (by decide) dX1_becomeCounted_93 (fun q93 => ?_) (fun q93 => ?_)
    · refine g_sub (lu := [(0, .ref (ad 69)), (1, .ref (ad 20))]) [0, 1] rfl ?_
      exact hkx117 M
    · refine g_aload_n X dX1_becomeCounted_96 0 rfl rfl ?_
      refine get_1_5 X (k := 69) k_69 s_69 m_1_186 dX1_becomeCounted_97 ?_
      refine g_iload_n X dX1_becomeCounted_100 2 rfl rfl ?_
      refine g_aald26 X (k := 106) k_106 s_106 dX1_becomeCounted_101 (fun h12 => ?_)
      refine g_aload_n X dX1_becomeCounted_102 1 rfl rfl ?_
      refine get_1_5 X (k := 20) k_20 s_20 m_1_186 dX1_becomeCounted_103 ?_
      refine g_iload_n X dX1_becomeCounted_106 2 rfl rfl ?_
      refine g_aald26 X (k := 57) k_57 s_57 dX1_becomeCounted_107 (fun h13 => ?_)
      refine g_cv X (st := []) (fun _ hh => ok_V X (k0 := (ix x2) + 107) (As := [.ref (ad ((ix x2) + 58))]) wkX3_become (tLeaper_become M (ix x2) (ix x2) (inb_lt h12) (inb_lt h13) hh) rfl (kf_107 _ (inb_lt h12)) (sf_107 _ (inb_lt h12)) (by decide) rfl m_5_30 rfl (hRm (by decide) (by decide)) ⟨Nat.zero_le _, Nat.zero_le _⟩ (Nat.le_of_ble_eq_true rfl) dX1_becomeCounted_108) (fun M14 _ => ?_)
      refine g_iinc X (k := 2) (v := (x2 + 1)) dX1_becomeCounted_111 rfl (ii_1 _) (by decide) rfl [1, 2, 0] (lu := [(0, .ref (ad 69)), (1, .ref (ad 20)), (2, .int (x2 + 1))]) rfl ?_
      refine g_goto X 88 (by decide) dX1_becomeCounted_114 ?_
      exact ih (x2 + 1) M14
set_option maxRecDepth 100000 in
set_option maxHeartbeats 4000000 in
theorem tLake_becomeCounted {l : Launch} {D : va_G} {cy : Nat → ClassId} {ad : Nat → Nat} {N : Mem} (M : Mem) {x : Mem} (h : fLake_becomeCounted M = some x) : Mt l D cy ad yX1_becomeCounted cX1_becomeCounted 3 none 3 [.ref (ad 69), .ref (ad 20)] ((wfC N) M) (none, (wfC N) x) := by
  refine met_of (fin := finV) (lv0 := [(0, .ref (ad 69)), (1, .ref (ad 20))]) (by decide) (Nat.le_of_ble_eq_true rfl) rfl (lC N) h (fun p e s m args below meth c X hr => ?_)
  unfold fLake_becomeCounted
  refine g_aload_n X dX1_becomeCounted_0 0 rfl rfl ?_
  refine g_aload_n X dX1_becomeCounted_1 1 rfl rfl ?_
  refine get_1_1 X (k := 20) k_20 s_20 m_1_178 dX1_becomeCounted_2 ?_
  refine put_1_1 X (k := 69) k_69 s_69 m_1_178 dX1_becomeCounted_5 ?_
  refine g_mlet X (fun M1 => ?_)
  refine g_iconst X dX1_becomeCounted_8 ic_0 ?_
  refine g_istore_n X dX1_becomeCounted_9 rfl (by decide) rfl [1, 2, 0] (lu := [(0, .ref (ad 69)), (1, .ref (ad 20)), (2, .int 0)]) rfl ?_
  refine LLake_becomeCounted_L10  X hr   _ (fun M5 => ?_) FU 0 M1
  · refine g_aload_n X dX1_becomeCounted_39 0 rfl rfl ?_
    refine g_aload_n X dX1_becomeCounted_40 1 rfl rfl ?_
    refine get_1_3 X (k := 20) k_20 s_20 m_1_182 dX1_becomeCounted_41 ?_
    refine put_1_3 X (k := 69) k_69 s_69 m_1_182 dX1_becomeCounted_44 ?_
    refine g_mlet X (fun M6 => ?_)
    refine g_iconst X dX1_becomeCounted_47 ic_0 ?_
    refine g_istore_n X dX1_becomeCounted_48 rfl (by decide) rfl [1, 2, 0] (lu := [(0, .ref (ad 69)), (1, .ref (ad 20)), (2, .int 0)]) rfl ?_
    refine LLake_becomeCounted_L49  X hr   _ (fun M10 => ?_) FU 0 M6
    · refine g_aload_n X dX1_becomeCounted_78 0 rfl rfl ?_
      refine g_aload_n X dX1_becomeCounted_79 1 rfl rfl ?_
      refine get_1_6 X (k := 20) k_20 s_20 m_1_189 dX1_becomeCounted_80 ?_
      refine put_1_6 X (k := 69) k_69 s_69 m_1_189 dX1_becomeCounted_83 ?_
      refine g_mlet X (fun M11 => ?_)
      refine g_iconst X dX1_becomeCounted_86 ic_0 ?_
      refine g_istore_n X dX1_becomeCounted_87 rfl (by decide) rfl [1, 2, 0] (lu := [(0, .ref (ad 69)), (1, .ref (ad 20)), (2, .int 0)]) rfl ?_
      refine LLake_becomeCounted_L88  X hr   _ (fun M15 => ?_) FU 0 M11
      · refine g_aload_n X dX1_becomeCounted_117 0 rfl rfl ?_
        refine g_aload_n X dX1_becomeCounted_118 1 rfl rfl ?_
        refine get_1_9 X (k := 20) k_20 s_20 m_1_195 dX1_becomeCounted_119 ?_
        refine put_1_9 X (k := 69) k_69 s_69 m_1_195 dX1_becomeCounted_122 ?_
        refine g_mlet X (fun M16 => ?_)
        refine g_aload_n X dX1_becomeCounted_125 1 rfl rfl ?_
        refine get_1_7 X (k := 20) k_20 s_20 m_1_191 dX1_becomeCounted_126 ?_
        refine g_iconst X dX1_becomeCounted_129 ic_0 ?_
        refine g_aload_n X dX1_becomeCounted_130 0 rfl rfl ?_
        refine get_1_7 X (k := 69) k_69 s_69 m_1_191 dX1_becomeCounted_131 ?_
        refine g_iconst X dX1_becomeCounted_134 ic_0 ?_
        refine g_bipush X dX1_becomeCounted_135 bi_10 ?_
        refine g_cpI X (k0 := 64) (k := 113) (n0 := 10) (n1 := 10) k_64 s_64 k_113 s_113 m_5_34 (hR2 (by decide) (Nat.le_of_ble_eq_true rfl)) dX1_becomeCounted_137 (fun _ => ?_)
        refine g_mlet X (fun M17 => ?_)
        refine g_aload_n X dX1_becomeCounted_140 1 rfl rfl ?_
        refine get_1_8 X (k := 20) k_20 s_20 m_1_193 dX1_becomeCounted_141 ?_
        refine g_iconst X dX1_becomeCounted_144 ic_0 ?_
        refine g_aload_n X dX1_becomeCounted_145 0 rfl rfl ?_
        refine get_1_8 X (k := 69) k_69 s_69 m_1_193 dX1_becomeCounted_146 ?_
        refine g_iconst X dX1_becomeCounted_149 ic_0 ?_
        refine g_bipush X dX1_becomeCounted_150 bi_10 ?_
        refine g_cpI X (k0 := 65) (k := 114) (n0 := 10) (n1 := 10) k_65 s_65 k_114 s_114 m_5_34 (hR2 (by decide) (Nat.le_of_ble_eq_true rfl)) dX1_becomeCounted_152 (fun _ => ?_)
        refine g_mlet X (fun M18 => ?_)
        exact g_vret X hr rfl dX1_becomeCounted_155
set_option maxRecDepth 100000 in
set_option maxHeartbeats 4000000 in
theorem tVoyage_become {l : Launch} {D : va_G} {cy : Nat → ClassId} {ad : Nat → Nat} {N : Mem} (M : Mem) {x : Mem} (h : fVoyage_become M = some x) : Mt l D cy ad yX9_become cX9_become 2 none 2 [.ref (ad 116), .ref (ad 67)] ((wfC N) M) (none, (wfC N) x) := by
  refine met_of (fin := finV) (lv0 := [(0, .ref (ad 116)), (1, .ref (ad 67))]) (by decide) (Nat.le_of_ble_eq_true rfl) rfl (lC N) h (fun p e s m args below meth c X hr => ?_)
  unfold fVoyage_become
  refine g_aload_n X dX9_become_0 0 rfl rfl ?_
  refine g_aload_n X dX9_become_1 1 rfl rfl ?_
  refine get_9_0 X (k := 67) k_67 s_67 m_1_66 dX9_become_2 ?_
  refine put_9_0 X (k := 116) k_116 s_116 m_1_66 dX9_become_5 ?_
  refine g_mlet X (fun M1 => ?_)
  refine g_aload_n X dX9_become_8 0 rfl rfl ?_
  refine g_aload_n X dX9_become_9 1 rfl rfl ?_
  refine get_9_2 X (k := 67) k_67 s_67 m_1_71 dX9_become_10 ?_
  refine put_9_2 X (k := 116) k_116 s_116 m_1_71 dX9_become_13 ?_
  refine g_mlet X (fun M2 => ?_)
  refine g_aload_n X dX9_become_16 1 rfl rfl ?_
  refine get_9_1 X (k := 67) k_67 s_67 m_1_69 dX9_become_17 ?_
  refine g_iconst X dX9_become_20 ic_0 ?_
  refine g_aload_n X dX9_become_21 0 rfl rfl ?_
  refine get_9_1 X (k := 116) k_116 s_116 m_1_69 dX9_become_22 ?_
  refine g_iconst X dX9_become_25 ic_0 ?_
  refine g_bipush X dX9_become_26 bi_20 ?_
  refine g_cpI X (k0 := 68) (k := 117) (n0 := 20) (n1 := 20) k_68 s_68 k_117 s_117 m_4_223 (hR2 (by decide) (Nat.le_of_ble_eq_true rfl)) dX9_become_28 (fun _ => ?_)
  refine g_mlet X (fun M3 => ?_)
  refine g_aload_n X dX9_become_31 0 rfl rfl ?_
  refine g_aload_n X dX9_become_32 1 rfl rfl ?_
  refine get_9_3 X (k := 67) k_67 s_67 m_1_72 dX9_become_33 ?_
  refine put_9_3 X (k := 116) k_116 s_116 m_1_72 dX9_become_36 ?_
  refine g_mlet X (fun M4 => ?_)
  refine g_aload_n X dX9_become_39 0 rfl rfl ?_
  refine g_aload_n X dX9_become_40 1 rfl rfl ?_
  refine get_9_4 X (k := 67) k_67 s_67 m_1_74 dX9_become_41 ?_
  refine put_9_4 X (k := 116) k_116 s_116 m_1_74 dX9_become_44 ?_
  refine g_mlet X (fun M5 => ?_)
  refine g_aload_n X dX9_become_47 0 rfl rfl ?_
  refine g_aload_n X dX9_become_48 1 rfl rfl ?_
  refine get_9_5 X (k := 67) k_67 s_67 m_1_77 dX9_become_49 ?_
  refine put_9_5 X (k := 116) k_116 s_116 m_1_77 dX9_become_52 ?_
  refine g_mlet X (fun M6 => ?_)
  refine g_aload_n X dX9_become_55 0 rfl rfl ?_
  refine g_aload_n X dX9_become_56 1 rfl rfl ?_
  refine get_9_6 X (k := 67) k_67 s_67 m_1_80 dX9_become_57 ?_
  refine put_9_6 X (k := 116) k_116 s_116 m_1_80 dX9_become_60 ?_
  refine g_mlet X (fun M7 => ?_)
  refine g_aload_n X dX9_become_63 0 rfl rfl ?_
  refine g_aload_n X dX9_become_64 1 rfl rfl ?_
  refine get_9_7 X (k := 67) k_67 s_67 m_1_83 dX9_become_65 ?_
  refine put_9_7 X (k := 116) k_116 s_116 m_1_83 dX9_become_68 ?_
  refine g_mlet X (fun M8 => ?_)
  exact g_vret X hr rfl dX9_become_71
set_option maxRecDepth 100000 in
set_option maxHeartbeats 4000000 in
theorem tLake_become {l : Launch} {D : va_G} {cy : Nat → ClassId} {ad : Nat → Nat} {N : Mem} (M : Mem) {x : Mem} (h : fLake_become M = some x) : Mt l D cy ad yX1_become cX1_become 2 none 4 [.ref (ad 69), .ref (ad 20)] ((wfC N) M) (none, (wfC N) x) := by
  refine met_of (fin := finV) (lv0 := [(0, .ref (ad 69)), (1, .ref (ad 20))]) (by decide) (Nat.le_of_ble_eq_true rfl) rfl (lC N) h (fun p e s m args below meth c X hr => ?_)
  unfold fLake_become
  refine g_aload_n X dX1_become_0 0 rfl rfl ?_
  refine g_aload_n X dX1_become_1 1 rfl rfl ?_
  refine g_cv X (st := []) (fun _ hh => ok_V X (k0 := 69) (As := [.ref (ad 20)]) wkX1_becomeCounted (tLake_becomeCounted M hh) rfl k_69 s_69 (by decide) rfl m_5_17 rfl (hRm (by decide) (by decide)) ⟨Nat.zero_le _, Nat.zero_le _⟩ (Nat.le_of_ble_eq_true rfl) dX1_become_2) (fun M1 _ => ?_)
  refine g_aload_n X dX1_become_5 1 rfl rfl ?_
  refine get_1_10 X (k := 20) k_20 s_20 m_1_197 dX1_become_6 ?_
  refine g_iconst X dX1_become_9 ic_0 ?_
  refine g_aload_n X dX1_become_10 0 rfl rfl ?_
  refine get_1_10 X (k := 69) k_69 s_69 m_1_197 dX1_become_11 ?_
  refine g_iconst X dX1_become_14 ic_0 ?_
  refine g_bipush X dX1_become_15 bi_12 ?_
  refine g_cpI X (k0 := 66) (k := 115) (n0 := 12) (n1 := 12) k_66 s_66 k_115 s_115 m_5_34 (hR2 (by decide) (Nat.le_of_ble_eq_true rfl)) dX1_become_17 (fun _ => ?_)
  refine g_mlet X (fun M2 => ?_)
  refine g_aload_n X dX1_become_20 0 rfl rfl ?_
  refine g_aload_n X dX1_become_21 1 rfl rfl ?_
  refine get_1_4 X (k := 20) k_20 s_20 m_1_184 dX1_become_22 ?_
  refine put_1_4 X (k := 69) k_69 s_69 m_1_184 dX1_become_25 ?_
  refine g_mlet X (fun M3 => ?_)
  refine g_aload_n X dX1_become_28 0 rfl rfl ?_
  refine g_aload_n X dX1_become_29 1 rfl rfl ?_
  refine get_1_11 X (k := 20) k_20 s_20 m_1_199 dX1_become_30 ?_
  refine put_1_11 X (k := 69) k_69 s_69 m_1_199 dX1_become_33 ?_
  refine g_mlet X (fun M4 => ?_)
  refine g_aload_n X dX1_become_36 0 rfl rfl ?_
  refine g_aload_n X dX1_become_37 1 rfl rfl ?_
  refine get_1_12 X (k := 20) k_20 s_20 m_1_201 dX1_become_38 ?_
  refine put_1_12 X (k := 69) k_69 s_69 m_1_201 dX1_become_41 ?_
  refine g_mlet X (fun M5 => ?_)
  refine g_aload_n X dX1_become_44 0 rfl rfl ?_
  refine g_aload_n X dX1_become_45 1 rfl rfl ?_
  refine get_1_13 X (k := 20) k_20 s_20 m_1_205 dX1_become_46 ?_
  refine put_1_13 X (k := 69) k_69 s_69 m_1_205 dX1_become_49 ?_
  refine g_mlet X (fun M6 => ?_)
  refine g_aload_n X dX1_become_52 0 rfl rfl ?_
  refine g_aload_n X dX1_become_53 1 rfl rfl ?_
  refine get_1_14 X (k := 20) k_20 s_20 m_1_207 dX1_become_54 ?_
  refine put_1_14 X (k := 69) k_69 s_69 m_1_207 dX1_become_57 ?_
  refine g_mlet X (fun M7 => ?_)
  refine g_aload_n X dX1_become_60 0 rfl rfl ?_
  refine get_1_15 X (k := 69) k_69 s_69 m_1_209 dX1_become_61 ?_
  refine g_aload_n X dX1_become_64 1 rfl rfl ?_
  refine get_1_15 X (k := 20) k_20 s_20 m_1_209 dX1_become_65 ?_
  refine g_cv X (st := []) (fun _ hh => ok_V X (k0 := 116) (As := [.ref (ad 67)]) wkX9_become (tVoyage_become M7 hh) rfl k_116 s_116 (by decide) rfl m_5_35 rfl (hRm (by decide) (by decide)) ⟨Nat.zero_le _, Nat.zero_le _⟩ (Nat.le_of_ble_eq_true rfl) dX1_become_68) (fun M8 _ => ?_)
  exact g_vret X hr rfl dX1_become_71
set_option maxRecDepth 100000 in
set_option maxHeartbeats 4000000 in
theorem tc_image {l : Launch} {D : va_G} {cy : Nat → ClassId} {ad : Nat → Nat} {N : Mem} (M : Mem) {x : (Int32 × Mem)} (h : fc_image M = some x) : Mt l D cy ad yX10_image cX10_image 1 (some .int) 5 [.ref (ad 0)] ((wfC N) M) (some (.int x.1), (wfC N) x.2) := by
  refine met_of (fin := finS) (lv0 := [(0, .ref (ad 0))]) (by decide) (Nat.le_of_ble_eq_true rfl) rfl (lC N) h (fun p e s m args below meth c X hr => ?_)
  unfold fc_image
  refine g_aload_n X dX10_image_0 0 rfl rfl ?_
  refine get_10_3 X (k := 0) k_0 s_0 m_2_129 dX10_image_1 ?_
  refine g_aload_n X dX10_image_4 0 rfl rfl ?_
  refine get_10_2 X (k := 0) k_0 s_0 m_2_128 dX10_image_5 ?_
  refine g_cv X (st := []) (fun _ hh => ok_V X (k0 := 69) (As := [.ref (ad 20)]) wkX1_become (tLake_become M hh) rfl k_69 s_69 (by decide) rfl m_5_13 rfl (hRm (by decide) (by decide)) ⟨Nat.zero_le _, Nat.zero_le _⟩ (Nat.le_of_ble_eq_true rfl) dX10_image_8) (fun M1 _ => ?_)
  refine g_aload_n X dX10_image_11 0 rfl rfl ?_
  refine g_iconst X dX10_image_12 ic_1 ?_
  refine put_10_4 X (k := 0) (by decide) k_0 s_0 m_2_130 dX10_image_13 ?_
  refine g_mlet X (fun M2 => ?_)
  refine g_iconst X dX10_image_16 ic_1 ?_
  exact g_iret X hr rfl dX10_image_17
set_option maxRecDepth 100000 in
set_option maxHeartbeats 4000000 in
theorem tJetty_become_2 {l : Launch} {D : va_G} {cy : Nat → ClassId} {ad : Nat → Nat} {N : Mem} (M : Mem) (a0 : Nat) (a1 : Nat) (ha0 : a0 < 20) (ha1 : a1 < 20) {x : Mem} (h : fJetty_become_2 M a0 a1 = some x) : Mt l D cy ad yX0_become cX0_become 2 none 2 [.ref (ad (a0 + 22)), .ref (ad (a1 + 71))] ((wfC N) M) (none, (wfC N) x) := by
  refine met_of (fin := finV) (lv0 := [(0, .ref (ad (a0 + 22))), (1, .ref (ad (a1 + 71)))]) (by decide) (Nat.le_of_ble_eq_true rfl) rfl (lC N) h (fun p e s m args below meth c X hr => ?_)
  unfold fJetty_become_2
  refine g_aload_n X dX0_become_0 0 rfl rfl ?_
  refine g_aload_n X dX0_become_1 1 rfl rfl ?_
  refine get_0_0 X (k := a1 + 71) (kf_71 _ ha1) (sf_71 _ ha1) m_1_109 dX0_become_2 ?_
  refine g_aload_n X dX0_become_5 1 rfl rfl ?_
  refine get_0_1 X (k := a1 + 71) (kf_71 _ ha1) (sf_71 _ ha1) m_1_111 dX0_become_6 ?_
  refine g_aload_n X dX0_become_9 1 rfl rfl ?_
  refine get_0_2 X (k := a1 + 71) (kf_71 _ ha1) (sf_71 _ ha1) m_1_116 dX0_become_10 ?_
  refine g_aload_n X dX0_become_13 1 rfl rfl ?_
  refine get_0_3 X (k := a1 + 71) (kf_71 _ ha1) (sf_71 _ ha1) m_1_118 dX0_become_14 ?_
  refine g_cv X (st := []) (fun _ hh => ok_V X (k0 := a0 + 22) (As := [.int (M.1 (a1 + 71) 0), .int (M.1 (a1 + 71) 1), .int (M.1 (a1 + 71) 2), .int (M.1 (a1 + 71) 3)]) wkX0_build (tJetty_build M a0 (M.1 (a1 + 71) 0) (M.1 (a1 + 71) 1) (M.1 (a1 + 71) 2) (M.1 (a1 + 71) 3) ha0 hh) rfl (kf_22 _ ha0) (sf_22 _ ha0) (by decide) rfl m_5_25 rfl (hRm (by decide) (by decide)) ⟨Nat.zero_le _, Nat.zero_le _⟩ (Nat.le_of_ble_eq_true rfl) dX0_become_17) (fun M1 _ => ?_)
  refine g_aload_n X dX0_become_20 0 rfl rfl ?_
  refine g_aload_n X dX0_become_21 1 rfl rfl ?_
  refine get_0_4 X (k := a1 + 71) (kf_71 _ ha1) (sf_71 _ ha1) m_1_120 dX0_become_22 ?_
  refine g_gd (q := isB (M1.1 (a1 + 71) 4)) (fun hz => ?_)
  refine put_0_4 X (k := a0 + 22) hz (kf_22 _ ha0) (sf_22 _ ha0) m_1_120 dX0_become_25 ?_
  refine g_mlet X (fun M2 => ?_)
  exact g_vret X hr rfl dX0_become_28
set_option maxRecDepth 100000 in
set_option maxHeartbeats 4000000 in
theorem tLaw_become_2 {l : Launch} {D : va_G} {cy : Nat → ClassId} {ad : Nat → Nat} {N : Mem} (M : Mem) (a0 : Nat) (a1 : Nat) (ha0 : a0 < 6) (ha1 : a1 < 6) {x : Mem} (h : fLaw_become_2 M a0 a1 = some x) : Mt l D cy ad yX2_become cX2_become 2 none 2 [.ref (ad (a0 + 43)), .ref (ad (a1 + 92))] ((wfC N) M) (none, (wfC N) x) := by
  refine met_of (fin := finV) (lv0 := [(0, .ref (ad (a0 + 43))), (1, .ref (ad (a1 + 92)))]) (by decide) (Nat.le_of_ble_eq_true rfl) rfl (lC N) h (fun p e s m args below meth c X hr => ?_)
  unfold fLaw_become_2
  refine g_aload_n X dX2_become_0 1 rfl rfl ?_
  refine get_2_0 X (k := a1 + 92) (kf_92 _ ha1) (sf_92 _ ha1) m_1_148 dX2_become_1 ?_
  refine g_iconst X dX2_become_4 ic_0 ?_
  refine g_aload_n X dX2_become_5 0 rfl rfl ?_
  refine get_2_0 X (k := a0 + 43) (kf_43 _ ha0) (sf_43 _ ha0) m_1_148 dX2_become_6 ?_
  refine g_iconst X dX2_become_9 ic_0 ?_
  refine g_bipush X dX2_become_10 bi_9 ?_
  refine g_cpI X (k0 := a1 + 99) (k := a0 + 50) (n0 := 9) (n1 := 9) (kf_99 _ ha1) (sf_99 _ ha1) (kf_50 _ ha0) (sf_50 _ ha0) m_1_145 (hR2 (by decide) (Nat.le_of_ble_eq_true rfl)) dX2_become_12 (fun _ => ?_)
  refine g_mlet X (fun M1 => ?_)
  exact g_vret X hr rfl dX2_become_15
set_option maxRecDepth 100000 in
set_option maxHeartbeats 4000000 in
theorem tLeaper_become_2 {l : Launch} {D : va_G} {cy : Nat → ClassId} {ad : Nat → Nat} {N : Mem} (M : Mem) (a0 : Nat) (a1 : Nat) (ha0 : a0 < 6) (ha1 : a1 < 6) {x : Mem} (h : fLeaper_become_2 M a0 a1 = some x) : Mt l D cy ad yX3_become cX3_become 2 none 1 [.ref (ad (a0 + 58)), .ref (ad (a1 + 107))] ((wfC N) M) (none, (wfC N) x) := by
  refine met_of (fin := finV) (lv0 := [(0, .ref (ad (a0 + 58))), (1, .ref (ad (a1 + 107)))]) (by decide) (Nat.le_of_ble_eq_true rfl) rfl (lC N) h (fun p e s m args below meth c X hr => ?_)
  unfold fLeaper_become_2
  refine g_aload_n X dX3_become_0 0 rfl rfl ?_
  refine g_aload_n X dX3_become_1 1 rfl rfl ?_
  refine get_3_0 X (k := a1 + 107) (kf_107 _ ha1) (sf_107 _ ha1) m_1_160 dX3_become_2 ?_
  refine put_3_0 X (k := a0 + 58) (kf_58 _ ha0) (sf_58 _ ha0) m_1_160 dX3_become_5 ?_
  refine g_mlet X (fun M1 => ?_)
  refine g_aload_n X dX3_become_8 0 rfl rfl ?_
  refine g_aload_n X dX3_become_9 1 rfl rfl ?_
  refine get_3_1 X (k := a1 + 107) (kf_107 _ ha1) (sf_107 _ ha1) m_1_163 dX3_become_10 ?_
  refine put_3_1 X (k := a0 + 58) (kf_58 _ ha0) (sf_58 _ ha0) m_1_163 dX3_become_13 ?_
  refine g_mlet X (fun M2 => ?_)
  refine g_aload_n X dX3_become_16 0 rfl rfl ?_
  refine g_aload_n X dX3_become_17 1 rfl rfl ?_
  refine get_3_2 X (k := a1 + 107) (kf_107 _ ha1) (sf_107 _ ha1) m_1_165 dX3_become_18 ?_
  refine put_3_2 X (k := a0 + 58) (kf_58 _ ha0) (sf_58 _ ha0) m_1_165 dX3_become_21 ?_
  refine g_mlet X (fun M3 => ?_)
  exact g_vret X hr rfl dX3_become_24
set_option maxRecDepth 100000 in
set_option maxHeartbeats 4000000 in
theorem LLake_becomeCounted_2_L10 {l : Launch} {D : va_G} {cy : Nat → ClassId} {ad : Nat → Nat} {N : Mem} {p : Program} {e : Env} {s : State} {m : MethodId} {args : Array Value} {below : List Frame} {meth : Method} {c : Code} (X : Cx p s m args meth c cX1_becomeCounted 3 RX1 D cy ad (AA ad) (wfC N) sdC) (hr : meth.sig.returnType = none) (kx39 : Mem → Option Mem) (hkx39 : ∀ (M : Mem), GF p l e (Rm 3) s m args below meth c 3 D cy ad (AA ad) 0 0 (wfC N) (QM D cy ad (wfC N) below args s) finV (kx39 M) 39 [(0, .ref (ad 20)), (1, .ref (ad 69))] [] M) : ∀ (n : Nat) (x2 : Int32) (M : Mem), GF p l e (Rm 3) s m args below meth c 3 D cy ad (AA ad) 0 0 (wfC N) (QM D cy ad (wfC N) below args s) finV (fLake_becomeCounted_2_L10 kx39 n x2 M) 10 [(0, .ref (ad 20)), (1, .ref (ad 69)), (2, .int x2)] [] M := by
  intro n
  induction n with
  | zero => intro x2 M; exact g_none
  | succ n ih =>
    intro x2 M
    rw [fLake_becomeCounted_2_L10]
    refine g_iload_n X dX1_becomeCounted_10 2 rfl rfl ?_
    refine g_aload_n X dX1_becomeCounted_11 0 rfl rfl ?_
    refine get_1_1 X (k := 20) k_20 s_20 m_1_178 dX1_becomeCounted_12 ?_
    refine g_icmp_ge X 39 (by decide) dX1_becomeCounted_15 (fun q15 => ?_) (fun q15 => ?_)
    · refine g_sub (lu := [(0, .ref (ad 20)), (1, .ref (ad 69))]) [0, 1] rfl ?_
      exact hkx39 M
    · refine g_aload_n X dX1_becomeCounted_18 0 rfl rfl ?_
      refine get_1_0 X (k := 20) k_20 s_20 m_1_174 dX1_becomeCounted_19 ?_
      refine g_iload_n X dX1_becomeCounted_22 2 rfl rfl ?_
      refine g_aald24 X (k := 21) k_21 s_21 dX1_becomeCounted_23 (fun h2 => ?_)
      refine g_aload_n X dX1_becomeCounted_24 1 rfl rfl ?_
      refine get_1_0 X (k := 69) k_69 s_69 m_1_174 dX1_becomeCounted_25 ?_
      refine g_iload_n X dX1_becomeCounted_28 2 rfl rfl ?_
      refine g_aald24 X (k := 70) k_70 s_70 dX1_becomeCounted_29 (fun h3 => ?_)
      refine g_cv X (st := []) (fun _ hh => ok_V X (k0 := (ix x2) + 22) (As := [.ref (ad ((ix x2) + 71))]) wkX0_become (tJetty_become_2 M (ix x2) (ix x2) (inb_lt h2) (inb_lt h3) hh) rfl (kf_22 _ (inb_lt h2)) (sf_22 _ (inb_lt h2)) (by decide) rfl m_5_21 rfl (hRm (by decide) (by decide)) ⟨Nat.zero_le _, Nat.zero_le _⟩ (Nat.le_of_ble_eq_true rfl) dX1_becomeCounted_30) (fun M4 _ => ?_)
      refine g_iinc X (k := 2) (v := (x2 + 1)) dX1_becomeCounted_33 rfl (ii_1 _) (by decide) rfl [1, 2, 0] (lu := [(0, .ref (ad 20)), (1, .ref (ad 69)), (2, .int (x2 + 1))]) rfl ?_
      refine g_goto X 10 (by decide) dX1_becomeCounted_36 ?_
      exact ih (x2 + 1) M4
set_option maxRecDepth 100000 in
set_option maxHeartbeats 4000000 in
theorem LLake_becomeCounted_2_L49 {l : Launch} {D : va_G} {cy : Nat → ClassId} {ad : Nat → Nat} {N : Mem} {p : Program} {e : Env} {s : State} {m : MethodId} {args : Array Value} {below : List Frame} {meth : Method} {c : Code} (X : Cx p s m args meth c cX1_becomeCounted 3 RX1 D cy ad (AA ad) (wfC N) sdC) (hr : meth.sig.returnType = none) (kx78 : Mem → Option Mem) (hkx78 : ∀ (M : Mem), GF p l e (Rm 3) s m args below meth c 3 D cy ad (AA ad) 0 0 (wfC N) (QM D cy ad (wfC N) below args s) finV (kx78 M) 78 [(0, .ref (ad 20)), (1, .ref (ad 69))] [] M) : ∀ (n : Nat) (x2 : Int32) (M : Mem), GF p l e (Rm 3) s m args below meth c 3 D cy ad (AA ad) 0 0 (wfC N) (QM D cy ad (wfC N) below args s) finV (fLake_becomeCounted_2_L49 kx78 n x2 M) 49 [(0, .ref (ad 20)), (1, .ref (ad 69)), (2, .int x2)] [] M := by
  intro n
  induction n with
  | zero => intro x2 M; exact g_none
  | succ n ih =>
    intro x2 M
    rw [fLake_becomeCounted_2_L49]
    refine g_iload_n X dX1_becomeCounted_49 2 rfl rfl ?_
    refine g_aload_n X dX1_becomeCounted_50 0 rfl rfl ?_
    refine get_1_3 X (k := 20) k_20 s_20 m_1_182 dX1_becomeCounted_51 ?_
    refine g_icmp_ge X 78 (by decide) dX1_becomeCounted_54 (fun q54 => ?_) (fun q54 => ?_)
    · refine g_sub (lu := [(0, .ref (ad 20)), (1, .ref (ad 69))]) [0, 1] rfl ?_
      exact hkx78 M
    · refine g_aload_n X dX1_becomeCounted_57 0 rfl rfl ?_
      refine get_1_2 X (k := 20) k_20 s_20 m_1_180 dX1_becomeCounted_58 ?_
      refine g_iload_n X dX1_becomeCounted_61 2 rfl rfl ?_
      refine g_aald25 X (k := 42) k_42 s_42 dX1_becomeCounted_62 (fun h7 => ?_)
      refine g_aload_n X dX1_becomeCounted_63 1 rfl rfl ?_
      refine get_1_2 X (k := 69) k_69 s_69 m_1_180 dX1_becomeCounted_64 ?_
      refine g_iload_n X dX1_becomeCounted_67 2 rfl rfl ?_
      refine g_aald25 X (k := 91) k_91 s_91 dX1_becomeCounted_68 (fun h8 => ?_)
      refine g_cv X (st := []) (fun _ hh => ok_V X (k0 := (ix x2) + 43) (As := [.ref (ad ((ix x2) + 92))]) wkX2_become (tLaw_become_2 M (ix x2) (ix x2) (inb_lt h7) (inb_lt h8) hh) rfl (kf_43 _ (inb_lt h7)) (sf_43 _ (inb_lt h7)) (by decide) rfl m_5_26 rfl (hRm (by decide) (by decide)) ⟨Nat.zero_le _, Nat.zero_le _⟩ (Nat.le_of_ble_eq_true rfl) dX1_becomeCounted_69) (fun M9 _ => ?_)
      refine g_iinc X (k := 2) (v := (x2 + 1)) dX1_becomeCounted_72 rfl (ii_1 _) (by decide) rfl [1, 2, 0] (lu := [(0, .ref (ad 20)), (1, .ref (ad 69)), (2, .int (x2 + 1))]) rfl ?_
      refine g_goto X 49 (by decide) dX1_becomeCounted_75 ?_
      exact ih (x2 + 1) M9
set_option maxRecDepth 100000 in
set_option maxHeartbeats 4000000 in
theorem LLake_becomeCounted_2_L88 {l : Launch} {D : va_G} {cy : Nat → ClassId} {ad : Nat → Nat} {N : Mem} {p : Program} {e : Env} {s : State} {m : MethodId} {args : Array Value} {below : List Frame} {meth : Method} {c : Code} (X : Cx p s m args meth c cX1_becomeCounted 3 RX1 D cy ad (AA ad) (wfC N) sdC) (hr : meth.sig.returnType = none) (kx117 : Mem → Option Mem) (hkx117 : ∀ (M : Mem), GF p l e (Rm 3) s m args below meth c 3 D cy ad (AA ad) 0 0 (wfC N) (QM D cy ad (wfC N) below args s) finV (kx117 M) 117 [(0, .ref (ad 20)), (1, .ref (ad 69))] [] M) : ∀ (n : Nat) (x2 : Int32) (M : Mem), GF p l e (Rm 3) s m args below meth c 3 D cy ad (AA ad) 0 0 (wfC N) (QM D cy ad (wfC N) below args s) finV (fLake_becomeCounted_2_L88 kx117 n x2 M) 88 [(0, .ref (ad 20)), (1, .ref (ad 69)), (2, .int x2)] [] M := by
  intro n
  induction n with
  | zero => intro x2 M; exact g_none
  | succ n ih =>
    intro x2 M
    rw [fLake_becomeCounted_2_L88]
    refine g_iload_n X dX1_becomeCounted_88 2 rfl rfl ?_
    refine g_aload_n X dX1_becomeCounted_89 0 rfl rfl ?_
    refine get_1_6 X (k := 20) k_20 s_20 m_1_189 dX1_becomeCounted_90 ?_
    refine g_icmp_ge X 117 (by decide) dX1_becomeCounted_93 (fun q93 => ?_) (fun q93 => ?_)
    · refine g_sub (lu := [(0, .ref (ad 20)), (1, .ref (ad 69))]) [0, 1] rfl ?_
      exact hkx117 M
    · refine g_aload_n X dX1_becomeCounted_96 0 rfl rfl ?_
      refine get_1_5 X (k := 20) k_20 s_20 m_1_186 dX1_becomeCounted_97 ?_
      refine g_iload_n X dX1_becomeCounted_100 2 rfl rfl ?_
      refine g_aald26 X (k := 57) k_57 s_57 dX1_becomeCounted_101 (fun h12 => ?_)
      refine g_aload_n X dX1_becomeCounted_102 1 rfl rfl ?_
      refine get_1_5 X (k := 69) k_69 s_69 m_1_186 dX1_becomeCounted_103 ?_
      refine g_iload_n X dX1_becomeCounted_106 2 rfl rfl ?_
      refine g_aald26 X (k := 106) k_106 s_106 dX1_becomeCounted_107 (fun h13 => ?_)
      refine g_cv X (st := []) (fun _ hh => ok_V X (k0 := (ix x2) + 58) (As := [.ref (ad ((ix x2) + 107))]) wkX3_become (tLeaper_become_2 M (ix x2) (ix x2) (inb_lt h12) (inb_lt h13) hh) rfl (kf_58 _ (inb_lt h12)) (sf_58 _ (inb_lt h12)) (by decide) rfl m_5_30 rfl (hRm (by decide) (by decide)) ⟨Nat.zero_le _, Nat.zero_le _⟩ (Nat.le_of_ble_eq_true rfl) dX1_becomeCounted_108) (fun M14 _ => ?_)
      refine g_iinc X (k := 2) (v := (x2 + 1)) dX1_becomeCounted_111 rfl (ii_1 _) (by decide) rfl [1, 2, 0] (lu := [(0, .ref (ad 20)), (1, .ref (ad 69)), (2, .int (x2 + 1))]) rfl ?_
      refine g_goto X 88 (by decide) dX1_becomeCounted_114 ?_
      exact ih (x2 + 1) M14
set_option maxRecDepth 100000 in
set_option maxHeartbeats 4000000 in
theorem tLake_becomeCounted_2 {l : Launch} {D : va_G} {cy : Nat → ClassId} {ad : Nat → Nat} {N : Mem} (M : Mem) {x : Mem} (h : fLake_becomeCounted_2 M = some x) : Mt l D cy ad yX1_becomeCounted cX1_becomeCounted 3 none 3 [.ref (ad 20), .ref (ad 69)] ((wfC N) M) (none, (wfC N) x) := by
  refine met_of (fin := finV) (lv0 := [(0, .ref (ad 20)), (1, .ref (ad 69))]) (by decide) (Nat.le_of_ble_eq_true rfl) rfl (lC N) h (fun p e s m args below meth c X hr => ?_)
  unfold fLake_becomeCounted_2
  refine g_aload_n X dX1_becomeCounted_0 0 rfl rfl ?_
  refine g_aload_n X dX1_becomeCounted_1 1 rfl rfl ?_
  refine get_1_1 X (k := 69) k_69 s_69 m_1_178 dX1_becomeCounted_2 ?_
  refine put_1_1 X (k := 20) k_20 s_20 m_1_178 dX1_becomeCounted_5 ?_
  refine g_mlet X (fun M1 => ?_)
  refine g_iconst X dX1_becomeCounted_8 ic_0 ?_
  refine g_istore_n X dX1_becomeCounted_9 rfl (by decide) rfl [1, 2, 0] (lu := [(0, .ref (ad 20)), (1, .ref (ad 69)), (2, .int 0)]) rfl ?_
  refine LLake_becomeCounted_2_L10  X hr   _ (fun M5 => ?_) FU 0 M1
  · refine g_aload_n X dX1_becomeCounted_39 0 rfl rfl ?_
    refine g_aload_n X dX1_becomeCounted_40 1 rfl rfl ?_
    refine get_1_3 X (k := 69) k_69 s_69 m_1_182 dX1_becomeCounted_41 ?_
    refine put_1_3 X (k := 20) k_20 s_20 m_1_182 dX1_becomeCounted_44 ?_
    refine g_mlet X (fun M6 => ?_)
    refine g_iconst X dX1_becomeCounted_47 ic_0 ?_
    refine g_istore_n X dX1_becomeCounted_48 rfl (by decide) rfl [1, 2, 0] (lu := [(0, .ref (ad 20)), (1, .ref (ad 69)), (2, .int 0)]) rfl ?_
    refine LLake_becomeCounted_2_L49  X hr   _ (fun M10 => ?_) FU 0 M6
    · refine g_aload_n X dX1_becomeCounted_78 0 rfl rfl ?_
      refine g_aload_n X dX1_becomeCounted_79 1 rfl rfl ?_
      refine get_1_6 X (k := 69) k_69 s_69 m_1_189 dX1_becomeCounted_80 ?_
      refine put_1_6 X (k := 20) k_20 s_20 m_1_189 dX1_becomeCounted_83 ?_
      refine g_mlet X (fun M11 => ?_)
      refine g_iconst X dX1_becomeCounted_86 ic_0 ?_
      refine g_istore_n X dX1_becomeCounted_87 rfl (by decide) rfl [1, 2, 0] (lu := [(0, .ref (ad 20)), (1, .ref (ad 69)), (2, .int 0)]) rfl ?_
      refine LLake_becomeCounted_2_L88  X hr   _ (fun M15 => ?_) FU 0 M11
      · refine g_aload_n X dX1_becomeCounted_117 0 rfl rfl ?_
        refine g_aload_n X dX1_becomeCounted_118 1 rfl rfl ?_
        refine get_1_9 X (k := 69) k_69 s_69 m_1_195 dX1_becomeCounted_119 ?_
        refine put_1_9 X (k := 20) k_20 s_20 m_1_195 dX1_becomeCounted_122 ?_
        refine g_mlet X (fun M16 => ?_)
        refine g_aload_n X dX1_becomeCounted_125 1 rfl rfl ?_
        refine get_1_7 X (k := 69) k_69 s_69 m_1_191 dX1_becomeCounted_126 ?_
        refine g_iconst X dX1_becomeCounted_129 ic_0 ?_
        refine g_aload_n X dX1_becomeCounted_130 0 rfl rfl ?_
        refine get_1_7 X (k := 20) k_20 s_20 m_1_191 dX1_becomeCounted_131 ?_
        refine g_iconst X dX1_becomeCounted_134 ic_0 ?_
        refine g_bipush X dX1_becomeCounted_135 bi_10 ?_
        refine g_cpI X (k0 := 113) (k := 64) (n0 := 10) (n1 := 10) k_113 s_113 k_64 s_64 m_5_34 (hR2 (by decide) (Nat.le_of_ble_eq_true rfl)) dX1_becomeCounted_137 (fun _ => ?_)
        refine g_mlet X (fun M17 => ?_)
        refine g_aload_n X dX1_becomeCounted_140 1 rfl rfl ?_
        refine get_1_8 X (k := 69) k_69 s_69 m_1_193 dX1_becomeCounted_141 ?_
        refine g_iconst X dX1_becomeCounted_144 ic_0 ?_
        refine g_aload_n X dX1_becomeCounted_145 0 rfl rfl ?_
        refine get_1_8 X (k := 20) k_20 s_20 m_1_193 dX1_becomeCounted_146 ?_
        refine g_iconst X dX1_becomeCounted_149 ic_0 ?_
        refine g_bipush X dX1_becomeCounted_150 bi_10 ?_
        refine g_cpI X (k0 := 114) (k := 65) (n0 := 10) (n1 := 10) k_114 s_114 k_65 s_65 m_5_34 (hR2 (by decide) (Nat.le_of_ble_eq_true rfl)) dX1_becomeCounted_152 (fun _ => ?_)
        refine g_mlet X (fun M18 => ?_)
        exact g_vret X hr rfl dX1_becomeCounted_155
set_option maxRecDepth 100000 in
set_option maxHeartbeats 4000000 in
theorem tVoyage_become_2 {l : Launch} {D : va_G} {cy : Nat → ClassId} {ad : Nat → Nat} {N : Mem} (M : Mem) {x : Mem} (h : fVoyage_become_2 M = some x) : Mt l D cy ad yX9_become cX9_become 2 none 2 [.ref (ad 67), .ref (ad 116)] ((wfC N) M) (none, (wfC N) x) := by
  refine met_of (fin := finV) (lv0 := [(0, .ref (ad 67)), (1, .ref (ad 116))]) (by decide) (Nat.le_of_ble_eq_true rfl) rfl (lC N) h (fun p e s m args below meth c X hr => ?_)
  unfold fVoyage_become_2
  refine g_aload_n X dX9_become_0 0 rfl rfl ?_
  refine g_aload_n X dX9_become_1 1 rfl rfl ?_
  refine get_9_0 X (k := 116) k_116 s_116 m_1_66 dX9_become_2 ?_
  refine put_9_0 X (k := 67) k_67 s_67 m_1_66 dX9_become_5 ?_
  refine g_mlet X (fun M1 => ?_)
  refine g_aload_n X dX9_become_8 0 rfl rfl ?_
  refine g_aload_n X dX9_become_9 1 rfl rfl ?_
  refine get_9_2 X (k := 116) k_116 s_116 m_1_71 dX9_become_10 ?_
  refine put_9_2 X (k := 67) k_67 s_67 m_1_71 dX9_become_13 ?_
  refine g_mlet X (fun M2 => ?_)
  refine g_aload_n X dX9_become_16 1 rfl rfl ?_
  refine get_9_1 X (k := 116) k_116 s_116 m_1_69 dX9_become_17 ?_
  refine g_iconst X dX9_become_20 ic_0 ?_
  refine g_aload_n X dX9_become_21 0 rfl rfl ?_
  refine get_9_1 X (k := 67) k_67 s_67 m_1_69 dX9_become_22 ?_
  refine g_iconst X dX9_become_25 ic_0 ?_
  refine g_bipush X dX9_become_26 bi_20 ?_
  refine g_cpI X (k0 := 117) (k := 68) (n0 := 20) (n1 := 20) k_117 s_117 k_68 s_68 m_4_223 (hR2 (by decide) (Nat.le_of_ble_eq_true rfl)) dX9_become_28 (fun _ => ?_)
  refine g_mlet X (fun M3 => ?_)
  refine g_aload_n X dX9_become_31 0 rfl rfl ?_
  refine g_aload_n X dX9_become_32 1 rfl rfl ?_
  refine get_9_3 X (k := 116) k_116 s_116 m_1_72 dX9_become_33 ?_
  refine put_9_3 X (k := 67) k_67 s_67 m_1_72 dX9_become_36 ?_
  refine g_mlet X (fun M4 => ?_)
  refine g_aload_n X dX9_become_39 0 rfl rfl ?_
  refine g_aload_n X dX9_become_40 1 rfl rfl ?_
  refine get_9_4 X (k := 116) k_116 s_116 m_1_74 dX9_become_41 ?_
  refine put_9_4 X (k := 67) k_67 s_67 m_1_74 dX9_become_44 ?_
  refine g_mlet X (fun M5 => ?_)
  refine g_aload_n X dX9_become_47 0 rfl rfl ?_
  refine g_aload_n X dX9_become_48 1 rfl rfl ?_
  refine get_9_5 X (k := 116) k_116 s_116 m_1_77 dX9_become_49 ?_
  refine put_9_5 X (k := 67) k_67 s_67 m_1_77 dX9_become_52 ?_
  refine g_mlet X (fun M6 => ?_)
  refine g_aload_n X dX9_become_55 0 rfl rfl ?_
  refine g_aload_n X dX9_become_56 1 rfl rfl ?_
  refine get_9_6 X (k := 116) k_116 s_116 m_1_80 dX9_become_57 ?_
  refine put_9_6 X (k := 67) k_67 s_67 m_1_80 dX9_become_60 ?_
  refine g_mlet X (fun M7 => ?_)
  refine g_aload_n X dX9_become_63 0 rfl rfl ?_
  refine g_aload_n X dX9_become_64 1 rfl rfl ?_
  refine get_9_7 X (k := 116) k_116 s_116 m_1_83 dX9_become_65 ?_
  refine put_9_7 X (k := 67) k_67 s_67 m_1_83 dX9_become_68 ?_
  refine g_mlet X (fun M8 => ?_)
  exact g_vret X hr rfl dX9_become_71
set_option maxRecDepth 100000 in
set_option maxHeartbeats 4000000 in
theorem tLake_become_2 {l : Launch} {D : va_G} {cy : Nat → ClassId} {ad : Nat → Nat} {N : Mem} (M : Mem) {x : Mem} (h : fLake_become_2 M = some x) : Mt l D cy ad yX1_become cX1_become 2 none 4 [.ref (ad 20), .ref (ad 69)] ((wfC N) M) (none, (wfC N) x) := by
  refine met_of (fin := finV) (lv0 := [(0, .ref (ad 20)), (1, .ref (ad 69))]) (by decide) (Nat.le_of_ble_eq_true rfl) rfl (lC N) h (fun p e s m args below meth c X hr => ?_)
  unfold fLake_become_2
  refine g_aload_n X dX1_become_0 0 rfl rfl ?_
  refine g_aload_n X dX1_become_1 1 rfl rfl ?_
  refine g_cv X (st := []) (fun _ hh => ok_V X (k0 := 20) (As := [.ref (ad 69)]) wkX1_becomeCounted (tLake_becomeCounted_2 M hh) rfl k_20 s_20 (by decide) rfl m_5_17 rfl (hRm (by decide) (by decide)) ⟨Nat.zero_le _, Nat.zero_le _⟩ (Nat.le_of_ble_eq_true rfl) dX1_become_2) (fun M1 _ => ?_)
  refine g_aload_n X dX1_become_5 1 rfl rfl ?_
  refine get_1_10 X (k := 69) k_69 s_69 m_1_197 dX1_become_6 ?_
  refine g_iconst X dX1_become_9 ic_0 ?_
  refine g_aload_n X dX1_become_10 0 rfl rfl ?_
  refine get_1_10 X (k := 20) k_20 s_20 m_1_197 dX1_become_11 ?_
  refine g_iconst X dX1_become_14 ic_0 ?_
  refine g_bipush X dX1_become_15 bi_12 ?_
  refine g_cpI X (k0 := 115) (k := 66) (n0 := 12) (n1 := 12) k_115 s_115 k_66 s_66 m_5_34 (hR2 (by decide) (Nat.le_of_ble_eq_true rfl)) dX1_become_17 (fun _ => ?_)
  refine g_mlet X (fun M2 => ?_)
  refine g_aload_n X dX1_become_20 0 rfl rfl ?_
  refine g_aload_n X dX1_become_21 1 rfl rfl ?_
  refine get_1_4 X (k := 69) k_69 s_69 m_1_184 dX1_become_22 ?_
  refine put_1_4 X (k := 20) k_20 s_20 m_1_184 dX1_become_25 ?_
  refine g_mlet X (fun M3 => ?_)
  refine g_aload_n X dX1_become_28 0 rfl rfl ?_
  refine g_aload_n X dX1_become_29 1 rfl rfl ?_
  refine get_1_11 X (k := 69) k_69 s_69 m_1_199 dX1_become_30 ?_
  refine put_1_11 X (k := 20) k_20 s_20 m_1_199 dX1_become_33 ?_
  refine g_mlet X (fun M4 => ?_)
  refine g_aload_n X dX1_become_36 0 rfl rfl ?_
  refine g_aload_n X dX1_become_37 1 rfl rfl ?_
  refine get_1_12 X (k := 69) k_69 s_69 m_1_201 dX1_become_38 ?_
  refine put_1_12 X (k := 20) k_20 s_20 m_1_201 dX1_become_41 ?_
  refine g_mlet X (fun M5 => ?_)
  refine g_aload_n X dX1_become_44 0 rfl rfl ?_
  refine g_aload_n X dX1_become_45 1 rfl rfl ?_
  refine get_1_13 X (k := 69) k_69 s_69 m_1_205 dX1_become_46 ?_
  refine put_1_13 X (k := 20) k_20 s_20 m_1_205 dX1_become_49 ?_
  refine g_mlet X (fun M6 => ?_)
  refine g_aload_n X dX1_become_52 0 rfl rfl ?_
  refine g_aload_n X dX1_become_53 1 rfl rfl ?_
  refine get_1_14 X (k := 69) k_69 s_69 m_1_207 dX1_become_54 ?_
  refine put_1_14 X (k := 20) k_20 s_20 m_1_207 dX1_become_57 ?_
  refine g_mlet X (fun M7 => ?_)
  refine g_aload_n X dX1_become_60 0 rfl rfl ?_
  refine get_1_15 X (k := 20) k_20 s_20 m_1_209 dX1_become_61 ?_
  refine g_aload_n X dX1_become_64 1 rfl rfl ?_
  refine get_1_15 X (k := 69) k_69 s_69 m_1_209 dX1_become_65 ?_
  refine g_cv X (st := []) (fun _ hh => ok_V X (k0 := 67) (As := [.ref (ad 116)]) wkX9_become (tVoyage_become_2 M7 hh) rfl k_67 s_67 (by decide) rfl m_5_35 rfl (hRm (by decide) (by decide)) ⟨Nat.zero_le _, Nat.zero_le _⟩ (Nat.le_of_ble_eq_true rfl) dX1_become_68) (fun M8 _ => ?_)
  exact g_vret X hr rfl dX1_become_71
set_option maxRecDepth 100000 in
set_option maxHeartbeats 4000000 in
theorem Lc_back_L27 {l : Launch} {D : va_G} {cy : Nat → ClassId} {ad : Nat → Nat} {N : Mem} {p : Program} {e : Env} {s : State} {m : MethodId} {args : Array Value} {below : List Frame} {meth : Method} {c : Code} (X : Cx p s m args meth c cX10_back 2 RX10 D cy ad (AA ad) (wfC N) sdC) (hr : meth.sig.returnType = (some .int)) : ∀ (n : Nat) (x1 : Int32) (M : Mem), GF p l e (Rm 5) s m args below meth c 2 D cy ad (AA ad) 0 0 (wfC N) (QM D cy ad (wfC N) below args s) finS (fc_back_L27 n x1 M) 27 [(0, .ref (ad 0)), (1, .int x1)] [] M := by
  intro n
  induction n with
  | zero => intro x1 M; exact g_none
  | succ n ih =>
    intro x1 M
    rw [fc_back_L27]
    refine g_iload_n X dX10_back_27 1 rfl rfl ?_
    refine g_bipush X dX10_back_28 bi_8 ?_
    refine g_icmp_ge X 68 (by decide) dX10_back_30 (fun q30 => ?_) (fun q30 => ?_)
    · refine g_iconst X dX10_back_68 ic_1 ?_
      exact g_iret X hr rfl dX10_back_69
    · refine g_aload_n X dX10_back_33 0 rfl rfl ?_
      refine get_10_0 X (k := 0) k_0 s_0 m_2_126 dX10_back_34 ?_
      refine g_iload_n X dX10_back_37 1 rfl rfl ?_
      refine g_aald27 X (k := 1) k_1 s_1 dX10_back_38 (fun h2 => ?_)
      refine get_5_2 X (k := (ix x1) + 2) (kf_2 _ (inb_lt h2)) (sf_2 _ (inb_lt h2)) m_2_113 dX10_back_39 ?_
      refine g_aload_n X dX10_back_42 0 rfl rfl ?_
      refine get_10_2 X (k := 0) k_0 s_0 m_2_128 dX10_back_43 ?_
      refine get_1_1 X (k := 20) k_20 s_20 m_1_179 dX10_back_46 ?_
      refine g_jlet X 62 (fun z62 : Mem => [(0, .ref (ad 0)), (1, .int x1)]) (fun z62 : Mem => []) (fun z62 : Mem => z62) (fun z62 => ?_) (fun J62 hJ62 => ?_)
      · show GF _ _ _ _ _ _ _ _ _ _ _ _ _ _ _ _ _ _ _ _ _ 62 [(0, .ref (ad 0)), (1, .int x1)] [] z62
        refine g_iinc X (k := 1) (v := (x1 + 1)) dX10_back_62 rfl (ii_1 _) (by decide) rfl [1, 0] (lu := [(0, .ref (ad 0)), (1, .int (x1 + 1))]) rfl ?_
        refine g_goto X 27 (by decide) dX10_back_65 ?_
        exact ih (x1 + 1) z62
      refine g_icmp_lt X 62 (by decide) dX10_back_49 (fun q49 => ?_) (fun q49 => ?_)
      · exact hJ62 M
      · refine g_aload_n X dX10_back_52 0 rfl rfl ?_
        refine get_10_0 X (k := 0) k_0 s_0 m_2_126 dX10_back_53 ?_
        refine g_iload_n X dX10_back_56 1 rfl rfl ?_
        refine g_aald27 X (k := 1) k_1 s_1 dX10_back_57 (fun h3 => ?_)
        refine g_iconst X dX10_back_58 ic_m1 ?_
        refine g_cv X (st := []) (fun _ hh => ok_V X (k0 := (ix x1) + 2) (As := [.int (-1)]) wkX5_takeJetty (tShelf_takeJetty M (ix x1) (-1) (inb_lt h3) hh) rfl (kf_2 _ (inb_lt h3)) (sf_2 _ (inb_lt h3)) (by decide) rfl m_2_231 rfl (hRm (by decide) (by decide)) ⟨Nat.zero_le _, Nat.zero_le _⟩ (Nat.le_of_ble_eq_true rfl) dX10_back_59) (fun M4 _ => ?_)
        exact hJ62 M4
set_option maxRecDepth 100000 in
set_option maxHeartbeats 4000000 in
theorem tc_back {l : Launch} {D : va_G} {cy : Nat → ClassId} {ad : Nat → Nat} {N : Mem} (M : Mem) {x : (Int32 × Mem)} (h : fc_back M = some x) : Mt l D cy ad yX10_back cX10_back 2 (some .int) 5 [.ref (ad 0)] ((wfC N) M) (some (.int x.1), (wfC N) x.2) := by
  refine met_of (fin := finS) (lv0 := [(0, .ref (ad 0))]) (by decide) (Nat.le_of_ble_eq_true rfl) rfl (lC N) h (fun p e s m args below meth c X hr => ?_)
  unfold fc_back
  refine g_aload_n X dX10_back_0 0 rfl rfl ?_
  refine get_10_4 X (k := 0) k_0 s_0 m_2_130 dX10_back_1 ?_
  refine g_if_ne X 14 (by decide) dX10_back_4 (fun q4 => ?_) (fun q4 => ?_)
  · refine g_aload_n X dX10_back_14 0 rfl rfl ?_
    refine get_10_2 X (k := 0) k_0 s_0 m_2_128 dX10_back_15 ?_
    refine g_aload_n X dX10_back_18 0 rfl rfl ?_
    refine get_10_3 X (k := 0) k_0 s_0 m_2_129 dX10_back_19 ?_
    refine g_cv X (st := []) (fun _ hh => ok_V X (k0 := 20) (As := [.ref (ad 69)]) wkX1_become (tLake_become_2 M hh) rfl k_20 s_20 (by decide) rfl m_5_13 rfl (hRm (by decide) (by decide)) ⟨Nat.zero_le _, Nat.zero_le _⟩ (Nat.le_of_ble_eq_true rfl) dX10_back_22) (fun M1 _ => ?_)
    refine g_iconst X dX10_back_25 ic_0 ?_
    refine g_istore_n X dX10_back_26 rfl (by decide) rfl [1, 0] (lu := [(0, .ref (ad 0)), (1, .int 0)]) rfl ?_
    exact Lc_back_L27  X hr     FU 0 M1
  · refine g_aload_n X dX10_back_7 0 rfl rfl ?_
    refine g_bipush X dX10_back_8 bi_m5 ?_
    refine g_cs X (st := []) (fun _ hh => ok_V X (k0 := 0) (As := [.int (-5)]) wkX10_refuse (tc_refuse M (-5) hh) rfl k_0 s_0 (by decide) rfl m_2_173 rfl (hRm (by decide) (by decide)) ⟨Nat.zero_le _, Nat.zero_le _⟩ (Nat.le_of_ble_eq_true rfl) dX10_back_10) (fun r6 M5 _ => ?_)
    exact g_iret X hr rfl dX10_back_13
set_option maxRecDepth 100000 in
set_option maxHeartbeats 4000000 in
theorem Lc_shelvesInUse_L4 {l : Launch} {D : va_G} {cy : Nat → ClassId} {ad : Nat → Nat} {N : Mem} {p : Program} {e : Env} {s : State} {m : MethodId} {args : Array Value} {below : List Frame} {meth : Method} {c : Code} (X : Cx p s m args meth c cX10_shelvesInUse 3 RX10 D cy ad (AA ad) (wfC N) sdC) (hr : meth.sig.returnType = (some .int)) (M : Mem) : ∀ (n : Nat) (x1 : Int32) (x2 : Int32), GF p l e (Rm 2) s m args below meth c 3 D cy ad (AA ad) 0 0 (wfC N) (QM D cy ad (wfC N) below args s) (finI M) (fc_shelvesInUse_L4 M n x1 x2) 4 [(0, .ref (ad 0)), (1, .int x1), (2, .int x2)] [] M := by
  intro n
  induction n with
  | zero => intro x1 x2; exact g_none
  | succ n ih =>
    intro x1 x2
    rw [fc_shelvesInUse_L4]
    refine g_iload_n X dX10_shelvesInUse_4 2 rfl rfl ?_
    refine g_bipush X dX10_shelvesInUse_5 bi_8 ?_
    refine g_icmp_ge X 39 (by decide) dX10_shelvesInUse_7 (fun q7 => ?_) (fun q7 => ?_)
    · refine g_iload_n X dX10_shelvesInUse_39 1 rfl rfl ?_
      exact g_iret X hr rfl dX10_shelvesInUse_40
    · refine g_iload_n X dX10_shelvesInUse_10 1 rfl rfl ?_
      refine g_aload_n X dX10_shelvesInUse_11 0 rfl rfl ?_
      refine get_10_0 X (k := 0) k_0 s_0 m_2_126 dX10_shelvesInUse_12 ?_
      refine g_iload_n X dX10_shelvesInUse_15 2 rfl rfl ?_
      refine g_aald27 X (k := 1) k_1 s_1 dX10_shelvesInUse_16 (fun h1 => ?_)
      refine g_ct X (v0 := .int (fShelf_isEmptyT M (ix x2))) (st := [.int x1]) (ok_V X (k0 := (ix x2) + 2) (As := []) wkX5_isEmpty (tShelf_isEmptyT M (ix x2) (inb_lt h1)) rfl (kf_2 _ (inb_lt h1)) (sf_2 _ (inb_lt h1)) (by decide) rfl m_2_189 rfl (hRm (by decide) (by decide)) ⟨Nat.zero_le _, Nat.zero_le _⟩ (Nat.le_of_ble_eq_true rfl) dX10_shelvesInUse_17) ?_
      refine g_jlet X 28 (fun z28 : Int32 => [(0, .ref (ad 0)), (2, .int x2)]) (fun z28 : Int32 => [.int z28, .int x1]) (fun z28 : Int32 => M) (fun z28 => ?_) (fun J28 hJ28 => ?_)
      · show GF _ _ _ _ _ _ _ _ _ _ _ _ _ _ _ _ _ _ _ _ _ 28 [(0, .ref (ad 0)), (2, .int x2)] [.int z28, .int x1] M
        refine g_ct X (v0 := .int (fc_toNumberT M z28)) (st := [.int x1]) (ok_S X (As := [.int z28]) wkX10_toNumber (tc_toNumberT M z28) rfl m_3_21 rfl (hRm (by decide) (by decide)) ⟨Nat.zero_le _, Nat.zero_le _⟩ (Nat.le_of_ble_eq_true rfl) dX10_shelvesInUse_28) ?_
        refine g_iadd X dX10_shelvesInUse_31 ?_
        refine g_ilet X (fun v2 => ?_)
        refine g_istore_n X dX10_shelvesInUse_32 rfl (by decide) rfl [1, 0, 2] (lu := [(0, .ref (ad 0)), (1, .int v2), (2, .int x2)]) rfl ?_
        refine g_iinc X (k := 2) (v := (x2 + 1)) dX10_shelvesInUse_33 rfl (ii_1 _) (by decide) rfl [1, 2, 0] (lu := [(0, .ref (ad 0)), (1, .int v2), (2, .int (x2 + 1))]) rfl ?_
        refine g_goto X 4 (by decide) dX10_shelvesInUse_36 ?_
        exact ih v2 (x2 + 1)
      refine g_if_ne X 27 (by decide) dX10_shelvesInUse_20 (fun q20 => ?_) (fun q20 => ?_)
      · refine g_iconst X dX10_shelvesInUse_27 ic_0 ?_
        refine g_sub (lu := [(0, .ref (ad 0)), (2, .int x2)]) [0, 2] rfl ?_
        exact hJ28 0
      · refine g_iconst X dX10_shelvesInUse_23 ic_1 ?_
        refine g_goto X 28 (by decide) dX10_shelvesInUse_24 ?_
        refine g_sub (lu := [(0, .ref (ad 0)), (2, .int x2)]) [0, 2] rfl ?_
        exact hJ28 1
set_option maxRecDepth 100000 in
set_option maxHeartbeats 4000000 in
theorem tc_shelvesInUse {l : Launch} {D : va_G} {cy : Nat → ClassId} {ad : Nat → Nat} {N : Mem} (M : Mem) {x : Int32} (h : fc_shelvesInUse M = some x) : Mt l D cy ad yX10_shelvesInUse cX10_shelvesInUse 3 (some .int) 2 [.ref (ad 0)] ((wfC N) M) (some (.int x), (wfC N) M) := by
  refine met_of (fin := (finI M)) (lv0 := [(0, .ref (ad 0))]) (by decide) (Nat.le_of_ble_eq_true rfl) rfl (lC N) h (fun p e s m args below meth c X hr => ?_)
  unfold fc_shelvesInUse
  refine g_iconst X dX10_shelvesInUse_0 ic_0 ?_
  refine g_istore_n X dX10_shelvesInUse_1 rfl (by decide) rfl [1, 0] (lu := [(0, .ref (ad 0)), (1, .int 0)]) rfl ?_
  refine g_iconst X dX10_shelvesInUse_2 ic_0 ?_
  refine g_istore_n X dX10_shelvesInUse_3 rfl (by decide) rfl [1, 2, 0] (lu := [(0, .ref (ad 0)), (1, .int 0), (2, .int 0)]) rfl ?_
  exact Lc_shelvesInUse_L4  X hr M    FU 0 0
