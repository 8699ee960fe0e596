set_option maxRecDepth 100000 in
set_option maxHeartbeats 4000000 in
theorem Lm_move_9_L3 {l : Launch} {D : va_G} {cy : Nat → ClassId} {ad : Nat → Nat} {N : Mem} {p : Program} {e : Env} {s : State} {m : MethodId} {args : Array Value} {below : List Frame} {meth : Method} {c : Code} (X : Cx p s m args meth c cX11_move 5 RX11 D cy ad (AA ad) (wfM N) sdM) (hr : meth.sig.returnType = (some .int)) (b2 : Int32) (b3 : Int32) (kx49 : Mem → Option (Int32 × Mem)) (hkx49 : ∀ (M : Mem), GF p l e (Rm 1) s m args below meth c 5 D cy ad (AA ad) 0 0 (wfM N) (QM D cy ad (wfM N) below args s) finS (kx49 M) 49 [(1, .ref (ad 148)), (2, .int b2)] [] M) : ∀ (n : Nat) (x4 : Int32) (M : Mem), GF p l e (Rm 1) s m args below meth c 5 D cy ad (AA ad) 0 0 (wfM N) (QM D cy ad (wfM N) below args s) finS (fm_move_9_L3 b2 b3 kx49 n x4 M) 3 [(0, .ref (ad 138)), (1, .ref (ad 148)), (2, .int b2), (3, .int b3), (4, .int x4)] [] M := by
  intro n
  induction n with
  | zero => intro x4 M; exact g_none
  | succ n ih =>
    intro x4 M
    rw [fm_move_9_L3]
    refine g_iload X dX11_move_3 4 rfl ?_
    refine g_aload_n X dX11_move_5 1 rfl rfl ?_
    refine g_alenI X (n := 54) (k := 148) (v0 := 54) rfl k_148 s_148 dX11_move_6 ?_
    refine g_icmp_ge X 49 (by decide) dX11_move_7 (fun q7 => ?_) (fun q7 => ?_)
    · refine g_sub (lu := [(1, .ref (ad 148)), (2, .int b2)]) [1, 2] rfl ?_
      exact hkx49 M
    · refine g_iload_n X dX11_move_10 3 rfl rfl ?_
      refine g_jlet X 43 (fun z43 : Mem => [(0, .ref (ad 138)), (1, .ref (ad 148)), (2, .int b2), (3, .int b3), (4, .int x4)]) (fun z43 : Mem => []) (fun z43 : Mem => z43) (fun z43 => ?_) (fun J43 hJ43 => ?_)
      · show GF _ _ _ _ _ _ _ _ _ _ _ _ _ _ _ _ _ _ _ _ _ 43 [(0, .ref (ad 138)), (1, .ref (ad 148)), (2, .int b2), (3, .int b3), (4, .int x4)] [] z43
        refine g_iinc X (k := 4) (v := (x4 + 1)) dX11_move_43 rfl (ii_1 _) (by decide) rfl [1, 2, 3, 4, 0] (lu := [(0, .ref (ad 138)), (1, .ref (ad 148)), (2, .int b2), (3, .int b3), (4, .int (x4 + 1))]) rfl ?_
        refine g_goto X 3 (by decide) dX11_move_46 ?_
        exact ih (x4 + 1) z43
      refine g_if_eq X 30 (by decide) dX11_move_11 (fun q11 => ?_) (fun q11 => ?_)
      · refine g_aload_n X dX11_move_30 1 rfl rfl ?_
        refine g_iload X dX11_move_31 4 rfl ?_
        refine g_aload_n X dX11_move_33 0 rfl rfl ?_
        refine get_11_22 X (k := 138) k_138 s_138 m_5_79 dX11_move_34 ?_
        refine g_iload_n X dX11_move_37 2 rfl rfl ?_
        refine g_iload X dX11_move_38 4 rfl ?_
        refine g_iadd X dX11_move_40 ?_
        refine g_iald X (n := 300) (k := 159) k_159 s_159 dX11_move_41 (fun h1 => ?_)
        refine g_iast X (n := 54) (k := 148) k_148 s_148 dX11_move_42 (fun h2 => ?_)
        refine g_mlet X (fun M3 => ?_)
        exact hJ43 M3
      · refine g_aload_n X dX11_move_14 0 rfl rfl ?_
        refine get_11_22 X (k := 138) k_138 s_138 m_5_79 dX11_move_15 ?_
        refine g_iload_n X dX11_move_18 2 rfl rfl ?_
        refine g_iload X dX11_move_19 4 rfl ?_
        refine g_iadd X dX11_move_21 ?_
        refine g_aload_n X dX11_move_22 1 rfl rfl ?_
        refine g_iload X dX11_move_23 4 rfl ?_
        refine g_iald X (n := 54) (k := 148) k_148 s_148 dX11_move_25 (fun h4 => ?_)
        refine g_iast X (n := 300) (k := 159) k_159 s_159 dX11_move_26 (fun h5 => ?_)
        refine g_mlet X (fun M6 => ?_)
        refine g_goto X 43 (by decide) dX11_move_27 ?_
        exact hJ43 M6
set_option maxRecDepth 100000 in
set_option maxHeartbeats 4000000 in
theorem tm_move_9 {l : Launch} {D : va_G} {cy : Nat → ClassId} {ad : Nat → Nat} {N : Mem} (M : Mem) (a2 : Int32) (a3 : Int32) {x : (Int32 × Mem)} (h : fm_move_9 M a2 a3 = some x) : Mt l D cy ad yX11_move cX11_move 5 (some .int) 1 [.ref (ad 138), .ref (ad 148), .int a2, .int a3] ((wfM N) M) (some (.int x.1), (wfM N) x.2) := by
  refine met_of (fin := finS) (lv0 := [(0, .ref (ad 138)), (1, .ref (ad 148)), (2, .int a2), (3, .int a3)]) (by decide) (Nat.le_of_ble_eq_true rfl) rfl (lM N) h (fun p e s m args below meth c X hr => ?_)
  unfold fm_move_9
  refine g_iconst X dX11_move_0 ic_0 ?_
  refine g_istore X dX11_move_1 (by decide) rfl [1, 2, 3, 4, 0] (lu := [(0, .ref (ad 138)), (1, .ref (ad 148)), (2, .int a2), (3, .int a3), (4, .int 0)]) rfl ?_
  refine Lm_move_9_L3  X hr a2 a3  _ (fun M7 => ?_) FU 0 M
  · refine g_iload_n X dX11_move_49 1 rfl rfl ?_
    refine g_aload_n X dX11_move_50 0 rfl rfl ?_
    refine g_alenI X (n := 54) (k := 148) (v0 := 54) rfl k_148 s_148 dX11_move_51 ?_
    refine g_iadd X dX11_move_52 ?_
    exact g_iret X hr rfl dX11_move_53
set_option maxRecDepth 100000 in
set_option maxHeartbeats 4000000 in
theorem Lm_move_10_L3 {l : Launch} {D : va_G} {cy : Nat → ClassId} {ad : Nat → Nat} {N : Mem} {p : Program} {e : Env} {s : State} {m : MethodId} {args : Array Value} {below : List Frame} {meth : Method} {c : Code} (X : Cx p s m args meth c cX11_move 5 RX11 D cy ad (AA ad) (wfM N) sdM) (hr : meth.sig.returnType = (some .int)) (b2 : Int32) (b3 : Int32) (kx49 : Mem → Option (Int32 × Mem)) (hkx49 : ∀ (M : Mem), GF p l e (Rm 1) s m args below meth c 5 D cy ad (AA ad) 0 0 (wfM N) (QM D cy ad (wfM N) below args s) finS (kx49 M) 49 [(1, .ref (ad 149)), (2, .int b2)] [] M) : ∀ (n : Nat) (x4 : Int32) (M : Mem), GF p l e (Rm 1) s m args below meth c 5 D cy ad (AA ad) 0 0 (wfM N) (QM D cy ad (wfM N) below args s) finS (fm_move_10_L3 b2 b3 kx49 n x4 M) 3 [(0, .ref (ad 138)), (1, .ref (ad 149)), (2, .int b2), (3, .int b3), (4, .int x4)] [] M := by
  intro n
  induction n with
  | zero => intro x4 M; exact g_none
  | succ n ih =>
    intro x4 M
    rw [fm_move_10_L3]
    refine g_iload X dX11_move_3 4 rfl ?_
    refine g_aload_n X dX11_move_5 1 rfl rfl ?_
    refine g_alenI X (n := 6) (k := 149) (v0 := 6) rfl k_149 s_149 dX11_move_6 ?_
    refine g_icmp_ge X 49 (by decide) dX11_move_7 (fun q7 => ?_) (fun q7 => ?_)
    · refine g_sub (lu := [(1, .ref (ad 149)), (2, .int b2)]) [1, 2] rfl ?_
      exact hkx49 M
    · refine g_iload_n X dX11_move_10 3 rfl rfl ?_
      refine g_jlet X 43 (fun z43 : Mem => [(0, .ref (ad 138)), (1, .ref (ad 149)), (2, .int b2), (3, .int b3), (4, .int x4)]) (fun z43 : Mem => []) (fun z43 : Mem => z43) (fun z43 => ?_) (fun J43 hJ43 => ?_)
      · show GF _ _ _ _ _ _ _ _ _ _ _ _ _ _ _ _ _ _ _ _ _ 43 [(0, .ref (ad 138)), (1, .ref (ad 149)), (2, .int b2), (3, .int b3), (4, .int x4)] [] z43
        refine g_iinc X (k := 4) (v := (x4 + 1)) dX11_move_43 rfl (ii_1 _) (by decide) rfl [1, 2, 3, 4, 0] (lu := [(0, .ref (ad 138)), (1, .ref (ad 149)), (2, .int b2), (3, .int b3), (4, .int (x4 + 1))]) rfl ?_
        refine g_goto X 3 (by decide) dX11_move_46 ?_
        exact ih (x4 + 1) z43
      refine g_if_eq X 30 (by decide) dX11_move_11 (fun q11 => ?_) (fun q11 => ?_)
      · refine g_aload_n X dX11_move_30 1 rfl rfl ?_
        refine g_iload X dX11_move_31 4 rfl ?_
        refine g_aload_n X dX11_move_33 0 rfl rfl ?_
        refine get_11_22 X (k := 138) k_138 s_138 m_5_79 dX11_move_34 ?_
        refine g_iload_n X dX11_move_37 2 rfl rfl ?_
        refine g_iload X dX11_move_38 4 rfl ?_
        refine g_iadd X dX11_move_40 ?_
        refine g_iald X (n := 300) (k := 159) k_159 s_159 dX11_move_41 (fun h1 => ?_)
        refine g_iast X (n := 6) (k := 149) k_149 s_149 dX11_move_42 (fun h2 => ?_)
        refine g_mlet X (fun M3 => ?_)
        exact hJ43 M3
      · refine g_aload_n X dX11_move_14 0 rfl rfl ?_
        refine get_11_22 X (k := 138) k_138 s_138 m_5_79 dX11_move_15 ?_
        refine g_iload_n X dX11_move_18 2 rfl rfl ?_
        refine g_iload X dX11_move_19 4 rfl ?_
        refine g_iadd X dX11_move_21 ?_
        refine g_aload_n X dX11_move_22 1 rfl rfl ?_
        refine g_iload X dX11_move_23 4 rfl ?_
        refine g_iald X (n := 6) (k := 149) k_149 s_149 dX11_move_25 (fun h4 => ?_)
        refine g_iast X (n := 300) (k := 159) k_159 s_159 dX11_move_26 (fun h5 => ?_)
        refine g_mlet X (fun M6 => ?_)
        refine g_goto X 43 (by decide) dX11_move_27 ?_
        exact hJ43 M6
set_option maxRecDepth 100000 in
set_option maxHeartbeats 4000000 in
theorem tm_move_10 {l : Launch} {D : va_G} {cy : Nat → ClassId} {ad : Nat → Nat} {N : Mem} (M : Mem) (a2 : Int32) (a3 : Int32) {x : (Int32 × Mem)} (h : fm_move_10 M a2 a3 = some x) : Mt l D cy ad yX11_move cX11_move 5 (some .int) 1 [.ref (ad 138), .ref (ad 149), .int a2, .int a3] ((wfM N) M) (some (.int x.1), (wfM N) x.2) := by
  refine met_of (fin := finS) (lv0 := [(0, .ref (ad 138)), (1, .ref (ad 149)), (2, .int a2), (3, .int a3)]) (by decide) (Nat.le_of_ble_eq_true rfl) rfl (lM N) h (fun p e s m args below meth c X hr => ?_)
  unfold fm_move_10
  refine g_iconst X dX11_move_0 ic_0 ?_
  refine g_istore X dX11_move_1 (by decide) rfl [1, 2, 3, 4, 0] (lu := [(0, .ref (ad 138)), (1, .ref (ad 149)), (2, .int a2), (3, .int a3), (4, .int 0)]) rfl ?_
  refine Lm_move_10_L3  X hr a2 a3  _ (fun M7 => ?_) FU 0 M
  · refine g_iload_n X dX11_move_49 1 rfl rfl ?_
    refine g_aload_n X dX11_move_50 0 rfl rfl ?_
    refine g_alenI X (n := 6) (k := 149) (v0 := 6) rfl k_149 s_149 dX11_move_51 ?_
    refine g_iadd X dX11_move_52 ?_
    exact g_iret X hr rfl dX11_move_53
set_option maxRecDepth 100000 in
set_option maxHeartbeats 4000000 in
theorem Lm_move_11_L3 {l : Launch} {D : va_G} {cy : Nat → ClassId} {ad : Nat → Nat} {N : Mem} {p : Program} {e : Env} {s : State} {m : MethodId} {args : Array Value} {below : List Frame} {meth : Method} {c : Code} (X : Cx p s m args meth c cX11_move 5 RX11 D cy ad (AA ad) (wfM N) sdM) (hr : meth.sig.returnType = (some .int)) (b2 : Int32) (b3 : Int32) (kx49 : Mem → Option (Int32 × Mem)) (hkx49 : ∀ (M : Mem), GF p l e (Rm 1) s m args below meth c 5 D cy ad (AA ad) 0 0 (wfM N) (QM D cy ad (wfM N) below args s) finS (kx49 M) 49 [(1, .ref (ad 150)), (2, .int b2)] [] M) : ∀ (n : Nat) (x4 : Int32) (M : Mem), GF p l e (Rm 1) s m args below meth c 5 D cy ad (AA ad) 0 0 (wfM N) (QM D cy ad (wfM N) below args s) finS (fm_move_11_L3 b2 b3 kx49 n x4 M) 3 [(0, .ref (ad 138)), (1, .ref (ad 150)), (2, .int b2), (3, .int b3), (4, .int x4)] [] M := by
  intro n
  induction n with
  | zero => intro x4 M; exact g_none
  | succ n ih =>
    intro x4 M
    rw [fm_move_11_L3]
    refine g_iload X dX11_move_3 4 rfl ?_
    refine g_aload_n X dX11_move_5 1 rfl rfl ?_
    refine g_alenI X (n := 6) (k := 150) (v0 := 6) rfl k_150 s_150 dX11_move_6 ?_
    refine g_icmp_ge X 49 (by decide) dX11_move_7 (fun q7 => ?_) (fun q7 => ?_)
    · refine g_sub (lu := [(1, .ref (ad 150)), (2, .int b2)]) [1, 2] rfl ?_
      exact hkx49 M
    · refine g_iload_n X dX11_move_10 3 rfl rfl ?_
      refine g_jlet X 43 (fun z43 : Mem => [(0, .ref (ad 138)), (1, .ref (ad 150)), (2, .int b2), (3, .int b3), (4, .int x4)]) (fun z43 : Mem => []) (fun z43 : Mem => z43) (fun z43 => ?_) (fun J43 hJ43 => ?_)
      · show GF _ _ _ _ _ _ _ _ _ _ _ _ _ _ _ _ _ _ _ _ _ 43 [(0, .ref (ad 138)), (1, .ref (ad 150)), (2, .int b2), (3, .int b3), (4, .int x4)] [] z43
        refine g_iinc X (k := 4) (v := (x4 + 1)) dX11_move_43 rfl (ii_1 _) (by decide) rfl [1, 2, 3, 4, 0] (lu := [(0, .ref (ad 138)), (1, .ref (ad 150)), (2, .int b2), (3, .int b3), (4, .int (x4 + 1))]) rfl ?_
        refine g_goto X 3 (by decide) dX11_move_46 ?_
        exact ih (x4 + 1) z43
      refine g_if_eq X 30 (by decide) dX11_move_11 (fun q11 => ?_) (fun q11 => ?_)
      · refine g_aload_n X dX11_move_30 1 rfl rfl ?_
        refine g_iload X dX11_move_31 4 rfl ?_
        refine g_aload_n X dX11_move_33 0 rfl rfl ?_
        refine get_11_22 X (k := 138) k_138 s_138 m_5_79 dX11_move_34 ?_
        refine g_iload_n X dX11_move_37 2 rfl rfl ?_
        refine g_iload X dX11_move_38 4 rfl ?_
        refine g_iadd X dX11_move_40 ?_
        refine g_iald X (n := 300) (k := 159) k_159 s_159 dX11_move_41 (fun h1 => ?_)
        refine g_iast X (n := 6) (k := 150) k_150 s_150 dX11_move_42 (fun h2 => ?_)
        refine g_mlet X (fun M3 => ?_)
        exact hJ43 M3
      · refine g_aload_n X dX11_move_14 0 rfl rfl ?_
        refine get_11_22 X (k := 138) k_138 s_138 m_5_79 dX11_move_15 ?_
        refine g_iload_n X dX11_move_18 2 rfl rfl ?_
        refine g_iload X dX11_move_19 4 rfl ?_
        refine g_iadd X dX11_move_21 ?_
        refine g_aload_n X dX11_move_22 1 rfl rfl ?_
        refine g_iload X dX11_move_23 4 rfl ?_
        refine g_iald X (n := 6) (k := 150) k_150 s_150 dX11_move_25 (fun h4 => ?_)
        refine g_iast X (n := 300) (k := 159) k_159 s_159 dX11_move_26 (fun h5 => ?_)
        refine g_mlet X (fun M6 => ?_)
        refine g_goto X 43 (by decide) dX11_move_27 ?_
        exact hJ43 M6
set_option maxRecDepth 100000 in
set_option maxHeartbeats 4000000 in
theorem tm_move_11 {l : Launch} {D : va_G} {cy : Nat → ClassId} {ad : Nat → Nat} {N : Mem} (M : Mem) (a2 : Int32) (a3 : Int32) {x : (Int32 × Mem)} (h : fm_move_11 M a2 a3 = some x) : Mt l D cy ad yX11_move cX11_move 5 (some .int) 1 [.ref (ad 138), .ref (ad 150), .int a2, .int a3] ((wfM N) M) (some (.int x.1), (wfM N) x.2) := by
  refine met_of (fin := finS) (lv0 := [(0, .ref (ad 138)), (1, .ref (ad 150)), (2, .int a2), (3, .int a3)]) (by decide) (Nat.le_of_ble_eq_true rfl) rfl (lM N) h (fun p e s m args below meth c X hr => ?_)
  unfold fm_move_11
  refine g_iconst X dX11_move_0 ic_0 ?_
  refine g_istore X dX11_move_1 (by decide) rfl [1, 2, 3, 4, 0] (lu := [(0, .ref (ad 138)), (1, .ref (ad 150)), (2, .int a2), (3, .int a3), (4, .int 0)]) rfl ?_
  refine Lm_move_11_L3  X hr a2 a3  _ (fun M7 => ?_) FU 0 M
  · refine g_iload_n X dX11_move_49 1 rfl rfl ?_
    refine g_aload_n X dX11_move_50 0 rfl rfl ?_
    refine g_alenI X (n := 6) (k := 150) (v0 := 6) rfl k_150 s_150 dX11_move_51 ?_
    refine g_iadd X dX11_move_52 ?_
    exact g_iret X hr rfl dX11_move_53
set_option maxRecDepth 100000 in
set_option maxHeartbeats 4000000 in
theorem Lm_move_12_L3 {l : Launch} {D : va_G} {cy : Nat → ClassId} {ad : Nat → Nat} {N : Mem} {p : Program} {e : Env} {s : State} {m : MethodId} {args : Array Value} {below : List Frame} {meth : Method} {c : Code} (X : Cx p s m args meth c cX11_move 5 RX11 D cy ad (AA ad) (wfM N) sdM) (hr : meth.sig.returnType = (some .int)) (b2 : Int32) (b3 : Int32) (kx49 : Mem → Option (Int32 × Mem)) (hkx49 : ∀ (M : Mem), GF p l e (Rm 1) s m args below meth c 5 D cy ad (AA ad) 0 0 (wfM N) (QM D cy ad (wfM N) below args s) finS (kx49 M) 49 [(1, .ref (ad 151)), (2, .int b2)] [] M) : ∀ (n : Nat) (x4 : Int32) (M : Mem), GF p l e (Rm 1) s m args below meth c 5 D cy ad (AA ad) 0 0 (wfM N) (QM D cy ad (wfM N) below args s) finS (fm_move_12_L3 b2 b3 kx49 n x4 M) 3 [(0, .ref (ad 138)), (1, .ref (ad 151)), (2, .int b2), (3, .int b3), (4, .int x4)] [] M := by
  intro n
  induction n with
  | zero => intro x4 M; exact g_none
  | succ n ih =>
    intro x4 M
    rw [fm_move_12_L3]
    refine g_iload X dX11_move_3 4 rfl ?_
    refine g_aload_n X dX11_move_5 1 rfl rfl ?_
    refine g_alenI X (n := 6) (k := 151) (v0 := 6) rfl k_151 s_151 dX11_move_6 ?_
    refine g_icmp_ge X 49 (by decide) dX11_move_7 (fun q7 => ?_) (fun q7 => ?_)
    · refine g_sub (lu := [(1, .ref (ad 151)), (2, .int b2)]) [1, 2] rfl ?_
      exact hkx49 M
    · refine g_iload_n X dX11_move_10 3 rfl rfl ?_
      refine g_jlet X 43 (fun z43 : Mem => [(0, .ref (ad 138)), (1, .ref (ad 151)), (2, .int b2), (3, .int b3), (4, .int x4)]) (fun z43 : Mem => []) (fun z43 : Mem => z43) (fun z43 => ?_) (fun J43 hJ43 => ?_)
      · show GF _ _ _ _ _ _ _ _ _ _ _ _ _ _ _ _ _ _ _ _ _ 43 [(0, .ref (ad 138)), (1, .ref (ad 151)), (2, .int b2), (3, .int b3), (4, .int x4)] [] z43
        refine g_iinc X (k := 4) (v := (x4 + 1)) dX11_move_43 rfl (ii_1 _) (by decide) rfl [1, 2, 3, 4, 0] (lu := [(0, .ref (ad 138)), (1, .ref (ad 151)), (2, .int b2), (3, .int b3), (4, .int (x4 + 1))]) rfl ?_
        refine g_goto X 3 (by decide) dX11_move_46 ?_
        exact ih (x4 + 1) z43
      refine g_if_eq X 30 (by decide) dX11_move_11 (fun q11 => ?_) (fun q11 => ?_)
      · refine g_aload_n X dX11_move_30 1 rfl rfl ?_
        refine g_iload X dX11_move_31 4 rfl ?_
        refine g_aload_n X dX11_move_33 0 rfl rfl ?_
        refine get_11_22 X (k := 138) k_138 s_138 m_5_79 dX11_move_34 ?_
        refine g_iload_n X dX11_move_37 2 rfl rfl ?_
        refine g_iload X dX11_move_38 4 rfl ?_
        refine g_iadd X dX11_move_40 ?_
        refine g_iald X (n := 300) (k := 159) k_159 s_159 dX11_move_41 (fun h1 => ?_)
        refine g_iast X (n := 6) (k := 151) k_151 s_151 dX11_move_42 (fun h2 => ?_)
        refine g_mlet X (fun M3 => ?_)
        exact hJ43 M3
      · refine g_aload_n X dX11_move_14 0 rfl rfl ?_
        refine get_11_22 X (k := 138) k_138 s_138 m_5_79 dX11_move_15 ?_
        refine g_iload_n X dX11_move_18 2 rfl rfl ?_
        refine g_iload X dX11_move_19 4 rfl ?_
        refine g_iadd X dX11_move_21 ?_
        refine g_aload_n X dX11_move_22 1 rfl rfl ?_
        refine g_iload X dX11_move_23 4 rfl ?_
        refine g_iald X (n := 6) (k := 151) k_151 s_151 dX11_move_25 (fun h4 => ?_)
        refine g_iast X (n := 300) (k := 159) k_159 s_159 dX11_move_26 (fun h5 => ?_)
        refine g_mlet X (fun M6 => ?_)
        refine g_goto X 43 (by decide) dX11_move_27 ?_
        exact hJ43 M6
set_option maxRecDepth 100000 in
set_option maxHeartbeats 4000000 in
theorem tm_move_12 {l : Launch} {D : va_G} {cy : Nat → ClassId} {ad : Nat → Nat} {N : Mem} (M : Mem) (a2 : Int32) (a3 : Int32) {x : (Int32 × Mem)} (h : fm_move_12 M a2 a3 = some x) : Mt l D cy ad yX11_move cX11_move 5 (some .int) 1 [.ref (ad 138), .ref (ad 151), .int a2, .int a3] ((wfM N) M) (some (.int x.1), (wfM N) x.2) := by
  refine met_of (fin := finS) (lv0 := [(0, .ref (ad 138)), (1, .ref (ad 151)), (2, .int a2), (3, .int a3)]) (by decide) (Nat.le_of_ble_eq_true rfl) rfl (lM N) h (fun p e s m args below meth c X hr => ?_)
  unfold fm_move_12
  refine g_iconst X dX11_move_0 ic_0 ?_
  refine g_istore X dX11_move_1 (by decide) rfl [1, 2, 3, 4, 0] (lu := [(0, .ref (ad 138)), (1, .ref (ad 151)), (2, .int a2), (3, .int a3), (4, .int 0)]) rfl ?_
  refine Lm_move_12_L3  X hr a2 a3  _ (fun M7 => ?_) FU 0 M
  · refine g_iload_n X dX11_move_49 1 rfl rfl ?_
    refine g_aload_n X dX11_move_50 0 rfl rfl ?_
    refine g_alenI X (n := 6) (k := 151) (v0 := 6) rfl k_151 s_151 dX11_move_51 ?_
    refine g_iadd X dX11_move_52 ?_
    exact g_iret X hr rfl dX11_move_53
set_option maxRecDepth 100000 in
set_option maxHeartbeats 4000000 in
theorem Lm_move_13_L3 {l : Launch} {D : va_G} {cy : Nat → ClassId} {ad : Nat → Nat} {N : Mem} {p : Program} {e : Env} {s : State} {m : MethodId} {args : Array Value} {below : List Frame} {meth : Method} {c : Code} (X : Cx p s m args meth c cX11_move 5 RX11 D cy ad (AA ad) (wfM N) sdM) (hr : meth.sig.returnType = (some .int)) (b2 : Int32) (b3 : Int32) (kx49 : Mem → Option (Int32 × Mem)) (hkx49 : ∀ (M : Mem), GF p l e (Rm 1) s m args below meth c 5 D cy ad (AA ad) 0 0 (wfM N) (QM D cy ad (wfM N) below args s) finS (kx49 M) 49 [(1, .ref (ad 152)), (2, .int b2)] [] M) : ∀ (n : Nat) (x4 : Int32) (M : Mem), GF p l e (Rm 1) s m args below meth c 5 D cy ad (AA ad) 0 0 (wfM N) (QM D cy ad (wfM N) below args s) finS (fm_move_13_L3 b2 b3 kx49 n x4 M) 3 [(0, .ref (ad 138)), (1, .ref (ad 152)), (2, .int b2), (3, .int b3), (4, .int x4)] [] M := by
  intro n
  induction n with
  | zero => intro x4 M; exact g_none
  | succ n ih =>
    intro x4 M
    rw [fm_move_13_L3]
    refine g_iload X dX11_move_3 4 rfl ?_
    refine g_aload_n X dX11_move_5 1 rfl rfl ?_
    refine g_alenI X (n := 10) (k := 152) (v0 := 10) rfl k_152 s_152 dX11_move_6 ?_
    refine g_icmp_ge X 49 (by decide) dX11_move_7 (fun q7 => ?_) (fun q7 => ?_)
    · refine g_sub (lu := [(1, .ref (ad 152)), (2, .int b2)]) [1, 2] rfl ?_
      exact hkx49 M
    · refine g_iload_n X dX11_move_10 3 rfl rfl ?_
      refine g_jlet X 43 (fun z43 : Mem => [(0, .ref (ad 138)), (1, .ref (ad 152)), (2, .int b2), (3, .int b3), (4, .int x4)]) (fun z43 : Mem => []) (fun z43 : Mem => z43) (fun z43 => ?_) (fun J43 hJ43 => ?_)
      · show GF _ _ _ _ _ _ _ _ _ _ _ _ _ _ _ _ _ _ _ _ _ 43 [(0, .ref (ad 138)), (1, .ref (ad 152)), (2, .int b2), (3, .int b3), (4, .int x4)] [] z43
        refine g_iinc X (k := 4) (v := (x4 + 1)) dX11_move_43 rfl (ii_1 _) (by decide) rfl [1, 2, 3, 4, 0] (lu := [(0, .ref (ad 138)), (1, .ref (ad 152)), (2, .int b2), (3, .int b3), (4, .int (x4 + 1))]) rfl ?_
        refine g_goto X 3 (by decide) dX11_move_46 ?_
        exact ih (x4 + 1) z43
      refine g_if_eq X 30 (by decide) dX11_move_11 (fun q11 => ?_) (fun q11 => ?_)
      · refine g_aload_n X dX11_move_30 1 rfl rfl ?_
        refine g_iload X dX11_move_31 4 rfl ?_
        refine g_aload_n X dX11_move_33 0 rfl rfl ?_
        refine get_11_22 X (k := 138) k_138 s_138 m_5_79 dX11_move_34 ?_
        refine g_iload_n X dX11_move_37 2 rfl rfl ?_
        refine g_iload X dX11_move_38 4 rfl ?_
        refine g_iadd X dX11_move_40 ?_
        refine g_iald X (n := 300) (k := 159) k_159 s_159 dX11_move_41 (fun h1 => ?_)
        refine g_iast X (n := 10) (k := 152) k_152 s_152 dX11_move_42 (fun h2 => ?_)
        refine g_mlet X (fun M3 => ?_)
        exact hJ43 M3
      · refine g_aload_n X dX11_move_14 0 rfl rfl ?_
        refine get_11_22 X (k := 138) k_138 s_138 m_5_79 dX11_move_15 ?_
        refine g_iload_n X dX11_move_18 2 rfl rfl ?_
        refine g_iload X dX11_move_19 4 rfl ?_
        refine g_iadd X dX11_move_21 ?_
        refine g_aload_n X dX11_move_22 1 rfl rfl ?_
        refine g_iload X dX11_move_23 4 rfl ?_
        refine g_iald X (n := 10) (k := 152) k_152 s_152 dX11_move_25 (fun h4 => ?_)
        refine g_iast X (n := 300) (k := 159) k_159 s_159 dX11_move_26 (fun h5 => ?_)
        refine g_mlet X (fun M6 => ?_)
        refine g_goto X 43 (by decide) dX11_move_27 ?_
        exact hJ43 M6
set_option maxRecDepth 100000 in
set_option maxHeartbeats 4000000 in
theorem tm_move_13 {l : Launch} {D : va_G} {cy : Nat → ClassId} {ad : Nat → Nat} {N : Mem} (M : Mem) (a2 : Int32) (a3 : Int32) {x : (Int32 × Mem)} (h : fm_move_13 M a2 a3 = some x) : Mt l D cy ad yX11_move cX11_move 5 (some .int) 1 [.ref (ad 138), .ref (ad 152), .int a2, .int a3] ((wfM N) M) (some (.int x.1), (wfM N) x.2) := by
  refine met_of (fin := finS) (lv0 := [(0, .ref (ad 138)), (1, .ref (ad 152)), (2, .int a2), (3, .int a3)]) (by decide) (Nat.le_of_ble_eq_true rfl) rfl (lM N) h (fun p e s m args below meth c X hr => ?_)
  unfold fm_move_13
  refine g_iconst X dX11_move_0 ic_0 ?_
  refine g_istore X dX11_move_1 (by decide) rfl [1, 2, 3, 4, 0] (lu := [(0, .ref (ad 138)), (1, .ref (ad 152)), (2, .int a2), (3, .int a3), (4, .int 0)]) rfl ?_
  refine Lm_move_13_L3  X hr a2 a3  _ (fun M7 => ?_) FU 0 M
  · refine g_iload_n X dX11_move_49 1 rfl rfl ?_
    refine g_aload_n X dX11_move_50 0 rfl rfl ?_
    refine g_alenI X (n := 10) (k := 152) (v0 := 10) rfl k_152 s_152 dX11_move_51 ?_
    refine g_iadd X dX11_move_52 ?_
    exact g_iret X hr rfl dX11_move_53
set_option maxRecDepth 100000 in
set_option maxHeartbeats 4000000 in
theorem Lm_move_14_L3 {l : Launch} {D : va_G} {cy : Nat → ClassId} {ad : Nat → Nat} {N : Mem} {p : Program} {e : Env} {s : State} {m : MethodId} {args : Array Value} {below : List Frame} {meth : Method} {c : Code} (X : Cx p s m args meth c cX11_move 5 RX11 D cy ad (AA ad) (wfM N) sdM) (hr : meth.sig.returnType = (some .int)) (b2 : Int32) (b3 : Int32) (kx49 : Mem → Option (Int32 × Mem)) (hkx49 : ∀ (M : Mem), GF p l e (Rm 1) s m args below meth c 5 D cy ad (AA ad) 0 0 (wfM N) (QM D cy ad (wfM N) below args s) finS (kx49 M) 49 [(1, .ref (ad 153)), (2, .int b2)] [] M) : ∀ (n : Nat) (x4 : Int32) (M : Mem), GF p l e (Rm 1) s m args below meth c 5 D cy ad (AA ad) 0 0 (wfM N) (QM D cy ad (wfM N) below args s) finS (fm_move_14_L3 b2 b3 kx49 n x4 M) 3 [(0, .ref (ad 138)), (1, .ref (ad 153)), (2, .int b2), (3, .int b3), (4, .int x4)] [] M := by
  intro n
  induction n with
  | zero => intro x4 M; exact g_none
  | succ n ih =>
    intro x4 M
    rw [fm_move_14_L3]
    refine g_iload X dX11_move_3 4 rfl ?_
    refine g_aload_n X dX11_move_5 1 rfl rfl ?_
    refine g_alenI X (n := 10) (k := 153) (v0 := 10) rfl k_153 s_153 dX11_move_6 ?_
    refine g_icmp_ge X 49 (by decide) dX11_move_7 (fun q7 => ?_) (fun q7 => ?_)
    · refine g_sub (lu := [(1, .ref (ad 153)), (2, .int b2)]) [1, 2] rfl ?_
      exact hkx49 M
    · refine g_iload_n X dX11_move_10 3 rfl rfl ?_
      refine g_jlet X 43 (fun z43 : Mem => [(0, .ref (ad 138)), (1, .ref (ad 153)), (2, .int b2), (3, .int b3), (4, .int x4)]) (fun z43 : Mem => []) (fun z43 : Mem => z43) (fun z43 => ?_) (fun J43 hJ43 => ?_)
      · show GF _ _ _ _ _ _ _ _ _ _ _ _ _ _ _ _ _ _ _ _ _ 43 [(0, .ref (ad 138)), (1, .ref (ad 153)), (2, .int b2), (3, .int b3), (4, .int x4)] [] z43
        refine g_iinc X (k := 4) (v := (x4 + 1)) dX11_move_43 rfl (ii_1 _) (by decide) rfl [1, 2, 3, 4, 0] (lu := [(0, .ref (ad 138)), (1, .ref (ad 153)), (2, .int b2), (3, .int b3), (4, .int (x4 + 1))]) rfl ?_
        refine g_goto X 3 (by decide) dX11_move_46 ?_
        exact ih (x4 + 1) z43
      refine g_if_eq X 30 (by decide) dX11_move_11 (fun q11 => ?_) (fun q11 => ?_)
      · refine g_aload_n X dX11_move_30 1 rfl rfl ?_
        refine g_iload X dX11_move_31 4 rfl ?_
        refine g_aload_n X dX11_move_33 0 rfl rfl ?_
        refine get_11_22 X (k := 138) k_138 s_138 m_5_79 dX11_move_34 ?_
        refine g_iload_n X dX11_move_37 2 rfl rfl ?_
        refine g_iload X dX11_move_38 4 rfl ?_
        refine g_iadd X dX11_move_40 ?_
        refine g_iald X (n := 300) (k := 159) k_159 s_159 dX11_move_41 (fun h1 => ?_)
        refine g_iast X (n := 10) (k := 153) k_153 s_153 dX11_move_42 (fun h2 => ?_)
        refine g_mlet X (fun M3 => ?_)
        exact hJ43 M3
      · refine g_aload_n X dX11_move_14 0 rfl rfl ?_
        refine get_11_22 X (k := 138) k_138 s_138 m_5_79 dX11_move_15 ?_
        refine g_iload_n X dX11_move_18 2 rfl rfl ?_
        refine g_iload X dX11_move_19 4 rfl ?_
        refine g_iadd X dX11_move_21 ?_
        refine g_aload_n X dX11_move_22 1 rfl rfl ?_
        refine g_iload X dX11_move_23 4 rfl ?_
        refine g_iald X (n := 10) (k := 153) k_153 s_153 dX11_move_25 (fun h4 => ?_)
        refine g_iast X (n := 300) (k := 159) k_159 s_159 dX11_move_26 (fun h5 => ?_)
        refine g_mlet X (fun M6 => ?_)
        refine g_goto X 43 (by decide) dX11_move_27 ?_
        exact hJ43 M6
set_option maxRecDepth 100000 in
set_option maxHeartbeats 4000000 in
theorem tm_move_14 {l : Launch} {D : va_G} {cy : Nat → ClassId} {ad : Nat → Nat} {N : Mem} (M : Mem) (a2 : Int32) (a3 : Int32) {x : (Int32 × Mem)} (h : fm_move_14 M a2 a3 = some x) : Mt l D cy ad yX11_move cX11_move 5 (some .int) 1 [.ref (ad 138), .ref (ad 153), .int a2, .int a3] ((wfM N) M) (some (.int x.1), (wfM N) x.2) := by
  refine met_of (fin := finS) (lv0 := [(0, .ref (ad 138)), (1, .ref (ad 153)), (2, .int a2), (3, .int a3)]) (by decide) (Nat.le_of_ble_eq_true rfl) rfl (lM N) h (fun p e s m args below meth c X hr => ?_)
  unfold fm_move_14
  refine g_iconst X dX11_move_0 ic_0 ?_
  refine g_istore X dX11_move_1 (by decide) rfl [1, 2, 3, 4, 0] (lu := [(0, .ref (ad 138)), (1, .ref (ad 153)), (2, .int a2), (3, .int a3), (4, .int 0)]) rfl ?_
  refine Lm_move_14_L3  X hr a2 a3  _ (fun M7 => ?_) FU 0 M
  · refine g_iload_n X dX11_move_49 1 rfl rfl ?_
    refine g_aload_n X dX11_move_50 0 rfl rfl ?_
    refine g_alenI X (n := 10) (k := 153) (v0 := 10) rfl k_153 s_153 dX11_move_51 ?_
    refine g_iadd X dX11_move_52 ?_
    exact g_iret X hr rfl dX11_move_53
set_option maxRecDepth 100000 in
set_option maxHeartbeats 4000000 in
theorem Lm_move_15_L3 {l : Launch} {D : va_G} {cy : Nat → ClassId} {ad : Nat → Nat} {N : Mem} {p : Program} {e : Env} {s : State} {m : MethodId} {args : Array Value} {below : List Frame} {meth : Method} {c : Code} (X : Cx p s m args meth c cX11_move 5 RX11 D cy ad (AA ad) (wfM N) sdM) (hr : meth.sig.returnType = (some .int)) (b2 : Int32) (b3 : Int32) (kx49 : Mem → Option (Int32 × Mem)) (hkx49 : ∀ (M : Mem), GF p l e (Rm 1) s m args below meth c 5 D cy ad (AA ad) 0 0 (wfM N) (QM D cy ad (wfM N) below args s) finS (kx49 M) 49 [(1, .ref (ad 154)), (2, .int b2)] [] M) : ∀ (n : Nat) (x4 : Int32) (M : Mem), GF p l e (Rm 1) s m args below meth c 5 D cy ad (AA ad) 0 0 (wfM N) (QM D cy ad (wfM N) below args s) finS (fm_move_15_L3 b2 b3 kx49 n x4 M) 3 [(0, .ref (ad 138)), (1, .ref (ad 154)), (2, .int b2), (3, .int b3), (4, .int x4)] [] M := by
  intro n
  induction n with
  | zero => intro x4 M; exact g_none
  | succ n ih =>
    intro x4 M
    rw [fm_move_15_L3]
    refine g_iload X dX11_move_3 4 rfl ?_
    refine g_aload_n X dX11_move_5 1 rfl rfl ?_
    refine g_alenI X (n := 10) (k := 154) (v0 := 10) rfl k_154 s_154 dX11_move_6 ?_
    refine g_icmp_ge X 49 (by decide) dX11_move_7 (fun q7 => ?_) (fun q7 => ?_)
    · refine g_sub (lu := [(1, .ref (ad 154)), (2, .int b2)]) [1, 2] rfl ?_
      exact hkx49 M
    · refine g_iload_n X dX11_move_10 3 rfl rfl ?_
      refine g_jlet X 43 (fun z43 : Mem => [(0, .ref (ad 138)), (1, .ref (ad 154)), (2, .int b2), (3, .int b3), (4, .int x4)]) (fun z43 : Mem => []) (fun z43 : Mem => z43) (fun z43 => ?_) (fun J43 hJ43 => ?_)
      · show GF _ _ _ _ _ _ _ _ _ _ _ _ _ _ _ _ _ _ _ _ _ 43 [(0, .ref (ad 138)), (1, .ref (ad 154)), (2, .int b2), (3, .int b3), (4, .int x4)] [] z43
        refine g_iinc X (k := 4) (v := (x4 + 1)) dX11_move_43 rfl (ii_1 _) (by decide) rfl [1, 2, 3, 4, 0] (lu := [(0, .ref (ad 138)), (1, .ref (ad 154)), (2, .int b2), (3, .int b3), (4, .int (x4 + 1))]) rfl ?_
        refine g_goto X 3 (by decide) dX11_move_46 ?_
        exact ih (x4 + 1) z43
      refine g_if_eq X 30 (by decide) dX11_move_11 (fun q11 => ?_) (fun q11 => ?_)
      · refine g_aload_n X dX11_move_30 1 rfl rfl ?_
        refine g_iload X dX11_move_31 4 rfl ?_
        refine g_aload_n X dX11_move_33 0 rfl rfl ?_
        refine get_11_22 X (k := 138) k_138 s_138 m_5_79 dX11_move_34 ?_
        refine g_iload_n X dX11_move_37 2 rfl rfl ?_
        refine g_iload X dX11_move_38 4 rfl ?_
        refine g_iadd X dX11_move_40 ?_
        refine g_iald X (n := 300) (k := 159) k_159 s_159 dX11_move_41 (fun h1 => ?_)
        refine g_iast X (n := 10) (k := 154) k_154 s_154 dX11_move_42 (fun h2 => ?_)
        refine g_mlet X (fun M3 => ?_)
        exact hJ43 M3
      · refine g_aload_n X dX11_move_14 0 rfl rfl ?_
        refine get_11_22 X (k := 138) k_138 s_138 m_5_79 dX11_move_15 ?_
        refine g_iload_n X dX11_move_18 2 rfl rfl ?_
        refine g_iload X dX11_move_19 4 rfl ?_
        refine g_iadd X dX11_move_21 ?_
        refine g_aload_n X dX11_move_22 1 rfl rfl ?_
        refine g_iload X dX11_move_23 4 rfl ?_
        refine g_iald X (n := 10) (k := 154) k_154 s_154 dX11_move_25 (fun h4 => ?_)
        refine g_iast X (n := 300) (k := 159) k_159 s_159 dX11_move_26 (fun h5 => ?_)
        refine g_mlet X (fun M6 => ?_)
        refine g_goto X 43 (by decide) dX11_move_27 ?_
        exact hJ43 M6
set_option maxRecDepth 100000 in
set_option maxHeartbeats 4000000 in
theorem tm_move_15 {l : Launch} {D : va_G} {cy : Nat → ClassId} {ad : Nat → Nat} {N : Mem} (M : Mem) (a2 : Int32) (a3 : Int32) {x : (Int32 × Mem)} (h : fm_move_15 M a2 a3 = some x) : Mt l D cy ad yX11_move cX11_move 5 (some .int) 1 [.ref (ad 138), .ref (ad 154), .int a2, .int a3] ((wfM N) M) (some (.int x.1), (wfM N) x.2) := by
  refine met_of (fin := finS) (lv0 := [(0, .ref (ad 138)), (1, .ref (ad 154)), (2, .int a2), (3, .int a3)]) (by decide) (Nat.le_of_ble_eq_true rfl) rfl (lM N) h (fun p e s m args below meth c X hr => ?_)
  unfold fm_move_15
  refine g_iconst X dX11_move_0 ic_0 ?_
  refine g_istore X dX11_move_1 (by decide) rfl [1, 2, 3, 4, 0] (lu := [(0, .ref (ad 138)), (1, .ref (ad 154)), (2, .int a2), (3, .int a3), (4, .int 0)]) rfl ?_
  refine Lm_move_15_L3  X hr a2 a3  _ (fun M7 => ?_) FU 0 M
  · refine g_iload_n X dX11_move_49 1 rfl rfl ?_
    refine g_aload_n X dX11_move_50 0 rfl rfl ?_
    refine g_alenI X (n := 10) (k := 154) (v0 := 10) rfl k_154 s_154 dX11_move_51 ?_
    refine g_iadd X dX11_move_52 ?_
    exact g_iret X hr rfl dX11_move_53
set_option maxRecDepth 100000 in
set_option maxHeartbeats 4000000 in
theorem tm_moveAll {l : Launch} {D : va_G} {cy : Nat → ClassId} {ad : Nat → Nat} {N : Mem} (M : Mem) (a1 : Int32) {x : Mem} (h : fm_moveAll M a1 = some x) : Mt l D cy ad yX11_moveAll cX11_moveAll 3 none 2 [.ref (ad 138), .int a1] ((wfM N) M) (none, (wfM N) x) := by
  refine met_of (fin := finV) (lv0 := [(0, .ref (ad 138)), (1, .int a1)]) (by decide) (Nat.le_of_ble_eq_true rfl) rfl (lM N) h (fun p e s m args below meth c X hr => ?_)
  unfold fm_moveAll
  refine g_aload_n X dX11_moveAll_0 0 rfl rfl ?_
  refine g_aload_n X dX11_moveAll_1 0 rfl rfl ?_
  refine get_11_18 X (k := 138) k_138 s_138 m_5_75 dX11_moveAll_2 ?_
  refine g_iconst X dX11_moveAll_5 ic_0 ?_
  refine g_iload_n X dX11_moveAll_6 1 rfl rfl ?_
  refine g_cs X (st := []) (fun _ hh => ok_V X (k0 := 138) (As := [.ref (ad 156), .int 0, .int a1]) wkX11_move (tm_move M 0 a1 hh) rfl k_138 s_138 (by decide) rfl m_7_4 rfl (hRm (by decide) (by decide)) ⟨Nat.zero_le _, Nat.zero_le _⟩ (Nat.le_of_ble_eq_true rfl) dX11_moveAll_7) (fun r2 M1 _ => ?_)
  refine g_istore_n X dX11_moveAll_10 rfl (by decide) rfl [1, 2, 0] (lu := [(0, .ref (ad 138)), (1, .int a1), (2, .int r2)]) rfl ?_
  refine g_aload_n X dX11_moveAll_11 0 rfl rfl ?_
  refine g_aload_n X dX11_moveAll_12 0 rfl rfl ?_
  refine get_11_19 X (k := 138) k_138 s_138 m_5_76 dX11_moveAll_13 ?_
  refine g_iload_n X dX11_moveAll_16 2 rfl rfl ?_
  refine g_iload_n X dX11_moveAll_17 1 rfl rfl ?_
  refine g_cs X (st := []) (fun _ hh => ok_V X (k0 := 138) (As := [.ref (ad 157), .int r2, .int a1]) wkX11_move (tm_move_2 M1 r2 a1 hh) rfl k_138 s_138 (by decide) rfl m_7_4 rfl (hRm (by decide) (by decide)) ⟨Nat.zero_le _, Nat.zero_le _⟩ (Nat.le_of_ble_eq_true rfl) dX11_moveAll_18) (fun r4 M3 _ => ?_)
  refine g_istore_n X dX11_moveAll_21 rfl (by decide) rfl [1, 2, 0] (lu := [(0, .ref (ad 138)), (1, .int a1), (2, .int r4)]) rfl ?_
  refine g_aload_n X dX11_moveAll_22 0 rfl rfl ?_
  refine g_aload_n X dX11_moveAll_23 0 rfl rfl ?_
  refine get_11_17 X (k := 138) k_138 s_138 m_5_74 dX11_moveAll_24 ?_
  refine g_iload_n X dX11_moveAll_27 2 rfl rfl ?_
  refine g_iload_n X dX11_moveAll_28 1 rfl rfl ?_
  refine g_cs X (st := []) (fun _ hh => ok_V X (k0 := 138) (As := [.ref (ad 155), .int r4, .int a1]) wkX11_move (tm_move_3 M3 r4 a1 hh) rfl k_138 s_138 (by decide) rfl m_7_4 rfl (hRm (by decide) (by decide)) ⟨Nat.zero_le _, Nat.zero_le _⟩ (Nat.le_of_ble_eq_true rfl) dX11_moveAll_29) (fun r6 M5 _ => ?_)
  refine g_istore_n X dX11_moveAll_32 rfl (by decide) rfl [1, 2, 0] (lu := [(0, .ref (ad 138)), (1, .int a1), (2, .int r6)]) rfl ?_
  refine g_aload_n X dX11_moveAll_33 0 rfl rfl ?_
  refine g_aload_n X dX11_moveAll_34 0 rfl rfl ?_
  refine get_11_3 X (k := 138) k_138 s_138 m_5_60 dX11_moveAll_35 ?_
  refine g_iload_n X dX11_moveAll_38 2 rfl rfl ?_
  refine g_iload_n X dX11_moveAll_39 1 rfl rfl ?_
  refine g_cs X (st := []) (fun _ hh => ok_V X (k0 := 138) (As := [.ref (ad 142), .int r6, .int a1]) wkX11_move (tm_move_4 M5 r6 a1 hh) rfl k_138 s_138 (by decide) rfl m_7_4 rfl (hRm (by decide) (by decide)) ⟨Nat.zero_le _, Nat.zero_le _⟩ (Nat.le_of_ble_eq_true rfl) dX11_moveAll_40) (fun r8 M7 _ => ?_)
  refine g_istore_n X dX11_moveAll_43 rfl (by decide) rfl [1, 2, 0] (lu := [(0, .ref (ad 138)), (1, .int a1), (2, .int r8)]) rfl ?_
  refine g_aload_n X dX11_moveAll_44 0 rfl rfl ?_
  refine g_aload_n X dX11_moveAll_45 0 rfl rfl ?_
  refine get_11_4 X (k := 138) k_138 s_138 m_5_61 dX11_moveAll_46 ?_
  refine g_iload_n X dX11_moveAll_49 2 rfl rfl ?_
  refine g_iload_n X dX11_moveAll_50 1 rfl rfl ?_
  refine g_cs X (st := []) (fun _ hh => ok_V X (k0 := 138) (As := [.ref (ad 143), .int r8, .int a1]) wkX11_move (tm_move_5 M7 r8 a1 hh) rfl k_138 s_138 (by decide) rfl m_7_4 rfl (hRm (by decide) (by decide)) ⟨Nat.zero_le _, Nat.zero_le _⟩ (Nat.le_of_ble_eq_true rfl) dX11_moveAll_51) (fun r10 M9 _ => ?_)
  refine g_istore_n X dX11_moveAll_54 rfl (by decide) rfl [1, 2, 0] (lu := [(0, .ref (ad 138)), (1, .int a1), (2, .int r10)]) rfl ?_
  refine g_aload_n X dX11_moveAll_55 0 rfl rfl ?_
  refine g_aload_n X dX11_moveAll_56 0 rfl rfl ?_
  refine get_11_5 X (k := 138) k_138 s_138 m_5_62 dX11_moveAll_57 ?_
  refine g_iload_n X dX11_moveAll_60 2 rfl rfl ?_
  refine g_iload_n X dX11_moveAll_61 1 rfl rfl ?_
  refine g_cs X (st := []) (fun _ hh => ok_V X (k0 := 138) (As := [.ref (ad 144), .int r10, .int a1]) wkX11_move (tm_move_6 M9 r10 a1 hh) rfl k_138 s_138 (by decide) rfl m_7_4 rfl (hRm (by decide) (by decide)) ⟨Nat.zero_le _, Nat.zero_le _⟩ (Nat.le_of_ble_eq_true rfl) dX11_moveAll_62) (fun r12 M11 _ => ?_)
  refine g_istore_n X dX11_moveAll_65 rfl (by decide) rfl [1, 2, 0] (lu := [(0, .ref (ad 138)), (1, .int a1), (2, .int r12)]) rfl ?_
  refine g_aload_n X dX11_moveAll_66 0 rfl rfl ?_
  refine g_aload_n X dX11_moveAll_67 0 rfl rfl ?_
  refine get_11_6 X (k := 138) k_138 s_138 m_5_63 dX11_moveAll_68 ?_
  refine g_iload_n X dX11_moveAll_71 2 rfl rfl ?_
  refine g_iload_n X dX11_moveAll_72 1 rfl rfl ?_
  refine g_cs X (st := []) (fun _ hh => ok_V X (k0 := 138) (As := [.ref (ad 145), .int r12, .int a1]) wkX11_move (tm_move_7 M11 r12 a1 hh) rfl k_138 s_138 (by decide) rfl m_7_4 rfl (hRm (by decide) (by decide)) ⟨Nat.zero_le _, Nat.zero_le _⟩ (Nat.le_of_ble_eq_true rfl) dX11_moveAll_73) (fun r14 M13 _ => ?_)
  refine g_istore_n X dX11_moveAll_76 rfl (by decide) rfl [1, 2, 0] (lu := [(0, .ref (ad 138)), (1, .int a1), (2, .int r14)]) rfl ?_
  refine g_aload_n X dX11_moveAll_77 0 rfl rfl ?_
  refine g_aload_n X dX11_moveAll_78 0 rfl rfl ?_
  refine get_11_7 X (k := 138) k_138 s_138 m_5_64 dX11_moveAll_79 ?_
  refine g_iload_n X dX11_moveAll_82 2 rfl rfl ?_
  refine g_iload_n X dX11_moveAll_83 1 rfl rfl ?_
  refine g_cs X (st := []) (fun _ hh => ok_V X (k0 := 138) (As := [.ref (ad 146), .int r14, .int a1]) wkX11_move (tm_move_8 M13 r14 a1 hh) rfl k_138 s_138 (by decide) rfl m_7_4 rfl (hRm (by decide) (by decide)) ⟨Nat.zero_le _, Nat.zero_le _⟩ (Nat.le_of_ble_eq_true rfl) dX11_moveAll_84) (fun r16 M15 _ => ?_)
  refine g_istore_n X dX11_moveAll_87 rfl (by decide) rfl [1, 2, 0] (lu := [(0, .ref (ad 138)), (1, .int a1), (2, .int r16)]) rfl ?_
  refine g_aload_n X dX11_moveAll_88 0 rfl rfl ?_
  refine g_aload_n X dX11_moveAll_89 0 rfl rfl ?_
  refine get_11_10 X (k := 138) k_138 s_138 m_5_67 dX11_moveAll_90 ?_
  refine g_iload_n X dX11_moveAll_93 2 rfl rfl ?_
  refine g_iload_n X dX11_moveAll_94 1 rfl rfl ?_
  refine g_cs X (st := []) (fun _ hh => ok_V X (k0 := 138) (As := [.ref (ad 148), .int r16, .int a1]) wkX11_move (tm_move_9 M15 r16 a1 hh) rfl k_138 s_138 (by decide) rfl m_7_4 rfl (hRm (by decide) (by decide)) ⟨Nat.zero_le _, Nat.zero_le _⟩ (Nat.le_of_ble_eq_true rfl) dX11_moveAll_95) (fun r18 M17 _ => ?_)
  refine g_istore_n X dX11_moveAll_98 rfl (by decide) rfl [1, 2, 0] (lu := [(0, .ref (ad 138)), (1, .int a1), (2, .int r18)]) rfl ?_
  refine g_aload_n X dX11_moveAll_99 0 rfl rfl ?_
  refine g_aload_n X dX11_moveAll_100 0 rfl rfl ?_
  refine get_11_11 X (k := 138) k_138 s_138 m_5_68 dX11_moveAll_101 ?_
  refine g_iload_n X dX11_moveAll_104 2 rfl rfl ?_
  refine g_iload_n X dX11_moveAll_105 1 rfl rfl ?_
  refine g_cs X (st := []) (fun _ hh => ok_V X (k0 := 138) (As := [.ref (ad 149), .int r18, .int a1]) wkX11_move (tm_move_10 M17 r18 a1 hh) rfl k_138 s_138 (by decide) rfl m_7_4 rfl (hRm (by decide) (by decide)) ⟨Nat.zero_le _, Nat.zero_le _⟩ (Nat.le_of_ble_eq_true rfl) dX11_moveAll_106) (fun r20 M19 _ => ?_)
  refine g_istore_n X dX11_moveAll_109 rfl (by decide) rfl [1, 2, 0] (lu := [(0, .ref (ad 138)), (1, .int a1), (2, .int r20)]) rfl ?_
  refine g_aload_n X dX11_moveAll_110 0 rfl rfl ?_
  refine g_aload_n X dX11_moveAll_111 0 rfl rfl ?_
  refine get_11_12 X (k := 138) k_138 s_138 m_5_69 dX11_moveAll_112 ?_
  refine g_iload_n X dX11_moveAll_115 2 rfl rfl ?_
  refine g_iload_n X dX11_moveAll_116 1 rfl rfl ?_
  refine g_cs X (st := []) (fun _ hh => ok_V X (k0 := 138) (As := [.ref (ad 150), .int r20, .int a1]) wkX11_move (tm_move_11 M19 r20 a1 hh) rfl k_138 s_138 (by decide) rfl m_7_4 rfl (hRm (by decide) (by decide)) ⟨Nat.zero_le _, Nat.zero_le _⟩ (Nat.le_of_ble_eq_true rfl) dX11_moveAll_117) (fun r22 M21 _ => ?_)
  refine g_istore_n X dX11_moveAll_120 rfl (by decide) rfl [1, 2, 0] (lu := [(0, .ref (ad 138)), (1, .int a1), (2, .int r22)]) rfl ?_
  refine g_aload_n X dX11_moveAll_121 0 rfl rfl ?_
  refine g_aload_n X dX11_moveAll_122 0 rfl rfl ?_
  refine get_11_13 X (k := 138) k_138 s_138 m_5_70 dX11_moveAll_123 ?_
  refine g_iload_n X dX11_moveAll_126 2 rfl rfl ?_
  refine g_iload_n X dX11_moveAll_127 1 rfl rfl ?_
  refine g_cs X (st := []) (fun _ hh => ok_V X (k0 := 138) (As := [.ref (ad 151), .int r22, .int a1]) wkX11_move (tm_move_12 M21 r22 a1 hh) rfl k_138 s_138 (by decide) rfl m_7_4 rfl (hRm (by decide) (by decide)) ⟨Nat.zero_le _, Nat.zero_le _⟩ (Nat.le_of_ble_eq_true rfl) dX11_moveAll_128) (fun r24 M23 _ => ?_)
  refine g_istore_n X dX11_moveAll_131 rfl (by decide) rfl [1, 2, 0] (lu := [(0, .ref (ad 138)), (1, .int a1), (2, .int r24)]) rfl ?_
  refine g_aload_n X dX11_moveAll_132 0 rfl rfl ?_
  refine g_aload_n X dX11_moveAll_133 0 rfl rfl ?_
  refine get_11_14 X (k := 138) k_138 s_138 m_5_71 dX11_moveAll_134 ?_
  refine g_iload_n X dX11_moveAll_137 2 rfl rfl ?_
  refine g_iload_n X dX11_moveAll_138 1 rfl rfl ?_
  refine g_cs X (st := []) (fun _ hh => ok_V X (k0 := 138) (As := [.ref (ad 152), .int r24, .int a1]) wkX11_move (tm_move_13 M23 r24 a1 hh) rfl k_138 s_138 (by decide) rfl m_7_4 rfl (hRm (by decide) (by decide)) ⟨Nat.zero_le _, Nat.zero_le _⟩ (Nat.le_of_ble_eq_true rfl) dX11_moveAll_139) (fun r26 M25 _ => ?_)
  refine g_istore_n X dX11_moveAll_142 rfl (by decide) rfl [1, 2, 0] (lu := [(0, .ref (ad 138)), (1, .int a1), (2, .int r26)]) rfl ?_
  refine g_aload_n X dX11_moveAll_143 0 rfl rfl ?_
  refine g_aload_n X dX11_moveAll_144 0 rfl rfl ?_
  refine get_11_15 X (k := 138) k_138 s_138 m_5_72 dX11_moveAll_145 ?_
  refine g_iload_n X dX11_moveAll_148 2 rfl rfl ?_
  refine g_iload_n X dX11_moveAll_149 1 rfl rfl ?_
  refine g_cs X (st := []) (fun _ hh => ok_V X (k0 := 138) (As := [.ref (ad 153), .int r26, .int a1]) wkX11_move (tm_move_14 M25 r26 a1 hh) rfl k_138 s_138 (by decide) rfl m_7_4 rfl (hRm (by decide) (by decide)) ⟨Nat.zero_le _, Nat.zero_le _⟩ (Nat.le_of_ble_eq_true rfl) dX11_moveAll_150) (fun r28 M27 _ => ?_)
  refine g_istore_n X dX11_moveAll_153 rfl (by decide) rfl [1, 2, 0] (lu := [(0, .ref (ad 138)), (1, .int a1), (2, .int r28)]) rfl ?_
  refine g_aload_n X dX11_moveAll_154 0 rfl rfl ?_
  refine g_aload_n X dX11_moveAll_155 0 rfl rfl ?_
  refine get_11_16 X (k := 138) k_138 s_138 m_5_73 dX11_moveAll_156 ?_
  refine g_iload_n X dX11_moveAll_159 2 rfl rfl ?_
  refine g_iload_n X dX11_moveAll_160 1 rfl rfl ?_
  refine g_cs X (st := []) (fun _ hh => ok_V X (k0 := 138) (As := [.ref (ad 154), .int r28, .int a1]) wkX11_move (tm_move_15 M27 r28 a1 hh) rfl k_138 s_138 (by decide) rfl m_7_4 rfl (hRm (by decide) (by decide)) ⟨Nat.zero_le _, Nat.zero_le _⟩ (Nat.le_of_ble_eq_true rfl) dX11_moveAll_161) (fun r30 M29 _ => ?_)
  refine g_pop X dX11_moveAll_164 rfl ?_
  exact g_vret X hr rfl dX11_moveAll_165
set_option maxRecDepth 100000 in
set_option maxHeartbeats 4000000 in
theorem tm_image {l : Launch} {D : va_G} {cy : Nat → ClassId} {ad : Nat → Nat} {N : Mem} (M : Mem) {x : (Int32 × Mem)} (h : fm_image M = some x) : Mt l D cy ad yX11_image cX11_image 1 (some .int) 3 [.ref (ad 138)] ((wfM N) M) (some (.int x.1), (wfM N) x.2) := by
  refine met_of (fin := finS) (lv0 := [(0, .ref (ad 138))]) (by decide) (Nat.le_of_ble_eq_true rfl) rfl (lM N) h (fun p e s m args below meth c X hr => ?_)
  unfold fm_image
  refine g_aload_n X dX11_image_0 0 rfl rfl ?_
  refine g_iconst X dX11_image_1 ic_1 ?_
  refine g_cv X (st := []) (fun _ hh => ok_V X (k0 := 138) (As := [.int 1]) wkX11_moveAll (tm_moveAll M 1 hh) rfl k_138 s_138 (by decide) rfl m_7_0 rfl (hRm (by decide) (by decide)) ⟨Nat.zero_le _, Nat.zero_le _⟩ (Nat.le_of_ble_eq_true rfl) dX11_image_2) (fun M1 _ => ?_)
  refine g_aload_n X dX11_image_5 0 rfl rfl ?_
  refine g_iconst X dX11_image_6 ic_1 ?_
  refine put_11_21 X (k := 138) (by decide) k_138 s_138 m_5_78 dX11_image_7 ?_
  refine g_mlet X (fun M2 => ?_)
  refine g_iconst X dX11_image_10 ic_1 ?_
  exact g_iret X hr rfl dX11_image_11
set_option maxRecDepth 100000 in
set_option maxHeartbeats 4000000 in
theorem Lm_back_L21 {l : Launch} {D : va_G} {cy : Nat → ClassId} {ad : Nat → Nat} {N : Mem} {p : Program} {e : Env} {s : State} {m : MethodId} {args : Array Value} {below : List Frame} {meth : Method} {c : Code} (X : Cx p s m args meth c cX11_back 2 RX11 D cy ad (AA ad) (wfM N) sdM) (hr : meth.sig.returnType = (some .int)) : ∀ (n : Nat) (x1 : Int32) (M : Mem), GF p l e (Rm 3) s m args below meth c 2 D cy ad (AA ad) 0 0 (wfM N) (QM D cy ad (wfM N) below args s) finS (fm_back_L21 n x1 M) 21 [(0, .ref (ad 138)), (1, .int x1)] [] M := by
  intro n
  induction n with
  | zero => intro x1 M; exact g_none
  | succ n ih =>
    intro x1 M
    rw [fm_back_L21]
    refine g_iload_n X dX11_back_21 1 rfl rfl ?_
    refine g_bipush X dX11_back_22 bi_8 ?_
    refine g_icmp_ge X 63 (by decide) dX11_back_24 (fun q24 => ?_) (fun q24 => ?_)
    · refine g_iconst X dX11_back_63 ic_1 ?_
      exact g_iret X hr rfl dX11_back_64
    · refine g_aload_n X dX11_back_27 0 rfl rfl ?_
      refine g_iload_n X dX11_back_28 1 rfl rfl ?_
      refine g_ci X (st := []) (fun _ hh => ok_V X (k0 := 138) (As := [.int x1]) wkX11_holdsJetty (tm_holdsJetty M x1 hh) rfl k_138 s_138 (by decide) rfl m_5_162 rfl (hRm (by decide) (by decide)) ⟨Nat.zero_le _, Nat.zero_le _⟩ (Nat.le_of_ble_eq_true rfl) dX11_back_29) (fun r2 _ => ?_)
      refine g_jlet X 57 (fun z57 : Mem => [(0, .ref (ad 138)), (1, .int x1)]) (fun z57 : Mem => []) (fun z57 : Mem => z57) (fun z57 => ?_) (fun J57 hJ57 => ?_)
      · show GF _ _ _ _ _ _ _ _ _ _ _ _ _ _ _ _ _ _ _ _ _ 57 [(0, .ref (ad 138)), (1, .int x1)] [] z57
        refine g_iinc X (k := 1) (v := (x1 + 1)) dX11_back_57 rfl (ii_1 _) (by decide) rfl [1, 0] (lu := [(0, .ref (ad 138)), (1, .int (x1 + 1))]) rfl ?_
        refine g_goto X 21 (by decide) dX11_back_60 ?_
        exact ih (x1 + 1) z57
      refine g_if_eq X 57 (by decide) dX11_back_32 (fun q32 => ?_) (fun q32 => ?_)
      · exact hJ57 M
      · refine g_aload_n X dX11_back_35 0 rfl rfl ?_
        refine get_11_0 X (k := 138) k_138 s_138 m_5_57 dX11_back_36 ?_
        refine g_iload_n X dX11_back_39 1 rfl rfl ?_
        refine g_iald X (n := 8) (k := 139) k_139 s_139 dX11_back_40 (fun h3 => ?_)
        refine g_aload_n X dX11_back_41 0 rfl rfl ?_
        refine get_11_18 X (k := 138) k_138 s_138 m_5_75 dX11_back_42 ?_
        refine g_iconst X dX11_back_45 ic_0 ?_
        refine g_ialdC X (n := 9) (k := 156) k_156 s_156 (by decide) dX11_back_46 ?_
        refine g_icmp_lt X 57 (by decide) dX11_back_47 (fun q47 => ?_) (fun q47 => ?_)
        · exact hJ57 M
        · refine g_aload_n X dX11_back_50 0 rfl rfl ?_
          refine get_11_0 X (k := 138) k_138 s_138 m_5_57 dX11_back_51 ?_
          refine g_iload_n X dX11_back_54 1 rfl rfl ?_
          refine g_iconst X dX11_back_55 ic_m1 ?_
          refine g_iast X (n := 8) (k := 139) k_139 s_139 dX11_back_56 (fun h5 => ?_)
          refine g_mlet X (fun M6 => ?_)
          exact hJ57 M6
set_option maxRecDepth 100000 in
set_option maxHeartbeats 4000000 in
theorem tm_back {l : Launch} {D : va_G} {cy : Nat → ClassId} {ad : Nat → Nat} {N : Mem} (M : Mem) {x : (Int32 × Mem)} (h : fm_back M = some x) : Mt l D cy ad yX11_back cX11_back 2 (some .int) 3 [.ref (ad 138)] ((wfM N) M) (some (.int x.1), (wfM N) x.2) := by
  refine met_of (fin := finS) (lv0 := [(0, .ref (ad 138))]) (by decide) (Nat.le_of_ble_eq_true rfl) rfl (lM N) h (fun p e s m args below meth c X hr => ?_)
  unfold fm_back
  refine g_aload_n X dX11_back_0 0 rfl rfl ?_
  refine get_11_21 X (k := 138) k_138 s_138 m_5_78 dX11_back_1 ?_
  refine g_if_ne X 14 (by decide) dX11_back_4 (fun q4 => ?_) (fun q4 => ?_)
  · refine g_aload_n X dX11_back_14 0 rfl rfl ?_
    refine g_iconst X dX11_back_15 ic_0 ?_
    refine g_cv X (st := []) (fun _ hh => ok_V X (k0 := 138) (As := [.int 0]) wkX11_moveAll (tm_moveAll M 0 hh) rfl k_138 s_138 (by decide) rfl m_7_0 rfl (hRm (by decide) (by decide)) ⟨Nat.zero_le _, Nat.zero_le _⟩ (Nat.le_of_ble_eq_true rfl) dX11_back_16) (fun M1 _ => ?_)
    refine g_iconst X dX11_back_19 ic_0 ?_
    refine g_istore_n X dX11_back_20 rfl (by decide) rfl [1, 0] (lu := [(0, .ref (ad 138)), (1, .int 0)]) rfl ?_
    exact Lm_back_L21  X hr     FU 0 M1
  · refine g_aload_n X dX11_back_7 0 rfl rfl ?_
    refine g_bipush X dX11_back_8 bi_m5 ?_
    refine g_cs X (st := []) (fun _ hh => ok_V X (k0 := 138) (As := [.int (-5)]) wkX11_no (tm_no M (-5) hh) rfl k_138 s_138 (by decide) rfl m_5_150 rfl (hRm (by decide) (by decide)) ⟨Nat.zero_le _, Nat.zero_le _⟩ (Nat.le_of_ble_eq_true rfl) dX11_back_10) (fun r8 M7 _ => ?_)
    exact g_iret X hr rfl dX11_back_13
set_option maxRecDepth 100000 in
set_option maxHeartbeats 4000000 in
theorem Lm_status_L49 {l : Launch} {D : va_G} {cy : Nat → ClassId} {ad : Nat → Nat} {N : Mem} {p : Program} {e : Env} {s : State} {m : MethodId} {args : Array Value} {below : List Frame} {meth : Method} {c : Code} (X : Cx p s m args meth c cX11_status 4 RX11 D cy ad (AA ad) (wfM N) sdM) (hr : meth.sig.returnType = (some .int)) (M : Mem) : ∀ (n : Nat) (x2 : Int32) (x3 : Int32), GF p l e (Rm 1) s m args below meth c 4 D cy ad (AA ad) 0 0 (wfM N) (QM D cy ad (wfM N) below args s) (finI M) (fm_status_L49 M n x2 x3) 49 [(0, .ref (ad 138)), (2, .int x2), (3, .int x3)] [] M := by
  intro n
  induction n with
  | zero => intro x2 x3; exact g_none
  | succ n ih =>
    intro x2 x3
    rw [fm_status_L49]
    refine g_iload_n X dX11_status_49 2 rfl rfl ?_
    refine g_bipush X dX11_status_50 bi_8 ?_
    refine g_icmp_ge X 73 (by decide) dX11_status_52 (fun q52 => ?_) (fun q52 => ?_)
    · refine g_iload_n X dX11_status_73 1 rfl rfl ?_
      exact g_iret X hr rfl dX11_status_74
    · refine g_aload_n X dX11_status_55 0 rfl rfl ?_
      refine get_11_0 X (k := 138) k_138 s_138 m_5_57 dX11_status_56 ?_
      refine g_iload_n X dX11_status_59 2 rfl rfl ?_
      refine g_iald X (n := 8) (k := 139) k_139 s_139 dX11_status_60 (fun h4 => ?_)
      refine g_jlet X 67 (fun z67 : Int32 => [(0, .ref (ad 138)), (2, .int z67), (3, .int x3)]) (fun z67 : Int32 => []) (fun z67 : Int32 => M) (fun z67 => ?_) (fun J67 hJ67 => ?_)
      · show GF _ _ _ _ _ _ _ _ _ _ _ _ _ _ _ _ _ _ _ _ _ 67 [(0, .ref (ad 138)), (2, .int z67), (3, .int x3)] [] M
        refine g_iinc X (k := 2) (v := (x3 + 1)) dX11_status_67 rfl (ii_1 _) (by decide) rfl [1, 2, 0] (lu := [(0, .ref (ad 138)), (2, .int z67), (3, .int (x3 + 1))]) rfl ?_
        refine g_goto X 49 (by decide) dX11_status_70 ?_
        exact ih z67 (x3 + 1)
      refine g_if_lt X 67 (by decide) dX11_status_61 (fun q61 => ?_) (fun q61 => ?_)
      · exact hJ67 x2
      · refine g_iinc X (k := 1) (v := (x2 + 1)) dX11_status_64 rfl (ii_1 _) (by decide) rfl [1, 0, 2] (lu := [(0, .ref (ad 138)), (2, .int (x2 + 1)), (3, .int x3)]) rfl ?_
        exact hJ67 (x2 + 1)
set_option maxRecDepth 100000 in
set_option maxHeartbeats 4000000 in
theorem tm_status {l : Launch} {D : va_G} {cy : Nat → ClassId} {ad : Nat → Nat} {N : Mem} (M : Mem) (a1 : Int32) {x : Int32} (h : fm_status M a1 = some x) : Mt l D cy ad yX11_status cX11_status 4 (some .int) 1 [.ref (ad 138), .int a1] ((wfM N) M) (some (.int x), (wfM N) M) := by
  refine met_of (fin := (finI M)) (lv0 := [(0, .ref (ad 138)), (1, .int a1)]) (by decide) (Nat.le_of_ble_eq_true rfl) rfl (lM N) h (fun p e s m args below meth c X hr => ?_)
  unfold fm_status
  refine g_iload_n X dX11_status_0 1 rfl rfl ?_
  refine g_jlet X 16 (fun z16 : Unit => [(0, .ref (ad 138)), (1, .int a1)]) (fun z16 : Unit => []) (fun z16 : Unit => M) (fun z16 => ?_) (fun J16 hJ16 => ?_)
  · show GF _ _ _ _ _ _ _ _ _ _ _ _ _ _ _ _ _ _ _ _ _ 16 [(0, .ref (ad 138)), (1, .int a1)] [] M
    refine g_iload_n X dX11_status_16 1 rfl rfl ?_
    refine g_iconst X dX11_status_17 ic_4 ?_
    refine g_icmp_ne X 26 (by decide) dX11_status_18 (fun q18 => ?_) (fun q18 => ?_)
    · refine g_iload_n X dX11_status_26 1 rfl rfl ?_
      refine g_iconst X dX11_status_27 ic_5 ?_
      refine g_icmp_ne X 39 (by decide) dX11_status_28 (fun q28 => ?_) (fun q28 => ?_)
      · refine g_iload_n X dX11_status_39 1 rfl rfl ?_
        refine g_bipush X dX11_status_40 bi_6 ?_
        refine g_icmp_ne X 75 (by decide) dX11_status_42 (fun q42 => ?_) (fun q42 => ?_)
        · refine g_iload_n X dX11_status_75 1 rfl rfl ?_
          refine g_bipush X dX11_status_76 bi_7 ?_
          refine g_icmp_eq X 87 (by decide) dX11_status_78 (fun q78 => ?_) (fun q78 => ?_)
          · refine g_aload_n X dX11_status_87 0 rfl rfl ?_
            refine get_11_18 X (k := 138) k_138 s_138 m_5_75 dX11_status_88 ?_
            refine g_iload_n X dX11_status_91 1 rfl rfl ?_
            refine g_iconst X dX11_status_92 ic_1 ?_
            refine g_isub X dX11_status_93 ?_
            refine g_iald X (n := 9) (k := 156) k_156 s_156 dX11_status_94 (fun h1 => ?_)
            exact g_iret X hr rfl dX11_status_95
          · refine g_iload_n X dX11_status_81 1 rfl rfl ?_
            refine g_bipush X dX11_status_82 bi_8 ?_
            refine g_icmp_ne X 96 (by decide) dX11_status_84 (fun q84 => ?_) (fun q84 => ?_)
            · refine g_iload_n X dX11_status_96 1 rfl rfl ?_
              refine g_bipush X dX11_status_97 bi_12 ?_
              refine g_icmp_lt X 120 (by decide) dX11_status_99 (fun q99 => ?_) (fun q99 => ?_)
              · refine g_iconst X dX11_status_120 ic_m1 ?_
                exact g_iret X hr rfl dX11_status_121
              · refine g_iload_n X dX11_status_102 1 rfl rfl ?_
                refine g_bipush X dX11_status_103 bi_16 ?_
                refine g_icmp_gt X 120 (by decide) dX11_status_105 (fun q105 => ?_) (fun q105 => ?_)
                · refine g_iconst X dX11_status_120 ic_m1 ?_
                  exact g_iret X hr rfl dX11_status_121
                · refine g_aload_n X dX11_status_108 0 rfl rfl ?_
                  refine get_11_20 X (k := 138) k_138 s_138 m_5_77 dX11_status_109 ?_
                  refine g_iload_n X dX11_status_112 1 rfl rfl ?_
                  refine g_bipush X dX11_status_113 bi_10 ?_
                  refine g_isub X dX11_status_115 ?_
                  refine g_iald X (n := 7) (k := 158) k_158 s_158 dX11_status_116 (fun h2 => ?_)
                  refine g_goto X 121 (by decide) dX11_status_117 ?_
                  exact g_iret X hr rfl dX11_status_121
            · refine g_aload_n X dX11_status_87 0 rfl rfl ?_
              refine get_11_18 X (k := 138) k_138 s_138 m_5_75 dX11_status_88 ?_
              refine g_iload_n X dX11_status_91 1 rfl rfl ?_
              refine g_iconst X dX11_status_92 ic_1 ?_
              refine g_isub X dX11_status_93 ?_
              refine g_iald X (n := 9) (k := 156) k_156 s_156 dX11_status_94 (fun h3 => ?_)
              exact g_iret X hr rfl dX11_status_95
        · refine g_iconst X dX11_status_45 ic_0 ?_
          refine g_istore_n X dX11_status_46 rfl (by decide) rfl [1, 0] (lu := [(0, .ref (ad 138)), (2, .int 0)]) rfl ?_
          refine g_iconst X dX11_status_47 ic_0 ?_
          refine g_istore_n X dX11_status_48 rfl (by decide) rfl [1, 2, 0] (lu := [(0, .ref (ad 138)), (2, .int 0), (3, .int 0)]) rfl ?_
          exact Lm_status_L49  X hr M    FU 0 0
      · refine g_aload_n X dX11_status_31 0 rfl rfl ?_
        refine get_11_18 X (k := 138) k_138 s_138 m_5_75 dX11_status_32 ?_
        refine g_bipush X dX11_status_35 bi_8 ?_
        refine g_ialdC X (n := 9) (k := 156) k_156 s_156 (by decide) dX11_status_37 ?_
        exact g_iret X hr rfl dX11_status_38
    · refine g_aload_n X dX11_status_21 0 rfl rfl ?_
      refine get_11_8 X (k := 138) k_138 s_138 m_5_65 dX11_status_22 ?_
      exact g_iret X hr rfl dX11_status_25
  refine g_if_lt X 16 (by decide) dX11_status_1 (fun q1 => ?_) (fun q1 => ?_)
  · exact hJ16 ()
  · refine g_iload_n X dX11_status_4 1 rfl rfl ?_
    refine g_iconst X dX11_status_5 ic_4 ?_
    refine g_icmp_ge X 16 (by decide) dX11_status_6 (fun q6 => ?_) (fun q6 => ?_)
    · exact hJ16 ()
    · refine g_aload_n X dX11_status_9 0 rfl rfl ?_
      refine get_11_18 X (k := 138) k_138 s_138 m_5_75 dX11_status_10 ?_
      refine g_iload_n X dX11_status_13 1 rfl rfl ?_
      refine g_iald X (n := 9) (k := 156) k_156 s_156 dX11_status_14 (fun h6 => ?_)
      exact g_iret X hr rfl dX11_status_15
