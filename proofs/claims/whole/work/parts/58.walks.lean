set_option maxRecDepth 100000 in
set_option maxHeartbeats 4000000 in
theorem tm_isFall {l : Launch} {D : va_G} {cy : Nat → ClassId} {ad : Nat → Nat} {N : Mem} (M : Mem) (a1 : Int32) {x : Int32} (h : fm_isFall M a1 = some x) : Mt l D cy ad yX11_isFall cX11_isFall 2 (some .boolean) 1 [.ref (ad 138), .int a1] ((wfM N) M) (some (.int x), (wfM N) M) := by
  refine met_of (fin := (finI M)) (lv0 := [(0, .ref (ad 138)), (1, .int a1)]) (by decide) (Nat.le_of_ble_eq_true rfl) rfl (lM N) h (fun p e s m args below meth c X hr => ?_)
  unfold fm_isFall
  refine g_iload_n X dX11_isFall_0 1 rfl rfl ?_
  refine g_iconst X dX11_isFall_1 ic_1 ?_
  refine g_icmp_lt X 15 (by decide) dX11_isFall_2 (fun q2 => ?_) (fun q2 => ?_)
  · refine g_iconst X dX11_isFall_15 ic_0 ?_
    exact g_zret X hr (isB_n (by decide)) rfl dX11_isFall_16
  · refine g_iload_n X dX11_isFall_5 1 rfl rfl ?_
    refine g_bipush X dX11_isFall_6 bi_20 ?_
    refine g_icmp_gt X 15 (by decide) dX11_isFall_8 (fun q8 => ?_) (fun q8 => ?_)
    · refine g_iconst X dX11_isFall_15 ic_0 ?_
      exact g_zret X hr (isB_n (by decide)) rfl dX11_isFall_16
    · refine g_iconst X dX11_isFall_11 ic_1 ?_
      refine g_goto X 16 (by decide) dX11_isFall_12 ?_
      exact g_zret X hr (isB_n (by decide)) rfl dX11_isFall_16
theorem tm_isFallT {l : Launch} {D : va_G} {cy : Nat → ClassId} {ad : Nat → Nat} {N : Mem} (M : Mem) (a1 : Int32) : Mt l D cy ad yX11_isFall cX11_isFall 2 (some .boolean) 1 [.ref (ad 138), .int a1] ((wfM N) M) (some (.int (fm_isFallT M a1)), (wfM N) M) := tm_isFall M a1 (fm_isFallE M a1)
set_option maxRecDepth 100000 in
set_option maxHeartbeats 4000000 in
theorem Lm_firstOut_L25 {l : Launch} {D : va_G} {cy : Nat → ClassId} {ad : Nat → Nat} {N : Mem} {p : Program} {e : Env} {s : State} {m : MethodId} {args : Array Value} {below : List Frame} {meth : Method} {c : Code} (X : Cx p s m args meth c cX11_firstOut 4 RX11 D cy ad (AA ad) (wfM N) sdM) (hr : meth.sig.returnType = (some .int)) (M : Mem) (b1 : Int32) (b2 : Int32) (kx61 : Option (Int32 × Mem)) (hkx61 : GF p l e (Rm 3) s m args below meth c 4 D cy ad (AA ad) 0 0 (wfM N) (QM D cy ad (wfM N) below args s) finS kx61 61 [(0, .ref (ad 138)), (1, .int b1), (2, .int b2)] [] M) : ∀ (n : Nat) (x3 : Int32), GF p l e (Rm 3) s m args below meth c 4 D cy ad (AA ad) 0 0 (wfM N) (QM D cy ad (wfM N) below args s) finS (fm_firstOut_L25 M b1 b2 kx61 n x3) 25 [(0, .ref (ad 138)), (1, .int b1), (2, .int b2), (3, .int x3)] [] M := by
  intro n
  induction n with
  | zero => intro x3; exact g_none
  | succ n ih =>
    intro x3
    rw [fm_firstOut_L25]
    refine g_iload_n X dX11_firstOut_25 3 rfl rfl ?_
    refine g_aload_n X dX11_firstOut_26 0 rfl rfl ?_
    refine get_11_18 X (k := 138) k_138 s_138 m_5_75 dX11_firstOut_27 ?_
    refine g_iconst X dX11_firstOut_30 ic_0 ?_
    refine g_ialdC X (n := 9) (k := 156) k_156 s_156 (by decide) dX11_firstOut_31 ?_
    refine g_icmp_ge X 61 (by decide) dX11_firstOut_32 (fun q32 => ?_) (fun q32 => ?_)
    · refine g_sub (lu := [(0, .ref (ad 138)), (1, .int b1), (2, .int b2)]) [0, 1, 2] rfl ?_
      exact hkx61
    · refine g_aload_n X dX11_firstOut_35 0 rfl rfl ?_
      refine g_iload_n X dX11_firstOut_36 3 rfl rfl ?_
      refine g_aload_n X dX11_firstOut_37 0 rfl rfl ?_
      refine get_11_18 X (k := 138) k_138 s_138 m_5_75 dX11_firstOut_38 ?_
      refine g_iconst X dX11_firstOut_41 ic_5 ?_
      refine g_ialdC X (n := 9) (k := 156) k_156 s_156 (by decide) dX11_firstOut_42 ?_
      refine g_iload_n X dX11_firstOut_43 2 rfl rfl ?_
      refine g_iload_n X dX11_firstOut_44 1 rfl rfl ?_
      refine g_imul X dX11_firstOut_45 ?_
      refine g_isub X dX11_firstOut_46 ?_
      refine g_ci X (st := []) (fun _ hh => ok_V X (k0 := 138) (As := [.int x3, .int ((M.1 156 (ix 5)) - (b2 * b1))]) wkX11_isOut (tm_isOut M x3 ((M.1 156 (ix 5)) - (b2 * b1)) hh) rfl k_138 s_138 (by decide) rfl m_5_218 rfl (hRm (by decide) (by decide)) ⟨Nat.zero_le _, Nat.zero_le _⟩ (Nat.le_of_ble_eq_true rfl) dX11_firstOut_47) (fun r3 _ => ?_)
      refine g_if_eq X 55 (by decide) dX11_firstOut_50 (fun q50 => ?_) (fun q50 => ?_)
      · refine g_iinc X (k := 3) (v := (x3 + 1)) dX11_firstOut_55 rfl (ii_1 _) (by decide) rfl [1, 2, 3, 0] (lu := [(0, .ref (ad 138)), (1, .int b1), (2, .int b2), (3, .int (x3 + 1))]) rfl ?_
        refine g_goto X 25 (by decide) dX11_firstOut_58 ?_
        exact ih (x3 + 1)
      · refine g_iload_n X dX11_firstOut_53 3 rfl rfl ?_
        exact g_iret X hr rfl dX11_firstOut_54
set_option maxRecDepth 100000 in
set_option maxHeartbeats 4000000 in
theorem Lm_firstOut_L17 {l : Launch} {D : va_G} {cy : Nat → ClassId} {ad : Nat → Nat} {N : Mem} {p : Program} {e : Env} {s : State} {m : MethodId} {args : Array Value} {below : List Frame} {meth : Method} {c : Code} (X : Cx p s m args meth c cX11_firstOut 4 RX11 D cy ad (AA ad) (wfM N) sdM) (hr : meth.sig.returnType = (some .int)) (M : Mem) (b1 : Int32) : ∀ (n : Nat) (x2 : Int32), GF p l e (Rm 3) s m args below meth c 4 D cy ad (AA ad) 0 0 (wfM N) (QM D cy ad (wfM N) below args s) finS (fm_firstOut_L17 M b1 n x2) 17 [(0, .ref (ad 138)), (1, .int b1), (2, .int x2)] [] M := by
  intro n
  induction n with
  | zero => intro x2; exact g_none
  | succ n ih =>
    intro x2
    rw [fm_firstOut_L17]
    refine g_iload_n X dX11_firstOut_17 2 rfl rfl ?_
    refine g_bipush X dX11_firstOut_18 bi_20 ?_
    refine g_icmp_gt X 67 (by decide) dX11_firstOut_20 (fun q20 => ?_) (fun q20 => ?_)
    · refine g_iconst X dX11_firstOut_67 ic_m1 ?_
      exact g_iret X hr rfl dX11_firstOut_68
    · refine g_iconst X dX11_firstOut_23 ic_0 ?_
      refine g_istore_n X dX11_firstOut_24 rfl (by decide) rfl [1, 2, 3, 0] (lu := [(0, .ref (ad 138)), (1, .int b1), (2, .int x2), (3, .int 0)]) rfl ?_
      refine Lm_firstOut_L25  X hr M b1 x2  _ ?_ FU 0
      · refine g_iinc X (k := 2) (v := (x2 + 1)) dX11_firstOut_61 rfl (ii_1 _) (by decide) rfl [1, 2, 0] (lu := [(0, .ref (ad 138)), (1, .int b1), (2, .int (x2 + 1))]) rfl ?_
        refine g_goto X 17 (by decide) dX11_firstOut_64 ?_
        exact ih (x2 + 1)
set_option maxRecDepth 100000 in
set_option maxHeartbeats 4000000 in
theorem tm_firstOut {l : Launch} {D : va_G} {cy : Nat → ClassId} {ad : Nat → Nat} {N : Mem} (M : Mem) (a1 : Int32) {x : (Int32 × Mem)} (h : fm_firstOut M a1 = some x) : Mt l D cy ad yX11_firstOut cX11_firstOut 4 (some .int) 3 [.ref (ad 138), .int a1] ((wfM N) M) (some (.int x.1), (wfM N) x.2) := by
  refine met_of (fin := finS) (lv0 := [(0, .ref (ad 138)), (1, .int a1)]) (by decide) (Nat.le_of_ble_eq_true rfl) rfl (lM N) h (fun p e s m args below meth c X hr => ?_)
  unfold fm_firstOut
  refine g_aload_n X dX11_firstOut_0 0 rfl rfl ?_
  refine g_iload_n X dX11_firstOut_1 1 rfl rfl ?_
  refine g_ct X (v0 := .int (fm_isFallT M a1)) (st := []) (ok_V X (k0 := 138) (As := [.int a1]) wkX11_isFall (tm_isFallT M a1) rfl k_138 s_138 (by decide) rfl m_6_191 rfl (hRm (by decide) (by decide)) ⟨Nat.zero_le _, Nat.zero_le _⟩ (Nat.le_of_ble_eq_true rfl) dX11_firstOut_2) ?_
  refine g_if_ne X 15 (by decide) dX11_firstOut_5 (fun q5 => ?_) (fun q5 => ?_)
  · refine g_iconst X dX11_firstOut_15 ic_0 ?_
    refine g_istore_n X dX11_firstOut_16 rfl (by decide) rfl [1, 2, 0] (lu := [(0, .ref (ad 138)), (1, .int a1), (2, .int 0)]) rfl ?_
    exact Lm_firstOut_L17  X hr M a1    FU 0
  · refine g_aload_n X dX11_firstOut_8 0 rfl rfl ?_
    refine g_bipush X dX11_firstOut_9 bi_m2 ?_
    refine g_cs X (st := []) (fun _ hh => ok_V X (k0 := 138) (As := [.int (-2)]) wkX11_no (tm_no M (-2) hh) rfl k_138 s_138 (by decide) rfl m_5_150 rfl (hRm (by decide) (by decide)) ⟨Nat.zero_le _, Nat.zero_le _⟩ (Nat.le_of_ble_eq_true rfl) dX11_firstOut_11) (fun r5 M4 _ => ?_)
    exact g_iret X hr rfl dX11_firstOut_14
set_option maxRecDepth 100000 in
set_option maxHeartbeats 4000000 in
theorem Lm_lifts_L113 {l : Launch} {D : va_G} {cy : Nat → ClassId} {ad : Nat → Nat} {N : Mem} {p : Program} {e : Env} {s : State} {m : MethodId} {args : Array Value} {below : List Frame} {meth : Method} {c : Code} (X : Cx p s m args meth c cX11_lifts 12 RX11 D cy ad (AA ad) (wfM N) sdM) (hr : meth.sig.returnType = (some .int)) (b1 : Int32) (b2 : Int32) (b3 : Int32) (b4 : Int32) (kx176 : Mem → Option (Int32 × Mem)) (kx153 : Mem → Option (Int32 × Mem)) (hkx176 : ∀ (M : Mem), GF p l e (Rm 4) s m args below meth c 12 D cy ad (AA ad) 0 0 (wfM N) (QM D cy ad (wfM N) below args s) finS (kx176 M) 176 [(0, .ref (ad 138)), (2, .int b2), (3, .int b3), (4, .int b4)] [] M) (hkx153 : ∀ (M : Mem), GF p l e (Rm 4) s m args below meth c 12 D cy ad (AA ad) 0 0 (wfM N) (QM D cy ad (wfM N) below args s) finS (kx153 M) 153 [(0, .ref (ad 138))] [] M) : ∀ (n : Nat) (x5 : Int32) (M : Mem), GF p l e (Rm 4) s m args below meth c 12 D cy ad (AA ad) 0 0 (wfM N) (QM D cy ad (wfM N) below args s) finS (fm_lifts_L113 b1 b2 b3 b4 kx176 kx153 n x5 M) 113 [(0, .ref (ad 138)), (1, .int b1), (2, .int b2), (3, .int b3), (4, .int b4), (5, .int x5)] [] M := by
  intro n
  induction n with
  | zero => intro x5 M; exact g_none
  | succ n ih =>
    intro x5 M
    rw [fm_lifts_L113]
    refine g_iload X dX11_lifts_113 5 rfl ?_
    refine g_iload_n X dX11_lifts_115 2 rfl rfl ?_
    refine g_icmp_ge X 176 (by decide) dX11_lifts_116 (fun q116 => ?_) (fun q116 => ?_)
    · refine g_sub (lu := [(0, .ref (ad 138)), (2, .int b2), (3, .int b3), (4, .int b4)]) [0, 2, 3, 4] rfl ?_
      exact hkx176 M
    · refine g_aload_n X dX11_lifts_119 0 rfl rfl ?_
      refine get_11_2 X (k := 138) k_138 s_138 m_5_59 dX11_lifts_120 ?_
      refine g_bipush X dX11_lifts_123 bi_40 ?_
      refine g_iload_n X dX11_lifts_125 1 rfl rfl ?_
      refine g_imul X dX11_lifts_126 ?_
      refine g_iload X dX11_lifts_127 5 rfl ?_
      refine g_iadd X dX11_lifts_129 ?_
      refine g_lald23 X (k := 141) k_141 s_141 dX11_lifts_130 (fun h20 => ?_)
      refine g_llet X (fun v21 => ?_)
      refine g_lstore X dX11_lifts_131 (by decide) rfl [1, 2, 3, 4, 5, 6, 0] (lu := [(0, .ref (ad 138)), (1, .int b1), (2, .int b2), (3, .int b3), (4, .int b4), (5, .int x5), (6, .long v21)]) rfl ?_
      refine g_lload X dX11_lifts_133 6 rfl ?_
      refine g_lconst X (v := 0) dX11_lifts_135 (by decide) ?_
      refine g_lcmp X dX11_lifts_136 ?_
      refine g_if_lt X 153 (by decide) dX11_lifts_137 (fun q137 => ?_) (fun q137 => ?_)
      · refine g_sub (lu := [(0, .ref (ad 138))]) [0] rfl ?_
        exact hkx153 M
      · refine g_lload X dX11_lifts_140 6 rfl ?_
        refine g_aload_n X dX11_lifts_142 0 rfl rfl ?_
        refine get_11_18 X (k := 138) k_138 s_138 m_5_75 dX11_lifts_143 ?_
        refine g_iconst X dX11_lifts_146 ic_0 ?_
        refine g_ialdC X (n := 9) (k := 156) k_156 s_156 (by decide) dX11_lifts_147 ?_
        refine g_i2l X dX11_lifts_148 ?_
        refine g_lcmp X dX11_lifts_149 ?_
        refine g_if_lt X 160 (by decide) dX11_lifts_150 (fun q150 => ?_) (fun q150 => ?_)
        · refine g_aload_n X dX11_lifts_160 0 rfl rfl ?_
          refine get_11_27 X (k := 138) k_138 s_138 m_5_84 dX11_lifts_161 ?_
          refine g_iload X dX11_lifts_164 5 rfl ?_
          refine g_lload X dX11_lifts_166 6 rfl ?_
          refine g_l2i X dX11_lifts_168 ?_
          refine g_iast X (n := 40) (k := 164) k_164 s_164 dX11_lifts_169 (fun h23 => ?_)
          refine g_mlet X (fun M24 => ?_)
          refine g_iinc X (k := 5) (v := (x5 + 1)) dX11_lifts_170 rfl (ii_1 _) (by decide) rfl [1, 2, 3, 4, 5, 0] (lu := [(0, .ref (ad 138)), (1, .int b1), (2, .int b2), (3, .int b3), (4, .int b4), (5, .int (x5 + 1))]) rfl ?_
          refine g_goto X 113 (by decide) dX11_lifts_173 ?_
          exact ih (x5 + 1) M24
        · refine g_sub (lu := [(0, .ref (ad 138))]) [0] rfl ?_
          exact hkx153 M
set_option maxRecDepth 100000 in
set_option maxHeartbeats 4000000 in
theorem Lm_lifts_L222 {l : Launch} {D : va_G} {cy : Nat → ClassId} {ad : Nat → Nat} {N : Mem} {p : Program} {e : Env} {s : State} {m : MethodId} {args : Array Value} {below : List Frame} {meth : Method} {c : Code} (X : Cx p s m args meth c cX11_lifts 12 RX11 D cy ad (AA ad) (wfM N) sdM) (hr : meth.sig.returnType = (some .int)) (b4 : Int32) (b7 : Int32) (b8 : Int32) (kx283 : Int32 → Int32 → Mem → Option (Int32 × Mem)) (hkx283 : ∀ (y6 : Int32) (y9 : Int32) (M : Mem), GF p l e (Rm 4) s m args below meth c 12 D cy ad (AA ad) 0 0 (wfM N) (QM D cy ad (wfM N) below args s) finS (kx283 y6 y9 M) 283 [(0, .ref (ad 138)), (4, .int b4), (6, .int y6), (8, .int b8), (9, .int y9)] [] M) : ∀ (n : Nat) (x6 : Int32) (x9 : Int32) (x10 : Int32) (x11 : Int32) (M : Mem), GF p l e (Rm 4) s m args below meth c 12 D cy ad (AA ad) 0 0 (wfM N) (QM D cy ad (wfM N) below args s) finS (fm_lifts_L222 b4 b7 b8 kx283 n x6 x9 x10 x11 M) 222 [(0, .ref (ad 138)), (4, .int b4), (6, .int x6), (7, .int b7), (8, .int b8), (9, .int x9), (10, .int x10), (11, .int x11)] [] M := by
  intro n
  induction n with
  | zero => intro x6 x9 x10 x11 M; exact g_none
  | succ n ih =>
    intro x6 x9 x10 x11 M
    rw [fm_lifts_L222]
    refine g_iload X dX11_lifts_222 7 rfl ?_
    refine g_iload X dX11_lifts_224 3 rfl ?_
    refine g_icmp_ge X 283 (by decide) dX11_lifts_226 (fun q226 => ?_) (fun q226 => ?_)
    · refine g_sub (lu := [(0, .ref (ad 138)), (4, .int b4), (6, .int x6), (8, .int b8), (9, .int x9)]) [0, 1, 2, 4, 5] rfl ?_
      exact hkx283 x6 x9 M
    · refine g_aload_n X dX11_lifts_229 0 rfl rfl ?_
      refine get_11_27 X (k := 138) k_138 s_138 m_5_84 dX11_lifts_230 ?_
      refine g_iload X dX11_lifts_233 7 rfl ?_
      refine g_iald X (n := 40) (k := 164) k_164 s_164 dX11_lifts_235 (fun h28 => ?_)
      refine g_aload_n X dX11_lifts_236 0 rfl rfl ?_
      refine get_11_23 X (k := 138) k_138 s_138 m_5_80 dX11_lifts_237 ?_
      refine g_iload X dX11_lifts_240 4 rfl ?_
      refine g_iald X (n := 20) (k := 160) k_160 s_160 dX11_lifts_242 (fun h29 => ?_)
      refine g_jlet X 277 (fun z277 : Int32 × Int32 × Int32 × Mem => [(0, .ref (ad 138)), (4, .int b4), (6, .int (z277.1)), (7, .int b7), (8, .int b8), (9, .int (z277.2.1)), (10, .int (z277.2.2.1)), (11, .int x11)]) (fun z277 : Int32 × Int32 × Int32 × Mem => []) (fun z277 : Int32 × Int32 × Int32 × Mem => (z277.2.2.2)) (fun z277 => ?_) (fun J277 hJ277 => ?_)
      · show GF _ _ _ _ _ _ _ _ _ _ _ _ _ _ _ _ _ _ _ _ _ 277 [(0, .ref (ad 138)), (4, .int b4), (6, .int (z277.1)), (7, .int b7), (8, .int b8), (9, .int (z277.2.1)), (10, .int (z277.2.2.1)), (11, .int x11)] [] (z277.2.2.2)
        refine g_iinc X (k := 7) (v := (x11 + 1)) dX11_lifts_277 rfl (ii_1 _) (by decide) rfl [1, 2, 3, 4, 5, 6, 7, 0] (lu := [(0, .ref (ad 138)), (4, .int b4), (6, .int (z277.1)), (7, .int b7), (8, .int b8), (9, .int (z277.2.1)), (10, .int (z277.2.2.1)), (11, .int (x11 + 1))]) rfl ?_
        refine g_goto X 222 (by decide) dX11_lifts_280 ?_
        exact ih (z277.1) (z277.2.1) (z277.2.2.1) (x11 + 1) (z277.2.2.2)
      refine g_icmp_ne X 252 (by decide) dX11_lifts_243 (fun q243 => ?_) (fun q243 => ?_)
      · refine g_iload X dX11_lifts_252 6 rfl ?_
        refine g_jlet X 260 (fun z260 : Int32 => [(0, .ref (ad 138)), (4, .int b4), (6, .int z260), (7, .int b7), (8, .int b8), (9, .int x9), (10, .int x10), (11, .int x11)]) (fun z260 : Int32 => []) (fun z260 : Int32 => M) (fun z260 => ?_) (fun J260 hJ260 => ?_)
        · show GF _ _ _ _ _ _ _ _ _ _ _ _ _ _ _ _ _ _ _ _ _ 260 [(0, .ref (ad 138)), (4, .int b4), (6, .int z260), (7, .int b7), (8, .int b8), (9, .int x9), (10, .int x10), (11, .int x11)] [] M
          refine g_aload_n X dX11_lifts_260 0 rfl rfl ?_
          refine get_11_27 X (k := 138) k_138 s_138 m_5_84 dX11_lifts_261 ?_
          refine g_iload X dX11_lifts_264 5 rfl ?_
          refine g_iinc X (k := 5) (v := (x9 + 1)) dX11_lifts_266 rfl (ii_1 _) (by decide) rfl [1, 2, 3, 4, 5, 0, 6, 7] (lu := [(0, .ref (ad 138)), (4, .int b4), (6, .int z260), (7, .int b7), (8, .int b8), (9, .int (x9 + 1)), (10, .int x10), (11, .int x11)]) rfl ?_
          refine g_aload_n X dX11_lifts_269 0 rfl rfl ?_
          refine get_11_27 X (k := 138) k_138 s_138 m_5_84 dX11_lifts_270 ?_
          refine g_iload X dX11_lifts_273 7 rfl ?_
          refine g_iald X (n := 40) (k := 164) k_164 s_164 dX11_lifts_275 (fun h30 => ?_)
          refine g_iast X (n := 40) (k := 164) k_164 s_164 dX11_lifts_276 (fun h31 => ?_)
          refine g_mlet X (fun M32 => ?_)
          exact hJ277 (z260, (x9 + 1), x10, M32)
        refine g_if_eq X 260 (by decide) dX11_lifts_254 (fun q254 => ?_) (fun q254 => ?_)
        · exact hJ260 x6
        · refine g_iinc X (k := 2) (v := (x6 + 1)) dX11_lifts_257 rfl (ii_1 _) (by decide) rfl [1, 2, 0, 3, 4, 5, 6, 7] (lu := [(0, .ref (ad 138)), (4, .int b4), (6, .int (x6 + 1)), (7, .int b7), (8, .int b8), (9, .int x9), (10, .int x10), (11, .int x11)]) rfl ?_
          exact hJ260 (x6 + 1)
      · refine g_iconst X dX11_lifts_246 ic_1 ?_
        refine g_istore X dX11_lifts_247 (by decide) rfl [1, 2, 3, 4, 5, 6, 0, 7] (lu := [(0, .ref (ad 138)), (4, .int b4), (6, .int x6), (7, .int b7), (8, .int b8), (9, .int x9), (10, .int 1), (11, .int x11)]) rfl ?_
        refine g_goto X 277 (by decide) dX11_lifts_249 ?_
        exact hJ277 (x6, x9, 1, M)
set_option maxRecDepth 100000 in
set_option maxHeartbeats 4000000 in
theorem Lm_lifts_L206 {l : Launch} {D : va_G} {cy : Nat → ClassId} {ad : Nat → Nat} {N : Mem} {p : Program} {e : Env} {s : State} {m : MethodId} {args : Array Value} {below : List Frame} {meth : Method} {c : Code} (X : Cx p s m args meth c cX11_lifts 12 RX11 D cy ad (AA ad) (wfM N) sdM) (hr : meth.sig.returnType = (some .int)) (b4 : Int32) : ∀ (n : Nat) (x6 : Int32) (x7 : Int32) (x8 : Int32) (M : Mem), GF p l e (Rm 4) s m args below meth c 12 D cy ad (AA ad) 0 0 (wfM N) (QM D cy ad (wfM N) below args s) finS (fm_lifts_L206 b4 n x6 x7 x8 M) 206 [(0, .ref (ad 138)), (4, .int b4), (6, .int x6), (7, .int x7), (8, .int x8)] [] M := by
  intro n
  induction n with
  | zero => intro x6 x7 x8 M; exact g_none
  | succ n ih =>
    intro x6 x7 x8 M
    rw [fm_lifts_L206]
    refine g_iload X dX11_lifts_206 4 rfl ?_
    refine g_iload X dX11_lifts_208 1 rfl ?_
    refine g_icmp_ge X 293 (by decide) dX11_lifts_210 (fun q210 => ?_) (fun q210 => ?_)
    · refine g_iload X dX11_lifts_293 2 rfl ?_
      exact g_iret X hr rfl dX11_lifts_295
    · refine g_iconst X dX11_lifts_213 ic_0 ?_
      refine g_istore X dX11_lifts_214 (by decide) rfl [1, 2, 3, 4, 5, 0] (lu := [(0, .ref (ad 138)), (4, .int b4), (6, .int x6), (7, .int x7), (8, .int x8), (9, .int 0)]) rfl ?_
      refine g_iconst X dX11_lifts_216 ic_0 ?_
      refine g_istore X dX11_lifts_217 (by decide) rfl [1, 2, 3, 4, 5, 6, 0] (lu := [(0, .ref (ad 138)), (4, .int b4), (6, .int x6), (7, .int x7), (8, .int x8), (9, .int 0), (10, .int 0)]) rfl ?_
      refine g_iconst X dX11_lifts_219 ic_0 ?_
      refine g_istore X dX11_lifts_220 (by decide) rfl [1, 2, 3, 4, 5, 6, 7, 0] (lu := [(0, .ref (ad 138)), (4, .int b4), (6, .int x6), (7, .int x7), (8, .int x8), (9, .int 0), (10, .int 0), (11, .int 0)]) rfl ?_
      refine Lm_lifts_L222  X hr b4 x7 x8  _ (fun w33 w34 M35 => ?_) FU x6 0 0 0 M
      · refine g_iload X dX11_lifts_283 4 rfl ?_
        refine g_istore X dX11_lifts_285 (by decide) rfl [1, 2, 3, 0, 4] (lu := [(0, .ref (ad 138)), (4, .int b4), (6, .int w33), (7, .int w34), (8, .int x8)]) rfl ?_
        refine g_iinc X (k := 4) (v := (x8 + 1)) dX11_lifts_287 rfl (ii_1 _) (by decide) rfl [1, 2, 3, 4, 0] (lu := [(0, .ref (ad 138)), (4, .int b4), (6, .int w33), (7, .int w34), (8, .int (x8 + 1))]) rfl ?_
        refine g_goto X 206 (by decide) dX11_lifts_290 ?_
        exact ih w33 w34 (x8 + 1) M35
set_option maxRecDepth 100000 in
set_option maxHeartbeats 4000000 in
theorem tm_lifts {l : Launch} {D : va_G} {cy : Nat → ClassId} {ad : Nat → Nat} {N : Mem} (M : Mem) (a1 : Int32) (a2 : Int32) (a3 : Int32) (a4 : Int32) {x : (Int32 × Mem)} (h : fm_lifts M a1 a2 a3 a4 = some x) : Mt l D cy ad yX11_lifts cX11_lifts 12 (some .int) 4 [.ref (ad 138), .int a1, .int a2, .int a3, .int a4] ((wfM N) M) (some (.int x.1), (wfM N) x.2) := by
  refine met_of (fin := finS) (lv0 := [(0, .ref (ad 138)), (1, .int a1), (2, .int a2), (3, .int a3), (4, .int a4)]) (by decide) (Nat.le_of_ble_eq_true rfl) rfl (lM N) h (fun p e s m args below meth c X hr => ?_)
  unfold fm_lifts
  refine g_aload_n X dX11_lifts_0 0 rfl rfl ?_
  refine g_iload_n X dX11_lifts_1 1 rfl rfl ?_
  refine g_ct X (v0 := .int (fm_isShelfT M a1)) (st := []) (ok_V X (k0 := 138) (As := [.int a1]) wkX11_isShelf (tm_isShelfT M a1) rfl k_138 s_138 (by decide) rfl m_5_146 rfl (hRm (by decide) (by decide)) ⟨Nat.zero_le _, Nat.zero_le _⟩ (Nat.le_of_ble_eq_true rfl) dX11_lifts_2) ?_
  refine g_if_eq X 38 (by decide) dX11_lifts_5 (fun q5 => ?_) (fun q5 => ?_)
  · refine g_aload_n X dX11_lifts_38 0 rfl rfl ?_
    refine g_bipush X dX11_lifts_39 bi_m2 ?_
    refine g_cs X (st := []) (fun _ hh => ok_V X (k0 := 138) (As := [.int (-2)]) wkX11_no (tm_no M (-2) hh) rfl k_138 s_138 (by decide) rfl m_5_150 rfl (hRm (by decide) (by decide)) ⟨Nat.zero_le _, Nat.zero_le _⟩ (Nat.le_of_ble_eq_true rfl) dX11_lifts_41) (fun r2 M1 _ => ?_)
    exact g_iret X hr rfl dX11_lifts_44
  · refine g_aload_n X dX11_lifts_8 0 rfl rfl ?_
    refine g_iload_n X dX11_lifts_9 3 rfl rfl ?_
    refine g_ct X (v0 := .int (fm_isShelfT M a3)) (st := []) (ok_V X (k0 := 138) (As := [.int a3]) wkX11_isShelf (tm_isShelfT M a3) rfl k_138 s_138 (by decide) rfl m_5_146 rfl (hRm (by decide) (by decide)) ⟨Nat.zero_le _, Nat.zero_le _⟩ (Nat.le_of_ble_eq_true rfl) dX11_lifts_10) ?_
    refine g_if_eq X 38 (by decide) dX11_lifts_13 (fun q13 => ?_) (fun q13 => ?_)
    · refine g_aload_n X dX11_lifts_38 0 rfl rfl ?_
      refine g_bipush X dX11_lifts_39 bi_m2 ?_
      refine g_cs X (st := []) (fun _ hh => ok_V X (k0 := 138) (As := [.int (-2)]) wkX11_no (tm_no M (-2) hh) rfl k_138 s_138 (by decide) rfl m_5_150 rfl (hRm (by decide) (by decide)) ⟨Nat.zero_le _, Nat.zero_le _⟩ (Nat.le_of_ble_eq_true rfl) dX11_lifts_41) (fun r4 M3 _ => ?_)
      exact g_iret X hr rfl dX11_lifts_44
    · refine g_iload_n X dX11_lifts_16 2 rfl rfl ?_
      refine g_if_lt X 38 (by decide) dX11_lifts_17 (fun q17 => ?_) (fun q17 => ?_)
      · refine g_aload_n X dX11_lifts_38 0 rfl rfl ?_
        refine g_bipush X dX11_lifts_39 bi_m2 ?_
        refine g_cs X (st := []) (fun _ hh => ok_V X (k0 := 138) (As := [.int (-2)]) wkX11_no (tm_no M (-2) hh) rfl k_138 s_138 (by decide) rfl m_5_150 rfl (hRm (by decide) (by decide)) ⟨Nat.zero_le _, Nat.zero_le _⟩ (Nat.le_of_ble_eq_true rfl) dX11_lifts_41) (fun r6 M5 _ => ?_)
        exact g_iret X hr rfl dX11_lifts_44
      · refine g_iload_n X dX11_lifts_20 2 rfl rfl ?_
        refine g_bipush X dX11_lifts_21 bi_40 ?_
        refine g_icmp_gt X 38 (by decide) dX11_lifts_23 (fun q23 => ?_) (fun q23 => ?_)
        · refine g_aload_n X dX11_lifts_38 0 rfl rfl ?_
          refine g_bipush X dX11_lifts_39 bi_m2 ?_
          refine g_cs X (st := []) (fun _ hh => ok_V X (k0 := 138) (As := [.int (-2)]) wkX11_no (tm_no M (-2) hh) rfl k_138 s_138 (by decide) rfl m_5_150 rfl (hRm (by decide) (by decide)) ⟨Nat.zero_le _, Nat.zero_le _⟩ (Nat.le_of_ble_eq_true rfl) dX11_lifts_41) (fun r8 M7 _ => ?_)
          exact g_iret X hr rfl dX11_lifts_44
        · refine g_iload X dX11_lifts_26 4 rfl ?_
          refine g_if_lt X 38 (by decide) dX11_lifts_28 (fun q28 => ?_) (fun q28 => ?_)
          · refine g_aload_n X dX11_lifts_38 0 rfl rfl ?_
            refine g_bipush X dX11_lifts_39 bi_m2 ?_
            refine g_cs X (st := []) (fun _ hh => ok_V X (k0 := 138) (As := [.int (-2)]) wkX11_no (tm_no M (-2) hh) rfl k_138 s_138 (by decide) rfl m_5_150 rfl (hRm (by decide) (by decide)) ⟨Nat.zero_le _, Nat.zero_le _⟩ (Nat.le_of_ble_eq_true rfl) dX11_lifts_41) (fun r10 M9 _ => ?_)
            exact g_iret X hr rfl dX11_lifts_44
          · refine g_iload X dX11_lifts_31 4 rfl ?_
            refine g_bipush X dX11_lifts_33 bi_20 ?_
            refine g_icmp_le X 45 (by decide) dX11_lifts_35 (fun q35 => ?_) (fun q35 => ?_)
            · refine g_aload_n X dX11_lifts_45 0 rfl rfl ?_
              refine g_iload_n X dX11_lifts_46 1 rfl rfl ?_
              refine g_ci X (st := []) (fun _ hh => ok_V X (k0 := 138) (As := [.int a1]) wkX11_holdsJetty (tm_holdsJetty M a1 hh) rfl k_138 s_138 (by decide) rfl m_5_162 rfl (hRm (by decide) (by decide)) ⟨Nat.zero_le _, Nat.zero_le _⟩ (Nat.le_of_ble_eq_true rfl) dX11_lifts_47) (fun r11 _ => ?_)
              refine g_if_ne X 61 (by decide) dX11_lifts_50 (fun q50 => ?_) (fun q50 => ?_)
              · refine g_aload_n X dX11_lifts_61 0 rfl rfl ?_
                refine g_bipush X dX11_lifts_62 bi_m3 ?_
                refine g_cs X (st := []) (fun _ hh => ok_V X (k0 := 138) (As := [.int (-3)]) wkX11_no (tm_no M (-3) hh) rfl k_138 s_138 (by decide) rfl m_5_150 rfl (hRm (by decide) (by decide)) ⟨Nat.zero_le _, Nat.zero_le _⟩ (Nat.le_of_ble_eq_true rfl) dX11_lifts_64) (fun r13 M12 _ => ?_)
                exact g_iret X hr rfl dX11_lifts_67
              · refine g_aload_n X dX11_lifts_53 0 rfl rfl ?_
                refine g_iload_n X dX11_lifts_54 3 rfl rfl ?_
                refine g_ci X (st := []) (fun _ hh => ok_V X (k0 := 138) (As := [.int a3]) wkX11_holdsJetty (tm_holdsJetty M a3 hh) rfl k_138 s_138 (by decide) rfl m_5_162 rfl (hRm (by decide) (by decide)) ⟨Nat.zero_le _, Nat.zero_le _⟩ (Nat.le_of_ble_eq_true rfl) dX11_lifts_55) (fun r14 _ => ?_)
                refine g_if_eq X 68 (by decide) dX11_lifts_58 (fun q58 => ?_) (fun q58 => ?_)
                · refine g_aload_n X dX11_lifts_68 0 rfl rfl ?_
                  refine get_11_0 X (k := 138) k_138 s_138 m_5_57 dX11_lifts_69 ?_
                  refine g_iload_n X dX11_lifts_72 1 rfl rfl ?_
                  refine g_iald X (n := 8) (k := 139) k_139 s_139 dX11_lifts_73 (fun h15 => ?_)
                  refine g_if_lt X 86 (by decide) dX11_lifts_74 (fun q74 => ?_) (fun q74 => ?_)
                  · refine g_aload_n X dX11_lifts_86 0 rfl rfl ?_
                    refine g_bipush X dX11_lifts_87 bi_m4 ?_
                    refine g_cs X (st := []) (fun _ hh => ok_V X (k0 := 138) (As := [.int (-4)]) wkX11_no (tm_no M (-4) hh) rfl k_138 s_138 (by decide) rfl m_5_150 rfl (hRm (by decide) (by decide)) ⟨Nat.zero_le _, Nat.zero_le _⟩ (Nat.le_of_ble_eq_true rfl) dX11_lifts_89) (fun r17 M16 _ => ?_)
                    exact g_iret X hr rfl dX11_lifts_92
                  · refine g_aload_n X dX11_lifts_77 0 rfl rfl ?_
                    refine get_11_0 X (k := 138) k_138 s_138 m_5_57 dX11_lifts_78 ?_
                    refine g_iload_n X dX11_lifts_81 3 rfl rfl ?_
                    refine g_iald X (n := 8) (k := 139) k_139 s_139 dX11_lifts_82 (fun h18 => ?_)
                    refine g_if_ge X 93 (by decide) dX11_lifts_83 (fun q83 => ?_) (fun q83 => ?_)
                    · refine g_iload_n X dX11_lifts_93 2 rfl rfl ?_
                      refine g_aload_n X dX11_lifts_94 0 rfl rfl ?_
                      refine get_11_1 X (k := 138) k_138 s_138 m_5_58 dX11_lifts_95 ?_
                      refine g_iload_n X dX11_lifts_98 1 rfl rfl ?_
                      refine g_iald X (n := 8) (k := 140) k_140 s_140 dX11_lifts_99 (fun h19 => ?_)
                      refine g_icmp_le X 110 (by decide) dX11_lifts_100 (fun q100 => ?_) (fun q100 => ?_)
                      · refine g_iconst X dX11_lifts_110 ic_0 ?_
                        refine g_istore X dX11_lifts_111 (by decide) rfl [1, 2, 3, 4, 5, 0] (lu := [(0, .ref (ad 138)), (1, .int a1), (2, .int a2), (3, .int a3), (4, .int a4), (5, .int 0)]) rfl ?_
                        refine Lm_lifts_L113  X hr a1 a2 a3 a4  _ _ (fun M25 => ?_) (fun M38 => ?_) FU 0 M
                        · refine g_aload_n X dX11_lifts_176 0 rfl rfl ?_
                          refine g_iload_n X dX11_lifts_177 2 rfl rfl ?_
                          refine g_iload X dX11_lifts_178 3 rfl ?_
                          refine g_cs X (st := []) (fun _ hh => ok_V X (k0 := 138) (As := [.int a3, .int a4]) wkX11_take (tm_take M25 a3 a4 hh) rfl k_138 s_138 (by decide) rfl m_6_138 rfl (hRm (by decide) (by decide)) ⟨Nat.zero_le _, Nat.zero_le _⟩ (Nat.le_of_ble_eq_true rfl) dX11_lifts_180) (fun r27 M26 _ => ?_)
                          refine g_istore X dX11_lifts_183 (by decide) rfl [1, 2, 4, 0] (lu := [(0, .ref (ad 138)), (2, .int a2), (4, .int a4), (5, .int r27)]) rfl ?_
                          refine g_iload X dX11_lifts_185 3 rfl ?_
                          refine g_if_ge X 197 (by decide) dX11_lifts_187 (fun q187 => ?_) (fun q187 => ?_)
                          · refine g_iconst X dX11_lifts_197 ic_0 ?_
                            refine g_istore X dX11_lifts_198 (by decide) rfl [1, 2, 3, 0] (lu := [(0, .ref (ad 138)), (2, .int a2), (4, .int a4), (6, .int 0)]) rfl ?_
                            refine g_iload_n X dX11_lifts_200 1 rfl rfl ?_
                            refine g_istore X dX11_lifts_201 (by decide) rfl [1, 3, 4, 0] (lu := [(0, .ref (ad 138)), (4, .int a4), (6, .int 0), (7, .int a2)]) rfl ?_
                            refine g_iconst X dX11_lifts_203 ic_0 ?_
                            refine g_istore X dX11_lifts_204 (by decide) rfl [1, 2, 3, 4, 0] (lu := [(0, .ref (ad 138)), (4, .int a4), (6, .int 0), (7, .int a2), (8, .int 0)]) rfl ?_
                            exact Lm_lifts_L206  X hr a4    FU 0 a2 0 M26
                          · refine g_aload_n X dX11_lifts_190 0 rfl rfl ?_
                            refine g_iload X dX11_lifts_191 3 rfl ?_
                            refine g_cs X (st := []) (fun _ hh => ok_V X (k0 := 138) (As := [.int r27]) wkX11_no (tm_no M26 r27 hh) rfl k_138 s_138 (by decide) rfl m_5_150 rfl (hRm (by decide) (by decide)) ⟨Nat.zero_le _, Nat.zero_le _⟩ (Nat.le_of_ble_eq_true rfl) dX11_lifts_193) (fun r37 M36 _ => ?_)
                            exact g_iret X hr rfl dX11_lifts_196
                        · refine g_aload_n X dX11_lifts_153 0 rfl rfl ?_
                          refine g_bipush X dX11_lifts_154 bi_m2 ?_
                          refine g_cs X (st := []) (fun _ hh => ok_V X (k0 := 138) (As := [.int (-2)]) wkX11_no (tm_no M38 (-2) hh) rfl k_138 s_138 (by decide) rfl m_5_150 rfl (hRm (by decide) (by decide)) ⟨Nat.zero_le _, Nat.zero_le _⟩ (Nat.le_of_ble_eq_true rfl) dX11_lifts_156) (fun r40 M39 _ => ?_)
                          exact g_iret X hr rfl dX11_lifts_159
                      · refine g_aload_n X dX11_lifts_103 0 rfl rfl ?_
                        refine g_bipush X dX11_lifts_104 bi_m2 ?_
                        refine g_cs X (st := []) (fun _ hh => ok_V X (k0 := 138) (As := [.int (-2)]) wkX11_no (tm_no M (-2) hh) rfl k_138 s_138 (by decide) rfl m_5_150 rfl (hRm (by decide) (by decide)) ⟨Nat.zero_le _, Nat.zero_le _⟩ (Nat.le_of_ble_eq_true rfl) dX11_lifts_106) (fun r42 M41 _ => ?_)
                        exact g_iret X hr rfl dX11_lifts_109
                    · refine g_aload_n X dX11_lifts_86 0 rfl rfl ?_
                      refine g_bipush X dX11_lifts_87 bi_m4 ?_
                      refine g_cs X (st := []) (fun _ hh => ok_V X (k0 := 138) (As := [.int (-4)]) wkX11_no (tm_no M (-4) hh) rfl k_138 s_138 (by decide) rfl m_5_150 rfl (hRm (by decide) (by decide)) ⟨Nat.zero_le _, Nat.zero_le _⟩ (Nat.le_of_ble_eq_true rfl) dX11_lifts_89) (fun r44 M43 _ => ?_)
                      exact g_iret X hr rfl dX11_lifts_92
                · refine g_aload_n X dX11_lifts_61 0 rfl rfl ?_
                  refine g_bipush X dX11_lifts_62 bi_m3 ?_
                  refine g_cs X (st := []) (fun _ hh => ok_V X (k0 := 138) (As := [.int (-3)]) wkX11_no (tm_no M (-3) hh) rfl k_138 s_138 (by decide) rfl m_5_150 rfl (hRm (by decide) (by decide)) ⟨Nat.zero_le _, Nat.zero_le _⟩ (Nat.le_of_ble_eq_true rfl) dX11_lifts_64) (fun r46 M45 _ => ?_)
                  exact g_iret X hr rfl dX11_lifts_67
            · refine g_aload_n X dX11_lifts_38 0 rfl rfl ?_
              refine g_bipush X dX11_lifts_39 bi_m2 ?_
              refine g_cs X (st := []) (fun _ hh => ok_V X (k0 := 138) (As := [.int (-2)]) wkX11_no (tm_no M (-2) hh) rfl k_138 s_138 (by decide) rfl m_5_150 rfl (hRm (by decide) (by decide)) ⟨Nat.zero_le _, Nat.zero_le _⟩ (Nat.le_of_ble_eq_true rfl) dX11_lifts_41) (fun r48 M47 _ => ?_)
              exact g_iret X hr rfl dX11_lifts_44
set_option maxRecDepth 100000 in
set_option maxHeartbeats 4000000 in
theorem tm_parcel {l : Launch} {D : va_G} {cy : Nat → ClassId} {ad : Nat → Nat} {N : Mem} (M : Mem) (a1 : Int32) (a2 : Int32) (a3 : Int32) {x : (Int32 × Mem)} (h : fm_parcel M a1 a2 a3 = some x) : Mt l D cy ad yX11_parcel cX11_parcel 5 (some .int) 2 [.ref (ad 138), .int a1, .int a2, .int a3] ((wfM N) M) (some (.int x.1), (wfM N) x.2) := by
  refine met_of (fin := finS) (lv0 := [(0, .ref (ad 138)), (1, .int a1), (2, .int a2), (3, .int a3)]) (by decide) (Nat.le_of_ble_eq_true rfl) rfl (lM N) h (fun p e s m args below meth c X hr => ?_)
  unfold fm_parcel
  refine g_aload_n X dX11_parcel_0 0 rfl rfl ?_
  refine g_iload_n X dX11_parcel_1 1 rfl rfl ?_
  refine g_ct X (v0 := .int (fm_isJettyT M a1)) (st := []) (ok_V X (k0 := 138) (As := [.int a1]) wkX11_isJetty (tm_isJettyT M a1) rfl k_138 s_138 (by decide) rfl m_5_186 rfl (hRm (by decide) (by decide)) ⟨Nat.zero_le _, Nat.zero_le _⟩ (Nat.le_of_ble_eq_true rfl) dX11_parcel_2) ?_
  refine g_if_eq X 30 (by decide) dX11_parcel_5 (fun q5 => ?_) (fun q5 => ?_)
  · refine g_aload_n X dX11_parcel_30 0 rfl rfl ?_
    refine g_bipush X dX11_parcel_31 bi_m2 ?_
    refine g_cs X (st := []) (fun _ hh => ok_V X (k0 := 138) (As := [.int (-2)]) wkX11_no (tm_no M (-2) hh) rfl k_138 s_138 (by decide) rfl m_5_150 rfl (hRm (by decide) (by decide)) ⟨Nat.zero_le _, Nat.zero_le _⟩ (Nat.le_of_ble_eq_true rfl) dX11_parcel_33) (fun r2 M1 _ => ?_)
    exact g_iret X hr rfl dX11_parcel_36
  · refine g_iload_n X dX11_parcel_8 2 rfl rfl ?_
    refine g_iconst X dX11_parcel_9 ic_1 ?_
    refine g_icmp_lt X 30 (by decide) dX11_parcel_10 (fun q10 => ?_) (fun q10 => ?_)
    · refine g_aload_n X dX11_parcel_30 0 rfl rfl ?_
      refine g_bipush X dX11_parcel_31 bi_m2 ?_
      refine g_cs X (st := []) (fun _ hh => ok_V X (k0 := 138) (As := [.int (-2)]) wkX11_no (tm_no M (-2) hh) rfl k_138 s_138 (by decide) rfl m_5_150 rfl (hRm (by decide) (by decide)) ⟨Nat.zero_le _, Nat.zero_le _⟩ (Nat.le_of_ble_eq_true rfl) dX11_parcel_33) (fun r4 M3 _ => ?_)
      exact g_iret X hr rfl dX11_parcel_36
    · refine g_iload_n X dX11_parcel_13 2 rfl rfl ?_
      refine g_bipush X dX11_parcel_14 bi_60 ?_
      refine g_icmp_gt X 30 (by decide) dX11_parcel_16 (fun q16 => ?_) (fun q16 => ?_)
      · refine g_aload_n X dX11_parcel_30 0 rfl rfl ?_
        refine g_bipush X dX11_parcel_31 bi_m2 ?_
        refine g_cs X (st := []) (fun _ hh => ok_V X (k0 := 138) (As := [.int (-2)]) wkX11_no (tm_no M (-2) hh) rfl k_138 s_138 (by decide) rfl m_5_150 rfl (hRm (by decide) (by decide)) ⟨Nat.zero_le _, Nat.zero_le _⟩ (Nat.le_of_ble_eq_true rfl) dX11_parcel_33) (fun r6 M5 _ => ?_)
        exact g_iret X hr rfl dX11_parcel_36
      · refine g_iload_n X dX11_parcel_19 3 rfl rfl ?_
        refine g_iconst X dX11_parcel_20 ic_1 ?_
        refine g_icmp_lt X 30 (by decide) dX11_parcel_21 (fun q21 => ?_) (fun q21 => ?_)
        · refine g_aload_n X dX11_parcel_30 0 rfl rfl ?_
          refine g_bipush X dX11_parcel_31 bi_m2 ?_
          refine g_cs X (st := []) (fun _ hh => ok_V X (k0 := 138) (As := [.int (-2)]) wkX11_no (tm_no M (-2) hh) rfl k_138 s_138 (by decide) rfl m_5_150 rfl (hRm (by decide) (by decide)) ⟨Nat.zero_le _, Nat.zero_le _⟩ (Nat.le_of_ble_eq_true rfl) dX11_parcel_33) (fun r8 M7 _ => ?_)
          exact g_iret X hr rfl dX11_parcel_36
        · refine g_iload_n X dX11_parcel_24 3 rfl rfl ?_
          refine g_bipush X dX11_parcel_25 bi_99 ?_
          refine g_icmp_le X 37 (by decide) dX11_parcel_27 (fun q27 => ?_) (fun q27 => ?_)
          · refine g_aload_n X dX11_parcel_37 0 rfl rfl ?_
            refine get_11_18 X (k := 138) k_138 s_138 m_5_75 dX11_parcel_38 ?_
            refine g_iconst X dX11_parcel_41 ic_3 ?_
            refine g_ialdC X (n := 9) (k := 156) k_156 s_156 (by decide) dX11_parcel_42 ?_
            refine g_bipush X dX11_parcel_43 bi_10 ?_
            refine g_icmp_ne X 55 (by decide) dX11_parcel_45 (fun q45 => ?_) (fun q45 => ?_)
            · refine g_aload_n X dX11_parcel_55 0 rfl rfl ?_
              refine get_11_18 X (k := 138) k_138 s_138 m_5_75 dX11_parcel_56 ?_
              refine g_iconst X dX11_parcel_59 ic_3 ?_
              refine g_dup2 X dX11_parcel_60 rfl rfl ?_
              refine g_ialdC X (n := 9) (k := 156) k_156 s_156 (by decide) dX11_parcel_61 ?_
              refine g_dup_x2 X dX11_parcel_62 rfl rfl rfl ?_
              refine g_iconst X dX11_parcel_63 ic_1 ?_
              refine g_iadd X dX11_parcel_64 ?_
              refine g_iastC X (n := 9) (k := 156) k_156 s_156 (by decide) dX11_parcel_65 ?_
              refine g_mlet X (fun M12 => ?_)
              refine g_ilet X (fun v13 => ?_)
              refine g_istore X dX11_parcel_66 (by decide) rfl [1, 2, 3, 4, 0] (lu := [(0, .ref (ad 138)), (1, .int a1), (2, .int a2), (3, .int a3), (4, .int v13)]) rfl ?_
              refine g_aload_n X dX11_parcel_68 0 rfl rfl ?_
              refine get_11_14 X (k := 138) k_138 s_138 m_5_71 dX11_parcel_69 ?_
              refine g_iload X dX11_parcel_72 4 rfl ?_
              refine g_iload_n X dX11_parcel_74 1 rfl rfl ?_
              refine g_iast X (n := 10) (k := 152) k_152 s_152 dX11_parcel_75 (fun h14 => ?_)
              refine g_mlet X (fun M15 => ?_)
              refine g_aload_n X dX11_parcel_76 0 rfl rfl ?_
              refine get_11_15 X (k := 138) k_138 s_138 m_5_72 dX11_parcel_77 ?_
              refine g_iload X dX11_parcel_80 4 rfl ?_
              refine g_iload_n X dX11_parcel_82 2 rfl rfl ?_
              refine g_iast X (n := 10) (k := 153) k_153 s_153 dX11_parcel_83 (fun h16 => ?_)
              refine g_mlet X (fun M17 => ?_)
              refine g_aload_n X dX11_parcel_84 0 rfl rfl ?_
              refine get_11_16 X (k := 138) k_138 s_138 m_5_73 dX11_parcel_85 ?_
              refine g_iload X dX11_parcel_88 4 rfl ?_
              refine g_iload_n X dX11_parcel_90 3 rfl rfl ?_
              refine g_iast X (n := 10) (k := 154) k_154 s_154 dX11_parcel_91 (fun h18 => ?_)
              refine g_mlet X (fun M19 => ?_)
              refine g_iload X dX11_parcel_92 4 rfl ?_
              exact g_iret X hr rfl dX11_parcel_94
            · refine g_aload_n X dX11_parcel_48 0 rfl rfl ?_
              refine g_bipush X dX11_parcel_49 bi_m6 ?_
              refine g_cs X (st := []) (fun _ hh => ok_V X (k0 := 138) (As := [.int (-6)]) wkX11_no (tm_no M (-6) hh) rfl k_138 s_138 (by decide) rfl m_5_150 rfl (hRm (by decide) (by decide)) ⟨Nat.zero_le _, Nat.zero_le _⟩ (Nat.le_of_ble_eq_true rfl) dX11_parcel_51) (fun r21 M20 _ => ?_)
              exact g_iret X hr rfl dX11_parcel_54
          · refine g_aload_n X dX11_parcel_30 0 rfl rfl ?_
            refine g_bipush X dX11_parcel_31 bi_m2 ?_
            refine g_cs X (st := []) (fun _ hh => ok_V X (k0 := 138) (As := [.int (-2)]) wkX11_no (tm_no M (-2) hh) rfl k_138 s_138 (by decide) rfl m_5_150 rfl (hRm (by decide) (by decide)) ⟨Nat.zero_le _, Nat.zero_le _⟩ (Nat.le_of_ble_eq_true rfl) dX11_parcel_33) (fun r23 M22 _ => ?_)
            exact g_iret X hr rfl dX11_parcel_36
set_option maxRecDepth 100000 in
set_option maxHeartbeats 4000000 in
theorem Lm_stops_L47 {l : Launch} {D : va_G} {cy : Nat → ClassId} {ad : Nat → Nat} {N : Mem} {p : Program} {e : Env} {s : State} {m : MethodId} {args : Array Value} {below : List Frame} {meth : Method} {c : Code} (X : Cx p s m args meth c cX11_stops 8 RX11 D cy ad (AA ad) (wfM N) sdM) (hr : meth.sig.returnType = (some .int)) (M : Mem) (b1 : Int32) (b2 : Int32) (b3 : Int32) (b4 : Int32) (kx101 : Int32 → Int32 → Option (Int32 × Mem)) (hkx101 : ∀ (y5 : Int32) (y6 : Int32), GF p l e (Rm 2) s m args below meth c 8 D cy ad (AA ad) 0 0 (wfM N) (QM D cy ad (wfM N) below args s) finS (kx101 y5 y6) 101 [(0, .ref (ad 138)), (1, .int b1), (2, .int b2), (3, .int b3), (4, .int b4), (5, .int y5), (6, .int y6)] [] M) : ∀ (n : Nat) (x5 : Int32) (x6 : Int32) (x7 : Int32), GF p l e (Rm 2) s m args below meth c 8 D cy ad (AA ad) 0 0 (wfM N) (QM D cy ad (wfM N) below args s) finS (fm_stops_L47 M b1 b2 b3 b4 kx101 n x5 x6 x7) 47 [(0, .ref (ad 138)), (1, .int b1), (2, .int b2), (3, .int b3), (4, .int b4), (5, .int x5), (6, .int x6), (7, .int x7)] [] M := by
  intro n
  induction n with
  | zero => intro x5 x6 x7; exact g_none
  | succ n ih =>
    intro x5 x6 x7
    rw [fm_stops_L47]
    refine g_iload X dX11_stops_47 7 rfl ?_
    refine g_aload_n X dX11_stops_49 0 rfl rfl ?_
    refine get_11_18 X (k := 138) k_138 s_138 m_5_75 dX11_stops_50 ?_
    refine g_iconst X dX11_stops_53 ic_3 ?_
    refine g_ialdC X (n := 9) (k := 156) k_156 s_156 (by decide) dX11_stops_54 ?_
    refine g_icmp_ge X 101 (by decide) dX11_stops_55 (fun q55 => ?_) (fun q55 => ?_)
    · refine g_sub (lu := [(0, .ref (ad 138)), (1, .int b1), (2, .int b2), (3, .int b3), (4, .int b4), (5, .int x5), (6, .int x6)]) [0, 1, 2, 3, 4, 5, 6] rfl ?_
      exact hkx101 x5 x6
    · refine g_iload X dX11_stops_58 4 rfl ?_
      refine g_iload X dX11_stops_60 7 rfl ?_
      refine g_ishr X dX11_stops_62 ?_
      refine g_iconst X dX11_stops_63 ic_1 ?_
      refine g_iand X dX11_stops_64 ?_
      refine g_jlet X 95 (fun z95 : Int32 × Int32 => [(0, .ref (ad 138)), (1, .int b1), (2, .int b2), (3, .int b3), (4, .int b4), (5, .int (z95.1)), (6, .int (z95.2)), (7, .int x7)]) (fun z95 : Int32 × Int32 => []) (fun z95 : Int32 × Int32 => M) (fun z95 => ?_) (fun J95 hJ95 => ?_)
      · show GF _ _ _ _ _ _ _ _ _ _ _ _ _ _ _ _ _ _ _ _ _ 95 [(0, .ref (ad 138)), (1, .int b1), (2, .int b2), (3, .int b3), (4, .int b4), (5, .int (z95.1)), (6, .int (z95.2)), (7, .int x7)] [] M
        refine g_iinc X (k := 7) (v := (x7 + 1)) dX11_stops_95 rfl (ii_1 _) (by decide) rfl [1, 2, 3, 4, 5, 6, 7, 0] (lu := [(0, .ref (ad 138)), (1, .int b1), (2, .int b2), (3, .int b3), (4, .int b4), (5, .int (z95.1)), (6, .int (z95.2)), (7, .int (x7 + 1))]) rfl ?_
        refine g_goto X 47 (by decide) dX11_stops_98 ?_
        exact ih (z95.1) (z95.2) (x7 + 1)
      refine g_if_ne X 71 (by decide) dX11_stops_65 (fun q65 => ?_) (fun q65 => ?_)
      · refine g_iload X dX11_stops_71 5 rfl ?_
        refine g_aload_n X dX11_stops_73 0 rfl rfl ?_
        refine get_11_15 X (k := 138) k_138 s_138 m_5_72 dX11_stops_74 ?_
        refine g_iload X dX11_stops_77 7 rfl ?_
        refine g_iald X (n := 10) (k := 153) k_153 s_153 dX11_stops_79 (fun h5 => ?_)
        refine g_iadd X dX11_stops_80 ?_
        refine g_ilet X (fun v6 => ?_)
        refine g_istore X dX11_stops_81 (by decide) rfl [1, 2, 3, 4, 5, 0, 6, 7] (lu := [(0, .ref (ad 138)), (1, .int b1), (2, .int b2), (3, .int b3), (4, .int b4), (5, .int v6), (6, .int x6), (7, .int x7)]) rfl ?_
        refine g_iload X dX11_stops_83 6 rfl ?_
        refine g_aload_n X dX11_stops_85 0 rfl rfl ?_
        refine get_11_16 X (k := 138) k_138 s_138 m_5_73 dX11_stops_86 ?_
        refine g_iload X dX11_stops_89 7 rfl ?_
        refine g_iald X (n := 10) (k := 154) k_154 s_154 dX11_stops_91 (fun h7 => ?_)
        refine g_iadd X dX11_stops_92 ?_
        refine g_ilet X (fun v8 => ?_)
        refine g_istore X dX11_stops_93 (by decide) rfl [1, 2, 3, 4, 5, 6, 0, 7] (lu := [(0, .ref (ad 138)), (1, .int b1), (2, .int b2), (3, .int b3), (4, .int b4), (5, .int v6), (6, .int v8), (7, .int x7)]) rfl ?_
        exact hJ95 (v6, v8)
      · refine g_goto X 95 (by decide) dX11_stops_68 ?_
        exact hJ95 (x5, x6)
set_option maxRecDepth 100000 in
set_option maxHeartbeats 4000000 in
theorem Lm_stops_L25 {l : Launch} {D : va_G} {cy : Nat → ClassId} {ad : Nat → Nat} {N : Mem} {p : Program} {e : Env} {s : State} {m : MethodId} {args : Array Value} {below : List Frame} {meth : Method} {c : Code} (X : Cx p s m args meth c cX11_stops 8 RX11 D cy ad (AA ad) (wfM N) sdM) (hr : meth.sig.returnType = (some .int)) (M : Mem) (b1 : Int32) : ∀ (n : Nat) (x2 : Int32) (x3 : Int32) (x4 : Int32), GF p l e (Rm 2) s m args below meth c 8 D cy ad (AA ad) 0 0 (wfM N) (QM D cy ad (wfM N) below args s) finS (fm_stops_L25 M b1 n x2 x3 x4) 25 [(0, .ref (ad 138)), (1, .int b1), (2, .int x2), (3, .int x3), (4, .int x4)] [] M := by
  intro n
  induction n with
  | zero => intro x2 x3 x4; exact g_none
  | succ n ih =>
    intro x2 x3 x4
    rw [fm_stops_L25]
    refine g_iload X dX11_stops_25 4 rfl ?_
    refine g_iconst X dX11_stops_27 ic_1 ?_
    refine g_aload_n X dX11_stops_28 0 rfl rfl ?_
    refine get_11_18 X (k := 138) k_138 s_138 m_5_75 dX11_stops_29 ?_
    refine g_iconst X dX11_stops_32 ic_3 ?_
    refine g_ialdC X (n := 9) (k := 156) k_156 s_156 (by decide) dX11_stops_33 ?_
    refine g_ishl X dX11_stops_34 ?_
    refine g_icmp_ge X 125 (by decide) dX11_stops_35 (fun q35 => ?_) (fun q35 => ?_)
    · refine g_iload_n X dX11_stops_125 2 rfl rfl ?_
      exact g_iret X hr rfl dX11_stops_126
    · refine g_iconst X dX11_stops_38 ic_0 ?_
      refine g_istore X dX11_stops_39 (by decide) rfl [1, 2, 3, 4, 5, 0] (lu := [(0, .ref (ad 138)), (1, .int b1), (2, .int x2), (3, .int x3), (4, .int x4), (5, .int 0)]) rfl ?_
      refine g_iconst X dX11_stops_41 ic_0 ?_
      refine g_istore X dX11_stops_42 (by decide) rfl [1, 2, 3, 4, 5, 6, 0] (lu := [(0, .ref (ad 138)), (1, .int b1), (2, .int x2), (3, .int x3), (4, .int x4), (5, .int 0), (6, .int 0)]) rfl ?_
      refine g_iconst X dX11_stops_44 ic_0 ?_
      refine g_istore X dX11_stops_45 (by decide) rfl [1, 2, 3, 4, 5, 6, 7, 0] (lu := [(0, .ref (ad 138)), (1, .int b1), (2, .int x2), (3, .int x3), (4, .int x4), (5, .int 0), (6, .int 0), (7, .int 0)]) rfl ?_
      refine Lm_stops_L47  X hr M b1 x2 x3 x4  _ (fun w9 w10 => ?_) FU 0 0 0
      · refine g_iload X dX11_stops_101 5 rfl ?_
        refine g_iload_n X dX11_stops_103 1 rfl rfl ?_
        refine g_jlet X 119 (fun z119 : Int32 × Int32 => [(0, .ref (ad 138)), (1, .int b1), (2, .int (z119.1)), (3, .int (z119.2)), (4, .int x4)]) (fun z119 : Int32 × Int32 => []) (fun z119 : Int32 × Int32 => M) (fun z119 => ?_) (fun J119 hJ119 => ?_)
        · show GF _ _ _ _ _ _ _ _ _ _ _ _ _ _ _ _ _ _ _ _ _ 119 [(0, .ref (ad 138)), (1, .int b1), (2, .int (z119.1)), (3, .int (z119.2)), (4, .int x4)] [] M
          refine g_iinc X (k := 4) (v := (x4 + 1)) dX11_stops_119 rfl (ii_1 _) (by decide) rfl [1, 2, 3, 4, 0] (lu := [(0, .ref (ad 138)), (1, .int b1), (2, .int (z119.1)), (3, .int (z119.2)), (4, .int (x4 + 1))]) rfl ?_
          refine g_goto X 25 (by decide) dX11_stops_122 ?_
          exact ih (z119.1) (z119.2) (x4 + 1)
        refine g_icmp_gt X 119 (by decide) dX11_stops_104 (fun q104 => ?_) (fun q104 => ?_)
        · refine g_sub (lu := [(0, .ref (ad 138)), (1, .int b1), (2, .int x2), (3, .int x3), (4, .int x4)]) [0, 1, 2, 3, 4] rfl ?_
          exact hJ119 (x2, x3)
        · refine g_iload X dX11_stops_107 6 rfl ?_
          refine g_iload_n X dX11_stops_109 3 rfl rfl ?_
          refine g_icmp_le X 119 (by decide) dX11_stops_110 (fun q110 => ?_) (fun q110 => ?_)
          · refine g_sub (lu := [(0, .ref (ad 138)), (1, .int b1), (2, .int x2), (3, .int x3), (4, .int x4)]) [0, 1, 2, 3, 4] rfl ?_
            exact hJ119 (x2, x3)
          · refine g_iload X dX11_stops_113 6 rfl ?_
            refine g_istore_n X dX11_stops_115 rfl (by decide) rfl [1, 2, 0, 4] (lu := [(0, .ref (ad 138)), (1, .int b1), (3, .int w10), (4, .int x4)]) rfl ?_
            refine g_iload X dX11_stops_116 3 rfl ?_
            refine g_istore_n X dX11_stops_118 rfl (by decide) rfl [1, 2, 0, 3, 4] (lu := [(0, .ref (ad 138)), (1, .int b1), (2, .int x4), (3, .int w10), (4, .int x4)]) rfl ?_
            exact hJ119 (x4, w10)
set_option maxRecDepth 100000 in
set_option maxHeartbeats 4000000 in
theorem tm_stops {l : Launch} {D : va_G} {cy : Nat → ClassId} {ad : Nat → Nat} {N : Mem} (M : Mem) (a1 : Int32) {x : (Int32 × Mem)} (h : fm_stops M a1 = some x) : Mt l D cy ad yX11_stops cX11_stops 8 (some .int) 2 [.ref (ad 138), .int a1] ((wfM N) M) (some (.int x.1), (wfM N) x.2) := by
  refine met_of (fin := finS) (lv0 := [(0, .ref (ad 138)), (1, .int a1)]) (by decide) (Nat.le_of_ble_eq_true rfl) rfl (lM N) h (fun p e s m args below meth c X hr => ?_)
  unfold fm_stops
  refine g_iload_n X dX11_stops_0 1 rfl rfl ?_
  refine g_if_lt X 11 (by decide) dX11_stops_1 (fun q1 => ?_) (fun q1 => ?_)
  · refine g_aload_n X dX11_stops_11 0 rfl rfl ?_
    refine g_bipush X dX11_stops_12 bi_m2 ?_
    refine g_cs X (st := []) (fun _ hh => ok_V X (k0 := 138) (As := [.int (-2)]) wkX11_no (tm_no M (-2) hh) rfl k_138 s_138 (by decide) rfl m_5_150 rfl (hRm (by decide) (by decide)) ⟨Nat.zero_le _, Nat.zero_le _⟩ (Nat.le_of_ble_eq_true rfl) dX11_stops_14) (fun r2 M1 _ => ?_)
    exact g_iret X hr rfl dX11_stops_17
  · refine g_iload_n X dX11_stops_4 1 rfl rfl ?_
    refine g_sipush X dX11_stops_5 si_600 ?_
    refine g_icmp_le X 18 (by decide) dX11_stops_8 (fun q8 => ?_) (fun q8 => ?_)
    · refine g_iconst X dX11_stops_18 ic_0 ?_
      refine g_istore_n X dX11_stops_19 rfl (by decide) rfl [1, 2, 0] (lu := [(0, .ref (ad 138)), (1, .int a1), (2, .int 0)]) rfl ?_
      refine g_iconst X dX11_stops_20 ic_0 ?_
      refine g_istore_n X dX11_stops_21 rfl (by decide) rfl [1, 2, 3, 0] (lu := [(0, .ref (ad 138)), (1, .int a1), (2, .int 0), (3, .int 0)]) rfl ?_
      refine g_iconst X dX11_stops_22 ic_1 ?_
      refine g_istore X dX11_stops_23 (by decide) rfl [1, 2, 3, 4, 0] (lu := [(0, .ref (ad 138)), (1, .int a1), (2, .int 0), (3, .int 0), (4, .int 1)]) rfl ?_
      exact Lm_stops_L25  X hr M a1    FU 0 0 1
    · refine g_aload_n X dX11_stops_11 0 rfl rfl ?_
      refine g_bipush X dX11_stops_12 bi_m2 ?_
      refine g_cs X (st := []) (fun _ hh => ok_V X (k0 := 138) (As := [.int (-2)]) wkX11_no (tm_no M (-2) hh) rfl k_138 s_138 (by decide) rfl m_5_150 rfl (hRm (by decide) (by decide)) ⟨Nat.zero_le _, Nat.zero_le _⟩ (Nat.le_of_ble_eq_true rfl) dX11_stops_14) (fun r12 M11 _ => ?_)
      exact g_iret X hr rfl dX11_stops_17
set_option maxRecDepth 100000 in
set_option maxHeartbeats 4000000 in
theorem Lm_week_L25 {l : Launch} {D : va_G} {cy : Nat → ClassId} {ad : Nat → Nat} {N : Mem} {p : Program} {e : Env} {s : State} {m : MethodId} {args : Array Value} {below : List Frame} {meth : Method} {c : Code} (X : Cx p s m args meth c cX11_week 4 RX11 D cy ad (AA ad) (wfM N) sdM) (hr : meth.sig.returnType = (some .int)) (M : Mem) (b1 : Int32) (b2 : Int32) : ∀ (n : Nat) (x3 : Int32), GF p l e (Rm 3) s m args below meth c 4 D cy ad (AA ad) 0 0 (wfM N) (QM D cy ad (wfM N) below args s) finS (fm_week_L25 M b1 b2 n x3) 25 [(0, .ref (ad 138)), (1, .int b1), (2, .int b2), (3, .int x3)] [] M := by
  intro n
  induction n with
  | zero => intro x3; exact g_none
  | succ n ih =>
    intro x3
    rw [fm_week_L25]
    refine g_iload_n X dX11_week_25 3 rfl rfl ?_
    refine g_bipush X dX11_week_26 bi_20 ?_
    refine g_icmp_gt X 57 (by decide) dX11_week_28 (fun q28 => ?_) (fun q28 => ?_)
    · refine g_iconst X dX11_week_57 ic_m1 ?_
      exact g_iret X hr rfl dX11_week_58
    · refine g_aload_n X dX11_week_31 0 rfl rfl ?_
      refine g_iload_n X dX11_week_32 1 rfl rfl ?_
      refine g_aload_n X dX11_week_33 0 rfl rfl ?_
      refine get_11_18 X (k := 138) k_138 s_138 m_5_75 dX11_week_34 ?_
      refine g_iconst X dX11_week_37 ic_5 ?_
      refine g_ialdC X (n := 9) (k := 156) k_156 s_156 (by decide) dX11_week_38 ?_
      refine g_iload_n X dX11_week_39 3 rfl rfl ?_
      refine g_iload_n X dX11_week_40 2 rfl rfl ?_
      refine g_imul X dX11_week_41 ?_
      refine g_isub X dX11_week_42 ?_
      refine g_ci X (st := []) (fun _ hh => ok_V X (k0 := 138) (As := [.int b1, .int ((M.1 156 (ix 5)) - (x3 * b2))]) wkX11_isOut (tm_isOut M b1 ((M.1 156 (ix 5)) - (x3 * b2)) hh) rfl k_138 s_138 (by decide) rfl m_5_218 rfl (hRm (by decide) (by decide)) ⟨Nat.zero_le _, Nat.zero_le _⟩ (Nat.le_of_ble_eq_true rfl) dX11_week_43) (fun r4 _ => ?_)
      refine g_if_eq X 51 (by decide) dX11_week_46 (fun q46 => ?_) (fun q46 => ?_)
      · refine g_iinc X (k := 3) (v := (x3 + 1)) dX11_week_51 rfl (ii_1 _) (by decide) rfl [1, 2, 3, 0] (lu := [(0, .ref (ad 138)), (1, .int b1), (2, .int b2), (3, .int (x3 + 1))]) rfl ?_
        refine g_goto X 25 (by decide) dX11_week_54 ?_
        exact ih (x3 + 1)
      · refine g_iload_n X dX11_week_49 3 rfl rfl ?_
        exact g_iret X hr rfl dX11_week_50
set_option maxRecDepth 100000 in
set_option maxHeartbeats 4000000 in
theorem tm_week {l : Launch} {D : va_G} {cy : Nat → ClassId} {ad : Nat → Nat} {N : Mem} (M : Mem) (a1 : Int32) (a2 : Int32) {x : (Int32 × Mem)} (h : fm_week M a1 a2 = some x) : Mt l D cy ad yX11_week cX11_week 4 (some .int) 3 [.ref (ad 138), .int a1, .int a2] ((wfM N) M) (some (.int x.1), (wfM N) x.2) := by
  refine met_of (fin := finS) (lv0 := [(0, .ref (ad 138)), (1, .int a1), (2, .int a2)]) (by decide) (Nat.le_of_ble_eq_true rfl) rfl (lM N) h (fun p e s m args below meth c X hr => ?_)
  unfold fm_week
  refine g_aload_n X dX11_week_0 0 rfl rfl ?_
  refine g_iload_n X dX11_week_1 1 rfl rfl ?_
  refine g_ct X (v0 := .int (fm_isJettyT M a1)) (st := []) (ok_V X (k0 := 138) (As := [.int a1]) wkX11_isJetty (tm_isJettyT M a1) rfl k_138 s_138 (by decide) rfl m_5_186 rfl (hRm (by decide) (by decide)) ⟨Nat.zero_le _, Nat.zero_le _⟩ (Nat.le_of_ble_eq_true rfl) dX11_week_2) ?_
  refine g_if_eq X 16 (by decide) dX11_week_5 (fun q5 => ?_) (fun q5 => ?_)
  · refine g_aload_n X dX11_week_16 0 rfl rfl ?_
    refine g_bipush X dX11_week_17 bi_m2 ?_
    refine g_cs X (st := []) (fun _ hh => ok_V X (k0 := 138) (As := [.int (-2)]) wkX11_no (tm_no M (-2) hh) rfl k_138 s_138 (by decide) rfl m_5_150 rfl (hRm (by decide) (by decide)) ⟨Nat.zero_le _, Nat.zero_le _⟩ (Nat.le_of_ble_eq_true rfl) dX11_week_19) (fun r2 M1 _ => ?_)
    exact g_iret X hr rfl dX11_week_22
  · refine g_aload_n X dX11_week_8 0 rfl rfl ?_
    refine g_iload_n X dX11_week_9 2 rfl rfl ?_
    refine g_ct X (v0 := .int (fm_isFallT M a2)) (st := []) (ok_V X (k0 := 138) (As := [.int a2]) wkX11_isFall (tm_isFallT M a2) rfl k_138 s_138 (by decide) rfl m_6_191 rfl (hRm (by decide) (by decide)) ⟨Nat.zero_le _, Nat.zero_le _⟩ (Nat.le_of_ble_eq_true rfl) dX11_week_10) ?_
    refine g_if_ne X 23 (by decide) dX11_week_13 (fun q13 => ?_) (fun q13 => ?_)
    · refine g_iconst X dX11_week_23 ic_0 ?_
      refine g_istore_n X dX11_week_24 rfl (by decide) rfl [1, 2, 3, 0] (lu := [(0, .ref (ad 138)), (1, .int a1), (2, .int a2), (3, .int 0)]) rfl ?_
      exact Lm_week_L25  X hr M a1 a2    FU 0
    · refine g_aload_n X dX11_week_16 0 rfl rfl ?_
      refine g_bipush X dX11_week_17 bi_m2 ?_
      refine g_cs X (st := []) (fun _ hh => ok_V X (k0 := 138) (As := [.int (-2)]) wkX11_no (tm_no M (-2) hh) rfl k_138 s_138 (by decide) rfl m_5_150 rfl (hRm (by decide) (by decide)) ⟨Nat.zero_le _, Nat.zero_le _⟩ (Nat.le_of_ble_eq_true rfl) dX11_week_19) (fun r6 M5 _ => ?_)
      exact g_iret X hr rfl dX11_week_22
set_option maxRecDepth 100000 in
set_option maxHeartbeats 4000000 in
theorem Lm_outs_L30 {l : Launch} {D : va_G} {cy : Nat → ClassId} {ad : Nat → Nat} {N : Mem} {p : Program} {e : Env} {s : State} {m : MethodId} {args : Array Value} {below : List Frame} {meth : Method} {c : Code} (X : Cx p s m args meth c cX11_outs 5 RX11 D cy ad (AA ad) (wfM N) sdM) (hr : meth.sig.returnType = (some .int)) (M : Mem) (b1 : Int32) (b2 : Int32) : ∀ (n : Nat) (x3 : Int32) (x4 : Int32), GF p l e (Rm 3) s m args below meth c 5 D cy ad (AA ad) 0 0 (wfM N) (QM D cy ad (wfM N) below args s) finS (fm_outs_L30 M b1 b2 n x3 x4) 30 [(0, .ref (ad 138)), (1, .int b1), (2, .int b2), (3, .int x3), (4, .int x4)] [] M := by
  intro n
  induction n with
  | zero => intro x3 x4; exact g_none
  | succ n ih =>
    intro x3 x4
    rw [fm_outs_L30]
    refine g_iload X dX11_outs_30 4 rfl ?_
    refine g_aload_n X dX11_outs_32 0 rfl rfl ?_
    refine get_11_18 X (k := 138) k_138 s_138 m_5_75 dX11_outs_33 ?_
    refine g_iconst X dX11_outs_36 ic_0 ?_
    refine g_ialdC X (n := 9) (k := 156) k_156 s_156 (by decide) dX11_outs_37 ?_
    refine g_icmp_ge X 73 (by decide) dX11_outs_38 (fun q38 => ?_) (fun q38 => ?_)
    · refine g_iload_n X dX11_outs_73 3 rfl rfl ?_
      exact g_iret X hr rfl dX11_outs_74
    · refine g_aload_n X dX11_outs_41 0 rfl rfl ?_
      refine g_iload X dX11_outs_42 4 rfl ?_
      refine g_aload_n X dX11_outs_44 0 rfl rfl ?_
      refine get_11_18 X (k := 138) k_138 s_138 m_5_75 dX11_outs_45 ?_
      refine g_iconst X dX11_outs_48 ic_5 ?_
      refine g_ialdC X (n := 9) (k := 156) k_156 s_156 (by decide) dX11_outs_49 ?_
      refine g_iload_n X dX11_outs_50 1 rfl rfl ?_
      refine g_iload_n X dX11_outs_51 2 rfl rfl ?_
      refine g_imul X dX11_outs_52 ?_
      refine g_isub X dX11_outs_53 ?_
      refine g_ci X (st := []) (fun _ hh => ok_V X (k0 := 138) (As := [.int x4, .int ((M.1 156 (ix 5)) - (b1 * b2))]) wkX11_isOut (tm_isOut M x4 ((M.1 156 (ix 5)) - (b1 * b2)) hh) rfl k_138 s_138 (by decide) rfl m_5_218 rfl (hRm (by decide) (by decide)) ⟨Nat.zero_le _, Nat.zero_le _⟩ (Nat.le_of_ble_eq_true rfl) dX11_outs_54) (fun r7 _ => ?_)
      refine g_jlet X 67 (fun z67 : Int32 => [(0, .ref (ad 138)), (1, .int b1), (2, .int b2), (3, .int z67), (4, .int x4)]) (fun z67 : Int32 => []) (fun z67 : Int32 => M) (fun z67 => ?_) (fun J67 hJ67 => ?_)
      · show GF _ _ _ _ _ _ _ _ _ _ _ _ _ _ _ _ _ _ _ _ _ 67 [(0, .ref (ad 138)), (1, .int b1), (2, .int b2), (3, .int z67), (4, .int x4)] [] M
        refine g_iinc X (k := 4) (v := (x4 + 1)) dX11_outs_67 rfl (ii_1 _) (by decide) rfl [1, 2, 3, 4, 0] (lu := [(0, .ref (ad 138)), (1, .int b1), (2, .int b2), (3, .int z67), (4, .int (x4 + 1))]) rfl ?_
        refine g_goto X 30 (by decide) dX11_outs_70 ?_
        exact ih z67 (x4 + 1)
      refine g_if_eq X 67 (by decide) dX11_outs_57 (fun q57 => ?_) (fun q57 => ?_)
      · exact hJ67 x3
      · refine g_iload_n X dX11_outs_60 3 rfl rfl ?_
        refine g_iconst X dX11_outs_61 ic_1 ?_
        refine g_iload X dX11_outs_62 4 rfl ?_
        refine g_ishl X dX11_outs_64 ?_
        refine g_ior X dX11_outs_65 ?_
        refine g_ilet X (fun v8 => ?_)
        refine g_istore_n X dX11_outs_66 rfl (by decide) rfl [1, 2, 3, 0, 4] (lu := [(0, .ref (ad 138)), (1, .int b1), (2, .int b2), (3, .int v8), (4, .int x4)]) rfl ?_
        exact hJ67 v8
set_option maxRecDepth 100000 in
set_option maxHeartbeats 4000000 in
theorem tm_outs {l : Launch} {D : va_G} {cy : Nat → ClassId} {ad : Nat → Nat} {N : Mem} (M : Mem) (a1 : Int32) (a2 : Int32) {x : (Int32 × Mem)} (h : fm_outs M a1 a2 = some x) : Mt l D cy ad yX11_outs cX11_outs 5 (some .int) 3 [.ref (ad 138), .int a1, .int a2] ((wfM N) M) (some (.int x.1), (wfM N) x.2) := by
  refine met_of (fin := finS) (lv0 := [(0, .ref (ad 138)), (1, .int a1), (2, .int a2)]) (by decide) (Nat.le_of_ble_eq_true rfl) rfl (lM N) h (fun p e s m args below meth c X hr => ?_)
  unfold fm_outs
  refine g_iload_n X dX11_outs_0 1 rfl rfl ?_
  refine g_if_lt X 18 (by decide) dX11_outs_1 (fun q1 => ?_) (fun q1 => ?_)
  · refine g_aload_n X dX11_outs_18 0 rfl rfl ?_
    refine g_bipush X dX11_outs_19 bi_m2 ?_
    refine g_cs X (st := []) (fun _ hh => ok_V X (k0 := 138) (As := [.int (-2)]) wkX11_no (tm_no M (-2) hh) rfl k_138 s_138 (by decide) rfl m_5_150 rfl (hRm (by decide) (by decide)) ⟨Nat.zero_le _, Nat.zero_le _⟩ (Nat.le_of_ble_eq_true rfl) dX11_outs_21) (fun r2 M1 _ => ?_)
    exact g_iret X hr rfl dX11_outs_24
  · refine g_iload_n X dX11_outs_4 1 rfl rfl ?_
    refine g_bipush X dX11_outs_5 bi_20 ?_
    refine g_icmp_gt X 18 (by decide) dX11_outs_7 (fun q7 => ?_) (fun q7 => ?_)
    · refine g_aload_n X dX11_outs_18 0 rfl rfl ?_
      refine g_bipush X dX11_outs_19 bi_m2 ?_
      refine g_cs X (st := []) (fun _ hh => ok_V X (k0 := 138) (As := [.int (-2)]) wkX11_no (tm_no M (-2) hh) rfl k_138 s_138 (by decide) rfl m_5_150 rfl (hRm (by decide) (by decide)) ⟨Nat.zero_le _, Nat.zero_le _⟩ (Nat.le_of_ble_eq_true rfl) dX11_outs_21) (fun r4 M3 _ => ?_)
      exact g_iret X hr rfl dX11_outs_24
    · refine g_aload_n X dX11_outs_10 0 rfl rfl ?_
      refine g_iload_n X dX11_outs_11 2 rfl rfl ?_
      refine g_ct X (v0 := .int (fm_isFallT M a2)) (st := []) (ok_V X (k0 := 138) (As := [.int a2]) wkX11_isFall (tm_isFallT M a2) rfl k_138 s_138 (by decide) rfl m_6_191 rfl (hRm (by decide) (by decide)) ⟨Nat.zero_le _, Nat.zero_le _⟩ (Nat.le_of_ble_eq_true rfl) dX11_outs_12) ?_
      refine g_if_ne X 25 (by decide) dX11_outs_15 (fun q15 => ?_) (fun q15 => ?_)
      · refine g_iconst X dX11_outs_25 ic_0 ?_
        refine g_istore_n X dX11_outs_26 rfl (by decide) rfl [1, 2, 3, 0] (lu := [(0, .ref (ad 138)), (1, .int a1), (2, .int a2), (3, .int 0)]) rfl ?_
        refine g_iconst X dX11_outs_27 ic_0 ?_
        refine g_istore X dX11_outs_28 (by decide) rfl [1, 2, 3, 4, 0] (lu := [(0, .ref (ad 138)), (1, .int a1), (2, .int a2), (3, .int 0), (4, .int 0)]) rfl ?_
        exact Lm_outs_L30  X hr M a1 a2    FU 0 0
      · refine g_aload_n X dX11_outs_18 0 rfl rfl ?_
        refine g_bipush X dX11_outs_19 bi_m2 ?_
        refine g_cs X (st := []) (fun _ hh => ok_V X (k0 := 138) (As := [.int (-2)]) wkX11_no (tm_no M (-2) hh) rfl k_138 s_138 (by decide) rfl m_5_150 rfl (hRm (by decide) (by decide)) ⟨Nat.zero_le _, Nat.zero_le _⟩ (Nat.le_of_ble_eq_true rfl) dX11_outs_21) (fun r10 M9 _ => ?_)
        exact g_iret X hr rfl dX11_outs_24
set_option maxRecDepth 100000 in
set_option maxHeartbeats 4000000 in
theorem tm_seed {l : Launch} {D : va_G} {cy : Nat → ClassId} {ad : Nat → Nat} {N : Mem} (M : Mem) (a1 : Int32) {x : (Int32 × Mem)} (h : fm_seed M a1 = some x) : Mt l D cy ad yX11_seed cX11_seed 3 (some .int) 1 [.ref (ad 138), .int a1] ((wfM N) M) (some (.int x.1), (wfM N) x.2) := by
  refine met_of (fin := finS) (lv0 := [(0, .ref (ad 138)), (1, .int a1)]) (by decide) (Nat.le_of_ble_eq_true rfl) rfl (lM N) h (fun p e s m args below meth c X hr => ?_)
  unfold fm_seed
  refine g_aload_n X dX11_seed_0 0 rfl rfl ?_
  refine get_11_18 X (k := 138) k_138 s_138 m_5_75 dX11_seed_1 ?_
  refine g_bipush X dX11_seed_4 bi_8 ?_
  refine g_ialdC X (n := 9) (k := 156) k_156 s_156 (by decide) dX11_seed_6 ?_
  refine g_ilet X (fun v2 => ?_)
  refine g_istore_n X dX11_seed_7 rfl (by decide) rfl [1, 2, 0] (lu := [(0, .ref (ad 138)), (1, .int a1), (2, .int v2)]) rfl ?_
  refine g_aload_n X dX11_seed_8 0 rfl rfl ?_
  refine get_11_18 X (k := 138) k_138 s_138 m_5_75 dX11_seed_9 ?_
  refine g_bipush X dX11_seed_12 bi_8 ?_
  refine g_iload_n X dX11_seed_14 1 rfl rfl ?_
  refine g_iastC X (n := 9) (k := 156) k_156 s_156 (by decide) dX11_seed_15 ?_
  refine g_mlet X (fun M4 => ?_)
  refine g_iload_n X dX11_seed_16 2 rfl rfl ?_
  exact g_iret X hr rfl dX11_seed_17
set_option maxRecDepth 100000 in
set_option maxHeartbeats 4000000 in
theorem Lm_begin_L77 {l : Launch} {D : va_G} {cy : Nat → ClassId} {ad : Nat → Nat} {N : Mem} {p : Program} {e : Env} {s : State} {m : MethodId} {args : Array Value} {below : List Frame} {meth : Method} {c : Code} (X : Cx p s m args meth c cX11_begin 6 RX11 D cy ad (AA ad) (wfM N) sdM) (hr : meth.sig.returnType = (some .int)) (b3 : Int32) (kx98 : Mem → Option (Int32 × Mem)) (hkx98 : ∀ (M : Mem), GF p l e (Rm 4) s m args below meth c 6 D cy ad (AA ad) 0 0 (wfM N) (QM D cy ad (wfM N) below args s) finS (kx98 M) 98 [(0, .ref (ad 138)), (3, .int b3)] [] M) : ∀ (n : Nat) (x5 : Int32) (M : Mem), GF p l e (Rm 4) s m args below meth c 6 D cy ad (AA ad) 0 0 (wfM N) (QM D cy ad (wfM N) below args s) finS (fm_begin_L77 b3 kx98 n x5 M) 77 [(0, .ref (ad 138)), (3, .int b3), (5, .int x5)] [] M := by
  intro n
  induction n with
  | zero => intro x5 M; exact g_none
  | succ n ih =>
    intro x5 M
    rw [fm_begin_L77]
    refine g_iload X dX11_begin_77 2 rfl ?_
    refine g_bipush X dX11_begin_79 bi_7 ?_
    refine g_icmp_ge X 98 (by decide) dX11_begin_81 (fun q81 => ?_) (fun q81 => ?_)
    · refine g_sub (lu := [(0, .ref (ad 138)), (3, .int b3)]) [0, 1] rfl ?_
      exact hkx98 M
    · refine g_aload_n X dX11_begin_84 0 rfl rfl ?_
      refine get_11_19 X (k := 138) k_138 s_138 m_5_76 dX11_begin_85 ?_
      refine g_iload X dX11_begin_88 2 rfl ?_
      refine g_iconst X dX11_begin_90 ic_0 ?_
      refine g_iast X (n := 28) (k := 157) k_157 s_157 dX11_begin_91 (fun h15 => ?_)
      refine g_mlet X (fun M16 => ?_)
      refine g_iinc X (k := 2) (v := (x5 + 1)) dX11_begin_92 rfl (ii_1 _) (by decide) rfl [1, 2, 0] (lu := [(0, .ref (ad 138)), (3, .int b3), (5, .int (x5 + 1))]) rfl ?_
      refine g_goto X 77 (by decide) dX11_begin_95 ?_
      exact ih (x5 + 1) M16
set_option maxRecDepth 100000 in
set_option maxHeartbeats 4000000 in
theorem Lm_begin_L115 {l : Launch} {D : va_G} {cy : Nat → ClassId} {ad : Nat → Nat} {N : Mem} {p : Program} {e : Env} {s : State} {m : MethodId} {args : Array Value} {below : List Frame} {meth : Method} {c : Code} (X : Cx p s m args meth c cX11_begin 6 RX11 D cy ad (AA ad) (wfM N) sdM) (hr : meth.sig.returnType = (some .int)) (b3 : Int32) : ∀ (n : Nat) (x5 : Int32) (M : Mem), GF p l e (Rm 4) s m args below meth c 6 D cy ad (AA ad) 0 0 (wfM N) (QM D cy ad (wfM N) below args s) finS (fm_begin_L115 b3 n x5 M) 115 [(0, .ref (ad 138)), (3, .int b3), (5, .int x5)] [] M := by
  intro n
  induction n with
  | zero => intro x5 M; exact g_none
  | succ n ih =>
    intro x5 M
    rw [fm_begin_L115]
    refine g_iload X dX11_begin_115 2 rfl ?_
    refine g_iload_n X dX11_begin_117 1 rfl rfl ?_
    refine g_icmp_ge X 144 (by decide) dX11_begin_118 (fun q118 => ?_) (fun q118 => ?_)
    · refine g_iload_n X dX11_begin_144 1 rfl rfl ?_
      exact g_iret X hr rfl dX11_begin_145
    · refine g_aload_n X dX11_begin_121 0 rfl rfl ?_
      refine get_11_19 X (k := 138) k_138 s_138 m_5_76 dX11_begin_122 ?_
      refine g_bipush X dX11_begin_125 bi_8 ?_
      refine g_iload X dX11_begin_127 2 rfl ?_
      refine g_iadd X dX11_begin_129 ?_
      refine g_aload_n X dX11_begin_130 0 rfl rfl ?_
      refine get_11_23 X (k := 138) k_138 s_138 m_5_80 dX11_begin_131 ?_
      refine g_iload X dX11_begin_134 2 rfl ?_
      refine g_iald X (n := 20) (k := 160) k_160 s_160 dX11_begin_136 (fun h21 => ?_)
      refine g_iast X (n := 28) (k := 157) k_157 s_157 dX11_begin_137 (fun h22 => ?_)
      refine g_mlet X (fun M23 => ?_)
      refine g_iinc X (k := 2) (v := (x5 + 1)) dX11_begin_138 rfl (ii_1 _) (by decide) rfl [1, 2, 0] (lu := [(0, .ref (ad 138)), (3, .int b3), (5, .int (x5 + 1))]) rfl ?_
      refine g_goto X 115 (by decide) dX11_begin_141 ?_
      exact ih (x5 + 1) M23
set_option maxRecDepth 100000 in
set_option maxHeartbeats 4000000 in
theorem tm_begin {l : Launch} {D : va_G} {cy : Nat → ClassId} {ad : Nat → Nat} {N : Mem} (M : Mem) (a1 : Int32) (a2 : Int32) (a3 : Int32) {x : (Int32 × Mem)} (h : fm_begin M a1 a2 a3 = some x) : Mt l D cy ad yX11_begin cX11_begin 6 (some .int) 4 [.ref (ad 138), .int a1, .int a2, .int a3] ((wfM N) M) (some (.int x.1), (wfM N) x.2) := by
  refine met_of (fin := finS) (lv0 := [(0, .ref (ad 138)), (1, .int a1), (2, .int a2), (3, .int a3)]) (by decide) (Nat.le_of_ble_eq_true rfl) rfl (lM N) h (fun p e s m args below meth c X hr => ?_)
  unfold fm_begin
  refine g_aload_n X dX11_begin_0 0 rfl rfl ?_
  refine g_iload_n X dX11_begin_1 1 rfl rfl ?_
  refine g_ct X (v0 := .int (fm_isLeaperT M a1)) (st := []) (ok_V X (k0 := 138) (As := [.int a1]) wkX11_isLeaper (tm_isLeaperT M a1) rfl k_138 s_138 (by decide) rfl m_6_90 rfl (hRm (by decide) (by decide)) ⟨Nat.zero_le _, Nat.zero_le _⟩ (Nat.le_of_ble_eq_true rfl) dX11_begin_2) ?_
  refine g_if_eq X 26 (by decide) dX11_begin_5 (fun q5 => ?_) (fun q5 => ?_)
  · refine g_aload_n X dX11_begin_26 0 rfl rfl ?_
    refine g_bipush X dX11_begin_27 bi_m2 ?_
    refine g_cs X (st := []) (fun _ hh => ok_V X (k0 := 138) (As := [.int (-2)]) wkX11_no (tm_no M (-2) hh) rfl k_138 s_138 (by decide) rfl m_5_150 rfl (hRm (by decide) (by decide)) ⟨Nat.zero_le _, Nat.zero_le _⟩ (Nat.le_of_ble_eq_true rfl) dX11_begin_29) (fun r2 M1 _ => ?_)
    exact g_iret X hr rfl dX11_begin_32
  · refine g_aload_n X dX11_begin_8 0 rfl rfl ?_
    refine g_iload_n X dX11_begin_9 2 rfl rfl ?_
    refine g_ct X (v0 := .int (fm_isShelfT M a2)) (st := []) (ok_V X (k0 := 138) (As := [.int a2]) wkX11_isShelf (tm_isShelfT M a2) rfl k_138 s_138 (by decide) rfl m_5_146 rfl (hRm (by decide) (by decide)) ⟨Nat.zero_le _, Nat.zero_le _⟩ (Nat.le_of_ble_eq_true rfl) dX11_begin_10) ?_
    refine g_if_eq X 26 (by decide) dX11_begin_13 (fun q13 => ?_) (fun q13 => ?_)
    · refine g_aload_n X dX11_begin_26 0 rfl rfl ?_
      refine g_bipush X dX11_begin_27 bi_m2 ?_
      refine g_cs X (st := []) (fun _ hh => ok_V X (k0 := 138) (As := [.int (-2)]) wkX11_no (tm_no M (-2) hh) rfl k_138 s_138 (by decide) rfl m_5_150 rfl (hRm (by decide) (by decide)) ⟨Nat.zero_le _, Nat.zero_le _⟩ (Nat.le_of_ble_eq_true rfl) dX11_begin_29) (fun r4 M3 _ => ?_)
      exact g_iret X hr rfl dX11_begin_32
    · refine g_iload_n X dX11_begin_16 3 rfl rfl ?_
      refine g_if_lt X 26 (by decide) dX11_begin_17 (fun q17 => ?_) (fun q17 => ?_)
      · refine g_aload_n X dX11_begin_26 0 rfl rfl ?_
        refine g_bipush X dX11_begin_27 bi_m2 ?_
        refine g_cs X (st := []) (fun _ hh => ok_V X (k0 := 138) (As := [.int (-2)]) wkX11_no (tm_no M (-2) hh) rfl k_138 s_138 (by decide) rfl m_5_150 rfl (hRm (by decide) (by decide)) ⟨Nat.zero_le _, Nat.zero_le _⟩ (Nat.le_of_ble_eq_true rfl) dX11_begin_29) (fun r6 M5 _ => ?_)
        exact g_iret X hr rfl dX11_begin_32
      · refine g_iload_n X dX11_begin_20 3 rfl rfl ?_
        refine g_bipush X dX11_begin_21 bi_20 ?_
        refine g_icmp_le X 33 (by decide) dX11_begin_23 (fun q23 => ?_) (fun q23 => ?_)
        · refine g_aload_n X dX11_begin_33 0 rfl rfl ?_
          refine g_iload_n X dX11_begin_34 2 rfl rfl ?_
          refine g_iload_n X dX11_begin_35 3 rfl rfl ?_
          refine g_cs X (st := []) (fun _ hh => ok_V X (k0 := 138) (As := [.int a2, .int a3]) wkX11_take (tm_take M a2 a3 hh) rfl k_138 s_138 (by decide) rfl m_6_138 rfl (hRm (by decide) (by decide)) ⟨Nat.zero_le _, Nat.zero_le _⟩ (Nat.le_of_ble_eq_true rfl) dX11_begin_36) (fun r8 M7 _ => ?_)
          refine g_istore X dX11_begin_39 (by decide) rfl [1, 2, 4, 0] (lu := [(0, .ref (ad 138)), (1, .int a1), (3, .int a3), (4, .int r8)]) rfl ?_
          refine g_iload X dX11_begin_41 3 rfl ?_
          refine g_if_ge X 53 (by decide) dX11_begin_43 (fun q43 => ?_) (fun q43 => ?_)
          · refine g_aload_n X dX11_begin_53 0 rfl rfl ?_
            refine get_11_19 X (k := 138) k_138 s_138 m_5_76 dX11_begin_54 ?_
            refine g_iconst X dX11_begin_57 ic_0 ?_
            refine g_iconst X dX11_begin_58 ic_1 ?_
            refine g_iastC X (n := 28) (k := 157) k_157 s_157 (by decide) dX11_begin_59 ?_
            refine g_mlet X (fun M10 => ?_)
            refine g_aload_n X dX11_begin_60 0 rfl rfl ?_
            refine get_11_19 X (k := 138) k_138 s_138 m_5_76 dX11_begin_61 ?_
            refine g_iconst X dX11_begin_64 ic_1 ?_
            refine g_iload_n X dX11_begin_65 1 rfl rfl ?_
            refine g_iastC X (n := 28) (k := 157) k_157 s_157 (by decide) dX11_begin_66 ?_
            refine g_mlet X (fun M12 => ?_)
            refine g_aload_n X dX11_begin_67 0 rfl rfl ?_
            refine get_11_19 X (k := 138) k_138 s_138 m_5_76 dX11_begin_68 ?_
            refine g_iconst X dX11_begin_71 ic_2 ?_
            refine g_iload_n X dX11_begin_72 2 rfl rfl ?_
            refine g_iastC X (n := 28) (k := 157) k_157 s_157 (by decide) dX11_begin_73 ?_
            refine g_mlet X (fun M14 => ?_)
            refine g_iconst X dX11_begin_74 ic_3 ?_
            refine g_istore X dX11_begin_75 (by decide) rfl [1, 3, 0] (lu := [(0, .ref (ad 138)), (3, .int a3), (5, .int 3)]) rfl ?_
            refine Lm_begin_L77  X hr a3  _ (fun M17 => ?_) FU 3 M14
            · refine g_aload_n X dX11_begin_98 0 rfl rfl ?_
              refine get_11_19 X (k := 138) k_138 s_138 m_5_76 dX11_begin_99 ?_
              refine g_bipush X dX11_begin_102 bi_7 ?_
              refine g_aload_n X dX11_begin_104 0 rfl rfl ?_
              refine get_11_18 X (k := 138) k_138 s_138 m_5_75 dX11_begin_105 ?_
              refine g_bipush X dX11_begin_108 bi_7 ?_
              refine g_ialdC X (n := 9) (k := 156) k_156 s_156 (by decide) dX11_begin_110 ?_
              refine g_iastC X (n := 28) (k := 157) k_157 s_157 (by decide) dX11_begin_111 ?_
              refine g_mlet X (fun M20 => ?_)
              refine g_iconst X dX11_begin_112 ic_0 ?_
              refine g_istore X dX11_begin_113 (by decide) rfl [1, 2, 0] (lu := [(0, .ref (ad 138)), (3, .int a3), (5, .int 0)]) rfl ?_
              exact Lm_begin_L115  X hr a3    FU 0 M20
          · refine g_aload_n X dX11_begin_46 0 rfl rfl ?_
            refine g_iload X dX11_begin_47 3 rfl ?_
            refine g_cs X (st := []) (fun _ hh => ok_V X (k0 := 138) (As := [.int r8]) wkX11_no (tm_no M7 r8 hh) rfl k_138 s_138 (by decide) rfl m_5_150 rfl (hRm (by decide) (by decide)) ⟨Nat.zero_le _, Nat.zero_le _⟩ (Nat.le_of_ble_eq_true rfl) dX11_begin_49) (fun r25 M24 _ => ?_)
            exact g_iret X hr rfl dX11_begin_52
        · refine g_aload_n X dX11_begin_26 0 rfl rfl ?_
          refine g_bipush X dX11_begin_27 bi_m2 ?_
          refine g_cs X (st := []) (fun _ hh => ok_V X (k0 := 138) (As := [.int (-2)]) wkX11_no (tm_no M (-2) hh) rfl k_138 s_138 (by decide) rfl m_5_150 rfl (hRm (by decide) (by decide)) ⟨Nat.zero_le _, Nat.zero_le _⟩ (Nat.le_of_ble_eq_true rfl) dX11_begin_29) (fun r27 M26 _ => ?_)
          exact g_iret X hr rfl dX11_begin_32
set_option maxRecDepth 100000 in
set_option maxHeartbeats 4000000 in
theorem tm_draw {l : Launch} {D : va_G} {cy : Nat → ClassId} {ad : Nat → Nat} {N : Mem} (M : Mem) (a1 : Int32) {x : (Int32 × Mem)} (h : fm_draw M a1 = some x) : Mt l D cy ad yX11_draw cX11_draw 2 (some .int) 1 [.ref (ad 138), .int a1] ((wfM N) M) (some (.int x.1), (wfM N) x.2) := by
  refine met_of (fin := finS) (lv0 := [(0, .ref (ad 138)), (1, .int a1)]) (by decide) (Nat.le_of_ble_eq_true rfl) rfl (lM N) h (fun p e s m args below meth c X hr => ?_)
  unfold fm_draw
  refine g_aload_n X dX11_draw_0 0 rfl rfl ?_
  refine get_11_18 X (k := 138) k_138 s_138 m_5_75 dX11_draw_1 ?_
  refine g_bipush X dX11_draw_4 bi_8 ?_
  refine g_aload_n X dX11_draw_6 0 rfl rfl ?_
  refine get_11_18 X (k := 138) k_138 s_138 m_5_75 dX11_draw_7 ?_
  refine g_bipush X dX11_draw_10 bi_8 ?_
  refine g_ialdC X (n := 9) (k := 156) k_156 s_156 (by decide) dX11_draw_12 ?_
  refine g_ldc X dX11_draw_13 m_6_231 ?_
  refine g_imul X dX11_draw_15 ?_
  refine g_sipush X dX11_draw_16 si_12345 ?_
  refine g_iadd X dX11_draw_19 ?_
  refine g_iastC X (n := 9) (k := 156) k_156 s_156 (by decide) dX11_draw_20 ?_
  refine g_mlet X (fun M3 => ?_)
  refine g_aload_n X dX11_draw_21 0 rfl rfl ?_
  refine get_11_18 X (k := 138) k_138 s_138 m_5_75 dX11_draw_22 ?_
  refine g_bipush X dX11_draw_25 bi_8 ?_
  refine g_ialdC X (n := 9) (k := 156) k_156 s_156 (by decide) dX11_draw_27 ?_
  refine g_bipush X dX11_draw_28 bi_16 ?_
  refine g_iushr X dX11_draw_30 ?_
  refine g_iload_n X dX11_draw_31 1 rfl rfl ?_
  refine g_irem X dX11_draw_32 (fun _ => ?_)
  exact g_iret X hr rfl dX11_draw_33
set_option maxRecDepth 100000 in
set_option maxHeartbeats 4000000 in
theorem tm_step {l : Launch} {D : va_G} {cy : Nat → ClassId} {ad : Nat → Nat} {N : Mem} (M : Mem) {x : (Int32 × Mem)} (h : fm_step M = some x) : Mt l D cy ad yX11_step cX11_step 9 (some .int) 6 [.ref (ad 138)] ((wfM N) M) (some (.int x.1), (wfM N) x.2) := by
  refine met_of (fin := finS) (lv0 := [(0, .ref (ad 138))]) (by decide) (Nat.le_of_ble_eq_true rfl) rfl (lM N) h (fun p e s m args below meth c X hr => ?_)
  unfold fm_step
  refine g_aload_n X dX11_step_0 0 rfl rfl ?_
  refine get_11_19 X (k := 138) k_138 s_138 m_5_76 dX11_step_1 ?_
  refine g_iconst X dX11_step_4 ic_0 ?_
  refine g_ialdC X (n := 28) (k := 157) k_157 s_157 (by decide) dX11_step_5 ?_
  refine g_if_eq X 24 (by decide) dX11_step_6 (fun q6 => ?_) (fun q6 => ?_)
  · refine g_aload_n X dX11_step_24 0 rfl rfl ?_
    refine g_bipush X dX11_step_25 bi_m5 ?_
    refine g_cs X (st := []) (fun _ hh => ok_V X (k0 := 138) (As := [.int (-5)]) wkX11_no (tm_no M (-5) hh) rfl k_138 s_138 (by decide) rfl m_5_150 rfl (hRm (by decide) (by decide)) ⟨Nat.zero_le _, Nat.zero_le _⟩ (Nat.le_of_ble_eq_true rfl) dX11_step_27) (fun r3 M2 _ => ?_)
    exact g_iret X hr rfl dX11_step_30
  · refine g_aload_n X dX11_step_9 0 rfl rfl ?_
    refine get_11_19 X (k := 138) k_138 s_138 m_5_76 dX11_step_10 ?_
    refine g_iconst X dX11_step_13 ic_3 ?_
    refine g_ialdC X (n := 28) (k := 157) k_157 s_157 (by decide) dX11_step_14 ?_
    refine g_aload_n X dX11_step_15 0 rfl rfl ?_
    refine get_11_19 X (k := 138) k_138 s_138 m_5_76 dX11_step_16 ?_
    refine g_iconst X dX11_step_19 ic_2 ?_
    refine g_ialdC X (n := 28) (k := 157) k_157 s_157 (by decide) dX11_step_20 ?_
    refine g_icmp_ne X 31 (by decide) dX11_step_21 (fun q21 => ?_) (fun q21 => ?_)
    · refine g_aload_n X dX11_step_31 0 rfl rfl ?_
      refine get_11_19 X (k := 138) k_138 s_138 m_5_76 dX11_step_32 ?_
      refine g_iconst X dX11_step_35 ic_1 ?_
      refine g_ialdC X (n := 28) (k := 157) k_157 s_157 (by decide) dX11_step_36 ?_
      refine g_ilet X (fun v7 => ?_)
      refine g_istore_n X dX11_step_37 rfl (by decide) rfl [1, 0] (lu := [(0, .ref (ad 138)), (1, .int v7)]) rfl ?_
      refine g_aload_n X dX11_step_38 0 rfl rfl ?_
      refine get_11_19 X (k := 138) k_138 s_138 m_5_76 dX11_step_39 ?_
      refine g_iconst X dX11_step_42 ic_3 ?_
      refine g_ialdC X (n := 28) (k := 157) k_157 s_157 (by decide) dX11_step_43 ?_
      refine g_ilet X (fun v9 => ?_)
      refine g_istore_n X dX11_step_44 rfl (by decide) rfl [1, 2, 0] (lu := [(0, .ref (ad 138)), (1, .int v7), (2, .int v9)]) rfl ?_
      refine g_aload_n X dX11_step_45 0 rfl rfl ?_
      refine get_11_19 X (k := 138) k_138 s_138 m_5_76 dX11_step_46 ?_
      refine g_bipush X dX11_step_49 bi_8 ?_
      refine g_iload_n X dX11_step_51 2 rfl rfl ?_
      refine g_iadd X dX11_step_52 ?_
      refine g_iald X (n := 28) (k := 157) k_157 s_157 dX11_step_53 (fun h10 => ?_)
      refine g_ilet X (fun v11 => ?_)
      refine g_istore_n X dX11_step_54 rfl (by decide) rfl [1, 2, 3, 0] (lu := [(0, .ref (ad 138)), (1, .int v7), (2, .int v9), (3, .int v11)]) rfl ?_
      refine g_iload_n X dX11_step_55 2 rfl rfl ?_
      refine g_jlet X 83 (fun z83 : Int32 => [(0, .ref (ad 138)), (1, .int v7), (3, .int v11)]) (fun z83 : Int32 => [.int z83]) (fun z83 : Int32 => M) (fun z83 => ?_) (fun J83 hJ83 => ?_)
      · show GF _ _ _ _ _ _ _ _ _ _ _ _ _ _ _ _ _ _ _ _ _ 83 [(0, .ref (ad 138)), (1, .int v7), (3, .int v11)] [.int z83] M
        refine g_istore X dX11_step_83 (by decide) rfl [1, 2, 3, 0] (lu := [(0, .ref (ad 138)), (1, .int v7), (3, .int v11), (4, .int z83)]) rfl ?_
        refine g_aload_n X dX11_step_85 0 rfl rfl ?_
        refine get_11_19 X (k := 138) k_138 s_138 m_5_76 dX11_step_86 ?_
        refine g_iconst X dX11_step_89 ic_4 ?_
        refine g_ialdC X (n := 28) (k := 157) k_157 s_157 (by decide) dX11_step_90 ?_
        refine g_aload_n X dX11_step_91 0 rfl rfl ?_
        refine g_iload X dX11_step_92 3 rfl ?_
        refine g_aload_n X dX11_step_94 0 rfl rfl ?_
        refine get_11_4 X (k := 138) k_138 s_138 m_5_61 dX11_step_95 ?_
        refine g_iload_n X dX11_step_98 2 rfl rfl ?_
        refine g_iald X (n := 20) (k := 143) k_143 s_143 dX11_step_99 (fun h13 => ?_)
        refine g_ci X (st := [.int (M.1 157 (ix 4))]) (fun _ hh => ok_V X (k0 := 138) (As := [.int z83, .int (M.1 143 (ix v11))]) wkX11_legOf (tm_legOf M z83 (M.1 143 (ix v11)) hh) rfl k_138 s_138 (by decide) rfl m_6_126 rfl (hRm (by decide) (by decide)) ⟨Nat.zero_le _, Nat.zero_le _⟩ (Nat.le_of_ble_eq_true rfl) dX11_step_100) (fun r14 _ => ?_)
        refine g_iadd X dX11_step_103 ?_
        refine g_ilet X (fun v15 => ?_)
        refine g_istore X dX11_step_104 (by decide) rfl [1, 2, 3, 0] (lu := [(0, .ref (ad 138)), (1, .int v7), (3, .int v11), (5, .int v15)]) rfl ?_
        refine g_aload_n X dX11_step_106 0 rfl rfl ?_
        refine g_iload_n X dX11_step_107 1 rfl rfl ?_
        refine g_iload_n X dX11_step_108 2 rfl rfl ?_
        refine g_aload_n X dX11_step_109 0 rfl rfl ?_
        refine g_iload X dX11_step_110 3 rfl ?_
        refine g_ct X (v0 := .int (fm_hourOfT M v15)) (st := [.int v11, .int v7, .ref (ad 138)]) (ok_V X (k0 := 138) (As := [.int v15]) wkX11_hourOf (tm_hourOfT M v15) rfl k_138 s_138 (by decide) rfl m_6_146 rfl (hRm (by decide) (by decide)) ⟨Nat.zero_le _, Nat.zero_le _⟩ (Nat.le_of_ble_eq_true rfl) dX11_step_112) ?_
        refine g_ci X (st := []) (fun _ hh => ok_V X (k0 := 138) (As := [.int v7, .int v11, .int (fm_hourOfT M v15)]) wkX11_riskOf (tm_riskOf M v7 v11 (fm_hourOfT M v15) hh) rfl k_138 s_138 (by decide) rfl m_6_114 rfl (hRm (by decide) (by decide)) ⟨Nat.zero_le _, Nat.zero_le _⟩ (Nat.le_of_ble_eq_true rfl) dX11_step_115) (fun r16 _ => ?_)
        refine g_istore X dX11_step_118 (by decide) rfl [1, 2, 4, 0] (lu := [(0, .ref (ad 138)), (1, .int v7), (5, .int v15), (6, .int r16)]) rfl ?_
        refine g_aload_n X dX11_step_120 0 rfl rfl ?_
        refine g_sipush X dX11_step_121 si_1000 ?_
        refine g_cs X (st := []) (fun _ hh => ok_V X (k0 := 138) (As := [.int 1000]) wkX11_draw (tm_draw M 1000 hh) rfl k_138 s_138 (by decide) rfl m_6_227 rfl (hRm (by decide) (by decide)) ⟨Nat.zero_le _, Nat.zero_le _⟩ (Nat.le_of_ble_eq_true rfl) dX11_step_124) (fun r18 M17 _ => ?_)
        refine g_istore X dX11_step_127 (by decide) rfl [1, 2, 3, 4, 0] (lu := [(0, .ref (ad 138)), (1, .int v7), (5, .int v15), (6, .int r16), (7, .int r18)]) rfl ?_
        refine g_iload X dX11_step_129 4 rfl ?_
        refine g_iload X dX11_step_131 3 rfl ?_
        refine g_bipush X dX11_step_133 bi_10 ?_
        refine g_idivC X dX11_step_135 (by decide) ?_
        refine g_jlet X 155 (fun z155 : Int32 => [(0, .ref (ad 138)), (1, .int v7), (5, .int v15)]) (fun z155 : Int32 => [.int z155]) (fun z155 : Int32 => M17) (fun z155 => ?_) (fun J155 hJ155 => ?_)
        · show GF _ _ _ _ _ _ _ _ _ _ _ _ _ _ _ _ _ _ _ _ _ 155 [(0, .ref (ad 138)), (1, .int v7), (5, .int v15)] [.int z155] M17
          refine g_istore X dX11_step_155 (by decide) rfl [1, 2, 3, 0] (lu := [(0, .ref (ad 138)), (1, .int v7), (5, .int v15), (8, .int z155)]) rfl ?_
          refine g_aload_n X dX11_step_157 0 rfl rfl ?_
          refine get_11_19 X (k := 138) k_138 s_138 m_5_76 dX11_step_158 ?_
          refine g_iconst X dX11_step_161 ic_3 ?_
          refine g_dup2 X dX11_step_162 rfl rfl ?_
          refine g_ialdC X (n := 28) (k := 157) k_157 s_157 (by decide) dX11_step_163 ?_
          refine g_iconst X dX11_step_164 ic_1 ?_
          refine g_iadd X dX11_step_165 ?_
          refine g_iastC X (n := 28) (k := 157) k_157 s_157 (by decide) dX11_step_166 ?_
          refine g_mlet X (fun M21 => ?_)
          refine g_aload_n X dX11_step_167 0 rfl rfl ?_
          refine get_11_19 X (k := 138) k_138 s_138 m_5_76 dX11_step_168 ?_
          refine g_iconst X dX11_step_171 ic_4 ?_
          refine g_iload X dX11_step_172 2 rfl ?_
          refine g_iconst X dX11_step_174 ic_1 ?_
          refine g_iadd X dX11_step_175 ?_
          refine g_iload X dX11_step_176 3 rfl ?_
          refine g_iconst X dX11_step_178 ic_2 ?_
          refine g_jlet X 193 (fun z193 : Int32 => [(0, .ref (ad 138)), (1, .int v7), (8, .int z155)]) (fun z193 : Int32 => [.int z193, .int (v15 + 1), .int 4, .ref (ad 157)]) (fun z193 : Int32 => M21) (fun z193 => ?_) (fun J193 hJ193 => ?_)
          · show GF _ _ _ _ _ _ _ _ _ _ _ _ _ _ _ _ _ _ _ _ _ 193 [(0, .ref (ad 138)), (1, .int v7), (8, .int z155)] [.int z193, .int (v15 + 1), .int 4, .ref (ad 157)] M21
            refine g_iadd X dX11_step_193 ?_
            refine g_iastC X (n := 28) (k := 157) k_157 s_157 (by decide) dX11_step_194 ?_
            refine g_mlet X (fun M23 => ?_)
            refine g_iload X dX11_step_195 2 rfl ?_
            refine g_iconst X dX11_step_197 ic_1 ?_
            refine g_jlet X 211 (fun z211 : Mem => [(0, .ref (ad 138)), (1, .int v7), (8, .int z155)]) (fun z211 : Mem => []) (fun z211 : Mem => z211) (fun z211 => ?_) (fun J211 hJ211 => ?_)
            · show GF _ _ _ _ _ _ _ _ _ _ _ _ _ _ _ _ _ _ _ _ _ 211 [(0, .ref (ad 138)), (1, .int v7), (8, .int z155)] [] z211
              refine g_iload X dX11_step_211 2 rfl ?_
              refine g_iconst X dX11_step_213 ic_2 ?_
              refine g_jlet X 228 (fun z228 : Mem => [(0, .ref (ad 138)), (1, .int v7), (8, .int z155)]) (fun z228 : Mem => []) (fun z228 : Mem => z228) (fun z228 => ?_) (fun J228 hJ228 => ?_)
              · show GF _ _ _ _ _ _ _ _ _ _ _ _ _ _ _ _ _ _ _ _ _ 228 [(0, .ref (ad 138)), (1, .int v7), (8, .int z155)] [] z228
                refine g_aload_n X dX11_step_228 0 rfl rfl ?_
                refine get_11_12 X (k := 138) k_138 s_138 m_5_69 dX11_step_229 ?_
                refine g_iload_n X dX11_step_232 1 rfl rfl ?_
                refine g_dup2 X dX11_step_233 rfl rfl ?_
                refine g_iald X (n := 6) (k := 150) k_150 s_150 dX11_step_234 (fun h24 => ?_)
                refine g_iconst X dX11_step_235 ic_1 ?_
                refine g_iadd X dX11_step_236 ?_
                refine g_iast X (n := 6) (k := 150) k_150 s_150 dX11_step_237 (fun h25 => ?_)
                refine g_mlet X (fun M26 => ?_)
                refine g_iload X dX11_step_238 2 rfl ?_
                refine g_if_le X 253 (by decide) dX11_step_240 (fun q240 => ?_) (fun q240 => ?_)
                · refine g_iload X dX11_step_253 2 rfl ?_
                  exact g_iret X hr rfl dX11_step_255
                · refine g_aload_n X dX11_step_243 0 rfl rfl ?_
                  refine get_11_13 X (k := 138) k_138 s_138 m_5_70 dX11_step_244 ?_
                  refine g_iload_n X dX11_step_247 1 rfl rfl ?_
                  refine g_dup2 X dX11_step_248 rfl rfl ?_
                  refine g_iald X (n := 6) (k := 151) k_151 s_151 dX11_step_249 (fun h27 => ?_)
                  refine g_iconst X dX11_step_250 ic_1 ?_
                  refine g_iadd X dX11_step_251 ?_
                  refine g_iast X (n := 6) (k := 151) k_151 s_151 dX11_step_252 (fun h28 => ?_)
                  refine g_mlet X (fun M29 => ?_)
                  refine g_iload X dX11_step_253 2 rfl ?_
                  exact g_iret X hr rfl dX11_step_255
              refine g_icmp_ne X 228 (by decide) dX11_step_214 (fun q214 => ?_) (fun q214 => ?_)
              · exact hJ228 z211
              · refine g_aload_n X dX11_step_217 0 rfl rfl ?_
                refine get_11_19 X (k := 138) k_138 s_138 m_5_76 dX11_step_218 ?_
                refine g_bipush X dX11_step_221 bi_6 ?_
                refine g_dup2 X dX11_step_223 rfl rfl ?_
                refine g_ialdC X (n := 28) (k := 157) k_157 s_157 (by decide) dX11_step_224 ?_
                refine g_iconst X dX11_step_225 ic_1 ?_
                refine g_iadd X dX11_step_226 ?_
                refine g_iastC X (n := 28) (k := 157) k_157 s_157 (by decide) dX11_step_227 ?_
                refine g_mlet X (fun M32 => ?_)
                exact hJ228 M32
            refine g_icmp_ne X 211 (by decide) dX11_step_198 (fun q198 => ?_) (fun q198 => ?_)
            · exact hJ211 M23
            · refine g_aload_n X dX11_step_201 0 rfl rfl ?_
              refine get_11_19 X (k := 138) k_138 s_138 m_5_76 dX11_step_202 ?_
              refine g_iconst X dX11_step_205 ic_5 ?_
              refine g_dup2 X dX11_step_206 rfl rfl ?_
              refine g_ialdC X (n := 28) (k := 157) k_157 s_157 (by decide) dX11_step_207 ?_
              refine g_iconst X dX11_step_208 ic_1 ?_
              refine g_iadd X dX11_step_209 ?_
              refine g_iastC X (n := 28) (k := 157) k_157 s_157 (by decide) dX11_step_210 ?_
              refine g_mlet X (fun M35 => ?_)
              exact hJ211 M35
          refine g_icmp_ne X 192 (by decide) dX11_step_179 (fun q179 => ?_) (fun q179 => ?_)
          · refine g_iconst X dX11_step_192 ic_0 ?_
            refine g_sub (lu := [(0, .ref (ad 138)), (1, .int v7), (8, .int z155)]) [0, 1, 3] rfl ?_
            exact hJ193 0
          · refine g_iconst X dX11_step_182 ic_3 ?_
            refine g_aload_n X dX11_step_183 0 rfl rfl ?_
            refine g_iconst X dX11_step_184 ic_1 ?_
            refine g_ci X (st := [.int 3, .int (v15 + 1), .int 4, .ref (ad 157)]) (fun _ hh => ok_V X (k0 := 138) (As := [.int 1]) wkX11_says_ (tm_says1 M21 1 hh) rfl k_138 s_138 (by decide) rfl m_5_230 rfl (hRm (by decide) (by decide)) ⟨Nat.zero_le _, Nat.zero_le _⟩ (Nat.le_of_ble_eq_true rfl) dX11_step_185) (fun r36 _ => ?_)
            refine g_imul X dX11_step_188 ?_
            refine g_goto X 193 (by decide) dX11_step_189 ?_
            refine g_sub (lu := [(0, .ref (ad 138)), (1, .int v7), (8, .int z155)]) [0, 1, 3] rfl ?_
            exact hJ193 ((3 : Int32) * r36)
        refine g_icmp_ge X 143 (by decide) dX11_step_136 (fun q136 => ?_) (fun q136 => ?_)
        · refine g_iload X dX11_step_143 4 rfl ?_
          refine g_iload X dX11_step_145 3 rfl ?_
          refine g_icmp_ge X 154 (by decide) dX11_step_147 (fun q147 => ?_) (fun q147 => ?_)
          · refine g_iconst X dX11_step_154 ic_0 ?_
            refine g_sub (lu := [(0, .ref (ad 138)), (1, .int v7), (5, .int v15)]) [0, 1, 2] rfl ?_
            exact hJ155 0
          · refine g_iconst X dX11_step_150 ic_1 ?_
            refine g_goto X 155 (by decide) dX11_step_151 ?_
            refine g_sub (lu := [(0, .ref (ad 138)), (1, .int v7), (5, .int v15)]) [0, 1, 2] rfl ?_
            exact hJ155 1
        · refine g_iconst X dX11_step_139 ic_2 ?_
          refine g_goto X 155 (by decide) dX11_step_140 ?_
          refine g_sub (lu := [(0, .ref (ad 138)), (1, .int v7), (5, .int v15)]) [0, 1, 2] rfl ?_
          exact hJ155 2
      refine g_if_ne X 69 (by decide) dX11_step_56 (fun q56 => ?_) (fun q56 => ?_)
      · refine g_aload_n X dX11_step_69 0 rfl rfl ?_
        refine get_11_4 X (k := 138) k_138 s_138 m_5_61 dX11_step_70 ?_
        refine g_aload_n X dX11_step_73 0 rfl rfl ?_
        refine get_11_19 X (k := 138) k_138 s_138 m_5_76 dX11_step_74 ?_
        refine g_bipush X dX11_step_77 bi_7 ?_
        refine g_iload_n X dX11_step_79 2 rfl rfl ?_
        refine g_iadd X dX11_step_80 ?_
        refine g_iald X (n := 28) (k := 157) k_157 s_157 dX11_step_81 (fun h37 => ?_)
        refine g_iald X (n := 20) (k := 143) k_143 s_143 dX11_step_82 (fun h38 => ?_)
        refine g_sub (lu := [(0, .ref (ad 138)), (1, .int v7), (3, .int v11)]) [0, 1, 3] rfl ?_
        exact hJ83 (M.1 143 (ix (M.1 157 (ix ((7 : Int32) + v9)))))
      · refine g_aload_n X dX11_step_59 0 rfl rfl ?_
        refine get_11_19 X (k := 138) k_138 s_138 m_5_76 dX11_step_60 ?_
        refine g_bipush X dX11_step_63 bi_7 ?_
        refine g_ialdC X (n := 28) (k := 157) k_157 s_157 (by decide) dX11_step_65 ?_
        refine g_goto X 83 (by decide) dX11_step_66 ?_
        refine g_sub (lu := [(0, .ref (ad 138)), (1, .int v7), (3, .int v11)]) [0, 1, 3] rfl ?_
        exact hJ83 (M.1 157 (ix 7))
    · refine g_aload_n X dX11_step_24 0 rfl rfl ?_
      refine g_bipush X dX11_step_25 bi_m5 ?_
      refine g_cs X (st := []) (fun _ hh => ok_V X (k0 := 138) (As := [.int (-5)]) wkX11_no (tm_no M (-5) hh) rfl k_138 s_138 (by decide) rfl m_5_150 rfl (hRm (by decide) (by decide)) ⟨Nat.zero_le _, Nat.zero_le _⟩ (Nat.le_of_ble_eq_true rfl) dX11_step_27) (fun r41 M40 _ => ?_)
      exact g_iret X hr rfl dX11_step_30
set_option maxRecDepth 100000 in
set_option maxHeartbeats 4000000 in
theorem tm_under {l : Launch} {D : va_G} {cy : Nat → ClassId} {ad : Nat → Nat} {N : Mem} (M : Mem) (a1 : Int32) {x : (Int32 × Mem)} (h : fm_under M a1 = some x) : Mt l D cy ad yX11_under cX11_under 2 (some .int) 2 [.ref (ad 138), .int a1] ((wfM N) M) (some (.int x.1), (wfM N) x.2) := by
  refine met_of (fin := finS) (lv0 := [(0, .ref (ad 138)), (1, .int a1)]) (by decide) (Nat.le_of_ble_eq_true rfl) rfl (lM N) h (fun p e s m args below meth c X hr => ?_)
  unfold fm_under
  refine g_iload_n X dX11_under_0 1 rfl rfl ?_
  refine g_if_lt X 9 (by decide) dX11_under_1 (fun q1 => ?_) (fun q1 => ?_)
  · refine g_aload_n X dX11_under_9 0 rfl rfl ?_
    refine g_bipush X dX11_under_10 bi_m2 ?_
    refine g_cs X (st := []) (fun _ hh => ok_V X (k0 := 138) (As := [.int (-2)]) wkX11_no (tm_no M (-2) hh) rfl k_138 s_138 (by decide) rfl m_5_150 rfl (hRm (by decide) (by decide)) ⟨Nat.zero_le _, Nat.zero_le _⟩ (Nat.le_of_ble_eq_true rfl) dX11_under_12) (fun r2 M1 _ => ?_)
    exact g_iret X hr rfl dX11_under_15
  · refine g_iload_n X dX11_under_4 1 rfl rfl ?_
    refine g_iconst X dX11_under_5 ic_4 ?_
    refine g_icmp_le X 16 (by decide) dX11_under_6 (fun q6 => ?_) (fun q6 => ?_)
    · refine g_aload_n X dX11_under_16 0 rfl rfl ?_
      refine get_11_19 X (k := 138) k_138 s_138 m_5_76 dX11_under_17 ?_
      refine g_iconst X dX11_under_20 ic_0 ?_
      refine g_ialdC X (n := 28) (k := 157) k_157 s_157 (by decide) dX11_under_21 ?_
      refine g_if_ne X 32 (by decide) dX11_under_22 (fun q22 => ?_) (fun q22 => ?_)
      · refine g_iload_n X dX11_under_32 1 rfl rfl ?_
        refine g_if_ne X 45 (by decide) dX11_under_33 (fun q33 => ?_) (fun q33 => ?_)
        · refine g_aload_n X dX11_under_45 0 rfl rfl ?_
          refine get_11_19 X (k := 138) k_138 s_138 m_5_76 dX11_under_46 ?_
          refine g_iconst X dX11_under_49 ic_2 ?_
          refine g_iload_n X dX11_under_50 1 rfl rfl ?_
          refine g_iadd X dX11_under_51 ?_
          refine g_iald X (n := 28) (k := 157) k_157 s_157 dX11_under_52 (fun h4 => ?_)
          exact g_iret X hr rfl dX11_under_53
        · refine g_aload_n X dX11_under_36 0 rfl rfl ?_
          refine get_11_19 X (k := 138) k_138 s_138 m_5_76 dX11_under_37 ?_
          refine g_iconst X dX11_under_40 ic_1 ?_
          refine g_ialdC X (n := 28) (k := 157) k_157 s_157 (by decide) dX11_under_41 ?_
          refine g_goto X 53 (by decide) dX11_under_42 ?_
          exact g_iret X hr rfl dX11_under_53
      · refine g_aload_n X dX11_under_25 0 rfl rfl ?_
        refine g_bipush X dX11_under_26 bi_m5 ?_
        refine g_cs X (st := []) (fun _ hh => ok_V X (k0 := 138) (As := [.int (-5)]) wkX11_no (tm_no M (-5) hh) rfl k_138 s_138 (by decide) rfl m_5_150 rfl (hRm (by decide) (by decide)) ⟨Nat.zero_le _, Nat.zero_le _⟩ (Nat.le_of_ble_eq_true rfl) dX11_under_28) (fun r7 M6 _ => ?_)
        exact g_iret X hr rfl dX11_under_31
    · refine g_aload_n X dX11_under_9 0 rfl rfl ?_
      refine g_bipush X dX11_under_10 bi_m2 ?_
      refine g_cs X (st := []) (fun _ hh => ok_V X (k0 := 138) (As := [.int (-2)]) wkX11_no (tm_no M (-2) hh) rfl k_138 s_138 (by decide) rfl m_5_150 rfl (hRm (by decide) (by decide)) ⟨Nat.zero_le _, Nat.zero_le _⟩ (Nat.le_of_ble_eq_true rfl) dX11_under_12) (fun r9 M8 _ => ?_)
      exact g_iret X hr rfl dX11_under_15
set_option maxRecDepth 100000 in
set_option maxHeartbeats 4000000 in
theorem Lm_move_L3 {l : Launch} {D : va_G} {cy : Nat → ClassId} {ad : Nat → Nat} {N : Mem} {p : Program} {e : Env} {s : State} {m : MethodId} {args : Array Value} {below : List Frame} {meth : Method} {c : Code} (X : Cx p s m args meth c cX11_move 5 RX11 D cy ad (AA ad) (wfM N) sdM) (hr : meth.sig.returnType = (some .int)) (b2 : Int32) (b3 : Int32) (kx49 : Mem → Option (Int32 × Mem)) (hkx49 : ∀ (M : Mem), GF p l e (Rm 1) s m args below meth c 5 D cy ad (AA ad) 0 0 (wfM N) (QM D cy ad (wfM N) below args s) finS (kx49 M) 49 [(1, .ref (ad 156)), (2, .int b2)] [] M) : ∀ (n : Nat) (x4 : Int32) (M : Mem), GF p l e (Rm 1) s m args below meth c 5 D cy ad (AA ad) 0 0 (wfM N) (QM D cy ad (wfM N) below args s) finS (fm_move_L3 b2 b3 kx49 n x4 M) 3 [(0, .ref (ad 138)), (1, .ref (ad 156)), (2, .int b2), (3, .int b3), (4, .int x4)] [] M := by
  intro n
  induction n with
  | zero => intro x4 M; exact g_none
  | succ n ih =>
    intro x4 M
    rw [fm_move_L3]
    refine g_iload X dX11_move_3 4 rfl ?_
    refine g_aload_n X dX11_move_5 1 rfl rfl ?_
    refine g_alenI X (n := 9) (k := 156) (v0 := 9) rfl k_156 s_156 dX11_move_6 ?_
    refine g_icmp_ge X 49 (by decide) dX11_move_7 (fun q7 => ?_) (fun q7 => ?_)
    · refine g_sub (lu := [(1, .ref (ad 156)), (2, .int b2)]) [1, 2] rfl ?_
      exact hkx49 M
    · refine g_iload_n X dX11_move_10 3 rfl rfl ?_
      refine g_jlet X 43 (fun z43 : Mem => [(0, .ref (ad 138)), (1, .ref (ad 156)), (2, .int b2), (3, .int b3), (4, .int x4)]) (fun z43 : Mem => []) (fun z43 : Mem => z43) (fun z43 => ?_) (fun J43 hJ43 => ?_)
      · show GF _ _ _ _ _ _ _ _ _ _ _ _ _ _ _ _ _ _ _ _ _ 43 [(0, .ref (ad 138)), (1, .ref (ad 156)), (2, .int b2), (3, .int b3), (4, .int x4)] [] z43
        refine g_iinc X (k := 4) (v := (x4 + 1)) dX11_move_43 rfl (ii_1 _) (by decide) rfl [1, 2, 3, 4, 0] (lu := [(0, .ref (ad 138)), (1, .ref (ad 156)), (2, .int b2), (3, .int b3), (4, .int (x4 + 1))]) rfl ?_
        refine g_goto X 3 (by decide) dX11_move_46 ?_
        exact ih (x4 + 1) z43
      refine g_if_eq X 30 (by decide) dX11_move_11 (fun q11 => ?_) (fun q11 => ?_)
      · refine g_aload_n X dX11_move_30 1 rfl rfl ?_
        refine g_iload X dX11_move_31 4 rfl ?_
        refine g_aload_n X dX11_move_33 0 rfl rfl ?_
        refine get_11_22 X (k := 138) k_138 s_138 m_5_79 dX11_move_34 ?_
        refine g_iload_n X dX11_move_37 2 rfl rfl ?_
        refine g_iload X dX11_move_38 4 rfl ?_
        refine g_iadd X dX11_move_40 ?_
        refine g_iald X (n := 300) (k := 159) k_159 s_159 dX11_move_41 (fun h1 => ?_)
        refine g_iast X (n := 9) (k := 156) k_156 s_156 dX11_move_42 (fun h2 => ?_)
        refine g_mlet X (fun M3 => ?_)
        exact hJ43 M3
      · refine g_aload_n X dX11_move_14 0 rfl rfl ?_
        refine get_11_22 X (k := 138) k_138 s_138 m_5_79 dX11_move_15 ?_
        refine g_iload_n X dX11_move_18 2 rfl rfl ?_
        refine g_iload X dX11_move_19 4 rfl ?_
        refine g_iadd X dX11_move_21 ?_
        refine g_aload_n X dX11_move_22 1 rfl rfl ?_
        refine g_iload X dX11_move_23 4 rfl ?_
        refine g_iald X (n := 9) (k := 156) k_156 s_156 dX11_move_25 (fun h4 => ?_)
        refine g_iast X (n := 300) (k := 159) k_159 s_159 dX11_move_26 (fun h5 => ?_)
        refine g_mlet X (fun M6 => ?_)
        refine g_goto X 43 (by decide) dX11_move_27 ?_
        exact hJ43 M6
set_option maxRecDepth 100000 in
set_option maxHeartbeats 4000000 in
theorem tm_move {l : Launch} {D : va_G} {cy : Nat → ClassId} {ad : Nat → Nat} {N : Mem} (M : Mem) (a2 : Int32) (a3 : Int32) {x : (Int32 × Mem)} (h : fm_move M a2 a3 = some x) : Mt l D cy ad yX11_move cX11_move 5 (some .int) 1 [.ref (ad 138), .ref (ad 156), .int a2, .int a3] ((wfM N) M) (some (.int x.1), (wfM N) x.2) := by
  refine met_of (fin := finS) (lv0 := [(0, .ref (ad 138)), (1, .ref (ad 156)), (2, .int a2), (3, .int a3)]) (by decide) (Nat.le_of_ble_eq_true rfl) rfl (lM N) h (fun p e s m args below meth c X hr => ?_)
  unfold fm_move
  refine g_iconst X dX11_move_0 ic_0 ?_
  refine g_istore X dX11_move_1 (by decide) rfl [1, 2, 3, 4, 0] (lu := [(0, .ref (ad 138)), (1, .ref (ad 156)), (2, .int a2), (3, .int a3), (4, .int 0)]) rfl ?_
  refine Lm_move_L3  X hr a2 a3  _ (fun M7 => ?_) FU 0 M
  · refine g_iload_n X dX11_move_49 1 rfl rfl ?_
    refine g_aload_n X dX11_move_50 0 rfl rfl ?_
    refine g_alenI X (n := 9) (k := 156) (v0 := 9) rfl k_156 s_156 dX11_move_51 ?_
    refine g_iadd X dX11_move_52 ?_
    exact g_iret X hr rfl dX11_move_53
set_option maxRecDepth 100000 in
set_option maxHeartbeats 4000000 in
theorem Lm_move_2_L3 {l : Launch} {D : va_G} {cy : Nat → ClassId} {ad : Nat → Nat} {N : Mem} {p : Program} {e : Env} {s : State} {m : MethodId} {args : Array Value} {below : List Frame} {meth : Method} {c : Code} (X : Cx p s m args meth c cX11_move 5 RX11 D cy ad (AA ad) (wfM N) sdM) (hr : meth.sig.returnType = (some .int)) (b2 : Int32) (b3 : Int32) (kx49 : Mem → Option (Int32 × Mem)) (hkx49 : ∀ (M : Mem), GF p l e (Rm 1) s m args below meth c 5 D cy ad (AA ad) 0 0 (wfM N) (QM D cy ad (wfM N) below args s) finS (kx49 M) 49 [(1, .ref (ad 157)), (2, .int b2)] [] M) : ∀ (n : Nat) (x4 : Int32) (M : Mem), GF p l e (Rm 1) s m args below meth c 5 D cy ad (AA ad) 0 0 (wfM N) (QM D cy ad (wfM N) below args s) finS (fm_move_2_L3 b2 b3 kx49 n x4 M) 3 [(0, .ref (ad 138)), (1, .ref (ad 157)), (2, .int b2), (3, .int b3), (4, .int x4)] [] M := by
  intro n
  induction n with
  | zero => intro x4 M; exact g_none
  | succ n ih =>
    intro x4 M
    rw [fm_move_2_L3]
    refine g_iload X dX11_move_3 4 rfl ?_
    refine g_aload_n X dX11_move_5 1 rfl rfl ?_
    refine g_alenI X (n := 28) (k := 157) (v0 := 28) rfl k_157 s_157 dX11_move_6 ?_
    refine g_icmp_ge X 49 (by decide) dX11_move_7 (fun q7 => ?_) (fun q7 => ?_)
    · refine g_sub (lu := [(1, .ref (ad 157)), (2, .int b2)]) [1, 2] rfl ?_
      exact hkx49 M
    · refine g_iload_n X dX11_move_10 3 rfl rfl ?_
      refine g_jlet X 43 (fun z43 : Mem => [(0, .ref (ad 138)), (1, .ref (ad 157)), (2, .int b2), (3, .int b3), (4, .int x4)]) (fun z43 : Mem => []) (fun z43 : Mem => z43) (fun z43 => ?_) (fun J43 hJ43 => ?_)
      · show GF _ _ _ _ _ _ _ _ _ _ _ _ _ _ _ _ _ _ _ _ _ 43 [(0, .ref (ad 138)), (1, .ref (ad 157)), (2, .int b2), (3, .int b3), (4, .int x4)] [] z43
        refine g_iinc X (k := 4) (v := (x4 + 1)) dX11_move_43 rfl (ii_1 _) (by decide) rfl [1, 2, 3, 4, 0] (lu := [(0, .ref (ad 138)), (1, .ref (ad 157)), (2, .int b2), (3, .int b3), (4, .int (x4 + 1))]) rfl ?_
        refine g_goto X 3 (by decide) dX11_move_46 ?_
        exact ih (x4 + 1) z43
      refine g_if_eq X 30 (by decide) dX11_move_11 (fun q11 => ?_) (fun q11 => ?_)
      · refine g_aload_n X dX11_move_30 1 rfl rfl ?_
        refine g_iload X dX11_move_31 4 rfl ?_
        refine g_aload_n X dX11_move_33 0 rfl rfl ?_
        refine get_11_22 X (k := 138) k_138 s_138 m_5_79 dX11_move_34 ?_
        refine g_iload_n X dX11_move_37 2 rfl rfl ?_
        refine g_iload X dX11_move_38 4 rfl ?_
        refine g_iadd X dX11_move_40 ?_
        refine g_iald X (n := 300) (k := 159) k_159 s_159 dX11_move_41 (fun h1 => ?_)
        refine g_iast X (n := 28) (k := 157) k_157 s_157 dX11_move_42 (fun h2 => ?_)
        refine g_mlet X (fun M3 => ?_)
        exact hJ43 M3
      · refine g_aload_n X dX11_move_14 0 rfl rfl ?_
        refine get_11_22 X (k := 138) k_138 s_138 m_5_79 dX11_move_15 ?_
        refine g_iload_n X dX11_move_18 2 rfl rfl ?_
        refine g_iload X dX11_move_19 4 rfl ?_
        refine g_iadd X dX11_move_21 ?_
        refine g_aload_n X dX11_move_22 1 rfl rfl ?_
        refine g_iload X dX11_move_23 4 rfl ?_
        refine g_iald X (n := 28) (k := 157) k_157 s_157 dX11_move_25 (fun h4 => ?_)
        refine g_iast X (n := 300) (k := 159) k_159 s_159 dX11_move_26 (fun h5 => ?_)
        refine g_mlet X (fun M6 => ?_)
        refine g_goto X 43 (by decide) dX11_move_27 ?_
        exact hJ43 M6
set_option maxRecDepth 100000 in
set_option maxHeartbeats 4000000 in
theorem tm_move_2 {l : Launch} {D : va_G} {cy : Nat → ClassId} {ad : Nat → Nat} {N : Mem} (M : Mem) (a2 : Int32) (a3 : Int32) {x : (Int32 × Mem)} (h : fm_move_2 M a2 a3 = some x) : Mt l D cy ad yX11_move cX11_move 5 (some .int) 1 [.ref (ad 138), .ref (ad 157), .int a2, .int a3] ((wfM N) M) (some (.int x.1), (wfM N) x.2) := by
  refine met_of (fin := finS) (lv0 := [(0, .ref (ad 138)), (1, .ref (ad 157)), (2, .int a2), (3, .int a3)]) (by decide) (Nat.le_of_ble_eq_true rfl) rfl (lM N) h (fun p e s m args below meth c X hr => ?_)
  unfold fm_move_2
  refine g_iconst X dX11_move_0 ic_0 ?_
  refine g_istore X dX11_move_1 (by decide) rfl [1, 2, 3, 4, 0] (lu := [(0, .ref (ad 138)), (1, .ref (ad 157)), (2, .int a2), (3, .int a3), (4, .int 0)]) rfl ?_
  refine Lm_move_2_L3  X hr a2 a3  _ (fun M7 => ?_) FU 0 M
  · refine g_iload_n X dX11_move_49 1 rfl rfl ?_
    refine g_aload_n X dX11_move_50 0 rfl rfl ?_
    refine g_alenI X (n := 28) (k := 157) (v0 := 28) rfl k_157 s_157 dX11_move_51 ?_
    refine g_iadd X dX11_move_52 ?_
    exact g_iret X hr rfl dX11_move_53
set_option maxRecDepth 100000 in
set_option maxHeartbeats 4000000 in
theorem Lm_move_3_L3 {l : Launch} {D : va_G} {cy : Nat → ClassId} {ad : Nat → Nat} {N : Mem} {p : Program} {e : Env} {s : State} {m : MethodId} {args : Array Value} {below : List Frame} {meth : Method} {c : Code} (X : Cx p s m args meth c cX11_move 5 RX11 D cy ad (AA ad) (wfM N) sdM) (hr : meth.sig.returnType = (some .int)) (b2 : Int32) (b3 : Int32) (kx49 : Mem → Option (Int32 × Mem)) (hkx49 : ∀ (M : Mem), GF p l e (Rm 1) s m args below meth c 5 D cy ad (AA ad) 0 0 (wfM N) (QM D cy ad (wfM N) below args s) finS (kx49 M) 49 [(1, .ref (ad 155)), (2, .int b2)] [] M) : ∀ (n : Nat) (x4 : Int32) (M : Mem), GF p l e (Rm 1) s m args below meth c 5 D cy ad (AA ad) 0 0 (wfM N) (QM D cy ad (wfM N) below args s) finS (fm_move_3_L3 b2 b3 kx49 n x4 M) 3 [(0, .ref (ad 138)), (1, .ref (ad 155)), (2, .int b2), (3, .int b3), (4, .int x4)] [] M := by
  intro n
  induction n with
  | zero => intro x4 M; exact g_none
  | succ n ih =>
    intro x4 M
    rw [fm_move_3_L3]
    refine g_iload X dX11_move_3 4 rfl ?_
    refine g_aload_n X dX11_move_5 1 rfl rfl ?_
    refine g_alenI X (n := 12) (k := 155) (v0 := 12) rfl k_155 s_155 dX11_move_6 ?_
    refine g_icmp_ge X 49 (by decide) dX11_move_7 (fun q7 => ?_) (fun q7 => ?_)
    · refine g_sub (lu := [(1, .ref (ad 155)), (2, .int b2)]) [1, 2] rfl ?_
      exact hkx49 M
    · refine g_iload_n X dX11_move_10 3 rfl rfl ?_
      refine g_jlet X 43 (fun z43 : Mem => [(0, .ref (ad 138)), (1, .ref (ad 155)), (2, .int b2), (3, .int b3), (4, .int x4)]) (fun z43 : Mem => []) (fun z43 : Mem => z43) (fun z43 => ?_) (fun J43 hJ43 => ?_)
      · show GF _ _ _ _ _ _ _ _ _ _ _ _ _ _ _ _ _ _ _ _ _ 43 [(0, .ref (ad 138)), (1, .ref (ad 155)), (2, .int b2), (3, .int b3), (4, .int x4)] [] z43
        refine g_iinc X (k := 4) (v := (x4 + 1)) dX11_move_43 rfl (ii_1 _) (by decide) rfl [1, 2, 3, 4, 0] (lu := [(0, .ref (ad 138)), (1, .ref (ad 155)), (2, .int b2), (3, .int b3), (4, .int (x4 + 1))]) rfl ?_
        refine g_goto X 3 (by decide) dX11_move_46 ?_
        exact ih (x4 + 1) z43
      refine g_if_eq X 30 (by decide) dX11_move_11 (fun q11 => ?_) (fun q11 => ?_)
      · refine g_aload_n X dX11_move_30 1 rfl rfl ?_
        refine g_iload X dX11_move_31 4 rfl ?_
        refine g_aload_n X dX11_move_33 0 rfl rfl ?_
        refine get_11_22 X (k := 138) k_138 s_138 m_5_79 dX11_move_34 ?_
        refine g_iload_n X dX11_move_37 2 rfl rfl ?_
        refine g_iload X dX11_move_38 4 rfl ?_
        refine g_iadd X dX11_move_40 ?_
        refine g_iald X (n := 300) (k := 159) k_159 s_159 dX11_move_41 (fun h1 => ?_)
        refine g_iast X (n := 12) (k := 155) k_155 s_155 dX11_move_42 (fun h2 => ?_)
        refine g_mlet X (fun M3 => ?_)
        exact hJ43 M3
      · refine g_aload_n X dX11_move_14 0 rfl rfl ?_
        refine get_11_22 X (k := 138) k_138 s_138 m_5_79 dX11_move_15 ?_
        refine g_iload_n X dX11_move_18 2 rfl rfl ?_
        refine g_iload X dX11_move_19 4 rfl ?_
        refine g_iadd X dX11_move_21 ?_
        refine g_aload_n X dX11_move_22 1 rfl rfl ?_
        refine g_iload X dX11_move_23 4 rfl ?_
        refine g_iald X (n := 12) (k := 155) k_155 s_155 dX11_move_25 (fun h4 => ?_)
        refine g_iast X (n := 300) (k := 159) k_159 s_159 dX11_move_26 (fun h5 => ?_)
        refine g_mlet X (fun M6 => ?_)
        refine g_goto X 43 (by decide) dX11_move_27 ?_
        exact hJ43 M6
set_option maxRecDepth 100000 in
set_option maxHeartbeats 4000000 in
theorem tm_move_3 {l : Launch} {D : va_G} {cy : Nat → ClassId} {ad : Nat → Nat} {N : Mem} (M : Mem) (a2 : Int32) (a3 : Int32) {x : (Int32 × Mem)} (h : fm_move_3 M a2 a3 = some x) : Mt l D cy ad yX11_move cX11_move 5 (some .int) 1 [.ref (ad 138), .ref (ad 155), .int a2, .int a3] ((wfM N) M) (some (.int x.1), (wfM N) x.2) := by
  refine met_of (fin := finS) (lv0 := [(0, .ref (ad 138)), (1, .ref (ad 155)), (2, .int a2), (3, .int a3)]) (by decide) (Nat.le_of_ble_eq_true rfl) rfl (lM N) h (fun p e s m args below meth c X hr => ?_)
  unfold fm_move_3
  refine g_iconst X dX11_move_0 ic_0 ?_
  refine g_istore X dX11_move_1 (by decide) rfl [1, 2, 3, 4, 0] (lu := [(0, .ref (ad 138)), (1, .ref (ad 155)), (2, .int a2), (3, .int a3), (4, .int 0)]) rfl ?_
  refine Lm_move_3_L3  X hr a2 a3  _ (fun M7 => ?_) FU 0 M
  · refine g_iload_n X dX11_move_49 1 rfl rfl ?_
    refine g_aload_n X dX11_move_50 0 rfl rfl ?_
    refine g_alenI X (n := 12) (k := 155) (v0 := 12) rfl k_155 s_155 dX11_move_51 ?_
    refine g_iadd X dX11_move_52 ?_
    exact g_iret X hr rfl dX11_move_53
set_option maxRecDepth 100000 in
set_option maxHeartbeats 4000000 in
theorem Lm_move_4_L3 {l : Launch} {D : va_G} {cy : Nat → ClassId} {ad : Nat → Nat} {N : Mem} {p : Program} {e : Env} {s : State} {m : MethodId} {args : Array Value} {below : List Frame} {meth : Method} {c : Code} (X : Cx p s m args meth c cX11_move 5 RX11 D cy ad (AA ad) (wfM N) sdM) (hr : meth.sig.returnType = (some .int)) (b2 : Int32) (b3 : Int32) (kx49 : Mem → Option (Int32 × Mem)) (hkx49 : ∀ (M : Mem), GF p l e (Rm 1) s m args below meth c 5 D cy ad (AA ad) 0 0 (wfM N) (QM D cy ad (wfM N) below args s) finS (kx49 M) 49 [(1, .ref (ad 142)), (2, .int b2)] [] M) : ∀ (n : Nat) (x4 : Int32) (M : Mem), GF p l e (Rm 1) s m args below meth c 5 D cy ad (AA ad) 0 0 (wfM N) (QM D cy ad (wfM N) below args s) finS (fm_move_4_L3 b2 b3 kx49 n x4 M) 3 [(0, .ref (ad 138)), (1, .ref (ad 142)), (2, .int b2), (3, .int b3), (4, .int x4)] [] M := by
  intro n
  induction n with
  | zero => intro x4 M; exact g_none
  | succ n ih =>
    intro x4 M
    rw [fm_move_4_L3]
    refine g_iload X dX11_move_3 4 rfl ?_
    refine g_aload_n X dX11_move_5 1 rfl rfl ?_
    refine g_alenI X (n := 20) (k := 142) (v0 := 20) rfl k_142 s_142 dX11_move_6 ?_
    refine g_icmp_ge X 49 (by decide) dX11_move_7 (fun q7 => ?_) (fun q7 => ?_)
    · refine g_sub (lu := [(1, .ref (ad 142)), (2, .int b2)]) [1, 2] rfl ?_
      exact hkx49 M
    · refine g_iload_n X dX11_move_10 3 rfl rfl ?_
      refine g_jlet X 43 (fun z43 : Mem => [(0, .ref (ad 138)), (1, .ref (ad 142)), (2, .int b2), (3, .int b3), (4, .int x4)]) (fun z43 : Mem => []) (fun z43 : Mem => z43) (fun z43 => ?_) (fun J43 hJ43 => ?_)
      · show GF _ _ _ _ _ _ _ _ _ _ _ _ _ _ _ _ _ _ _ _ _ 43 [(0, .ref (ad 138)), (1, .ref (ad 142)), (2, .int b2), (3, .int b3), (4, .int x4)] [] z43
        refine g_iinc X (k := 4) (v := (x4 + 1)) dX11_move_43 rfl (ii_1 _) (by decide) rfl [1, 2, 3, 4, 0] (lu := [(0, .ref (ad 138)), (1, .ref (ad 142)), (2, .int b2), (3, .int b3), (4, .int (x4 + 1))]) rfl ?_
        refine g_goto X 3 (by decide) dX11_move_46 ?_
        exact ih (x4 + 1) z43
      refine g_if_eq X 30 (by decide) dX11_move_11 (fun q11 => ?_) (fun q11 => ?_)
      · refine g_aload_n X dX11_move_30 1 rfl rfl ?_
        refine g_iload X dX11_move_31 4 rfl ?_
        refine g_aload_n X dX11_move_33 0 rfl rfl ?_
        refine get_11_22 X (k := 138) k_138 s_138 m_5_79 dX11_move_34 ?_
        refine g_iload_n X dX11_move_37 2 rfl rfl ?_
        refine g_iload X dX11_move_38 4 rfl ?_
        refine g_iadd X dX11_move_40 ?_
        refine g_iald X (n := 300) (k := 159) k_159 s_159 dX11_move_41 (fun h1 => ?_)
        refine g_iast X (n := 20) (k := 142) k_142 s_142 dX11_move_42 (fun h2 => ?_)
        refine g_mlet X (fun M3 => ?_)
        exact hJ43 M3
      · refine g_aload_n X dX11_move_14 0 rfl rfl ?_
        refine get_11_22 X (k := 138) k_138 s_138 m_5_79 dX11_move_15 ?_
        refine g_iload_n X dX11_move_18 2 rfl rfl ?_
        refine g_iload X dX11_move_19 4 rfl ?_
        refine g_iadd X dX11_move_21 ?_
        refine g_aload_n X dX11_move_22 1 rfl rfl ?_
        refine g_iload X dX11_move_23 4 rfl ?_
        refine g_iald X (n := 20) (k := 142) k_142 s_142 dX11_move_25 (fun h4 => ?_)
        refine g_iast X (n := 300) (k := 159) k_159 s_159 dX11_move_26 (fun h5 => ?_)
        refine g_mlet X (fun M6 => ?_)
        refine g_goto X 43 (by decide) dX11_move_27 ?_
        exact hJ43 M6
set_option maxRecDepth 100000 in
set_option maxHeartbeats 4000000 in
theorem tm_move_4 {l : Launch} {D : va_G} {cy : Nat → ClassId} {ad : Nat → Nat} {N : Mem} (M : Mem) (a2 : Int32) (a3 : Int32) {x : (Int32 × Mem)} (h : fm_move_4 M a2 a3 = some x) : Mt l D cy ad yX11_move cX11_move 5 (some .int) 1 [.ref (ad 138), .ref (ad 142), .int a2, .int a3] ((wfM N) M) (some (.int x.1), (wfM N) x.2) := by
  refine met_of (fin := finS) (lv0 := [(0, .ref (ad 138)), (1, .ref (ad 142)), (2, .int a2), (3, .int a3)]) (by decide) (Nat.le_of_ble_eq_true rfl) rfl (lM N) h (fun p e s m args below meth c X hr => ?_)
  unfold fm_move_4
  refine g_iconst X dX11_move_0 ic_0 ?_
  refine g_istore X dX11_move_1 (by decide) rfl [1, 2, 3, 4, 0] (lu := [(0, .ref (ad 138)), (1, .ref (ad 142)), (2, .int a2), (3, .int a3), (4, .int 0)]) rfl ?_
  refine Lm_move_4_L3  X hr a2 a3  _ (fun M7 => ?_) FU 0 M
  · refine g_iload_n X dX11_move_49 1 rfl rfl ?_
    refine g_aload_n X dX11_move_50 0 rfl rfl ?_
    refine g_alenI X (n := 20) (k := 142) (v0 := 20) rfl k_142 s_142 dX11_move_51 ?_
    refine g_iadd X dX11_move_52 ?_
    exact g_iret X hr rfl dX11_move_53
set_option maxRecDepth 100000 in
set_option maxHeartbeats 4000000 in
theorem Lm_move_5_L3 {l : Launch} {D : va_G} {cy : Nat → ClassId} {ad : Nat → Nat} {N : Mem} {p : Program} {e : Env} {s : State} {m : MethodId} {args : Array Value} {below : List Frame} {meth : Method} {c : Code} (X : Cx p s m args meth c cX11_move 5 RX11 D cy ad (AA ad) (wfM N) sdM) (hr : meth.sig.returnType = (some .int)) (b2 : Int32) (b3 : Int32) (kx49 : Mem → Option (Int32 × Mem)) (hkx49 : ∀ (M : Mem), GF p l e (Rm 1) s m args below meth c 5 D cy ad (AA ad) 0 0 (wfM N) (QM D cy ad (wfM N) below args s) finS (kx49 M) 49 [(1, .ref (ad 143)), (2, .int b2)] [] M) : ∀ (n : Nat) (x4 : Int32) (M : Mem), GF p l e (Rm 1) s m args below meth c 5 D cy ad (AA ad) 0 0 (wfM N) (QM D cy ad (wfM N) below args s) finS (fm_move_5_L3 b2 b3 kx49 n x4 M) 3 [(0, .ref (ad 138)), (1, .ref (ad 143)), (2, .int b2), (3, .int b3), (4, .int x4)] [] M := by
  intro n
  induction n with
  | zero => intro x4 M; exact g_none
  | succ n ih =>
    intro x4 M
    rw [fm_move_5_L3]
    refine g_iload X dX11_move_3 4 rfl ?_
    refine g_aload_n X dX11_move_5 1 rfl rfl ?_
    refine g_alenI X (n := 20) (k := 143) (v0 := 20) rfl k_143 s_143 dX11_move_6 ?_
    refine g_icmp_ge X 49 (by decide) dX11_move_7 (fun q7 => ?_) (fun q7 => ?_)
    · refine g_sub (lu := [(1, .ref (ad 143)), (2, .int b2)]) [1, 2] rfl ?_
      exact hkx49 M
    · refine g_iload_n X dX11_move_10 3 rfl rfl ?_
      refine g_jlet X 43 (fun z43 : Mem => [(0, .ref (ad 138)), (1, .ref (ad 143)), (2, .int b2), (3, .int b3), (4, .int x4)]) (fun z43 : Mem => []) (fun z43 : Mem => z43) (fun z43 => ?_) (fun J43 hJ43 => ?_)
      · show GF _ _ _ _ _ _ _ _ _ _ _ _ _ _ _ _ _ _ _ _ _ 43 [(0, .ref (ad 138)), (1, .ref (ad 143)), (2, .int b2), (3, .int b3), (4, .int x4)] [] z43
        refine g_iinc X (k := 4) (v := (x4 + 1)) dX11_move_43 rfl (ii_1 _) (by decide) rfl [1, 2, 3, 4, 0] (lu := [(0, .ref (ad 138)), (1, .ref (ad 143)), (2, .int b2), (3, .int b3), (4, .int (x4 + 1))]) rfl ?_
        refine g_goto X 3 (by decide) dX11_move_46 ?_
        exact ih (x4 + 1) z43
      refine g_if_eq X 30 (by decide) dX11_move_11 (fun q11 => ?_) (fun q11 => ?_)
      · refine g_aload_n X dX11_move_30 1 rfl rfl ?_
        refine g_iload X dX11_move_31 4 rfl ?_
        refine g_aload_n X dX11_move_33 0 rfl rfl ?_
        refine get_11_22 X (k := 138) k_138 s_138 m_5_79 dX11_move_34 ?_
        refine g_iload_n X dX11_move_37 2 rfl rfl ?_
        refine g_iload X dX11_move_38 4 rfl ?_
        refine g_iadd X dX11_move_40 ?_
        refine g_iald X (n := 300) (k := 159) k_159 s_159 dX11_move_41 (fun h1 => ?_)
        refine g_iast X (n := 20) (k := 143) k_143 s_143 dX11_move_42 (fun h2 => ?_)
        refine g_mlet X (fun M3 => ?_)
        exact hJ43 M3
      · refine g_aload_n X dX11_move_14 0 rfl rfl ?_
        refine get_11_22 X (k := 138) k_138 s_138 m_5_79 dX11_move_15 ?_
        refine g_iload_n X dX11_move_18 2 rfl rfl ?_
        refine g_iload X dX11_move_19 4 rfl ?_
        refine g_iadd X dX11_move_21 ?_
        refine g_aload_n X dX11_move_22 1 rfl rfl ?_
        refine g_iload X dX11_move_23 4 rfl ?_
        refine g_iald X (n := 20) (k := 143) k_143 s_143 dX11_move_25 (fun h4 => ?_)
        refine g_iast X (n := 300) (k := 159) k_159 s_159 dX11_move_26 (fun h5 => ?_)
        refine g_mlet X (fun M6 => ?_)
        refine g_goto X 43 (by decide) dX11_move_27 ?_
        exact hJ43 M6
set_option maxRecDepth 100000 in
set_option maxHeartbeats 4000000 in
theorem tm_move_5 {l : Launch} {D : va_G} {cy : Nat → ClassId} {ad : Nat → Nat} {N : Mem} (M : Mem) (a2 : Int32) (a3 : Int32) {x : (Int32 × Mem)} (h : fm_move_5 M a2 a3 = some x) : Mt l D cy ad yX11_move cX11_move 5 (some .int) 1 [.ref (ad 138), .ref (ad 143), .int a2, .int a3] ((wfM N) M) (some (.int x.1), (wfM N) x.2) := by
  refine met_of (fin := finS) (lv0 := [(0, .ref (ad 138)), (1, .ref (ad 143)), (2, .int a2), (3, .int a3)]) (by decide) (Nat.le_of_ble_eq_true rfl) rfl (lM N) h (fun p e s m args below meth c X hr => ?_)
  unfold fm_move_5
  refine g_iconst X dX11_move_0 ic_0 ?_
  refine g_istore X dX11_move_1 (by decide) rfl [1, 2, 3, 4, 0] (lu := [(0, .ref (ad 138)), (1, .ref (ad 143)), (2, .int a2), (3, .int a3), (4, .int 0)]) rfl ?_
  refine Lm_move_5_L3  X hr a2 a3  _ (fun M7 => ?_) FU 0 M
  · refine g_iload_n X dX11_move_49 1 rfl rfl ?_
    refine g_aload_n X dX11_move_50 0 rfl rfl ?_
    refine g_alenI X (n := 20) (k := 143) (v0 := 20) rfl k_143 s_143 dX11_move_51 ?_
    refine g_iadd X dX11_move_52 ?_
    exact g_iret X hr rfl dX11_move_53
set_option maxRecDepth 100000 in
set_option maxHeartbeats 4000000 in
theorem Lm_move_6_L3 {l : Launch} {D : va_G} {cy : Nat → ClassId} {ad : Nat → Nat} {N : Mem} {p : Program} {e : Env} {s : State} {m : MethodId} {args : Array Value} {below : List Frame} {meth : Method} {c : Code} (X : Cx p s m args meth c cX11_move 5 RX11 D cy ad (AA ad) (wfM N) sdM) (hr : meth.sig.returnType = (some .int)) (b2 : Int32) (b3 : Int32) (kx49 : Mem → Option (Int32 × Mem)) (hkx49 : ∀ (M : Mem), GF p l e (Rm 1) s m args below meth c 5 D cy ad (AA ad) 0 0 (wfM N) (QM D cy ad (wfM N) below args s) finS (kx49 M) 49 [(1, .ref (ad 144)), (2, .int b2)] [] M) : ∀ (n : Nat) (x4 : Int32) (M : Mem), GF p l e (Rm 1) s m args below meth c 5 D cy ad (AA ad) 0 0 (wfM N) (QM D cy ad (wfM N) below args s) finS (fm_move_6_L3 b2 b3 kx49 n x4 M) 3 [(0, .ref (ad 138)), (1, .ref (ad 144)), (2, .int b2), (3, .int b3), (4, .int x4)] [] M := by
  intro n
  induction n with
  | zero => intro x4 M; exact g_none
  | succ n ih =>
    intro x4 M
    rw [fm_move_6_L3]
    refine g_iload X dX11_move_3 4 rfl ?_
    refine g_aload_n X dX11_move_5 1 rfl rfl ?_
    refine g_alenI X (n := 20) (k := 144) (v0 := 20) rfl k_144 s_144 dX11_move_6 ?_
    refine g_icmp_ge X 49 (by decide) dX11_move_7 (fun q7 => ?_) (fun q7 => ?_)
    · refine g_sub (lu := [(1, .ref (ad 144)), (2, .int b2)]) [1, 2] rfl ?_
      exact hkx49 M
    · refine g_iload_n X dX11_move_10 3 rfl rfl ?_
      refine g_jlet X 43 (fun z43 : Mem => [(0, .ref (ad 138)), (1, .ref (ad 144)), (2, .int b2), (3, .int b3), (4, .int x4)]) (fun z43 : Mem => []) (fun z43 : Mem => z43) (fun z43 => ?_) (fun J43 hJ43 => ?_)
      · show GF _ _ _ _ _ _ _ _ _ _ _ _ _ _ _ _ _ _ _ _ _ 43 [(0, .ref (ad 138)), (1, .ref (ad 144)), (2, .int b2), (3, .int b3), (4, .int x4)] [] z43
        refine g_iinc X (k := 4) (v := (x4 + 1)) dX11_move_43 rfl (ii_1 _) (by decide) rfl [1, 2, 3, 4, 0] (lu := [(0, .ref (ad 138)), (1, .ref (ad 144)), (2, .int b2), (3, .int b3), (4, .int (x4 + 1))]) rfl ?_
        refine g_goto X 3 (by decide) dX11_move_46 ?_
        exact ih (x4 + 1) z43
      refine g_if_eq X 30 (by decide) dX11_move_11 (fun q11 => ?_) (fun q11 => ?_)
      · refine g_aload_n X dX11_move_30 1 rfl rfl ?_
        refine g_iload X dX11_move_31 4 rfl ?_
        refine g_aload_n X dX11_move_33 0 rfl rfl ?_
        refine get_11_22 X (k := 138) k_138 s_138 m_5_79 dX11_move_34 ?_
        refine g_iload_n X dX11_move_37 2 rfl rfl ?_
        refine g_iload X dX11_move_38 4 rfl ?_
        refine g_iadd X dX11_move_40 ?_
        refine g_iald X (n := 300) (k := 159) k_159 s_159 dX11_move_41 (fun h1 => ?_)
        refine g_iast X (n := 20) (k := 144) k_144 s_144 dX11_move_42 (fun h2 => ?_)
        refine g_mlet X (fun M3 => ?_)
        exact hJ43 M3
      · refine g_aload_n X dX11_move_14 0 rfl rfl ?_
        refine get_11_22 X (k := 138) k_138 s_138 m_5_79 dX11_move_15 ?_
        refine g_iload_n X dX11_move_18 2 rfl rfl ?_
        refine g_iload X dX11_move_19 4 rfl ?_
        refine g_iadd X dX11_move_21 ?_
        refine g_aload_n X dX11_move_22 1 rfl rfl ?_
        refine g_iload X dX11_move_23 4 rfl ?_
        refine g_iald X (n := 20) (k := 144) k_144 s_144 dX11_move_25 (fun h4 => ?_)
        refine g_iast X (n := 300) (k := 159) k_159 s_159 dX11_move_26 (fun h5 => ?_)
        refine g_mlet X (fun M6 => ?_)
        refine g_goto X 43 (by decide) dX11_move_27 ?_
        exact hJ43 M6
set_option maxRecDepth 100000 in
set_option maxHeartbeats 4000000 in
theorem tm_move_6 {l : Launch} {D : va_G} {cy : Nat → ClassId} {ad : Nat → Nat} {N : Mem} (M : Mem) (a2 : Int32) (a3 : Int32) {x : (Int32 × Mem)} (h : fm_move_6 M a2 a3 = some x) : Mt l D cy ad yX11_move cX11_move 5 (some .int) 1 [.ref (ad 138), .ref (ad 144), .int a2, .int a3] ((wfM N) M) (some (.int x.1), (wfM N) x.2) := by
  refine met_of (fin := finS) (lv0 := [(0, .ref (ad 138)), (1, .ref (ad 144)), (2, .int a2), (3, .int a3)]) (by decide) (Nat.le_of_ble_eq_true rfl) rfl (lM N) h (fun p e s m args below meth c X hr => ?_)
  unfold fm_move_6
  refine g_iconst X dX11_move_0 ic_0 ?_
  refine g_istore X dX11_move_1 (by decide) rfl [1, 2, 3, 4, 0] (lu := [(0, .ref (ad 138)), (1, .ref (ad 144)), (2, .int a2), (3, .int a3), (4, .int 0)]) rfl ?_
  refine Lm_move_6_L3  X hr a2 a3  _ (fun M7 => ?_) FU 0 M
  · refine g_iload_n X dX11_move_49 1 rfl rfl ?_
    refine g_aload_n X dX11_move_50 0 rfl rfl ?_
    refine g_alenI X (n := 20) (k := 144) (v0 := 20) rfl k_144 s_144 dX11_move_51 ?_
    refine g_iadd X dX11_move_52 ?_
    exact g_iret X hr rfl dX11_move_53
set_option maxRecDepth 100000 in
set_option maxHeartbeats 4000000 in
theorem Lm_move_7_L3 {l : Launch} {D : va_G} {cy : Nat → ClassId} {ad : Nat → Nat} {N : Mem} {p : Program} {e : Env} {s : State} {m : MethodId} {args : Array Value} {below : List Frame} {meth : Method} {c : Code} (X : Cx p s m args meth c cX11_move 5 RX11 D cy ad (AA ad) (wfM N) sdM) (hr : meth.sig.returnType = (some .int)) (b2 : Int32) (b3 : Int32) (kx49 : Mem → Option (Int32 × Mem)) (hkx49 : ∀ (M : Mem), GF p l e (Rm 1) s m args below meth c 5 D cy ad (AA ad) 0 0 (wfM N) (QM D cy ad (wfM N) below args s) finS (kx49 M) 49 [(1, .ref (ad 145)), (2, .int b2)] [] M) : ∀ (n : Nat) (x4 : Int32) (M : Mem), GF p l e (Rm 1) s m args below meth c 5 D cy ad (AA ad) 0 0 (wfM N) (QM D cy ad (wfM N) below args s) finS (fm_move_7_L3 b2 b3 kx49 n x4 M) 3 [(0, .ref (ad 138)), (1, .ref (ad 145)), (2, .int b2), (3, .int b3), (4, .int x4)] [] M := by
  intro n
  induction n with
  | zero => intro x4 M; exact g_none
  | succ n ih =>
    intro x4 M
    rw [fm_move_7_L3]
    refine g_iload X dX11_move_3 4 rfl ?_
    refine g_aload_n X dX11_move_5 1 rfl rfl ?_
    refine g_alenI X (n := 20) (k := 145) (v0 := 20) rfl k_145 s_145 dX11_move_6 ?_
    refine g_icmp_ge X 49 (by decide) dX11_move_7 (fun q7 => ?_) (fun q7 => ?_)
    · refine g_sub (lu := [(1, .ref (ad 145)), (2, .int b2)]) [1, 2] rfl ?_
      exact hkx49 M
    · refine g_iload_n X dX11_move_10 3 rfl rfl ?_
      refine g_jlet X 43 (fun z43 : Mem => [(0, .ref (ad 138)), (1, .ref (ad 145)), (2, .int b2), (3, .int b3), (4, .int x4)]) (fun z43 : Mem => []) (fun z43 : Mem => z43) (fun z43 => ?_) (fun J43 hJ43 => ?_)
      · show GF _ _ _ _ _ _ _ _ _ _ _ _ _ _ _ _ _ _ _ _ _ 43 [(0, .ref (ad 138)), (1, .ref (ad 145)), (2, .int b2), (3, .int b3), (4, .int x4)] [] z43
        refine g_iinc X (k := 4) (v := (x4 + 1)) dX11_move_43 rfl (ii_1 _) (by decide) rfl [1, 2, 3, 4, 0] (lu := [(0, .ref (ad 138)), (1, .ref (ad 145)), (2, .int b2), (3, .int b3), (4, .int (x4 + 1))]) rfl ?_
        refine g_goto X 3 (by decide) dX11_move_46 ?_
        exact ih (x4 + 1) z43
      refine g_if_eq X 30 (by decide) dX11_move_11 (fun q11 => ?_) (fun q11 => ?_)
      · refine g_aload_n X dX11_move_30 1 rfl rfl ?_
        refine g_iload X dX11_move_31 4 rfl ?_
        refine g_aload_n X dX11_move_33 0 rfl rfl ?_
        refine get_11_22 X (k := 138) k_138 s_138 m_5_79 dX11_move_34 ?_
        refine g_iload_n X dX11_move_37 2 rfl rfl ?_
        refine g_iload X dX11_move_38 4 rfl ?_
        refine g_iadd X dX11_move_40 ?_
        refine g_iald X (n := 300) (k := 159) k_159 s_159 dX11_move_41 (fun h1 => ?_)
        refine g_iast X (n := 20) (k := 145) k_145 s_145 dX11_move_42 (fun h2 => ?_)
        refine g_mlet X (fun M3 => ?_)
        exact hJ43 M3
      · refine g_aload_n X dX11_move_14 0 rfl rfl ?_
        refine get_11_22 X (k := 138) k_138 s_138 m_5_79 dX11_move_15 ?_
        refine g_iload_n X dX11_move_18 2 rfl rfl ?_
        refine g_iload X dX11_move_19 4 rfl ?_
        refine g_iadd X dX11_move_21 ?_
        refine g_aload_n X dX11_move_22 1 rfl rfl ?_
        refine g_iload X dX11_move_23 4 rfl ?_
        refine g_iald X (n := 20) (k := 145) k_145 s_145 dX11_move_25 (fun h4 => ?_)
        refine g_iast X (n := 300) (k := 159) k_159 s_159 dX11_move_26 (fun h5 => ?_)
        refine g_mlet X (fun M6 => ?_)
        refine g_goto X 43 (by decide) dX11_move_27 ?_
        exact hJ43 M6
set_option maxRecDepth 100000 in
set_option maxHeartbeats 4000000 in
theorem tm_move_7 {l : Launch} {D : va_G} {cy : Nat → ClassId} {ad : Nat → Nat} {N : Mem} (M : Mem) (a2 : Int32) (a3 : Int32) {x : (Int32 × Mem)} (h : fm_move_7 M a2 a3 = some x) : Mt l D cy ad yX11_move cX11_move 5 (some .int) 1 [.ref (ad 138), .ref (ad 145), .int a2, .int a3] ((wfM N) M) (some (.int x.1), (wfM N) x.2) := by
  refine met_of (fin := finS) (lv0 := [(0, .ref (ad 138)), (1, .ref (ad 145)), (2, .int a2), (3, .int a3)]) (by decide) (Nat.le_of_ble_eq_true rfl) rfl (lM N) h (fun p e s m args below meth c X hr => ?_)
  unfold fm_move_7
  refine g_iconst X dX11_move_0 ic_0 ?_
  refine g_istore X dX11_move_1 (by decide) rfl [1, 2, 3, 4, 0] (lu := [(0, .ref (ad 138)), (1, .ref (ad 145)), (2, .int a2), (3, .int a3), (4, .int 0)]) rfl ?_
  refine Lm_move_7_L3  X hr a2 a3  _ (fun M7 => ?_) FU 0 M
  · refine g_iload_n X dX11_move_49 1 rfl rfl ?_
    refine g_aload_n X dX11_move_50 0 rfl rfl ?_
    refine g_alenI X (n := 20) (k := 145) (v0 := 20) rfl k_145 s_145 dX11_move_51 ?_
    refine g_iadd X dX11_move_52 ?_
    exact g_iret X hr rfl dX11_move_53
set_option maxRecDepth 100000 in
set_option maxHeartbeats 4000000 in
theorem Lm_move_8_L3 {l : Launch} {D : va_G} {cy : Nat → ClassId} {ad : Nat → Nat} {N : Mem} {p : Program} {e : Env} {s : State} {m : MethodId} {args : Array Value} {below : List Frame} {meth : Method} {c : Code} (X : Cx p s m args meth c cX11_move 5 RX11 D cy ad (AA ad) (wfM N) sdM) (hr : meth.sig.returnType = (some .int)) (b2 : Int32) (b3 : Int32) (kx49 : Mem → Option (Int32 × Mem)) (hkx49 : ∀ (M : Mem), GF p l e (Rm 1) s m args below meth c 5 D cy ad (AA ad) 0 0 (wfM N) (QM D cy ad (wfM N) below args s) finS (kx49 M) 49 [(1, .ref (ad 146)), (2, .int b2)] [] M) : ∀ (n : Nat) (x4 : Int32) (M : Mem), GF p l e (Rm 1) s m args below meth c 5 D cy ad (AA ad) 0 0 (wfM N) (QM D cy ad (wfM N) below args s) finS (fm_move_8_L3 b2 b3 kx49 n x4 M) 3 [(0, .ref (ad 138)), (1, .ref (ad 146)), (2, .int b2), (3, .int b3), (4, .int x4)] [] M := by
  intro n
  induction n with
  | zero => intro x4 M; exact g_none
  | succ n ih =>
    intro x4 M
    rw [fm_move_8_L3]
    refine g_iload X dX11_move_3 4 rfl ?_
    refine g_aload_n X dX11_move_5 1 rfl rfl ?_
    refine g_alenI X (n := 20) (k := 146) (v0 := 20) rfl k_146 s_146 dX11_move_6 ?_
    refine g_icmp_ge X 49 (by decide) dX11_move_7 (fun q7 => ?_) (fun q7 => ?_)
    · refine g_sub (lu := [(1, .ref (ad 146)), (2, .int b2)]) [1, 2] rfl ?_
      exact hkx49 M
    · refine g_iload_n X dX11_move_10 3 rfl rfl ?_
      refine g_jlet X 43 (fun z43 : Mem => [(0, .ref (ad 138)), (1, .ref (ad 146)), (2, .int b2), (3, .int b3), (4, .int x4)]) (fun z43 : Mem => []) (fun z43 : Mem => z43) (fun z43 => ?_) (fun J43 hJ43 => ?_)
      · show GF _ _ _ _ _ _ _ _ _ _ _ _ _ _ _ _ _ _ _ _ _ 43 [(0, .ref (ad 138)), (1, .ref (ad 146)), (2, .int b2), (3, .int b3), (4, .int x4)] [] z43
        refine g_iinc X (k := 4) (v := (x4 + 1)) dX11_move_43 rfl (ii_1 _) (by decide) rfl [1, 2, 3, 4, 0] (lu := [(0, .ref (ad 138)), (1, .ref (ad 146)), (2, .int b2), (3, .int b3), (4, .int (x4 + 1))]) rfl ?_
        refine g_goto X 3 (by decide) dX11_move_46 ?_
        exact ih (x4 + 1) z43
      refine g_if_eq X 30 (by decide) dX11_move_11 (fun q11 => ?_) (fun q11 => ?_)
      · refine g_aload_n X dX11_move_30 1 rfl rfl ?_
        refine g_iload X dX11_move_31 4 rfl ?_
        refine g_aload_n X dX11_move_33 0 rfl rfl ?_
        refine get_11_22 X (k := 138) k_138 s_138 m_5_79 dX11_move_34 ?_
        refine g_iload_n X dX11_move_37 2 rfl rfl ?_
        refine g_iload X dX11_move_38 4 rfl ?_
        refine g_iadd X dX11_move_40 ?_
        refine g_iald X (n := 300) (k := 159) k_159 s_159 dX11_move_41 (fun h1 => ?_)
        refine g_iast X (n := 20) (k := 146) k_146 s_146 dX11_move_42 (fun h2 => ?_)
        refine g_mlet X (fun M3 => ?_)
        exact hJ43 M3
      · refine g_aload_n X dX11_move_14 0 rfl rfl ?_
        refine get_11_22 X (k := 138) k_138 s_138 m_5_79 dX11_move_15 ?_
        refine g_iload_n X dX11_move_18 2 rfl rfl ?_
        refine g_iload X dX11_move_19 4 rfl ?_
        refine g_iadd X dX11_move_21 ?_
        refine g_aload_n X dX11_move_22 1 rfl rfl ?_
        refine g_iload X dX11_move_23 4 rfl ?_
        refine g_iald X (n := 20) (k := 146) k_146 s_146 dX11_move_25 (fun h4 => ?_)
        refine g_iast X (n := 300) (k := 159) k_159 s_159 dX11_move_26 (fun h5 => ?_)
        refine g_mlet X (fun M6 => ?_)
        refine g_goto X 43 (by decide) dX11_move_27 ?_
        exact hJ43 M6
set_option maxRecDepth 100000 in
set_option maxHeartbeats 4000000 in
theorem tm_move_8 {l : Launch} {D : va_G} {cy : Nat → ClassId} {ad : Nat → Nat} {N : Mem} (M : Mem) (a2 : Int32) (a3 : Int32) {x : (Int32 × Mem)} (h : fm_move_8 M a2 a3 = some x) : Mt l D cy ad yX11_move cX11_move 5 (some .int) 1 [.ref (ad 138), .ref (ad 146), .int a2, .int a3] ((wfM N) M) (some (.int x.1), (wfM N) x.2) := by
  refine met_of (fin := finS) (lv0 := [(0, .ref (ad 138)), (1, .ref (ad 146)), (2, .int a2), (3, .int a3)]) (by decide) (Nat.le_of_ble_eq_true rfl) rfl (lM N) h (fun p e s m args below meth c X hr => ?_)
  unfold fm_move_8
  refine g_iconst X dX11_move_0 ic_0 ?_
  refine g_istore X dX11_move_1 (by decide) rfl [1, 2, 3, 4, 0] (lu := [(0, .ref (ad 138)), (1, .ref (ad 146)), (2, .int a2), (3, .int a3), (4, .int 0)]) rfl ?_
  refine Lm_move_8_L3  X hr a2 a3  _ (fun M7 => ?_) FU 0 M
  · refine g_iload_n X dX11_move_49 1 rfl rfl ?_
    refine g_aload_n X dX11_move_50 0 rfl rfl ?_
    refine g_alenI X (n := 20) (k := 146) (v0 := 20) rfl k_146 s_146 dX11_move_51 ?_
    refine g_iadd X dX11_move_52 ?_
    exact g_iret X hr rfl dX11_move_53
