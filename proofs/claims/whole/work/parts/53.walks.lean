set_option maxRecDepth 100000 in
set_option maxHeartbeats 4000000 in
theorem tInteger_bitCount {l : Launch} {D : va_G} {cy : Nat → ClassId} {ad : Nat → Nat} {N : Mem} (M : Mem) (a0 : Int32) {x : Int32} (h : fInteger_bitCount M a0 = some x) : Mt l D cy ad yJ6_bitCount_0f7a4 cJ6_bitCount_0f7a4 1 (some .int) 1 [.int a0] ((wfC N) M) (some (.int x), (wfC N) M) := by
  refine met_of (fin := (finI M)) (lv0 := [(0, .int a0)]) (by decide) (Nat.le_of_ble_eq_true rfl) rfl (lC N) h (fun p e s m args below meth c X hr => ?_)
  unfold fInteger_bitCount
  refine g_iload_n X dJ6_bitCount_0f7a4_0 0 rfl rfl ?_
  refine g_iload_n X dJ6_bitCount_0f7a4_1 0 rfl rfl ?_
  refine g_iconst X dJ6_bitCount_0f7a4_2 ic_1 ?_
  refine g_iushr X dJ6_bitCount_0f7a4_3 ?_
  refine g_ldcw X dJ6_bitCount_0f7a4_4 m_4_94 ?_
  refine g_iand X dJ6_bitCount_0f7a4_7 ?_
  refine g_isub X dJ6_bitCount_0f7a4_8 ?_
  refine g_ilet X (fun v1 => ?_)
  refine g_istore_n X dJ6_bitCount_0f7a4_9 rfl (by decide) rfl [0] (lu := [(0, .int v1)]) rfl ?_
  refine g_iload_n X dJ6_bitCount_0f7a4_10 0 rfl rfl ?_
  refine g_ldcw X dJ6_bitCount_0f7a4_11 m_4_95 ?_
  refine g_iand X dJ6_bitCount_0f7a4_14 ?_
  refine g_iload_n X dJ6_bitCount_0f7a4_15 0 rfl rfl ?_
  refine g_iconst X dJ6_bitCount_0f7a4_16 ic_2 ?_
  refine g_iushr X dJ6_bitCount_0f7a4_17 ?_
  refine g_ldcw X dJ6_bitCount_0f7a4_18 m_4_95 ?_
  refine g_iand X dJ6_bitCount_0f7a4_21 ?_
  refine g_iadd X dJ6_bitCount_0f7a4_22 ?_
  refine g_ilet X (fun v2 => ?_)
  refine g_istore_n X dJ6_bitCount_0f7a4_23 rfl (by decide) rfl [0] (lu := [(0, .int v2)]) rfl ?_
  refine g_iload_n X dJ6_bitCount_0f7a4_24 0 rfl rfl ?_
  refine g_iload_n X dJ6_bitCount_0f7a4_25 0 rfl rfl ?_
  refine g_iconst X dJ6_bitCount_0f7a4_26 ic_4 ?_
  refine g_iushr X dJ6_bitCount_0f7a4_27 ?_
  refine g_iadd X dJ6_bitCount_0f7a4_28 ?_
  refine g_ldcw X dJ6_bitCount_0f7a4_29 m_4_96 ?_
  refine g_iand X dJ6_bitCount_0f7a4_32 ?_
  refine g_ilet X (fun v3 => ?_)
  refine g_istore_n X dJ6_bitCount_0f7a4_33 rfl (by decide) rfl [0] (lu := [(0, .int v3)]) rfl ?_
  refine g_iload_n X dJ6_bitCount_0f7a4_34 0 rfl rfl ?_
  refine g_iload_n X dJ6_bitCount_0f7a4_35 0 rfl rfl ?_
  refine g_bipush X dJ6_bitCount_0f7a4_36 bi_8 ?_
  refine g_iushr X dJ6_bitCount_0f7a4_38 ?_
  refine g_iadd X dJ6_bitCount_0f7a4_39 ?_
  refine g_ilet X (fun v4 => ?_)
  refine g_istore_n X dJ6_bitCount_0f7a4_40 rfl (by decide) rfl [0] (lu := [(0, .int v4)]) rfl ?_
  refine g_iload_n X dJ6_bitCount_0f7a4_41 0 rfl rfl ?_
  refine g_iload_n X dJ6_bitCount_0f7a4_42 0 rfl rfl ?_
  refine g_bipush X dJ6_bitCount_0f7a4_43 bi_16 ?_
  refine g_iushr X dJ6_bitCount_0f7a4_45 ?_
  refine g_iadd X dJ6_bitCount_0f7a4_46 ?_
  refine g_ilet X (fun v5 => ?_)
  refine g_istore_n X dJ6_bitCount_0f7a4_47 rfl (by decide) rfl [0] (lu := [(0, .int v5)]) rfl ?_
  refine g_iload_n X dJ6_bitCount_0f7a4_48 0 rfl rfl ?_
  refine g_bipush X dJ6_bitCount_0f7a4_49 bi_63 ?_
  refine g_iand X dJ6_bitCount_0f7a4_51 ?_
  exact g_iret X hr rfl dJ6_bitCount_0f7a4_52
set_option maxRecDepth 100000 in
set_option maxHeartbeats 4000000 in
theorem tc_isSet {l : Launch} {D : va_G} {cy : Nat → ClassId} {ad : Nat → Nat} {N : Mem} (M : Mem) (a1 : Int32) {x : Int32} (h : fc_isSet M a1 = some x) : Mt l D cy ad yX10_isSet cX10_isSet 3 (some .boolean) 2 [.ref (ad 0), .int a1] ((wfC N) M) (some (.int x), (wfC N) M) := by
  refine met_of (fin := (finI M)) (lv0 := [(0, .ref (ad 0)), (1, .int a1)]) (by decide) (Nat.le_of_ble_eq_true rfl) rfl (lC N) h (fun p e s m args below meth c X hr => ?_)
  unfold fc_isSet
  refine g_iconst X dX10_isSet_0 ic_1 ?_
  refine g_aload_n X dX10_isSet_1 0 rfl rfl ?_
  refine get_10_2 X (k := 0) k_0 s_0 m_2_128 dX10_isSet_2 ?_
  refine get_1_1 X (k := 20) k_20 s_20 m_1_179 dX10_isSet_5 ?_
  refine g_ishl X dX10_isSet_8 ?_
  refine g_iconst X dX10_isSet_9 ic_1 ?_
  refine g_isub X dX10_isSet_10 ?_
  refine g_ilet X (fun v1 => ?_)
  refine g_istore_n X dX10_isSet_11 rfl (by decide) rfl [2, 0] (lu := [(1, .int a1), (2, .int v1)]) rfl ?_
  refine g_iload_n X dX10_isSet_12 0 rfl rfl ?_
  refine g_iload_n X dX10_isSet_13 1 rfl rfl ?_
  refine g_iconst X dX10_isSet_14 ic_m1 ?_
  refine g_ixor X dX10_isSet_15 ?_
  refine g_iand X dX10_isSet_16 ?_
  refine g_if_ne X 33 (by decide) dX10_isSet_17 (fun q17 => ?_) (fun q17 => ?_)
  · refine g_iconst X dX10_isSet_33 ic_0 ?_
    exact g_zret X hr (isB_n (by decide)) rfl dX10_isSet_34
  · refine g_iload_n X dX10_isSet_20 0 rfl rfl ?_
    refine g_ci X (st := []) (fun _ hh => ok_S X (As := [.int a1]) wkJ6_bitCount_0f7a4 (tInteger_bitCount M a1 hh) rfl m_4_91 rfl (hRm (by decide) (by decide)) ⟨Nat.zero_le _, Nat.zero_le _⟩ (Nat.le_of_ble_eq_true rfl) dX10_isSet_21) (fun r2 _ => ?_)
    refine g_bipush X dX10_isSet_24 bi_6 ?_
    refine g_icmp_gt X 33 (by decide) dX10_isSet_26 (fun q26 => ?_) (fun q26 => ?_)
    · refine g_iconst X dX10_isSet_33 ic_0 ?_
      exact g_zret X hr (isB_n (by decide)) rfl dX10_isSet_34
    · refine g_iconst X dX10_isSet_29 ic_1 ?_
      refine g_goto X 34 (by decide) dX10_isSet_30 ?_
      exact g_zret X hr (isB_n (by decide)) rfl dX10_isSet_34
set_option maxRecDepth 100000 in
set_option maxHeartbeats 4000000 in
theorem Lc_readSet_L4 {l : Launch} {D : va_G} {cy : Nat → ClassId} {ad : Nat → Nat} {N : Mem} {p : Program} {e : Env} {s : State} {m : MethodId} {args : Array Value} {below : List Frame} {meth : Method} {c : Code} (X : Cx p s m args meth c cX10_readSet 4 RX10 D cy ad (AA ad) (wfC N) sdC) (hr : meth.sig.returnType = (some .int)) (b0 : Int32) : ∀ (n : Nat) (x2 : Int32) (x3 : Int32) (M : Mem), GF p l e (Rm 1) s m args below meth c 4 D cy ad (AA ad) 0 0 (wfC N) (QM D cy ad (wfC N) below args s) finS (fc_readSet_L4 b0 n x2 x3 M) 4 [(0, .int b0), (1, .ref (ad 127)), (2, .int x2), (3, .int x3)] [] M := by
  intro n
  induction n with
  | zero => intro x2 x3 M; exact g_none
  | succ n ih =>
    intro x2 x3 M
    rw [fc_readSet_L4]
    refine g_iload_n X dX10_readSet_4 3 rfl rfl ?_
    refine g_bipush X dX10_readSet_5 bi_20 ?_
    refine g_icmp_ge X 38 (by decide) dX10_readSet_7 (fun q7 => ?_) (fun q7 => ?_)
    · refine g_iload_n X dX10_readSet_38 2 rfl rfl ?_
      exact g_iret X hr rfl dX10_readSet_39
    · refine g_iload_n X dX10_readSet_10 2 rfl rfl ?_
      refine g_aload_n X dX10_readSet_11 1 rfl rfl ?_
      refine g_alenI X (n := 6) (k := 127) (v0 := 6) rfl k_127 s_127 dX10_readSet_12 ?_
      refine g_icmp_ge X 38 (by decide) dX10_readSet_13 (fun q13 => ?_) (fun q13 => ?_)
      · refine g_iload_n X dX10_readSet_38 2 rfl rfl ?_
        exact g_iret X hr rfl dX10_readSet_39
      · refine g_iload_n X dX10_readSet_16 0 rfl rfl ?_
        refine g_iload_n X dX10_readSet_17 3 rfl rfl ?_
        refine g_ishr X dX10_readSet_18 ?_
        refine g_iconst X dX10_readSet_19 ic_1 ?_
        refine g_iand X dX10_readSet_20 ?_
        refine g_iconst X dX10_readSet_21 ic_1 ?_
        refine g_jlet X 32 (fun z32 : Int32 × Mem => [(0, .int b0), (1, .ref (ad 127)), (2, .int (z32.1)), (3, .int x3)]) (fun z32 : Int32 × Mem => []) (fun z32 : Int32 × Mem => (z32.2)) (fun z32 => ?_) (fun J32 hJ32 => ?_)
        · show GF _ _ _ _ _ _ _ _ _ _ _ _ _ _ _ _ _ _ _ _ _ 32 [(0, .int b0), (1, .ref (ad 127)), (2, .int (z32.1)), (3, .int x3)] [] (z32.2)
          refine g_iinc X (k := 3) (v := (x3 + 1)) dX10_readSet_32 rfl (ii_1 _) (by decide) rfl [1, 2, 3, 0] (lu := [(0, .int b0), (1, .ref (ad 127)), (2, .int (z32.1)), (3, .int (x3 + 1))]) rfl ?_
          refine g_goto X 4 (by decide) dX10_readSet_35 ?_
          exact ih (z32.1) (x3 + 1) (z32.2)
        refine g_icmp_ne X 32 (by decide) dX10_readSet_22 (fun q22 => ?_) (fun q22 => ?_)
        · exact hJ32 (x2, M)
        · refine g_aload_n X dX10_readSet_25 1 rfl rfl ?_
          refine g_iload_n X dX10_readSet_26 2 rfl rfl ?_
          refine g_iload_n X dX10_readSet_27 3 rfl rfl ?_
          refine g_iast X (n := 6) (k := 127) k_127 s_127 dX10_readSet_28 (fun h1 => ?_)
          refine g_mlet X (fun M2 => ?_)
          refine g_iinc X (k := 2) (v := (x2 + 1)) dX10_readSet_29 rfl (ii_1 _) (by decide) rfl [1, 2, 0, 3] (lu := [(0, .int b0), (1, .ref (ad 127)), (2, .int (x2 + 1)), (3, .int x3)]) rfl ?_
          exact hJ32 ((x2 + 1), M2)
set_option maxRecDepth 100000 in
set_option maxHeartbeats 4000000 in
theorem tc_readSet {l : Launch} {D : va_G} {cy : Nat → ClassId} {ad : Nat → Nat} {N : Mem} (M : Mem) (a0 : Int32) {x : (Int32 × Mem)} (h : fc_readSet M a0 = some x) : Mt l D cy ad yX10_readSet cX10_readSet 4 (some .int) 1 [.int a0, .ref (ad 127)] ((wfC N) M) (some (.int x.1), (wfC N) x.2) := by
  refine met_of (fin := finS) (lv0 := [(0, .int a0), (1, .ref (ad 127))]) (by decide) (Nat.le_of_ble_eq_true rfl) rfl (lC N) h (fun p e s m args below meth c X hr => ?_)
  unfold fc_readSet
  refine g_iconst X dX10_readSet_0 ic_0 ?_
  refine g_istore_n X dX10_readSet_1 rfl (by decide) rfl [1, 2, 0] (lu := [(0, .int a0), (1, .ref (ad 127)), (2, .int 0)]) rfl ?_
  refine g_iconst X dX10_readSet_2 ic_0 ?_
  refine g_istore_n X dX10_readSet_3 rfl (by decide) rfl [1, 2, 3, 0] (lu := [(0, .int a0), (1, .ref (ad 127)), (2, .int 0), (3, .int 0)]) rfl ?_
  exact Lc_readSet_L4  X hr a0    FU 0 0 M
set_option maxRecDepth 100000 in
set_option maxHeartbeats 4000000 in
theorem tOrderSearch_isBetter {l : Launch} {D : va_G} {cy : Nat → ClassId} {ad : Nat → Nat} {N : Mem} (M : Mem) (a1 : Int32) (a2 : Int32) {x : Int32} (h : fOrderSearch_isBetter M a1 a2 = some x) : Mt l D cy ad yX4_isBetter cX4_isBetter 3 (some .boolean) 1 [.ref (ad 125), .int a1, .int a2] ((wfC N) M) (some (.int x), (wfC N) M) := by
  refine met_of (fin := (finI M)) (lv0 := [(0, .ref (ad 125)), (1, .int a1), (2, .int a2)]) (by decide) (Nat.le_of_ble_eq_true rfl) rfl (lC N) h (fun p e s m args below meth c X hr => ?_)
  unfold fOrderSearch_isBetter
  refine g_iload_n X dX4_isBetter_0 1 rfl rfl ?_
  refine g_aload_n X dX4_isBetter_1 0 rfl rfl ?_
  refine get_4_1 X (k := 125) k_125 s_125 m_2_32 dX4_isBetter_2 ?_
  refine g_icmp_lt X 24 (by decide) dX4_isBetter_5 (fun q5 => ?_) (fun q5 => ?_)
  · refine g_iconst X dX4_isBetter_24 ic_1 ?_
    refine g_goto X 29 (by decide) dX4_isBetter_25 ?_
    exact g_zret X hr (isB_n (by decide)) rfl dX4_isBetter_29
  · refine g_iload_n X dX4_isBetter_8 1 rfl rfl ?_
    refine g_aload_n X dX4_isBetter_9 0 rfl rfl ?_
    refine get_4_1 X (k := 125) k_125 s_125 m_2_32 dX4_isBetter_10 ?_
    refine g_icmp_ne X 28 (by decide) dX4_isBetter_13 (fun q13 => ?_) (fun q13 => ?_)
    · refine g_iconst X dX4_isBetter_28 ic_0 ?_
      exact g_zret X hr (isB_n (by decide)) rfl dX4_isBetter_29
    · refine g_iload_n X dX4_isBetter_16 2 rfl rfl ?_
      refine g_aload_n X dX4_isBetter_17 0 rfl rfl ?_
      refine get_4_2 X (k := 125) k_125 s_125 m_2_34 dX4_isBetter_18 ?_
      refine g_icmp_ge X 28 (by decide) dX4_isBetter_21 (fun q21 => ?_) (fun q21 => ?_)
      · refine g_iconst X dX4_isBetter_28 ic_0 ?_
        exact g_zret X hr (isB_n (by decide)) rfl dX4_isBetter_29
      · refine g_iconst X dX4_isBetter_24 ic_1 ?_
        refine g_goto X 29 (by decide) dX4_isBetter_25 ?_
        exact g_zret X hr (isB_n (by decide)) rfl dX4_isBetter_29
theorem tOrderSearch_isBetterT {l : Launch} {D : va_G} {cy : Nat → ClassId} {ad : Nat → Nat} {N : Mem} (M : Mem) (a1 : Int32) (a2 : Int32) : Mt l D cy ad yX4_isBetter cX4_isBetter 3 (some .boolean) 1 [.ref (ad 125), .int a1, .int a2] ((wfC N) M) (some (.int (fOrderSearch_isBetterT M a1 a2)), (wfC N) M) := tOrderSearch_isBetter M a1 a2 (fOrderSearch_isBetterE M a1 a2)
set_option maxRecDepth 100000 in
set_option maxHeartbeats 4000000 in
theorem tOrderSearch_keep {l : Launch} {D : va_G} {cy : Nat → ClassId} {ad : Nat → Nat} {N : Mem} (M : Mem) (a1 : Int32) (a2 : Int32) {x : Mem} (h : fOrderSearch_keep M a1 a2 = some x) : Mt l D cy ad yX4_keep cX4_keep 3 none 2 [.ref (ad 125), .int a1, .int a2] ((wfC N) M) (none, (wfC N) x) := by
  refine met_of (fin := finV) (lv0 := [(0, .ref (ad 125)), (1, .int a1), (2, .int a2)]) (by decide) (Nat.le_of_ble_eq_true rfl) rfl (lC N) h (fun p e s m args below meth c X hr => ?_)
  unfold fOrderSearch_keep
  refine g_aload_n X dX4_keep_0 0 rfl rfl ?_
  refine g_iload_n X dX4_keep_1 1 rfl rfl ?_
  refine put_4_1 X (k := 125) k_125 s_125 m_2_32 dX4_keep_2 ?_
  refine g_mlet X (fun M1 => ?_)
  refine g_aload_n X dX4_keep_5 0 rfl rfl ?_
  refine g_iload_n X dX4_keep_6 2 rfl rfl ?_
  refine put_4_2 X (k := 125) k_125 s_125 m_2_34 dX4_keep_7 ?_
  refine g_mlet X (fun M2 => ?_)
  refine g_aload_n X dX4_keep_10 0 rfl rfl ?_
  refine get_4_9 X (k := 125) k_125 s_125 m_2_42 dX4_keep_11 ?_
  refine g_iconst X dX4_keep_14 ic_0 ?_
  refine g_aload_n X dX4_keep_15 0 rfl rfl ?_
  refine get_4_0 X (k := 125) k_125 s_125 m_2_30 dX4_keep_16 ?_
  refine g_iconst X dX4_keep_19 ic_0 ?_
  refine g_aload_n X dX4_keep_20 0 rfl rfl ?_
  refine get_4_6 X (k := 125) k_125 s_125 m_2_39 dX4_keep_21 ?_
  refine g_cpI X (k0 := 129) (k := 126) (n0 := 6) (n1 := 6) k_129 s_129 k_126 s_126 m_4_113 (hR2 (by decide) (Nat.le_of_ble_eq_true rfl)) dX4_keep_24 (fun _ => ?_)
  refine g_mlet X (fun M3 => ?_)
  exact g_vret X hr rfl dX4_keep_27
set_option maxRecDepth 100000 in
set_option maxHeartbeats 4000000 in
theorem LOrderSearch_extend_L25 {l : Launch} {D : va_G} {cy : Nat → ClassId} {ad : Nat → Nat} {N : Mem} {p : Program} {e : Env} {s : State} {m : MethodId} {args : Array Value} {below : List Frame} {meth : Method} {c : Code} {d : Nat} (rec : Int32 → Int32 → Int32 → Int32 → Mem → Option Mem) (hrec : ∀ (a1 : Int32) (a2 : Int32) (a3 : Int32) (a4 : Int32) (M : Mem) (x : Mem), rec a1 a2 a3 a4 M = some x → Mt l D cy ad yX4_extend cX4_extend 9 none (6 + d) [.ref (ad 125), .int a1, .int a2, .int a3, .int a4] ((wfC N) M) (none, (wfC N) x)) (X : Cx p s m args meth c cX4_extend 9 RX4 D cy ad (AA ad) (wfC N) sdC) (hr : meth.sig.returnType = none) (b1 : Int32) (b2 : Int32) (b3 : Int32) (b4 : Int32) : ∀ (n : Nat) (x5 : Int32) (M : Mem), GF p l e (Rm (6 + (d + 1))) s m args below meth c 9 D cy ad (AA ad) 0 0 (wfC N) (QM D cy ad (wfC N) below args s) finV (fOrderSearch_extend_L25 rec b1 b2 b3 b4 n x5 M) 25 [(0, .ref (ad 125)), (1, .int b1), (2, .int b2), (3, .int b3), (4, .int b4), (5, .int x5)] [] M := by
  intro n
  induction n with
  | zero => intro x5 M; exact g_none
  | succ n ih =>
    intro x5 M
    rw [fOrderSearch_extend_L25]
    refine g_iload X dX4_extend_25 5 rfl ?_
    refine g_aload_n X dX4_extend_27 0 rfl rfl ?_
    refine get_4_6 X (k := 125) k_125 s_125 m_2_39 dX4_extend_28 ?_
    refine g_icmp_ge X 186 (by decide) dX4_extend_31 (fun q31 => ?_) (fun q31 => ?_)
    · exact g_vret X hr rfl dX4_extend_186
    · refine g_aload_n X dX4_extend_34 0 rfl rfl ?_
      refine get_4_8 X (k := 125) k_125 s_125 m_2_41 dX4_extend_35 ?_
      refine g_iload X dX4_extend_38 5 rfl ?_
      refine g_zald X (k := 128) k_128 s_128 dX4_extend_40 (fun h1 => ?_)
      refine g_jlet X 180 (fun z180 : Mem => [(0, .ref (ad 125)), (1, .int b1), (2, .int b2), (3, .int b3), (4, .int b4), (5, .int x5)]) (fun z180 : Mem => []) (fun z180 : Mem => z180) (fun z180 => ?_) (fun J180 hJ180 => ?_)
      · show GF _ _ _ _ _ _ _ _ _ _ _ _ _ _ _ _ _ _ _ _ _ 180 [(0, .ref (ad 125)), (1, .int b1), (2, .int b2), (3, .int b3), (4, .int b4), (5, .int x5)] [] z180
        refine g_iinc X (k := 5) (v := (x5 + 1)) dX4_extend_180 rfl (ii_1 _) (by decide) rfl [1, 2, 3, 4, 5, 0] (lu := [(0, .ref (ad 125)), (1, .int b1), (2, .int b2), (3, .int b3), (4, .int b4), (5, .int (x5 + 1))]) rfl ?_
        refine g_goto X 25 (by decide) dX4_extend_183 ?_
        exact ih (x5 + 1) z180
      refine g_if_eq X 47 (by decide) dX4_extend_41 (fun q41 => ?_) (fun q41 => ?_)
      · refine g_aload_n X dX4_extend_47 0 rfl rfl ?_
        refine get_4_3 X (k := 125) k_125 s_125 m_2_36 dX4_extend_48 ?_
        refine g_lake X (fun _ => ?_)
        refine get_1_0 X (k := 20) k_20 s_20 m_1_176 dX4_extend_51 ?_
        refine g_aload_n X dX4_extend_54 0 rfl rfl ?_
        refine get_4_7 X (k := 125) k_125 s_125 m_2_40 dX4_extend_55 ?_
        refine g_iload X dX4_extend_58 5 rfl ?_
        refine g_iald X (n := 6) (k := 127) k_127 s_127 dX4_extend_60 (fun h2 => ?_)
        refine g_aald24 X (k := 21) k_21 s_21 dX4_extend_61 (fun h3 => ?_)
        refine get_0_1 X (k := (ix (M.1 127 (ix x5))) + 22) (kf_22 _ (inb_lt h3)) (sf_22 _ (inb_lt h3)) m_1_113 dX4_extend_62 ?_
        refine g_ilet X (fun v4 => ?_)
        refine g_istore X dX4_extend_65 (by decide) rfl [1, 2, 3, 4, 5, 6, 0] (lu := [(0, .ref (ad 125)), (1, .int b1), (2, .int b2), (3, .int b3), (4, .int b4), (5, .int x5), (6, .int v4)]) rfl ?_
        refine g_iload_n X dX4_extend_67 3 rfl rfl ?_
        refine g_aload_n X dX4_extend_68 0 rfl rfl ?_
        refine get_4_3 X (k := 125) k_125 s_125 m_2_36 dX4_extend_69 ?_
        refine g_lake X (fun _ => ?_)
        refine g_iload_n X dX4_extend_72 2 rfl rfl ?_
        refine g_iload X dX4_extend_73 6 rfl ?_
        refine g_aload_n X dX4_extend_75 0 rfl rfl ?_
        refine get_4_3 X (k := 125) k_125 s_125 m_2_36 dX4_extend_76 ?_
        refine g_lake X (fun _ => ?_)
        refine g_ci X (st := [.int v4, .int b2, .ref (ad 20), .int b3]) (fun _ hh => ok_V X (k0 := 20) (As := []) wkX1_speed (tLake_speed M hh) rfl k_20 s_20 (by decide) rfl m_4_114 rfl (hRm (by omega) (by decide)) ⟨Nat.zero_le _, Nat.zero_le _⟩ (Nat.le_of_ble_eq_true rfl) dX4_extend_79) (fun r5 _ => ?_)
        refine g_ci X (st := [.int b3]) (fun _ hh => ok_V X (k0 := 20) (As := [.int b2, .int v4, .int r5]) wkX1_legMinutes (tLake_legMinutes M b2 v4 r5 hh) rfl k_20 s_20 (by decide) rfl m_4_115 rfl (hRm (by omega) (by decide)) ⟨Nat.zero_le _, Nat.zero_le _⟩ (Nat.le_of_ble_eq_true rfl) dX4_extend_82) (fun r6 _ => ?_)
        refine g_iadd X dX4_extend_85 ?_
        refine g_ilet X (fun v7 => ?_)
        refine g_istore X dX4_extend_86 (by decide) rfl [1, 2, 3, 4, 5, 6, 7, 0] (lu := [(0, .ref (ad 125)), (1, .int b1), (2, .int b2), (3, .int b3), (4, .int b4), (5, .int x5), (6, .int v4), (7, .int v7)]) rfl ?_
        refine g_iload X dX4_extend_88 4 rfl ?_
        refine g_aload_n X dX4_extend_90 0 rfl rfl ?_
        refine get_4_3 X (k := 125) k_125 s_125 m_2_36 dX4_extend_91 ?_
        refine g_lake X (fun _ => ?_)
        refine g_aload_n X dX4_extend_94 0 rfl rfl ?_
        refine get_4_4 X (k := 125) k_125 s_125 m_2_37 dX4_extend_95 ?_
        refine g_aload_n X dX4_extend_98 0 rfl rfl ?_
        refine get_4_7 X (k := 125) k_125 s_125 m_2_40 dX4_extend_99 ?_
        refine g_iload X dX4_extend_102 5 rfl ?_
        refine g_iald X (n := 6) (k := 127) k_127 s_127 dX4_extend_104 (fun h8 => ?_)
        refine g_iload X dX4_extend_105 7 rfl ?_
        refine g_ct X (v0 := .int (fc_hourOfT M v7)) (st := [.int (M.1 127 (ix x5)), .int (M.1 125 4), .ref (ad 20), .int b4]) (ok_N X (As := [.int v7]) wkX10_hourOf (tc_hourOfT M v7) rfl m_4_116 rfl (hRm (by omega) (by decide)) ⟨Nat.zero_le _, Nat.zero_le _⟩ (Nat.le_of_ble_eq_true rfl) dX4_extend_107) ?_
        refine g_ci X (st := [.int b4]) (fun _ hh => ok_V X (k0 := 20) (As := [.int (M.1 125 4), .int (M.1 127 (ix x5)), .int (fc_hourOfT M v7)]) wkX1_riskOf (tLake_riskOf M (M.1 125 4) (M.1 127 (ix x5)) (fc_hourOfT M v7) hh) rfl k_20 s_20 (by decide) rfl m_4_117 rfl (hRm (by omega) (by decide)) ⟨Nat.zero_le _, Nat.zero_le _⟩ (Nat.le_of_ble_eq_true rfl) dX4_extend_110) (fun r9 _ => ?_)
        refine g_iadd X dX4_extend_113 ?_
        refine g_ilet X (fun v10 => ?_)
        refine g_istore X dX4_extend_114 (by decide) rfl [1, 2, 3, 4, 5, 6, 7, 8, 0] (lu := [(0, .ref (ad 125)), (1, .int b1), (2, .int b2), (3, .int b3), (4, .int b4), (5, .int x5), (6, .int v4), (7, .int v7), (8, .int v10)]) rfl ?_
        refine g_iload X dX4_extend_116 7 rfl ?_
        refine g_aload_n X dX4_extend_118 0 rfl rfl ?_
        refine get_4_5 X (k := 125) k_125 s_125 m_2_38 dX4_extend_119 ?_
        refine g_icmp_gt X 180 (by decide) dX4_extend_122 (fun q122 => ?_) (fun q122 => ?_)
        · refine g_sub (lu := [(0, .ref (ad 125)), (1, .int b1), (2, .int b2), (3, .int b3), (4, .int b4), (5, .int x5)]) [0, 1, 2, 3, 4, 5] rfl ?_
          exact hJ180 M
        · refine g_aload_n X dX4_extend_125 0 rfl rfl ?_
          refine g_iload X dX4_extend_126 8 rfl ?_
          refine g_iload X dX4_extend_128 7 rfl ?_
          refine g_ct X (v0 := .int (fOrderSearch_isBetterT M v10 v7)) (st := []) (ok_V X (k0 := 125) (As := [.int v10, .int v7]) wkX4_isBetter (tOrderSearch_isBetterT M v10 v7) rfl k_125 s_125 (by decide) rfl m_4_118 rfl (hRm (by omega) (by decide)) ⟨Nat.zero_le _, Nat.zero_le _⟩ (Nat.le_of_ble_eq_true rfl) dX4_extend_130) ?_
          refine g_if_eq X 180 (by decide) dX4_extend_133 (fun q133 => ?_) (fun q133 => ?_)
          · refine g_sub (lu := [(0, .ref (ad 125)), (1, .int b1), (2, .int b2), (3, .int b3), (4, .int b4), (5, .int x5)]) [0, 1, 2, 3, 4, 5] rfl ?_
            exact hJ180 M
          · refine g_aload_n X dX4_extend_136 0 rfl rfl ?_
            refine get_4_8 X (k := 125) k_125 s_125 m_2_41 dX4_extend_137 ?_
            refine g_iload X dX4_extend_140 5 rfl ?_
            refine g_iconst X dX4_extend_142 ic_1 ?_
            refine g_zast X (k := 128) (by decide) k_128 s_128 dX4_extend_143 (fun h11 => ?_)
            refine g_mlet X (fun M12 => ?_)
            refine g_aload_n X dX4_extend_144 0 rfl rfl ?_
            refine get_4_9 X (k := 125) k_125 s_125 m_2_42 dX4_extend_145 ?_
            refine g_iload_n X dX4_extend_148 1 rfl rfl ?_
            refine g_aload_n X dX4_extend_149 0 rfl rfl ?_
            refine get_4_7 X (k := 125) k_125 s_125 m_2_40 dX4_extend_150 ?_
            refine g_iload X dX4_extend_153 5 rfl ?_
            refine g_iald X (n := 6) (k := 127) k_127 s_127 dX4_extend_155 (fun h13 => ?_)
            refine g_iast X (n := 6) (k := 129) k_129 s_129 dX4_extend_156 (fun h14 => ?_)
            refine g_mlet X (fun M15 => ?_)
            refine g_aload_n X dX4_extend_157 0 rfl rfl ?_
            refine g_iload_n X dX4_extend_158 1 rfl rfl ?_
            refine g_iconst X dX4_extend_159 ic_1 ?_
            refine g_iadd X dX4_extend_160 ?_
            refine g_iload X dX4_extend_161 6 rfl ?_
            refine g_iload X dX4_extend_163 7 rfl ?_
            refine g_iconst X dX4_extend_165 ic_1 ?_
            refine g_iadd X dX4_extend_166 ?_
            refine g_iload X dX4_extend_167 8 rfl ?_
            refine g_cv X (st := []) (fun _ hh => ok_S X (As := [.ref (ad 125), .int (b1 + 1), .int v4, .int (v7 + 1), .int v10]) wkX4_extend (hrec _ _ _ _ _ _ hh) rfl m_4_105 rfl (hRm (by omega) (by decide)) ⟨Nat.zero_le _, Nat.zero_le _⟩ (Nat.le_of_ble_eq_true rfl) dX4_extend_169) (fun M16 _ => ?_)
            refine g_aload_n X dX4_extend_172 0 rfl rfl ?_
            refine get_4_8 X (k := 125) k_125 s_125 m_2_41 dX4_extend_173 ?_
            refine g_iload X dX4_extend_176 5 rfl ?_
            refine g_iconst X dX4_extend_178 ic_0 ?_
            refine g_zast X (k := 128) (by decide) k_128 s_128 dX4_extend_179 (fun h17 => ?_)
            refine g_mlet X (fun M18 => ?_)
            refine g_sub (lu := [(0, .ref (ad 125)), (1, .int b1), (2, .int b2), (3, .int b3), (4, .int b4), (5, .int x5)]) [0, 1, 2, 3, 4, 5] rfl ?_
            exact hJ180 M18
      · refine g_goto X 180 (by decide) dX4_extend_44 ?_
        exact hJ180 M
set_option maxRecDepth 100000 in
set_option maxHeartbeats 4000000 in
theorem tOrderSearch_extend {l : Launch} {D : va_G} {cy : Nat → ClassId} {ad : Nat → Nat} {N : Mem} : ∀ (d : Nat) (a1 : Int32) (a2 : Int32) (a3 : Int32) (a4 : Int32) (M : Mem) (x : Mem), fOrderSearch_extend d a1 a2 a3 a4 M = some x → Mt l D cy ad yX4_extend cX4_extend 9 none (6 + d) [.ref (ad 125), .int a1, .int a2, .int a3, .int a4] ((wfC N) M) (none, (wfC N) x) := by
  intro d
  induction d with
  | zero => intro a1 a2 a3 a4 M x h; cases h
  | succ d ih =>
  intro a1 a2 a3 a4 M x h
  have hrec := ih
  refine met_of (fin := finV) (lv0 := [(0, .ref (ad 125)), (1, .int a1), (2, .int a2), (3, .int a3), (4, .int a4)]) (by decide) (Nat.le_of_ble_eq_true rfl) rfl (lC N) h (fun p e s m args below meth c X hr => ?_)
  rw [fOrderSearch_extend]
  refine g_iload_n X dX4_extend_0 1 rfl rfl ?_
  refine g_aload_n X dX4_extend_1 0 rfl rfl ?_
  refine get_4_6 X (k := 125) k_125 s_125 m_2_39 dX4_extend_2 ?_
  refine g_icmp_lt X 22 (by decide) dX4_extend_5 (fun q5 => ?_) (fun q5 => ?_)
  · refine g_iconst X dX4_extend_22 ic_0 ?_
    refine g_istore X dX4_extend_23 (by decide) rfl [1, 2, 3, 4, 5, 0] (lu := [(0, .ref (ad 125)), (1, .int a1), (2, .int a2), (3, .int a3), (4, .int a4), (5, .int 0)]) rfl ?_
    exact LOrderSearch_extend_L25 _ hrec X hr a1 a2 a3 a4    FU 0 M
  · refine g_aload_n X dX4_extend_8 0 rfl rfl ?_
    refine g_iload X dX4_extend_9 4 rfl ?_
    refine g_iconst X dX4_extend_11 ic_0 ?_
    refine g_iload_n X dX4_extend_12 3 rfl rfl ?_
    refine g_iconst X dX4_extend_13 ic_1 ?_
    refine g_isub X dX4_extend_14 ?_
    refine g_max X m_4_108 (hR1 (by omega) (Nat.le_of_ble_eq_true rfl)) ⟨Nat.zero_le _, Nat.zero_le _⟩ dX4_extend_15 ?_
    refine g_cv X (st := []) (fun _ hh => ok_V X (k0 := 125) (As := [.int a4, .int (if (0 : Int32) < (a3 - 1) then (a3 - 1) else 0)]) wkX4_keep (tOrderSearch_keep M a4 (if (0 : Int32) < (a3 - 1) then (a3 - 1) else 0) hh) rfl k_125 s_125 (by decide) rfl m_4_109 rfl (hRm (by omega) (by decide)) ⟨Nat.zero_le _, Nat.zero_le _⟩ (Nat.le_of_ble_eq_true rfl) dX4_extend_18) (fun M19 _ => ?_)
    exact g_vret X hr rfl dX4_extend_21
set_option maxRecDepth 100000 in
set_option maxHeartbeats 4000000 in
theorem tOrderSearch_find {l : Launch} {D : va_G} {cy : Nat → ClassId} {ad : Nat → Nat} {N : Mem} (M : Mem) (a2 : Int32) (a3 : Int32) (a4 : Int32) {x : (Int32 × Mem)} (h : fOrderSearch_find M a2 a3 a4 = some x) : Mt l D cy ad yX4_find cX4_find 5 (some .boolean) 15 [.ref (ad 125), .ref (ad 20), .int a2, .int a3, .int a4] ((wfC N) M) (some (.int x.1), (wfC N) x.2) := by
  refine met_of (fin := finS) (lv0 := [(0, .ref (ad 125)), (1, .ref (ad 20)), (2, .int a2), (3, .int a3), (4, .int a4)]) (by decide) (Nat.le_of_ble_eq_true rfl) rfl (lC N) h (fun p e s m args below meth c X hr => ?_)
  unfold fOrderSearch_find
  refine g_aload_n X dX4_find_0 0 rfl rfl ?_
  refine g_aload_n X dX4_find_1 1 rfl rfl ?_
  refine put_4_3 X (k := 125) k_125 s_125 m_2_36 dX4_find_2 ?_
  refine g_mlet X (fun M1 => ?_)
  refine g_aload_n X dX4_find_5 0 rfl rfl ?_
  refine g_iload_n X dX4_find_6 2 rfl rfl ?_
  refine put_4_4 X (k := 125) k_125 s_125 m_2_37 dX4_find_7 ?_
  refine g_mlet X (fun M2 => ?_)
  refine g_aload_n X dX4_find_10 0 rfl rfl ?_
  refine g_iload X dX4_find_11 4 rfl ?_
  refine put_4_5 X (k := 125) k_125 s_125 m_2_38 dX4_find_13 ?_
  refine g_mlet X (fun M3 => ?_)
  refine g_aload_n X dX4_find_16 0 rfl rfl ?_
  refine g_iload_n X dX4_find_17 3 rfl rfl ?_
  refine g_aload_n X dX4_find_18 0 rfl rfl ?_
  refine get_4_7 X (k := 125) k_125 s_125 m_2_40 dX4_find_19 ?_
  refine g_cs X (st := [.ref (ad 125)]) (fun _ hh => ok_N X (As := [.int a3, .ref (ad 127)]) wkX10_readSet (tc_readSet M3 a3 hh) rfl m_4_101 rfl (hRm (by decide) (by decide)) ⟨Nat.zero_le _, Nat.zero_le _⟩ (Nat.le_of_ble_eq_true rfl) dX4_find_22) (fun r5 M4 _ => ?_)
  refine put_4_6 X (k := 125) k_125 s_125 m_2_39 dX4_find_25 ?_
  refine g_mlet X (fun M6 => ?_)
  refine g_aload_n X dX4_find_28 0 rfl rfl ?_
  refine g_ldc X dX4_find_29 m_4_104 ?_
  refine put_4_1 X (k := 125) k_125 s_125 m_2_32 dX4_find_31 ?_
  refine g_mlet X (fun M7 => ?_)
  refine g_aload_n X dX4_find_34 0 rfl rfl ?_
  refine g_ldc X dX4_find_35 m_4_104 ?_
  refine put_4_2 X (k := 125) k_125 s_125 m_2_34 dX4_find_37 ?_
  refine g_mlet X (fun M8 => ?_)
  refine g_aload_n X dX4_find_40 0 rfl rfl ?_
  refine g_iconst X dX4_find_41 ic_0 ?_
  refine g_aload_n X dX4_find_42 0 rfl rfl ?_
  refine get_4_3 X (k := 125) k_125 s_125 m_2_36 dX4_find_43 ?_
  refine g_lake X (fun _ => ?_)
  refine get_1_13 X (k := 20) k_20 s_20 m_1_204 dX4_find_46 ?_
  refine g_iconst X dX4_find_49 ic_0 ?_
  refine g_iconst X dX4_find_50 ic_0 ?_
  refine g_cv X (st := []) (fun _ hh => ok_S X (As := [.ref (ad 125), .int 0, .int (M8.1 20 14), .int 0, .int 0]) wkX4_extend (tOrderSearch_extend 8 0 (M8.1 20 14) 0 0 M8 _ hh) rfl m_4_105 rfl (hRm (by decide) (by decide)) ⟨Nat.zero_le _, Nat.zero_le _⟩ (Nat.le_of_ble_eq_true rfl) dX4_find_51) (fun M9 _ => ?_)
  refine g_aload_n X dX4_find_54 0 rfl rfl ?_
  refine get_4_1 X (k := 125) k_125 s_125 m_2_32 dX4_find_55 ?_
  refine g_ldc X dX4_find_58 m_4_104 ?_
  refine g_icmp_eq X 67 (by decide) dX4_find_60 (fun q60 => ?_) (fun q60 => ?_)
  · refine g_iconst X dX4_find_67 ic_0 ?_
    exact g_zret X hr (isB_n (by decide)) rfl dX4_find_68
  · refine g_iconst X dX4_find_63 ic_1 ?_
    refine g_goto X 68 (by decide) dX4_find_64 ?_
    exact g_zret X hr (isB_n (by decide)) rfl dX4_find_68
set_option maxRecDepth 100000 in
set_option maxHeartbeats 4000000 in
theorem tc_best {l : Launch} {D : va_G} {cy : Nat → ClassId} {ad : Nat → Nat} {N : Mem} (M : Mem) (a1 : Int32) (a2 : Int32) (a3 : Int32) (a4 : Int32) {x : (Int32 × Mem)} (h : fc_best M a1 a2 a3 a4 = some x) : Mt l D cy ad yX10_best cX10_best 7 (some .int) 16 [.ref (ad 0), .int a1, .int a2, .int a3, .int a4] ((wfC N) M) (some (.int x.1), (wfC N) x.2) := by
  refine met_of (fin := finS) (lv0 := [(0, .ref (ad 0)), (1, .int a1), (2, .int a2), (3, .int a3), (4, .int a4)]) (by decide) (Nat.le_of_ble_eq_true rfl) rfl (lC N) h (fun p e s m args below meth c X hr => ?_)
  unfold fc_best
  refine g_aload_n X dX10_best_0 0 rfl rfl ?_
  refine g_iload_n X dX10_best_1 1 rfl rfl ?_
  refine g_ct X (v0 := .int (fc_isLeaperT M a1)) (st := []) (ok_V X (k0 := 0) (As := [.int a1]) wkX10_isLeaper (tc_isLeaperT M a1) rfl k_0 s_0 (by decide) rfl m_3_225 rfl (hRm (by decide) (by decide)) ⟨Nat.zero_le _, Nat.zero_le _⟩ (Nat.le_of_ble_eq_true rfl) dX10_best_2) ?_
  refine g_if_eq X 27 (by decide) dX10_best_5 (fun q5 => ?_) (fun q5 => ?_)
  · refine g_aload_n X dX10_best_27 0 rfl rfl ?_
    refine g_bipush X dX10_best_28 bi_m2 ?_
    refine g_cs X (st := []) (fun _ hh => ok_V X (k0 := 0) (As := [.int (-2)]) wkX10_refuse (tc_refuse M (-2) hh) rfl k_0 s_0 (by decide) rfl m_2_173 rfl (hRm (by decide) (by decide)) ⟨Nat.zero_le _, Nat.zero_le _⟩ (Nat.le_of_ble_eq_true rfl) dX10_best_30) (fun r2 M1 _ => ?_)
    exact g_iret X hr rfl dX10_best_33
  · refine g_aload_n X dX10_best_8 0 rfl rfl ?_
    refine g_iload_n X dX10_best_9 2 rfl rfl ?_
    refine g_ci X (st := []) (fun _ hh => ok_V X (k0 := 0) (As := [.int a2]) wkX10_isSet (tc_isSet M a2 hh) rfl k_0 s_0 (by decide) rfl m_4_87 rfl (hRm (by decide) (by decide)) ⟨Nat.zero_le _, Nat.zero_le _⟩ (Nat.le_of_ble_eq_true rfl) dX10_best_10) (fun r3 _ => ?_)
    refine g_if_eq X 27 (by decide) dX10_best_13 (fun q13 => ?_) (fun q13 => ?_)
    · refine g_aload_n X dX10_best_27 0 rfl rfl ?_
      refine g_bipush X dX10_best_28 bi_m2 ?_
      refine g_cs X (st := []) (fun _ hh => ok_V X (k0 := 0) (As := [.int (-2)]) wkX10_refuse (tc_refuse M (-2) hh) rfl k_0 s_0 (by decide) rfl m_2_173 rfl (hRm (by decide) (by decide)) ⟨Nat.zero_le _, Nat.zero_le _⟩ (Nat.le_of_ble_eq_true rfl) dX10_best_30) (fun r5 M4 _ => ?_)
      exact g_iret X hr rfl dX10_best_33
    · refine g_iload_n X dX10_best_16 3 rfl rfl ?_
      refine g_iconst X dX10_best_17 ic_0 ?_
      refine g_sipush X dX10_best_18 si_999 ?_
      refine g_ct X (v0 := .int (fc_isWithinT M a3 0 999)) (st := []) (ok_S X (As := [.int a3, .int 0, .int 999]) wkX10_isWithin (tc_isWithinT M a3 0 999) rfl m_2_170 rfl (hRm (by decide) (by decide)) ⟨Nat.zero_le _, Nat.zero_le _⟩ (Nat.le_of_ble_eq_true rfl) dX10_best_21) ?_
      refine g_if_ne X 34 (by decide) dX10_best_24 (fun q24 => ?_) (fun q24 => ?_)
      · refine g_iload X dX10_best_34 4 rfl ?_
        refine g_bipush X dX10_best_36 bi_10 ?_
        refine g_isub X dX10_best_38 ?_
        refine g_ilet X (fun v6 => ?_)
        refine g_istore X dX10_best_39 (by decide) rfl [1, 2, 3, 4, 5, 0] (lu := [(0, .ref (ad 0)), (1, .int a1), (2, .int a2), (3, .int a3), (4, .int a4), (5, .int v6)]) rfl ?_
        refine g_iload X dX10_best_41 4 rfl ?_
        refine g_bipush X dX10_best_43 bi_10 ?_
        refine g_jlet X 62 (fun z62 : Int32 => [(0, .ref (ad 0)), (1, .int a1), (2, .int a2), (3, .int a3), (4, .int a4), (5, .int v6)]) (fun z62 : Int32 => [.int z62]) (fun z62 : Int32 => M) (fun z62 => ?_) (fun J62 hJ62 => ?_)
        · show GF _ _ _ _ _ _ _ _ _ _ _ _ _ _ _ _ _ _ _ _ _ 62 [(0, .ref (ad 0)), (1, .int a1), (2, .int a2), (3, .int a3), (4, .int a4), (5, .int v6)] [.int z62] M
          refine g_istore X dX10_best_62 (by decide) rfl [1, 2, 3, 4, 5, 6, 0] (lu := [(0, .ref (ad 0)), (1, .int a1), (2, .int a2), (3, .int a3), (4, .int a4), (5, .int v6), (6, .int z62)]) rfl ?_
          refine g_iload X dX10_best_64 4 rfl ?_
          refine g_jlet X 87 (fun z87 : Unit => [(0, .ref (ad 0)), (1, .int a1), (2, .int a2), (3, .int a3), (4, .int a4), (5, .int v6), (6, .int z62)]) (fun z87 : Unit => []) (fun z87 : Unit => M) (fun z87 => ?_) (fun J87 hJ87 => ?_)
          · show GF _ _ _ _ _ _ _ _ _ _ _ _ _ _ _ _ _ _ _ _ _ 87 [(0, .ref (ad 0)), (1, .int a1), (2, .int a2), (3, .int a3), (4, .int a4), (5, .int v6), (6, .int z62)] [] M
            refine g_aload_n X dX10_best_87 0 rfl rfl ?_
            refine get_10_8 X (k := 0) k_0 s_0 m_2_134 dX10_best_88 ?_
            refine g_aload_n X dX10_best_91 0 rfl rfl ?_
            refine get_10_2 X (k := 0) k_0 s_0 m_2_128 dX10_best_92 ?_
            refine g_iload_n X dX10_best_95 1 rfl rfl ?_
            refine g_iload_n X dX10_best_96 2 rfl rfl ?_
            refine g_iload_n X dX10_best_97 3 rfl rfl ?_
            refine g_cs X (st := []) (fun _ hh => ok_V X (k0 := 125) (As := [.ref (ad 20), .int a1, .int a2, .int a3]) wkX4_find (tOrderSearch_find M a1 a2 a3 hh) rfl k_125 s_125 (by decide) rfl m_4_97 rfl (hRm (by decide) (by decide)) ⟨Nat.zero_le _, Nat.zero_le _⟩ (Nat.le_of_ble_eq_true rfl) dX10_best_98) (fun r8 M7 _ => ?_)
            refine g_if_ne X 111 (by decide) dX10_best_101 (fun q101 => ?_) (fun q101 => ?_)
            · refine g_iload X dX10_best_111 6 rfl ?_
              refine g_if_eq X 127 (by decide) dX10_best_113 (fun q113 => ?_) (fun q113 => ?_)
              · refine g_iload X dX10_best_127 4 rfl ?_
                refine g_if_ne X 142 (by decide) dX10_best_129 (fun q129 => ?_) (fun q129 => ?_)
                · refine g_aload_n X dX10_best_142 0 rfl rfl ?_
                  refine get_10_8 X (k := 0) k_0 s_0 m_2_134 dX10_best_143 ?_
                  refine get_4_2 X (k := 125) k_125 s_125 m_2_35 dX10_best_146 ?_
                  exact g_iret X hr rfl dX10_best_149
                · refine g_aload_n X dX10_best_132 0 rfl rfl ?_
                  refine get_10_8 X (k := 0) k_0 s_0 m_2_134 dX10_best_133 ?_
                  refine get_4_1 X (k := 125) k_125 s_125 m_2_33 dX10_best_136 ?_
                  refine g_goto X 149 (by decide) dX10_best_139 ?_
                  exact g_iret X hr rfl dX10_best_149
              · refine g_aload_n X dX10_best_116 0 rfl rfl ?_
                refine get_10_8 X (k := 0) k_0 s_0 m_2_134 dX10_best_117 ?_
                refine get_4_0 X (k := 125) k_125 s_125 m_2_31 dX10_best_120 ?_
                refine g_iload X dX10_best_123 5 rfl ?_
                refine g_iald X (n := 6) (k := 126) k_126 s_126 dX10_best_125 (fun h9 => ?_)
                exact g_iret X hr rfl dX10_best_126
            · refine g_aload_n X dX10_best_104 0 rfl rfl ?_
              refine g_bipush X dX10_best_105 bi_m5 ?_
              refine g_cs X (st := []) (fun _ hh => ok_V X (k0 := 0) (As := [.int (-5)]) wkX10_refuse (tc_refuse M7 (-5) hh) rfl k_0 s_0 (by decide) rfl m_2_173 rfl (hRm (by decide) (by decide)) ⟨Nat.zero_le _, Nat.zero_le _⟩ (Nat.le_of_ble_eq_true rfl) dX10_best_107) (fun r11 M10 _ => ?_)
              exact g_iret X hr rfl dX10_best_110
          refine g_if_eq X 87 (by decide) dX10_best_66 (fun q66 => ?_) (fun q66 => ?_)
          · exact hJ87 ()
          · refine g_iload X dX10_best_69 4 rfl ?_
            refine g_iconst X dX10_best_71 ic_1 ?_
            refine g_icmp_eq X 87 (by decide) dX10_best_72 (fun q72 => ?_) (fun q72 => ?_)
            · exact hJ87 ()
            · refine g_iload X dX10_best_75 6 rfl ?_
              refine g_if_ne X 87 (by decide) dX10_best_77 (fun q77 => ?_) (fun q77 => ?_)
              · exact hJ87 ()
              · refine g_aload_n X dX10_best_80 0 rfl rfl ?_
                refine g_bipush X dX10_best_81 bi_m2 ?_
                refine g_cs X (st := []) (fun _ hh => ok_V X (k0 := 0) (As := [.int (-2)]) wkX10_refuse (tc_refuse M (-2) hh) rfl k_0 s_0 (by decide) rfl m_2_173 rfl (hRm (by decide) (by decide)) ⟨Nat.zero_le _, Nat.zero_le _⟩ (Nat.le_of_ble_eq_true rfl) dX10_best_83) (fun r13 M12 _ => ?_)
                exact g_iret X hr rfl dX10_best_86
        refine g_jlet X 61 (fun z61 : Unit => [(0, .ref (ad 0)), (1, .int a1), (2, .int a2), (3, .int a3), (4, .int a4), (5, .int v6)]) (fun z61 : Unit => []) (fun z61 : Unit => M) (fun z61 => ?_) (fun J61 hJ61 => ?_)
        · show GF _ _ _ _ _ _ _ _ _ _ _ _ _ _ _ _ _ _ _ _ _ 61 [(0, .ref (ad 0)), (1, .int a1), (2, .int a2), (3, .int a3), (4, .int a4), (5, .int v6)] [] M
          refine g_iconst X dX10_best_61 ic_0 ?_
          exact hJ62 0
        refine g_icmp_lt X 61 (by decide) dX10_best_45 (fun q45 => ?_) (fun q45 => ?_)
        · exact hJ61 ()
        · refine g_iload X dX10_best_48 5 rfl ?_
          refine g_iload_n X dX10_best_50 2 rfl rfl ?_
          refine g_ci X (st := [.int v6]) (fun _ hh => ok_S X (As := [.int a2]) wkJ6_bitCount_0f7a4 (tInteger_bitCount M a2 hh) rfl m_4_91 rfl (hRm (by decide) (by decide)) ⟨Nat.zero_le _, Nat.zero_le _⟩ (Nat.le_of_ble_eq_true rfl) dX10_best_51) (fun r14 _ => ?_)
          refine g_icmp_ge X 61 (by decide) dX10_best_54 (fun q54 => ?_) (fun q54 => ?_)
          · exact hJ61 ()
          · refine g_iconst X dX10_best_57 ic_1 ?_
            refine g_goto X 62 (by decide) dX10_best_58 ?_
            exact hJ62 1
      · refine g_aload_n X dX10_best_27 0 rfl rfl ?_
        refine g_bipush X dX10_best_28 bi_m2 ?_
        refine g_cs X (st := []) (fun _ hh => ok_V X (k0 := 0) (As := [.int (-2)]) wkX10_refuse (tc_refuse M (-2) hh) rfl k_0 s_0 (by decide) rfl m_2_173 rfl (hRm (by decide) (by decide)) ⟨Nat.zero_le _, Nat.zero_le _⟩ (Nat.le_of_ble_eq_true rfl) dX10_best_30) (fun r16 M15 _ => ?_)
        exact g_iret X hr rfl dX10_best_33
set_option maxRecDepth 100000 in
set_option maxHeartbeats 4000000 in
theorem Lc_readSet_2_L4 {l : Launch} {D : va_G} {cy : Nat → ClassId} {ad : Nat → Nat} {N : Mem} {p : Program} {e : Env} {s : State} {m : MethodId} {args : Array Value} {below : List Frame} {meth : Method} {c : Code} (X : Cx p s m args meth c cX10_readSet 4 RX10 D cy ad (AA ad) (wfC N) sdC) (hr : meth.sig.returnType = (some .int)) (b0 : Int32) : ∀ (n : Nat) (x2 : Int32) (x3 : Int32) (M : Mem), GF p l e (Rm 1) s m args below meth c 4 D cy ad (AA ad) 0 0 (wfC N) (QM D cy ad (wfC N) below args s) finS (fc_readSet_2_L4 b0 n x2 x3 M) 4 [(0, .int b0), (1, .ref (ad 131)), (2, .int x2), (3, .int x3)] [] M := by
  intro n
  induction n with
  | zero => intro x2 x3 M; exact g_none
  | succ n ih =>
    intro x2 x3 M
    rw [fc_readSet_2_L4]
    refine g_iload_n X dX10_readSet_4 3 rfl rfl ?_
    refine g_bipush X dX10_readSet_5 bi_20 ?_
    refine g_icmp_ge X 38 (by decide) dX10_readSet_7 (fun q7 => ?_) (fun q7 => ?_)
    · refine g_iload_n X dX10_readSet_38 2 rfl rfl ?_
      exact g_iret X hr rfl dX10_readSet_39
    · refine g_iload_n X dX10_readSet_10 2 rfl rfl ?_
      refine g_aload_n X dX10_readSet_11 1 rfl rfl ?_
      refine g_alenI X (n := 6) (k := 131) (v0 := 6) rfl k_131 s_131 dX10_readSet_12 ?_
      refine g_icmp_ge X 38 (by decide) dX10_readSet_13 (fun q13 => ?_) (fun q13 => ?_)
      · refine g_iload_n X dX10_readSet_38 2 rfl rfl ?_
        exact g_iret X hr rfl dX10_readSet_39
      · refine g_iload_n X dX10_readSet_16 0 rfl rfl ?_
        refine g_iload_n X dX10_readSet_17 3 rfl rfl ?_
        refine g_ishr X dX10_readSet_18 ?_
        refine g_iconst X dX10_readSet_19 ic_1 ?_
        refine g_iand X dX10_readSet_20 ?_
        refine g_iconst X dX10_readSet_21 ic_1 ?_
        refine g_jlet X 32 (fun z32 : Int32 × Mem => [(0, .int b0), (1, .ref (ad 131)), (2, .int (z32.1)), (3, .int x3)]) (fun z32 : Int32 × Mem => []) (fun z32 : Int32 × Mem => (z32.2)) (fun z32 => ?_) (fun J32 hJ32 => ?_)
        · show GF _ _ _ _ _ _ _ _ _ _ _ _ _ _ _ _ _ _ _ _ _ 32 [(0, .int b0), (1, .ref (ad 131)), (2, .int (z32.1)), (3, .int x3)] [] (z32.2)
          refine g_iinc X (k := 3) (v := (x3 + 1)) dX10_readSet_32 rfl (ii_1 _) (by decide) rfl [1, 2, 3, 0] (lu := [(0, .int b0), (1, .ref (ad 131)), (2, .int (z32.1)), (3, .int (x3 + 1))]) rfl ?_
          refine g_goto X 4 (by decide) dX10_readSet_35 ?_
          exact ih (z32.1) (x3 + 1) (z32.2)
        refine g_icmp_ne X 32 (by decide) dX10_readSet_22 (fun q22 => ?_) (fun q22 => ?_)
        · exact hJ32 (x2, M)
        · refine g_aload_n X dX10_readSet_25 1 rfl rfl ?_
          refine g_iload_n X dX10_readSet_26 2 rfl rfl ?_
          refine g_iload_n X dX10_readSet_27 3 rfl rfl ?_
          refine g_iast X (n := 6) (k := 131) k_131 s_131 dX10_readSet_28 (fun h1 => ?_)
          refine g_mlet X (fun M2 => ?_)
          refine g_iinc X (k := 2) (v := (x2 + 1)) dX10_readSet_29 rfl (ii_1 _) (by decide) rfl [1, 2, 0, 3] (lu := [(0, .int b0), (1, .ref (ad 131)), (2, .int (x2 + 1)), (3, .int x3)]) rfl ?_
          exact hJ32 ((x2 + 1), M2)
set_option maxRecDepth 100000 in
set_option maxHeartbeats 4000000 in
theorem tc_readSet_2 {l : Launch} {D : va_G} {cy : Nat → ClassId} {ad : Nat → Nat} {N : Mem} (M : Mem) (a0 : Int32) {x : (Int32 × Mem)} (h : fc_readSet_2 M a0 = some x) : Mt l D cy ad yX10_readSet cX10_readSet 4 (some .int) 1 [.int a0, .ref (ad 131)] ((wfC N) M) (some (.int x.1), (wfC N) x.2) := by
  refine met_of (fin := finS) (lv0 := [(0, .int a0), (1, .ref (ad 131))]) (by decide) (Nat.le_of_ble_eq_true rfl) rfl (lC N) h (fun p e s m args below meth c X hr => ?_)
  unfold fc_readSet_2
  refine g_iconst X dX10_readSet_0 ic_0 ?_
  refine g_istore_n X dX10_readSet_1 rfl (by decide) rfl [1, 2, 0] (lu := [(0, .int a0), (1, .ref (ad 131)), (2, .int 0)]) rfl ?_
  refine g_iconst X dX10_readSet_2 ic_0 ?_
  refine g_istore_n X dX10_readSet_3 rfl (by decide) rfl [1, 2, 3, 0] (lu := [(0, .int a0), (1, .ref (ad 131)), (2, .int 0), (3, .int 0)]) rfl ?_
  exact Lc_readSet_2_L4  X hr a0    FU 0 0 M
set_option maxRecDepth 100000 in
set_option maxHeartbeats 4000000 in
theorem LTeamSearch_readRisks_L29 {l : Launch} {D : va_G} {cy : Nat → ClassId} {ad : Nat → Nat} {N : Mem} {p : Program} {e : Env} {s : State} {m : MethodId} {args : Array Value} {below : List Frame} {meth : Method} {c : Code} (X : Cx p s m args meth c cX7_readRisks 7 RX7 D cy ad (AA ad) (wfC N) sdC) (hr : meth.sig.returnType = none) (b2 : Int32) (b3 : Int32) (kx82 : Int32 → Mem → Option Mem) (hkx82 : ∀ (y4 : Int32) (M : Mem), GF p l e (Rm 6) s m args below meth c 7 D cy ad (AA ad) 0 0 (wfC N) (QM D cy ad (wfC N) below args s) finV (kx82 y4 M) 82 [(0, .ref (ad 130)), (1, .ref (ad 20)), (2, .int b2), (3, .int b3), (4, .int y4)] [] M) : ∀ (n : Nat) (x4 : Int32) (x5 : Int32) (M : Mem), GF p l e (Rm 6) s m args below meth c 7 D cy ad (AA ad) 0 0 (wfC N) (QM D cy ad (wfC N) below args s) finV (fTeamSearch_readRisks_L29 b2 b3 kx82 n x4 x5 M) 29 [(0, .ref (ad 130)), (1, .ref (ad 20)), (2, .int b2), (3, .int b3), (4, .int x4), (5, .int x5)] [] M := by
  intro n
  induction n with
  | zero => intro x4 x5 M; exact g_none
  | succ n ih =>
    intro x4 x5 M
    rw [fTeamSearch_readRisks_L29]
    refine g_iload X dX7_readRisks_29 5 rfl ?_
    refine g_aload_n X dX7_readRisks_31 0 rfl rfl ?_
    refine get_7_1 X (k := 130) k_130 s_130 m_2_73 dX7_readRisks_32 ?_
    refine g_icmp_ge X 82 (by decide) dX7_readRisks_35 (fun q35 => ?_) (fun q35 => ?_)
    · refine g_sub (lu := [(0, .ref (ad 130)), (1, .ref (ad 20)), (2, .int b2), (3, .int b3), (4, .int x4)]) [0, 1, 2, 3, 4] rfl ?_
      exact hkx82 x4 M
    · refine g_aload_n X dX7_readRisks_38 1 rfl rfl ?_
      refine g_iload X dX7_readRisks_39 5 rfl ?_
      refine g_aload_n X dX7_readRisks_41 0 rfl rfl ?_
      refine get_7_4 X (k := 130) k_130 s_130 m_2_76 dX7_readRisks_42 ?_
      refine g_iload_n X dX7_readRisks_45 3 rfl rfl ?_
      refine g_iald X (n := 6) (k := 131) k_131 s_131 dX7_readRisks_46 (fun h4 => ?_)
      refine g_iload_n X dX7_readRisks_47 2 rfl rfl ?_
      refine g_ci X (st := []) (fun _ hh => ok_V X (k0 := 20) (As := [.int x5, .int (M.1 131 (ix b3)), .int b2]) wkX1_riskOf (tLake_riskOf M x5 (M.1 131 (ix b3)) b2 hh) rfl k_20 s_20 (by decide) rfl m_4_139 rfl (hRm (by decide) (by decide)) ⟨Nat.zero_le _, Nat.zero_le _⟩ (Nat.le_of_ble_eq_true rfl) dX7_readRisks_48) (fun r5 _ => ?_)
      refine g_istore X dX7_readRisks_51 (by decide) rfl [1, 2, 3, 4, 5, 6, 0] (lu := [(0, .ref (ad 130)), (1, .ref (ad 20)), (2, .int b2), (3, .int b3), (4, .int x4), (5, .int x5), (6, .int r5)]) rfl ?_
      refine g_aload_n X dX7_readRisks_53 0 rfl rfl ?_
      refine get_7_5 X (k := 130) k_130 s_130 m_2_77 dX7_readRisks_54 ?_
      refine g_iload_n X dX7_readRisks_57 3 rfl rfl ?_
      refine g_bipush X dX7_readRisks_58 bi_6 ?_
      refine g_imul X dX7_readRisks_60 ?_
      refine g_iload X dX7_readRisks_61 5 rfl ?_
      refine g_iadd X dX7_readRisks_63 ?_
      refine g_iload X dX7_readRisks_64 6 rfl ?_
      refine g_iast X (n := 36) (k := 132) k_132 s_132 dX7_readRisks_66 (fun h6 => ?_)
      refine g_mlet X (fun M7 => ?_)
      refine g_iload X dX7_readRisks_67 4 rfl ?_
      refine g_iload X dX7_readRisks_69 6 rfl ?_
      refine g_min X m_4_140 (hR1 (by decide) (Nat.le_of_ble_eq_true rfl)) ⟨Nat.zero_le _, Nat.zero_le _⟩ dX7_readRisks_71 ?_
      refine g_ilet X (fun v8 => ?_)
      refine g_istore X dX7_readRisks_74 (by decide) rfl [1, 2, 3, 4, 0, 5] (lu := [(0, .ref (ad 130)), (1, .ref (ad 20)), (2, .int b2), (3, .int b3), (4, .int v8), (5, .int x5)]) rfl ?_
      refine g_iinc X (k := 5) (v := (x5 + 1)) dX7_readRisks_76 rfl (ii_1 _) (by decide) rfl [1, 2, 3, 4, 5, 0] (lu := [(0, .ref (ad 130)), (1, .ref (ad 20)), (2, .int b2), (3, .int b3), (4, .int v8), (5, .int (x5 + 1))]) rfl ?_
      refine g_goto X 29 (by decide) dX7_readRisks_79 ?_
      exact ih v8 (x5 + 1) M7
set_option maxRecDepth 100000 in
set_option maxHeartbeats 4000000 in
theorem LTeamSearch_readRisks_L17 {l : Launch} {D : va_G} {cy : Nat → ClassId} {ad : Nat → Nat} {N : Mem} {p : Program} {e : Env} {s : State} {m : MethodId} {args : Array Value} {below : List Frame} {meth : Method} {c : Code} (X : Cx p s m args meth c cX7_readRisks 7 RX7 D cy ad (AA ad) (wfC N) sdC) (hr : meth.sig.returnType = none) (b2 : Int32) : ∀ (n : Nat) (x3 : Int32) (M : Mem), GF p l e (Rm 6) s m args below meth c 7 D cy ad (AA ad) 0 0 (wfC N) (QM D cy ad (wfC N) below args s) finV (fTeamSearch_readRisks_L17 b2 n x3 M) 17 [(0, .ref (ad 130)), (1, .ref (ad 20)), (2, .int b2), (3, .int x3)] [] M := by
  intro n
  induction n with
  | zero => intro x3 M; exact g_none
  | succ n ih =>
    intro x3 M
    rw [fTeamSearch_readRisks_L17]
    refine g_iload_n X dX7_readRisks_17 3 rfl rfl ?_
    refine g_if_lt X 105 (by decide) dX7_readRisks_18 (fun q18 => ?_) (fun q18 => ?_)
    · exact g_vret X hr rfl dX7_readRisks_105
    · refine g_sipush X dX7_readRisks_21 si_1000 ?_
      refine g_istore X dX7_readRisks_24 (by decide) rfl [1, 2, 3, 4, 0] (lu := [(0, .ref (ad 130)), (1, .ref (ad 20)), (2, .int b2), (3, .int x3), (4, .int 1000)]) rfl ?_
      refine g_iconst X dX7_readRisks_26 ic_0 ?_
      refine g_istore X dX7_readRisks_27 (by decide) rfl [1, 2, 3, 4, 5, 0] (lu := [(0, .ref (ad 130)), (1, .ref (ad 20)), (2, .int b2), (3, .int x3), (4, .int 1000), (5, .int 0)]) rfl ?_
      refine LTeamSearch_readRisks_L29  X hr b2 x3  _ (fun w9 M10 => ?_) FU 1000 0 M
      · refine g_aload_n X dX7_readRisks_82 0 rfl rfl ?_
        refine get_7_6 X (k := 130) k_130 s_130 m_2_78 dX7_readRisks_83 ?_
        refine g_iload_n X dX7_readRisks_86 3 rfl rfl ?_
        refine g_aload_n X dX7_readRisks_87 0 rfl rfl ?_
        refine get_7_6 X (k := 130) k_130 s_130 m_2_78 dX7_readRisks_88 ?_
        refine g_iload_n X dX7_readRisks_91 3 rfl rfl ?_
        refine g_iconst X dX7_readRisks_92 ic_1 ?_
        refine g_iadd X dX7_readRisks_93 ?_
        refine g_iald X (n := 7) (k := 133) k_133 s_133 dX7_readRisks_94 (fun h11 => ?_)
        refine g_iload X dX7_readRisks_95 4 rfl ?_
        refine g_iadd X dX7_readRisks_97 ?_
        refine g_iast X (n := 7) (k := 133) k_133 s_133 dX7_readRisks_98 (fun h12 => ?_)
        refine g_mlet X (fun M13 => ?_)
        refine g_iinc X (k := 3) (v := (x3 + (-1))) dX7_readRisks_99 rfl (ii_m1 _) (by decide) rfl [1, 2, 3, 0] (lu := [(0, .ref (ad 130)), (1, .ref (ad 20)), (2, .int b2), (3, .int (x3 + (-1)))]) rfl ?_
        refine g_goto X 17 (by decide) dX7_readRisks_102 ?_
        exact ih (x3 + (-1)) M13
set_option maxRecDepth 100000 in
set_option maxHeartbeats 4000000 in
theorem tTeamSearch_readRisks {l : Launch} {D : va_G} {cy : Nat → ClassId} {ad : Nat → Nat} {N : Mem} (M : Mem) (a2 : Int32) {x : Mem} (h : fTeamSearch_readRisks M a2 = some x) : Mt l D cy ad yX7_readRisks cX7_readRisks 7 none 6 [.ref (ad 130), .ref (ad 20), .int a2] ((wfC N) M) (none, (wfC N) x) := by
  refine met_of (fin := finV) (lv0 := [(0, .ref (ad 130)), (1, .ref (ad 20)), (2, .int a2)]) (by decide) (Nat.le_of_ble_eq_true rfl) rfl (lC N) h (fun p e s m args below meth c X hr => ?_)
  unfold fTeamSearch_readRisks
  refine g_aload_n X dX7_readRisks_0 0 rfl rfl ?_
  refine get_7_6 X (k := 130) k_130 s_130 m_2_78 dX7_readRisks_1 ?_
  refine g_aload_n X dX7_readRisks_4 0 rfl rfl ?_
  refine get_7_3 X (k := 130) k_130 s_130 m_2_75 dX7_readRisks_5 ?_
  refine g_iconst X dX7_readRisks_8 ic_0 ?_
  refine g_iast X (n := 7) (k := 133) k_133 s_133 dX7_readRisks_9 (fun h1 => ?_)
  refine g_mlet X (fun M2 => ?_)
  refine g_aload_n X dX7_readRisks_10 0 rfl rfl ?_
  refine get_7_3 X (k := 130) k_130 s_130 m_2_75 dX7_readRisks_11 ?_
  refine g_iconst X dX7_readRisks_14 ic_1 ?_
  refine g_isub X dX7_readRisks_15 ?_
  refine g_ilet X (fun v3 => ?_)
  refine g_istore_n X dX7_readRisks_16 rfl (by decide) rfl [1, 2, 3, 0] (lu := [(0, .ref (ad 130)), (1, .ref (ad 20)), (2, .int a2), (3, .int v3)]) rfl ?_
  exact LTeamSearch_readRisks_L17  X hr a2    FU v3 M2
set_option maxRecDepth 100000 in
set_option maxHeartbeats 4000000 in
theorem LTeamSearch_assign_L33 {l : Launch} {D : va_G} {cy : Nat → ClassId} {ad : Nat → Nat} {N : Mem} {p : Program} {e : Env} {s : State} {m : MethodId} {args : Array Value} {below : List Frame} {meth : Method} {c : Code} {d : Nat} (rec : Int32 → Int32 → Mem → Option Mem) (hrec : ∀ (a1 : Int32) (a2 : Int32) (M : Mem) (x : Mem), rec a1 a2 M = some x → Mt l D cy ad yX7_assign cX7_assign 5 none (2 + d) [.ref (ad 130), .int a1, .int a2] ((wfC N) M) (none, (wfC N) x)) (X : Cx p s m args meth c cX7_assign 5 RX7 D cy ad (AA ad) (wfC N) sdC) (hr : meth.sig.returnType = none) (b1 : Int32) (b2 : Int32) : ∀ (n : Nat) (x3 : Int32) (M : Mem), GF p l e (Rm (2 + (d + 1))) s m args below meth c 5 D cy ad (AA ad) 0 0 (wfC N) (QM D cy ad (wfC N) below args s) finV (fTeamSearch_assign_L33 rec b1 b2 n x3 M) 33 [(0, .ref (ad 130)), (1, .int b1), (2, .int b2), (3, .int x3)] [] M := by
  intro n
  induction n with
  | zero => intro x3 M; exact g_none
  | succ n ih =>
    intro x3 M
    rw [fTeamSearch_assign_L33]
    refine g_iload_n X dX7_assign_33 3 rfl rfl ?_
    refine g_aload_n X dX7_assign_34 0 rfl rfl ?_
    refine get_7_1 X (k := 130) k_130 s_130 m_2_73 dX7_assign_35 ?_
    refine g_icmp_ge X 129 (by decide) dX7_assign_38 (fun q38 => ?_) (fun q38 => ?_)
    · exact g_vret X hr rfl dX7_assign_129
    · refine g_iload_n X dX7_assign_41 2 rfl rfl ?_
      refine g_aload_n X dX7_assign_42 0 rfl rfl ?_
      refine get_7_5 X (k := 130) k_130 s_130 m_2_77 dX7_assign_43 ?_
      refine g_iload_n X dX7_assign_46 1 rfl rfl ?_
      refine g_bipush X dX7_assign_47 bi_6 ?_
      refine g_imul X dX7_assign_49 ?_
      refine g_iload_n X dX7_assign_50 3 rfl rfl ?_
      refine g_iadd X dX7_assign_51 ?_
      refine g_iald X (n := 36) (k := 132) k_132 s_132 dX7_assign_52 (fun h1 => ?_)
      refine g_iadd X dX7_assign_53 ?_
      refine g_ilet X (fun v2 => ?_)
      refine g_istore X dX7_assign_54 (by decide) rfl [1, 2, 3, 4, 0] (lu := [(0, .ref (ad 130)), (1, .int b1), (2, .int b2), (3, .int x3), (4, .int v2)]) rfl ?_
      refine g_aload_n X dX7_assign_56 0 rfl rfl ?_
      refine get_7_7 X (k := 130) k_130 s_130 m_2_79 dX7_assign_57 ?_
      refine g_iload_n X dX7_assign_60 3 rfl rfl ?_
      refine g_iald X (n := 6) (k := 134) k_134 s_134 dX7_assign_61 (fun h3 => ?_)
      refine g_aload_n X dX7_assign_62 0 rfl rfl ?_
      refine get_7_2 X (k := 130) k_130 s_130 m_2_74 dX7_assign_63 ?_
      refine g_jlet X 123 (fun z123 : Mem => [(0, .ref (ad 130)), (1, .int b1), (2, .int b2), (3, .int x3)]) (fun z123 : Mem => []) (fun z123 : Mem => z123) (fun z123 => ?_) (fun J123 hJ123 => ?_)
      · show GF _ _ _ _ _ _ _ _ _ _ _ _ _ _ _ _ _ _ _ _ _ 123 [(0, .ref (ad 130)), (1, .int b1), (2, .int b2), (3, .int x3)] [] z123
        refine g_iinc X (k := 3) (v := (x3 + 1)) dX7_assign_123 rfl (ii_1 _) (by decide) rfl [1, 2, 3, 0] (lu := [(0, .ref (ad 130)), (1, .int b1), (2, .int b2), (3, .int (x3 + 1))]) rfl ?_
        refine g_goto X 33 (by decide) dX7_assign_126 ?_
        exact ih (x3 + 1) z123
      refine g_icmp_ge X 123 (by decide) dX7_assign_66 (fun q66 => ?_) (fun q66 => ?_)
      · refine g_sub (lu := [(0, .ref (ad 130)), (1, .int b1), (2, .int b2), (3, .int x3)]) [0, 1, 2, 3] rfl ?_
        exact hJ123 M
      · refine g_iload X dX7_assign_69 4 rfl ?_
        refine g_aload_n X dX7_assign_71 0 rfl rfl ?_
        refine get_7_6 X (k := 130) k_130 s_130 m_2_78 dX7_assign_72 ?_
        refine g_iload_n X dX7_assign_75 1 rfl rfl ?_
        refine g_iconst X dX7_assign_76 ic_1 ?_
        refine g_iadd X dX7_assign_77 ?_
        refine g_iald X (n := 7) (k := 133) k_133 s_133 dX7_assign_78 (fun h4 => ?_)
        refine g_iadd X dX7_assign_79 ?_
        refine g_aload_n X dX7_assign_80 0 rfl rfl ?_
        refine get_7_0 X (k := 130) k_130 s_130 m_2_71 dX7_assign_81 ?_
        refine g_icmp_ge X 123 (by decide) dX7_assign_84 (fun q84 => ?_) (fun q84 => ?_)
        · refine g_sub (lu := [(0, .ref (ad 130)), (1, .int b1), (2, .int b2), (3, .int x3)]) [0, 1, 2, 3] rfl ?_
          exact hJ123 M
        · refine g_aload_n X dX7_assign_87 0 rfl rfl ?_
          refine get_7_7 X (k := 130) k_130 s_130 m_2_79 dX7_assign_88 ?_
          refine g_iload_n X dX7_assign_91 3 rfl rfl ?_
          refine g_dup2 X dX7_assign_92 rfl rfl ?_
          refine g_iald X (n := 6) (k := 134) k_134 s_134 dX7_assign_93 (fun h5 => ?_)
          refine g_iconst X dX7_assign_94 ic_1 ?_
          refine g_iadd X dX7_assign_95 ?_
          refine g_iast X (n := 6) (k := 134) k_134 s_134 dX7_assign_96 (fun h6 => ?_)
          refine g_mlet X (fun M7 => ?_)
          refine g_aload_n X dX7_assign_97 0 rfl rfl ?_
          refine get_7_8 X (k := 130) k_130 s_130 m_2_80 dX7_assign_98 ?_
          refine g_iload_n X dX7_assign_101 1 rfl rfl ?_
          refine g_iload_n X dX7_assign_102 3 rfl rfl ?_
          refine g_iast X (n := 6) (k := 135) k_135 s_135 dX7_assign_103 (fun h8 => ?_)
          refine g_mlet X (fun M9 => ?_)
          refine g_aload_n X dX7_assign_104 0 rfl rfl ?_
          refine g_iload_n X dX7_assign_105 1 rfl rfl ?_
          refine g_iconst X dX7_assign_106 ic_1 ?_
          refine g_iadd X dX7_assign_107 ?_
          refine g_iload X dX7_assign_108 4 rfl ?_
          refine g_cv X (st := []) (fun _ hh => ok_S X (As := [.ref (ad 130), .int (b1 + 1), .int v2]) wkX7_assign (hrec _ _ _ _ hh) rfl m_4_142 rfl (hRm (by omega) (by decide)) ⟨Nat.zero_le _, Nat.zero_le _⟩ (Nat.le_of_ble_eq_true rfl) dX7_assign_110) (fun M10 _ => ?_)
          refine g_aload_n X dX7_assign_113 0 rfl rfl ?_
          refine get_7_7 X (k := 130) k_130 s_130 m_2_79 dX7_assign_114 ?_
          refine g_iload_n X dX7_assign_117 3 rfl rfl ?_
          refine g_dup2 X dX7_assign_118 rfl rfl ?_
          refine g_iald X (n := 6) (k := 134) k_134 s_134 dX7_assign_119 (fun h11 => ?_)
          refine g_iconst X dX7_assign_120 ic_1 ?_
          refine g_isub X dX7_assign_121 ?_
          refine g_iast X (n := 6) (k := 134) k_134 s_134 dX7_assign_122 (fun h12 => ?_)
          refine g_mlet X (fun M13 => ?_)
          refine g_sub (lu := [(0, .ref (ad 130)), (1, .int b1), (2, .int b2), (3, .int x3)]) [0, 1, 2, 3] rfl ?_
          exact hJ123 M13
set_option maxRecDepth 100000 in
set_option maxHeartbeats 4000000 in
theorem tTeamSearch_assign {l : Launch} {D : va_G} {cy : Nat → ClassId} {ad : Nat → Nat} {N : Mem} : ∀ (d : Nat) (a1 : Int32) (a2 : Int32) (M : Mem) (x : Mem), fTeamSearch_assign d a1 a2 M = some x → Mt l D cy ad yX7_assign cX7_assign 5 none (2 + d) [.ref (ad 130), .int a1, .int a2] ((wfC N) M) (none, (wfC N) x) := by
  intro d
  induction d with
  | zero => intro a1 a2 M x h; cases h
  | succ d ih =>
  intro a1 a2 M x h
  have hrec := ih
  refine met_of (fin := finV) (lv0 := [(0, .ref (ad 130)), (1, .int a1), (2, .int a2)]) (by decide) (Nat.le_of_ble_eq_true rfl) rfl (lC N) h (fun p e s m args below meth c X hr => ?_)
  rw [fTeamSearch_assign]
  refine g_iload_n X dX7_assign_0 1 rfl rfl ?_
  refine g_aload_n X dX7_assign_1 0 rfl rfl ?_
  refine get_7_3 X (k := 130) k_130 s_130 m_2_75 dX7_assign_2 ?_
  refine g_icmp_lt X 31 (by decide) dX7_assign_5 (fun q5 => ?_) (fun q5 => ?_)
  · refine g_iconst X dX7_assign_31 ic_0 ?_
    refine g_istore_n X dX7_assign_32 rfl (by decide) rfl [1, 2, 3, 0] (lu := [(0, .ref (ad 130)), (1, .int a1), (2, .int a2), (3, .int 0)]) rfl ?_
    exact LTeamSearch_assign_L33 _ hrec X hr a1 a2    FU 0 M
  · refine g_aload_n X dX7_assign_8 0 rfl rfl ?_
    refine g_iload_n X dX7_assign_9 2 rfl rfl ?_
    refine put_7_0 X (k := 130) k_130 s_130 m_2_71 dX7_assign_10 ?_
    refine g_mlet X (fun M14 => ?_)
    refine g_aload_n X dX7_assign_13 0 rfl rfl ?_
    refine get_7_8 X (k := 130) k_130 s_130 m_2_80 dX7_assign_14 ?_
    refine g_iconst X dX7_assign_17 ic_0 ?_
    refine g_aload_n X dX7_assign_18 0 rfl rfl ?_
    refine get_7_9 X (k := 130) k_130 s_130 m_2_81 dX7_assign_19 ?_
    refine g_iconst X dX7_assign_22 ic_0 ?_
    refine g_aload_n X dX7_assign_23 0 rfl rfl ?_
    refine get_7_3 X (k := 130) k_130 s_130 m_2_75 dX7_assign_24 ?_
    refine g_cpI X (k0 := 135) (k := 136) (n0 := 6) (n1 := 6) k_135 s_135 k_136 s_136 m_4_145 (hR2 (by omega) (Nat.le_of_ble_eq_true rfl)) dX7_assign_27 (fun _ => ?_)
    refine g_mlet X (fun M15 => ?_)
    exact g_vret X hr rfl dX7_assign_30
set_option maxRecDepth 100000 in
set_option maxHeartbeats 4000000 in
theorem tTeamSearch_find {l : Launch} {D : va_G} {cy : Nat → ClassId} {ad : Nat → Nat} {N : Mem} (M : Mem) (a2 : Int32) (a3 : Int32) (a4 : Int32) {x : Mem} (h : fTeamSearch_find M a2 a3 a4 = some x) : Mt l D cy ad yX7_find cX7_find 5 none 11 [.ref (ad 130), .ref (ad 20), .int a2, .int a3, .int a4] ((wfC N) M) (none, (wfC N) x) := by
  refine met_of (fin := finV) (lv0 := [(0, .ref (ad 130)), (1, .ref (ad 20)), (2, .int a2), (3, .int a3), (4, .int a4)]) (by decide) (Nat.le_of_ble_eq_true rfl) rfl (lC N) h (fun p e s m args below meth c X hr => ?_)
  unfold fTeamSearch_find
  refine g_aload_n X dX7_find_0 0 rfl rfl ?_
  refine g_iload_n X dX7_find_1 3 rfl rfl ?_
  refine put_7_2 X (k := 130) k_130 s_130 m_2_74 dX7_find_2 ?_
  refine g_mlet X (fun M1 => ?_)
  refine g_aload_n X dX7_find_5 0 rfl rfl ?_
  refine g_aload_n X dX7_find_6 1 rfl rfl ?_
  refine get_1_6 X (k := 20) k_20 s_20 m_1_188 dX7_find_7 ?_
  refine put_7_1 X (k := 130) k_130 s_130 m_2_73 dX7_find_10 ?_
  refine g_mlet X (fun M2 => ?_)
  refine g_aload_n X dX7_find_13 0 rfl rfl ?_
  refine g_iload_n X dX7_find_14 2 rfl rfl ?_
  refine g_aload_n X dX7_find_15 0 rfl rfl ?_
  refine get_7_4 X (k := 130) k_130 s_130 m_2_76 dX7_find_16 ?_
  refine g_cs X (st := [.ref (ad 130)]) (fun _ hh => ok_N X (As := [.int a2, .ref (ad 131)]) wkX10_readSet (tc_readSet_2 M2 a2 hh) rfl m_4_134 rfl (hRm (by decide) (by decide)) ⟨Nat.zero_le _, Nat.zero_le _⟩ (Nat.le_of_ble_eq_true rfl) dX7_find_19) (fun r4 M3 _ => ?_)
  refine put_7_3 X (k := 130) k_130 s_130 m_2_75 dX7_find_22 ?_
  refine g_mlet X (fun M5 => ?_)
  refine g_aload_n X dX7_find_25 0 rfl rfl ?_
  refine g_aload_n X dX7_find_26 1 rfl rfl ?_
  refine g_iload X dX7_find_27 4 rfl ?_
  refine g_cv X (st := []) (fun _ hh => ok_V X (k0 := 130) (As := [.ref (ad 20), .int a4]) wkX7_readRisks (tTeamSearch_readRisks M5 a4 hh) rfl k_130 s_130 (by decide) rfl m_4_135 rfl (hRm (by decide) (by decide)) ⟨Nat.zero_le _, Nat.zero_le _⟩ (Nat.le_of_ble_eq_true rfl) dX7_find_29) (fun M6 _ => ?_)
  refine g_aload_n X dX7_find_32 0 rfl rfl ?_
  refine g_ldc X dX7_find_33 m_4_141 ?_
  refine put_7_0 X (k := 130) k_130 s_130 m_2_71 dX7_find_35 ?_
  refine g_mlet X (fun M7 => ?_)
  refine g_aload_n X dX7_find_38 0 rfl rfl ?_
  refine g_iconst X dX7_find_39 ic_0 ?_
  refine g_iconst X dX7_find_40 ic_0 ?_
  refine g_cv X (st := []) (fun _ hh => ok_S X (As := [.ref (ad 130), .int 0, .int 0]) wkX7_assign (tTeamSearch_assign 8 0 0 M7 _ hh) rfl m_4_142 rfl (hRm (by decide) (by decide)) ⟨Nat.zero_le _, Nat.zero_le _⟩ (Nat.le_of_ble_eq_true rfl) dX7_find_41) (fun M8 _ => ?_)
  exact g_vret X hr rfl dX7_find_44
set_option maxRecDepth 100000 in
set_option maxHeartbeats 4000000 in
theorem LTeamSearch_leaperOfJetty_L2 {l : Launch} {D : va_G} {cy : Nat → ClassId} {ad : Nat → Nat} {N : Mem} {p : Program} {e : Env} {s : State} {m : MethodId} {args : Array Value} {below : List Frame} {meth : Method} {c : Code} (X : Cx p s m args meth c cX7_leaperOfJetty 3 RX7 D cy ad (AA ad) (wfC N) sdC) (hr : meth.sig.returnType = (some .int)) (M : Mem) (b1 : Int32) (kx20 : Int32 → Option Int32) (hkx20 : ∀ (y2 : Int32), GF p l e (Rm 1) s m args below meth c 3 D cy ad (AA ad) 0 0 (wfC N) (QM D cy ad (wfC N) below args s) (finI M) (kx20 y2) 20 [(0, .ref (ad 130)), (2, .int y2)] [] M) : ∀ (n : Nat) (x2 : Int32), GF p l e (Rm 1) s m args below meth c 3 D cy ad (AA ad) 0 0 (wfC N) (QM D cy ad (wfC N) below args s) (finI M) (fTeamSearch_leaperOfJetty_L2 M b1 kx20 n x2) 2 [(0, .ref (ad 130)), (1, .int b1), (2, .int x2)] [] M := by
  intro n
  induction n with
  | zero => intro x2; exact g_none
  | succ n ih =>
    intro x2
    rw [fTeamSearch_leaperOfJetty_L2]
    refine g_iload_n X dX7_leaperOfJetty_2 2 rfl rfl ?_
    refine g_aload_n X dX7_leaperOfJetty_3 0 rfl rfl ?_
    refine get_7_3 X (k := 130) k_130 s_130 m_2_75 dX7_leaperOfJetty_4 ?_
    refine g_icmp_ge X 33 (by decide) dX7_leaperOfJetty_7 (fun q7 => ?_) (fun q7 => ?_)
    · refine g_iconst X dX7_leaperOfJetty_33 ic_m1 ?_
      exact g_iret X hr rfl dX7_leaperOfJetty_34
    · refine g_aload_n X dX7_leaperOfJetty_10 0 rfl rfl ?_
      refine get_7_4 X (k := 130) k_130 s_130 m_2_76 dX7_leaperOfJetty_11 ?_
      refine g_iload_n X dX7_leaperOfJetty_14 2 rfl rfl ?_
      refine g_iald X (n := 6) (k := 131) k_131 s_131 dX7_leaperOfJetty_15 (fun h1 => ?_)
      refine g_iload_n X dX7_leaperOfJetty_16 1 rfl rfl ?_
      refine g_icmp_ne X 27 (by decide) dX7_leaperOfJetty_17 (fun q17 => ?_) (fun q17 => ?_)
      · refine g_iinc X (k := 2) (v := (x2 + 1)) dX7_leaperOfJetty_27 rfl (ii_1 _) (by decide) rfl [1, 2, 0] (lu := [(0, .ref (ad 130)), (1, .int b1), (2, .int (x2 + 1))]) rfl ?_
        refine g_goto X 2 (by decide) dX7_leaperOfJetty_30 ?_
        exact ih (x2 + 1)
      · refine g_sub (lu := [(0, .ref (ad 130)), (2, .int x2)]) [0, 2] rfl ?_
        exact hkx20 x2
set_option maxRecDepth 100000 in
set_option maxHeartbeats 4000000 in
theorem tTeamSearch_leaperOfJetty {l : Launch} {D : va_G} {cy : Nat → ClassId} {ad : Nat → Nat} {N : Mem} (M : Mem) (a1 : Int32) {x : Int32} (h : fTeamSearch_leaperOfJetty M a1 = some x) : Mt l D cy ad yX7_leaperOfJetty cX7_leaperOfJetty 3 (some .int) 1 [.ref (ad 130), .int a1] ((wfC N) M) (some (.int x), (wfC N) M) := by
  refine met_of (fin := (finI M)) (lv0 := [(0, .ref (ad 130)), (1, .int a1)]) (by decide) (Nat.le_of_ble_eq_true rfl) rfl (lC N) h (fun p e s m args below meth c X hr => ?_)
  unfold fTeamSearch_leaperOfJetty
  refine g_iconst X dX7_leaperOfJetty_0 ic_0 ?_
  refine g_istore_n X dX7_leaperOfJetty_1 rfl (by decide) rfl [1, 2, 0] (lu := [(0, .ref (ad 130)), (1, .int a1), (2, .int 0)]) rfl ?_
  refine LTeamSearch_leaperOfJetty_L2  X hr M a1  _ (fun w2 => ?_) FU 0
  · refine g_aload_n X dX7_leaperOfJetty_20 0 rfl rfl ?_
    refine get_7_9 X (k := 130) k_130 s_130 m_2_81 dX7_leaperOfJetty_21 ?_
    refine g_iload_n X dX7_leaperOfJetty_24 1 rfl rfl ?_
    refine g_iald X (n := 6) (k := 136) k_136 s_136 dX7_leaperOfJetty_25 (fun h3 => ?_)
    exact g_iret X hr rfl dX7_leaperOfJetty_26
set_option maxRecDepth 100000 in
set_option maxHeartbeats 4000000 in
theorem tc_isInSet {l : Launch} {D : va_G} {cy : Nat → ClassId} {ad : Nat → Nat} {N : Mem} (M : Mem) (a1 : Int32) (a2 : Int32) {x : Int32} (h : fc_isInSet M a1 a2 = some x) : Mt l D cy ad yX10_isInSet cX10_isInSet 3 (some .boolean) 3 [.ref (ad 0), .int a1, .int a2] ((wfC N) M) (some (.int x), (wfC N) M) := by
  refine met_of (fin := (finI M)) (lv0 := [(0, .ref (ad 0)), (1, .int a1), (2, .int a2)]) (by decide) (Nat.le_of_ble_eq_true rfl) rfl (lC N) h (fun p e s m args below meth c X hr => ?_)
  unfold fc_isInSet
  refine g_aload_n X dX10_isInSet_0 0 rfl rfl ?_
  refine g_iload_n X dX10_isInSet_1 1 rfl rfl ?_
  refine g_ct X (v0 := .int (fc_isJettyT M a1)) (st := []) (ok_V X (k0 := 0) (As := [.int a1]) wkX10_isJetty (tc_isJettyT M a1) rfl k_0 s_0 (by decide) rfl m_2_227 rfl (hRm (by decide) (by decide)) ⟨Nat.zero_le _, Nat.zero_le _⟩ (Nat.le_of_ble_eq_true rfl) dX10_isInSet_2) ?_
  refine g_if_eq X 21 (by decide) dX10_isInSet_5 (fun q5 => ?_) (fun q5 => ?_)
  · refine g_iconst X dX10_isInSet_21 ic_0 ?_
    exact g_zret X hr (isB_n (by decide)) rfl dX10_isInSet_22
  · refine g_iload_n X dX10_isInSet_8 2 rfl rfl ?_
    refine g_iload_n X dX10_isInSet_9 1 rfl rfl ?_
    refine g_ishr X dX10_isInSet_10 ?_
    refine g_iconst X dX10_isInSet_11 ic_1 ?_
    refine g_iand X dX10_isInSet_12 ?_
    refine g_iconst X dX10_isInSet_13 ic_1 ?_
    refine g_icmp_ne X 21 (by decide) dX10_isInSet_14 (fun q14 => ?_) (fun q14 => ?_)
    · refine g_iconst X dX10_isInSet_21 ic_0 ?_
      exact g_zret X hr (isB_n (by decide)) rfl dX10_isInSet_22
    · refine g_iconst X dX10_isInSet_17 ic_1 ?_
      refine g_goto X 22 (by decide) dX10_isInSet_18 ?_
      exact g_zret X hr (isB_n (by decide)) rfl dX10_isInSet_22
theorem tc_isInSetT {l : Launch} {D : va_G} {cy : Nat → ClassId} {ad : Nat → Nat} {N : Mem} (M : Mem) (a1 : Int32) (a2 : Int32) : Mt l D cy ad yX10_isInSet cX10_isInSet 3 (some .boolean) 3 [.ref (ad 0), .int a1, .int a2] ((wfC N) M) (some (.int (fc_isInSetT M a1 a2)), (wfC N) M) := tc_isInSet M a1 a2 (fc_isInSetE M a1 a2)
set_option maxRecDepth 100000 in
set_option maxHeartbeats 4000000 in
theorem tc_team {l : Launch} {D : va_G} {cy : Nat → ClassId} {ad : Nat → Nat} {N : Mem} (M : Mem) (a1 : Int32) (a2 : Int32) (a3 : Int32) (a4 : Int32) {x : (Int32 × Mem)} (h : fc_team M a1 a2 a3 a4 = some x) : Mt l D cy ad yX10_team cX10_team 5 (some .int) 12 [.ref (ad 0), .int a1, .int a2, .int a3, .int a4] ((wfC N) M) (some (.int x.1), (wfC N) x.2) := by
  refine met_of (fin := finS) (lv0 := [(0, .ref (ad 0)), (1, .int a1), (2, .int a2), (3, .int a3), (4, .int a4)]) (by decide) (Nat.le_of_ble_eq_true rfl) rfl (lC N) h (fun p e s m args below meth c X hr => ?_)
  unfold fc_team
  refine g_aload_n X dX10_team_0 0 rfl rfl ?_
  refine g_iload_n X dX10_team_1 1 rfl rfl ?_
  refine g_ci X (st := []) (fun _ hh => ok_V X (k0 := 0) (As := [.int a1]) wkX10_isSet (tc_isSet M a1 hh) rfl k_0 s_0 (by decide) rfl m_4_87 rfl (hRm (by decide) (by decide)) ⟨Nat.zero_le _, Nat.zero_le _⟩ (Nat.le_of_ble_eq_true rfl) dX10_team_2) (fun r1 _ => ?_)
  refine g_if_eq X 41 (by decide) dX10_team_5 (fun q5 => ?_) (fun q5 => ?_)
  · refine g_aload_n X dX10_team_41 0 rfl rfl ?_
    refine g_bipush X dX10_team_42 bi_m2 ?_
    refine g_cs X (st := []) (fun _ hh => ok_V X (k0 := 0) (As := [.int (-2)]) wkX10_refuse (tc_refuse M (-2) hh) rfl k_0 s_0 (by decide) rfl m_2_173 rfl (hRm (by decide) (by decide)) ⟨Nat.zero_le _, Nat.zero_le _⟩ (Nat.le_of_ble_eq_true rfl) dX10_team_44) (fun r3 M2 _ => ?_)
    exact g_iret X hr rfl dX10_team_47
  · refine g_iload_n X dX10_team_8 2 rfl rfl ?_
    refine g_iconst X dX10_team_9 ic_1 ?_
    refine g_bipush X dX10_team_10 bi_6 ?_
    refine g_ct X (v0 := .int (fc_isWithinT M a2 1 6)) (st := []) (ok_S X (As := [.int a2, .int 1, .int 6]) wkX10_isWithin (tc_isWithinT M a2 1 6) rfl m_2_170 rfl (hRm (by decide) (by decide)) ⟨Nat.zero_le _, Nat.zero_le _⟩ (Nat.le_of_ble_eq_true rfl) dX10_team_12) ?_
    refine g_if_eq X 41 (by decide) dX10_team_15 (fun q15 => ?_) (fun q15 => ?_)
    · refine g_aload_n X dX10_team_41 0 rfl rfl ?_
      refine g_bipush X dX10_team_42 bi_m2 ?_
      refine g_cs X (st := []) (fun _ hh => ok_V X (k0 := 0) (As := [.int (-2)]) wkX10_refuse (tc_refuse M (-2) hh) rfl k_0 s_0 (by decide) rfl m_2_173 rfl (hRm (by decide) (by decide)) ⟨Nat.zero_le _, Nat.zero_le _⟩ (Nat.le_of_ble_eq_true rfl) dX10_team_44) (fun r5 M4 _ => ?_)
      exact g_iret X hr rfl dX10_team_47
    · refine g_iload_n X dX10_team_18 3 rfl rfl ?_
      refine g_ct X (v0 := .int (fc_isHourT M a3)) (st := []) (ok_S X (As := [.int a3]) wkX10_isHour (tc_isHourT M a3) rfl m_3_84 rfl (hRm (by decide) (by decide)) ⟨Nat.zero_le _, Nat.zero_le _⟩ (Nat.le_of_ble_eq_true rfl) dX10_team_19) ?_
      refine g_if_eq X 41 (by decide) dX10_team_22 (fun q22 => ?_) (fun q22 => ?_)
      · refine g_aload_n X dX10_team_41 0 rfl rfl ?_
        refine g_bipush X dX10_team_42 bi_m2 ?_
        refine g_cs X (st := []) (fun _ hh => ok_V X (k0 := 0) (As := [.int (-2)]) wkX10_refuse (tc_refuse M (-2) hh) rfl k_0 s_0 (by decide) rfl m_2_173 rfl (hRm (by decide) (by decide)) ⟨Nat.zero_le _, Nat.zero_le _⟩ (Nat.le_of_ble_eq_true rfl) dX10_team_44) (fun r7 M6 _ => ?_)
        exact g_iret X hr rfl dX10_team_47
      · refine g_iload X dX10_team_25 4 rfl ?_
        refine g_iconst X dX10_team_27 ic_m1 ?_
        refine g_jlet X 48 (fun z48 : Unit => [(0, .ref (ad 0)), (1, .int a1), (2, .int a2), (3, .int a3), (4, .int a4)]) (fun z48 : Unit => []) (fun z48 : Unit => M) (fun z48 => ?_) (fun J48 hJ48 => ?_)
        · show GF _ _ _ _ _ _ _ _ _ _ _ _ _ _ _ _ _ _ _ _ _ 48 [(0, .ref (ad 0)), (1, .int a1), (2, .int a2), (3, .int a3), (4, .int a4)] [] M
          refine g_aload_n X dX10_team_48 0 rfl rfl ?_
          refine get_10_2 X (k := 0) k_0 s_0 m_2_128 dX10_team_49 ?_
          refine get_1_6 X (k := 20) k_20 s_20 m_1_190 dX10_team_52 ?_
          refine g_iload_n X dX10_team_55 2 rfl rfl ?_
          refine g_imul X dX10_team_56 ?_
          refine g_iload_n X dX10_team_57 1 rfl rfl ?_
          refine g_ci X (st := [.int ((M.1 20 7) * a2)]) (fun _ hh => ok_S X (As := [.int a1]) wkJ6_bitCount_0f7a4 (tInteger_bitCount M a1 hh) rfl m_4_91 rfl (hRm (by decide) (by decide)) ⟨Nat.zero_le _, Nat.zero_le _⟩ (Nat.le_of_ble_eq_true rfl) dX10_team_58) (fun r8 _ => ?_)
          refine g_icmp_ge X 71 (by decide) dX10_team_61 (fun q61 => ?_) (fun q61 => ?_)
          · refine g_aload_n X dX10_team_71 0 rfl rfl ?_
            refine get_10_9 X (k := 0) k_0 s_0 m_2_135 dX10_team_72 ?_
            refine g_aload_n X dX10_team_75 0 rfl rfl ?_
            refine get_10_2 X (k := 0) k_0 s_0 m_2_128 dX10_team_76 ?_
            refine g_iload_n X dX10_team_79 1 rfl rfl ?_
            refine g_iload_n X dX10_team_80 2 rfl rfl ?_
            refine g_iload_n X dX10_team_81 3 rfl rfl ?_
            refine g_cv X (st := []) (fun _ hh => ok_V X (k0 := 130) (As := [.ref (ad 20), .int a1, .int a2, .int a3]) wkX7_find (tTeamSearch_find M a1 a2 a3 hh) rfl k_130 s_130 (by decide) rfl m_4_130 rfl (hRm (by decide) (by decide)) ⟨Nat.zero_le _, Nat.zero_le _⟩ (Nat.le_of_ble_eq_true rfl) dX10_team_82) (fun M9 _ => ?_)
            refine g_iload X dX10_team_85 4 rfl ?_
            refine g_iconst X dX10_team_87 ic_m1 ?_
            refine g_icmp_ne X 101 (by decide) dX10_team_88 (fun q88 => ?_) (fun q88 => ?_)
            · refine g_aload_n X dX10_team_101 0 rfl rfl ?_
              refine get_10_9 X (k := 0) k_0 s_0 m_2_135 dX10_team_102 ?_
              refine g_iload X dX10_team_105 4 rfl ?_
              refine g_ci X (st := []) (fun _ hh => ok_V X (k0 := 130) (As := [.int a4]) wkX7_leaperOfJetty (tTeamSearch_leaperOfJetty M9 a4 hh) rfl k_130 s_130 (by decide) rfl m_4_146 rfl (hRm (by decide) (by decide)) ⟨Nat.zero_le _, Nat.zero_le _⟩ (Nat.le_of_ble_eq_true rfl) dX10_team_107) (fun r10 _ => ?_)
              exact g_iret X hr rfl dX10_team_110
            · refine g_aload_n X dX10_team_91 0 rfl rfl ?_
              refine get_10_9 X (k := 0) k_0 s_0 m_2_135 dX10_team_92 ?_
              refine get_7_0 X (k := 130) k_130 s_130 m_2_72 dX10_team_95 ?_
              refine g_goto X 110 (by decide) dX10_team_98 ?_
              exact g_iret X hr rfl dX10_team_110
          · refine g_aload_n X dX10_team_64 0 rfl rfl ?_
            refine g_bipush X dX10_team_65 bi_m5 ?_
            refine g_cs X (st := []) (fun _ hh => ok_V X (k0 := 0) (As := [.int (-5)]) wkX10_refuse (tc_refuse M (-5) hh) rfl k_0 s_0 (by decide) rfl m_2_173 rfl (hRm (by decide) (by decide)) ⟨Nat.zero_le _, Nat.zero_le _⟩ (Nat.le_of_ble_eq_true rfl) dX10_team_67) (fun r12 M11 _ => ?_)
            exact g_iret X hr rfl dX10_team_70
        refine g_icmp_eq X 48 (by decide) dX10_team_28 (fun q28 => ?_) (fun q28 => ?_)
        · exact hJ48 ()
        · refine g_aload_n X dX10_team_31 0 rfl rfl ?_
          refine g_iload X dX10_team_32 4 rfl ?_
          refine g_iload_n X dX10_team_34 1 rfl rfl ?_
          refine g_ct X (v0 := .int (fc_isInSetT M a4 a1)) (st := []) (ok_V X (k0 := 0) (As := [.int a4, .int a1]) wkX10_isInSet (tc_isInSetT M a4 a1) rfl k_0 s_0 (by decide) rfl m_4_126 rfl (hRm (by decide) (by decide)) ⟨Nat.zero_le _, Nat.zero_le _⟩ (Nat.le_of_ble_eq_true rfl) dX10_team_35) ?_
          refine g_if_ne X 48 (by decide) dX10_team_38 (fun q38 => ?_) (fun q38 => ?_)
          · exact hJ48 ()
          · refine g_aload_n X dX10_team_41 0 rfl rfl ?_
            refine g_bipush X dX10_team_42 bi_m2 ?_
            refine g_cs X (st := []) (fun _ hh => ok_V X (k0 := 0) (As := [.int (-2)]) wkX10_refuse (tc_refuse M (-2) hh) rfl k_0 s_0 (by decide) rfl m_2_173 rfl (hRm (by decide) (by decide)) ⟨Nat.zero_le _, Nat.zero_le _⟩ (Nat.le_of_ble_eq_true rfl) dX10_team_44) (fun r14 M13 _ => ?_)
            exact g_iret X hr rfl dX10_team_47
set_option maxRecDepth 100000 in
set_option maxHeartbeats 4000000 in
theorem Lc_safest_L56 {l : Launch} {D : va_G} {cy : Nat → ClassId} {ad : Nat → Nat} {N : Mem} {p : Program} {e : Env} {s : State} {m : MethodId} {args : Array Value} {below : List Frame} {meth : Method} {c : Code} (X : Cx p s m args meth c cX10_safest 7 RX10 D cy ad (AA ad) (wfC N) sdC) (hr : meth.sig.returnType = (some .int)) (M : Mem) (b1 : Int32) (b2 : Int32) : ∀ (n : Nat) (x3 : Int32) (x4 : Int32) (x5 : Int32), GF p l e (Rm 6) s m args below meth c 7 D cy ad (AA ad) 0 0 (wfC N) (QM D cy ad (wfC N) below args s) finS (fc_safest_L56 M b1 b2 n x3 x4 x5) 56 [(0, .ref (ad 0)), (1, .int b1), (2, .int b2), (3, .int x3), (4, .int x4), (5, .int x5)] [] M := by
  intro n
  induction n with
  | zero => intro x3 x4 x5; exact g_none
  | succ n ih =>
    intro x3 x4 x5
    rw [fc_safest_L56]
    refine g_iload X dX10_safest_56 5 rfl ?_
    refine g_aload_n X dX10_safest_58 0 rfl rfl ?_
    refine get_10_2 X (k := 0) k_0 s_0 m_2_128 dX10_safest_59 ?_
    refine get_1_6 X (k := 20) k_20 s_20 m_1_190 dX10_safest_62 ?_
    refine g_icmp_ge X 101 (by decide) dX10_safest_65 (fun q65 => ?_) (fun q65 => ?_)
    · refine g_iload_n X dX10_safest_101 3 rfl rfl ?_
      exact g_iret X hr rfl dX10_safest_102
    · refine g_aload_n X dX10_safest_68 0 rfl rfl ?_
      refine get_10_2 X (k := 0) k_0 s_0 m_2_128 dX10_safest_69 ?_
      refine g_iload X dX10_safest_72 5 rfl ?_
      refine g_iload_n X dX10_safest_74 1 rfl rfl ?_
      refine g_iload_n X dX10_safest_75 2 rfl rfl ?_
      refine g_ci X (st := []) (fun _ hh => ok_V X (k0 := 20) (As := [.int x5, .int b1, .int b2]) wkX1_riskOf (tLake_riskOf M x5 b1 b2 hh) rfl k_20 s_20 (by decide) rfl m_4_15 rfl (hRm (by decide) (by decide)) ⟨Nat.zero_le _, Nat.zero_le _⟩ (Nat.le_of_ble_eq_true rfl) dX10_safest_76) (fun r4 _ => ?_)
      refine g_istore X dX10_safest_79 (by decide) rfl [1, 2, 3, 4, 5, 6, 0] (lu := [(0, .ref (ad 0)), (1, .int b1), (2, .int b2), (3, .int x3), (4, .int x4), (5, .int x5), (6, .int r4)]) rfl ?_
      refine g_iload X dX10_safest_81 6 rfl ?_
      refine g_iload X dX10_safest_83 4 rfl ?_
      refine g_jlet X 95 (fun z95 : Int32 × Int32 => [(0, .ref (ad 0)), (1, .int b1), (2, .int b2), (3, .int (z95.1)), (4, .int (z95.2)), (5, .int x5)]) (fun z95 : Int32 × Int32 => []) (fun z95 : Int32 × Int32 => M) (fun z95 => ?_) (fun J95 hJ95 => ?_)
      · show GF _ _ _ _ _ _ _ _ _ _ _ _ _ _ _ _ _ _ _ _ _ 95 [(0, .ref (ad 0)), (1, .int b1), (2, .int b2), (3, .int (z95.1)), (4, .int (z95.2)), (5, .int x5)] [] M
        refine g_iinc X (k := 5) (v := (x5 + 1)) dX10_safest_95 rfl (ii_1 _) (by decide) rfl [1, 2, 3, 4, 5, 0] (lu := [(0, .ref (ad 0)), (1, .int b1), (2, .int b2), (3, .int (z95.1)), (4, .int (z95.2)), (5, .int (x5 + 1))]) rfl ?_
        refine g_goto X 56 (by decide) dX10_safest_98 ?_
        exact ih (z95.1) (z95.2) (x5 + 1)
      refine g_icmp_ge X 95 (by decide) dX10_safest_85 (fun q85 => ?_) (fun q85 => ?_)
      · refine g_sub (lu := [(0, .ref (ad 0)), (1, .int b1), (2, .int b2), (3, .int x3), (4, .int x4), (5, .int x5)]) [0, 1, 2, 3, 4, 5] rfl ?_
        exact hJ95 (x3, x4)
      · refine g_iload X dX10_safest_88 6 rfl ?_
        refine g_istore X dX10_safest_90 (by decide) rfl [1, 2, 3, 0, 5] (lu := [(0, .ref (ad 0)), (1, .int b1), (2, .int b2), (4, .int r4), (5, .int x5)]) rfl ?_
        refine g_iload X dX10_safest_92 4 rfl ?_
        refine g_istore_n X dX10_safest_94 rfl (by decide) rfl [1, 2, 3, 0, 4, 5] (lu := [(0, .ref (ad 0)), (1, .int b1), (2, .int b2), (3, .int x5), (4, .int r4), (5, .int x5)]) rfl ?_
        exact hJ95 (x5, r4)
set_option maxRecDepth 100000 in
set_option maxHeartbeats 4000000 in
theorem tc_safest {l : Launch} {D : va_G} {cy : Nat → ClassId} {ad : Nat → Nat} {N : Mem} (M : Mem) (a1 : Int32) (a2 : Int32) {x : (Int32 × Mem)} (h : fc_safest M a1 a2 = some x) : Mt l D cy ad yX10_safest cX10_safest 7 (some .int) 6 [.ref (ad 0), .int a1, .int a2] ((wfC N) M) (some (.int x.1), (wfC N) x.2) := by
  refine met_of (fin := finS) (lv0 := [(0, .ref (ad 0)), (1, .int a1), (2, .int a2)]) (by decide) (Nat.le_of_ble_eq_true rfl) rfl (lC N) h (fun p e s m args below meth c X hr => ?_)
  unfold fc_safest
  refine g_aload_n X dX10_safest_0 0 rfl rfl ?_
  refine g_iload_n X dX10_safest_1 1 rfl rfl ?_
  refine g_ct X (v0 := .int (fc_isJettyT M a1)) (st := []) (ok_V X (k0 := 0) (As := [.int a1]) wkX10_isJetty (tc_isJettyT M a1) rfl k_0 s_0 (by decide) rfl m_2_227 rfl (hRm (by decide) (by decide)) ⟨Nat.zero_le _, Nat.zero_le _⟩ (Nat.le_of_ble_eq_true rfl) dX10_safest_2) ?_
  refine g_if_eq X 15 (by decide) dX10_safest_5 (fun q5 => ?_) (fun q5 => ?_)
  · refine g_aload_n X dX10_safest_15 0 rfl rfl ?_
    refine g_bipush X dX10_safest_16 bi_m2 ?_
    refine g_cs X (st := []) (fun _ hh => ok_V X (k0 := 0) (As := [.int (-2)]) wkX10_refuse (tc_refuse M (-2) hh) rfl k_0 s_0 (by decide) rfl m_2_173 rfl (hRm (by decide) (by decide)) ⟨Nat.zero_le _, Nat.zero_le _⟩ (Nat.le_of_ble_eq_true rfl) dX10_safest_18) (fun r2 M1 _ => ?_)
    exact g_iret X hr rfl dX10_safest_21
  · refine g_iload_n X dX10_safest_8 2 rfl rfl ?_
    refine g_ct X (v0 := .int (fc_isHourT M a2)) (st := []) (ok_S X (As := [.int a2]) wkX10_isHour (tc_isHourT M a2) rfl m_3_84 rfl (hRm (by decide) (by decide)) ⟨Nat.zero_le _, Nat.zero_le _⟩ (Nat.le_of_ble_eq_true rfl) dX10_safest_9) ?_
    refine g_if_ne X 22 (by decide) dX10_safest_12 (fun q12 => ?_) (fun q12 => ?_)
    · refine g_aload_n X dX10_safest_22 0 rfl rfl ?_
      refine get_10_2 X (k := 0) k_0 s_0 m_2_128 dX10_safest_23 ?_
      refine get_1_6 X (k := 20) k_20 s_20 m_1_190 dX10_safest_26 ?_
      refine g_if_ne X 39 (by decide) dX10_safest_29 (fun q29 => ?_) (fun q29 => ?_)
      · refine g_iconst X dX10_safest_39 ic_0 ?_
        refine g_istore_n X dX10_safest_40 rfl (by decide) rfl [1, 2, 3, 0] (lu := [(0, .ref (ad 0)), (1, .int a1), (2, .int a2), (3, .int 0)]) rfl ?_
        refine g_aload_n X dX10_safest_41 0 rfl rfl ?_
        refine get_10_2 X (k := 0) k_0 s_0 m_2_128 dX10_safest_42 ?_
        refine g_iconst X dX10_safest_45 ic_0 ?_
        refine g_iload_n X dX10_safest_46 1 rfl rfl ?_
        refine g_iload_n X dX10_safest_47 2 rfl rfl ?_
        refine g_ci X (st := []) (fun _ hh => ok_V X (k0 := 20) (As := [.int 0, .int a1, .int a2]) wkX1_riskOf (tLake_riskOf M 0 a1 a2 hh) rfl k_20 s_20 (by decide) rfl m_4_15 rfl (hRm (by decide) (by decide)) ⟨Nat.zero_le _, Nat.zero_le _⟩ (Nat.le_of_ble_eq_true rfl) dX10_safest_48) (fun r3 _ => ?_)
        refine g_istore X dX10_safest_51 (by decide) rfl [1, 2, 3, 4, 0] (lu := [(0, .ref (ad 0)), (1, .int a1), (2, .int a2), (3, .int 0), (4, .int r3)]) rfl ?_
        refine g_iconst X dX10_safest_53 ic_1 ?_
        refine g_istore X dX10_safest_54 (by decide) rfl [1, 2, 3, 4, 5, 0] (lu := [(0, .ref (ad 0)), (1, .int a1), (2, .int a2), (3, .int 0), (4, .int r3), (5, .int 1)]) rfl ?_
        exact Lc_safest_L56  X hr M a1 a2    FU 0 r3 1
      · refine g_aload_n X dX10_safest_32 0 rfl rfl ?_
        refine g_bipush X dX10_safest_33 bi_m5 ?_
        refine g_cs X (st := []) (fun _ hh => ok_V X (k0 := 0) (As := [.int (-5)]) wkX10_refuse (tc_refuse M (-5) hh) rfl k_0 s_0 (by decide) rfl m_2_173 rfl (hRm (by decide) (by decide)) ⟨Nat.zero_le _, Nat.zero_le _⟩ (Nat.le_of_ble_eq_true rfl) dX10_safest_35) (fun r6 M5 _ => ?_)
        exact g_iret X hr rfl dX10_safest_38
    · refine g_aload_n X dX10_safest_15 0 rfl rfl ?_
      refine g_bipush X dX10_safest_16 bi_m2 ?_
      refine g_cs X (st := []) (fun _ hh => ok_V X (k0 := 0) (As := [.int (-2)]) wkX10_refuse (tc_refuse M (-2) hh) rfl k_0 s_0 (by decide) rfl m_2_173 rfl (hRm (by decide) (by decide)) ⟨Nat.zero_le _, Nat.zero_le _⟩ (Nat.le_of_ble_eq_true rfl) dX10_safest_18) (fun r8 M7 _ => ?_)
      exact g_iret X hr rfl dX10_safest_21
set_option maxRecDepth 100000 in
set_option maxHeartbeats 4000000 in
theorem Lc_readTour_2_L8 {l : Launch} {D : va_G} {cy : Nat → ClassId} {ad : Nat → Nat} {N : Mem} {p : Program} {e : Env} {s : State} {m : MethodId} {args : Array Value} {below : List Frame} {meth : Method} {c : Code} (X : Cx p s m args meth c cX10_readTour 5 RX10 D cy ad (AA ad) (wfC N) sdC) (hr : meth.sig.returnType = none) (b2 : Int32) (b3 : Int32) : ∀ (n : Nat) (x4 : Int32) (M : Mem), GF p l e (Rm 3) s m args below meth c 5 D cy ad (AA ad) 0 0 (wfC N) (QM D cy ad (wfC N) below args s) finV (fc_readTour_2_L8 b2 b3 n x4 M) 8 [(0, .ref (ad 0)), (1, .ref (ad 122)), (2, .int b2), (3, .int b3), (4, .int x4)] [] M := by
  intro n
  induction n with
  | zero => intro x4 M; exact g_none
  | succ n ih =>
    intro x4 M
    rw [fc_readTour_2_L8]
    refine g_iload X dX10_readTour_8 4 rfl ?_
    refine g_iload_n X dX10_readTour_10 3 rfl rfl ?_
    refine g_icmp_ge X 39 (by decide) dX10_readTour_11 (fun q11 => ?_) (fun q11 => ?_)
    · exact g_vret X hr rfl dX10_readTour_39
    · refine g_aload_n X dX10_readTour_14 1 rfl rfl ?_
      refine get_8_0 X (k := 122) k_122 s_122 m_2_12 dX10_readTour_15 ?_
      refine g_iload X dX10_readTour_18 4 rfl ?_
      refine g_aload_n X dX10_readTour_20 0 rfl rfl ?_
      refine get_10_0 X (k := 0) k_0 s_0 m_2_126 dX10_readTour_21 ?_
      refine g_iload_n X dX10_readTour_24 2 rfl rfl ?_
      refine g_aald27 X (k := 1) k_1 s_1 dX10_readTour_25 (fun h2 => ?_)
      refine g_iload X dX10_readTour_26 4 rfl ?_
      refine g_cl X (st := [.int x4, .ref (ad 123)]) (fun _ hh => ok_V X (k0 := (ix b2) + 2) (As := [.int x4]) wkX5_at (tShelf_at M (ix b2) x4 (inb_lt h2) hh) rfl (kf_2 _ (inb_lt h2)) (sf_2 _ (inb_lt h2)) (by decide) rfl m_2_215 rfl (hRm (by decide) (by decide)) ⟨Nat.zero_le _, Nat.zero_le _⟩ (Nat.le_of_ble_eq_true rfl) dX10_readTour_28) (fun r3 _ => ?_)
      refine g_l2i X dX10_readTour_31 ?_
      refine g_iast X (n := 20) (k := 123) k_123 s_123 dX10_readTour_32 (fun h4 => ?_)
      refine g_mlet X (fun M5 => ?_)
      refine g_iinc X (k := 4) (v := (x4 + 1)) dX10_readTour_33 rfl (ii_1 _) (by decide) rfl [1, 2, 3, 4, 0] (lu := [(0, .ref (ad 0)), (1, .ref (ad 122)), (2, .int b2), (3, .int b3), (4, .int (x4 + 1))]) rfl ?_
      refine g_goto X 8 (by decide) dX10_readTour_36 ?_
      exact ih (x4 + 1) M5
set_option maxRecDepth 100000 in
set_option maxHeartbeats 4000000 in
theorem tc_readTour_2 {l : Launch} {D : va_G} {cy : Nat → ClassId} {ad : Nat → Nat} {N : Mem} (M : Mem) (a2 : Int32) (a3 : Int32) {x : Mem} (h : fc_readTour_2 M a2 a3 = some x) : Mt l D cy ad yX10_readTour cX10_readTour 5 none 3 [.ref (ad 0), .ref (ad 122), .int a2, .int a3] ((wfC N) M) (none, (wfC N) x) := by
  refine met_of (fin := finV) (lv0 := [(0, .ref (ad 0)), (1, .ref (ad 122)), (2, .int a2), (3, .int a3)]) (by decide) (Nat.le_of_ble_eq_true rfl) rfl (lC N) h (fun p e s m args below meth c X hr => ?_)
  unfold fc_readTour_2
  refine g_aload_n X dX10_readTour_0 1 rfl rfl ?_
  refine g_iload_n X dX10_readTour_1 3 rfl rfl ?_
  refine put_8_2 X (k := 122) k_122 s_122 m_2_16 dX10_readTour_2 ?_
  refine g_mlet X (fun M1 => ?_)
  refine g_iconst X dX10_readTour_5 ic_0 ?_
  refine g_istore X dX10_readTour_6 (by decide) rfl [1, 2, 3, 4, 0] (lu := [(0, .ref (ad 0)), (1, .ref (ad 122)), (2, .int a2), (3, .int a3), (4, .int 0)]) rfl ?_
  exact Lc_readTour_2_L8  X hr a2 a3    FU 0 M1
set_option maxRecDepth 100000 in
set_option maxHeartbeats 4000000 in
theorem LTour_sail_2_L12 {l : Launch} {D : va_G} {cy : Nat → ClassId} {ad : Nat → Nat} {N : Mem} {p : Program} {e : Env} {s : State} {m : MethodId} {args : Array Value} {below : List Frame} {meth : Method} {c : Code} (X : Cx p s m args meth c cX8_sail 8 RX8 D cy ad (AA ad) (wfC N) sdC) (hr : meth.sig.returnType = none) (b2 : Int32) (b3 : Int32) : ∀ (n : Nat) (x4 : Int32) (x5 : Int32) (x6 : Int32) (M : Mem), GF p l e (Rm 3) s m args below meth c 8 D cy ad (AA ad) 0 0 (wfC N) (QM D cy ad (wfC N) below args s) finV (fTour_sail_2_L12 b2 b3 n x4 x5 x6 M) 12 [(0, .ref (ad 122)), (1, .ref (ad 20)), (2, .int b2), (3, .int b3), (4, .int x4), (5, .int x5), (6, .int x6)] [] M := by
  intro n
  induction n with
  | zero => intro x4 x5 x6 M; exact g_none
  | succ n ih =>
    intro x4 x5 x6 M
    rw [fTour_sail_2_L12]
    refine g_iload X dX8_sail_12 6 rfl ?_
    refine g_aload_n X dX8_sail_14 0 rfl rfl ?_
    refine get_8_2 X (k := 122) k_122 s_122 m_2_15 dX8_sail_15 ?_
    refine g_icmp_ge X 92 (by decide) dX8_sail_18 (fun q18 => ?_) (fun q18 => ?_)
    · exact g_vret X hr rfl dX8_sail_92
    · refine g_aload_n X dX8_sail_21 1 rfl rfl ?_
      refine get_1_0 X (k := 20) k_20 s_20 m_1_175 dX8_sail_22 ?_
      refine g_aload_n X dX8_sail_25 0 rfl rfl ?_
      refine get_8_0 X (k := 122) k_122 s_122 m_2_10 dX8_sail_26 ?_
      refine g_iload X dX8_sail_29 6 rfl ?_
      refine g_iald X (n := 20) (k := 123) k_123 s_123 dX8_sail_31 (fun h2 => ?_)
      refine g_aald24 X (k := 21) k_21 s_21 dX8_sail_32 (fun h3 => ?_)
      refine get_0_1 X (k := (ix (M.1 123 (ix x6))) + 22) (kf_22 _ (inb_lt h3)) (sf_22 _ (inb_lt h3)) m_1_112 dX8_sail_33 ?_
      refine g_ilet X (fun v4 => ?_)
      refine g_istore X dX8_sail_36 (by decide) rfl [1, 2, 3, 4, 5, 6, 7, 0] (lu := [(0, .ref (ad 122)), (1, .ref (ad 20)), (2, .int b2), (3, .int b3), (4, .int x4), (5, .int x5), (6, .int x6), (7, .int v4)]) rfl ?_
      refine g_aload_n X dX8_sail_38 0 rfl rfl ?_
      refine get_8_1 X (k := 122) k_122 s_122 m_2_13 dX8_sail_39 ?_
      refine g_iload X dX8_sail_42 6 rfl ?_
      refine g_iload X dX8_sail_44 5 rfl ?_
      refine g_aload_n X dX8_sail_46 1 rfl rfl ?_
      refine g_iload X dX8_sail_47 4 rfl ?_
      refine g_iload X dX8_sail_49 7 rfl ?_
      refine g_iload_n X dX8_sail_51 2 rfl rfl ?_
      refine g_ci X (st := [.int x5, .int x6, .ref (ad 124)]) (fun _ hh => ok_V X (k0 := 20) (As := [.int x4, .int v4, .int b2]) wkX1_legMinutes (tLake_legMinutes M x4 v4 b2 hh) rfl k_20 s_20 (by decide) rfl m_4_70 rfl (hRm (by decide) (by decide)) ⟨Nat.zero_le _, Nat.zero_le _⟩ (Nat.le_of_ble_eq_true rfl) dX8_sail_52) (fun r5 _ => ?_)
      refine g_iadd X dX8_sail_55 ?_
      refine g_iast X (n := 20) (k := 124) k_124 s_124 dX8_sail_56 (fun h6 => ?_)
      refine g_mlet X (fun M7 => ?_)
      refine g_aload_n X dX8_sail_57 0 rfl rfl ?_
      refine get_8_1 X (k := 122) k_122 s_122 m_2_13 dX8_sail_58 ?_
      refine g_iload X dX8_sail_61 6 rfl ?_
      refine g_iald X (n := 20) (k := 124) k_124 s_124 dX8_sail_63 (fun h8 => ?_)
      refine g_iconst X dX8_sail_64 ic_1 ?_
      refine g_iadd X dX8_sail_65 ?_
      refine g_ilet X (fun v9 => ?_)
      refine g_istore X dX8_sail_66 (by decide) rfl [1, 2, 3, 4, 0, 6, 7] (lu := [(0, .ref (ad 122)), (1, .ref (ad 20)), (2, .int b2), (3, .int b3), (5, .int v9), (6, .int x6), (7, .int v4)]) rfl ?_
      refine g_iload X dX8_sail_68 5 rfl ?_
      refine g_iload_n X dX8_sail_70 3 rfl rfl ?_
      refine g_jlet X 82 (fun z82 : Int32 => [(0, .ref (ad 122)), (1, .ref (ad 20)), (2, .int b2), (3, .int b3), (5, .int z82), (6, .int x6), (7, .int v4)]) (fun z82 : Int32 => []) (fun z82 : Int32 => M7) (fun z82 => ?_) (fun J82 hJ82 => ?_)
      · show GF _ _ _ _ _ _ _ _ _ _ _ _ _ _ _ _ _ _ _ _ _ 82 [(0, .ref (ad 122)), (1, .ref (ad 20)), (2, .int b2), (3, .int b3), (5, .int z82), (6, .int x6), (7, .int v4)] [] M7
        refine g_iload X dX8_sail_82 6 rfl ?_
        refine g_istore X dX8_sail_84 (by decide) rfl [1, 2, 3, 4, 0, 5, 6] (lu := [(0, .ref (ad 122)), (1, .ref (ad 20)), (2, .int b2), (3, .int b3), (4, .int v4), (5, .int z82), (6, .int x6)]) rfl ?_
        refine g_iinc X (k := 6) (v := (x6 + 1)) dX8_sail_86 rfl (ii_1 _) (by decide) rfl [1, 2, 3, 4, 5, 6, 0] (lu := [(0, .ref (ad 122)), (1, .ref (ad 20)), (2, .int b2), (3, .int b3), (4, .int v4), (5, .int z82), (6, .int (x6 + 1))]) rfl ?_
        refine g_goto X 12 (by decide) dX8_sail_89 ?_
        exact ih v4 z82 (x6 + 1) M7
      refine g_icmp_ne X 82 (by decide) dX8_sail_71 (fun q71 => ?_) (fun q71 => ?_)
      · exact hJ82 v9
      · refine g_iload X dX8_sail_74 4 rfl ?_
        refine g_iconst X dX8_sail_76 ic_3 ?_
        refine g_iload_n X dX8_sail_77 2 rfl rfl ?_
        refine g_imul X dX8_sail_78 ?_
        refine g_iadd X dX8_sail_79 ?_
        refine g_ilet X (fun v10 => ?_)
        refine g_istore X dX8_sail_80 (by decide) rfl [1, 2, 3, 4, 0, 5, 6] (lu := [(0, .ref (ad 122)), (1, .ref (ad 20)), (2, .int b2), (3, .int b3), (5, .int v10), (6, .int x6), (7, .int v4)]) rfl ?_
        exact hJ82 v10
set_option maxRecDepth 100000 in
set_option maxHeartbeats 4000000 in
theorem tTour_sail_2 {l : Launch} {D : va_G} {cy : Nat → ClassId} {ad : Nat → Nat} {N : Mem} (M : Mem) (a2 : Int32) (a3 : Int32) {x : Mem} (h : fTour_sail_2 M a2 a3 = some x) : Mt l D cy ad yX8_sail cX8_sail 8 none 3 [.ref (ad 122), .ref (ad 20), .int a2, .int a3] ((wfC N) M) (none, (wfC N) x) := by
  refine met_of (fin := finV) (lv0 := [(0, .ref (ad 122)), (1, .ref (ad 20)), (2, .int a2), (3, .int a3)]) (by decide) (Nat.le_of_ble_eq_true rfl) rfl (lC N) h (fun p e s m args below meth c X hr => ?_)
  unfold fTour_sail_2
  refine g_aload_n X dX8_sail_0 1 rfl rfl ?_
  refine get_1_13 X (k := 20) k_20 s_20 m_1_203 dX8_sail_1 ?_
  refine g_ilet X (fun v1 => ?_)
  refine g_istore X dX8_sail_4 (by decide) rfl [1, 2, 3, 4, 0] (lu := [(0, .ref (ad 122)), (1, .ref (ad 20)), (2, .int a2), (3, .int a3), (4, .int v1)]) rfl ?_
  refine g_iconst X dX8_sail_6 ic_0 ?_
  refine g_istore X dX8_sail_7 (by decide) rfl [1, 2, 3, 4, 5, 0] (lu := [(0, .ref (ad 122)), (1, .ref (ad 20)), (2, .int a2), (3, .int a3), (4, .int v1), (5, .int 0)]) rfl ?_
  refine g_iconst X dX8_sail_9 ic_0 ?_
  refine g_istore X dX8_sail_10 (by decide) rfl [1, 2, 3, 4, 5, 6, 0] (lu := [(0, .ref (ad 122)), (1, .ref (ad 20)), (2, .int a2), (3, .int a3), (4, .int v1), (5, .int 0), (6, .int 0)]) rfl ?_
  exact LTour_sail_2_L12  X hr a2 a3    FU v1 0 0 M
set_option maxRecDepth 100000 in
set_option maxHeartbeats 4000000 in
theorem LTour_laterHoursThan_L4 {l : Launch} {D : va_G} {cy : Nat → ClassId} {ad : Nat → Nat} {N : Mem} {p : Program} {e : Env} {s : State} {m : MethodId} {args : Array Value} {below : List Frame} {meth : Method} {c : Code} (X : Cx p s m args meth c cX8_laterHoursThan 4 RX8 D cy ad (AA ad) (wfC N) sdC) (hr : meth.sig.returnType = (some .int)) (M : Mem) : ∀ (n : Nat) (x2 : Int32) (x3 : Int32), GF p l e (Rm 3) s m args below meth c 4 D cy ad (AA ad) 0 0 (wfC N) (QM D cy ad (wfC N) below args s) (finI M) (fTour_laterHoursThan_L4 M n x2 x3) 4 [(0, .ref (ad 119)), (1, .ref (ad 122)), (2, .int x2), (3, .int x3)] [] M := by
  intro n
  induction n with
  | zero => intro x2 x3; exact g_none
  | succ n ih =>
    intro x2 x3
    rw [fTour_laterHoursThan_L4]
    refine g_iload_n X dX8_laterHoursThan_4 3 rfl rfl ?_
    refine g_aload_n X dX8_laterHoursThan_5 0 rfl rfl ?_
    refine get_8_2 X (k := 119) k_119 s_119 m_2_15 dX8_laterHoursThan_6 ?_
    refine g_icmp_ge X 50 (by decide) dX8_laterHoursThan_9 (fun q9 => ?_) (fun q9 => ?_)
    · refine g_iload_n X dX8_laterHoursThan_50 2 rfl rfl ?_
      exact g_iret X hr rfl dX8_laterHoursThan_51
    · refine g_iload_n X dX8_laterHoursThan_12 2 rfl rfl ?_
      refine g_aload_n X dX8_laterHoursThan_13 0 rfl rfl ?_
      refine get_8_1 X (k := 119) k_119 s_119 m_2_13 dX8_laterHoursThan_14 ?_
      refine g_iload_n X dX8_laterHoursThan_17 3 rfl rfl ?_
      refine g_iald X (n := 20) (k := 121) k_121 s_121 dX8_laterHoursThan_18 (fun h1 => ?_)
      refine g_ct X (v0 := .int (fc_hourOfT M (M.1 121 (ix x3)))) (st := [.int x2]) (ok_N X (As := [.int (M.1 121 (ix x3))]) wkX10_hourOf (tc_hourOfT M (M.1 121 (ix x3))) rfl m_4_75 rfl (hRm (by decide) (by decide)) ⟨Nat.zero_le _, Nat.zero_le _⟩ (Nat.le_of_ble_eq_true rfl) dX8_laterHoursThan_19) ?_
      refine g_aload_n X dX8_laterHoursThan_22 1 rfl rfl ?_
      refine get_8_1 X (k := 122) k_122 s_122 m_2_13 dX8_laterHoursThan_23 ?_
      refine g_iload_n X dX8_laterHoursThan_26 3 rfl rfl ?_
      refine g_iald X (n := 20) (k := 124) k_124 s_124 dX8_laterHoursThan_27 (fun h2 => ?_)
      refine g_ct X (v0 := .int (fc_hourOfT M (M.1 124 (ix x3)))) (st := [.int (fc_hourOfT M (M.1 121 (ix x3))), .int x2]) (ok_N X (As := [.int (M.1 124 (ix x3))]) wkX10_hourOf (tc_hourOfT M (M.1 124 (ix x3))) rfl m_4_75 rfl (hRm (by decide) (by decide)) ⟨Nat.zero_le _, Nat.zero_le _⟩ (Nat.le_of_ble_eq_true rfl) dX8_laterHoursThan_28) ?_
      refine g_jlet X 39 (fun z39 : Int32 => [(0, .ref (ad 119)), (1, .ref (ad 122)), (3, .int x3)]) (fun z39 : Int32 => [.int z39, .int x2]) (fun z39 : Int32 => M) (fun z39 => ?_) (fun J39 hJ39 => ?_)
      · show GF _ _ _ _ _ _ _ _ _ _ _ _ _ _ _ _ _ _ _ _ _ 39 [(0, .ref (ad 119)), (1, .ref (ad 122)), (3, .int x3)] [.int z39, .int x2] M
        refine g_ct X (v0 := .int (fc_toNumberT M z39)) (st := [.int x2]) (ok_N X (As := [.int z39]) wkX10_toNumber (tc_toNumberT M z39) rfl m_4_65 rfl (hRm (by decide) (by decide)) ⟨Nat.zero_le _, Nat.zero_le _⟩ (Nat.le_of_ble_eq_true rfl) dX8_laterHoursThan_39) ?_
        refine g_iadd X dX8_laterHoursThan_42 ?_
        refine g_ilet X (fun v3 => ?_)
        refine g_istore_n X dX8_laterHoursThan_43 rfl (by decide) rfl [1, 2, 0, 3] (lu := [(0, .ref (ad 119)), (1, .ref (ad 122)), (2, .int v3), (3, .int x3)]) rfl ?_
        refine g_iinc X (k := 3) (v := (x3 + 1)) dX8_laterHoursThan_44 rfl (ii_1 _) (by decide) rfl [1, 2, 3, 0] (lu := [(0, .ref (ad 119)), (1, .ref (ad 122)), (2, .int v3), (3, .int (x3 + 1))]) rfl ?_
        refine g_goto X 4 (by decide) dX8_laterHoursThan_47 ?_
        exact ih v3 (x3 + 1)
      refine g_icmp_le X 38 (by decide) dX8_laterHoursThan_31 (fun q31 => ?_) (fun q31 => ?_)
      · refine g_iconst X dX8_laterHoursThan_38 ic_0 ?_
        refine g_sub (lu := [(0, .ref (ad 119)), (1, .ref (ad 122)), (3, .int x3)]) [0, 1, 3] rfl ?_
        exact hJ39 0
      · refine g_iconst X dX8_laterHoursThan_34 ic_1 ?_
        refine g_goto X 39 (by decide) dX8_laterHoursThan_35 ?_
        refine g_sub (lu := [(0, .ref (ad 119)), (1, .ref (ad 122)), (3, .int x3)]) [0, 1, 3] rfl ?_
        exact hJ39 1
set_option maxRecDepth 100000 in
set_option maxHeartbeats 4000000 in
theorem tTour_laterHoursThan {l : Launch} {D : va_G} {cy : Nat → ClassId} {ad : Nat → Nat} {N : Mem} (M : Mem) {x : Int32} (h : fTour_laterHoursThan M = some x) : Mt l D cy ad yX8_laterHoursThan cX8_laterHoursThan 4 (some .int) 3 [.ref (ad 119), .ref (ad 122)] ((wfC N) M) (some (.int x), (wfC N) M) := by
  refine met_of (fin := (finI M)) (lv0 := [(0, .ref (ad 119)), (1, .ref (ad 122))]) (by decide) (Nat.le_of_ble_eq_true rfl) rfl (lC N) h (fun p e s m args below meth c X hr => ?_)
  unfold fTour_laterHoursThan
  refine g_iconst X dX8_laterHoursThan_0 ic_0 ?_
  refine g_istore_n X dX8_laterHoursThan_1 rfl (by decide) rfl [1, 2, 0] (lu := [(0, .ref (ad 119)), (1, .ref (ad 122)), (2, .int 0)]) rfl ?_
  refine g_iconst X dX8_laterHoursThan_2 ic_0 ?_
  refine g_istore_n X dX8_laterHoursThan_3 rfl (by decide) rfl [1, 2, 3, 0] (lu := [(0, .ref (ad 119)), (1, .ref (ad 122)), (2, .int 0), (3, .int 0)]) rfl ?_
  exact LTour_laterHoursThan_L4  X hr M    FU 0 0
set_option maxRecDepth 100000 in
set_option maxHeartbeats 4000000 in
theorem tc_missed {l : Launch} {D : va_G} {cy : Nat → ClassId} {ad : Nat → Nat} {N : Mem} (M : Mem) (a1 : Int32) (a2 : Int32) (a3 : Int32) (a4 : Int32) (a5 : Int32) {x : (Int32 × Mem)} (h : fc_missed M a1 a2 a3 a4 a5 = some x) : Mt l D cy ad yX10_missed cX10_missed 7 (some .int) 7 [.ref (ad 0), .int a1, .int a2, .int a3, .int a4, .int a5] ((wfC N) M) (some (.int x.1), (wfC N) x.2) := by
  refine met_of (fin := finS) (lv0 := [(0, .ref (ad 0)), (1, .int a1), (2, .int a2), (3, .int a3), (4, .int a4), (5, .int a5)]) (by decide) (Nat.le_of_ble_eq_true rfl) rfl (lC N) h (fun p e s m args below meth c X hr => ?_)
  unfold fc_missed
  refine g_aload_n X dX10_missed_0 0 rfl rfl ?_
  refine g_iload_n X dX10_missed_1 1 rfl rfl ?_
  refine g_ct X (v0 := .int (fc_isLeaperT M a1)) (st := []) (ok_V X (k0 := 0) (As := [.int a1]) wkX10_isLeaper (tc_isLeaperT M a1) rfl k_0 s_0 (by decide) rfl m_3_225 rfl (hRm (by decide) (by decide)) ⟨Nat.zero_le _, Nat.zero_le _⟩ (Nat.le_of_ble_eq_true rfl) dX10_missed_2) ?_
  refine g_if_eq X 27 (by decide) dX10_missed_5 (fun q5 => ?_) (fun q5 => ?_)
  · refine g_aload_n X dX10_missed_27 0 rfl rfl ?_
    refine g_bipush X dX10_missed_28 bi_m2 ?_
    refine g_cs X (st := []) (fun _ hh => ok_V X (k0 := 0) (As := [.int (-2)]) wkX10_refuse (tc_refuse M (-2) hh) rfl k_0 s_0 (by decide) rfl m_2_173 rfl (hRm (by decide) (by decide)) ⟨Nat.zero_le _, Nat.zero_le _⟩ (Nat.le_of_ble_eq_true rfl) dX10_missed_30) (fun r2 M1 _ => ?_)
    exact g_iret X hr rfl dX10_missed_33
  · refine g_iload X dX10_missed_8 4 rfl ?_
    refine g_iload_n X dX10_missed_10 3 rfl rfl ?_
    refine g_ct X (v0 := .int (fc_isBelowT M a4 a3)) (st := []) (ok_S X (As := [.int a4, .int a3]) wkX10_isBelow (tc_isBelowT M a4 a3) rfl m_2_167 rfl (hRm (by decide) (by decide)) ⟨Nat.zero_le _, Nat.zero_le _⟩ (Nat.le_of_ble_eq_true rfl) dX10_missed_11) ?_
    refine g_if_eq X 27 (by decide) dX10_missed_14 (fun q14 => ?_) (fun q14 => ?_)
    · refine g_aload_n X dX10_missed_27 0 rfl rfl ?_
      refine g_bipush X dX10_missed_28 bi_m2 ?_
      refine g_cs X (st := []) (fun _ hh => ok_V X (k0 := 0) (As := [.int (-2)]) wkX10_refuse (tc_refuse M (-2) hh) rfl k_0 s_0 (by decide) rfl m_2_173 rfl (hRm (by decide) (by decide)) ⟨Nat.zero_le _, Nat.zero_le _⟩ (Nat.le_of_ble_eq_true rfl) dX10_missed_30) (fun r4 M3 _ => ?_)
      exact g_iret X hr rfl dX10_missed_33
    · refine g_iload X dX10_missed_17 5 rfl ?_
      refine g_iconst X dX10_missed_19 ic_0 ?_
      refine g_iconst X dX10_missed_20 ic_2 ?_
      refine g_ct X (v0 := .int (fc_isWithinT M a5 0 2)) (st := []) (ok_S X (As := [.int a5, .int 0, .int 2]) wkX10_isWithin (tc_isWithinT M a5 0 2) rfl m_2_170 rfl (hRm (by decide) (by decide)) ⟨Nat.zero_le _, Nat.zero_le _⟩ (Nat.le_of_ble_eq_true rfl) dX10_missed_21) ?_
      refine g_if_ne X 34 (by decide) dX10_missed_24 (fun q24 => ?_) (fun q24 => ?_)
      · refine g_aload_n X dX10_missed_34 0 rfl rfl ?_
        refine g_iload_n X dX10_missed_35 2 rfl rfl ?_
        refine g_iload_n X dX10_missed_36 3 rfl rfl ?_
        refine g_ci X (st := []) (fun _ hh => ok_V X (k0 := 0) (As := [.int a2, .int a3]) wkX10_roundTrouble (tc_roundTrouble M a2 a3 hh) rfl k_0 s_0 (by decide) rfl m_4_48 rfl (hRm (by decide) (by decide)) ⟨Nat.zero_le _, Nat.zero_le _⟩ (Nat.le_of_ble_eq_true rfl) dX10_missed_37) (fun r5 _ => ?_)
        refine g_istore X dX10_missed_40 (by decide) rfl [1, 2, 3, 4, 5, 6, 0] (lu := [(0, .ref (ad 0)), (1, .int a1), (2, .int a2), (3, .int a3), (4, .int a4), (5, .int a5), (6, .int r5)]) rfl ?_
        refine g_iload X dX10_missed_42 6 rfl ?_
        refine g_if_eq X 54 (by decide) dX10_missed_44 (fun q44 => ?_) (fun q44 => ?_)
        · refine g_aload_n X dX10_missed_54 0 rfl rfl ?_
          refine g_aload_n X dX10_missed_55 0 rfl rfl ?_
          refine get_10_6 X (k := 0) k_0 s_0 m_2_132 dX10_missed_56 ?_
          refine g_iload_n X dX10_missed_59 2 rfl rfl ?_
          refine g_iload_n X dX10_missed_60 3 rfl rfl ?_
          refine g_cv X (st := []) (fun _ hh => ok_V X (k0 := 0) (As := [.ref (ad 119), .int a2, .int a3]) wkX10_readTour (tc_readTour M a2 a3 hh) rfl k_0 s_0 (by decide) rfl m_4_56 rfl (hRm (by decide) (by decide)) ⟨Nat.zero_le _, Nat.zero_le _⟩ (Nat.le_of_ble_eq_true rfl) dX10_missed_61) (fun M6 _ => ?_)
          refine g_aload_n X dX10_missed_64 0 rfl rfl ?_
          refine get_10_6 X (k := 0) k_0 s_0 m_2_132 dX10_missed_65 ?_
          refine g_aload_n X dX10_missed_68 0 rfl rfl ?_
          refine get_10_2 X (k := 0) k_0 s_0 m_2_128 dX10_missed_69 ?_
          refine g_aload_n X dX10_missed_72 0 rfl rfl ?_
          refine get_10_2 X (k := 0) k_0 s_0 m_2_128 dX10_missed_73 ?_
          refine g_ci X (st := [.ref (ad 20), .ref (ad 119)]) (fun _ hh => ok_V X (k0 := 20) (As := []) wkX1_speed (tLake_speed M6 hh) rfl k_20 s_20 (by decide) rfl m_3_48 rfl (hRm (by decide) (by decide)) ⟨Nat.zero_le _, Nat.zero_le _⟩ (Nat.le_of_ble_eq_true rfl) dX10_missed_76) (fun r7 _ => ?_)
          refine g_iload X dX10_missed_79 4 rfl ?_
          refine g_cv X (st := []) (fun _ hh => ok_V X (k0 := 119) (As := [.ref (ad 20), .int r7, .int a4]) wkX8_sail (tTour_sail M6 r7 a4 hh) rfl k_119 s_119 (by decide) rfl m_4_66 rfl (hRm (by decide) (by decide)) ⟨Nat.zero_le _, Nat.zero_le _⟩ (Nat.le_of_ble_eq_true rfl) dX10_missed_81) (fun M8 _ => ?_)
          refine g_iload X dX10_missed_84 5 rfl ?_
          refine g_if_ne X 97 (by decide) dX10_missed_86 (fun q86 => ?_) (fun q86 => ?_)
          · refine g_iload X dX10_missed_97 5 rfl ?_
            refine g_iconst X dX10_missed_99 ic_1 ?_
            refine g_icmp_ne X 116 (by decide) dX10_missed_100 (fun q100 => ?_) (fun q100 => ?_)
            · refine g_aload_n X dX10_missed_116 0 rfl rfl ?_
              refine g_aload_n X dX10_missed_117 0 rfl rfl ?_
              refine get_10_7 X (k := 0) k_0 s_0 m_2_133 dX10_missed_118 ?_
              refine g_iload_n X dX10_missed_121 2 rfl rfl ?_
              refine g_iload_n X dX10_missed_122 3 rfl rfl ?_
              refine g_cv X (st := []) (fun _ hh => ok_V X (k0 := 0) (As := [.ref (ad 122), .int a2, .int a3]) wkX10_readTour (tc_readTour_2 M8 a2 a3 hh) rfl k_0 s_0 (by decide) rfl m_4_56 rfl (hRm (by decide) (by decide)) ⟨Nat.zero_le _, Nat.zero_le _⟩ (Nat.le_of_ble_eq_true rfl) dX10_missed_123) (fun M9 _ => ?_)
              refine g_aload_n X dX10_missed_126 0 rfl rfl ?_
              refine get_10_7 X (k := 0) k_0 s_0 m_2_133 dX10_missed_127 ?_
              refine g_aload_n X dX10_missed_130 0 rfl rfl ?_
              refine get_10_2 X (k := 0) k_0 s_0 m_2_128 dX10_missed_131 ?_
              refine g_aload_n X dX10_missed_134 0 rfl rfl ?_
              refine get_10_2 X (k := 0) k_0 s_0 m_2_128 dX10_missed_135 ?_
              refine g_ci X (st := [.ref (ad 20), .ref (ad 122)]) (fun _ hh => ok_V X (k0 := 20) (As := []) wkX1_speed (tLake_speed M9 hh) rfl k_20 s_20 (by decide) rfl m_3_48 rfl (hRm (by decide) (by decide)) ⟨Nat.zero_le _, Nat.zero_le _⟩ (Nat.le_of_ble_eq_true rfl) dX10_missed_138) (fun r10 _ => ?_)
              refine g_iconst X dX10_missed_141 ic_m1 ?_
              refine g_cv X (st := []) (fun _ hh => ok_V X (k0 := 122) (As := [.ref (ad 20), .int r10, .int (-1)]) wkX8_sail (tTour_sail_2 M9 r10 (-1) hh) rfl k_122 s_122 (by decide) rfl m_4_66 rfl (hRm (by decide) (by decide)) ⟨Nat.zero_le _, Nat.zero_le _⟩ (Nat.le_of_ble_eq_true rfl) dX10_missed_142) (fun M11 _ => ?_)
              refine g_aload_n X dX10_missed_145 0 rfl rfl ?_
              refine get_10_6 X (k := 0) k_0 s_0 m_2_132 dX10_missed_146 ?_
              refine g_aload_n X dX10_missed_149 0 rfl rfl ?_
              refine get_10_7 X (k := 0) k_0 s_0 m_2_133 dX10_missed_150 ?_
              refine g_ci X (st := []) (fun _ hh => ok_V X (k0 := 119) (As := [.ref (ad 122)]) wkX8_laterHoursThan (tTour_laterHoursThan M11 hh) rfl k_119 s_119 (by decide) rfl m_4_154 rfl (hRm (by decide) (by decide)) ⟨Nat.zero_le _, Nat.zero_le _⟩ (Nat.le_of_ble_eq_true rfl) dX10_missed_153) (fun r12 _ => ?_)
              exact g_iret X hr rfl dX10_missed_156
            · refine g_aload_n X dX10_missed_103 0 rfl rfl ?_
              refine get_10_6 X (k := 0) k_0 s_0 m_2_132 dX10_missed_104 ?_
              refine g_aload_n X dX10_missed_107 0 rfl rfl ?_
              refine get_10_2 X (k := 0) k_0 s_0 m_2_128 dX10_missed_108 ?_
              refine g_iload_n X dX10_missed_111 1 rfl rfl ?_
              refine g_ci X (st := []) (fun _ hh => ok_V X (k0 := 119) (As := [.ref (ad 20), .int a1]) wkX8_riskBy (tTour_riskBy M8 a1 hh) rfl k_119 s_119 (by decide) rfl m_4_71 rfl (hRm (by decide) (by decide)) ⟨Nat.zero_le _, Nat.zero_le _⟩ (Nat.le_of_ble_eq_true rfl) dX10_missed_112) (fun r13 _ => ?_)
              exact g_iret X hr rfl dX10_missed_115
          · refine g_aload_n X dX10_missed_89 0 rfl rfl ?_
            refine get_10_6 X (k := 0) k_0 s_0 m_2_132 dX10_missed_90 ?_
            refine g_ci X (st := []) (fun _ hh => ok_V X (k0 := 119) (As := []) wkX8_end (tTour_end M8 hh) rfl k_119 s_119 (by decide) rfl m_4_79 rfl (hRm (by decide) (by decide)) ⟨Nat.zero_le _, Nat.zero_le _⟩ (Nat.le_of_ble_eq_true rfl) dX10_missed_93) (fun r14 _ => ?_)
            exact g_iret X hr rfl dX10_missed_96
        · refine g_aload_n X dX10_missed_47 0 rfl rfl ?_
          refine g_iload X dX10_missed_48 6 rfl ?_
          refine g_cs X (st := []) (fun _ hh => ok_V X (k0 := 0) (As := [.int r5]) wkX10_refuse (tc_refuse M r5 hh) rfl k_0 s_0 (by decide) rfl m_2_173 rfl (hRm (by decide) (by decide)) ⟨Nat.zero_le _, Nat.zero_le _⟩ (Nat.le_of_ble_eq_true rfl) dX10_missed_50) (fun r16 M15 _ => ?_)
          exact g_iret X hr rfl dX10_missed_53
      · refine g_aload_n X dX10_missed_27 0 rfl rfl ?_
        refine g_bipush X dX10_missed_28 bi_m2 ?_
        refine g_cs X (st := []) (fun _ hh => ok_V X (k0 := 0) (As := [.int (-2)]) wkX10_refuse (tc_refuse M (-2) hh) rfl k_0 s_0 (by decide) rfl m_2_173 rfl (hRm (by decide) (by decide)) ⟨Nat.zero_le _, Nat.zero_le _⟩ (Nat.le_of_ble_eq_true rfl) dX10_missed_30) (fun r18 M17 _ => ?_)
        exact g_iret X hr rfl dX10_missed_33
set_option maxRecDepth 100000 in
set_option maxHeartbeats 4000000 in
theorem Lc_pilot_L51 {l : Launch} {D : va_G} {cy : Nat → ClassId} {ad : Nat → Nat} {N : Mem} {p : Program} {e : Env} {s : State} {m : MethodId} {args : Array Value} {below : List Frame} {meth : Method} {c : Code} (X : Cx p s m args meth c cX10_pilot 6 RX10 D cy ad (AA ad) (wfC N) sdC) (hr : meth.sig.returnType = (some .int)) (b3 : Int32) : ∀ (n : Nat) (x5 : Int32) (M : Mem), GF p l e (Rm 5) s m args below meth c 6 D cy ad (AA ad) 0 0 (wfC N) (QM D cy ad (wfC N) below args s) finS (fc_pilot_L51 b3 n x5 M) 51 [(0, .ref (ad 0)), (3, .int b3), (5, .int x5)] [] M := by
  intro n
  induction n with
  | zero => intro x5 M; exact g_none
  | succ n ih =>
    intro x5 M
    rw [fc_pilot_L51]
    refine g_iload X dX10_pilot_51 2 rfl ?_
    refine g_bipush X dX10_pilot_53 bi_9 ?_
    refine g_icmp_gt X 92 (by decide) dX10_pilot_55 (fun q55 => ?_) (fun q55 => ?_)
    · refine g_iconst X dX10_pilot_92 ic_m1 ?_
      exact g_iret X hr rfl dX10_pilot_93
    · refine g_aload_n X dX10_pilot_58 0 rfl rfl ?_
      refine get_10_6 X (k := 0) k_0 s_0 m_2_132 dX10_pilot_59 ?_
      refine g_aload_n X dX10_pilot_62 0 rfl rfl ?_
      refine get_10_2 X (k := 0) k_0 s_0 m_2_128 dX10_pilot_63 ?_
      refine g_iload X dX10_pilot_66 2 rfl ?_
      refine g_iconst X dX10_pilot_68 ic_m1 ?_
      refine g_cv X (st := []) (fun _ hh => ok_V X (k0 := 119) (As := [.ref (ad 20), .int x5, .int (-1)]) wkX8_sail (tTour_sail M x5 (-1) hh) rfl k_119 s_119 (by decide) rfl m_4_66 rfl (hRm (by decide) (by decide)) ⟨Nat.zero_le _, Nat.zero_le _⟩ (Nat.le_of_ble_eq_true rfl) dX10_pilot_69) (fun M3 _ => ?_)
      refine g_aload_n X dX10_pilot_72 0 rfl rfl ?_
      refine get_10_6 X (k := 0) k_0 s_0 m_2_132 dX10_pilot_73 ?_
      refine g_ci X (st := []) (fun _ hh => ok_V X (k0 := 119) (As := []) wkX8_end (tTour_end M3 hh) rfl k_119 s_119 (by decide) rfl m_4_79 rfl (hRm (by decide) (by decide)) ⟨Nat.zero_le _, Nat.zero_le _⟩ (Nat.le_of_ble_eq_true rfl) dX10_pilot_76) (fun r4 _ => ?_)
      refine g_iload_n X dX10_pilot_79 1 rfl rfl ?_
      refine g_icmp_gt X 86 (by decide) dX10_pilot_80 (fun q80 => ?_) (fun q80 => ?_)
      · refine g_iinc X (k := 2) (v := (x5 + 1)) dX10_pilot_86 rfl (ii_1 _) (by decide) rfl [1, 2, 0] (lu := [(0, .ref (ad 0)), (3, .int b3), (5, .int (x5 + 1))]) rfl ?_
        refine g_goto X 51 (by decide) dX10_pilot_89 ?_
        exact ih (x5 + 1) M3
      · refine g_iload X dX10_pilot_83 2 rfl ?_
        exact g_iret X hr rfl dX10_pilot_85
set_option maxRecDepth 100000 in
set_option maxHeartbeats 4000000 in
theorem tc_pilot {l : Launch} {D : va_G} {cy : Nat → ClassId} {ad : Nat → Nat} {N : Mem} (M : Mem) (a1 : Int32) (a2 : Int32) (a3 : Int32) {x : (Int32 × Mem)} (h : fc_pilot M a1 a2 a3 = some x) : Mt l D cy ad yX10_pilot cX10_pilot 6 (some .int) 5 [.ref (ad 0), .int a1, .int a2, .int a3] ((wfC N) M) (some (.int x.1), (wfC N) x.2) := by
  refine met_of (fin := finS) (lv0 := [(0, .ref (ad 0)), (1, .int a1), (2, .int a2), (3, .int a3)]) (by decide) (Nat.le_of_ble_eq_true rfl) rfl (lC N) h (fun p e s m args below meth c X hr => ?_)
  unfold fc_pilot
  refine g_iload_n X dX10_pilot_0 3 rfl rfl ?_
  refine g_iconst X dX10_pilot_1 ic_0 ?_
  refine g_sipush X dX10_pilot_2 si_999 ?_
  refine g_ct X (v0 := .int (fc_isWithinT M a3 0 999)) (st := []) (ok_S X (As := [.int a3, .int 0, .int 999]) wkX10_isWithin (tc_isWithinT M a3 0 999) rfl m_2_170 rfl (hRm (by decide) (by decide)) ⟨Nat.zero_le _, Nat.zero_le _⟩ (Nat.le_of_ble_eq_true rfl) dX10_pilot_5) ?_
  refine g_if_ne X 18 (by decide) dX10_pilot_8 (fun q8 => ?_) (fun q8 => ?_)
  · refine g_aload_n X dX10_pilot_18 0 rfl rfl ?_
    refine g_iload_n X dX10_pilot_19 1 rfl rfl ?_
    refine g_iload_n X dX10_pilot_20 2 rfl rfl ?_
    refine g_ci X (st := []) (fun _ hh => ok_V X (k0 := 0) (As := [.int a1, .int a2]) wkX10_roundTrouble (tc_roundTrouble M a1 a2 hh) rfl k_0 s_0 (by decide) rfl m_4_48 rfl (hRm (by decide) (by decide)) ⟨Nat.zero_le _, Nat.zero_le _⟩ (Nat.le_of_ble_eq_true rfl) dX10_pilot_21) (fun r1 _ => ?_)
    refine g_istore X dX10_pilot_24 (by decide) rfl [1, 2, 3, 4, 0] (lu := [(0, .ref (ad 0)), (1, .int a1), (2, .int a2), (3, .int a3), (4, .int r1)]) rfl ?_
    refine g_iload X dX10_pilot_26 4 rfl ?_
    refine g_if_eq X 38 (by decide) dX10_pilot_28 (fun q28 => ?_) (fun q28 => ?_)
    · refine g_aload_n X dX10_pilot_38 0 rfl rfl ?_
      refine g_aload_n X dX10_pilot_39 0 rfl rfl ?_
      refine get_10_6 X (k := 0) k_0 s_0 m_2_132 dX10_pilot_40 ?_
      refine g_iload_n X dX10_pilot_43 1 rfl rfl ?_
      refine g_iload_n X dX10_pilot_44 2 rfl rfl ?_
      refine g_cv X (st := []) (fun _ hh => ok_V X (k0 := 0) (As := [.ref (ad 119), .int a1, .int a2]) wkX10_readTour (tc_readTour M a1 a2 hh) rfl k_0 s_0 (by decide) rfl m_4_56 rfl (hRm (by decide) (by decide)) ⟨Nat.zero_le _, Nat.zero_le _⟩ (Nat.le_of_ble_eq_true rfl) dX10_pilot_45) (fun M2 _ => ?_)
      refine g_iconst X dX10_pilot_48 ic_1 ?_
      refine g_istore X dX10_pilot_49 (by decide) rfl [1, 4, 0] (lu := [(0, .ref (ad 0)), (3, .int a3), (5, .int 1)]) rfl ?_
      exact Lc_pilot_L51  X hr a3    FU 1 M2
    · refine g_aload_n X dX10_pilot_31 0 rfl rfl ?_
      refine g_iload X dX10_pilot_32 4 rfl ?_
      refine g_cs X (st := []) (fun _ hh => ok_V X (k0 := 0) (As := [.int r1]) wkX10_refuse (tc_refuse M r1 hh) rfl k_0 s_0 (by decide) rfl m_2_173 rfl (hRm (by decide) (by decide)) ⟨Nat.zero_le _, Nat.zero_le _⟩ (Nat.le_of_ble_eq_true rfl) dX10_pilot_34) (fun r6 M5 _ => ?_)
      exact g_iret X hr rfl dX10_pilot_37
  · refine g_aload_n X dX10_pilot_11 0 rfl rfl ?_
    refine g_bipush X dX10_pilot_12 bi_m2 ?_
    refine g_cs X (st := []) (fun _ hh => ok_V X (k0 := 0) (As := [.int (-2)]) wkX10_refuse (tc_refuse M (-2) hh) rfl k_0 s_0 (by decide) rfl m_2_173 rfl (hRm (by decide) (by decide)) ⟨Nat.zero_le _, Nat.zero_le _⟩ (Nat.le_of_ble_eq_true rfl) dX10_pilot_14) (fun r8 M7 _ => ?_)
    exact g_iret X hr rfl dX10_pilot_17
set_option maxRecDepth 100000 in
set_option maxHeartbeats 4000000 in
theorem LTour_hasTimeEverywhere_L2 {l : Launch} {D : va_G} {cy : Nat → ClassId} {ad : Nat → Nat} {N : Mem} {p : Program} {e : Env} {s : State} {m : MethodId} {args : Array Value} {below : List Frame} {meth : Method} {c : Code} (X : Cx p s m args meth c cX8_hasTimeEverywhere 4 RX8 D cy ad (AA ad) (wfC N) sdC) (hr : meth.sig.returnType = (some .boolean)) (M : Mem) (b2 : Int32) : ∀ (n : Nat) (x3 : Int32), GF p l e (Rm 3) s m args below meth c 4 D cy ad (AA ad) 0 0 (wfC N) (QM D cy ad (wfC N) below args s) (finI M) (fTour_hasTimeEverywhere_L2 M b2 n x3) 2 [(0, .ref (ad 119)), (1, .ref (ad 20)), (2, .int b2), (3, .int x3)] [] M := by
  intro n
  induction n with
  | zero => intro x3; exact g_none
  | succ n ih =>
    intro x3
    rw [fTour_hasTimeEverywhere_L2]
    refine g_iload_n X dX8_hasTimeEverywhere_2 3 rfl rfl ?_
    refine g_aload_n X dX8_hasTimeEverywhere_3 0 rfl rfl ?_
    refine get_8_2 X (k := 119) k_119 s_119 m_2_15 dX8_hasTimeEverywhere_4 ?_
    refine g_icmp_ge X 37 (by decide) dX8_hasTimeEverywhere_7 (fun q7 => ?_) (fun q7 => ?_)
    · refine g_iconst X dX8_hasTimeEverywhere_37 ic_1 ?_
      exact g_zret X hr (isB_n (by decide)) rfl dX8_hasTimeEverywhere_38
    · refine g_aload_n X dX8_hasTimeEverywhere_10 1 rfl rfl ?_
      refine g_aload_n X dX8_hasTimeEverywhere_11 1 rfl rfl ?_
      refine get_1_0 X (k := 20) k_20 s_20 m_1_175 dX8_hasTimeEverywhere_12 ?_
      refine g_aload_n X dX8_hasTimeEverywhere_15 0 rfl rfl ?_
      refine get_8_0 X (k := 119) k_119 s_119 m_2_10 dX8_hasTimeEverywhere_16 ?_
      refine g_iload_n X dX8_hasTimeEverywhere_19 3 rfl rfl ?_
      refine g_iald X (n := 20) (k := 120) k_120 s_120 dX8_hasTimeEverywhere_20 (fun h1 => ?_)
      refine g_aald24 X (k := 21) k_21 s_21 dX8_hasTimeEverywhere_21 (fun h2 => ?_)
      refine g_iload_n X dX8_hasTimeEverywhere_22 2 rfl rfl ?_
      refine g_ci X (st := []) (fun _ hh => ok_V X (k0 := 20) (As := [.ref (ad ((ix (M.1 120 (ix x3))) + 22)), .int b2]) wkX1_hasTime (tLake_hasTime M (ix (M.1 120 (ix x3))) b2 (inb_lt h2) hh) rfl k_20 s_20 (by decide) rfl m_4_170 rfl (hRm (by decide) (by decide)) ⟨Nat.zero_le _, Nat.zero_le _⟩ (Nat.le_of_ble_eq_true rfl) dX8_hasTimeEverywhere_23) (fun r3 _ => ?_)
      refine g_if_ne X 31 (by decide) dX8_hasTimeEverywhere_26 (fun q26 => ?_) (fun q26 => ?_)
      · refine g_iinc X (k := 3) (v := (x3 + 1)) dX8_hasTimeEverywhere_31 rfl (ii_1 _) (by decide) rfl [1, 2, 3, 0] (lu := [(0, .ref (ad 119)), (1, .ref (ad 20)), (2, .int b2), (3, .int (x3 + 1))]) rfl ?_
        refine g_goto X 2 (by decide) dX8_hasTimeEverywhere_34 ?_
        exact ih (x3 + 1)
      · refine g_iconst X dX8_hasTimeEverywhere_29 ic_0 ?_
        exact g_zret X hr (isB_n (by decide)) rfl dX8_hasTimeEverywhere_30
set_option maxRecDepth 100000 in
set_option maxHeartbeats 4000000 in
theorem tTour_hasTimeEverywhere {l : Launch} {D : va_G} {cy : Nat → ClassId} {ad : Nat → Nat} {N : Mem} (M : Mem) (a2 : Int32) {x : Int32} (h : fTour_hasTimeEverywhere M a2 = some x) : Mt l D cy ad yX8_hasTimeEverywhere cX8_hasTimeEverywhere 4 (some .boolean) 3 [.ref (ad 119), .ref (ad 20), .int a2] ((wfC N) M) (some (.int x), (wfC N) M) := by
  refine met_of (fin := (finI M)) (lv0 := [(0, .ref (ad 119)), (1, .ref (ad 20)), (2, .int a2)]) (by decide) (Nat.le_of_ble_eq_true rfl) rfl (lC N) h (fun p e s m args below meth c X hr => ?_)
  unfold fTour_hasTimeEverywhere
  refine g_iconst X dX8_hasTimeEverywhere_0 ic_0 ?_
  refine g_istore_n X dX8_hasTimeEverywhere_1 rfl (by decide) rfl [1, 2, 3, 0] (lu := [(0, .ref (ad 119)), (1, .ref (ad 20)), (2, .int a2), (3, .int 0)]) rfl ?_
  exact LTour_hasTimeEverywhere_L2  X hr M a2    FU 0
set_option maxRecDepth 100000 in
set_option maxHeartbeats 4000000 in
theorem Lc_still_L31 {l : Launch} {D : va_G} {cy : Nat → ClassId} {ad : Nat → Nat} {N : Mem} {p : Program} {e : Env} {s : State} {m : MethodId} {args : Array Value} {below : List Frame} {meth : Method} {c : Code} (X : Cx p s m args meth c cX10_still 5 RX10 D cy ad (AA ad) (wfC N) sdC) (hr : meth.sig.returnType = (some .int)) (M : Mem) : ∀ (n : Nat) (x4 : Int32), GF p l e (Rm 5) s m args below meth c 5 D cy ad (AA ad) 0 0 (wfC N) (QM D cy ad (wfC N) below args s) finS (fc_still_L31 M n x4) 31 [(0, .ref (ad 0)), (4, .int x4)] [] M := by
  intro n
  induction n with
  | zero => intro x4; exact g_none
  | succ n ih =>
    intro x4
    rw [fc_still_L31]
    refine g_iload X dX10_still_31 1 rfl ?_
    refine g_iconst X dX10_still_33 ic_1 ?_
    refine g_icmp_lt X 62 (by decide) dX10_still_34 (fun q34 => ?_) (fun q34 => ?_)
    · refine g_iconst X dX10_still_62 ic_m1 ?_
      exact g_iret X hr rfl dX10_still_63
    · refine g_aload_n X dX10_still_37 0 rfl rfl ?_
      refine get_10_6 X (k := 0) k_0 s_0 m_2_132 dX10_still_38 ?_
      refine g_aload_n X dX10_still_41 0 rfl rfl ?_
      refine get_10_2 X (k := 0) k_0 s_0 m_2_128 dX10_still_42 ?_
      refine g_iload X dX10_still_45 1 rfl ?_
      refine g_ci X (st := []) (fun _ hh => ok_V X (k0 := 119) (As := [.ref (ad 20), .int x4]) wkX8_hasTimeEverywhere (tTour_hasTimeEverywhere M x4 hh) rfl k_119 s_119 (by decide) rfl m_4_166 rfl (hRm (by decide) (by decide)) ⟨Nat.zero_le _, Nat.zero_le _⟩ (Nat.le_of_ble_eq_true rfl) dX10_still_47) (fun r3 _ => ?_)
      refine g_if_eq X 56 (by decide) dX10_still_50 (fun q50 => ?_) (fun q50 => ?_)
      · refine g_iinc X (k := 1) (v := (x4 + (-1))) dX10_still_56 rfl (ii_m1 _) (by decide) rfl [1, 0] (lu := [(0, .ref (ad 0)), (4, .int (x4 + (-1)))]) rfl ?_
        refine g_goto X 31 (by decide) dX10_still_59 ?_
        exact ih (x4 + (-1))
      · refine g_iload X dX10_still_53 1 rfl ?_
        exact g_iret X hr rfl dX10_still_55
set_option maxRecDepth 100000 in
set_option maxHeartbeats 4000000 in
theorem tc_still {l : Launch} {D : va_G} {cy : Nat → ClassId} {ad : Nat → Nat} {N : Mem} (M : Mem) (a1 : Int32) (a2 : Int32) {x : (Int32 × Mem)} (h : fc_still M a1 a2 = some x) : Mt l D cy ad yX10_still cX10_still 5 (some .int) 5 [.ref (ad 0), .int a1, .int a2] ((wfC N) M) (some (.int x.1), (wfC N) x.2) := by
  refine met_of (fin := finS) (lv0 := [(0, .ref (ad 0)), (1, .int a1), (2, .int a2)]) (by decide) (Nat.le_of_ble_eq_true rfl) rfl (lC N) h (fun p e s m args below meth c X hr => ?_)
  unfold fc_still
  refine g_aload_n X dX10_still_0 0 rfl rfl ?_
  refine g_iload_n X dX10_still_1 1 rfl rfl ?_
  refine g_iload_n X dX10_still_2 2 rfl rfl ?_
  refine g_ci X (st := []) (fun _ hh => ok_V X (k0 := 0) (As := [.int a1, .int a2]) wkX10_roundTrouble (tc_roundTrouble M a1 a2 hh) rfl k_0 s_0 (by decide) rfl m_4_48 rfl (hRm (by decide) (by decide)) ⟨Nat.zero_le _, Nat.zero_le _⟩ (Nat.le_of_ble_eq_true rfl) dX10_still_3) (fun r1 _ => ?_)
  refine g_istore_n X dX10_still_6 rfl (by decide) rfl [1, 2, 3, 0] (lu := [(0, .ref (ad 0)), (1, .int a1), (2, .int a2), (3, .int r1)]) rfl ?_
  refine g_iload_n X dX10_still_7 3 rfl rfl ?_
  refine g_if_eq X 17 (by decide) dX10_still_8 (fun q8 => ?_) (fun q8 => ?_)
  · refine g_aload_n X dX10_still_17 0 rfl rfl ?_
    refine g_aload_n X dX10_still_18 0 rfl rfl ?_
    refine get_10_6 X (k := 0) k_0 s_0 m_2_132 dX10_still_19 ?_
    refine g_iload_n X dX10_still_22 1 rfl rfl ?_
    refine g_iload_n X dX10_still_23 2 rfl rfl ?_
    refine g_cv X (st := []) (fun _ hh => ok_V X (k0 := 0) (As := [.ref (ad 119), .int a1, .int a2]) wkX10_readTour (tc_readTour M a1 a2 hh) rfl k_0 s_0 (by decide) rfl m_4_56 rfl (hRm (by decide) (by decide)) ⟨Nat.zero_le _, Nat.zero_le _⟩ (Nat.le_of_ble_eq_true rfl) dX10_still_24) (fun M2 _ => ?_)
    refine g_bipush X dX10_still_27 bi_9 ?_
    refine g_istore X dX10_still_29 (by decide) rfl [1, 0] (lu := [(0, .ref (ad 0)), (4, .int 9)]) rfl ?_
    exact Lc_still_L31  X hr M2    FU 9
  · refine g_aload_n X dX10_still_11 0 rfl rfl ?_
    refine g_iload_n X dX10_still_12 3 rfl rfl ?_
    refine g_cs X (st := []) (fun _ hh => ok_V X (k0 := 0) (As := [.int r1]) wkX10_refuse (tc_refuse M r1 hh) rfl k_0 s_0 (by decide) rfl m_2_173 rfl (hRm (by decide) (by decide)) ⟨Nat.zero_le _, Nat.zero_le _⟩ (Nat.le_of_ble_eq_true rfl) dX10_still_13) (fun r5 M4 _ => ?_)
    exact g_iret X hr rfl dX10_still_16
set_option maxRecDepth 100000 in
set_option maxHeartbeats 4000000 in
theorem LLake_firstWeekOut_L2 {l : Launch} {D : va_G} {cy : Nat → ClassId} {ad : Nat → Nat} {N : Mem} {p : Program} {e : Env} {s : State} {m : MethodId} {args : Array Value} {below : List Frame} {meth : Method} {c : Code} (X : Cx p s m args meth c cX1_firstWeekOut 4 RX1 D cy ad (AA ad) (wfC N) sdC) (hr : meth.sig.returnType = (some .int)) (M : Mem) (b1 : Int32) (b2 : Int32) : ∀ (n : Nat) (x3 : Int32), GF p l e (Rm 4) s m args below meth c 4 D cy ad (AA ad) 0 0 (wfC N) (QM D cy ad (wfC N) below args s) (finI M) (fLake_firstWeekOut_L2 M b1 b2 n x3) 2 [(0, .ref (ad 20)), (1, .int b1), (2, .int b2), (3, .int x3)] [] M := by
  intro n
  induction n with
  | zero => intro x3; exact g_none
  | succ n ih =>
    intro x3
    rw [fLake_firstWeekOut_L2]
    refine g_iload_n X dX1_firstWeekOut_2 3 rfl rfl ?_
    refine g_bipush X dX1_firstWeekOut_3 bi_20 ?_
    refine g_icmp_gt X 37 (by decide) dX1_firstWeekOut_5 (fun q5 => ?_) (fun q5 => ?_)
    · refine g_iconst X dX1_firstWeekOut_37 ic_m1 ?_
      exact g_iret X hr rfl dX1_firstWeekOut_38
    · refine g_aload_n X dX1_firstWeekOut_8 0 rfl rfl ?_
      refine g_aload_n X dX1_firstWeekOut_9 0 rfl rfl ?_
      refine get_1_0 X (k := 20) k_20 s_20 m_1_174 dX1_firstWeekOut_10 ?_
      refine g_iload_n X dX1_firstWeekOut_13 1 rfl rfl ?_
      refine g_aald24 X (k := 21) k_21 s_21 dX1_firstWeekOut_14 (fun h1 => ?_)
      refine g_aload_n X dX1_firstWeekOut_15 0 rfl rfl ?_
      refine get_1_11 X (k := 20) k_20 s_20 m_1_199 dX1_firstWeekOut_16 ?_
      refine g_iload_n X dX1_firstWeekOut_19 3 rfl rfl ?_
      refine g_iload_n X dX1_firstWeekOut_20 2 rfl rfl ?_
      refine g_imul X dX1_firstWeekOut_21 ?_
      refine g_isub X dX1_firstWeekOut_22 ?_
      refine g_ct X (v0 := .int (fLake_isOutT M (ix b1) ((M.1 20 12) - (x3 * b2)))) (st := []) (ok_V X (k0 := 20) (As := [.ref (ad ((ix b1) + 22)), .int ((M.1 20 12) - (x3 * b2))]) wkX1_isOut (tLake_isOutT M (ix b1) ((M.1 20 12) - (x3 * b2)) (inb_lt h1)) rfl k_20 s_20 (by decide) rfl m_4_23 rfl (hRm (by decide) (by decide)) ⟨Nat.zero_le _, Nat.zero_le _⟩ (Nat.le_of_ble_eq_true rfl) dX1_firstWeekOut_23) ?_
      refine g_if_eq X 31 (by decide) dX1_firstWeekOut_26 (fun q26 => ?_) (fun q26 => ?_)
      · refine g_iinc X (k := 3) (v := (x3 + 1)) dX1_firstWeekOut_31 rfl (ii_1 _) (by decide) rfl [1, 2, 3, 0] (lu := [(0, .ref (ad 20)), (1, .int b1), (2, .int b2), (3, .int (x3 + 1))]) rfl ?_
        refine g_goto X 2 (by decide) dX1_firstWeekOut_34 ?_
        exact ih (x3 + 1)
      · refine g_iload_n X dX1_firstWeekOut_29 3 rfl rfl ?_
        exact g_iret X hr rfl dX1_firstWeekOut_30
set_option maxRecDepth 100000 in
set_option maxHeartbeats 4000000 in
theorem tLake_firstWeekOut {l : Launch} {D : va_G} {cy : Nat → ClassId} {ad : Nat → Nat} {N : Mem} (M : Mem) (a1 : Int32) (a2 : Int32) {x : Int32} (h : fLake_firstWeekOut M a1 a2 = some x) : Mt l D cy ad yX1_firstWeekOut cX1_firstWeekOut 4 (some .int) 4 [.ref (ad 20), .int a1, .int a2] ((wfC N) M) (some (.int x), (wfC N) M) := by
  refine met_of (fin := (finI M)) (lv0 := [(0, .ref (ad 20)), (1, .int a1), (2, .int a2)]) (by decide) (Nat.le_of_ble_eq_true rfl) rfl (lC N) h (fun p e s m args below meth c X hr => ?_)
  unfold fLake_firstWeekOut
  refine g_iconst X dX1_firstWeekOut_0 ic_0 ?_
  refine g_istore_n X dX1_firstWeekOut_1 rfl (by decide) rfl [1, 2, 3, 0] (lu := [(0, .ref (ad 20)), (1, .int a1), (2, .int a2), (3, .int 0)]) rfl ?_
  exact LLake_firstWeekOut_L2  X hr M a1 a2    FU 0
set_option maxRecDepth 100000 in
set_option maxHeartbeats 4000000 in
theorem Lc_firstOut_L25 {l : Launch} {D : va_G} {cy : Nat → ClassId} {ad : Nat → Nat} {N : Mem} {p : Program} {e : Env} {s : State} {m : MethodId} {args : Array Value} {below : List Frame} {meth : Method} {c : Code} (X : Cx p s m args meth c cX10_firstOut 6 RX10 D cy ad (AA ad) (wfC N) sdC) (hr : meth.sig.returnType = (some .int)) (M : Mem) (b1 : Int32) : ∀ (n : Nat) (x2 : Int32) (x3 : Int32) (x4 : Int32), GF p l e (Rm 5) s m args below meth c 6 D cy ad (AA ad) 0 0 (wfC N) (QM D cy ad (wfC N) below args s) finS (fc_firstOut_L25 M b1 n x2 x3 x4) 25 [(0, .ref (ad 0)), (1, .int b1), (2, .int x2), (3, .int x3), (4, .int x4)] [] M := by
  intro n
  induction n with
  | zero => intro x2 x3 x4; exact g_none
  | succ n ih =>
    intro x2 x3 x4
    rw [fc_firstOut_L25]
    refine g_iload X dX10_firstOut_25 4 rfl ?_
    refine g_aload_n X dX10_firstOut_27 0 rfl rfl ?_
    refine get_10_2 X (k := 0) k_0 s_0 m_2_128 dX10_firstOut_28 ?_
    refine get_1_1 X (k := 20) k_20 s_20 m_1_179 dX10_firstOut_31 ?_
    refine g_icmp_ge X 73 (by decide) dX10_firstOut_34 (fun q34 => ?_) (fun q34 => ?_)
    · refine g_iload_n X dX10_firstOut_73 2 rfl rfl ?_
      exact g_iret X hr rfl dX10_firstOut_74
    · refine g_aload_n X dX10_firstOut_37 0 rfl rfl ?_
      refine get_10_2 X (k := 0) k_0 s_0 m_2_128 dX10_firstOut_38 ?_
      refine g_iload X dX10_firstOut_41 4 rfl ?_
      refine g_iload_n X dX10_firstOut_43 1 rfl rfl ?_
      refine g_ci X (st := []) (fun _ hh => ok_V X (k0 := 20) (As := [.int x4, .int b1]) wkX1_firstWeekOut (tLake_firstWeekOut M x4 b1 hh) rfl k_20 s_20 (by decide) rfl m_4_199 rfl (hRm (by decide) (by decide)) ⟨Nat.zero_le _, Nat.zero_le _⟩ (Nat.le_of_ble_eq_true rfl) dX10_firstOut_44) (fun r1 _ => ?_)
      refine g_istore X dX10_firstOut_47 (by decide) rfl [1, 2, 3, 4, 5, 0] (lu := [(0, .ref (ad 0)), (1, .int b1), (2, .int x2), (3, .int x3), (4, .int x4), (5, .int r1)]) rfl ?_
      refine g_iload X dX10_firstOut_49 5 rfl ?_
      refine g_iconst X dX10_firstOut_51 ic_m1 ?_
      refine g_jlet X 67 (fun z67 : Int32 × Int32 => [(0, .ref (ad 0)), (1, .int b1), (2, .int (z67.1)), (3, .int (z67.2)), (4, .int x4)]) (fun z67 : Int32 × Int32 => []) (fun z67 : Int32 × Int32 => M) (fun z67 => ?_) (fun J67 hJ67 => ?_)
      · show GF _ _ _ _ _ _ _ _ _ _ _ _ _ _ _ _ _ _ _ _ _ 67 [(0, .ref (ad 0)), (1, .int b1), (2, .int (z67.1)), (3, .int (z67.2)), (4, .int x4)] [] M
        refine g_iinc X (k := 4) (v := (x4 + 1)) dX10_firstOut_67 rfl (ii_1 _) (by decide) rfl [1, 2, 3, 4, 0] (lu := [(0, .ref (ad 0)), (1, .int b1), (2, .int (z67.1)), (3, .int (z67.2)), (4, .int (x4 + 1))]) rfl ?_
        refine g_goto X 25 (by decide) dX10_firstOut_70 ?_
        exact ih (z67.1) (z67.2) (x4 + 1)
      refine g_icmp_eq X 67 (by decide) dX10_firstOut_52 (fun q52 => ?_) (fun q52 => ?_)
      · refine g_sub (lu := [(0, .ref (ad 0)), (1, .int b1), (2, .int x2), (3, .int x3), (4, .int x4)]) [0, 1, 2, 3, 4] rfl ?_
        exact hJ67 (x2, x3)
      · refine g_iload X dX10_firstOut_55 5 rfl ?_
        refine g_iload_n X dX10_firstOut_57 3 rfl rfl ?_
        refine g_icmp_ge X 67 (by decide) dX10_firstOut_58 (fun q58 => ?_) (fun q58 => ?_)
        · refine g_sub (lu := [(0, .ref (ad 0)), (1, .int b1), (2, .int x2), (3, .int x3), (4, .int x4)]) [0, 1, 2, 3, 4] rfl ?_
          exact hJ67 (x2, x3)
        · refine g_iload X dX10_firstOut_61 5 rfl ?_
          refine g_istore_n X dX10_firstOut_63 rfl (by decide) rfl [1, 2, 0, 4] (lu := [(0, .ref (ad 0)), (1, .int b1), (3, .int r1), (4, .int x4)]) rfl ?_
          refine g_iload X dX10_firstOut_64 3 rfl ?_
          refine g_istore_n X dX10_firstOut_66 rfl (by decide) rfl [1, 2, 0, 3, 4] (lu := [(0, .ref (ad 0)), (1, .int b1), (2, .int x4), (3, .int r1), (4, .int x4)]) rfl ?_
          exact hJ67 (x4, r1)
set_option maxRecDepth 100000 in
set_option maxHeartbeats 4000000 in
theorem tc_firstOut {l : Launch} {D : va_G} {cy : Nat → ClassId} {ad : Nat → Nat} {N : Mem} (M : Mem) (a1 : Int32) {x : (Int32 × Mem)} (h : fc_firstOut M a1 = some x) : Mt l D cy ad yX10_firstOut cX10_firstOut 6 (some .int) 5 [.ref (ad 0), .int a1] ((wfC N) M) (some (.int x.1), (wfC N) x.2) := by
  refine met_of (fin := finS) (lv0 := [(0, .ref (ad 0)), (1, .int a1)]) (by decide) (Nat.le_of_ble_eq_true rfl) rfl (lC N) h (fun p e s m args below meth c X hr => ?_)
  unfold fc_firstOut
  refine g_iload_n X dX10_firstOut_0 1 rfl rfl ?_
  refine g_iconst X dX10_firstOut_1 ic_1 ?_
  refine g_bipush X dX10_firstOut_2 bi_20 ?_
  refine g_ct X (v0 := .int (fc_isWithinT M a1 1 20)) (st := []) (ok_S X (As := [.int a1, .int 1, .int 20]) wkX10_isWithin (tc_isWithinT M a1 1 20) rfl m_2_170 rfl (hRm (by decide) (by decide)) ⟨Nat.zero_le _, Nat.zero_le _⟩ (Nat.le_of_ble_eq_true rfl) dX10_firstOut_4) ?_
  refine g_if_ne X 17 (by decide) dX10_firstOut_7 (fun q7 => ?_) (fun q7 => ?_)
  · refine g_iconst X dX10_firstOut_17 ic_m1 ?_
    refine g_istore_n X dX10_firstOut_18 rfl (by decide) rfl [1, 2, 0] (lu := [(0, .ref (ad 0)), (1, .int a1), (2, .int (-1))]) rfl ?_
    refine g_bipush X dX10_firstOut_19 bi_21 ?_
    refine g_istore_n X dX10_firstOut_21 rfl (by decide) rfl [1, 2, 3, 0] (lu := [(0, .ref (ad 0)), (1, .int a1), (2, .int (-1)), (3, .int 21)]) rfl ?_
    refine g_iconst X dX10_firstOut_22 ic_0 ?_
    refine g_istore X dX10_firstOut_23 (by decide) rfl [1, 2, 3, 4, 0] (lu := [(0, .ref (ad 0)), (1, .int a1), (2, .int (-1)), (3, .int 21), (4, .int 0)]) rfl ?_
    exact Lc_firstOut_L25  X hr M a1    FU (-1) 21 0
  · refine g_aload_n X dX10_firstOut_10 0 rfl rfl ?_
    refine g_bipush X dX10_firstOut_11 bi_m2 ?_
    refine g_cs X (st := []) (fun _ hh => ok_V X (k0 := 0) (As := [.int (-2)]) wkX10_refuse (tc_refuse M (-2) hh) rfl k_0 s_0 (by decide) rfl m_2_173 rfl (hRm (by decide) (by decide)) ⟨Nat.zero_le _, Nat.zero_le _⟩ (Nat.le_of_ble_eq_true rfl) dX10_firstOut_13) (fun r3 M2 _ => ?_)
    exact g_iret X hr rfl dX10_firstOut_16
