set_option maxRecDepth 100000 in
set_option maxHeartbeats 4000000 in
theorem tm_wind {l : Launch} {D : va_G} {cy : Nat → ClassId} {ad : Nat → Nat} {N : Mem} (M : Mem) (a1 : Int32) (a2 : Int32) {x : (Int32 × Mem)} (h : fm_wind M a1 a2 = some x) : Mt l D cy ad yX11_wind cX11_wind 4 (some .int) 2 [.ref (ad 138), .int a1, .int a2] ((wfM N) M) (some (.int x.1), (wfM N) x.2) := by
  refine met_of (fin := finS) (lv0 := [(0, .ref (ad 138)), (1, .int a1), (2, .int a2)]) (by decide) (Nat.le_of_ble_eq_true rfl) rfl (lM N) h (fun p e s m args below meth c X hr => ?_)
  unfold fm_wind
  refine g_aload_n X dX11_wind_0 0 rfl rfl ?_
  refine g_iload_n X dX11_wind_1 1 rfl rfl ?_
  refine g_ct X (v0 := .int (fm_isHourT M a1)) (st := []) (ok_V X (k0 := 138) (As := [.int a1]) wkX11_isHour (tm_isHourT M a1) rfl k_138 s_138 (by decide) rfl m_6_22 rfl (hRm (by decide) (by decide)) ⟨Nat.zero_le _, Nat.zero_le _⟩ (Nat.le_of_ble_eq_true rfl) dX11_wind_2) ?_
  refine g_if_eq X 18 (by decide) dX11_wind_5 (fun q5 => ?_) (fun q5 => ?_)
  · refine g_aload_n X dX11_wind_18 0 rfl rfl ?_
    refine g_bipush X dX11_wind_19 bi_m2 ?_
    refine g_cs X (st := []) (fun _ hh => ok_V X (k0 := 138) (As := [.int (-2)]) wkX11_no (tm_no M (-2) hh) rfl k_138 s_138 (by decide) rfl m_5_150 rfl (hRm (by decide) (by decide)) ⟨Nat.zero_le _, Nat.zero_le _⟩ (Nat.le_of_ble_eq_true rfl) dX11_wind_21) (fun r2 M1 _ => ?_)
    exact g_iret X hr rfl dX11_wind_24
  · refine g_iload_n X dX11_wind_8 2 rfl rfl ?_
    refine g_if_lt X 18 (by decide) dX11_wind_9 (fun q9 => ?_) (fun q9 => ?_)
    · refine g_aload_n X dX11_wind_18 0 rfl rfl ?_
      refine g_bipush X dX11_wind_19 bi_m2 ?_
      refine g_cs X (st := []) (fun _ hh => ok_V X (k0 := 138) (As := [.int (-2)]) wkX11_no (tm_no M (-2) hh) rfl k_138 s_138 (by decide) rfl m_5_150 rfl (hRm (by decide) (by decide)) ⟨Nat.zero_le _, Nat.zero_le _⟩ (Nat.le_of_ble_eq_true rfl) dX11_wind_21) (fun r4 M3 _ => ?_)
      exact g_iret X hr rfl dX11_wind_24
    · refine g_iload_n X dX11_wind_12 2 rfl rfl ?_
      refine g_bipush X dX11_wind_13 bi_9 ?_
      refine g_icmp_le X 25 (by decide) dX11_wind_15 (fun q15 => ?_) (fun q15 => ?_)
      · refine g_aload_n X dX11_wind_25 0 rfl rfl ?_
        refine get_11_17 X (k := 138) k_138 s_138 m_5_74 dX11_wind_26 ?_
        refine g_iload_n X dX11_wind_29 1 rfl rfl ?_
        refine g_iald X (n := 12) (k := 155) k_155 s_155 dX11_wind_30 (fun h5 => ?_)
        refine g_ilet X (fun v6 => ?_)
        refine g_istore_n X dX11_wind_31 rfl (by decide) rfl [1, 2, 3, 0] (lu := [(0, .ref (ad 138)), (1, .int a1), (2, .int a2), (3, .int v6)]) rfl ?_
        refine g_aload_n X dX11_wind_32 0 rfl rfl ?_
        refine get_11_17 X (k := 138) k_138 s_138 m_5_74 dX11_wind_33 ?_
        refine g_iload_n X dX11_wind_36 1 rfl rfl ?_
        refine g_iload_n X dX11_wind_37 2 rfl rfl ?_
        refine g_iast X (n := 12) (k := 155) k_155 s_155 dX11_wind_38 (fun h7 => ?_)
        refine g_mlet X (fun M8 => ?_)
        refine g_iload_n X dX11_wind_39 3 rfl rfl ?_
        exact g_iret X hr rfl dX11_wind_40
      · refine g_aload_n X dX11_wind_18 0 rfl rfl ?_
        refine g_bipush X dX11_wind_19 bi_m2 ?_
        refine g_cs X (st := []) (fun _ hh => ok_V X (k0 := 138) (As := [.int (-2)]) wkX11_no (tm_no M (-2) hh) rfl k_138 s_138 (by decide) rfl m_5_150 rfl (hRm (by decide) (by decide)) ⟨Nat.zero_le _, Nat.zero_le _⟩ (Nat.le_of_ble_eq_true rfl) dX11_wind_21) (fun r10 M9 _ => ?_)
        exact g_iret X hr rfl dX11_wind_24
set_option maxRecDepth 100000 in
set_option maxHeartbeats 4000000 in
theorem Lm_winds_L18 {l : Launch} {D : va_G} {cy : Nat → ClassId} {ad : Nat → Nat} {N : Mem} {p : Program} {e : Env} {s : State} {m : MethodId} {args : Array Value} {below : List Frame} {meth : Method} {c : Code} (X : Cx p s m args meth c cX11_winds 6 RX11 D cy ad (AA ad) (wfM N) sdM) (hr : meth.sig.returnType = (some .int)) (b1 : Int32) (kx63 : Int32 → Mem → Option (Int32 × Mem)) (hkx63 : ∀ (y3 : Int32) (M : Mem), GF p l e (Rm 3) s m args below meth c 6 D cy ad (AA ad) 0 0 (wfM N) (QM D cy ad (wfM N) below args s) finS (kx63 y3 M) 63 [(3, .int y3)] [] M) : ∀ (n : Nat) (x3 : Int32) (M : Mem), GF p l e (Rm 3) s m args below meth c 6 D cy ad (AA ad) 0 0 (wfM N) (QM D cy ad (wfM N) below args s) finS (fm_winds_L18 b1 kx63 n x3 M) 18 [(0, .ref (ad 138)), (1, .int b1), (3, .int x3)] [] M := by
  intro n
  induction n with
  | zero => intro x3 M; exact g_none
  | succ n ih =>
    intro x3 M
    rw [fm_winds_L18]
    refine g_iload_n X dX11_winds_18 2 rfl rfl ?_
    refine g_bipush X dX11_winds_19 bi_12 ?_
    refine g_icmp_ge X 81 (by decide) dX11_winds_21 (fun q21 => ?_) (fun q21 => ?_)
    · refine g_iload_n X dX11_winds_81 2 rfl rfl ?_
      exact g_iret X hr rfl dX11_winds_82
    · refine g_iload_n X dX11_winds_24 2 rfl rfl ?_
      refine g_aload_n X dX11_winds_25 0 rfl rfl ?_
      refine get_11_1 X (k := 138) k_138 s_138 m_5_58 dX11_winds_26 ?_
      refine g_iload_n X dX11_winds_29 1 rfl rfl ?_
      refine g_iald X (n := 8) (k := 140) k_140 s_140 dX11_winds_30 (fun h2 => ?_)
      refine g_icmp_ge X 81 (by decide) dX11_winds_31 (fun q31 => ?_) (fun q31 => ?_)
      · refine g_iload_n X dX11_winds_81 2 rfl rfl ?_
        exact g_iret X hr rfl dX11_winds_82
      · refine g_aload_n X dX11_winds_34 0 rfl rfl ?_
        refine get_11_2 X (k := 138) k_138 s_138 m_5_59 dX11_winds_35 ?_
        refine g_bipush X dX11_winds_38 bi_40 ?_
        refine g_iload_n X dX11_winds_40 1 rfl rfl ?_
        refine g_imul X dX11_winds_41 ?_
        refine g_iload_n X dX11_winds_42 2 rfl rfl ?_
        refine g_iadd X dX11_winds_43 ?_
        refine g_lald23 X (k := 141) k_141 s_141 dX11_winds_44 (fun h3 => ?_)
        refine g_llet X (fun v4 => ?_)
        refine g_lstore X dX11_winds_45 (by decide) rfl [1, 2, 3, 0] (lu := [(0, .ref (ad 138)), (1, .int b1), (3, .int x3), (4, .long v4)]) rfl ?_
        refine g_lload X dX11_winds_47 3 rfl ?_
        refine g_lconst X (v := 0) dX11_winds_49 (by decide) ?_
        refine g_lcmp X dX11_winds_50 ?_
        refine g_if_lt X 81 (by decide) dX11_winds_51 (fun q51 => ?_) (fun q51 => ?_)
        · refine g_iload_n X dX11_winds_81 2 rfl rfl ?_
          exact g_iret X hr rfl dX11_winds_82
        · refine g_lload X dX11_winds_54 3 rfl ?_
          refine g_ldc2 X dX11_winds_56 m_6_30 ?_
          refine g_lcmp X dX11_winds_59 ?_
          refine g_if_le X 66 (by decide) dX11_winds_60 (fun q60 => ?_) (fun q60 => ?_)
          · refine g_aload_n X dX11_winds_66 0 rfl rfl ?_
            refine get_11_17 X (k := 138) k_138 s_138 m_5_74 dX11_winds_67 ?_
            refine g_iload_n X dX11_winds_70 2 rfl rfl ?_
            refine g_iinc X (k := 2) (v := (x3 + 1)) dX11_winds_71 rfl (ii_1 _) (by decide) rfl [1, 2, 0, 3] (lu := [(0, .ref (ad 138)), (1, .int b1), (3, .int (x3 + 1)), (4, .long v4)]) rfl ?_
            refine g_lload X dX11_winds_74 3 rfl ?_
            refine g_l2i X dX11_winds_76 ?_
            refine g_iast X (n := 12) (k := 155) k_155 s_155 dX11_winds_77 (fun h5 => ?_)
            refine g_mlet X (fun M6 => ?_)
            refine g_goto X 18 (by decide) dX11_winds_78 ?_
            refine g_sub (lu := [(0, .ref (ad 138)), (1, .int b1), (3, .int (x3 + 1))]) [0, 1, 2] rfl ?_
            exact ih (x3 + 1) M6
          · refine g_sub (lu := [(3, .int x3)]) [2] rfl ?_
            exact hkx63 x3 M
set_option maxRecDepth 100000 in
set_option maxHeartbeats 4000000 in
theorem tm_winds {l : Launch} {D : va_G} {cy : Nat → ClassId} {ad : Nat → Nat} {N : Mem} (M : Mem) (a1 : Int32) {x : (Int32 × Mem)} (h : fm_winds M a1 = some x) : Mt l D cy ad yX11_winds cX11_winds 6 (some .int) 3 [.ref (ad 138), .int a1] ((wfM N) M) (some (.int x.1), (wfM N) x.2) := by
  refine met_of (fin := finS) (lv0 := [(0, .ref (ad 138)), (1, .int a1)]) (by decide) (Nat.le_of_ble_eq_true rfl) rfl (lM N) h (fun p e s m args below meth c X hr => ?_)
  unfold fm_winds
  refine g_aload_n X dX11_winds_0 0 rfl rfl ?_
  refine g_iload_n X dX11_winds_1 1 rfl rfl ?_
  refine g_ci X (st := []) (fun _ hh => ok_V X (k0 := 138) (As := [.int a1]) wkX11_noRow (tm_noRow M a1 hh) rfl k_138 s_138 (by decide) rfl m_5_158 rfl (hRm (by decide) (by decide)) ⟨Nat.zero_le _, Nat.zero_le _⟩ (Nat.le_of_ble_eq_true rfl) dX11_winds_2) (fun r1 _ => ?_)
  refine g_istore_n X dX11_winds_5 rfl (by decide) rfl [1, 2, 0] (lu := [(0, .ref (ad 138)), (1, .int a1), (2, .int r1)]) rfl ?_
  refine g_iload_n X dX11_winds_6 2 rfl rfl ?_
  refine g_if_ge X 16 (by decide) dX11_winds_7 (fun q7 => ?_) (fun q7 => ?_)
  · refine g_iconst X dX11_winds_16 ic_0 ?_
    refine g_istore_n X dX11_winds_17 rfl (by decide) rfl [1, 2, 0] (lu := [(0, .ref (ad 138)), (1, .int a1), (3, .int 0)]) rfl ?_
    refine Lm_winds_L18  X hr a1  _ (fun w7 M8 => ?_) FU 0 M
    · refine g_goto X 81 (by decide) dX11_winds_63 ?_
      refine g_iload_n X dX11_winds_81 0 rfl rfl ?_
      exact g_iret X hr rfl dX11_winds_82
  · refine g_aload_n X dX11_winds_10 0 rfl rfl ?_
    refine g_iload_n X dX11_winds_11 2 rfl rfl ?_
    refine g_cs X (st := []) (fun _ hh => ok_V X (k0 := 138) (As := [.int r1]) wkX11_no (tm_no M r1 hh) rfl k_138 s_138 (by decide) rfl m_5_150 rfl (hRm (by decide) (by decide)) ⟨Nat.zero_le _, Nat.zero_le _⟩ (Nat.le_of_ble_eq_true rfl) dX11_winds_12) (fun r10 M9 _ => ?_)
    exact g_iret X hr rfl dX11_winds_15
set_option maxRecDepth 100000 in
set_option maxHeartbeats 4000000 in
theorem Lm_feed_L40 {l : Launch} {D : va_G} {cy : Nat → ClassId} {ad : Nat → Nat} {N : Mem} {p : Program} {e : Env} {s : State} {m : MethodId} {args : Array Value} {below : List Frame} {meth : Method} {c : Code} (X : Cx p s m args meth c cX11_feed 4 RX11 D cy ad (AA ad) (wfM N) sdM) (hr : meth.sig.returnType = (some .int)) (b1 : Int32) (kx76 : Mem → Option (Int32 × Mem)) (hkx76 : ∀ (M : Mem), GF p l e (Rm 2) s m args below meth c 4 D cy ad (AA ad) 0 0 (wfM N) (QM D cy ad (wfM N) below args s) finS (kx76 M) 76 [(0, .ref (ad 138))] [] M) : ∀ (n : Nat) (x3 : Int32) (M : Mem), GF p l e (Rm 2) s m args below meth c 4 D cy ad (AA ad) 0 0 (wfM N) (QM D cy ad (wfM N) below args s) finS (fm_feed_L40 b1 kx76 n x3 M) 40 [(0, .ref (ad 138)), (1, .int b1), (3, .int x3)] [] M := by
  intro n
  induction n with
  | zero => intro x3 M; exact g_none
  | succ n ih =>
    intro x3 M
    rw [fm_feed_L40]
    refine g_iload_n X dX11_feed_40 2 rfl rfl ?_
    refine g_if_lt X 76 (by decide) dX11_feed_41 (fun q41 => ?_) (fun q41 => ?_)
    · refine g_sub (lu := [(0, .ref (ad 138))]) [0] rfl ?_
      exact hkx76 M
    · refine g_aload_n X dX11_feed_44 0 rfl rfl ?_
      refine get_11_9 X (k := 138) k_138 s_138 m_5_66 dX11_feed_45 ?_
      refine g_aload_n X dX11_feed_48 0 rfl rfl ?_
      refine g_dup X dX11_feed_49 rfl ?_
      refine get_11_8 X (k := 138) k_138 s_138 m_5_65 dX11_feed_50 ?_
      refine g_dup_x1 X dX11_feed_53 rfl rfl ?_
      refine g_iconst X dX11_feed_54 ic_1 ?_
      refine g_iadd X dX11_feed_55 ?_
      refine put_11_8 X (k := 138) k_138 s_138 m_5_65 dX11_feed_56 ?_
      refine g_mlet X (fun M4 => ?_)
      refine g_iload_n X dX11_feed_59 1 rfl rfl ?_
      refine g_bipush X dX11_feed_60 bi_8 ?_
      refine g_iload_n X dX11_feed_62 2 rfl rfl ?_
      refine g_imul X dX11_feed_63 ?_
      refine g_ishr X dX11_feed_64 ?_
      refine g_sipush X dX11_feed_65 si_255 ?_
      refine g_iand X dX11_feed_68 ?_
      refine g_iast X (n := 160) (k := 147) k_147 s_147 dX11_feed_69 (fun h5 => ?_)
      refine g_mlet X (fun M6 => ?_)
      refine g_iinc X (k := 2) (v := (x3 + (-1))) dX11_feed_70 rfl (ii_m1 _) (by decide) rfl [1, 2, 0] (lu := [(0, .ref (ad 138)), (1, .int b1), (3, .int (x3 + (-1)))]) rfl ?_
      refine g_goto X 40 (by decide) dX11_feed_73 ?_
      exact ih (x3 + (-1)) M6
set_option maxRecDepth 100000 in
set_option maxHeartbeats 4000000 in
theorem tm_feed {l : Launch} {D : va_G} {cy : Nat → ClassId} {ad : Nat → Nat} {N : Mem} (M : Mem) (a1 : Int32) (a2 : Int32) {x : (Int32 × Mem)} (h : fm_feed M a1 a2 = some x) : Mt l D cy ad yX11_feed cX11_feed 4 (some .int) 2 [.ref (ad 138), .int a1, .int a2] ((wfM N) M) (some (.int x.1), (wfM N) x.2) := by
  refine met_of (fin := finS) (lv0 := [(0, .ref (ad 138)), (1, .int a1), (2, .int a2)]) (by decide) (Nat.le_of_ble_eq_true rfl) rfl (lM N) h (fun p e s m args below meth c X hr => ?_)
  unfold fm_feed
  refine g_iload_n X dX11_feed_0 2 rfl rfl ?_
  refine g_iconst X dX11_feed_1 ic_1 ?_
  refine g_icmp_lt X 10 (by decide) dX11_feed_2 (fun q2 => ?_) (fun q2 => ?_)
  · refine g_aload_n X dX11_feed_10 0 rfl rfl ?_
    refine g_bipush X dX11_feed_11 bi_m2 ?_
    refine g_cs X (st := []) (fun _ hh => ok_V X (k0 := 138) (As := [.int (-2)]) wkX11_no (tm_no M (-2) hh) rfl k_138 s_138 (by decide) rfl m_5_150 rfl (hRm (by decide) (by decide)) ⟨Nat.zero_le _, Nat.zero_le _⟩ (Nat.le_of_ble_eq_true rfl) dX11_feed_13) (fun r2 M1 _ => ?_)
    exact g_iret X hr rfl dX11_feed_16
  · refine g_iload_n X dX11_feed_5 2 rfl rfl ?_
    refine g_iconst X dX11_feed_6 ic_4 ?_
    refine g_icmp_le X 17 (by decide) dX11_feed_7 (fun q7 => ?_) (fun q7 => ?_)
    · refine g_aload_n X dX11_feed_17 0 rfl rfl ?_
      refine get_11_8 X (k := 138) k_138 s_138 m_5_65 dX11_feed_18 ?_
      refine g_iload_n X dX11_feed_21 2 rfl rfl ?_
      refine g_iadd X dX11_feed_22 ?_
      refine g_sipush X dX11_feed_23 si_160 ?_
      refine g_icmp_le X 36 (by decide) dX11_feed_26 (fun q26 => ?_) (fun q26 => ?_)
      · refine g_iload_n X dX11_feed_36 2 rfl rfl ?_
        refine g_iconst X dX11_feed_37 ic_1 ?_
        refine g_isub X dX11_feed_38 ?_
        refine g_ilet X (fun v3 => ?_)
        refine g_istore_n X dX11_feed_39 rfl (by decide) rfl [1, 2, 0] (lu := [(0, .ref (ad 138)), (1, .int a1), (3, .int v3)]) rfl ?_
        refine Lm_feed_L40  X hr a1  _ (fun M7 => ?_) FU v3 M
        · refine g_aload_n X dX11_feed_76 0 rfl rfl ?_
          refine get_11_8 X (k := 138) k_138 s_138 m_5_65 dX11_feed_77 ?_
          exact g_iret X hr rfl dX11_feed_80
      · refine g_aload_n X dX11_feed_29 0 rfl rfl ?_
        refine g_bipush X dX11_feed_30 bi_m6 ?_
        refine g_cs X (st := []) (fun _ hh => ok_V X (k0 := 138) (As := [.int (-6)]) wkX11_no (tm_no M (-6) hh) rfl k_138 s_138 (by decide) rfl m_5_150 rfl (hRm (by decide) (by decide)) ⟨Nat.zero_le _, Nat.zero_le _⟩ (Nat.le_of_ble_eq_true rfl) dX11_feed_32) (fun r9 M8 _ => ?_)
        exact g_iret X hr rfl dX11_feed_35
    · refine g_aload_n X dX11_feed_10 0 rfl rfl ?_
      refine g_bipush X dX11_feed_11 bi_m2 ?_
      refine g_cs X (st := []) (fun _ hh => ok_V X (k0 := 138) (As := [.int (-2)]) wkX11_no (tm_no M (-2) hh) rfl k_138 s_138 (by decide) rfl m_5_150 rfl (hRm (by decide) (by decide)) ⟨Nat.zero_le _, Nat.zero_le _⟩ (Nat.le_of_ble_eq_true rfl) dX11_feed_13) (fun r11 M10 _ => ?_)
      exact g_iret X hr rfl dX11_feed_16
set_option maxRecDepth 100000 in
set_option maxHeartbeats 4000000 in
theorem tm_wipe {l : Launch} {D : va_G} {cy : Nat → ClassId} {ad : Nat → Nat} {N : Mem} (M : Mem) {x : (Int32 × Mem)} (h : fm_wipe M = some x) : Mt l D cy ad yX11_wipe cX11_wipe 2 (some .int) 1 [.ref (ad 138)] ((wfM N) M) (some (.int x.1), (wfM N) x.2) := by
  refine met_of (fin := finS) (lv0 := [(0, .ref (ad 138))]) (by decide) (Nat.le_of_ble_eq_true rfl) rfl (lM N) h (fun p e s m args below meth c X hr => ?_)
  unfold fm_wipe
  refine g_aload_n X dX11_wipe_0 0 rfl rfl ?_
  refine get_11_8 X (k := 138) k_138 s_138 m_5_65 dX11_wipe_1 ?_
  refine g_ilet X (fun v1 => ?_)
  refine g_istore_n X dX11_wipe_4 rfl (by decide) rfl [1, 0] (lu := [(0, .ref (ad 138)), (1, .int v1)]) rfl ?_
  refine g_aload_n X dX11_wipe_5 0 rfl rfl ?_
  refine g_iconst X dX11_wipe_6 ic_0 ?_
  refine put_11_8 X (k := 138) k_138 s_138 m_5_65 dX11_wipe_7 ?_
  refine g_mlet X (fun M2 => ?_)
  refine g_iload_n X dX11_wipe_10 1 rfl rfl ?_
  exact g_iret X hr rfl dX11_wipe_11
set_option maxRecDepth 100000 in
set_option maxHeartbeats 4000000 in
theorem tm_mayBe {l : Launch} {D : va_G} {cy : Nat → ClassId} {ad : Nat → Nat} {N : Mem} (M : Mem) (a1 : Int32) (a2 : Int32) {x : Int32} (h : fm_mayBe M a1 a2 = some x) : Mt l D cy ad yX11_mayBe cX11_mayBe 3 (some .boolean) 1 [.ref (ad 138), .int a1, .int a2] ((wfM N) M) (some (.int x), (wfM N) M) := by
  refine met_of (fin := (finI M)) (lv0 := [(0, .ref (ad 138)), (1, .int a1), (2, .int a2)]) (by decide) (Nat.le_of_ble_eq_true rfl) rfl (lM N) h (fun p e s m args below meth c X hr => ?_)
  unfold fm_mayBe
  refine g_iload_n X dX11_mayBe_0 1 rfl rfl ?_
  refine g_if_ne X 15 (by decide) dX11_mayBe_1 (fun q1 => ?_) (fun q1 => ?_)
  · refine g_iload_n X dX11_mayBe_15 1 rfl rfl ?_
    refine g_iconst X dX11_mayBe_16 ic_1 ?_
    refine g_icmp_eq X 31 (by decide) dX11_mayBe_17 (fun q17 => ?_) (fun q17 => ?_)
    · refine g_iload_n X dX11_mayBe_31 2 rfl rfl ?_
      refine g_iconst X dX11_mayBe_32 ic_1 ?_
      refine g_icmp_lt X 46 (by decide) dX11_mayBe_33 (fun q33 => ?_) (fun q33 => ?_)
      · refine g_iconst X dX11_mayBe_46 ic_0 ?_
        exact g_zret X hr (isB_n (by decide)) rfl dX11_mayBe_47
      · refine g_iload_n X dX11_mayBe_36 2 rfl rfl ?_
        refine g_bipush X dX11_mayBe_37 bi_9 ?_
        refine g_icmp_gt X 46 (by decide) dX11_mayBe_39 (fun q39 => ?_) (fun q39 => ?_)
        · refine g_iconst X dX11_mayBe_46 ic_0 ?_
          exact g_zret X hr (isB_n (by decide)) rfl dX11_mayBe_47
        · refine g_iconst X dX11_mayBe_42 ic_1 ?_
          refine g_goto X 47 (by decide) dX11_mayBe_43 ?_
          exact g_zret X hr (isB_n (by decide)) rfl dX11_mayBe_47
    · refine g_iload_n X dX11_mayBe_20 1 rfl rfl ?_
      refine g_iconst X dX11_mayBe_21 ic_2 ?_
      refine g_icmp_eq X 31 (by decide) dX11_mayBe_22 (fun q22 => ?_) (fun q22 => ?_)
      · refine g_iload_n X dX11_mayBe_31 2 rfl rfl ?_
        refine g_iconst X dX11_mayBe_32 ic_1 ?_
        refine g_icmp_lt X 46 (by decide) dX11_mayBe_33 (fun q33 => ?_) (fun q33 => ?_)
        · refine g_iconst X dX11_mayBe_46 ic_0 ?_
          exact g_zret X hr (isB_n (by decide)) rfl dX11_mayBe_47
        · refine g_iload_n X dX11_mayBe_36 2 rfl rfl ?_
          refine g_bipush X dX11_mayBe_37 bi_9 ?_
          refine g_icmp_gt X 46 (by decide) dX11_mayBe_39 (fun q39 => ?_) (fun q39 => ?_)
          · refine g_iconst X dX11_mayBe_46 ic_0 ?_
            exact g_zret X hr (isB_n (by decide)) rfl dX11_mayBe_47
          · refine g_iconst X dX11_mayBe_42 ic_1 ?_
            refine g_goto X 47 (by decide) dX11_mayBe_43 ?_
            exact g_zret X hr (isB_n (by decide)) rfl dX11_mayBe_47
      · refine g_iload_n X dX11_mayBe_25 1 rfl rfl ?_
        refine g_bipush X dX11_mayBe_26 bi_8 ?_
        refine g_icmp_ne X 48 (by decide) dX11_mayBe_28 (fun q28 => ?_) (fun q28 => ?_)
        · refine g_iload_n X dX11_mayBe_48 1 rfl rfl ?_
          refine g_iconst X dX11_mayBe_49 ic_4 ?_
          refine g_icmp_eq X 59 (by decide) dX11_mayBe_50 (fun q50 => ?_) (fun q50 => ?_)
          · refine g_iload_n X dX11_mayBe_59 2 rfl rfl ?_
            refine g_bipush X dX11_mayBe_60 bi_9 ?_
            refine g_icmp_gt X 69 (by decide) dX11_mayBe_62 (fun q62 => ?_) (fun q62 => ?_)
            · refine g_iconst X dX11_mayBe_69 ic_0 ?_
              exact g_zret X hr (isB_n (by decide)) rfl dX11_mayBe_70
            · refine g_iconst X dX11_mayBe_65 ic_1 ?_
              refine g_goto X 70 (by decide) dX11_mayBe_66 ?_
              exact g_zret X hr (isB_n (by decide)) rfl dX11_mayBe_70
          · refine g_iload_n X dX11_mayBe_53 1 rfl rfl ?_
            refine g_bipush X dX11_mayBe_54 bi_7 ?_
            refine g_icmp_ne X 65 (by decide) dX11_mayBe_56 (fun q56 => ?_) (fun q56 => ?_)
            · refine g_iconst X dX11_mayBe_65 ic_1 ?_
              refine g_goto X 70 (by decide) dX11_mayBe_66 ?_
              exact g_zret X hr (isB_n (by decide)) rfl dX11_mayBe_70
            · refine g_iload_n X dX11_mayBe_59 2 rfl rfl ?_
              refine g_bipush X dX11_mayBe_60 bi_9 ?_
              refine g_icmp_gt X 69 (by decide) dX11_mayBe_62 (fun q62 => ?_) (fun q62 => ?_)
              · refine g_iconst X dX11_mayBe_69 ic_0 ?_
                exact g_zret X hr (isB_n (by decide)) rfl dX11_mayBe_70
              · refine g_iconst X dX11_mayBe_65 ic_1 ?_
                refine g_goto X 70 (by decide) dX11_mayBe_66 ?_
                exact g_zret X hr (isB_n (by decide)) rfl dX11_mayBe_70
        · refine g_iload_n X dX11_mayBe_31 2 rfl rfl ?_
          refine g_iconst X dX11_mayBe_32 ic_1 ?_
          refine g_icmp_lt X 46 (by decide) dX11_mayBe_33 (fun q33 => ?_) (fun q33 => ?_)
          · refine g_iconst X dX11_mayBe_46 ic_0 ?_
            exact g_zret X hr (isB_n (by decide)) rfl dX11_mayBe_47
          · refine g_iload_n X dX11_mayBe_36 2 rfl rfl ?_
            refine g_bipush X dX11_mayBe_37 bi_9 ?_
            refine g_icmp_gt X 46 (by decide) dX11_mayBe_39 (fun q39 => ?_) (fun q39 => ?_)
            · refine g_iconst X dX11_mayBe_46 ic_0 ?_
              exact g_zret X hr (isB_n (by decide)) rfl dX11_mayBe_47
            · refine g_iconst X dX11_mayBe_42 ic_1 ?_
              refine g_goto X 47 (by decide) dX11_mayBe_43 ?_
              exact g_zret X hr (isB_n (by decide)) rfl dX11_mayBe_47
  · refine g_iload_n X dX11_mayBe_4 2 rfl rfl ?_
    refine g_iconst X dX11_mayBe_5 ic_1 ?_
    refine g_icmp_lt X 13 (by decide) dX11_mayBe_6 (fun q6 => ?_) (fun q6 => ?_)
    · refine g_iconst X dX11_mayBe_13 ic_0 ?_
      exact g_zret X hr (isB_n (by decide)) rfl dX11_mayBe_14
    · refine g_iconst X dX11_mayBe_9 ic_1 ?_
      refine g_goto X 14 (by decide) dX11_mayBe_10 ?_
      exact g_zret X hr (isB_n (by decide)) rfl dX11_mayBe_14
theorem tm_mayBeT {l : Launch} {D : va_G} {cy : Nat → ClassId} {ad : Nat → Nat} {N : Mem} (M : Mem) (a1 : Int32) (a2 : Int32) : Mt l D cy ad yX11_mayBe cX11_mayBe 3 (some .boolean) 1 [.ref (ad 138), .int a1, .int a2] ((wfM N) M) (some (.int (fm_mayBeT M a1 a2)), (wfM N) M) := tm_mayBe M a1 a2 (fm_mayBeE M a1 a2)
set_option maxRecDepth 100000 in
set_option maxHeartbeats 4000000 in
theorem Lm_is_L15 {l : Launch} {D : va_G} {cy : Nat → ClassId} {ad : Nat → Nat} {N : Mem} {p : Program} {e : Env} {s : State} {m : MethodId} {args : Array Value} {below : List Frame} {meth : Method} {c : Code} (X : Cx p s m args meth c cX11_is 5 RX11 D cy ad (AA ad) (wfM N) sdM) (hr : meth.sig.returnType = (some .boolean)) (M : Mem) (b1 : Int32) (b3 : Nat) (hb3 : b3 < 9) : ∀ (n : Nat) (x4 : Int32), GF p l e (Rm 6) s m args below meth c 5 D cy ad (AA ad) 0 0 (wfM N) (QM D cy ad (wfM N) below args s) (finI M) (fm_is_L15 M b1 b3 n x4) 15 [(0, .ref (ad 138)), (1, .int b1), (3, .ref (ad (b3 + 400))), (4, .int x4)] [] M := by
  intro n
  induction n with
  | zero => intro x4; exact g_none
  | succ n ih =>
    intro x4
    rw [fm_is_L15]
    refine g_iload X dX11_is_15 3 rfl ?_
    refine g_aload_n X dX11_is_17 2 rfl rfl ?_
    refine g_ct X (v0 := .int (nI (svN.getD b3 0))) (st := [.int x4]) (ok_T X (As := []) hb3 wkJ0_length_8abf5 rfl (tStr_length _ hb3) rfl m_6_56 rfl (hRm (by decide) (by decide)) ⟨Nat.zero_le _, Nat.zero_le _⟩ (Nat.le_of_ble_eq_true rfl) dX11_is_18) ?_
    refine g_icmp_ge X 50 (by decide) dX11_is_21 (fun q21 => ?_) (fun q21 => ?_)
    · refine g_iconst X dX11_is_50 ic_1 ?_
      exact g_zret X hr (isB_n (by decide)) rfl dX11_is_51
    · refine g_aload_n X dX11_is_24 0 rfl rfl ?_
      refine get_11_9 X (k := 138) k_138 s_138 m_5_66 dX11_is_25 ?_
      refine g_iload_n X dX11_is_28 1 rfl rfl ?_
      refine g_iload X dX11_is_29 3 rfl ?_
      refine g_iadd X dX11_is_31 ?_
      refine g_iald X (n := 160) (k := 147) k_147 s_147 dX11_is_32 (fun h1 => ?_)
      refine g_aload_n X dX11_is_33 2 rfl rfl ?_
      refine g_iload X dX11_is_34 3 rfl ?_
      refine g_gd (q := inb x4 (svN.getD b3 0)) (fun h2 => ?_)
      refine g_ct X (v0 := .int (svc b3 (ix x4))) (st := [.int (M.1 147 (ix (b1 + x4)))]) (ok_T X (As := [.int x4]) hb3 wkJ0_charAt_5068e rfl (tStr_charAt _ hb3 h2 (inb_1 h2) (inb_2 hb3 h2)) rfl m_6_57 rfl (hRm (by decide) (by decide)) ⟨Nat.zero_le _, Nat.zero_le _⟩ (Nat.le_of_ble_eq_true rfl) dX11_is_36) ?_
      refine g_icmp_eq X 44 (by decide) dX11_is_39 (fun q39 => ?_) (fun q39 => ?_)
      · refine g_iinc X (k := 3) (v := (x4 + 1)) dX11_is_44 rfl (ii_1 _) (by decide) rfl [1, 2, 3, 0] (lu := [(0, .ref (ad 138)), (1, .int b1), (3, .ref (ad (b3 + 400))), (4, .int (x4 + 1))]) rfl ?_
        refine g_goto X 15 (by decide) dX11_is_47 ?_
        exact ih (x4 + 1)
      · refine g_iconst X dX11_is_42 ic_0 ?_
        exact g_zret X hr (isB_n (by decide)) rfl dX11_is_43
set_option maxRecDepth 100000 in
set_option maxHeartbeats 4000000 in
theorem tm_is {l : Launch} {D : va_G} {cy : Nat → ClassId} {ad : Nat → Nat} {N : Mem} (M : Mem) (a1 : Int32) (a2 : Int32) (a3 : Nat) (ha3 : a3 < 9) {x : Int32} (h : fm_is M a1 a2 a3 = some x) : Mt l D cy ad yX11_is cX11_is 5 (some .boolean) 6 [.ref (ad 138), .int a1, .int a2, .ref (ad (a3 + 400))] ((wfM N) M) (some (.int x), (wfM N) M) := by
  refine met_of (fin := (finI M)) (lv0 := [(0, .ref (ad 138)), (1, .int a1), (2, .int a2), (3, .ref (ad (a3 + 400)))]) (by decide) (Nat.le_of_ble_eq_true rfl) rfl (lM N) h (fun p e s m args below meth c X hr => ?_)
  unfold fm_is
  refine g_iload_n X dX11_is_0 2 rfl rfl ?_
  refine g_iload_n X dX11_is_1 1 rfl rfl ?_
  refine g_isub X dX11_is_2 ?_
  refine g_aload_n X dX11_is_3 3 rfl rfl ?_
  refine g_ct X (v0 := .int (nI (svN.getD a3 0))) (st := [.int (a2 - a1)]) (ok_T X (As := []) ha3 wkJ0_length_8abf5 rfl (tStr_length _ ha3) rfl m_6_56 rfl (hRm (by decide) (by decide)) ⟨Nat.zero_le _, Nat.zero_le _⟩ (Nat.le_of_ble_eq_true rfl) dX11_is_4) ?_
  refine g_icmp_eq X 12 (by decide) dX11_is_7 (fun q7 => ?_) (fun q7 => ?_)
  · refine g_iconst X dX11_is_12 ic_0 ?_
    refine g_istore X dX11_is_13 (by decide) rfl [1, 2, 4, 0] (lu := [(0, .ref (ad 138)), (1, .int a1), (3, .ref (ad (a3 + 400))), (4, .int 0)]) rfl ?_
    exact Lm_is_L15  X hr M a1 a3 ha3   FU 0
  · refine g_iconst X dX11_is_10 ic_0 ?_
    exact g_zret X hr (isB_n (by decide)) rfl dX11_is_11
set_option maxRecDepth 100000 in
set_option maxHeartbeats 4000000 in
theorem tm_wordAt {l : Launch} {D : va_G} {cy : Nat → ClassId} {ad : Nat → Nat} {N : Mem} (M : Mem) (a1 : Int32) (a2 : Int32) {x : Int32} (h : fm_wordAt M a1 a2 = some x) : Mt l D cy ad yX11_wordAt cX11_wordAt 3 (some .int) 7 [.ref (ad 138), .int a1, .int a2] ((wfM N) M) (some (.int x), (wfM N) M) := by
  refine met_of (fin := (finI M)) (lv0 := [(0, .ref (ad 138)), (1, .int a1), (2, .int a2)]) (by decide) (Nat.le_of_ble_eq_true rfl) rfl (lM N) h (fun p e s m args below meth c X hr => ?_)
  unfold fm_wordAt
  refine g_aload_n X dX11_wordAt_0 0 rfl rfl ?_
  refine g_iload_n X dX11_wordAt_1 1 rfl rfl ?_
  refine g_iload_n X dX11_wordAt_2 2 rfl rfl ?_
  refine g_strM X (i := 0) dX11_wordAt_3 (by decide) ⟨rfl, rfl⟩ ?_
  refine g_ci X (st := []) (fun _ hh => ok_V X (k0 := 138) (As := [.int a1, .int a2, .ref (ad (0 + 400))]) wkX11_is (tm_is M a1 a2 0 (by decide) hh) rfl k_138 s_138 (by decide) rfl m_6_52 rfl (hRm (by decide) (by decide)) ⟨Nat.zero_le _, Nat.zero_le _⟩ (Nat.le_of_ble_eq_true rfl) dX11_wordAt_5) (fun r1 _ => ?_)
  refine g_if_eq X 13 (by decide) dX11_wordAt_8 (fun q8 => ?_) (fun q8 => ?_)
  · refine g_aload_n X dX11_wordAt_13 0 rfl rfl ?_
    refine g_iload_n X dX11_wordAt_14 1 rfl rfl ?_
    refine g_iload_n X dX11_wordAt_15 2 rfl rfl ?_
    refine g_strM X (i := 1) dX11_wordAt_16 (by decide) ⟨rfl, rfl⟩ ?_
    refine g_ci X (st := []) (fun _ hh => ok_V X (k0 := 138) (As := [.int a1, .int a2, .ref (ad (1 + 400))]) wkX11_is (tm_is M a1 a2 1 (by decide) hh) rfl k_138 s_138 (by decide) rfl m_6_52 rfl (hRm (by decide) (by decide)) ⟨Nat.zero_le _, Nat.zero_le _⟩ (Nat.le_of_ble_eq_true rfl) dX11_wordAt_18) (fun r2 _ => ?_)
    refine g_if_eq X 26 (by decide) dX11_wordAt_21 (fun q21 => ?_) (fun q21 => ?_)
    · refine g_aload_n X dX11_wordAt_26 0 rfl rfl ?_
      refine g_iload_n X dX11_wordAt_27 1 rfl rfl ?_
      refine g_iload_n X dX11_wordAt_28 2 rfl rfl ?_
      refine g_strM X (i := 2) dX11_wordAt_29 (by decide) ⟨rfl, rfl⟩ ?_
      refine g_ci X (st := []) (fun _ hh => ok_V X (k0 := 138) (As := [.int a1, .int a2, .ref (ad (2 + 400))]) wkX11_is (tm_is M a1 a2 2 (by decide) hh) rfl k_138 s_138 (by decide) rfl m_6_52 rfl (hRm (by decide) (by decide)) ⟨Nat.zero_le _, Nat.zero_le _⟩ (Nat.le_of_ble_eq_true rfl) dX11_wordAt_31) (fun r3 _ => ?_)
      refine g_if_eq X 39 (by decide) dX11_wordAt_34 (fun q34 => ?_) (fun q34 => ?_)
      · refine g_aload_n X dX11_wordAt_39 0 rfl rfl ?_
        refine g_iload_n X dX11_wordAt_40 1 rfl rfl ?_
        refine g_iload_n X dX11_wordAt_41 2 rfl rfl ?_
        refine g_strM X (i := 3) dX11_wordAt_42 (by decide) ⟨rfl, rfl⟩ ?_
        refine g_ci X (st := []) (fun _ hh => ok_V X (k0 := 138) (As := [.int a1, .int a2, .ref (ad (3 + 400))]) wkX11_is (tm_is M a1 a2 3 (by decide) hh) rfl k_138 s_138 (by decide) rfl m_6_52 rfl (hRm (by decide) (by decide)) ⟨Nat.zero_le _, Nat.zero_le _⟩ (Nat.le_of_ble_eq_true rfl) dX11_wordAt_44) (fun r4 _ => ?_)
        refine g_if_eq X 52 (by decide) dX11_wordAt_47 (fun q47 => ?_) (fun q47 => ?_)
        · refine g_aload_n X dX11_wordAt_52 0 rfl rfl ?_
          refine g_iload_n X dX11_wordAt_53 1 rfl rfl ?_
          refine g_iload_n X dX11_wordAt_54 2 rfl rfl ?_
          refine g_strM X (i := 4) dX11_wordAt_55 (by decide) ⟨rfl, rfl⟩ ?_
          refine g_ci X (st := []) (fun _ hh => ok_V X (k0 := 138) (As := [.int a1, .int a2, .ref (ad (4 + 400))]) wkX11_is (tm_is M a1 a2 4 (by decide) hh) rfl k_138 s_138 (by decide) rfl m_6_52 rfl (hRm (by decide) (by decide)) ⟨Nat.zero_le _, Nat.zero_le _⟩ (Nat.le_of_ble_eq_true rfl) dX11_wordAt_57) (fun r5 _ => ?_)
          refine g_if_eq X 65 (by decide) dX11_wordAt_60 (fun q60 => ?_) (fun q60 => ?_)
          · refine g_aload_n X dX11_wordAt_65 0 rfl rfl ?_
            refine g_iload_n X dX11_wordAt_66 1 rfl rfl ?_
            refine g_iload_n X dX11_wordAt_67 2 rfl rfl ?_
            refine g_strM X (i := 5) dX11_wordAt_68 (by decide) ⟨rfl, rfl⟩ ?_
            refine g_ci X (st := []) (fun _ hh => ok_V X (k0 := 138) (As := [.int a1, .int a2, .ref (ad (5 + 400))]) wkX11_is (tm_is M a1 a2 5 (by decide) hh) rfl k_138 s_138 (by decide) rfl m_6_52 rfl (hRm (by decide) (by decide)) ⟨Nat.zero_le _, Nat.zero_le _⟩ (Nat.le_of_ble_eq_true rfl) dX11_wordAt_70) (fun r6 _ => ?_)
            refine g_if_eq X 78 (by decide) dX11_wordAt_73 (fun q73 => ?_) (fun q73 => ?_)
            · refine g_aload_n X dX11_wordAt_78 0 rfl rfl ?_
              refine g_iload_n X dX11_wordAt_79 1 rfl rfl ?_
              refine g_iload_n X dX11_wordAt_80 2 rfl rfl ?_
              refine g_strM X (i := 6) dX11_wordAt_81 (by decide) ⟨rfl, rfl⟩ ?_
              refine g_ci X (st := []) (fun _ hh => ok_V X (k0 := 138) (As := [.int a1, .int a2, .ref (ad (6 + 400))]) wkX11_is (tm_is M a1 a2 6 (by decide) hh) rfl k_138 s_138 (by decide) rfl m_6_52 rfl (hRm (by decide) (by decide)) ⟨Nat.zero_le _, Nat.zero_le _⟩ (Nat.le_of_ble_eq_true rfl) dX11_wordAt_83) (fun r7 _ => ?_)
              refine g_if_eq X 92 (by decide) dX11_wordAt_86 (fun q86 => ?_) (fun q86 => ?_)
              · refine g_aload_n X dX11_wordAt_92 0 rfl rfl ?_
                refine g_iload_n X dX11_wordAt_93 1 rfl rfl ?_
                refine g_iload_n X dX11_wordAt_94 2 rfl rfl ?_
                refine g_strM X (i := 7) dX11_wordAt_95 (by decide) ⟨rfl, rfl⟩ ?_
                refine g_ci X (st := []) (fun _ hh => ok_V X (k0 := 138) (As := [.int a1, .int a2, .ref (ad (7 + 400))]) wkX11_is (tm_is M a1 a2 7 (by decide) hh) rfl k_138 s_138 (by decide) rfl m_6_52 rfl (hRm (by decide) (by decide)) ⟨Nat.zero_le _, Nat.zero_le _⟩ (Nat.le_of_ble_eq_true rfl) dX11_wordAt_97) (fun r8 _ => ?_)
                refine g_if_eq X 106 (by decide) dX11_wordAt_100 (fun q100 => ?_) (fun q100 => ?_)
                · refine g_aload_n X dX11_wordAt_106 0 rfl rfl ?_
                  refine g_iload_n X dX11_wordAt_107 1 rfl rfl ?_
                  refine g_iload_n X dX11_wordAt_108 2 rfl rfl ?_
                  refine g_strM X (i := 8) dX11_wordAt_109 (by decide) ⟨rfl, rfl⟩ ?_
                  refine g_ci X (st := []) (fun _ hh => ok_V X (k0 := 138) (As := [.int a1, .int a2, .ref (ad (8 + 400))]) wkX11_is (tm_is M a1 a2 8 (by decide) hh) rfl k_138 s_138 (by decide) rfl m_6_52 rfl (hRm (by decide) (by decide)) ⟨Nat.zero_le _, Nat.zero_le _⟩ (Nat.le_of_ble_eq_true rfl) dX11_wordAt_111) (fun r9 _ => ?_)
                  refine g_if_eq X 122 (by decide) dX11_wordAt_114 (fun q114 => ?_) (fun q114 => ?_)
                  · refine g_iconst X dX11_wordAt_122 ic_m1 ?_
                    exact g_iret X hr rfl dX11_wordAt_123
                  · refine g_bipush X dX11_wordAt_117 bi_8 ?_
                    refine g_goto X 123 (by decide) dX11_wordAt_119 ?_
                    exact g_iret X hr rfl dX11_wordAt_123
                · refine g_bipush X dX11_wordAt_103 bi_7 ?_
                  exact g_iret X hr rfl dX11_wordAt_105
              · refine g_bipush X dX11_wordAt_89 bi_6 ?_
                exact g_iret X hr rfl dX11_wordAt_91
            · refine g_iconst X dX11_wordAt_76 ic_5 ?_
              exact g_iret X hr rfl dX11_wordAt_77
          · refine g_iconst X dX11_wordAt_63 ic_4 ?_
            exact g_iret X hr rfl dX11_wordAt_64
        · refine g_iconst X dX11_wordAt_50 ic_3 ?_
          exact g_iret X hr rfl dX11_wordAt_51
      · refine g_iconst X dX11_wordAt_37 ic_2 ?_
        exact g_iret X hr rfl dX11_wordAt_38
    · refine g_iconst X dX11_wordAt_24 ic_1 ?_
      exact g_iret X hr rfl dX11_wordAt_25
  · refine g_iconst X dX11_wordAt_11 ic_0 ?_
    exact g_iret X hr rfl dX11_wordAt_12
set_option maxRecDepth 100000 in
set_option maxHeartbeats 4000000 in
theorem Lm_read_L2 {l : Launch} {D : va_G} {cy : Nat → ClassId} {ad : Nat → Nat} {N : Mem} {p : Program} {e : Env} {s : State} {m : MethodId} {args : Array Value} {below : List Frame} {meth : Method} {c : Code} (X : Cx p s m args meth c cX11_read 7 RX11 D cy ad (AA ad) (wfM N) sdM) (hr : meth.sig.returnType = (some .int)) (b1 : Int32) (kx27 : Mem → Option (Int32 × Mem)) (hkx27 : ∀ (M : Mem), GF p l e (Rm 8) s m args below meth c 7 D cy ad (AA ad) 0 0 (wfM N) (QM D cy ad (wfM N) below args s) finS (kx27 M) 27 [(0, .ref (ad 138)), (1, .int b1)] [] M) : ∀ (n : Nat) (x2 : Int32) (M : Mem), GF p l e (Rm 8) s m args below meth c 7 D cy ad (AA ad) 0 0 (wfM N) (QM D cy ad (wfM N) below args s) finS (fm_read_L2 b1 kx27 n x2 M) 2 [(0, .ref (ad 138)), (1, .int b1), (2, .int x2)] [] M := by
  intro n
  induction n with
  | zero => intro x2 M; exact g_none
  | succ n ih =>
    intro x2 M
    rw [fm_read_L2]
    refine g_iload_n X dX11_read_2 2 rfl rfl ?_
    refine g_bipush X dX11_read_3 bi_9 ?_
    refine g_icmp_ge X 27 (by decide) dX11_read_5 (fun q5 => ?_) (fun q5 => ?_)
    · refine g_sub (lu := [(0, .ref (ad 138)), (1, .int b1)]) [0, 1] rfl ?_
      exact hkx27 M
    · refine g_aload_n X dX11_read_8 0 rfl rfl ?_
      refine get_11_10 X (k := 138) k_138 s_138 m_5_67 dX11_read_9 ?_
      refine g_iload_n X dX11_read_12 1 rfl rfl ?_
      refine g_iload_n X dX11_read_13 2 rfl rfl ?_
      refine g_iadd X dX11_read_14 ?_
      refine g_aload_n X dX11_read_15 0 rfl rfl ?_
      refine g_iload_n X dX11_read_16 2 rfl rfl ?_
      refine g_ct X (v0 := .int (fm_firstT M x2)) (st := [.int (b1 + x2), .ref (ad 148)]) (ok_V X (k0 := 138) (As := [.int x2]) wkX11_first (tm_firstT M x2) rfl k_138 s_138 (by decide) rfl m_5_234 rfl (hRm (by decide) (by decide)) ⟨Nat.zero_le _, Nat.zero_le _⟩ (Nat.le_of_ble_eq_true rfl) dX11_read_17) ?_
      refine g_iast X (n := 54) (k := 148) k_148 s_148 dX11_read_20 (fun h1 => ?_)
      refine g_mlet X (fun M2 => ?_)
      refine g_iinc X (k := 2) (v := (x2 + 1)) dX11_read_21 rfl (ii_1 _) (by decide) rfl [1, 2, 0] (lu := [(0, .ref (ad 138)), (1, .int b1), (2, .int (x2 + 1))]) rfl ?_
      refine g_goto X 2 (by decide) dX11_read_24 ?_
      exact ih (x2 + 1) M2
set_option maxRecDepth 100000 in
set_option maxHeartbeats 4000000 in
theorem Lm_read_L156 {l : Launch} {D : va_G} {cy : Nat → ClassId} {ad : Nat → Nat} {N : Mem} {p : Program} {e : Env} {s : State} {m : MethodId} {args : Array Value} {below : List Frame} {meth : Method} {c : Code} (X : Cx p s m args meth c cX11_read 7 RX11 D cy ad (AA ad) (wfM N) sdM) (hr : meth.sig.returnType = (some .int)) (M : Mem) (b1 : Int32) (b2 : Int32) (b4 : Int32) (kx221 : Int32 → Int32 → Option (Int32 × Mem)) (hkx221 : ∀ (y5 : Int32) (y6 : Int32), GF p l e (Rm 8) s m args below meth c 7 D cy ad (AA ad) 0 0 (wfM N) (QM D cy ad (wfM N) below args s) finS (kx221 y5 y6) 221 [(0, .ref (ad 138)), (1, .int b1), (2, .int b2), (4, .int b4), (5, .int y5), (6, .int y6)] [] M) : ∀ (n : Nat) (x5 : Int32) (x6 : Int32), GF p l e (Rm 8) s m args below meth c 7 D cy ad (AA ad) 0 0 (wfM N) (QM D cy ad (wfM N) below args s) finS (fm_read_L156 M b1 b2 b4 kx221 n x5 x6) 156 [(0, .ref (ad 138)), (1, .int b1), (2, .int b2), (4, .int b4), (5, .int x5), (6, .int x6)] [] M := by
  intro n
  induction n with
  | zero => intro x5 x6; exact g_none
  | succ n ih =>
    intro x5 x6
    rw [fm_read_L156]
    refine g_iload X dX11_read_156 4 rfl ?_
    refine g_aload_n X dX11_read_158 0 rfl rfl ?_
    refine get_11_8 X (k := 138) k_138 s_138 m_5_65 dX11_read_159 ?_
    refine g_icmp_ge X 221 (by decide) dX11_read_162 (fun q162 => ?_) (fun q162 => ?_)
    · exact hkx221 x5 x6
    · refine g_aload_n X dX11_read_165 0 rfl rfl ?_
      refine get_11_9 X (k := 138) k_138 s_138 m_5_66 dX11_read_166 ?_
      refine g_iload X dX11_read_169 4 rfl ?_
      refine g_iald X (n := 160) (k := 147) k_147 s_147 dX11_read_171 (fun h7 => ?_)
      refine g_bipush X dX11_read_172 bi_48 ?_
      refine g_icmp_lt X 221 (by decide) dX11_read_174 (fun q174 => ?_) (fun q174 => ?_)
      · exact hkx221 x5 x6
      · refine g_aload_n X dX11_read_177 0 rfl rfl ?_
        refine get_11_9 X (k := 138) k_138 s_138 m_5_66 dX11_read_178 ?_
        refine g_iload X dX11_read_181 4 rfl ?_
        refine g_iald X (n := 160) (k := 147) k_147 s_147 dX11_read_183 (fun h8 => ?_)
        refine g_bipush X dX11_read_184 bi_57 ?_
        refine g_icmp_gt X 221 (by decide) dX11_read_186 (fun q186 => ?_) (fun q186 => ?_)
        · exact hkx221 x5 x6
        · refine g_iload X dX11_read_189 4 rfl ?_
          refine g_iload_n X dX11_read_191 2 rfl rfl ?_
          refine g_isub X dX11_read_192 ?_
          refine g_iconst X dX11_read_193 ic_2 ?_
          refine g_jlet X 215 (fun z215 : Int32 => [(0, .ref (ad 138)), (1, .int b1), (2, .int b2), (4, .int b4), (5, .int x5), (6, .int z215)]) (fun z215 : Int32 => []) (fun z215 : Int32 => M) (fun z215 => ?_) (fun J215 hJ215 => ?_)
          · show GF _ _ _ _ _ _ _ _ _ _ _ _ _ _ _ _ _ _ _ _ _ 215 [(0, .ref (ad 138)), (1, .int b1), (2, .int b2), (4, .int b4), (5, .int x5), (6, .int z215)] [] M
            refine g_iinc X (k := 4) (v := (x5 + 1)) dX11_read_215 rfl (ii_1 _) (by decide) rfl [1, 2, 3, 4, 0, 5] (lu := [(0, .ref (ad 138)), (1, .int b1), (2, .int b2), (4, .int b4), (5, .int (x5 + 1)), (6, .int z215)]) rfl ?_
            refine g_goto X 156 (by decide) dX11_read_218 ?_
            exact ih (x5 + 1) z215
          refine g_icmp_ge X 215 (by decide) dX11_read_194 (fun q194 => ?_) (fun q194 => ?_)
          · exact hJ215 x6
          · refine g_bipush X dX11_read_197 bi_10 ?_
            refine g_iload X dX11_read_199 5 rfl ?_
            refine g_imul X dX11_read_201 ?_
            refine g_aload_n X dX11_read_202 0 rfl rfl ?_
            refine get_11_9 X (k := 138) k_138 s_138 m_5_66 dX11_read_203 ?_
            refine g_iload X dX11_read_206 4 rfl ?_
            refine g_iald X (n := 160) (k := 147) k_147 s_147 dX11_read_208 (fun h9 => ?_)
            refine g_iadd X dX11_read_209 ?_
            refine g_bipush X dX11_read_210 bi_48 ?_
            refine g_isub X dX11_read_212 ?_
            refine g_ilet X (fun v10 => ?_)
            refine g_istore X dX11_read_213 (by decide) rfl [1, 2, 3, 4, 5, 0] (lu := [(0, .ref (ad 138)), (1, .int b1), (2, .int b2), (4, .int b4), (5, .int x5), (6, .int v10)]) rfl ?_
            exact hJ215 v10
set_option maxRecDepth 100000 in
set_option maxHeartbeats 4000000 in
theorem Lm_read_L88 {l : Launch} {D : va_G} {cy : Nat → ClassId} {ad : Nat → Nat} {N : Mem} {p : Program} {e : Env} {s : State} {m : MethodId} {args : Array Value} {below : List Frame} {meth : Method} {c : Code} (X : Cx p s m args meth c cX11_read 7 RX11 D cy ad (AA ad) (wfM N) sdM) (hr : meth.sig.returnType = (some .int)) (M : Mem) (b1 : Int32) (b2 : Int32) (kx127 : Int32 → Option (Int32 × Mem)) (hkx127 : ∀ (y5 : Int32), GF p l e (Rm 8) s m args below meth c 7 D cy ad (AA ad) 0 0 (wfM N) (QM D cy ad (wfM N) below args s) finS (kx127 y5) 127 [(0, .ref (ad 138)), (1, .int b1), (2, .int b2), (5, .int y5)] [] M) : ∀ (n : Nat) (x5 : Int32), GF p l e (Rm 8) s m args below meth c 7 D cy ad (AA ad) 0 0 (wfM N) (QM D cy ad (wfM N) below args s) finS (fm_read_L88 M b1 b2 kx127 n x5) 88 [(0, .ref (ad 138)), (1, .int b1), (2, .int b2), (5, .int x5)] [] M := by
  intro n
  induction n with
  | zero => intro x5; exact g_none
  | succ n ih =>
    intro x5
    rw [fm_read_L88]
    refine g_iload X dX11_read_88 3 rfl ?_
    refine g_aload_n X dX11_read_90 0 rfl rfl ?_
    refine get_11_8 X (k := 138) k_138 s_138 m_5_65 dX11_read_91 ?_
    refine g_icmp_ge X 127 (by decide) dX11_read_94 (fun q94 => ?_) (fun q94 => ?_)
    · exact hkx127 x5
    · refine g_aload_n X dX11_read_97 0 rfl rfl ?_
      refine get_11_9 X (k := 138) k_138 s_138 m_5_66 dX11_read_98 ?_
      refine g_iload X dX11_read_101 3 rfl ?_
      refine g_iald X (n := 160) (k := 147) k_147 s_147 dX11_read_103 (fun h15 => ?_)
      refine g_bipush X dX11_read_104 bi_97 ?_
      refine g_icmp_lt X 127 (by decide) dX11_read_106 (fun q106 => ?_) (fun q106 => ?_)
      · exact hkx127 x5
      · refine g_aload_n X dX11_read_109 0 rfl rfl ?_
        refine get_11_9 X (k := 138) k_138 s_138 m_5_66 dX11_read_110 ?_
        refine g_iload X dX11_read_113 3 rfl ?_
        refine g_iald X (n := 160) (k := 147) k_147 s_147 dX11_read_115 (fun h16 => ?_)
        refine g_bipush X dX11_read_116 bi_122 ?_
        refine g_icmp_gt X 127 (by decide) dX11_read_118 (fun q118 => ?_) (fun q118 => ?_)
        · exact hkx127 x5
        · refine g_iinc X (k := 3) (v := (x5 + 1)) dX11_read_121 rfl (ii_1 _) (by decide) rfl [1, 2, 3, 0] (lu := [(0, .ref (ad 138)), (1, .int b1), (2, .int b2), (5, .int (x5 + 1))]) rfl ?_
          refine g_goto X 88 (by decide) dX11_read_124 ?_
          exact ih (x5 + 1)
set_option maxRecDepth 100000 in
set_option maxHeartbeats 4000000 in
theorem Lm_read_L34 {l : Launch} {D : va_G} {cy : Nat → ClassId} {ad : Nat → Nat} {N : Mem} {p : Program} {e : Env} {s : State} {m : MethodId} {args : Array Value} {below : List Frame} {meth : Method} {c : Code} (X : Cx p s m args meth c cX11_read 7 RX11 D cy ad (AA ad) (wfM N) sdM) (hr : meth.sig.returnType = (some .int)) (b1 : Int32) (kx67 : Int32 → Mem → Option (Int32 × Mem)) (hkx67 : ∀ (y3 : Int32) (M : Mem), GF p l e (Rm 8) s m args below meth c 7 D cy ad (AA ad) 0 0 (wfM N) (QM D cy ad (wfM N) below args s) finS (kx67 y3 M) 67 [(0, .ref (ad 138)), (3, .int y3)] [] M) : ∀ (n : Nat) (x2 : Int32) (x3 : Int32) (x4 : Int32) (M : Mem), GF p l e (Rm 8) s m args below meth c 7 D cy ad (AA ad) 0 0 (wfM N) (QM D cy ad (wfM N) below args s) finS (fm_read_L34 b1 kx67 n x2 x3 x4 M) 34 [(0, .ref (ad 138)), (1, .int b1), (2, .int x2), (3, .int x3), (4, .int x4)] [] M := by
  intro n
  induction n with
  | zero => intro x2 x3 x4 M; exact g_none
  | succ n ih =>
    intro x2 x3 x4 M
    rw [fm_read_L34]
    refine g_iload_n X dX11_read_34 2 rfl rfl ?_
    refine g_aload_n X dX11_read_35 0 rfl rfl ?_
    refine get_11_8 X (k := 138) k_138 s_138 m_5_65 dX11_read_36 ?_
    refine g_jlet X 59 (fun z59 : Unit => [(0, .ref (ad 138)), (1, .int b1), (2, .int x2), (3, .int x3), (4, .int x4)]) (fun z59 : Unit => []) (fun z59 : Unit => M) (fun z59 => ?_) (fun J59 hJ59 => ?_)
    · show GF _ _ _ _ _ _ _ _ _ _ _ _ _ _ _ _ _ _ _ _ _ 59 [(0, .ref (ad 138)), (1, .int b1), (2, .int x2), (3, .int x3), (4, .int x4)] [] M
      refine g_iload_n X dX11_read_59 2 rfl rfl ?_
      refine g_aload_n X dX11_read_60 0 rfl rfl ?_
      refine get_11_8 X (k := 138) k_138 s_138 m_5_65 dX11_read_61 ?_
      refine g_icmp_ne X 81 (by decide) dX11_read_64 (fun q64 => ?_) (fun q64 => ?_)
      · refine g_iload_n X dX11_read_81 2 rfl rfl ?_
        refine g_istore X dX11_read_82 (by decide) rfl [1, 2, 3, 4, 5, 0] (lu := [(0, .ref (ad 138)), (1, .int b1), (2, .int x2), (3, .int x3), (4, .int x4), (5, .int x2)]) rfl ?_
        refine g_iload_n X dX11_read_84 3 rfl rfl ?_
        refine g_jlet X 284 (fun z284 : Int32 × Int32 × Int32 × Mem => [(0, .ref (ad 138)), (1, .int b1), (3, .int (z284.1)), (4, .int (z284.2.1)), (5, .int (z284.2.2.1))]) (fun z284 : Int32 × Int32 × Int32 × Mem => []) (fun z284 : Int32 × Int32 × Int32 × Mem => (z284.2.2.2)) (fun z284 => ?_) (fun J284 hJ284 => ?_)
        · show GF _ _ _ _ _ _ _ _ _ _ _ _ _ _ _ _ _ _ _ _ _ 284 [(0, .ref (ad 138)), (1, .int b1), (3, .int (z284.1)), (4, .int (z284.2.1)), (5, .int (z284.2.2.1))] [] (z284.2.2.2)
          refine g_iload X dX11_read_284 4 rfl ?_
          refine g_ilet X (fun v4 => ?_)
          refine g_istore_n X dX11_read_286 rfl (by decide) rfl [1, 2, 0, 3, 4] (lu := [(0, .ref (ad 138)), (1, .int b1), (2, .int v4), (3, .int (z284.1)), (4, .int (z284.2.1))]) rfl ?_
          refine g_goto X 34 (by decide) dX11_read_287 ?_
          exact ih v4 (z284.1) (z284.2.1) (z284.2.2.2)
        refine g_if_ne X 148 (by decide) dX11_read_85 (fun q85 => ?_) (fun q85 => ?_)
        · refine g_iload_n X dX11_read_148 3 rfl rfl ?_
          refine g_iconst X dX11_read_149 ic_1 ?_
          refine g_icmp_ne X 264 (by decide) dX11_read_150 (fun q150 => ?_) (fun q150 => ?_)
          · refine g_aload_n X dX11_read_264 0 rfl rfl ?_
            refine get_11_9 X (k := 138) k_138 s_138 m_5_66 dX11_read_265 ?_
            refine g_iload_n X dX11_read_268 2 rfl rfl ?_
            refine g_iald X (n := 160) (k := 147) k_147 s_147 dX11_read_269 (fun h5 => ?_)
            refine g_bipush X dX11_read_270 bi_59 ?_
            refine g_icmp_eq X 277 (by decide) dX11_read_272 (fun q272 => ?_) (fun q272 => ?_)
            · refine g_iload_n X dX11_read_277 2 rfl rfl ?_
              refine g_iconst X dX11_read_278 ic_1 ?_
              refine g_iadd X dX11_read_279 ?_
              refine g_ilet X (fun v6 => ?_)
              refine g_istore X dX11_read_280 (by decide) rfl [1, 2, 5, 0] (lu := [(0, .ref (ad 138)), (1, .int b1), (4, .int x4), (5, .int v6)]) rfl ?_
              refine g_iconst X dX11_read_282 ic_0 ?_
              refine g_istore_n X dX11_read_283 rfl (by decide) rfl [1, 2, 0, 3, 4] (lu := [(0, .ref (ad 138)), (1, .int b1), (3, .int 0), (4, .int x4), (5, .int v6)]) rfl ?_
              exact hJ284 (0, x4, v6, M)
            · refine g_iload_n X dX11_read_275 2 rfl rfl ?_
              exact g_iret X hr rfl dX11_read_276
          · refine g_iconst X dX11_read_153 ic_0 ?_
            refine g_istore X dX11_read_154 (by decide) rfl [1, 2, 3, 5, 6, 0] (lu := [(0, .ref (ad 138)), (1, .int b1), (2, .int x2), (4, .int x4), (5, .int x2), (6, .int 0)]) rfl ?_
            refine Lm_read_L156  X hr M b1 x2 x4  _ (fun w11 w12 => ?_) FU x2 0
            · refine g_iload X dX11_read_221 4 rfl ?_
              refine g_iload_n X dX11_read_223 2 rfl rfl ?_
              refine g_icmp_eq X 246 (by decide) dX11_read_224 (fun q224 => ?_) (fun q224 => ?_)
              · refine g_iload_n X dX11_read_246 2 rfl rfl ?_
                exact g_iret X hr rfl dX11_read_247
              · refine g_iload X dX11_read_227 4 rfl ?_
                refine g_iload_n X dX11_read_229 2 rfl rfl ?_
                refine g_isub X dX11_read_230 ?_
                refine g_iconst X dX11_read_231 ic_2 ?_
                refine g_icmp_gt X 246 (by decide) dX11_read_232 (fun q232 => ?_) (fun q232 => ?_)
                · refine g_iload_n X dX11_read_246 2 rfl rfl ?_
                  exact g_iret X hr rfl dX11_read_247
                · refine g_aload_n X dX11_read_235 0 rfl rfl ?_
                  refine g_iload X dX11_read_236 3 rfl ?_
                  refine g_iload X dX11_read_238 5 rfl ?_
                  refine g_ct X (v0 := .int (fm_mayBeT M x4 w12)) (st := []) (ok_V X (k0 := 138) (As := [.int x4, .int w12]) wkX11_mayBe (tm_mayBeT M x4 w12) rfl k_138 s_138 (by decide) rfl m_6_66 rfl (hRm (by decide) (by decide)) ⟨Nat.zero_le _, Nat.zero_le _⟩ (Nat.le_of_ble_eq_true rfl) dX11_read_240) ?_
                  refine g_if_ne X 248 (by decide) dX11_read_243 (fun q243 => ?_) (fun q243 => ?_)
                  · refine g_aload_n X dX11_read_248 0 rfl rfl ?_
                    refine get_11_10 X (k := 138) k_138 s_138 m_5_67 dX11_read_249 ?_
                    refine g_iload_n X dX11_read_252 1 rfl rfl ?_
                    refine g_iload X dX11_read_253 3 rfl ?_
                    refine g_iadd X dX11_read_255 ?_
                    refine g_iload X dX11_read_256 5 rfl ?_
                    refine g_iast X (n := 54) (k := 148) k_148 s_148 dX11_read_258 (fun h13 => ?_)
                    refine g_mlet X (fun M14 => ?_)
                    refine g_iconst X dX11_read_259 ic_2 ?_
                    refine g_istore_n X dX11_read_260 rfl (by decide) rfl [1, 2, 0, 4, 5] (lu := [(0, .ref (ad 138)), (1, .int b1), (3, .int 2), (4, .int x4), (5, .int w11)]) rfl ?_
                    refine g_goto X 284 (by decide) dX11_read_261 ?_
                    exact hJ284 (2, x4, w11, M14)
                  · refine g_iload_n X dX11_read_246 2 rfl rfl ?_
                    exact g_iret X hr rfl dX11_read_247
        · refine g_sub (lu := [(0, .ref (ad 138)), (1, .int b1), (2, .int x2), (5, .int x2)]) [0, 1, 2, 5] rfl ?_
          refine Lm_read_L88  X hr M b1 x2  _ (fun w17 => ?_) FU x2
          · refine g_aload_n X dX11_read_127 0 rfl rfl ?_
            refine g_iload_n X dX11_read_128 2 rfl rfl ?_
            refine g_iload X dX11_read_129 3 rfl ?_
            refine g_ci X (st := []) (fun _ hh => ok_V X (k0 := 138) (As := [.int x2, .int w17]) wkX11_wordAt (tm_wordAt M x2 w17 hh) rfl k_138 s_138 (by decide) rfl m_6_47 rfl (hRm (by decide) (by decide)) ⟨Nat.zero_le _, Nat.zero_le _⟩ (Nat.le_of_ble_eq_true rfl) dX11_read_131) (fun r18 _ => ?_)
            refine g_istore X dX11_read_134 (by decide) rfl [1, 2, 3, 0, 4] (lu := [(0, .ref (ad 138)), (1, .int b1), (2, .int x2), (4, .int r18), (5, .int w17)]) rfl ?_
            refine g_iload X dX11_read_136 3 rfl ?_
            refine g_if_ge X 143 (by decide) dX11_read_138 (fun q138 => ?_) (fun q138 => ?_)
            · refine g_iconst X dX11_read_143 ic_1 ?_
              refine g_istore_n X dX11_read_144 rfl (by decide) rfl [1, 2, 0, 4, 5] (lu := [(0, .ref (ad 138)), (1, .int b1), (3, .int 1), (4, .int r18), (5, .int w17)]) rfl ?_
              refine g_goto X 284 (by decide) dX11_read_145 ?_
              exact hJ284 (1, r18, w17, M)
            · refine g_iload_n X dX11_read_141 2 rfl rfl ?_
              exact g_iret X hr rfl dX11_read_142
      · refine g_sub (lu := [(0, .ref (ad 138)), (3, .int x3)]) [0, 3] rfl ?_
        exact hkx67 x3 M
    refine g_icmp_ge X 59 (by decide) dX11_read_39 (fun q39 => ?_) (fun q39 => ?_)
    · exact hJ59 ()
    · refine g_aload_n X dX11_read_42 0 rfl rfl ?_
      refine get_11_9 X (k := 138) k_138 s_138 m_5_66 dX11_read_43 ?_
      refine g_iload_n X dX11_read_46 2 rfl rfl ?_
      refine g_iald X (n := 160) (k := 147) k_147 s_147 dX11_read_47 (fun h19 => ?_)
      refine g_bipush X dX11_read_48 bi_32 ?_
      refine g_icmp_ne X 59 (by decide) dX11_read_50 (fun q50 => ?_) (fun q50 => ?_)
      · exact hJ59 ()
      · refine g_iinc X (k := 2) (v := (x2 + 1)) dX11_read_53 rfl (ii_1 _) (by decide) rfl [1, 2, 0, 3, 4] (lu := [(0, .ref (ad 138)), (1, .int b1), (2, .int (x2 + 1)), (3, .int x3), (4, .int x4)]) rfl ?_
        refine g_goto X 34 (by decide) dX11_read_56 ?_
        exact ih (x2 + 1) x3 x4 M
set_option maxRecDepth 100000 in
set_option maxHeartbeats 4000000 in
theorem tm_read {l : Launch} {D : va_G} {cy : Nat → ClassId} {ad : Nat → Nat} {N : Mem} (M : Mem) (a1 : Int32) {x : (Int32 × Mem)} (h : fm_read M a1 = some x) : Mt l D cy ad yX11_read cX11_read 7 (some .int) 8 [.ref (ad 138), .int a1] ((wfM N) M) (some (.int x.1), (wfM N) x.2) := by
  refine met_of (fin := finS) (lv0 := [(0, .ref (ad 138)), (1, .int a1)]) (by decide) (Nat.le_of_ble_eq_true rfl) rfl (lM N) h (fun p e s m args below meth c X hr => ?_)
  unfold fm_read
  refine g_iconst X dX11_read_0 ic_0 ?_
  refine g_istore_n X dX11_read_1 rfl (by decide) rfl [1, 2, 0] (lu := [(0, .ref (ad 138)), (1, .int a1), (2, .int 0)]) rfl ?_
  refine Lm_read_L2  X hr a1  _ (fun M3 => ?_) FU 0 M
  · refine g_iconst X dX11_read_27 ic_0 ?_
    refine g_istore_n X dX11_read_28 rfl (by decide) rfl [1, 2, 0] (lu := [(0, .ref (ad 138)), (1, .int a1), (2, .int 0)]) rfl ?_
    refine g_iconst X dX11_read_29 ic_0 ?_
    refine g_istore_n X dX11_read_30 rfl (by decide) rfl [1, 2, 3, 0] (lu := [(0, .ref (ad 138)), (1, .int a1), (2, .int 0), (3, .int 0)]) rfl ?_
    refine g_iconst X dX11_read_31 ic_0 ?_
    refine g_istore X dX11_read_32 (by decide) rfl [1, 2, 3, 4, 0] (lu := [(0, .ref (ad 138)), (1, .int a1), (2, .int 0), (3, .int 0), (4, .int 0)]) rfl ?_
    refine Lm_read_L34  X hr a1  _ (fun w20 M21 => ?_) FU 0 0 0 M3
    · refine g_iload_n X dX11_read_67 1 rfl rfl ?_
      refine g_iconst X dX11_read_68 ic_2 ?_
      refine g_icmp_ne X 76 (by decide) dX11_read_69 (fun q69 => ?_) (fun q69 => ?_)
      · refine g_aload_n X dX11_read_76 0 rfl rfl ?_
        refine get_11_8 X (k := 138) k_138 s_138 m_5_65 dX11_read_77 ?_
        exact g_iret X hr rfl dX11_read_80
      · refine g_iconst X dX11_read_72 ic_m1 ?_
        refine g_goto X 80 (by decide) dX11_read_73 ?_
        exact g_iret X hr rfl dX11_read_80
set_option maxRecDepth 100000 in
set_option maxHeartbeats 4000000 in
theorem tm_law {l : Launch} {D : va_G} {cy : Nat → ClassId} {ad : Nat → Nat} {N : Mem} (M : Mem) {x : (Int32 × Mem)} (h : fm_law M = some x) : Mt l D cy ad yX11_law cX11_law 2 (some .int) 9 [.ref (ad 138)] ((wfM N) M) (some (.int x.1), (wfM N) x.2) := by
  refine met_of (fin := finS) (lv0 := [(0, .ref (ad 138))]) (by decide) (Nat.le_of_ble_eq_true rfl) rfl (lM N) h (fun p e s m args below meth c X hr => ?_)
  unfold fm_law
  refine g_aload_n X dX11_law_0 0 rfl rfl ?_
  refine get_11_18 X (k := 138) k_138 s_138 m_5_75 dX11_law_1 ?_
  refine g_iconst X dX11_law_4 ic_1 ?_
  refine g_ialdC X (n := 9) (k := 156) k_156 s_156 (by decide) dX11_law_5 ?_
  refine g_bipush X dX11_law_6 bi_6 ?_
  refine g_icmp_ne X 18 (by decide) dX11_law_8 (fun q8 => ?_) (fun q8 => ?_)
  · refine g_aload_n X dX11_law_18 0 rfl rfl ?_
    refine g_bipush X dX11_law_19 bi_9 ?_
    refine g_aload_n X dX11_law_21 0 rfl rfl ?_
    refine get_11_18 X (k := 138) k_138 s_138 m_5_75 dX11_law_22 ?_
    refine g_iconst X dX11_law_25 ic_1 ?_
    refine g_ialdC X (n := 9) (k := 156) k_156 s_156 (by decide) dX11_law_26 ?_
    refine g_imul X dX11_law_27 ?_
    refine g_cs X (st := []) (fun _ hh => ok_V X (k0 := 138) (As := [.int ((9 : Int32) * (M.1 156 (ix 1)))]) wkX11_read (tm_read M ((9 : Int32) * (M.1 156 (ix 1))) hh) rfl k_138 s_138 (by decide) rfl m_6_43 rfl (hRm (by decide) (by decide)) ⟨Nat.zero_le _, Nat.zero_le _⟩ (Nat.le_of_ble_eq_true rfl) dX11_law_28) (fun r4 M3 _ => ?_)
    refine g_istore_n X dX11_law_31 rfl (by decide) rfl [1, 0] (lu := [(0, .ref (ad 138)), (1, .int r4)]) rfl ?_
    refine g_aload_n X dX11_law_32 0 rfl rfl ?_
    refine g_iconst X dX11_law_33 ic_0 ?_
    refine put_11_8 X (k := 138) k_138 s_138 m_5_65 dX11_law_34 ?_
    refine g_mlet X (fun M5 => ?_)
    refine g_iload_n X dX11_law_37 1 rfl rfl ?_
    refine g_if_lt X 53 (by decide) dX11_law_38 (fun q38 => ?_) (fun q38 => ?_)
    · refine g_aload_n X dX11_law_53 0 rfl rfl ?_
      refine get_11_18 X (k := 138) k_138 s_138 m_5_75 dX11_law_54 ?_
      refine g_iconst X dX11_law_57 ic_1 ?_
      refine g_dup2 X dX11_law_58 rfl rfl ?_
      refine g_ialdC X (n := 9) (k := 156) k_156 s_156 (by decide) dX11_law_59 ?_
      refine g_dup_x2 X dX11_law_60 rfl rfl rfl ?_
      refine g_iconst X dX11_law_61 ic_1 ?_
      refine g_iadd X dX11_law_62 ?_
      refine g_iastC X (n := 9) (k := 156) k_156 s_156 (by decide) dX11_law_63 ?_
      refine g_mlet X (fun M8 => ?_)
      exact g_iret X hr rfl dX11_law_64
    · refine g_aload_n X dX11_law_41 0 rfl rfl ?_
      refine g_bipush X dX11_law_42 bi_m2 ?_
      refine g_cs X (st := []) (fun _ hh => ok_V X (k0 := 138) (As := [.int (-2)]) wkX11_no (tm_no M5 (-2) hh) rfl k_138 s_138 (by decide) rfl m_5_150 rfl (hRm (by decide) (by decide)) ⟨Nat.zero_le _, Nat.zero_le _⟩ (Nat.le_of_ble_eq_true rfl) dX11_law_44) (fun r10 M9 _ => ?_)
      refine g_pop X dX11_law_47 rfl ?_
      refine g_bipush X dX11_law_48 bi_m20 ?_
      refine g_iload_n X dX11_law_50 1 rfl rfl ?_
      refine g_isub X dX11_law_51 ?_
      exact g_iret X hr rfl dX11_law_52
  · refine g_aload_n X dX11_law_11 0 rfl rfl ?_
    refine g_bipush X dX11_law_12 bi_m6 ?_
    refine g_cs X (st := []) (fun _ hh => ok_V X (k0 := 138) (As := [.int (-6)]) wkX11_no (tm_no M (-6) hh) rfl k_138 s_138 (by decide) rfl m_5_150 rfl (hRm (by decide) (by decide)) ⟨Nat.zero_le _, Nat.zero_le _⟩ (Nat.le_of_ble_eq_true rfl) dX11_law_14) (fun r12 M11 _ => ?_)
    exact g_iret X hr rfl dX11_law_17
set_option maxRecDepth 100000 in
set_option maxHeartbeats 4000000 in
theorem tm_isLaw {l : Launch} {D : va_G} {cy : Nat → ClassId} {ad : Nat → Nat} {N : Mem} (M : Mem) (a1 : Int32) {x : Int32} (h : fm_isLaw M a1 = some x) : Mt l D cy ad yX11_isLaw cX11_isLaw 2 (some .boolean) 1 [.ref (ad 138), .int a1] ((wfM N) M) (some (.int x), (wfM N) M) := by
  refine met_of (fin := (finI M)) (lv0 := [(0, .ref (ad 138)), (1, .int a1)]) (by decide) (Nat.le_of_ble_eq_true rfl) rfl (lM N) h (fun p e s m args below meth c X hr => ?_)
  unfold fm_isLaw
  refine g_iload_n X dX11_isLaw_0 1 rfl rfl ?_
  refine g_if_lt X 18 (by decide) dX11_isLaw_1 (fun q1 => ?_) (fun q1 => ?_)
  · refine g_iconst X dX11_isLaw_18 ic_0 ?_
    exact g_zret X hr (isB_n (by decide)) rfl dX11_isLaw_19
  · refine g_iload_n X dX11_isLaw_4 1 rfl rfl ?_
    refine g_aload_n X dX11_isLaw_5 0 rfl rfl ?_
    refine get_11_18 X (k := 138) k_138 s_138 m_5_75 dX11_isLaw_6 ?_
    refine g_iconst X dX11_isLaw_9 ic_1 ?_
    refine g_ialdC X (n := 9) (k := 156) k_156 s_156 (by decide) dX11_isLaw_10 ?_
    refine g_icmp_ge X 18 (by decide) dX11_isLaw_11 (fun q11 => ?_) (fun q11 => ?_)
    · refine g_iconst X dX11_isLaw_18 ic_0 ?_
      exact g_zret X hr (isB_n (by decide)) rfl dX11_isLaw_19
    · refine g_iconst X dX11_isLaw_14 ic_1 ?_
      refine g_goto X 19 (by decide) dX11_isLaw_15 ?_
      exact g_zret X hr (isB_n (by decide)) rfl dX11_isLaw_19
theorem tm_isLawT {l : Launch} {D : va_G} {cy : Nat → ClassId} {ad : Nat → Nat} {N : Mem} (M : Mem) (a1 : Int32) : Mt l D cy ad yX11_isLaw cX11_isLaw 2 (some .boolean) 1 [.ref (ad 138), .int a1] ((wfM N) M) (some (.int (fm_isLawT M a1)), (wfM N) M) := tm_isLaw M a1 (fm_isLawE M a1)
set_option maxRecDepth 100000 in
set_option maxHeartbeats 4000000 in
theorem tm_lawOf {l : Launch} {D : va_G} {cy : Nat → ClassId} {ad : Nat → Nat} {N : Mem} (M : Mem) (a1 : Int32) (a2 : Int32) {x : (Int32 × Mem)} (h : fm_lawOf M a1 a2 = some x) : Mt l D cy ad yX11_lawOf cX11_lawOf 3 (some .int) 2 [.ref (ad 138), .int a1, .int a2] ((wfM N) M) (some (.int x.1), (wfM N) x.2) := by
  refine met_of (fin := finS) (lv0 := [(0, .ref (ad 138)), (1, .int a1), (2, .int a2)]) (by decide) (Nat.le_of_ble_eq_true rfl) rfl (lM N) h (fun p e s m args below meth c X hr => ?_)
  unfold fm_lawOf
  refine g_aload_n X dX11_lawOf_0 0 rfl rfl ?_
  refine g_iload_n X dX11_lawOf_1 1 rfl rfl ?_
  refine g_ct X (v0 := .int (fm_isLawT M a1)) (st := []) (ok_V X (k0 := 138) (As := [.int a1]) wkX11_isLaw (tm_isLawT M a1) rfl k_138 s_138 (by decide) rfl m_6_74 rfl (hRm (by decide) (by decide)) ⟨Nat.zero_le _, Nat.zero_le _⟩ (Nat.le_of_ble_eq_true rfl) dX11_lawOf_2) ?_
  refine g_if_eq X 18 (by decide) dX11_lawOf_5 (fun q5 => ?_) (fun q5 => ?_)
  · refine g_aload_n X dX11_lawOf_18 0 rfl rfl ?_
    refine g_bipush X dX11_lawOf_19 bi_m2 ?_
    refine g_cs X (st := []) (fun _ hh => ok_V X (k0 := 138) (As := [.int (-2)]) wkX11_no (tm_no M (-2) hh) rfl k_138 s_138 (by decide) rfl m_5_150 rfl (hRm (by decide) (by decide)) ⟨Nat.zero_le _, Nat.zero_le _⟩ (Nat.le_of_ble_eq_true rfl) dX11_lawOf_21) (fun r2 M1 _ => ?_)
    exact g_iret X hr rfl dX11_lawOf_24
  · refine g_iload_n X dX11_lawOf_8 2 rfl rfl ?_
    refine g_if_lt X 18 (by decide) dX11_lawOf_9 (fun q9 => ?_) (fun q9 => ?_)
    · refine g_aload_n X dX11_lawOf_18 0 rfl rfl ?_
      refine g_bipush X dX11_lawOf_19 bi_m2 ?_
      refine g_cs X (st := []) (fun _ hh => ok_V X (k0 := 138) (As := [.int (-2)]) wkX11_no (tm_no M (-2) hh) rfl k_138 s_138 (by decide) rfl m_5_150 rfl (hRm (by decide) (by decide)) ⟨Nat.zero_le _, Nat.zero_le _⟩ (Nat.le_of_ble_eq_true rfl) dX11_lawOf_21) (fun r4 M3 _ => ?_)
      exact g_iret X hr rfl dX11_lawOf_24
    · refine g_iload_n X dX11_lawOf_12 2 rfl rfl ?_
      refine g_bipush X dX11_lawOf_13 bi_8 ?_
      refine g_icmp_le X 25 (by decide) dX11_lawOf_15 (fun q15 => ?_) (fun q15 => ?_)
      · refine g_aload_n X dX11_lawOf_25 0 rfl rfl ?_
        refine get_11_10 X (k := 138) k_138 s_138 m_5_67 dX11_lawOf_26 ?_
        refine g_bipush X dX11_lawOf_29 bi_9 ?_
        refine g_iload_n X dX11_lawOf_31 1 rfl rfl ?_
        refine g_imul X dX11_lawOf_32 ?_
        refine g_iload_n X dX11_lawOf_33 2 rfl rfl ?_
        refine g_iadd X dX11_lawOf_34 ?_
        refine g_iald X (n := 54) (k := 148) k_148 s_148 dX11_lawOf_35 (fun h5 => ?_)
        exact g_iret X hr rfl dX11_lawOf_36
      · refine g_aload_n X dX11_lawOf_18 0 rfl rfl ?_
        refine g_bipush X dX11_lawOf_19 bi_m2 ?_
        refine g_cs X (st := []) (fun _ hh => ok_V X (k0 := 138) (As := [.int (-2)]) wkX11_no (tm_no M (-2) hh) rfl k_138 s_138 (by decide) rfl m_5_150 rfl (hRm (by decide) (by decide)) ⟨Nat.zero_le _, Nat.zero_le _⟩ (Nat.le_of_ble_eq_true rfl) dX11_lawOf_21) (fun r7 M6 _ => ?_)
        exact g_iret X hr rfl dX11_lawOf_24
set_option maxRecDepth 100000 in
set_option maxHeartbeats 4000000 in
theorem tm_force {l : Launch} {D : va_G} {cy : Nat → ClassId} {ad : Nat → Nat} {N : Mem} (M : Mem) (a1 : Int32) {x : (Int32 × Mem)} (h : fm_force M a1 = some x) : Mt l D cy ad yX11_force cX11_force 3 (some .int) 2 [.ref (ad 138), .int a1] ((wfM N) M) (some (.int x.1), (wfM N) x.2) := by
  refine met_of (fin := finS) (lv0 := [(0, .ref (ad 138)), (1, .int a1)]) (by decide) (Nat.le_of_ble_eq_true rfl) rfl (lM N) h (fun p e s m args below meth c X hr => ?_)
  unfold fm_force
  refine g_iload_n X dX11_force_0 1 rfl rfl ?_
  refine g_iconst X dX11_force_1 ic_m1 ?_
  refine g_icmp_eq X 20 (by decide) dX11_force_2 (fun q2 => ?_) (fun q2 => ?_)
  · refine g_aload_n X dX11_force_20 0 rfl rfl ?_
    refine get_11_18 X (k := 138) k_138 s_138 m_5_75 dX11_force_21 ?_
    refine g_iconst X dX11_force_24 ic_4 ?_
    refine g_ialdC X (n := 9) (k := 156) k_156 s_156 (by decide) dX11_force_25 ?_
    refine g_ilet X (fun v2 => ?_)
    refine g_istore_n X dX11_force_26 rfl (by decide) rfl [1, 2, 0] (lu := [(0, .ref (ad 138)), (1, .int a1), (2, .int v2)]) rfl ?_
    refine g_aload_n X dX11_force_27 0 rfl rfl ?_
    refine get_11_18 X (k := 138) k_138 s_138 m_5_75 dX11_force_28 ?_
    refine g_iconst X dX11_force_31 ic_4 ?_
    refine g_iload_n X dX11_force_32 1 rfl rfl ?_
    refine g_iastC X (n := 9) (k := 156) k_156 s_156 (by decide) dX11_force_33 ?_
    refine g_mlet X (fun M4 => ?_)
    refine g_iload_n X dX11_force_34 2 rfl rfl ?_
    exact g_iret X hr rfl dX11_force_35
  · refine g_aload_n X dX11_force_5 0 rfl rfl ?_
    refine g_iload_n X dX11_force_6 1 rfl rfl ?_
    refine g_ct X (v0 := .int (fm_isLawT M a1)) (st := []) (ok_V X (k0 := 138) (As := [.int a1]) wkX11_isLaw (tm_isLawT M a1) rfl k_138 s_138 (by decide) rfl m_6_74 rfl (hRm (by decide) (by decide)) ⟨Nat.zero_le _, Nat.zero_le _⟩ (Nat.le_of_ble_eq_true rfl) dX11_force_7) ?_
    refine g_if_ne X 20 (by decide) dX11_force_10 (fun q10 => ?_) (fun q10 => ?_)
    · refine g_aload_n X dX11_force_20 0 rfl rfl ?_
      refine get_11_18 X (k := 138) k_138 s_138 m_5_75 dX11_force_21 ?_
      refine g_iconst X dX11_force_24 ic_4 ?_
      refine g_ialdC X (n := 9) (k := 156) k_156 s_156 (by decide) dX11_force_25 ?_
      refine g_ilet X (fun v6 => ?_)
      refine g_istore_n X dX11_force_26 rfl (by decide) rfl [1, 2, 0] (lu := [(0, .ref (ad 138)), (1, .int a1), (2, .int v6)]) rfl ?_
      refine g_aload_n X dX11_force_27 0 rfl rfl ?_
      refine get_11_18 X (k := 138) k_138 s_138 m_5_75 dX11_force_28 ?_
      refine g_iconst X dX11_force_31 ic_4 ?_
      refine g_iload_n X dX11_force_32 1 rfl rfl ?_
      refine g_iastC X (n := 9) (k := 156) k_156 s_156 (by decide) dX11_force_33 ?_
      refine g_mlet X (fun M8 => ?_)
      refine g_iload_n X dX11_force_34 2 rfl rfl ?_
      exact g_iret X hr rfl dX11_force_35
    · refine g_aload_n X dX11_force_13 0 rfl rfl ?_
      refine g_bipush X dX11_force_14 bi_m2 ?_
      refine g_cs X (st := []) (fun _ hh => ok_V X (k0 := 138) (As := [.int (-2)]) wkX11_no (tm_no M (-2) hh) rfl k_138 s_138 (by decide) rfl m_5_150 rfl (hRm (by decide) (by decide)) ⟨Nat.zero_le _, Nat.zero_le _⟩ (Nat.le_of_ble_eq_true rfl) dX11_force_16) (fun r10 M9 _ => ?_)
      exact g_iret X hr rfl dX11_force_19
set_option maxRecDepth 100000 in
set_option maxHeartbeats 4000000 in
theorem tm_leaper {l : Launch} {D : va_G} {cy : Nat → ClassId} {ad : Nat → Nat} {N : Mem} (M : Mem) (a1 : Int32) {x : (Int32 × Mem)} (h : fm_leaper M a1 = some x) : Mt l D cy ad yX11_leaper cX11_leaper 3 (some .int) 2 [.ref (ad 138), .int a1] ((wfM N) M) (some (.int x.1), (wfM N) x.2) := by
  refine met_of (fin := finS) (lv0 := [(0, .ref (ad 138)), (1, .int a1)]) (by decide) (Nat.le_of_ble_eq_true rfl) rfl (lM N) h (fun p e s m args below meth c X hr => ?_)
  unfold fm_leaper
  refine g_iload_n X dX11_leaper_0 1 rfl rfl ?_
  refine g_if_lt X 10 (by decide) dX11_leaper_1 (fun q1 => ?_) (fun q1 => ?_)
  · refine g_aload_n X dX11_leaper_10 0 rfl rfl ?_
    refine g_bipush X dX11_leaper_11 bi_m2 ?_
    refine g_cs X (st := []) (fun _ hh => ok_V X (k0 := 138) (As := [.int (-2)]) wkX11_no (tm_no M (-2) hh) rfl k_138 s_138 (by decide) rfl m_5_150 rfl (hRm (by decide) (by decide)) ⟨Nat.zero_le _, Nat.zero_le _⟩ (Nat.le_of_ble_eq_true rfl) dX11_leaper_13) (fun r2 M1 _ => ?_)
    exact g_iret X hr rfl dX11_leaper_16
  · refine g_iload_n X dX11_leaper_4 1 rfl rfl ?_
    refine g_bipush X dX11_leaper_5 bi_99 ?_
    refine g_icmp_le X 17 (by decide) dX11_leaper_7 (fun q7 => ?_) (fun q7 => ?_)
    · refine g_aload_n X dX11_leaper_17 0 rfl rfl ?_
      refine get_11_18 X (k := 138) k_138 s_138 m_5_75 dX11_leaper_18 ?_
      refine g_iconst X dX11_leaper_21 ic_2 ?_
      refine g_ialdC X (n := 9) (k := 156) k_156 s_156 (by decide) dX11_leaper_22 ?_
      refine g_bipush X dX11_leaper_23 bi_6 ?_
      refine g_icmp_ne X 35 (by decide) dX11_leaper_25 (fun q25 => ?_) (fun q25 => ?_)
      · refine g_aload_n X dX11_leaper_35 0 rfl rfl ?_
        refine get_11_18 X (k := 138) k_138 s_138 m_5_75 dX11_leaper_36 ?_
        refine g_iconst X dX11_leaper_39 ic_2 ?_
        refine g_dup2 X dX11_leaper_40 rfl rfl ?_
        refine g_ialdC X (n := 9) (k := 156) k_156 s_156 (by decide) dX11_leaper_41 ?_
        refine g_dup_x2 X dX11_leaper_42 rfl rfl rfl ?_
        refine g_iconst X dX11_leaper_43 ic_1 ?_
        refine g_iadd X dX11_leaper_44 ?_
        refine g_iastC X (n := 9) (k := 156) k_156 s_156 (by decide) dX11_leaper_45 ?_
        refine g_mlet X (fun M6 => ?_)
        refine g_ilet X (fun v7 => ?_)
        refine g_istore_n X dX11_leaper_46 rfl (by decide) rfl [1, 2, 0] (lu := [(0, .ref (ad 138)), (1, .int a1), (2, .int v7)]) rfl ?_
        refine g_aload_n X dX11_leaper_47 0 rfl rfl ?_
        refine get_11_11 X (k := 138) k_138 s_138 m_5_68 dX11_leaper_48 ?_
        refine g_iload_n X dX11_leaper_51 2 rfl rfl ?_
        refine g_iload_n X dX11_leaper_52 1 rfl rfl ?_
        refine g_iast X (n := 6) (k := 149) k_149 s_149 dX11_leaper_53 (fun h8 => ?_)
        refine g_mlet X (fun M9 => ?_)
        refine g_aload_n X dX11_leaper_54 0 rfl rfl ?_
        refine get_11_12 X (k := 138) k_138 s_138 m_5_69 dX11_leaper_55 ?_
        refine g_iload_n X dX11_leaper_58 2 rfl rfl ?_
        refine g_iconst X dX11_leaper_59 ic_0 ?_
        refine g_iast X (n := 6) (k := 150) k_150 s_150 dX11_leaper_60 (fun h10 => ?_)
        refine g_mlet X (fun M11 => ?_)
        refine g_aload_n X dX11_leaper_61 0 rfl rfl ?_
        refine get_11_13 X (k := 138) k_138 s_138 m_5_70 dX11_leaper_62 ?_
        refine g_iload_n X dX11_leaper_65 2 rfl rfl ?_
        refine g_iconst X dX11_leaper_66 ic_0 ?_
        refine g_iast X (n := 6) (k := 151) k_151 s_151 dX11_leaper_67 (fun h12 => ?_)
        refine g_mlet X (fun M13 => ?_)
        refine g_iload_n X dX11_leaper_68 2 rfl rfl ?_
        exact g_iret X hr rfl dX11_leaper_69
      · refine g_aload_n X dX11_leaper_28 0 rfl rfl ?_
        refine g_bipush X dX11_leaper_29 bi_m6 ?_
        refine g_cs X (st := []) (fun _ hh => ok_V X (k0 := 138) (As := [.int (-6)]) wkX11_no (tm_no M (-6) hh) rfl k_138 s_138 (by decide) rfl m_5_150 rfl (hRm (by decide) (by decide)) ⟨Nat.zero_le _, Nat.zero_le _⟩ (Nat.le_of_ble_eq_true rfl) dX11_leaper_31) (fun r15 M14 _ => ?_)
        exact g_iret X hr rfl dX11_leaper_34
    · refine g_aload_n X dX11_leaper_10 0 rfl rfl ?_
      refine g_bipush X dX11_leaper_11 bi_m2 ?_
      refine g_cs X (st := []) (fun _ hh => ok_V X (k0 := 138) (As := [.int (-2)]) wkX11_no (tm_no M (-2) hh) rfl k_138 s_138 (by decide) rfl m_5_150 rfl (hRm (by decide) (by decide)) ⟨Nat.zero_le _, Nat.zero_le _⟩ (Nat.le_of_ble_eq_true rfl) dX11_leaper_13) (fun r17 M16 _ => ?_)
      exact g_iret X hr rfl dX11_leaper_16
set_option maxRecDepth 100000 in
set_option maxHeartbeats 4000000 in
theorem tm_isLeaper {l : Launch} {D : va_G} {cy : Nat → ClassId} {ad : Nat → Nat} {N : Mem} (M : Mem) (a1 : Int32) {x : Int32} (h : fm_isLeaper M a1 = some x) : Mt l D cy ad yX11_isLeaper cX11_isLeaper 2 (some .boolean) 1 [.ref (ad 138), .int a1] ((wfM N) M) (some (.int x), (wfM N) M) := by
  refine met_of (fin := (finI M)) (lv0 := [(0, .ref (ad 138)), (1, .int a1)]) (by decide) (Nat.le_of_ble_eq_true rfl) rfl (lM N) h (fun p e s m args below meth c X hr => ?_)
  unfold fm_isLeaper
  refine g_iload_n X dX11_isLeaper_0 1 rfl rfl ?_
  refine g_if_lt X 18 (by decide) dX11_isLeaper_1 (fun q1 => ?_) (fun q1 => ?_)
  · refine g_iconst X dX11_isLeaper_18 ic_0 ?_
    exact g_zret X hr (isB_n (by decide)) rfl dX11_isLeaper_19
  · refine g_iload_n X dX11_isLeaper_4 1 rfl rfl ?_
    refine g_aload_n X dX11_isLeaper_5 0 rfl rfl ?_
    refine get_11_18 X (k := 138) k_138 s_138 m_5_75 dX11_isLeaper_6 ?_
    refine g_iconst X dX11_isLeaper_9 ic_2 ?_
    refine g_ialdC X (n := 9) (k := 156) k_156 s_156 (by decide) dX11_isLeaper_10 ?_
    refine g_icmp_ge X 18 (by decide) dX11_isLeaper_11 (fun q11 => ?_) (fun q11 => ?_)
    · refine g_iconst X dX11_isLeaper_18 ic_0 ?_
      exact g_zret X hr (isB_n (by decide)) rfl dX11_isLeaper_19
    · refine g_iconst X dX11_isLeaper_14 ic_1 ?_
      refine g_goto X 19 (by decide) dX11_isLeaper_15 ?_
      exact g_zret X hr (isB_n (by decide)) rfl dX11_isLeaper_19
theorem tm_isLeaperT {l : Launch} {D : va_G} {cy : Nat → ClassId} {ad : Nat → Nat} {N : Mem} (M : Mem) (a1 : Int32) : Mt l D cy ad yX11_isLeaper cX11_isLeaper 2 (some .boolean) 1 [.ref (ad 138), .int a1] ((wfM N) M) (some (.int (fm_isLeaperT M a1)), (wfM N) M) := tm_isLeaper M a1 (fm_isLeaperE M a1)
set_option maxRecDepth 100000 in
set_option maxHeartbeats 4000000 in
theorem tm_leaperOf {l : Launch} {D : va_G} {cy : Nat → ClassId} {ad : Nat → Nat} {N : Mem} (M : Mem) (a1 : Int32) (a2 : Int32) {x : (Int32 × Mem)} (h : fm_leaperOf M a1 a2 = some x) : Mt l D cy ad yX11_leaperOf cX11_leaperOf 3 (some .int) 2 [.ref (ad 138), .int a1, .int a2] ((wfM N) M) (some (.int x.1), (wfM N) x.2) := by
  refine met_of (fin := finS) (lv0 := [(0, .ref (ad 138)), (1, .int a1), (2, .int a2)]) (by decide) (Nat.le_of_ble_eq_true rfl) rfl (lM N) h (fun p e s m args below meth c X hr => ?_)
  unfold fm_leaperOf
  refine g_aload_n X dX11_leaperOf_0 0 rfl rfl ?_
  refine g_iload_n X dX11_leaperOf_1 1 rfl rfl ?_
  refine g_ct X (v0 := .int (fm_isLeaperT M a1)) (st := []) (ok_V X (k0 := 138) (As := [.int a1]) wkX11_isLeaper (tm_isLeaperT M a1) rfl k_138 s_138 (by decide) rfl m_6_90 rfl (hRm (by decide) (by decide)) ⟨Nat.zero_le _, Nat.zero_le _⟩ (Nat.le_of_ble_eq_true rfl) dX11_leaperOf_2) ?_
  refine g_if_eq X 17 (by decide) dX11_leaperOf_5 (fun q5 => ?_) (fun q5 => ?_)
  · refine g_aload_n X dX11_leaperOf_17 0 rfl rfl ?_
    refine g_bipush X dX11_leaperOf_18 bi_m2 ?_
    refine g_cs X (st := []) (fun _ hh => ok_V X (k0 := 138) (As := [.int (-2)]) wkX11_no (tm_no M (-2) hh) rfl k_138 s_138 (by decide) rfl m_5_150 rfl (hRm (by decide) (by decide)) ⟨Nat.zero_le _, Nat.zero_le _⟩ (Nat.le_of_ble_eq_true rfl) dX11_leaperOf_20) (fun r2 M1 _ => ?_)
    exact g_iret X hr rfl dX11_leaperOf_23
  · refine g_iload_n X dX11_leaperOf_8 2 rfl rfl ?_
    refine g_if_lt X 17 (by decide) dX11_leaperOf_9 (fun q9 => ?_) (fun q9 => ?_)
    · refine g_aload_n X dX11_leaperOf_17 0 rfl rfl ?_
      refine g_bipush X dX11_leaperOf_18 bi_m2 ?_
      refine g_cs X (st := []) (fun _ hh => ok_V X (k0 := 138) (As := [.int (-2)]) wkX11_no (tm_no M (-2) hh) rfl k_138 s_138 (by decide) rfl m_5_150 rfl (hRm (by decide) (by decide)) ⟨Nat.zero_le _, Nat.zero_le _⟩ (Nat.le_of_ble_eq_true rfl) dX11_leaperOf_20) (fun r4 M3 _ => ?_)
      exact g_iret X hr rfl dX11_leaperOf_23
    · refine g_iload_n X dX11_leaperOf_12 2 rfl rfl ?_
      refine g_iconst X dX11_leaperOf_13 ic_2 ?_
      refine g_icmp_le X 24 (by decide) dX11_leaperOf_14 (fun q14 => ?_) (fun q14 => ?_)
      · refine g_iload_n X dX11_leaperOf_24 2 rfl rfl ?_
        refine g_if_ne X 35 (by decide) dX11_leaperOf_25 (fun q25 => ?_) (fun q25 => ?_)
        · refine g_iload_n X dX11_leaperOf_35 2 rfl rfl ?_
          refine g_iconst X dX11_leaperOf_36 ic_1 ?_
          refine g_icmp_ne X 49 (by decide) dX11_leaperOf_37 (fun q37 => ?_) (fun q37 => ?_)
          · refine g_aload_n X dX11_leaperOf_49 0 rfl rfl ?_
            refine get_11_13 X (k := 138) k_138 s_138 m_5_70 dX11_leaperOf_50 ?_
            refine g_iload_n X dX11_leaperOf_53 1 rfl rfl ?_
            refine g_iald X (n := 6) (k := 151) k_151 s_151 dX11_leaperOf_54 (fun h5 => ?_)
            exact g_iret X hr rfl dX11_leaperOf_55
          · refine g_aload_n X dX11_leaperOf_40 0 rfl rfl ?_
            refine get_11_12 X (k := 138) k_138 s_138 m_5_69 dX11_leaperOf_41 ?_
            refine g_iload_n X dX11_leaperOf_44 1 rfl rfl ?_
            refine g_iald X (n := 6) (k := 150) k_150 s_150 dX11_leaperOf_45 (fun h6 => ?_)
            refine g_goto X 55 (by decide) dX11_leaperOf_46 ?_
            exact g_iret X hr rfl dX11_leaperOf_55
        · refine g_aload_n X dX11_leaperOf_28 0 rfl rfl ?_
          refine get_11_11 X (k := 138) k_138 s_138 m_5_68 dX11_leaperOf_29 ?_
          refine g_iload_n X dX11_leaperOf_32 1 rfl rfl ?_
          refine g_iald X (n := 6) (k := 149) k_149 s_149 dX11_leaperOf_33 (fun h7 => ?_)
          exact g_iret X hr rfl dX11_leaperOf_34
      · refine g_aload_n X dX11_leaperOf_17 0 rfl rfl ?_
        refine g_bipush X dX11_leaperOf_18 bi_m2 ?_
        refine g_cs X (st := []) (fun _ hh => ok_V X (k0 := 138) (As := [.int (-2)]) wkX11_no (tm_no M (-2) hh) rfl k_138 s_138 (by decide) rfl m_5_150 rfl (hRm (by decide) (by decide)) ⟨Nat.zero_le _, Nat.zero_le _⟩ (Nat.le_of_ble_eq_true rfl) dX11_leaperOf_20) (fun r9 M8 _ => ?_)
        exact g_iret X hr rfl dX11_leaperOf_23
set_option maxRecDepth 100000 in
set_option maxHeartbeats 4000000 in
theorem tm_tried {l : Launch} {D : va_G} {cy : Nat → ClassId} {ad : Nat → Nat} {N : Mem} (M : Mem) (a1 : Int32) (a2 : Int32) (a3 : Int32) {x : (Int32 × Mem)} (h : fm_tried M a1 a2 a3 = some x) : Mt l D cy ad yX11_tried cX11_tried 4 (some .int) 2 [.ref (ad 138), .int a1, .int a2, .int a3] ((wfM N) M) (some (.int x.1), (wfM N) x.2) := by
  refine met_of (fin := finS) (lv0 := [(0, .ref (ad 138)), (1, .int a1), (2, .int a2), (3, .int a3)]) (by decide) (Nat.le_of_ble_eq_true rfl) rfl (lM N) h (fun p e s m args below meth c X hr => ?_)
  unfold fm_tried
  refine g_aload_n X dX11_tried_0 0 rfl rfl ?_
  refine g_iload_n X dX11_tried_1 1 rfl rfl ?_
  refine g_ct X (v0 := .int (fm_isLeaperT M a1)) (st := []) (ok_V X (k0 := 138) (As := [.int a1]) wkX11_isLeaper (tm_isLeaperT M a1) rfl k_138 s_138 (by decide) rfl m_6_90 rfl (hRm (by decide) (by decide)) ⟨Nat.zero_le _, Nat.zero_le _⟩ (Nat.le_of_ble_eq_true rfl) dX11_tried_2) ?_
  refine g_if_eq X 28 (by decide) dX11_tried_5 (fun q5 => ?_) (fun q5 => ?_)
  · refine g_aload_n X dX11_tried_28 0 rfl rfl ?_
    refine g_bipush X dX11_tried_29 bi_m2 ?_
    refine g_cs X (st := []) (fun _ hh => ok_V X (k0 := 138) (As := [.int (-2)]) wkX11_no (tm_no M (-2) hh) rfl k_138 s_138 (by decide) rfl m_5_150 rfl (hRm (by decide) (by decide)) ⟨Nat.zero_le _, Nat.zero_le _⟩ (Nat.le_of_ble_eq_true rfl) dX11_tried_31) (fun r2 M1 _ => ?_)
    exact g_iret X hr rfl dX11_tried_34
  · refine g_iload_n X dX11_tried_8 2 rfl rfl ?_
    refine g_iconst X dX11_tried_9 ic_1 ?_
    refine g_icmp_lt X 28 (by decide) dX11_tried_10 (fun q10 => ?_) (fun q10 => ?_)
    · refine g_aload_n X dX11_tried_28 0 rfl rfl ?_
      refine g_bipush X dX11_tried_29 bi_m2 ?_
      refine g_cs X (st := []) (fun _ hh => ok_V X (k0 := 138) (As := [.int (-2)]) wkX11_no (tm_no M (-2) hh) rfl k_138 s_138 (by decide) rfl m_5_150 rfl (hRm (by decide) (by decide)) ⟨Nat.zero_le _, Nat.zero_le _⟩ (Nat.le_of_ble_eq_true rfl) dX11_tried_31) (fun r4 M3 _ => ?_)
      exact g_iret X hr rfl dX11_tried_34
    · refine g_iload_n X dX11_tried_13 2 rfl rfl ?_
      refine g_bipush X dX11_tried_14 bi_99 ?_
      refine g_icmp_gt X 28 (by decide) dX11_tried_16 (fun q16 => ?_) (fun q16 => ?_)
      · refine g_aload_n X dX11_tried_28 0 rfl rfl ?_
        refine g_bipush X dX11_tried_29 bi_m2 ?_
        refine g_cs X (st := []) (fun _ hh => ok_V X (k0 := 138) (As := [.int (-2)]) wkX11_no (tm_no M (-2) hh) rfl k_138 s_138 (by decide) rfl m_5_150 rfl (hRm (by decide) (by decide)) ⟨Nat.zero_le _, Nat.zero_le _⟩ (Nat.le_of_ble_eq_true rfl) dX11_tried_31) (fun r6 M5 _ => ?_)
        exact g_iret X hr rfl dX11_tried_34
      · refine g_iload_n X dX11_tried_19 3 rfl rfl ?_
        refine g_if_lt X 28 (by decide) dX11_tried_20 (fun q20 => ?_) (fun q20 => ?_)
        · refine g_aload_n X dX11_tried_28 0 rfl rfl ?_
          refine g_bipush X dX11_tried_29 bi_m2 ?_
          refine g_cs X (st := []) (fun _ hh => ok_V X (k0 := 138) (As := [.int (-2)]) wkX11_no (tm_no M (-2) hh) rfl k_138 s_138 (by decide) rfl m_5_150 rfl (hRm (by decide) (by decide)) ⟨Nat.zero_le _, Nat.zero_le _⟩ (Nat.le_of_ble_eq_true rfl) dX11_tried_31) (fun r8 M7 _ => ?_)
          exact g_iret X hr rfl dX11_tried_34
        · refine g_iload_n X dX11_tried_23 3 rfl rfl ?_
          refine g_iload_n X dX11_tried_24 2 rfl rfl ?_
          refine g_icmp_le X 35 (by decide) dX11_tried_25 (fun q25 => ?_) (fun q25 => ?_)
          · refine g_aload_n X dX11_tried_35 0 rfl rfl ?_
            refine get_11_12 X (k := 138) k_138 s_138 m_5_69 dX11_tried_36 ?_
            refine g_iload_n X dX11_tried_39 1 rfl rfl ?_
            refine g_dup2 X dX11_tried_40 rfl rfl ?_
            refine g_iald X (n := 6) (k := 150) k_150 s_150 dX11_tried_41 (fun h9 => ?_)
            refine g_iload_n X dX11_tried_42 2 rfl rfl ?_
            refine g_iadd X dX11_tried_43 ?_
            refine g_iast X (n := 6) (k := 150) k_150 s_150 dX11_tried_44 (fun h10 => ?_)
            refine g_mlet X (fun M11 => ?_)
            refine g_aload_n X dX11_tried_45 0 rfl rfl ?_
            refine get_11_13 X (k := 138) k_138 s_138 m_5_70 dX11_tried_46 ?_
            refine g_iload_n X dX11_tried_49 1 rfl rfl ?_
            refine g_dup2 X dX11_tried_50 rfl rfl ?_
            refine g_iald X (n := 6) (k := 151) k_151 s_151 dX11_tried_51 (fun h12 => ?_)
            refine g_iload_n X dX11_tried_52 3 rfl rfl ?_
            refine g_iadd X dX11_tried_53 ?_
            refine g_iast X (n := 6) (k := 151) k_151 s_151 dX11_tried_54 (fun h13 => ?_)
            refine g_mlet X (fun M14 => ?_)
            refine g_aload_n X dX11_tried_55 0 rfl rfl ?_
            refine get_11_12 X (k := 138) k_138 s_138 m_5_69 dX11_tried_56 ?_
            refine g_iload_n X dX11_tried_59 1 rfl rfl ?_
            refine g_iald X (n := 6) (k := 150) k_150 s_150 dX11_tried_60 (fun h15 => ?_)
            exact g_iret X hr rfl dX11_tried_61
          · refine g_aload_n X dX11_tried_28 0 rfl rfl ?_
            refine g_bipush X dX11_tried_29 bi_m2 ?_
            refine g_cs X (st := []) (fun _ hh => ok_V X (k0 := 138) (As := [.int (-2)]) wkX11_no (tm_no M (-2) hh) rfl k_138 s_138 (by decide) rfl m_5_150 rfl (hRm (by decide) (by decide)) ⟨Nat.zero_le _, Nat.zero_le _⟩ (Nat.le_of_ble_eq_true rfl) dX11_tried_31) (fun r17 M16 _ => ?_)
            exact g_iret X hr rfl dX11_tried_34
set_option maxRecDepth 100000 in
set_option maxHeartbeats 4000000 in
theorem tm_learntBy {l : Launch} {D : va_G} {cy : Nat → ClassId} {ad : Nat → Nat} {N : Mem} (M : Mem) (a1 : Int32) {x : Int32} (h : fm_learntBy M a1 = some x) : Mt l D cy ad yX11_learntBy cX11_learntBy 3 (some .int) 1 [.ref (ad 138), .int a1] ((wfM N) M) (some (.int x), (wfM N) M) := by
  refine met_of (fin := (finI M)) (lv0 := [(0, .ref (ad 138)), (1, .int a1)]) (by decide) (Nat.le_of_ble_eq_true rfl) rfl (lM N) h (fun p e s m args below meth c X hr => ?_)
  unfold fm_learntBy
  refine g_bipush X dX11_learntBy_0 bi_100 ?_
  refine g_aload_n X dX11_learntBy_2 0 rfl rfl ?_
  refine get_11_12 X (k := 138) k_138 s_138 m_5_69 dX11_learntBy_3 ?_
  refine g_iload_n X dX11_learntBy_6 1 rfl rfl ?_
  refine g_iald X (n := 6) (k := 150) k_150 s_150 dX11_learntBy_7 (fun h1 => ?_)
  refine g_aload_n X dX11_learntBy_8 0 rfl rfl ?_
  refine get_11_13 X (k := 138) k_138 s_138 m_5_70 dX11_learntBy_9 ?_
  refine g_iload_n X dX11_learntBy_12 1 rfl rfl ?_
  refine g_iald X (n := 6) (k := 151) k_151 s_151 dX11_learntBy_13 (fun h2 => ?_)
  refine g_isub X dX11_learntBy_14 ?_
  refine g_imul X dX11_learntBy_15 ?_
  refine g_bipush X dX11_learntBy_16 bi_50 ?_
  refine g_iadd X dX11_learntBy_18 ?_
  refine g_aload_n X dX11_learntBy_19 0 rfl rfl ?_
  refine get_11_12 X (k := 138) k_138 s_138 m_5_69 dX11_learntBy_20 ?_
  refine g_iload_n X dX11_learntBy_23 1 rfl rfl ?_
  refine g_iald X (n := 6) (k := 150) k_150 s_150 dX11_learntBy_24 (fun h3 => ?_)
  refine g_iconst X dX11_learntBy_25 ic_1 ?_
  refine g_iadd X dX11_learntBy_26 ?_
  refine g_idiv X dX11_learntBy_27 (fun _ => ?_)
  refine g_ilet X (fun v4 => ?_)
  refine g_istore_n X dX11_learntBy_28 rfl (by decide) rfl [0] (lu := [(2, .int v4)]) rfl ?_
  refine g_iload_n X dX11_learntBy_29 0 rfl rfl ?_
  refine g_bipush X dX11_learntBy_30 bi_99 ?_
  refine g_icmp_le X 40 (by decide) dX11_learntBy_32 (fun q32 => ?_) (fun q32 => ?_)
  · refine g_iload_n X dX11_learntBy_40 0 rfl rfl ?_
    exact g_iret X hr rfl dX11_learntBy_41
  · refine g_bipush X dX11_learntBy_35 bi_99 ?_
    refine g_goto X 41 (by decide) dX11_learntBy_37 ?_
    exact g_iret X hr rfl dX11_learntBy_41
set_option maxRecDepth 100000 in
set_option maxHeartbeats 4000000 in
theorem tm_learnt {l : Launch} {D : va_G} {cy : Nat → ClassId} {ad : Nat → Nat} {N : Mem} (M : Mem) (a1 : Int32) {x : (Int32 × Mem)} (h : fm_learnt M a1 = some x) : Mt l D cy ad yX11_learnt cX11_learnt 2 (some .int) 2 [.ref (ad 138), .int a1] ((wfM N) M) (some (.int x.1), (wfM N) x.2) := by
  refine met_of (fin := finS) (lv0 := [(0, .ref (ad 138)), (1, .int a1)]) (by decide) (Nat.le_of_ble_eq_true rfl) rfl (lM N) h (fun p e s m args below meth c X hr => ?_)
  unfold fm_learnt
  refine g_aload_n X dX11_learnt_0 0 rfl rfl ?_
  refine g_iload_n X dX11_learnt_1 1 rfl rfl ?_
  refine g_ct X (v0 := .int (fm_isLeaperT M a1)) (st := []) (ok_V X (k0 := 138) (As := [.int a1]) wkX11_isLeaper (tm_isLeaperT M a1) rfl k_138 s_138 (by decide) rfl m_6_90 rfl (hRm (by decide) (by decide)) ⟨Nat.zero_le _, Nat.zero_le _⟩ (Nat.le_of_ble_eq_true rfl) dX11_learnt_2) ?_
  refine g_if_ne X 15 (by decide) dX11_learnt_5 (fun q5 => ?_) (fun q5 => ?_)
  · refine g_aload_n X dX11_learnt_15 0 rfl rfl ?_
    refine g_iload_n X dX11_learnt_16 1 rfl rfl ?_
    refine g_ci X (st := []) (fun _ hh => ok_V X (k0 := 138) (As := [.int a1]) wkX11_learntBy (tm_learntBy M a1 hh) rfl k_138 s_138 (by decide) rfl m_6_102 rfl (hRm (by decide) (by decide)) ⟨Nat.zero_le _, Nat.zero_le _⟩ (Nat.le_of_ble_eq_true rfl) dX11_learnt_17) (fun r1 _ => ?_)
    exact g_iret X hr rfl dX11_learnt_20
  · refine g_aload_n X dX11_learnt_8 0 rfl rfl ?_
    refine g_bipush X dX11_learnt_9 bi_m2 ?_
    refine g_cs X (st := []) (fun _ hh => ok_V X (k0 := 138) (As := [.int (-2)]) wkX11_no (tm_no M (-2) hh) rfl k_138 s_138 (by decide) rfl m_5_150 rfl (hRm (by decide) (by decide)) ⟨Nat.zero_le _, Nat.zero_le _⟩ (Nat.le_of_ble_eq_true rfl) dX11_learnt_11) (fun r3 M2 _ => ?_)
    exact g_iret X hr rfl dX11_learnt_14
set_option maxRecDepth 100000 in
set_option maxHeartbeats 4000000 in
theorem tm_learn {l : Launch} {D : va_G} {cy : Nat → ClassId} {ad : Nat → Nat} {N : Mem} (M : Mem) (a1 : Int32) {x : (Int32 × Mem)} (h : fm_learn M a1 = some x) : Mt l D cy ad yX11_learn cX11_learn 3 (some .int) 2 [.ref (ad 138), .int a1] ((wfM N) M) (some (.int x.1), (wfM N) x.2) := by
  refine met_of (fin := finS) (lv0 := [(0, .ref (ad 138)), (1, .int a1)]) (by decide) (Nat.le_of_ble_eq_true rfl) rfl (lM N) h (fun p e s m args below meth c X hr => ?_)
  unfold fm_learn
  refine g_aload_n X dX11_learn_0 0 rfl rfl ?_
  refine g_iload_n X dX11_learn_1 1 rfl rfl ?_
  refine g_ct X (v0 := .int (fm_isLeaperT M a1)) (st := []) (ok_V X (k0 := 138) (As := [.int a1]) wkX11_isLeaper (tm_isLeaperT M a1) rfl k_138 s_138 (by decide) rfl m_6_90 rfl (hRm (by decide) (by decide)) ⟨Nat.zero_le _, Nat.zero_le _⟩ (Nat.le_of_ble_eq_true rfl) dX11_learn_2) ?_
  refine g_if_ne X 15 (by decide) dX11_learn_5 (fun q5 => ?_) (fun q5 => ?_)
  · refine g_aload_n X dX11_learn_15 0 rfl rfl ?_
    refine get_11_11 X (k := 138) k_138 s_138 m_5_68 dX11_learn_16 ?_
    refine g_iload_n X dX11_learn_19 1 rfl rfl ?_
    refine g_iald X (n := 6) (k := 149) k_149 s_149 dX11_learn_20 (fun h1 => ?_)
    refine g_ilet X (fun v2 => ?_)
    refine g_istore_n X dX11_learn_21 rfl (by decide) rfl [1, 2, 0] (lu := [(0, .ref (ad 138)), (1, .int a1), (2, .int v2)]) rfl ?_
    refine g_aload_n X dX11_learn_22 0 rfl rfl ?_
    refine get_11_11 X (k := 138) k_138 s_138 m_5_68 dX11_learn_23 ?_
    refine g_iload_n X dX11_learn_26 1 rfl rfl ?_
    refine g_aload_n X dX11_learn_27 0 rfl rfl ?_
    refine g_iload_n X dX11_learn_28 1 rfl rfl ?_
    refine g_ci X (st := [.int a1, .ref (ad 149)]) (fun _ hh => ok_V X (k0 := 138) (As := [.int a1]) wkX11_learntBy (tm_learntBy M a1 hh) rfl k_138 s_138 (by decide) rfl m_6_102 rfl (hRm (by decide) (by decide)) ⟨Nat.zero_le _, Nat.zero_le _⟩ (Nat.le_of_ble_eq_true rfl) dX11_learn_29) (fun r3 _ => ?_)
    refine g_iast X (n := 6) (k := 149) k_149 s_149 dX11_learn_32 (fun h4 => ?_)
    refine g_mlet X (fun M5 => ?_)
    refine g_iload_n X dX11_learn_33 2 rfl rfl ?_
    exact g_iret X hr rfl dX11_learn_34
  · refine g_aload_n X dX11_learn_8 0 rfl rfl ?_
    refine g_bipush X dX11_learn_9 bi_m2 ?_
    refine g_cs X (st := []) (fun _ hh => ok_V X (k0 := 138) (As := [.int (-2)]) wkX11_no (tm_no M (-2) hh) rfl k_138 s_138 (by decide) rfl m_5_150 rfl (hRm (by decide) (by decide)) ⟨Nat.zero_le _, Nat.zero_le _⟩ (Nat.le_of_ble_eq_true rfl) dX11_learn_11) (fun r7 M6 _ => ?_)
    exact g_iret X hr rfl dX11_learn_14
set_option maxRecDepth 100000 in
set_option maxHeartbeats 4000000 in
theorem tm_riskOf {l : Launch} {D : va_G} {cy : Nat → ClassId} {ad : Nat → Nat} {N : Mem} (M : Mem) (a1 : Int32) (a2 : Int32) (a3 : Int32) {x : Int32} (h : fm_riskOf M a1 a2 a3 = some x) : Mt l D cy ad yX11_riskOf cX11_riskOf 6 (some .int) 5 [.ref (ad 138), .int a1, .int a2, .int a3] ((wfM N) M) (some (.int x), (wfM N) M) := by
  refine met_of (fin := (finI M)) (lv0 := [(0, .ref (ad 138)), (1, .int a1), (2, .int a2), (3, .int a3)]) (by decide) (Nat.le_of_ble_eq_true rfl) rfl (lM N) h (fun p e s m args below meth c X hr => ?_)
  unfold fm_riskOf
  refine g_aload_n X dX11_riskOf_0 0 rfl rfl ?_
  refine g_iload_n X dX11_riskOf_1 2 rfl rfl ?_
  refine g_aload_n X dX11_riskOf_2 0 rfl rfl ?_
  refine get_11_18 X (k := 138) k_138 s_138 m_5_75 dX11_riskOf_3 ?_
  refine g_iconst X dX11_riskOf_6 ic_5 ?_
  refine g_ialdC X (n := 9) (k := 156) k_156 s_156 (by decide) dX11_riskOf_7 ?_
  refine g_ci X (st := []) (fun _ hh => ok_V X (k0 := 138) (As := [.int a2, .int (M.1 156 (ix 5))]) wkX11_isOut (tm_isOut M a2 (M.1 156 (ix 5)) hh) rfl k_138 s_138 (by decide) rfl m_5_218 rfl (hRm (by decide) (by decide)) ⟨Nat.zero_le _, Nat.zero_le _⟩ (Nat.le_of_ble_eq_true rfl) dX11_riskOf_8) (fun r2 _ => ?_)
  refine g_if_ne X 22 (by decide) dX11_riskOf_11 (fun q11 => ?_) (fun q11 => ?_)
  · refine g_sipush X dX11_riskOf_22 si_1000 ?_
    exact g_iret X hr rfl dX11_riskOf_25
  · refine g_aload_n X dX11_riskOf_14 0 rfl rfl ?_
    refine g_iload_n X dX11_riskOf_15 2 rfl rfl ?_
    refine g_ci X (st := []) (fun _ hh => ok_V X (k0 := 138) (As := [.int a2]) wkX11_isTime (tm_isTime M a2 hh) rfl k_138 s_138 (by decide) rfl m_5_226 rfl (hRm (by decide) (by decide)) ⟨Nat.zero_le _, Nat.zero_le _⟩ (Nat.le_of_ble_eq_true rfl) dX11_riskOf_16) (fun r3 _ => ?_)
    refine g_if_ne X 26 (by decide) dX11_riskOf_19 (fun q19 => ?_) (fun q19 => ?_)
    · refine g_aload_n X dX11_riskOf_26 0 rfl rfl ?_
      refine g_iload_n X dX11_riskOf_27 2 rfl rfl ?_
      refine g_aload_n X dX11_riskOf_28 0 rfl rfl ?_
      refine get_11_18 X (k := 138) k_138 s_138 m_5_75 dX11_riskOf_29 ?_
      refine g_iconst X dX11_riskOf_32 ic_5 ?_
      refine g_ialdC X (n := 9) (k := 156) k_156 s_156 (by decide) dX11_riskOf_33 ?_
      refine g_ci X (st := []) (fun _ hh => ok_V X (k0 := 138) (As := [.int a2, .int (M.1 156 (ix 5))]) wkX11_riseAt (tm_riseAt M a2 (M.1 156 (ix 5)) hh) rfl k_138 s_138 (by decide) rfl m_5_202 rfl (hRm (by decide) (by decide)) ⟨Nat.zero_le _, Nat.zero_le _⟩ (Nat.le_of_ble_eq_true rfl) dX11_riskOf_34) (fun r5 _ => ?_)
      refine g_aload_n X dX11_riskOf_37 0 rfl rfl ?_
      refine g_ct X (v0 := .int (fm_deckT M)) (st := [.int r5]) (ok_V X (k0 := 138) (As := []) wkX11_deck (tm_deckT M) rfl k_138 s_138 (by decide) rfl m_5_222 rfl (hRm (by decide) (by decide)) ⟨Nat.zero_le _, Nat.zero_le _⟩ (Nat.le_of_ble_eq_true rfl) dX11_riskOf_38) ?_
      refine g_isub X dX11_riskOf_41 ?_
      refine g_ilet X (fun v6 => ?_)
      refine g_istore X dX11_riskOf_42 (by decide) rfl [1, 2, 3, 4, 0] (lu := [(0, .ref (ad 138)), (1, .int a1), (2, .int a2), (3, .int a3), (4, .int v6)]) rfl ?_
      refine g_aload_n X dX11_riskOf_44 0 rfl rfl ?_
      refine g_iconst X dX11_riskOf_45 ic_4 ?_
      refine g_ci X (st := []) (fun _ hh => ok_V X (k0 := 138) (As := [.int 4]) wkX11_says_ (tm_says1 M 4 hh) rfl k_138 s_138 (by decide) rfl m_5_230 rfl (hRm (by decide) (by decide)) ⟨Nat.zero_le _, Nat.zero_le _⟩ (Nat.le_of_ble_eq_true rfl) dX11_riskOf_46) (fun r7 _ => ?_)
      refine g_iload X dX11_riskOf_49 4 rfl ?_
      refine g_jlet X 62 (fun z62 : Int32 => [(0, .ref (ad 138)), (1, .int a1), (2, .int a2), (3, .int a3)]) (fun z62 : Int32 => [.int z62, .int r7]) (fun z62 : Int32 => M) (fun z62 => ?_) (fun J62 hJ62 => ?_)
      · show GF _ _ _ _ _ _ _ _ _ _ _ _ _ _ _ _ _ _ _ _ _ 62 [(0, .ref (ad 138)), (1, .int a1), (2, .int a2), (3, .int a3)] [.int z62, .int r7] M
        refine g_imul X dX11_riskOf_62 ?_
        refine g_aload_n X dX11_riskOf_63 0 rfl rfl ?_
        refine g_iconst X dX11_riskOf_64 ic_5 ?_
        refine g_ci X (st := [.int (r7 * z62)]) (fun _ hh => ok_V X (k0 := 138) (As := [.int 5]) wkX11_says_ (tm_says1 M 5 hh) rfl k_138 s_138 (by decide) rfl m_5_230 rfl (hRm (by decide) (by decide)) ⟨Nat.zero_le _, Nat.zero_le _⟩ (Nat.le_of_ble_eq_true rfl) dX11_riskOf_65) (fun r8 _ => ?_)
        refine g_aload_n X dX11_riskOf_68 0 rfl rfl ?_
        refine get_11_7 X (k := 138) k_138 s_138 m_5_64 dX11_riskOf_69 ?_
        refine g_iload_n X dX11_riskOf_72 2 rfl rfl ?_
        refine g_iald X (n := 20) (k := 146) k_146 s_146 dX11_riskOf_73 (fun h9 => ?_)
        refine g_imul X dX11_riskOf_74 ?_
        refine g_iadd X dX11_riskOf_75 ?_
        refine g_aload_n X dX11_riskOf_76 0 rfl rfl ?_
        refine g_bipush X dX11_riskOf_77 bi_6 ?_
        refine g_ci X (st := [.int ((r7 * z62) + (r8 * (M.1 146 (ix a2))))]) (fun _ hh => ok_V X (k0 := 138) (As := [.int 6]) wkX11_says_ (tm_says1 M 6 hh) rfl k_138 s_138 (by decide) rfl m_5_230 rfl (hRm (by decide) (by decide)) ⟨Nat.zero_le _, Nat.zero_le _⟩ (Nat.le_of_ble_eq_true rfl) dX11_riskOf_79) (fun r10 _ => ?_)
        refine g_aload_n X dX11_riskOf_82 0 rfl rfl ?_
        refine get_11_17 X (k := 138) k_138 s_138 m_5_74 dX11_riskOf_83 ?_
        refine g_iload_n X dX11_riskOf_86 3 rfl rfl ?_
        refine g_iald X (n := 12) (k := 155) k_155 s_155 dX11_riskOf_87 (fun h11 => ?_)
        refine g_imul X dX11_riskOf_88 ?_
        refine g_iadd X dX11_riskOf_89 ?_
        refine g_aload_n X dX11_riskOf_90 0 rfl rfl ?_
        refine g_bipush X dX11_riskOf_91 bi_7 ?_
        refine g_ci X (st := [.int (((r7 * z62) + (r8 * (M.1 146 (ix a2)))) + (r10 * (M.1 155 (ix a3))))]) (fun _ hh => ok_V X (k0 := 138) (As := [.int 7]) wkX11_says_ (tm_says1 M 7 hh) rfl k_138 s_138 (by decide) rfl m_5_230 rfl (hRm (by decide) (by decide)) ⟨Nat.zero_le _, Nat.zero_le _⟩ (Nat.le_of_ble_eq_true rfl) dX11_riskOf_93) (fun r12 _ => ?_)
        refine g_aload_n X dX11_riskOf_96 0 rfl rfl ?_
        refine get_11_11 X (k := 138) k_138 s_138 m_5_68 dX11_riskOf_97 ?_
        refine g_iload_n X dX11_riskOf_100 1 rfl rfl ?_
        refine g_iald X (n := 6) (k := 149) k_149 s_149 dX11_riskOf_101 (fun h13 => ?_)
        refine g_imul X dX11_riskOf_102 ?_
        refine g_isub X dX11_riskOf_103 ?_
        refine g_ilet X (fun v14 => ?_)
        refine g_istore X dX11_riskOf_104 (by decide) rfl [0] (lu := [(5, .int v14)]) rfl ?_
        refine g_iload X dX11_riskOf_106 0 rfl ?_
        refine g_if_ge X 113 (by decide) dX11_riskOf_108 (fun q108 => ?_) (fun q108 => ?_)
        · refine g_iload X dX11_riskOf_113 0 rfl ?_
          refine g_sipush X dX11_riskOf_115 si_1000 ?_
          refine g_icmp_le X 127 (by decide) dX11_riskOf_118 (fun q118 => ?_) (fun q118 => ?_)
          · refine g_iload X dX11_riskOf_127 0 rfl ?_
            exact g_iret X hr rfl dX11_riskOf_129
          · refine g_sipush X dX11_riskOf_121 si_1000 ?_
            refine g_goto X 129 (by decide) dX11_riskOf_124 ?_
            exact g_iret X hr rfl dX11_riskOf_129
        · refine g_iconst X dX11_riskOf_111 ic_0 ?_
          exact g_iret X hr rfl dX11_riskOf_112
      refine g_if_ge X 60 (by decide) dX11_riskOf_51 (fun q51 => ?_) (fun q51 => ?_)
      · refine g_iload X dX11_riskOf_60 4 rfl ?_
        refine g_sub (lu := [(0, .ref (ad 138)), (1, .int a1), (2, .int a2), (3, .int a3)]) [0, 1, 2, 3] rfl ?_
        exact hJ62 v6
      · refine g_iload X dX11_riskOf_54 4 rfl ?_
        refine g_ineg X dX11_riskOf_56 ?_
        refine g_goto X 62 (by decide) dX11_riskOf_57 ?_
        refine g_sub (lu := [(0, .ref (ad 138)), (1, .int a1), (2, .int a2), (3, .int a3)]) [0, 1, 2, 3] rfl ?_
        exact hJ62 (-v6)
    · refine g_sipush X dX11_riskOf_22 si_1000 ?_
      exact g_iret X hr rfl dX11_riskOf_25
set_option maxRecDepth 100000 in
set_option maxHeartbeats 4000000 in
theorem tm_risk {l : Launch} {D : va_G} {cy : Nat → ClassId} {ad : Nat → Nat} {N : Mem} (M : Mem) (a1 : Int32) (a2 : Int32) (a3 : Int32) {x : (Int32 × Mem)} (h : fm_risk M a1 a2 a3 = some x) : Mt l D cy ad yX11_risk cX11_risk 4 (some .int) 6 [.ref (ad 138), .int a1, .int a2, .int a3] ((wfM N) M) (some (.int x.1), (wfM N) x.2) := by
  refine met_of (fin := finS) (lv0 := [(0, .ref (ad 138)), (1, .int a1), (2, .int a2), (3, .int a3)]) (by decide) (Nat.le_of_ble_eq_true rfl) rfl (lM N) h (fun p e s m args below meth c X hr => ?_)
  unfold fm_risk
  refine g_aload_n X dX11_risk_0 0 rfl rfl ?_
  refine g_iload_n X dX11_risk_1 1 rfl rfl ?_
  refine g_ct X (v0 := .int (fm_isLeaperT M a1)) (st := []) (ok_V X (k0 := 138) (As := [.int a1]) wkX11_isLeaper (tm_isLeaperT M a1) rfl k_138 s_138 (by decide) rfl m_6_90 rfl (hRm (by decide) (by decide)) ⟨Nat.zero_le _, Nat.zero_le _⟩ (Nat.le_of_ble_eq_true rfl) dX11_risk_2) ?_
  refine g_if_eq X 24 (by decide) dX11_risk_5 (fun q5 => ?_) (fun q5 => ?_)
  · refine g_aload_n X dX11_risk_24 0 rfl rfl ?_
    refine g_bipush X dX11_risk_25 bi_m2 ?_
    refine g_cs X (st := []) (fun _ hh => ok_V X (k0 := 138) (As := [.int (-2)]) wkX11_no (tm_no M (-2) hh) rfl k_138 s_138 (by decide) rfl m_5_150 rfl (hRm (by decide) (by decide)) ⟨Nat.zero_le _, Nat.zero_le _⟩ (Nat.le_of_ble_eq_true rfl) dX11_risk_27) (fun r2 M1 _ => ?_)
    exact g_iret X hr rfl dX11_risk_30
  · refine g_aload_n X dX11_risk_8 0 rfl rfl ?_
    refine g_iload_n X dX11_risk_9 2 rfl rfl ?_
    refine g_ct X (v0 := .int (fm_isJettyT M a2)) (st := []) (ok_V X (k0 := 138) (As := [.int a2]) wkX11_isJetty (tm_isJettyT M a2) rfl k_138 s_138 (by decide) rfl m_5_186 rfl (hRm (by decide) (by decide)) ⟨Nat.zero_le _, Nat.zero_le _⟩ (Nat.le_of_ble_eq_true rfl) dX11_risk_10) ?_
    refine g_if_eq X 24 (by decide) dX11_risk_13 (fun q13 => ?_) (fun q13 => ?_)
    · refine g_aload_n X dX11_risk_24 0 rfl rfl ?_
      refine g_bipush X dX11_risk_25 bi_m2 ?_
      refine g_cs X (st := []) (fun _ hh => ok_V X (k0 := 138) (As := [.int (-2)]) wkX11_no (tm_no M (-2) hh) rfl k_138 s_138 (by decide) rfl m_5_150 rfl (hRm (by decide) (by decide)) ⟨Nat.zero_le _, Nat.zero_le _⟩ (Nat.le_of_ble_eq_true rfl) dX11_risk_27) (fun r4 M3 _ => ?_)
      exact g_iret X hr rfl dX11_risk_30
    · refine g_aload_n X dX11_risk_16 0 rfl rfl ?_
      refine g_iload_n X dX11_risk_17 3 rfl rfl ?_
      refine g_ct X (v0 := .int (fm_isHourT M a3)) (st := []) (ok_V X (k0 := 138) (As := [.int a3]) wkX11_isHour (tm_isHourT M a3) rfl k_138 s_138 (by decide) rfl m_6_22 rfl (hRm (by decide) (by decide)) ⟨Nat.zero_le _, Nat.zero_le _⟩ (Nat.le_of_ble_eq_true rfl) dX11_risk_18) ?_
      refine g_if_ne X 31 (by decide) dX11_risk_21 (fun q21 => ?_) (fun q21 => ?_)
      · refine g_aload_n X dX11_risk_31 0 rfl rfl ?_
        refine g_iload_n X dX11_risk_32 1 rfl rfl ?_
        refine g_iload_n X dX11_risk_33 2 rfl rfl ?_
        refine g_iload_n X dX11_risk_34 3 rfl rfl ?_
        refine g_ci X (st := []) (fun _ hh => ok_V X (k0 := 138) (As := [.int a1, .int a2, .int a3]) wkX11_riskOf (tm_riskOf M a1 a2 a3 hh) rfl k_138 s_138 (by decide) rfl m_6_114 rfl (hRm (by decide) (by decide)) ⟨Nat.zero_le _, Nat.zero_le _⟩ (Nat.le_of_ble_eq_true rfl) dX11_risk_35) (fun r5 _ => ?_)
        exact g_iret X hr rfl dX11_risk_38
      · refine g_aload_n X dX11_risk_24 0 rfl rfl ?_
        refine g_bipush X dX11_risk_25 bi_m2 ?_
        refine g_cs X (st := []) (fun _ hh => ok_V X (k0 := 138) (As := [.int (-2)]) wkX11_no (tm_no M (-2) hh) rfl k_138 s_138 (by decide) rfl m_5_150 rfl (hRm (by decide) (by decide)) ⟨Nat.zero_le _, Nat.zero_le _⟩ (Nat.le_of_ble_eq_true rfl) dX11_risk_27) (fun r7 M6 _ => ?_)
        exact g_iret X hr rfl dX11_risk_30
set_option maxRecDepth 100000 in
set_option maxHeartbeats 4000000 in
theorem Lm_calm_L28 {l : Launch} {D : va_G} {cy : Nat → ClassId} {ad : Nat → Nat} {N : Mem} {p : Program} {e : Env} {s : State} {m : MethodId} {args : Array Value} {below : List Frame} {meth : Method} {c : Code} (X : Cx p s m args meth c cX11_calm 5 RX11 D cy ad (AA ad) (wfM N) sdM) (hr : meth.sig.returnType = (some .int)) (M : Mem) (b1 : Int32) (b2 : Int32) : ∀ (n : Nat) (x3 : Int32) (x4 : Int32), GF p l e (Rm 6) s m args below meth c 5 D cy ad (AA ad) 0 0 (wfM N) (QM D cy ad (wfM N) below args s) finS (fm_calm_L28 M b1 b2 n x3 x4) 28 [(0, .ref (ad 138)), (1, .int b1), (2, .int b2), (3, .int x3), (4, .int x4)] [] M := by
  intro n
  induction n with
  | zero => intro x3 x4; exact g_none
  | succ n ih =>
    intro x3 x4
    rw [fm_calm_L28]
    refine g_iload X dX11_calm_28 4 rfl ?_
    refine g_bipush X dX11_calm_30 bi_12 ?_
    refine g_icmp_ge X 62 (by decide) dX11_calm_32 (fun q32 => ?_) (fun q32 => ?_)
    · refine g_iload_n X dX11_calm_62 3 rfl rfl ?_
      exact g_iret X hr rfl dX11_calm_63
    · refine g_aload_n X dX11_calm_35 0 rfl rfl ?_
      refine g_iload_n X dX11_calm_36 1 rfl rfl ?_
      refine g_iload_n X dX11_calm_37 2 rfl rfl ?_
      refine g_iload X dX11_calm_38 4 rfl ?_
      refine g_ci X (st := []) (fun _ hh => ok_V X (k0 := 138) (As := [.int b1, .int b2, .int x4]) wkX11_riskOf (tm_riskOf M b1 b2 x4 hh) rfl k_138 s_138 (by decide) rfl m_6_114 rfl (hRm (by decide) (by decide)) ⟨Nat.zero_le _, Nat.zero_le _⟩ (Nat.le_of_ble_eq_true rfl) dX11_calm_40) (fun r3 _ => ?_)
      refine g_aload_n X dX11_calm_43 0 rfl rfl ?_
      refine g_iload_n X dX11_calm_44 1 rfl rfl ?_
      refine g_iload_n X dX11_calm_45 2 rfl rfl ?_
      refine g_iload_n X dX11_calm_46 3 rfl rfl ?_
      refine g_ci X (st := [.int r3]) (fun _ hh => ok_V X (k0 := 138) (As := [.int b1, .int b2, .int x3]) wkX11_riskOf (tm_riskOf M b1 b2 x3 hh) rfl k_138 s_138 (by decide) rfl m_6_114 rfl (hRm (by decide) (by decide)) ⟨Nat.zero_le _, Nat.zero_le _⟩ (Nat.le_of_ble_eq_true rfl) dX11_calm_47) (fun r4 _ => ?_)
      refine g_jlet X 56 (fun z56 : Int32 => [(0, .ref (ad 138)), (1, .int b1), (2, .int b2), (3, .int z56), (4, .int x4)]) (fun z56 : Int32 => []) (fun z56 : Int32 => M) (fun z56 => ?_) (fun J56 hJ56 => ?_)
      · show GF _ _ _ _ _ _ _ _ _ _ _ _ _ _ _ _ _ _ _ _ _ 56 [(0, .ref (ad 138)), (1, .int b1), (2, .int b2), (3, .int z56), (4, .int x4)] [] M
        refine g_iinc X (k := 4) (v := (x4 + 1)) dX11_calm_56 rfl (ii_1 _) (by decide) rfl [1, 2, 3, 4, 0] (lu := [(0, .ref (ad 138)), (1, .int b1), (2, .int b2), (3, .int z56), (4, .int (x4 + 1))]) rfl ?_
        refine g_goto X 28 (by decide) dX11_calm_59 ?_
        exact ih z56 (x4 + 1)
      refine g_icmp_ge X 56 (by decide) dX11_calm_50 (fun q50 => ?_) (fun q50 => ?_)
      · exact hJ56 x3
      · refine g_iload X dX11_calm_53 4 rfl ?_
        refine g_istore_n X dX11_calm_55 rfl (by decide) rfl [1, 2, 3, 0, 4] (lu := [(0, .ref (ad 138)), (1, .int b1), (2, .int b2), (3, .int x4), (4, .int x4)]) rfl ?_
        exact hJ56 x4
set_option maxRecDepth 100000 in
set_option maxHeartbeats 4000000 in
theorem tm_calm {l : Launch} {D : va_G} {cy : Nat → ClassId} {ad : Nat → Nat} {N : Mem} (M : Mem) (a1 : Int32) (a2 : Int32) {x : (Int32 × Mem)} (h : fm_calm M a1 a2 = some x) : Mt l D cy ad yX11_calm cX11_calm 5 (some .int) 6 [.ref (ad 138), .int a1, .int a2] ((wfM N) M) (some (.int x.1), (wfM N) x.2) := by
  refine met_of (fin := finS) (lv0 := [(0, .ref (ad 138)), (1, .int a1), (2, .int a2)]) (by decide) (Nat.le_of_ble_eq_true rfl) rfl (lM N) h (fun p e s m args below meth c X hr => ?_)
  unfold fm_calm
  refine g_aload_n X dX11_calm_0 0 rfl rfl ?_
  refine g_iload_n X dX11_calm_1 1 rfl rfl ?_
  refine g_ct X (v0 := .int (fm_isLeaperT M a1)) (st := []) (ok_V X (k0 := 138) (As := [.int a1]) wkX11_isLeaper (tm_isLeaperT M a1) rfl k_138 s_138 (by decide) rfl m_6_90 rfl (hRm (by decide) (by decide)) ⟨Nat.zero_le _, Nat.zero_le _⟩ (Nat.le_of_ble_eq_true rfl) dX11_calm_2) ?_
  refine g_if_eq X 16 (by decide) dX11_calm_5 (fun q5 => ?_) (fun q5 => ?_)
  · refine g_aload_n X dX11_calm_16 0 rfl rfl ?_
    refine g_bipush X dX11_calm_17 bi_m2 ?_
    refine g_cs X (st := []) (fun _ hh => ok_V X (k0 := 138) (As := [.int (-2)]) wkX11_no (tm_no M (-2) hh) rfl k_138 s_138 (by decide) rfl m_5_150 rfl (hRm (by decide) (by decide)) ⟨Nat.zero_le _, Nat.zero_le _⟩ (Nat.le_of_ble_eq_true rfl) dX11_calm_19) (fun r2 M1 _ => ?_)
    exact g_iret X hr rfl dX11_calm_22
  · refine g_aload_n X dX11_calm_8 0 rfl rfl ?_
    refine g_iload_n X dX11_calm_9 2 rfl rfl ?_
    refine g_ct X (v0 := .int (fm_isJettyT M a2)) (st := []) (ok_V X (k0 := 138) (As := [.int a2]) wkX11_isJetty (tm_isJettyT M a2) rfl k_138 s_138 (by decide) rfl m_5_186 rfl (hRm (by decide) (by decide)) ⟨Nat.zero_le _, Nat.zero_le _⟩ (Nat.le_of_ble_eq_true rfl) dX11_calm_10) ?_
    refine g_if_ne X 23 (by decide) dX11_calm_13 (fun q13 => ?_) (fun q13 => ?_)
    · refine g_iconst X dX11_calm_23 ic_0 ?_
      refine g_istore_n X dX11_calm_24 rfl (by decide) rfl [1, 2, 3, 0] (lu := [(0, .ref (ad 138)), (1, .int a1), (2, .int a2), (3, .int 0)]) rfl ?_
      refine g_iconst X dX11_calm_25 ic_1 ?_
      refine g_istore X dX11_calm_26 (by decide) rfl [1, 2, 3, 4, 0] (lu := [(0, .ref (ad 138)), (1, .int a1), (2, .int a2), (3, .int 0), (4, .int 1)]) rfl ?_
      exact Lm_calm_L28  X hr M a1 a2    FU 0 1
    · refine g_aload_n X dX11_calm_16 0 rfl rfl ?_
      refine g_bipush X dX11_calm_17 bi_m2 ?_
      refine g_cs X (st := []) (fun _ hh => ok_V X (k0 := 138) (As := [.int (-2)]) wkX11_no (tm_no M (-2) hh) rfl k_138 s_138 (by decide) rfl m_5_150 rfl (hRm (by decide) (by decide)) ⟨Nat.zero_le _, Nat.zero_le _⟩ (Nat.le_of_ble_eq_true rfl) dX11_calm_19) (fun r6 M5 _ => ?_)
      exact g_iret X hr rfl dX11_calm_22
set_option maxRecDepth 100000 in
set_option maxHeartbeats 4000000 in
theorem tm_legAt {l : Launch} {D : va_G} {cy : Nat → ClassId} {ad : Nat → Nat} {N : Mem} (M : Mem) (a1 : Int32) (a2 : Int32) (a3 : Int32) {x : Int32} (h : fm_legAt M a1 a2 a3 = some x) : Mt l D cy ad yX11_legAt cX11_legAt 7 (some .int) 3 [.ref (ad 138), .int a1, .int a2, .int a3] ((wfM N) M) (some (.int x), (wfM N) M) := by
  refine met_of (fin := (finI M)) (lv0 := [(0, .ref (ad 138)), (1, .int a1), (2, .int a2), (3, .int a3)]) (by decide) (Nat.le_of_ble_eq_true rfl) rfl (lM N) h (fun p e s m args below meth c X hr => ?_)
  unfold fm_legAt
  refine g_iload_n X dX11_legAt_0 1 rfl rfl ?_
  refine g_bipush X dX11_legAt_1 bi_16 ?_
  refine g_idivC X dX11_legAt_3 (by decide) ?_
  refine g_iload_n X dX11_legAt_4 2 rfl rfl ?_
  refine g_bipush X dX11_legAt_5 bi_16 ?_
  refine g_idivC X dX11_legAt_7 (by decide) ?_
  refine g_isub X dX11_legAt_8 ?_
  refine g_ilet X (fun v1 => ?_)
  refine g_istore X dX11_legAt_9 (by decide) rfl [1, 2, 3, 4, 0] (lu := [(0, .ref (ad 138)), (1, .int a1), (2, .int a2), (3, .int a3), (4, .int v1)]) rfl ?_
  refine g_iload_n X dX11_legAt_11 1 rfl rfl ?_
  refine g_bipush X dX11_legAt_12 bi_16 ?_
  refine g_iremC X dX11_legAt_14 (by decide) ?_
  refine g_iload_n X dX11_legAt_15 2 rfl rfl ?_
  refine g_bipush X dX11_legAt_16 bi_16 ?_
  refine g_iremC X dX11_legAt_18 (by decide) ?_
  refine g_isub X dX11_legAt_19 ?_
  refine g_ilet X (fun v2 => ?_)
  refine g_istore X dX11_legAt_20 (by decide) rfl [1, 4, 5, 0] (lu := [(0, .ref (ad 138)), (3, .int a3), (4, .int v1), (5, .int v2)]) rfl ?_
  refine g_iload X dX11_legAt_22 2 rfl ?_
  refine g_jlet X 35 (fun z35 : Int32 => [(0, .ref (ad 138)), (3, .int a3), (5, .int v2)]) (fun z35 : Int32 => [.int z35]) (fun z35 : Int32 => M) (fun z35 => ?_) (fun J35 hJ35 => ?_)
  · show GF _ _ _ _ _ _ _ _ _ _ _ _ _ _ _ _ _ _ _ _ _ 35 [(0, .ref (ad 138)), (3, .int a3), (5, .int v2)] [.int z35] M
    refine g_iload X dX11_legAt_35 2 rfl ?_
    refine g_if_ge X 46 (by decide) dX11_legAt_37 (fun q37 => ?_) (fun q37 => ?_)
    · refine g_iload X dX11_legAt_46 2 rfl ?_
      refine g_iadd X dX11_legAt_48 ?_
      refine g_ilet X (fun v3 => ?_)
      refine g_istore X dX11_legAt_49 (by decide) rfl [1, 2, 0] (lu := [(0, .ref (ad 138)), (3, .int a3), (6, .int v3)]) rfl ?_
      refine g_aload_n X dX11_legAt_51 0 rfl rfl ?_
      refine g_bipush X dX11_legAt_52 bi_8 ?_
      refine g_ci X (st := []) (fun _ hh => ok_V X (k0 := 138) (As := [.int 8]) wkX11_says_ (tm_says1 M 8 hh) rfl k_138 s_138 (by decide) rfl m_5_230 rfl (hRm (by decide) (by decide)) ⟨Nat.zero_le _, Nat.zero_le _⟩ (Nat.le_of_ble_eq_true rfl) dX11_legAt_54) (fun r4 _ => ?_)
      refine g_iload X dX11_legAt_57 2 rfl ?_
      refine g_imul X dX11_legAt_59 ?_
      refine g_iload_n X dX11_legAt_60 1 rfl rfl ?_
      refine g_iadd X dX11_legAt_61 ?_
      refine g_iconst X dX11_legAt_62 ic_1 ?_
      refine g_isub X dX11_legAt_63 ?_
      refine g_iload_n X dX11_legAt_64 1 rfl rfl ?_
      refine g_idiv X dX11_legAt_65 (fun _ => ?_)
      exact g_iret X hr rfl dX11_legAt_66
    · refine g_iload X dX11_legAt_40 2 rfl ?_
      refine g_ineg X dX11_legAt_42 ?_
      refine g_goto X 48 (by decide) dX11_legAt_43 ?_
      refine g_iadd X dX11_legAt_48 ?_
      refine g_ilet X (fun v5 => ?_)
      refine g_istore X dX11_legAt_49 (by decide) rfl [1, 2, 0] (lu := [(0, .ref (ad 138)), (3, .int a3), (6, .int v5)]) rfl ?_
      refine g_aload_n X dX11_legAt_51 0 rfl rfl ?_
      refine g_bipush X dX11_legAt_52 bi_8 ?_
      refine g_ci X (st := []) (fun _ hh => ok_V X (k0 := 138) (As := [.int 8]) wkX11_says_ (tm_says1 M 8 hh) rfl k_138 s_138 (by decide) rfl m_5_230 rfl (hRm (by decide) (by decide)) ⟨Nat.zero_le _, Nat.zero_le _⟩ (Nat.le_of_ble_eq_true rfl) dX11_legAt_54) (fun r6 _ => ?_)
      refine g_iload X dX11_legAt_57 2 rfl ?_
      refine g_imul X dX11_legAt_59 ?_
      refine g_iload_n X dX11_legAt_60 1 rfl rfl ?_
      refine g_iadd X dX11_legAt_61 ?_
      refine g_iconst X dX11_legAt_62 ic_1 ?_
      refine g_isub X dX11_legAt_63 ?_
      refine g_iload_n X dX11_legAt_64 1 rfl rfl ?_
      refine g_idiv X dX11_legAt_65 (fun _ => ?_)
      exact g_iret X hr rfl dX11_legAt_66
  refine g_if_ge X 33 (by decide) dX11_legAt_24 (fun q24 => ?_) (fun q24 => ?_)
  · refine g_iload X dX11_legAt_33 2 rfl ?_
    refine g_sub (lu := [(0, .ref (ad 138)), (3, .int a3), (5, .int v2)]) [0, 1, 3] rfl ?_
    exact hJ35 v1
  · refine g_iload X dX11_legAt_27 2 rfl ?_
    refine g_ineg X dX11_legAt_29 ?_
    refine g_goto X 35 (by decide) dX11_legAt_30 ?_
    refine g_sub (lu := [(0, .ref (ad 138)), (3, .int a3), (5, .int v2)]) [0, 1, 3] rfl ?_
    exact hJ35 (-v1)
set_option maxRecDepth 100000 in
set_option maxHeartbeats 4000000 in
theorem tm_legOf {l : Launch} {D : va_G} {cy : Nat → ClassId} {ad : Nat → Nat} {N : Mem} (M : Mem) (a1 : Int32) (a2 : Int32) {x : Int32} (h : fm_legOf M a1 a2 = some x) : Mt l D cy ad yX11_legOf cX11_legOf 3 (some .int) 4 [.ref (ad 138), .int a1, .int a2] ((wfM N) M) (some (.int x), (wfM N) M) := by
  refine met_of (fin := (finI M)) (lv0 := [(0, .ref (ad 138)), (1, .int a1), (2, .int a2)]) (by decide) (Nat.le_of_ble_eq_true rfl) rfl (lM N) h (fun p e s m args below meth c X hr => ?_)
  unfold fm_legOf
  refine g_aload_n X dX11_legOf_0 0 rfl rfl ?_
  refine g_iload_n X dX11_legOf_1 1 rfl rfl ?_
  refine g_iload_n X dX11_legOf_2 2 rfl rfl ?_
  refine g_aload_n X dX11_legOf_3 0 rfl rfl ?_
  refine g_iconst X dX11_legOf_4 ic_1 ?_
  refine g_ci X (st := [.int a2, .int a1, .ref (ad 138)]) (fun _ hh => ok_V X (k0 := 138) (As := [.int 1]) wkX11_says_ (tm_says1 M 1 hh) rfl k_138 s_138 (by decide) rfl m_5_230 rfl (hRm (by decide) (by decide)) ⟨Nat.zero_le _, Nat.zero_le _⟩ (Nat.le_of_ble_eq_true rfl) dX11_legOf_5) (fun r1 _ => ?_)
  refine g_ci X (st := []) (fun _ hh => ok_V X (k0 := 138) (As := [.int a1, .int a2, .int r1]) wkX11_legAt (tm_legAt M a1 a2 r1 hh) rfl k_138 s_138 (by decide) rfl m_6_130 rfl (hRm (by decide) (by decide)) ⟨Nat.zero_le _, Nat.zero_le _⟩ (Nat.le_of_ble_eq_true rfl) dX11_legOf_8) (fun r2 _ => ?_)
  exact g_iret X hr rfl dX11_legOf_11
set_option maxRecDepth 100000 in
set_option maxHeartbeats 4000000 in
theorem tm_leg {l : Launch} {D : va_G} {cy : Nat → ClassId} {ad : Nat → Nat} {N : Mem} (M : Mem) (a1 : Int32) (a2 : Int32) {x : (Int32 × Mem)} (h : fm_leg M a1 a2 = some x) : Mt l D cy ad yX11_leg cX11_leg 3 (some .int) 5 [.ref (ad 138), .int a1, .int a2] ((wfM N) M) (some (.int x.1), (wfM N) x.2) := by
  refine met_of (fin := finS) (lv0 := [(0, .ref (ad 138)), (1, .int a1), (2, .int a2)]) (by decide) (Nat.le_of_ble_eq_true rfl) rfl (lM N) h (fun p e s m args below meth c X hr => ?_)
  unfold fm_leg
  refine g_aload_n X dX11_leg_0 0 rfl rfl ?_
  refine g_iload_n X dX11_leg_1 1 rfl rfl ?_
  refine g_ct X (v0 := .int (fm_isSpotT M a1)) (st := []) (ok_V X (k0 := 138) (As := [.int a1]) wkX11_isSpot (tm_isSpotT M a1) rfl k_138 s_138 (by decide) rfl m_5_210 rfl (hRm (by decide) (by decide)) ⟨Nat.zero_le _, Nat.zero_le _⟩ (Nat.le_of_ble_eq_true rfl) dX11_leg_2) ?_
  refine g_if_eq X 16 (by decide) dX11_leg_5 (fun q5 => ?_) (fun q5 => ?_)
  · refine g_aload_n X dX11_leg_16 0 rfl rfl ?_
    refine g_bipush X dX11_leg_17 bi_m2 ?_
    refine g_cs X (st := []) (fun _ hh => ok_V X (k0 := 138) (As := [.int (-2)]) wkX11_no (tm_no M (-2) hh) rfl k_138 s_138 (by decide) rfl m_5_150 rfl (hRm (by decide) (by decide)) ⟨Nat.zero_le _, Nat.zero_le _⟩ (Nat.le_of_ble_eq_true rfl) dX11_leg_19) (fun r2 M1 _ => ?_)
    exact g_iret X hr rfl dX11_leg_22
  · refine g_aload_n X dX11_leg_8 0 rfl rfl ?_
    refine g_iload_n X dX11_leg_9 2 rfl rfl ?_
    refine g_ct X (v0 := .int (fm_isSpotT M a2)) (st := []) (ok_V X (k0 := 138) (As := [.int a2]) wkX11_isSpot (tm_isSpotT M a2) rfl k_138 s_138 (by decide) rfl m_5_210 rfl (hRm (by decide) (by decide)) ⟨Nat.zero_le _, Nat.zero_le _⟩ (Nat.le_of_ble_eq_true rfl) dX11_leg_10) ?_
    refine g_if_ne X 23 (by decide) dX11_leg_13 (fun q13 => ?_) (fun q13 => ?_)
    · refine g_aload_n X dX11_leg_23 0 rfl rfl ?_
      refine g_iload_n X dX11_leg_24 1 rfl rfl ?_
      refine g_iload_n X dX11_leg_25 2 rfl rfl ?_
      refine g_ci X (st := []) (fun _ hh => ok_V X (k0 := 138) (As := [.int a1, .int a2]) wkX11_legOf (tm_legOf M a1 a2 hh) rfl k_138 s_138 (by decide) rfl m_6_126 rfl (hRm (by decide) (by decide)) ⟨Nat.zero_le _, Nat.zero_le _⟩ (Nat.le_of_ble_eq_true rfl) dX11_leg_26) (fun r3 _ => ?_)
      exact g_iret X hr rfl dX11_leg_29
    · refine g_aload_n X dX11_leg_16 0 rfl rfl ?_
      refine g_bipush X dX11_leg_17 bi_m2 ?_
      refine g_cs X (st := []) (fun _ hh => ok_V X (k0 := 138) (As := [.int (-2)]) wkX11_no (tm_no M (-2) hh) rfl k_138 s_138 (by decide) rfl m_5_150 rfl (hRm (by decide) (by decide)) ⟨Nat.zero_le _, Nat.zero_le _⟩ (Nat.le_of_ble_eq_true rfl) dX11_leg_19) (fun r5 M4 _ => ?_)
      exact g_iret X hr rfl dX11_leg_22
set_option maxRecDepth 100000 in
set_option maxHeartbeats 4000000 in
theorem Lm_take_L28 {l : Launch} {D : va_G} {cy : Nat → ClassId} {ad : Nat → Nat} {N : Mem} {p : Program} {e : Env} {s : State} {m : MethodId} {args : Array Value} {below : List Frame} {meth : Method} {c : Code} (X : Cx p s m args meth c cX11_take 7 RX11 D cy ad (AA ad) (wfM N) sdM) (hr : meth.sig.returnType = (some .int)) (b1 : Int32) (b2 : Int32) : ∀ (n : Nat) (x4 : Int32) (M : Mem), GF p l e (Rm 3) s m args below meth c 7 D cy ad (AA ad) 0 0 (wfM N) (QM D cy ad (wfM N) below args s) finS (fm_take_L28 b1 b2 n x4 M) 28 [(0, .ref (ad 138)), (1, .int b1), (2, .int b2), (4, .int x4)] [] M := by
  intro n
  induction n with
  | zero => intro x4 M; exact g_none
  | succ n ih =>
    intro x4 M
    rw [fm_take_L28]
    refine g_iload X dX11_take_28 3 rfl ?_
    refine g_iload_n X dX11_take_30 2 rfl rfl ?_
    refine g_icmp_ge X 87 (by decide) dX11_take_31 (fun q31 => ?_) (fun q31 => ?_)
    · refine g_iconst X dX11_take_87 ic_0 ?_
      exact g_iret X hr rfl dX11_take_88
    · refine g_aload_n X dX11_take_34 0 rfl rfl ?_
      refine get_11_2 X (k := 138) k_138 s_138 m_5_59 dX11_take_35 ?_
      refine g_bipush X dX11_take_38 bi_40 ?_
      refine g_iload_n X dX11_take_40 1 rfl rfl ?_
      refine g_imul X dX11_take_41 ?_
      refine g_iload X dX11_take_42 3 rfl ?_
      refine g_iadd X dX11_take_44 ?_
      refine g_lald23 X (k := 141) k_141 s_141 dX11_take_45 (fun h3 => ?_)
      refine g_llet X (fun v4 => ?_)
      refine g_lstore X dX11_take_46 (by decide) rfl [1, 2, 3, 4, 0] (lu := [(0, .ref (ad 138)), (1, .int b1), (2, .int b2), (4, .int x4), (5, .long v4)]) rfl ?_
      refine g_lload X dX11_take_48 4 rfl ?_
      refine g_lconst X (v := 0) dX11_take_50 (by decide) ?_
      refine g_lcmp X dX11_take_51 ?_
      refine g_if_lt X 68 (by decide) dX11_take_52 (fun q52 => ?_) (fun q52 => ?_)
      · refine g_bipush X dX11_take_68 bi_m2 ?_
        exact g_iret X hr rfl dX11_take_70
      · refine g_lload X dX11_take_55 4 rfl ?_
        refine g_aload_n X dX11_take_57 0 rfl rfl ?_
        refine get_11_18 X (k := 138) k_138 s_138 m_5_75 dX11_take_58 ?_
        refine g_iconst X dX11_take_61 ic_0 ?_
        refine g_ialdC X (n := 9) (k := 156) k_156 s_156 (by decide) dX11_take_62 ?_
        refine g_i2l X dX11_take_63 ?_
        refine g_lcmp X dX11_take_64 ?_
        refine g_if_lt X 71 (by decide) dX11_take_65 (fun q65 => ?_) (fun q65 => ?_)
        · refine g_aload_n X dX11_take_71 0 rfl rfl ?_
          refine get_11_23 X (k := 138) k_138 s_138 m_5_80 dX11_take_72 ?_
          refine g_iload X dX11_take_75 3 rfl ?_
          refine g_lload X dX11_take_77 4 rfl ?_
          refine g_l2i X dX11_take_79 ?_
          refine g_iast X (n := 20) (k := 160) k_160 s_160 dX11_take_80 (fun h6 => ?_)
          refine g_mlet X (fun M7 => ?_)
          refine g_iinc X (k := 3) (v := (x4 + 1)) dX11_take_81 rfl (ii_1 _) (by decide) rfl [1, 2, 3, 0] (lu := [(0, .ref (ad 138)), (1, .int b1), (2, .int b2), (4, .int (x4 + 1))]) rfl ?_
          refine g_goto X 28 (by decide) dX11_take_84 ?_
          exact ih (x4 + 1) M7
        · refine g_bipush X dX11_take_68 bi_m2 ?_
          exact g_iret X hr rfl dX11_take_70
set_option maxRecDepth 100000 in
set_option maxHeartbeats 4000000 in
theorem tm_take {l : Launch} {D : va_G} {cy : Nat → ClassId} {ad : Nat → Nat} {N : Mem} (M : Mem) (a1 : Int32) (a2 : Int32) {x : (Int32 × Mem)} (h : fm_take M a1 a2 = some x) : Mt l D cy ad yX11_take cX11_take 7 (some .int) 3 [.ref (ad 138), .int a1, .int a2] ((wfM N) M) (some (.int x.1), (wfM N) x.2) := by
  refine met_of (fin := finS) (lv0 := [(0, .ref (ad 138)), (1, .int a1), (2, .int a2)]) (by decide) (Nat.le_of_ble_eq_true rfl) rfl (lM N) h (fun p e s m args below meth c X hr => ?_)
  unfold fm_take
  refine g_aload_n X dX11_take_0 0 rfl rfl ?_
  refine g_iload_n X dX11_take_1 1 rfl rfl ?_
  refine g_ci X (st := []) (fun _ hh => ok_V X (k0 := 138) (As := [.int a1]) wkX11_noRow (tm_noRow M a1 hh) rfl k_138 s_138 (by decide) rfl m_5_158 rfl (hRm (by decide) (by decide)) ⟨Nat.zero_le _, Nat.zero_le _⟩ (Nat.le_of_ble_eq_true rfl) dX11_take_2) (fun r1 _ => ?_)
  refine g_istore_n X dX11_take_5 rfl (by decide) rfl [1, 2, 3, 0] (lu := [(0, .ref (ad 138)), (1, .int a1), (2, .int a2), (3, .int r1)]) rfl ?_
  refine g_iload_n X dX11_take_6 3 rfl rfl ?_
  refine g_if_ge X 12 (by decide) dX11_take_7 (fun q7 => ?_) (fun q7 => ?_)
  · refine g_iload_n X dX11_take_12 2 rfl rfl ?_
    refine g_aload_n X dX11_take_13 0 rfl rfl ?_
    refine get_11_1 X (k := 138) k_138 s_138 m_5_58 dX11_take_14 ?_
    refine g_iload_n X dX11_take_17 1 rfl rfl ?_
    refine g_iald X (n := 8) (k := 140) k_140 s_140 dX11_take_18 (fun h2 => ?_)
    refine g_icmp_le X 25 (by decide) dX11_take_19 (fun q19 => ?_) (fun q19 => ?_)
    · refine g_iconst X dX11_take_25 ic_0 ?_
      refine g_istore X dX11_take_26 (by decide) rfl [1, 2, 3, 0] (lu := [(0, .ref (ad 138)), (1, .int a1), (2, .int a2), (4, .int 0)]) rfl ?_
      exact Lm_take_L28  X hr a1 a2    FU 0 M
    · refine g_bipush X dX11_take_22 bi_m2 ?_
      exact g_iret X hr rfl dX11_take_24
  · refine g_iload_n X dX11_take_10 3 rfl rfl ?_
    exact g_iret X hr rfl dX11_take_11
set_option maxRecDepth 100000 in
set_option maxHeartbeats 4000000 in
theorem Lm_endOfTour_L13 {l : Launch} {D : va_G} {cy : Nat → ClassId} {ad : Nat → Nat} {N : Mem} {p : Program} {e : Env} {s : State} {m : MethodId} {args : Array Value} {below : List Frame} {meth : Method} {c : Code} (X : Cx p s m args meth c cX11_endOfTour 5 RX11 D cy ad (AA ad) (wfM N) sdM) (hr : meth.sig.returnType = (some .int)) (M : Mem) (b1 : Int32) : ∀ (n : Nat) (x2 : Int32) (x3 : Int32) (x4 : Int32), GF p l e (Rm 5) s m args below meth c 5 D cy ad (AA ad) 0 0 (wfM N) (QM D cy ad (wfM N) below args s) (finI M) (fm_endOfTour_L13 M b1 n x2 x3 x4) 13 [(0, .ref (ad 138)), (1, .int b1), (2, .int x2), (3, .int x3), (4, .int x4)] [] M := by
  intro n
  induction n with
  | zero => intro x2 x3 x4; exact g_none
  | succ n ih =>
    intro x2 x3 x4
    rw [fm_endOfTour_L13]
    refine g_iload X dX11_endOfTour_13 4 rfl ?_
    refine g_iload_n X dX11_endOfTour_15 1 rfl rfl ?_
    refine g_icmp_ge X 69 (by decide) dX11_endOfTour_16 (fun q16 => ?_) (fun q16 => ?_)
    · refine g_iload_n X dX11_endOfTour_69 2 rfl rfl ?_
      exact g_iret X hr rfl dX11_endOfTour_70
    · refine g_iload_n X dX11_endOfTour_19 2 rfl rfl ?_
      refine g_aload_n X dX11_endOfTour_20 0 rfl rfl ?_
      refine g_iload_n X dX11_endOfTour_21 3 rfl rfl ?_
      refine g_aload_n X dX11_endOfTour_22 0 rfl rfl ?_
      refine get_11_4 X (k := 138) k_138 s_138 m_5_61 dX11_endOfTour_23 ?_
      refine g_aload_n X dX11_endOfTour_26 0 rfl rfl ?_
      refine get_11_23 X (k := 138) k_138 s_138 m_5_80 dX11_endOfTour_27 ?_
      refine g_iload X dX11_endOfTour_30 4 rfl ?_
      refine g_iald X (n := 20) (k := 160) k_160 s_160 dX11_endOfTour_32 (fun h3 => ?_)
      refine g_iald X (n := 20) (k := 143) k_143 s_143 dX11_endOfTour_33 (fun h4 => ?_)
      refine g_ci X (st := [.int x2]) (fun _ hh => ok_V X (k0 := 138) (As := [.int x3, .int (M.1 143 (ix (M.1 160 (ix x4))))]) wkX11_legOf (tm_legOf M x3 (M.1 143 (ix (M.1 160 (ix x4)))) hh) rfl k_138 s_138 (by decide) rfl m_6_126 rfl (hRm (by decide) (by decide)) ⟨Nat.zero_le _, Nat.zero_le _⟩ (Nat.le_of_ble_eq_true rfl) dX11_endOfTour_34) (fun r5 _ => ?_)
      refine g_iload X dX11_endOfTour_37 4 rfl ?_
      refine g_jlet X 47 (fun z47 : Int32 => [(0, .ref (ad 138)), (1, .int b1), (4, .int x4)]) (fun z47 : Int32 => [.int z47, .int r5, .int x2]) (fun z47 : Int32 => M) (fun z47 => ?_) (fun J47 hJ47 => ?_)
      · show GF _ _ _ _ _ _ _ _ _ _ _ _ _ _ _ _ _ _ _ _ _ 47 [(0, .ref (ad 138)), (1, .int b1), (4, .int x4)] [.int z47, .int r5, .int x2] M
        refine g_iadd X dX11_endOfTour_47 ?_
        refine g_iadd X dX11_endOfTour_48 ?_
        refine g_ilet X (fun v6 => ?_)
        refine g_istore_n X dX11_endOfTour_49 rfl (by decide) rfl [1, 2, 0, 3] (lu := [(0, .ref (ad 138)), (1, .int b1), (2, .int v6), (4, .int x4)]) rfl ?_
        refine g_aload_n X dX11_endOfTour_50 0 rfl rfl ?_
        refine get_11_4 X (k := 138) k_138 s_138 m_5_61 dX11_endOfTour_51 ?_
        refine g_aload_n X dX11_endOfTour_54 0 rfl rfl ?_
        refine get_11_23 X (k := 138) k_138 s_138 m_5_80 dX11_endOfTour_55 ?_
        refine g_iload X dX11_endOfTour_58 3 rfl ?_
        refine g_iald X (n := 20) (k := 160) k_160 s_160 dX11_endOfTour_60 (fun h7 => ?_)
        refine g_iald X (n := 20) (k := 143) k_143 s_143 dX11_endOfTour_61 (fun h8 => ?_)
        refine g_ilet X (fun v9 => ?_)
        refine g_istore_n X dX11_endOfTour_62 rfl (by decide) rfl [1, 2, 3, 0, 4] (lu := [(0, .ref (ad 138)), (1, .int b1), (2, .int v6), (3, .int v9), (4, .int x4)]) rfl ?_
        refine g_iinc X (k := 4) (v := (x4 + 1)) dX11_endOfTour_63 rfl (ii_1 _) (by decide) rfl [1, 2, 3, 4, 0] (lu := [(0, .ref (ad 138)), (1, .int b1), (2, .int v6), (3, .int v9), (4, .int (x4 + 1))]) rfl ?_
        refine g_goto X 13 (by decide) dX11_endOfTour_66 ?_
        exact ih v6 v9 (x4 + 1)
      refine g_if_le X 46 (by decide) dX11_endOfTour_39 (fun q39 => ?_) (fun q39 => ?_)
      · refine g_iconst X dX11_endOfTour_46 ic_0 ?_
        refine g_sub (lu := [(0, .ref (ad 138)), (1, .int b1), (4, .int x4)]) [0, 1, 4] rfl ?_
        exact hJ47 0
      · refine g_iconst X dX11_endOfTour_42 ic_1 ?_
        refine g_goto X 47 (by decide) dX11_endOfTour_43 ?_
        refine g_sub (lu := [(0, .ref (ad 138)), (1, .int b1), (4, .int x4)]) [0, 1, 4] rfl ?_
        exact hJ47 1
set_option maxRecDepth 100000 in
set_option maxHeartbeats 4000000 in
theorem tm_endOfTour {l : Launch} {D : va_G} {cy : Nat → ClassId} {ad : Nat → Nat} {N : Mem} (M : Mem) (a1 : Int32) {x : Int32} (h : fm_endOfTour M a1 = some x) : Mt l D cy ad yX11_endOfTour cX11_endOfTour 5 (some .int) 5 [.ref (ad 138), .int a1] ((wfM N) M) (some (.int x), (wfM N) M) := by
  refine met_of (fin := (finI M)) (lv0 := [(0, .ref (ad 138)), (1, .int a1)]) (by decide) (Nat.le_of_ble_eq_true rfl) rfl (lM N) h (fun p e s m args below meth c X hr => ?_)
  unfold fm_endOfTour
  refine g_iconst X dX11_endOfTour_0 ic_0 ?_
  refine g_istore_n X dX11_endOfTour_1 rfl (by decide) rfl [1, 2, 0] (lu := [(0, .ref (ad 138)), (1, .int a1), (2, .int 0)]) rfl ?_
  refine g_aload_n X dX11_endOfTour_2 0 rfl rfl ?_
  refine get_11_18 X (k := 138) k_138 s_138 m_5_75 dX11_endOfTour_3 ?_
  refine g_bipush X dX11_endOfTour_6 bi_7 ?_
  refine g_ialdC X (n := 9) (k := 156) k_156 s_156 (by decide) dX11_endOfTour_8 ?_
  refine g_ilet X (fun v2 => ?_)
  refine g_istore_n X dX11_endOfTour_9 rfl (by decide) rfl [1, 2, 3, 0] (lu := [(0, .ref (ad 138)), (1, .int a1), (2, .int 0), (3, .int v2)]) rfl ?_
  refine g_iconst X dX11_endOfTour_10 ic_0 ?_
  refine g_istore X dX11_endOfTour_11 (by decide) rfl [1, 2, 3, 4, 0] (lu := [(0, .ref (ad 138)), (1, .int a1), (2, .int 0), (3, .int v2), (4, .int 0)]) rfl ?_
  exact Lm_endOfTour_L13  X hr M a1    FU 0 v2 0
set_option maxRecDepth 100000 in
set_option maxHeartbeats 4000000 in
theorem tm_hourOf {l : Launch} {D : va_G} {cy : Nat → ClassId} {ad : Nat → Nat} {N : Mem} (M : Mem) (a1 : Int32) {x : Int32} (h : fm_hourOf M a1 = some x) : Mt l D cy ad yX11_hourOf cX11_hourOf 2 (some .int) 1 [.ref (ad 138), .int a1] ((wfM N) M) (some (.int x), (wfM N) M) := by
  refine met_of (fin := (finI M)) (lv0 := [(0, .ref (ad 138)), (1, .int a1)]) (by decide) (Nat.le_of_ble_eq_true rfl) rfl (lM N) h (fun p e s m args below meth c X hr => ?_)
  unfold fm_hourOf
  refine g_iload_n X dX11_hourOf_0 1 rfl rfl ?_
  refine g_sipush X dX11_hourOf_1 si_660 ?_
  refine g_icmp_lt X 12 (by decide) dX11_hourOf_4 (fun q4 => ?_) (fun q4 => ?_)
  · refine g_iload_n X dX11_hourOf_12 1 rfl rfl ?_
    refine g_bipush X dX11_hourOf_13 bi_60 ?_
    refine g_idivC X dX11_hourOf_15 (by decide) ?_
    exact g_iret X hr rfl dX11_hourOf_16
  · refine g_bipush X dX11_hourOf_7 bi_11 ?_
    refine g_goto X 16 (by decide) dX11_hourOf_9 ?_
    exact g_iret X hr rfl dX11_hourOf_16
theorem tm_hourOfT {l : Launch} {D : va_G} {cy : Nat → ClassId} {ad : Nat → Nat} {N : Mem} (M : Mem) (a1 : Int32) : Mt l D cy ad yX11_hourOf cX11_hourOf 2 (some .int) 1 [.ref (ad 138), .int a1] ((wfM N) M) (some (.int (fm_hourOfT M a1)), (wfM N) M) := tm_hourOf M a1 (fm_hourOfE M a1)
set_option maxRecDepth 100000 in
set_option maxHeartbeats 4000000 in
theorem Lm_riskOfTour_L17 {l : Launch} {D : va_G} {cy : Nat → ClassId} {ad : Nat → Nat} {N : Mem} {p : Program} {e : Env} {s : State} {m : MethodId} {args : Array Value} {below : List Frame} {meth : Method} {c : Code} (X : Cx p s m args meth c cX11_riskOfTour 9 RX11 D cy ad (AA ad) (wfM N) sdM) (hr : meth.sig.returnType = (some .int)) (M : Mem) (b1 : Int32) (b2 : Int32) : ∀ (n : Nat) (x3 : Int32) (x4 : Int32) (x5 : Int32) (x6 : Int32), GF p l e (Rm 6) s m args below meth c 9 D cy ad (AA ad) 0 0 (wfM N) (QM D cy ad (wfM N) below args s) (finI M) (fm_riskOfTour_L17 M b1 b2 n x3 x4 x5 x6) 17 [(0, .ref (ad 138)), (1, .int b1), (2, .int b2), (3, .int x3), (4, .int x4), (5, .int x5), (6, .int x6)] [] M := by
  intro n
  induction n with
  | zero => intro x3 x4 x5 x6; exact g_none
  | succ n ih =>
    intro x3 x4 x5 x6
    rw [fm_riskOfTour_L17]
    refine g_iload X dX11_riskOfTour_17 6 rfl ?_
    refine g_iload_n X dX11_riskOfTour_19 2 rfl rfl ?_
    refine g_icmp_ge X 87 (by decide) dX11_riskOfTour_20 (fun q20 => ?_) (fun q20 => ?_)
    · refine g_iload_n X dX11_riskOfTour_87 3 rfl rfl ?_
      exact g_iret X hr rfl dX11_riskOfTour_88
    · refine g_aload_n X dX11_riskOfTour_23 0 rfl rfl ?_
      refine get_11_23 X (k := 138) k_138 s_138 m_5_80 dX11_riskOfTour_24 ?_
      refine g_iload X dX11_riskOfTour_27 6 rfl ?_
      refine g_iald X (n := 20) (k := 160) k_160 s_160 dX11_riskOfTour_29 (fun h3 => ?_)
      refine g_ilet X (fun v4 => ?_)
      refine g_istore X dX11_riskOfTour_30 (by decide) rfl [1, 2, 3, 4, 5, 6, 7, 0] (lu := [(0, .ref (ad 138)), (1, .int b1), (2, .int b2), (3, .int x3), (4, .int x4), (5, .int x5), (6, .int x6), (7, .int v4)]) rfl ?_
      refine g_iload X dX11_riskOfTour_32 4 rfl ?_
      refine g_aload_n X dX11_riskOfTour_34 0 rfl rfl ?_
      refine g_iload X dX11_riskOfTour_35 5 rfl ?_
      refine g_aload_n X dX11_riskOfTour_37 0 rfl rfl ?_
      refine get_11_4 X (k := 138) k_138 s_138 m_5_61 dX11_riskOfTour_38 ?_
      refine g_iload X dX11_riskOfTour_41 7 rfl ?_
      refine g_iald X (n := 20) (k := 143) k_143 s_143 dX11_riskOfTour_43 (fun h5 => ?_)
      refine g_ci X (st := [.int x4]) (fun _ hh => ok_V X (k0 := 138) (As := [.int x5, .int (M.1 143 (ix v4))]) wkX11_legOf (tm_legOf M x5 (M.1 143 (ix v4)) hh) rfl k_138 s_138 (by decide) rfl m_6_126 rfl (hRm (by decide) (by decide)) ⟨Nat.zero_le _, Nat.zero_le _⟩ (Nat.le_of_ble_eq_true rfl) dX11_riskOfTour_44) (fun r6 _ => ?_)
      refine g_iadd X dX11_riskOfTour_47 ?_
      refine g_ilet X (fun v7 => ?_)
      refine g_istore X dX11_riskOfTour_48 (by decide) rfl [1, 2, 3, 4, 7, 8, 0] (lu := [(0, .ref (ad 138)), (1, .int b1), (2, .int b2), (3, .int x3), (6, .int x6), (7, .int v4), (8, .int v7)]) rfl ?_
      refine g_iload_n X dX11_riskOfTour_50 3 rfl rfl ?_
      refine g_aload_n X dX11_riskOfTour_51 0 rfl rfl ?_
      refine g_iload_n X dX11_riskOfTour_52 1 rfl rfl ?_
      refine g_iload X dX11_riskOfTour_53 5 rfl ?_
      refine g_aload_n X dX11_riskOfTour_55 0 rfl rfl ?_
      refine g_iload X dX11_riskOfTour_56 6 rfl ?_
      refine g_ct X (v0 := .int (fm_hourOfT M v7)) (st := [.int v4, .int b1, .ref (ad 138), .int x3]) (ok_V X (k0 := 138) (As := [.int v7]) wkX11_hourOf (tm_hourOfT M v7) rfl k_138 s_138 (by decide) rfl m_6_146 rfl (hRm (by decide) (by decide)) ⟨Nat.zero_le _, Nat.zero_le _⟩ (Nat.le_of_ble_eq_true rfl) dX11_riskOfTour_58) ?_
      refine g_ci X (st := [.int x3]) (fun _ hh => ok_V X (k0 := 138) (As := [.int b1, .int v4, .int (fm_hourOfT M v7)]) wkX11_riskOf (tm_riskOf M b1 v4 (fm_hourOfT M v7) hh) rfl k_138 s_138 (by decide) rfl m_6_114 rfl (hRm (by decide) (by decide)) ⟨Nat.zero_le _, Nat.zero_le _⟩ (Nat.le_of_ble_eq_true rfl) dX11_riskOfTour_61) (fun r8 _ => ?_)
      refine g_iadd X dX11_riskOfTour_64 ?_
      refine g_ilet X (fun v9 => ?_)
      refine g_istore_n X dX11_riskOfTour_65 rfl (by decide) rfl [1, 2, 3, 0, 4, 5, 6] (lu := [(0, .ref (ad 138)), (1, .int b1), (2, .int b2), (3, .int v9), (6, .int x6), (7, .int v4), (8, .int v7)]) rfl ?_
      refine g_iload X dX11_riskOfTour_66 6 rfl ?_
      refine g_iconst X dX11_riskOfTour_68 ic_1 ?_
      refine g_iadd X dX11_riskOfTour_69 ?_
      refine g_ilet X (fun v10 => ?_)
      refine g_istore X dX11_riskOfTour_70 (by decide) rfl [1, 2, 3, 4, 0, 5, 6] (lu := [(0, .ref (ad 138)), (1, .int b1), (2, .int b2), (3, .int v9), (4, .int v10), (6, .int x6), (7, .int v4)]) rfl ?_
      refine g_aload_n X dX11_riskOfTour_72 0 rfl rfl ?_
      refine get_11_4 X (k := 138) k_138 s_138 m_5_61 dX11_riskOfTour_73 ?_
      refine g_iload X dX11_riskOfTour_76 6 rfl ?_
      refine g_iald X (n := 20) (k := 143) k_143 s_143 dX11_riskOfTour_78 (fun h11 => ?_)
      refine g_ilet X (fun v12 => ?_)
      refine g_istore X dX11_riskOfTour_79 (by decide) rfl [1, 2, 3, 4, 5, 0, 6] (lu := [(0, .ref (ad 138)), (1, .int b1), (2, .int b2), (3, .int v9), (4, .int v10), (5, .int v12), (6, .int x6)]) rfl ?_
      refine g_iinc X (k := 6) (v := (x6 + 1)) dX11_riskOfTour_81 rfl (ii_1 _) (by decide) rfl [1, 2, 3, 4, 5, 6, 0] (lu := [(0, .ref (ad 138)), (1, .int b1), (2, .int b2), (3, .int v9), (4, .int v10), (5, .int v12), (6, .int (x6 + 1))]) rfl ?_
      refine g_goto X 17 (by decide) dX11_riskOfTour_84 ?_
      exact ih v9 v10 v12 (x6 + 1)
set_option maxRecDepth 100000 in
set_option maxHeartbeats 4000000 in
theorem tm_riskOfTour {l : Launch} {D : va_G} {cy : Nat → ClassId} {ad : Nat → Nat} {N : Mem} (M : Mem) (a1 : Int32) (a2 : Int32) {x : Int32} (h : fm_riskOfTour M a1 a2 = some x) : Mt l D cy ad yX11_riskOfTour cX11_riskOfTour 9 (some .int) 6 [.ref (ad 138), .int a1, .int a2] ((wfM N) M) (some (.int x), (wfM N) M) := by
  refine met_of (fin := (finI M)) (lv0 := [(0, .ref (ad 138)), (1, .int a1), (2, .int a2)]) (by decide) (Nat.le_of_ble_eq_true rfl) rfl (lM N) h (fun p e s m args below meth c X hr => ?_)
  unfold fm_riskOfTour
  refine g_iconst X dX11_riskOfTour_0 ic_0 ?_
  refine g_istore_n X dX11_riskOfTour_1 rfl (by decide) rfl [1, 2, 3, 0] (lu := [(0, .ref (ad 138)), (1, .int a1), (2, .int a2), (3, .int 0)]) rfl ?_
  refine g_iconst X dX11_riskOfTour_2 ic_0 ?_
  refine g_istore X dX11_riskOfTour_3 (by decide) rfl [1, 2, 3, 4, 0] (lu := [(0, .ref (ad 138)), (1, .int a1), (2, .int a2), (3, .int 0), (4, .int 0)]) rfl ?_
  refine g_aload_n X dX11_riskOfTour_5 0 rfl rfl ?_
  refine get_11_18 X (k := 138) k_138 s_138 m_5_75 dX11_riskOfTour_6 ?_
  refine g_bipush X dX11_riskOfTour_9 bi_7 ?_
  refine g_ialdC X (n := 9) (k := 156) k_156 s_156 (by decide) dX11_riskOfTour_11 ?_
  refine g_ilet X (fun v2 => ?_)
  refine g_istore X dX11_riskOfTour_12 (by decide) rfl [1, 2, 3, 4, 5, 0] (lu := [(0, .ref (ad 138)), (1, .int a1), (2, .int a2), (3, .int 0), (4, .int 0), (5, .int v2)]) rfl ?_
  refine g_iconst X dX11_riskOfTour_14 ic_0 ?_
  refine g_istore X dX11_riskOfTour_15 (by decide) rfl [1, 2, 3, 4, 5, 6, 0] (lu := [(0, .ref (ad 138)), (1, .int a1), (2, .int a2), (3, .int 0), (4, .int 0), (5, .int v2), (6, .int 0)]) rfl ?_
  exact Lm_riskOfTour_L17  X hr M a1 a2    FU 0 0 v2 0
