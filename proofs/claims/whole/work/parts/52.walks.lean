set_option maxRecDepth 100000 in
set_option maxHeartbeats 4000000 in
theorem tc_feed {l : Launch} {D : va_G} {cy : Nat → ClassId} {ad : Nat → Nat} {N : Mem} (M : Mem) (a1 : Int32) (a2 : Int32) {x : (Int32 × Mem)} (h : fc_feed M a1 a2 = some x) : Mt l D cy ad yX10_feed cX10_feed 3 (some .int) 3 [.ref (ad 0), .int a1, .int a2] ((wfC N) M) (some (.int x.1), (wfC N) x.2) := by
  refine met_of (fin := finS) (lv0 := [(0, .ref (ad 0)), (1, .int a1), (2, .int a2)]) (by decide) (Nat.le_of_ble_eq_true rfl) rfl (lC N) h (fun p e s m args below meth c X hr => ?_)
  unfold fc_feed
  refine g_iload_n X dX10_feed_0 2 rfl rfl ?_
  refine g_iconst X dX10_feed_1 ic_1 ?_
  refine g_iconst X dX10_feed_2 ic_4 ?_
  refine g_ct X (v0 := .int (fc_isWithinT M a2 1 4)) (st := []) (ok_S X (As := [.int a2, .int 1, .int 4]) wkX10_isWithin (tc_isWithinT M a2 1 4) rfl m_2_170 rfl (hRm (by decide) (by decide)) ⟨Nat.zero_le _, Nat.zero_le _⟩ (Nat.le_of_ble_eq_true rfl) dX10_feed_3) ?_
  refine g_if_ne X 16 (by decide) dX10_feed_6 (fun q6 => ?_) (fun q6 => ?_)
  · refine g_iload_n X dX10_feed_16 2 rfl rfl ?_
    refine g_sipush X dX10_feed_17 si_160 ?_
    refine g_aload_n X dX10_feed_20 0 rfl rfl ?_
    refine get_10_1 X (k := 0) k_0 s_0 m_2_127 dX10_feed_21 ?_
    refine get_6_1 X (k := 18) k_18 s_18 m_1_38 dX10_feed_24 ?_
    refine g_isub X dX10_feed_27 ?_
    refine g_icmp_le X 38 (by decide) dX10_feed_28 (fun q28 => ?_) (fun q28 => ?_)
    · refine g_aload_n X dX10_feed_38 0 rfl rfl ?_
      refine get_10_1 X (k := 0) k_0 s_0 m_2_127 dX10_feed_39 ?_
      refine g_iload_n X dX10_feed_42 1 rfl rfl ?_
      refine g_iload_n X dX10_feed_43 2 rfl rfl ?_
      refine g_cv X (st := []) (fun _ hh => ok_V X (k0 := 18) (As := [.int a1, .int a2]) wkX6_append (tTape_append M a1 a2 hh) rfl k_18 s_18 (by decide) rfl m_3_99 rfl (hRm (by decide) (by decide)) ⟨Nat.zero_le _, Nat.zero_le _⟩ (Nat.le_of_ble_eq_true rfl) dX10_feed_44) (fun M1 _ => ?_)
      refine g_aload_n X dX10_feed_47 0 rfl rfl ?_
      refine get_10_1 X (k := 0) k_0 s_0 m_2_127 dX10_feed_48 ?_
      refine get_6_1 X (k := 18) k_18 s_18 m_1_38 dX10_feed_51 ?_
      exact g_iret X hr rfl dX10_feed_54
    · refine g_aload_n X dX10_feed_31 0 rfl rfl ?_
      refine g_bipush X dX10_feed_32 bi_m6 ?_
      refine g_cs X (st := []) (fun _ hh => ok_V X (k0 := 0) (As := [.int (-6)]) wkX10_refuse (tc_refuse M (-6) hh) rfl k_0 s_0 (by decide) rfl m_2_173 rfl (hRm (by decide) (by decide)) ⟨Nat.zero_le _, Nat.zero_le _⟩ (Nat.le_of_ble_eq_true rfl) dX10_feed_34) (fun r3 M2 _ => ?_)
      exact g_iret X hr rfl dX10_feed_37
  · refine g_aload_n X dX10_feed_9 0 rfl rfl ?_
    refine g_bipush X dX10_feed_10 bi_m2 ?_
    refine g_cs X (st := []) (fun _ hh => ok_V X (k0 := 0) (As := [.int (-2)]) wkX10_refuse (tc_refuse M (-2) hh) rfl k_0 s_0 (by decide) rfl m_2_173 rfl (hRm (by decide) (by decide)) ⟨Nat.zero_le _, Nat.zero_le _⟩ (Nat.le_of_ble_eq_true rfl) dX10_feed_12) (fun r5 M4 _ => ?_)
    exact g_iret X hr rfl dX10_feed_15
set_option maxRecDepth 100000 in
set_option maxHeartbeats 4000000 in
theorem tc_wipe {l : Launch} {D : va_G} {cy : Nat → ClassId} {ad : Nat → Nat} {N : Mem} (M : Mem) {x : (Int32 × Mem)} (h : fc_wipe M = some x) : Mt l D cy ad yX10_wipe cX10_wipe 2 (some .int) 1 [.ref (ad 0)] ((wfC N) M) (some (.int x.1), (wfC N) x.2) := by
  refine met_of (fin := finS) (lv0 := [(0, .ref (ad 0))]) (by decide) (Nat.le_of_ble_eq_true rfl) rfl (lC N) h (fun p e s m args below meth c X hr => ?_)
  unfold fc_wipe
  refine g_aload_n X dX10_wipe_0 0 rfl rfl ?_
  refine get_10_1 X (k := 0) k_0 s_0 m_2_127 dX10_wipe_1 ?_
  refine get_6_1 X (k := 18) k_18 s_18 m_1_38 dX10_wipe_4 ?_
  refine g_ilet X (fun v1 => ?_)
  refine g_istore_n X dX10_wipe_7 rfl (by decide) rfl [1, 0] (lu := [(0, .ref (ad 0)), (1, .int v1)]) rfl ?_
  refine g_aload_n X dX10_wipe_8 0 rfl rfl ?_
  refine get_10_1 X (k := 0) k_0 s_0 m_2_127 dX10_wipe_9 ?_
  refine g_iconst X dX10_wipe_12 ic_0 ?_
  refine put_6_1 X (k := 18) k_18 s_18 m_1_38 dX10_wipe_13 ?_
  refine g_mlet X (fun M2 => ?_)
  refine g_iload_n X dX10_wipe_16 1 rfl rfl ?_
  exact g_iret X hr rfl dX10_wipe_17
set_option maxRecDepth 100000 in
set_option maxHeartbeats 4000000 in
theorem tLaw_reset {l : Launch} {D : va_G} {cy : Nat → ClassId} {ad : Nat → Nat} {N : Mem} (M : Mem) (a0 : Nat) (ha0 : a0 < 6) {x : Mem} (h : fLaw_reset M a0 = some x) : Mt l D cy ad yX2_reset cX2_reset 1 none 2 [.ref (ad (a0 + 43))] ((wfC N) M) (none, (wfC N) x) := by
  refine met_of (fin := finV) (lv0 := [(0, .ref (ad (a0 + 43)))]) (by decide) (Nat.le_of_ble_eq_true rfl) rfl (lC N) h (fun p e s m args below meth c X hr => ?_)
  unfold fLaw_reset
  refine g_gs0 X m_1_143 dX2_reset_0 ?_
  refine g_iconst X dX2_reset_3 ic_0 ?_
  refine g_aload_n X dX2_reset_4 0 rfl rfl ?_
  refine get_2_0 X (k := a0 + 43) (kf_43 _ ha0) (sf_43 _ ha0) m_1_148 dX2_reset_5 ?_
  refine g_iconst X dX2_reset_8 ic_0 ?_
  refine g_bipush X dX2_reset_9 bi_9 ?_
  refine g_cpS X (k := a0 + 50) (n1 := 9) (kf_50 _ ha0) (sf_50 _ ha0) m_1_145 (hR2 (by decide) (Nat.le_of_ble_eq_true rfl)) dX2_reset_11 (fun _ => ?_)
  refine g_mlet X (fun M1 => ?_)
  exact g_vret X hr rfl dX2_reset_14
set_option maxRecDepth 100000 in
set_option maxHeartbeats 4000000 in
theorem LTape_skipBlanks_L0 {l : Launch} {D : va_G} {cy : Nat → ClassId} {ad : Nat → Nat} {N : Mem} {p : Program} {e : Env} {s : State} {m : MethodId} {args : Array Value} {below : List Frame} {meth : Method} {c : Code} (X : Cx p s m args meth c cX6_skipBlanks 1 RX6 D cy ad (AA ad) (wfC N) sdC) (hr : meth.sig.returnType = none) : ∀ (n : Nat) (M : Mem), GF p l e (Rm 1) s m args below meth c 1 D cy ad (AA ad) 0 0 (wfC N) (QM D cy ad (wfC N) below args s) finV (fTape_skipBlanks_L0 n M) 0 [(0, .ref (ad 18))] [] M := by
  intro n
  induction n with
  | zero => intro M; exact g_none
  | succ n ih =>
    intro M
    rw [fTape_skipBlanks_L0]
    refine g_aload_n X dX6_skipBlanks_0 0 rfl rfl ?_
    refine get_6_2 X (k := 18) k_18 s_18 m_1_39 dX6_skipBlanks_1 ?_
    refine g_aload_n X dX6_skipBlanks_4 0 rfl rfl ?_
    refine get_6_1 X (k := 18) k_18 s_18 m_1_37 dX6_skipBlanks_5 ?_
    refine g_icmp_ge X 38 (by decide) dX6_skipBlanks_8 (fun q8 => ?_) (fun q8 => ?_)
    · exact g_vret X hr rfl dX6_skipBlanks_38
    · refine g_aload_n X dX6_skipBlanks_11 0 rfl rfl ?_
      refine get_6_0 X (k := 18) k_18 s_18 m_1_36 dX6_skipBlanks_12 ?_
      refine g_aload_n X dX6_skipBlanks_15 0 rfl rfl ?_
      refine get_6_2 X (k := 18) k_18 s_18 m_1_39 dX6_skipBlanks_16 ?_
      refine g_bald X (k := 19) k_19 s_19 dX6_skipBlanks_19 (fun h3 => ?_)
      refine g_bipush X dX6_skipBlanks_20 bi_32 ?_
      refine g_icmp_ne X 38 (by decide) dX6_skipBlanks_22 (fun q22 => ?_) (fun q22 => ?_)
      · exact g_vret X hr rfl dX6_skipBlanks_38
      · refine g_aload_n X dX6_skipBlanks_25 0 rfl rfl ?_
        refine g_dup X dX6_skipBlanks_26 rfl ?_
        refine get_6_2 X (k := 18) k_18 s_18 m_1_39 dX6_skipBlanks_27 ?_
        refine g_iconst X dX6_skipBlanks_30 ic_1 ?_
        refine g_iadd X dX6_skipBlanks_31 ?_
        refine put_6_2 X (k := 18) k_18 s_18 m_1_39 dX6_skipBlanks_32 ?_
        refine g_mlet X (fun M4 => ?_)
        refine g_goto X 0 (by decide) dX6_skipBlanks_35 ?_
        exact ih M4
set_option maxRecDepth 100000 in
set_option maxHeartbeats 4000000 in
theorem tTape_skipBlanks {l : Launch} {D : va_G} {cy : Nat → ClassId} {ad : Nat → Nat} {N : Mem} (M : Mem) {x : Mem} (h : fTape_skipBlanks M = some x) : Mt l D cy ad yX6_skipBlanks cX6_skipBlanks 1 none 1 [.ref (ad 18)] ((wfC N) M) (none, (wfC N) x) := by
  refine met_of (fin := finV) (lv0 := [(0, .ref (ad 18))]) (by decide) (Nat.le_of_ble_eq_true rfl) rfl (lC N) h (fun p e s m args below meth c X hr => ?_)
  unfold fTape_skipBlanks
  refine g_aload_n X dX6_skipBlanks_0 0 rfl rfl ?_
  refine get_6_2 X (k := 18) k_18 s_18 m_1_39 dX6_skipBlanks_1 ?_
  refine g_aload_n X dX6_skipBlanks_4 0 rfl rfl ?_
  refine get_6_1 X (k := 18) k_18 s_18 m_1_37 dX6_skipBlanks_5 ?_
  refine g_icmp_ge X 38 (by decide) dX6_skipBlanks_8 (fun q8 => ?_) (fun q8 => ?_)
  · exact g_vret X hr rfl dX6_skipBlanks_38
  · refine g_aload_n X dX6_skipBlanks_11 0 rfl rfl ?_
    refine get_6_0 X (k := 18) k_18 s_18 m_1_36 dX6_skipBlanks_12 ?_
    refine g_aload_n X dX6_skipBlanks_15 0 rfl rfl ?_
    refine get_6_2 X (k := 18) k_18 s_18 m_1_39 dX6_skipBlanks_16 ?_
    refine g_bald X (k := 19) k_19 s_19 dX6_skipBlanks_19 (fun h1 => ?_)
    refine g_bipush X dX6_skipBlanks_20 bi_32 ?_
    refine g_icmp_ne X 38 (by decide) dX6_skipBlanks_22 (fun q22 => ?_) (fun q22 => ?_)
    · exact g_vret X hr rfl dX6_skipBlanks_38
    · refine g_aload_n X dX6_skipBlanks_25 0 rfl rfl ?_
      refine g_dup X dX6_skipBlanks_26 rfl ?_
      refine get_6_2 X (k := 18) k_18 s_18 m_1_39 dX6_skipBlanks_27 ?_
      refine g_iconst X dX6_skipBlanks_30 ic_1 ?_
      refine g_iadd X dX6_skipBlanks_31 ?_
      refine put_6_2 X (k := 18) k_18 s_18 m_1_39 dX6_skipBlanks_32 ?_
      refine g_mlet X (fun M2 => ?_)
      refine g_goto X 0 (by decide) dX6_skipBlanks_35 ?_
      exact LTape_skipBlanks_L0  X hr     FU M2
set_option maxRecDepth 100000 in
set_option maxHeartbeats 4000000 in
theorem LTape_endOfRun_L5 {l : Launch} {D : va_G} {cy : Nat → ClassId} {ad : Nat → Nat} {N : Mem} {p : Program} {e : Env} {s : State} {m : MethodId} {args : Array Value} {below : List Frame} {meth : Method} {c : Code} (X : Cx p s m args meth c cX6_endOfRun 4 RX6 D cy ad (AA ad) (wfC N) sdC) (hr : meth.sig.returnType = (some .int)) (M : Mem) (b1 : Int32) (b2 : Int32) : ∀ (n : Nat) (x3 : Int32), GF p l e (Rm 1) s m args below meth c 4 D cy ad (AA ad) 0 0 (wfC N) (QM D cy ad (wfC N) below args s) (finI M) (fTape_endOfRun_L5 M b1 b2 n x3) 5 [(0, .ref (ad 18)), (1, .int b1), (2, .int b2), (3, .int x3)] [] M := by
  intro n
  induction n with
  | zero => intro x3; exact g_none
  | succ n ih =>
    intro x3
    rw [fTape_endOfRun_L5]
    refine g_iload_n X dX6_endOfRun_5 3 rfl rfl ?_
    refine g_aload_n X dX6_endOfRun_6 0 rfl rfl ?_
    refine get_6_1 X (k := 18) k_18 s_18 m_1_37 dX6_endOfRun_7 ?_
    refine g_icmp_ge X 39 (by decide) dX6_endOfRun_10 (fun q10 => ?_) (fun q10 => ?_)
    · refine g_iload_n X dX6_endOfRun_39 3 rfl rfl ?_
      exact g_iret X hr rfl dX6_endOfRun_40
    · refine g_aload_n X dX6_endOfRun_13 0 rfl rfl ?_
      refine get_6_0 X (k := 18) k_18 s_18 m_1_36 dX6_endOfRun_14 ?_
      refine g_iload_n X dX6_endOfRun_17 3 rfl rfl ?_
      refine g_bald X (k := 19) k_19 s_19 dX6_endOfRun_18 (fun h2 => ?_)
      refine g_iload_n X dX6_endOfRun_19 1 rfl rfl ?_
      refine g_icmp_lt X 39 (by decide) dX6_endOfRun_20 (fun q20 => ?_) (fun q20 => ?_)
      · refine g_iload_n X dX6_endOfRun_39 3 rfl rfl ?_
        exact g_iret X hr rfl dX6_endOfRun_40
      · refine g_aload_n X dX6_endOfRun_23 0 rfl rfl ?_
        refine get_6_0 X (k := 18) k_18 s_18 m_1_36 dX6_endOfRun_24 ?_
        refine g_iload_n X dX6_endOfRun_27 3 rfl rfl ?_
        refine g_bald X (k := 19) k_19 s_19 dX6_endOfRun_28 (fun h3 => ?_)
        refine g_iload_n X dX6_endOfRun_29 2 rfl rfl ?_
        refine g_icmp_gt X 39 (by decide) dX6_endOfRun_30 (fun q30 => ?_) (fun q30 => ?_)
        · refine g_iload_n X dX6_endOfRun_39 3 rfl rfl ?_
          exact g_iret X hr rfl dX6_endOfRun_40
        · refine g_iinc X (k := 3) (v := (x3 + 1)) dX6_endOfRun_33 rfl (ii_1 _) (by decide) rfl [1, 2, 3, 0] (lu := [(0, .ref (ad 18)), (1, .int b1), (2, .int b2), (3, .int (x3 + 1))]) rfl ?_
          refine g_goto X 5 (by decide) dX6_endOfRun_36 ?_
          exact ih (x3 + 1)
set_option maxRecDepth 100000 in
set_option maxHeartbeats 4000000 in
theorem tTape_endOfRun {l : Launch} {D : va_G} {cy : Nat → ClassId} {ad : Nat → Nat} {N : Mem} (M : Mem) (a1 : Int32) (a2 : Int32) {x : Int32} (h : fTape_endOfRun M a1 a2 = some x) : Mt l D cy ad yX6_endOfRun cX6_endOfRun 4 (some .int) 1 [.ref (ad 18), .int a1, .int a2] ((wfC N) M) (some (.int x), (wfC N) M) := by
  refine met_of (fin := (finI M)) (lv0 := [(0, .ref (ad 18)), (1, .int a1), (2, .int a2)]) (by decide) (Nat.le_of_ble_eq_true rfl) rfl (lC N) h (fun p e s m args below meth c X hr => ?_)
  unfold fTape_endOfRun
  refine g_aload_n X dX6_endOfRun_0 0 rfl rfl ?_
  refine get_6_2 X (k := 18) k_18 s_18 m_1_39 dX6_endOfRun_1 ?_
  refine g_ilet X (fun v1 => ?_)
  refine g_istore_n X dX6_endOfRun_4 rfl (by decide) rfl [1, 2, 3, 0] (lu := [(0, .ref (ad 18)), (1, .int a1), (2, .int a2), (3, .int v1)]) rfl ?_
  exact LTape_endOfRun_L5  X hr M a1 a2    FU v1
set_option maxRecDepth 100000 in
set_option maxHeartbeats 4000000 in
theorem tTape_lawWord {l : Launch} {D : va_G} {cy : Nat → ClassId} {ad : Nat → Nat} {N : Mem} (M : Mem) (a0 : Int32) {x : Nat} (h : fTape_lawWord M a0 = some x) : Mt l D cy ad yX6_lawWord cX6_lawWord 1 (some (.object "java/lang/String")) 1 [.int a0] ((wfC N) M) (some (.ref (ad (x + 400))), (wfC N) M) := by
  refine met_of (fin := (finT ad M)) (lv0 := [(0, .int a0)]) (by decide) (Nat.le_of_ble_eq_true rfl) rfl (lC N) h (fun p e s m args below meth c X hr => ?_)
  unfold fTape_lawWord
  refine g_iload_n X dX6_lawWord_0 0 rfl rfl ?_
  refine g_ifc X (fun q1_0 => ?_) (fun q1_0 => ?_)
  · refine g_swI X (v0 := 0) (tgt := 48) (off := 47) q1_0 (by decide) (by decide) (by decide) dX6_lawWord_1 ?_
    refine g_strC X (i := 0) dX6_lawWord_48 (by decide) ⟨rfl, rfl⟩ ?_
    exact g_aret X hr rfl dX6_lawWord_50
  ·
    refine g_ifc X (fun q1_1 => ?_) (fun q1_1 => ?_)
    · refine g_swI X (v0 := 1) (tgt := 51) (off := 50) q1_1 (by decide) (by decide) (by decide) dX6_lawWord_1 ?_
      refine g_strC X (i := 1) dX6_lawWord_51 (by decide) ⟨rfl, rfl⟩ ?_
      exact g_aret X hr rfl dX6_lawWord_53
    ·
      refine g_ifc X (fun q1_2 => ?_) (fun q1_2 => ?_)
      · refine g_swI X (v0 := 2) (tgt := 54) (off := 53) q1_2 (by decide) (by decide) (by decide) dX6_lawWord_1 ?_
        refine g_strC X (i := 2) dX6_lawWord_54 (by decide) ⟨rfl, rfl⟩ ?_
        exact g_aret X hr rfl dX6_lawWord_56
      ·
        refine g_ifc X (fun q1_3 => ?_) (fun q1_3 => ?_)
        · refine g_swI X (v0 := 3) (tgt := 57) (off := 56) q1_3 (by decide) (by decide) (by decide) dX6_lawWord_1 ?_
          refine g_strC X (i := 3) dX6_lawWord_57 (by decide) ⟨rfl, rfl⟩ ?_
          exact g_aret X hr rfl dX6_lawWord_59
        ·
          refine g_ifc X (fun q1_4 => ?_) (fun q1_4 => ?_)
          · refine g_swI X (v0 := 4) (tgt := 60) (off := 59) q1_4 (by decide) (by decide) (by decide) dX6_lawWord_1 ?_
            refine g_strC X (i := 4) dX6_lawWord_60 (by decide) ⟨rfl, rfl⟩ ?_
            exact g_aret X hr rfl dX6_lawWord_62
          ·
            refine g_ifc X (fun q1_5 => ?_) (fun q1_5 => ?_)
            · refine g_swI X (v0 := 5) (tgt := 63) (off := 62) q1_5 (by decide) (by decide) (by decide) dX6_lawWord_1 ?_
              refine g_strC X (i := 5) dX6_lawWord_63 (by decide) ⟨rfl, rfl⟩ ?_
              exact g_aret X hr rfl dX6_lawWord_65
            ·
              refine g_ifc X (fun q1_6 => ?_) (fun q1_6 => ?_)
              · refine g_swI X (v0 := 6) (tgt := 66) (off := 65) q1_6 (by decide) (by decide) (by decide) dX6_lawWord_1 ?_
                refine g_strC X (i := 6) dX6_lawWord_66 (by decide) ⟨rfl, rfl⟩ ?_
                exact g_aret X hr rfl dX6_lawWord_68
              ·
                refine g_ifc X (fun q1_7 => ?_) (fun q1_7 => ?_)
                · refine g_swI X (v0 := 7) (tgt := 69) (off := 68) q1_7 (by decide) (by decide) (by decide) dX6_lawWord_1 ?_
                  refine g_strC X (i := 7) dX6_lawWord_69 (by decide) ⟨rfl, rfl⟩ ?_
                  exact g_aret X hr rfl dX6_lawWord_71
                ·
                  refine g_swO X (tgt := 72) dX6_lawWord_1 (fun n h1 h2 hx => by
                      rcases (show n = 0 ∨ n = 1 ∨ n = 2 ∨ n = 3 ∨ n = 4 ∨ n = 5 ∨ n = 6 ∨ n = 7 by omega) with rfl | rfl | rfl | rfl | rfl | rfl | rfl | rfl
                      · exact absurd hx q1_0
                      · exact absurd hx q1_1
                      · exact absurd hx q1_2
                      · exact absurd hx q1_3
                      · exact absurd hx q1_4
                      · exact absurd hx q1_5
                      · exact absurd hx q1_6
                      · exact absurd hx q1_7) (by decide) ?_
                  refine g_strC X (i := 8) dX6_lawWord_72 (by decide) ⟨rfl, rfl⟩ ?_
                  exact g_aret X hr rfl dX6_lawWord_74
theorem tTape_lawWordT {l : Launch} {D : va_G} {cy : Nat → ClassId} {ad : Nat → Nat} {N : Mem} (M : Mem) (a0 : Int32) : Mt l D cy ad yX6_lawWord cX6_lawWord 1 (some (.object "java/lang/String")) 1 [.int a0] ((wfC N) M) (some (.ref (ad ((fTape_lawWordT M a0) + 400))), (wfC N) M) := tTape_lawWord M a0 (fTape_lawWordE M a0)
set_option maxRecDepth 100000 in
set_option maxHeartbeats 4000000 in
theorem LTape_stands_L17 {l : Launch} {D : va_G} {cy : Nat → ClassId} {ad : Nat → Nat} {N : Mem} {p : Program} {e : Env} {s : State} {m : MethodId} {args : Array Value} {below : List Frame} {meth : Method} {c : Code} (X : Cx p s m args meth c cX6_stands 4 RX6 D cy ad (AA ad) (wfC N) sdC) (hr : meth.sig.returnType = (some .boolean)) (M : Mem) (b1 : Nat) (hb1 : b1 < 9) : ∀ (n : Nat) (x3 : Int32), GF p l e (Rm 6) s m args below meth c 4 D cy ad (AA ad) 0 0 (wfC N) (QM D cy ad (wfC N) below args s) (finI M) (fTape_stands_L17 M b1 n x3) 17 [(0, .ref (ad 18)), (1, .ref (ad (b1 + 400))), (3, .int x3)] [] M := by
  intro n
  induction n with
  | zero => intro x3; exact g_none
  | succ n ih =>
    intro x3
    rw [fTape_stands_L17]
    refine g_iload_n X dX6_stands_17 2 rfl rfl ?_
    refine g_aload_n X dX6_stands_18 1 rfl rfl ?_
    refine g_ct X (v0 := .int (nI (svN.getD b1 0))) (st := [.int x3]) (ok_T X (As := []) hb1 wkJ0_length_8abf5 rfl (tStr_length _ hb1) rfl m_3_144 rfl (hRm (by decide) (by decide)) ⟨Nat.zero_le _, Nat.zero_le _⟩ (Nat.le_of_ble_eq_true rfl) dX6_stands_19) ?_
    refine g_icmp_ge X 52 (by decide) dX6_stands_22 (fun q22 => ?_) (fun q22 => ?_)
    · refine g_iconst X dX6_stands_52 ic_1 ?_
      exact g_zret X hr (isB_n (by decide)) rfl dX6_stands_53
    · refine g_aload_n X dX6_stands_25 1 rfl rfl ?_
      refine g_iload_n X dX6_stands_26 2 rfl rfl ?_
      refine g_gd (q := inb x3 (svN.getD b1 0)) (fun h1 => ?_)
      refine g_ct X (v0 := .int (svc b1 (ix x3))) (st := []) (ok_T X (As := [.int x3]) hb1 wkJ0_charAt_5068e rfl (tStr_charAt _ hb1 h1 (inb_1 h1) (inb_2 hb1 h1)) rfl m_3_154 rfl (hRm (by decide) (by decide)) ⟨Nat.zero_le _, Nat.zero_le _⟩ (Nat.le_of_ble_eq_true rfl) dX6_stands_27) ?_
      refine g_aload_n X dX6_stands_30 0 rfl rfl ?_
      refine get_6_0 X (k := 18) k_18 s_18 m_1_36 dX6_stands_31 ?_
      refine g_aload_n X dX6_stands_34 0 rfl rfl ?_
      refine get_6_2 X (k := 18) k_18 s_18 m_1_39 dX6_stands_35 ?_
      refine g_iload_n X dX6_stands_38 2 rfl rfl ?_
      refine g_iadd X dX6_stands_39 ?_
      refine g_bald X (k := 19) k_19 s_19 dX6_stands_40 (fun h2 => ?_)
      refine g_icmp_eq X 46 (by decide) dX6_stands_41 (fun q41 => ?_) (fun q41 => ?_)
      · refine g_iinc X (k := 2) (v := (x3 + 1)) dX6_stands_46 rfl (ii_1 _) (by decide) rfl [1, 2, 0] (lu := [(0, .ref (ad 18)), (1, .ref (ad (b1 + 400))), (3, .int (x3 + 1))]) rfl ?_
        refine g_goto X 17 (by decide) dX6_stands_49 ?_
        exact ih (x3 + 1)
      · refine g_iconst X dX6_stands_44 ic_0 ?_
        exact g_zret X hr (isB_n (by decide)) rfl dX6_stands_45
set_option maxRecDepth 100000 in
set_option maxHeartbeats 4000000 in
theorem tTape_stands {l : Launch} {D : va_G} {cy : Nat → ClassId} {ad : Nat → Nat} {N : Mem} (M : Mem) (a1 : Nat) (a2 : Int32) (ha1 : a1 < 9) {x : Int32} (h : fTape_stands M a1 a2 = some x) : Mt l D cy ad yX6_stands cX6_stands 4 (some .boolean) 6 [.ref (ad 18), .ref (ad (a1 + 400)), .int a2] ((wfC N) M) (some (.int x), (wfC N) M) := by
  refine met_of (fin := (finI M)) (lv0 := [(0, .ref (ad 18)), (1, .ref (ad (a1 + 400))), (2, .int a2)]) (by decide) (Nat.le_of_ble_eq_true rfl) rfl (lC N) h (fun p e s m args below meth c X hr => ?_)
  unfold fTape_stands
  refine g_aload_n X dX6_stands_0 1 rfl rfl ?_
  refine g_ct X (v0 := .int (nI (svN.getD a1 0))) (st := []) (ok_T X (As := []) ha1 wkJ0_length_8abf5 rfl (tStr_length _ ha1) rfl m_3_144 rfl (hRm (by decide) (by decide)) ⟨Nat.zero_le _, Nat.zero_le _⟩ (Nat.le_of_ble_eq_true rfl) dX6_stands_1) ?_
  refine g_iload_n X dX6_stands_4 2 rfl rfl ?_
  refine g_aload_n X dX6_stands_5 0 rfl rfl ?_
  refine get_6_2 X (k := 18) k_18 s_18 m_1_39 dX6_stands_6 ?_
  refine g_isub X dX6_stands_9 ?_
  refine g_icmp_eq X 15 (by decide) dX6_stands_10 (fun q10 => ?_) (fun q10 => ?_)
  · refine g_iconst X dX6_stands_15 ic_0 ?_
    refine g_istore_n X dX6_stands_16 rfl (by decide) rfl [1, 2, 0] (lu := [(0, .ref (ad 18)), (1, .ref (ad (a1 + 400))), (3, .int 0)]) rfl ?_
    exact LTape_stands_L17  X hr M a1 ha1   FU 0
  · refine g_iconst X dX6_stands_13 ic_0 ?_
    exact g_zret X hr (isB_n (by decide)) rfl dX6_stands_14
set_option maxRecDepth 100000 in
set_option maxHeartbeats 4000000 in
theorem LTape_readWord_L11 {l : Launch} {D : va_G} {cy : Nat → ClassId} {ad : Nat → Nat} {N : Mem} {p : Program} {e : Env} {s : State} {m : MethodId} {args : Array Value} {below : List Frame} {meth : Method} {c : Code} (X : Cx p s m args meth c cX6_readWord 3 RX6 D cy ad (AA ad) (wfC N) sdC) (hr : meth.sig.returnType = (some .int)) (M : Mem) (b1 : Int32) (kx29 : Int32 → Option (Int32 × Mem)) (hkx29 : ∀ (y2 : Int32), GF p l e (Rm 7) s m args below meth c 3 D cy ad (AA ad) 0 0 (wfC N) (QM D cy ad (wfC N) below args s) finS (kx29 y2) 29 [(0, .ref (ad 18)), (1, .int b1), (2, .int y2)] [] M) : ∀ (n : Nat) (x2 : Int32), GF p l e (Rm 7) s m args below meth c 3 D cy ad (AA ad) 0 0 (wfC N) (QM D cy ad (wfC N) below args s) finS (fTape_readWord_L11 M b1 kx29 n x2) 11 [(0, .ref (ad 18)), (1, .int b1), (2, .int x2)] [] M := by
  intro n
  induction n with
  | zero => intro x2; exact g_none
  | succ n ih =>
    intro x2
    rw [fTape_readWord_L11]
    refine g_iload_n X dX6_readWord_11 2 rfl rfl ?_
    refine g_bipush X dX6_readWord_12 bi_9 ?_
    refine g_icmp_ge X 42 (by decide) dX6_readWord_14 (fun q14 => ?_) (fun q14 => ?_)
    · refine g_iconst X dX6_readWord_42 ic_m1 ?_
      exact g_iret X hr rfl dX6_readWord_43
    · refine g_aload_n X dX6_readWord_17 0 rfl rfl ?_
      refine g_iload_n X dX6_readWord_18 2 rfl rfl ?_
      refine g_ct X (v0 := .ref (ad ((fTape_lawWordT M x2) + 400))) (st := [.ref (ad 18)]) (ok_S X (As := [.int x2]) wkX6_lawWord (tTape_lawWordT M x2) rfl m_3_128 rfl (hRm (by decide) (by decide)) ⟨Nat.zero_le _, Nat.zero_le _⟩ (Nat.le_of_ble_eq_true rfl) dX6_readWord_19) ?_
      refine g_iload_n X dX6_readWord_22 1 rfl rfl ?_
      refine g_ci X (st := []) (fun _ hh => ok_V X (k0 := 18) (As := [.ref (ad ((fTape_lawWordT M x2) + 400)), .int b1]) wkX6_stands (tTape_stands M (fTape_lawWordT M x2) b1 (fTape_lawWord_lt M x2) hh) rfl k_18 s_18 (by decide) rfl m_3_140 rfl (hRm (by decide) (by decide)) ⟨Nat.zero_le _, Nat.zero_le _⟩ (Nat.le_of_ble_eq_true rfl) dX6_readWord_23) (fun r2 _ => ?_)
      refine g_if_eq X 36 (by decide) dX6_readWord_26 (fun q26 => ?_) (fun q26 => ?_)
      · refine g_iinc X (k := 2) (v := (x2 + 1)) dX6_readWord_36 rfl (ii_1 _) (by decide) rfl [1, 2, 0] (lu := [(0, .ref (ad 18)), (1, .int b1), (2, .int (x2 + 1))]) rfl ?_
        refine g_goto X 11 (by decide) dX6_readWord_39 ?_
        exact ih (x2 + 1)
      · exact hkx29 x2
set_option maxRecDepth 100000 in
set_option maxHeartbeats 4000000 in
theorem tTape_readWord {l : Launch} {D : va_G} {cy : Nat → ClassId} {ad : Nat → Nat} {N : Mem} (M : Mem) {x : (Int32 × Mem)} (h : fTape_readWord M = some x) : Mt l D cy ad yX6_readWord cX6_readWord 3 (some .int) 7 [.ref (ad 18)] ((wfC N) M) (some (.int x.1), (wfC N) x.2) := by
  refine met_of (fin := finS) (lv0 := [(0, .ref (ad 18))]) (by decide) (Nat.le_of_ble_eq_true rfl) rfl (lC N) h (fun p e s m args below meth c X hr => ?_)
  unfold fTape_readWord
  refine g_aload_n X dX6_readWord_0 0 rfl rfl ?_
  refine g_bipush X dX6_readWord_1 bi_97 ?_
  refine g_bipush X dX6_readWord_3 bi_122 ?_
  refine g_ci X (st := []) (fun _ hh => ok_V X (k0 := 18) (As := [.int 97, .int 122]) wkX6_endOfRun (tTape_endOfRun M 97 122 hh) rfl k_18 s_18 (by decide) rfl m_3_124 rfl (hRm (by decide) (by decide)) ⟨Nat.zero_le _, Nat.zero_le _⟩ (Nat.le_of_ble_eq_true rfl) dX6_readWord_5) (fun r1 _ => ?_)
  refine g_istore_n X dX6_readWord_8 rfl (by decide) rfl [1, 0] (lu := [(0, .ref (ad 18)), (1, .int r1)]) rfl ?_
  refine g_iconst X dX6_readWord_9 ic_0 ?_
  refine g_istore_n X dX6_readWord_10 rfl (by decide) rfl [1, 2, 0] (lu := [(0, .ref (ad 18)), (1, .int r1), (2, .int 0)]) rfl ?_
  refine LTape_readWord_L11  X hr M r1  _ (fun w3 => ?_) FU 0
  · refine g_aload_n X dX6_readWord_29 0 rfl rfl ?_
    refine g_iload_n X dX6_readWord_30 1 rfl rfl ?_
    refine put_6_2 X (k := 18) k_18 s_18 m_1_39 dX6_readWord_31 ?_
    refine g_mlet X (fun M4 => ?_)
    refine g_iload_n X dX6_readWord_34 2 rfl rfl ?_
    exact g_iret X hr rfl dX6_readWord_35
set_option maxRecDepth 100000 in
set_option maxHeartbeats 4000000 in
theorem LTape_readNumber_L30 {l : Launch} {D : va_G} {cy : Nat → ClassId} {ad : Nat → Nat} {N : Mem} {p : Program} {e : Env} {s : State} {m : MethodId} {args : Array Value} {below : List Frame} {meth : Method} {c : Code} (X : Cx p s m args meth c cX6_readNumber 4 RX6 D cy ad (AA ad) (wfC N) sdC) (hr : meth.sig.returnType = (some .int)) (b1 : Int32) : ∀ (n : Nat) (x3 : Int32) (M : Mem), GF p l e (Rm 2) s m args below meth c 4 D cy ad (AA ad) 0 0 (wfC N) (QM D cy ad (wfC N) below args s) finS (fTape_readNumber_L30 b1 n x3 M) 30 [(0, .ref (ad 18)), (1, .int b1), (3, .int x3)] [] M := by
  intro n
  induction n with
  | zero => intro x3 M; exact g_none
  | succ n ih =>
    intro x3 M
    rw [fTape_readNumber_L30]
    refine g_aload_n X dX6_readNumber_30 0 rfl rfl ?_
    refine get_6_2 X (k := 18) k_18 s_18 m_1_39 dX6_readNumber_31 ?_
    refine g_iload_n X dX6_readNumber_34 1 rfl rfl ?_
    refine g_icmp_ge X 69 (by decide) dX6_readNumber_35 (fun q35 => ?_) (fun q35 => ?_)
    · refine g_iload_n X dX6_readNumber_69 2 rfl rfl ?_
      exact g_iret X hr rfl dX6_readNumber_70
    · refine g_bipush X dX6_readNumber_38 bi_10 ?_
      refine g_iload_n X dX6_readNumber_40 2 rfl rfl ?_
      refine g_imul X dX6_readNumber_41 ?_
      refine g_aload_n X dX6_readNumber_42 0 rfl rfl ?_
      refine get_6_0 X (k := 18) k_18 s_18 m_1_36 dX6_readNumber_43 ?_
      refine g_aload_n X dX6_readNumber_46 0 rfl rfl ?_
      refine get_6_2 X (k := 18) k_18 s_18 m_1_39 dX6_readNumber_47 ?_
      refine g_bald X (k := 19) k_19 s_19 dX6_readNumber_50 (fun h3 => ?_)
      refine g_iadd X dX6_readNumber_51 ?_
      refine g_bipush X dX6_readNumber_52 bi_48 ?_
      refine g_isub X dX6_readNumber_54 ?_
      refine g_ilet X (fun v4 => ?_)
      refine g_istore_n X dX6_readNumber_55 rfl (by decide) rfl [1, 2, 0] (lu := [(0, .ref (ad 18)), (1, .int b1), (3, .int v4)]) rfl ?_
      refine g_aload_n X dX6_readNumber_56 0 rfl rfl ?_
      refine g_dup X dX6_readNumber_57 rfl ?_
      refine get_6_2 X (k := 18) k_18 s_18 m_1_39 dX6_readNumber_58 ?_
      refine g_iconst X dX6_readNumber_61 ic_1 ?_
      refine g_iadd X dX6_readNumber_62 ?_
      refine put_6_2 X (k := 18) k_18 s_18 m_1_39 dX6_readNumber_63 ?_
      refine g_mlet X (fun M5 => ?_)
      refine g_goto X 30 (by decide) dX6_readNumber_66 ?_
      exact ih v4 M5
set_option maxRecDepth 100000 in
set_option maxHeartbeats 4000000 in
theorem tTape_readNumber {l : Launch} {D : va_G} {cy : Nat → ClassId} {ad : Nat → Nat} {N : Mem} (M : Mem) {x : (Int32 × Mem)} (h : fTape_readNumber M = some x) : Mt l D cy ad yX6_readNumber cX6_readNumber 4 (some .int) 2 [.ref (ad 18)] ((wfC N) M) (some (.int x.1), (wfC N) x.2) := by
  refine met_of (fin := finS) (lv0 := [(0, .ref (ad 18))]) (by decide) (Nat.le_of_ble_eq_true rfl) rfl (lC N) h (fun p e s m args below meth c X hr => ?_)
  unfold fTape_readNumber
  refine g_aload_n X dX6_readNumber_0 0 rfl rfl ?_
  refine g_bipush X dX6_readNumber_1 bi_48 ?_
  refine g_bipush X dX6_readNumber_3 bi_57 ?_
  refine g_ci X (st := []) (fun _ hh => ok_V X (k0 := 18) (As := [.int 48, .int 57]) wkX6_endOfRun (tTape_endOfRun M 48 57 hh) rfl k_18 s_18 (by decide) rfl m_3_124 rfl (hRm (by decide) (by decide)) ⟨Nat.zero_le _, Nat.zero_le _⟩ (Nat.le_of_ble_eq_true rfl) dX6_readNumber_5) (fun r1 _ => ?_)
  refine g_istore_n X dX6_readNumber_8 rfl (by decide) rfl [1, 0] (lu := [(0, .ref (ad 18)), (1, .int r1)]) rfl ?_
  refine g_iload_n X dX6_readNumber_9 1 rfl rfl ?_
  refine g_aload_n X dX6_readNumber_10 0 rfl rfl ?_
  refine get_6_2 X (k := 18) k_18 s_18 m_1_39 dX6_readNumber_11 ?_
  refine g_isub X dX6_readNumber_14 ?_
  refine g_ilet X (fun v2 => ?_)
  refine g_istore_n X dX6_readNumber_15 rfl (by decide) rfl [1, 2, 0] (lu := [(0, .ref (ad 18)), (1, .int r1), (2, .int v2)]) rfl ?_
  refine g_iload_n X dX6_readNumber_16 2 rfl rfl ?_
  refine g_iconst X dX6_readNumber_17 ic_1 ?_
  refine g_icmp_lt X 26 (by decide) dX6_readNumber_18 (fun q18 => ?_) (fun q18 => ?_)
  · refine g_iconst X dX6_readNumber_26 ic_m1 ?_
    exact g_iret X hr rfl dX6_readNumber_27
  · refine g_iload_n X dX6_readNumber_21 2 rfl rfl ?_
    refine g_iconst X dX6_readNumber_22 ic_2 ?_
    refine g_icmp_le X 28 (by decide) dX6_readNumber_23 (fun q23 => ?_) (fun q23 => ?_)
    · refine g_iconst X dX6_readNumber_28 ic_0 ?_
      refine g_istore_n X dX6_readNumber_29 rfl (by decide) rfl [1, 2, 0] (lu := [(0, .ref (ad 18)), (1, .int r1), (3, .int 0)]) rfl ?_
      exact LTape_readNumber_L30  X hr r1    FU 0 M
    · refine g_iconst X dX6_readNumber_26 ic_m1 ?_
      exact g_iret X hr rfl dX6_readNumber_27
set_option maxRecDepth 100000 in
set_option maxHeartbeats 4000000 in
theorem LTape_readInto_L11 {l : Launch} {D : va_G} {cy : Nat → ClassId} {ad : Nat → Nat} {N : Mem} {p : Program} {e : Env} {s : State} {m : MethodId} {args : Array Value} {below : List Frame} {meth : Method} {c : Code} (X : Cx p s m args meth c cX6_readInto 6 RX6 D cy ad (AA ad) (wfC N) sdC) (hr : meth.sig.returnType = (some .int)) (b1 : Nat) (hb1 : b1 < 6) (kx134 : Mem → Option (Int32 × Mem)) (kx32 : Mem → Option (Int32 × Mem)) (kx113 : Mem → Option (Int32 × Mem)) (hkx134 : ∀ (M : Mem), GF p l e (Rm 8) s m args below meth c 6 D cy ad (AA ad) 0 0 (wfC N) (QM D cy ad (wfC N) below args s) finS (kx134 M) 134 [(0, .ref (ad 18))] [] M) (hkx32 : ∀ (M : Mem), GF p l e (Rm 8) s m args below meth c 6 D cy ad (AA ad) 0 0 (wfC N) (QM D cy ad (wfC N) below args s) finS (kx32 M) 32 [(0, .ref (ad 18))] [] M) (hkx113 : ∀ (M : Mem), GF p l e (Rm 8) s m args below meth c 6 D cy ad (AA ad) 0 0 (wfC N) (QM D cy ad (wfC N) below args s) finS (kx113 M) 113 [(0, .ref (ad 18))] [] M) : ∀ (n : Nat) (x2 : Int32) (M : Mem), GF p l e (Rm 8) s m args below meth c 6 D cy ad (AA ad) 0 0 (wfC N) (QM D cy ad (wfC N) below args s) finS (fTape_readInto_L11 b1 kx134 kx32 kx113 n x2 M) 11 [(0, .ref (ad 18)), (1, .ref (ad (b1 + 43))), (2, .int x2)] [] M := by
  intro n
  induction n with
  | zero => intro x2 M; exact g_none
  | succ n ih =>
    intro x2 M
    rw [fTape_readInto_L11]
    refine g_iload_n X dX6_readInto_11 2 rfl rfl ?_
    refine g_sipush X dX6_readInto_12 si_160 ?_
    refine g_icmp_ge X 134 (by decide) dX6_readInto_15 (fun q15 => ?_) (fun q15 => ?_)
    · refine g_sub (lu := [(0, .ref (ad 18))]) [0] rfl ?_
      exact hkx134 M
    · refine g_aload_n X dX6_readInto_18 0 rfl rfl ?_
      refine g_cv X (st := []) (fun _ hh => ok_V X (k0 := 18) (As := []) wkX6_skipBlanks (tTape_skipBlanks M hh) rfl k_18 s_18 (by decide) rfl m_3_116 rfl (hRm (by decide) (by decide)) ⟨Nat.zero_le _, Nat.zero_le _⟩ (Nat.le_of_ble_eq_true rfl) dX6_readInto_19) (fun M3 _ => ?_)
      refine g_aload_n X dX6_readInto_22 0 rfl rfl ?_
      refine g_cs X (st := []) (fun _ hh => ok_V X (k0 := 18) (As := []) wkX6_readWord (tTape_readWord M3 hh) rfl k_18 s_18 (by decide) rfl m_3_120 rfl (hRm (by decide) (by decide)) ⟨Nat.zero_le _, Nat.zero_le _⟩ (Nat.le_of_ble_eq_true rfl) dX6_readInto_23) (fun r5 M4 _ => ?_)
      refine g_istore_n X dX6_readInto_26 rfl (by decide) rfl [1, 2, 3, 0] (lu := [(0, .ref (ad 18)), (1, .ref (ad (b1 + 43))), (2, .int x2), (3, .int r5)]) rfl ?_
      refine g_iload_n X dX6_readInto_27 3 rfl rfl ?_
      refine g_iconst X dX6_readInto_28 ic_m1 ?_
      refine g_icmp_ne X 37 (by decide) dX6_readInto_29 (fun q29 => ?_) (fun q29 => ?_)
      · refine g_aload_n X dX6_readInto_37 0 rfl rfl ?_
        refine g_cv X (st := []) (fun _ hh => ok_V X (k0 := 18) (As := []) wkX6_skipBlanks (tTape_skipBlanks M4 hh) rfl k_18 s_18 (by decide) rfl m_3_116 rfl (hRm (by decide) (by decide)) ⟨Nat.zero_le _, Nat.zero_le _⟩ (Nat.le_of_ble_eq_true rfl) dX6_readInto_38) (fun M6 _ => ?_)
        refine g_aload_n X dX6_readInto_41 0 rfl rfl ?_
        refine get_6_2 X (k := 18) k_18 s_18 m_1_39 dX6_readInto_42 ?_
        refine g_ilet X (fun v7 => ?_)
        refine g_istore X dX6_readInto_45 (by decide) rfl [1, 2, 3, 4, 0] (lu := [(0, .ref (ad 18)), (1, .ref (ad (b1 + 43))), (2, .int x2), (3, .int r5), (4, .int v7)]) rfl ?_
        refine g_aload_n X dX6_readInto_47 0 rfl rfl ?_
        refine g_cs X (st := []) (fun _ hh => ok_V X (k0 := 18) (As := []) wkX6_readNumber (tTape_readNumber M6 hh) rfl k_18 s_18 (by decide) rfl m_3_192 rfl (hRm (by decide) (by decide)) ⟨Nat.zero_le _, Nat.zero_le _⟩ (Nat.le_of_ble_eq_true rfl) dX6_readInto_48) (fun r9 M8 _ => ?_)
        refine g_istore X dX6_readInto_51 (by decide) rfl [1, 2, 3, 4, 5, 0] (lu := [(0, .ref (ad 18)), (1, .ref (ad (b1 + 43))), (2, .int x2), (3, .int r5), (4, .int v7), (5, .int r9)]) rfl ?_
        refine g_iload X dX6_readInto_53 5 rfl ?_
        refine g_gs1 X m_3_196 dX6_readInto_55 ?_
        refine g_iload_n X dX6_readInto_58 3 rfl rfl ?_
        refine g_sa1 X dX6_readInto_59 (fun h10 => ?_)
        refine g_gs2 X m_3_198 dX6_readInto_60 ?_
        refine g_iload_n X dX6_readInto_63 3 rfl rfl ?_
        refine g_sa2 X dX6_readInto_64 (fun h11 => ?_)
        refine g_ct X (v0 := .int (fc_isWithinT M8 r9 (sv1.getD (ix r5) 0) (sv2.getD (ix r5) 0))) (st := []) (ok_N X (As := [.int r9, .int (sv1.getD (ix r5) 0), .int (sv2.getD (ix r5) 0)]) wkX10_isWithin (tc_isWithinT M8 r9 (sv1.getD (ix r5) 0) (sv2.getD (ix r5) 0)) rfl m_3_200 rfl (hRm (by decide) (by decide)) ⟨Nat.zero_le _, Nat.zero_le _⟩ (Nat.le_of_ble_eq_true rfl) dX6_readInto_65) ?_
        refine g_if_ne X 74 (by decide) dX6_readInto_68 (fun q68 => ?_) (fun q68 => ?_)
        · refine g_aload_n X dX6_readInto_74 1 rfl rfl ?_
          refine get_2_0 X (k := b1 + 43) (kf_43 _ hb1) (sf_43 _ hb1) m_1_149 dX6_readInto_75 ?_
          refine g_iload_n X dX6_readInto_78 3 rfl rfl ?_
          refine g_iload X dX6_readInto_79 5 rfl ?_
          refine g_iast X (n := 9) (k := b1 + 50) (kf_50 _ hb1) (sf_50 _ hb1) dX6_readInto_81 (fun h12 => ?_)
          refine g_mlet X (fun M13 => ?_)
          refine g_aload_n X dX6_readInto_82 0 rfl rfl ?_
          refine g_cv X (st := []) (fun _ hh => ok_V X (k0 := 18) (As := []) wkX6_skipBlanks (tTape_skipBlanks M13 hh) rfl k_18 s_18 (by decide) rfl m_3_116 rfl (hRm (by decide) (by decide)) ⟨Nat.zero_le _, Nat.zero_le _⟩ (Nat.le_of_ble_eq_true rfl) dX6_readInto_83) (fun M14 _ => ?_)
          refine g_aload_n X dX6_readInto_86 0 rfl rfl ?_
          refine get_6_2 X (k := 18) k_18 s_18 m_1_39 dX6_readInto_87 ?_
          refine g_aload_n X dX6_readInto_90 0 rfl rfl ?_
          refine get_6_1 X (k := 18) k_18 s_18 m_1_37 dX6_readInto_91 ?_
          refine g_icmp_lt X 99 (by decide) dX6_readInto_94 (fun q94 => ?_) (fun q94 => ?_)
          · refine g_aload_n X dX6_readInto_99 0 rfl rfl ?_
            refine get_6_0 X (k := 18) k_18 s_18 m_1_36 dX6_readInto_100 ?_
            refine g_aload_n X dX6_readInto_103 0 rfl rfl ?_
            refine get_6_2 X (k := 18) k_18 s_18 m_1_39 dX6_readInto_104 ?_
            refine g_bald X (k := 19) k_19 s_19 dX6_readInto_107 (fun h15 => ?_)
            refine g_bipush X dX6_readInto_108 bi_59 ?_
            refine g_icmp_eq X 118 (by decide) dX6_readInto_110 (fun q110 => ?_) (fun q110 => ?_)
            · refine g_aload_n X dX6_readInto_118 0 rfl rfl ?_
              refine g_dup X dX6_readInto_119 rfl ?_
              refine get_6_2 X (k := 18) k_18 s_18 m_1_39 dX6_readInto_120 ?_
              refine g_iconst X dX6_readInto_123 ic_1 ?_
              refine g_iadd X dX6_readInto_124 ?_
              refine put_6_2 X (k := 18) k_18 s_18 m_1_39 dX6_readInto_125 ?_
              refine g_mlet X (fun M16 => ?_)
              refine g_iinc X (k := 2) (v := (x2 + 1)) dX6_readInto_128 rfl (ii_1 _) (by decide) rfl [1, 2, 0] (lu := [(0, .ref (ad 18)), (1, .ref (ad (b1 + 43))), (2, .int (x2 + 1))]) rfl ?_
              refine g_goto X 11 (by decide) dX6_readInto_131 ?_
              exact ih (x2 + 1) M16
            · refine g_sub (lu := [(0, .ref (ad 18))]) [0] rfl ?_
              exact hkx113 M14
          · refine g_iconst X dX6_readInto_97 ic_m1 ?_
            exact g_iret X hr rfl dX6_readInto_98
        · refine g_iload X dX6_readInto_71 4 rfl ?_
          exact g_iret X hr rfl dX6_readInto_73
      · refine g_sub (lu := [(0, .ref (ad 18))]) [0] rfl ?_
        exact hkx32 M4
set_option maxRecDepth 100000 in
set_option maxHeartbeats 4000000 in
theorem tTape_readInto {l : Launch} {D : va_G} {cy : Nat → ClassId} {ad : Nat → Nat} {N : Mem} (M : Mem) (a1 : Nat) (ha1 : a1 < 6) {x : (Int32 × Mem)} (h : fTape_readInto M a1 = some x) : Mt l D cy ad yX6_readInto cX6_readInto 6 (some .int) 8 [.ref (ad 18), .ref (ad (a1 + 43))] ((wfC N) M) (some (.int x.1), (wfC N) x.2) := by
  refine met_of (fin := finS) (lv0 := [(0, .ref (ad 18)), (1, .ref (ad (a1 + 43)))]) (by decide) (Nat.le_of_ble_eq_true rfl) rfl (lC N) h (fun p e s m args below meth c X hr => ?_)
  unfold fTape_readInto
  refine g_aload_n X dX6_readInto_0 1 rfl rfl ?_
  refine g_cv X (st := []) (fun _ hh => ok_V X (k0 := a1 + 43) (As := []) wkX2_reset (tLaw_reset M a1 ha1 hh) rfl (kf_43 _ ha1) (sf_43 _ ha1) (by decide) rfl m_3_115 rfl (hRm (by decide) (by decide)) ⟨Nat.zero_le _, Nat.zero_le _⟩ (Nat.le_of_ble_eq_true rfl) dX6_readInto_1) (fun M1 _ => ?_)
  refine g_aload_n X dX6_readInto_4 0 rfl rfl ?_
  refine g_iconst X dX6_readInto_5 ic_0 ?_
  refine put_6_2 X (k := 18) k_18 s_18 m_1_39 dX6_readInto_6 ?_
  refine g_mlet X (fun M2 => ?_)
  refine g_iconst X dX6_readInto_9 ic_0 ?_
  refine g_istore_n X dX6_readInto_10 rfl (by decide) rfl [1, 2, 0] (lu := [(0, .ref (ad 18)), (1, .ref (ad (a1 + 43))), (2, .int 0)]) rfl ?_
  refine LTape_readInto_L11  X hr a1 ha1 _ _ _ (fun M17 => ?_) (fun M18 => ?_) (fun M19 => ?_) FU 0 M2
  · refine g_aload_n X dX6_readInto_134 0 rfl rfl ?_
    refine get_6_2 X (k := 18) k_18 s_18 m_1_39 dX6_readInto_135 ?_
    exact g_iret X hr rfl dX6_readInto_138
  · refine g_aload_n X dX6_readInto_32 0 rfl rfl ?_
    refine get_6_2 X (k := 18) k_18 s_18 m_1_39 dX6_readInto_33 ?_
    exact g_iret X hr rfl dX6_readInto_36
  · refine g_aload_n X dX6_readInto_113 0 rfl rfl ?_
    refine get_6_2 X (k := 18) k_18 s_18 m_1_39 dX6_readInto_114 ?_
    exact g_iret X hr rfl dX6_readInto_117
set_option maxRecDepth 100000 in
set_option maxHeartbeats 4000000 in
theorem tc_law {l : Launch} {D : va_G} {cy : Nat → ClassId} {ad : Nat → Nat} {N : Mem} (M : Mem) {x : (Int32 × Mem)} (h : fc_law M = some x) : Mt l D cy ad yX10_law cX10_law 2 (some .int) 9 [.ref (ad 0)] ((wfC N) M) (some (.int x.1), (wfC N) x.2) := by
  refine met_of (fin := finS) (lv0 := [(0, .ref (ad 0))]) (by decide) (Nat.le_of_ble_eq_true rfl) rfl (lC N) h (fun p e s m args below meth c X hr => ?_)
  unfold fc_law
  refine g_aload_n X dX10_law_0 0 rfl rfl ?_
  refine get_10_2 X (k := 0) k_0 s_0 m_2_128 dX10_law_1 ?_
  refine get_1_3 X (k := 20) k_20 s_20 m_1_183 dX10_law_4 ?_
  refine g_bipush X dX10_law_7 bi_6 ?_
  refine g_icmp_lt X 19 (by decide) dX10_law_9 (fun q9 => ?_) (fun q9 => ?_)
  · refine g_aload_n X dX10_law_19 0 rfl rfl ?_
    refine get_10_1 X (k := 0) k_0 s_0 m_2_127 dX10_law_20 ?_
    refine g_aload_n X dX10_law_23 0 rfl rfl ?_
    refine get_10_2 X (k := 0) k_0 s_0 m_2_128 dX10_law_24 ?_
    refine get_1_2 X (k := 20) k_20 s_20 m_1_181 dX10_law_27 ?_
    refine g_aload_n X dX10_law_30 0 rfl rfl ?_
    refine get_10_2 X (k := 0) k_0 s_0 m_2_128 dX10_law_31 ?_
    refine get_1_3 X (k := 20) k_20 s_20 m_1_183 dX10_law_34 ?_
    refine g_aald25 X (k := 42) k_42 s_42 dX10_law_37 (fun h1 => ?_)
    refine g_cs X (st := []) (fun _ hh => ok_V X (k0 := 18) (As := [.ref (ad ((ix (M.1 20 3)) + 43))]) wkX6_readInto (tTape_readInto M (ix (M.1 20 3)) (inb_lt h1) hh) rfl k_18 s_18 (by decide) rfl m_3_111 rfl (hRm (by decide) (by decide)) ⟨Nat.zero_le _, Nat.zero_le _⟩ (Nat.le_of_ble_eq_true rfl) dX10_law_38) (fun r3 M2 _ => ?_)
    refine g_istore_n X dX10_law_41 rfl (by decide) rfl [1, 0] (lu := [(0, .ref (ad 0)), (1, .int r3)]) rfl ?_
    refine g_aload_n X dX10_law_42 0 rfl rfl ?_
    refine get_10_1 X (k := 0) k_0 s_0 m_2_127 dX10_law_43 ?_
    refine g_iconst X dX10_law_46 ic_0 ?_
    refine put_6_1 X (k := 18) k_18 s_18 m_1_38 dX10_law_47 ?_
    refine g_mlet X (fun M4 => ?_)
    refine g_iload_n X dX10_law_50 1 rfl rfl ?_
    refine g_iconst X dX10_law_51 ic_m1 ?_
    refine g_icmp_eq X 67 (by decide) dX10_law_52 (fun q52 => ?_) (fun q52 => ?_)
    · refine g_aload_n X dX10_law_67 0 rfl rfl ?_
      refine get_10_2 X (k := 0) k_0 s_0 m_2_128 dX10_law_68 ?_
      refine g_dup X dX10_law_71 rfl ?_
      refine get_1_3 X (k := 20) k_20 s_20 m_1_183 dX10_law_72 ?_
      refine g_iconst X dX10_law_75 ic_1 ?_
      refine g_iadd X dX10_law_76 ?_
      refine put_1_3 X (k := 20) k_20 s_20 m_1_183 dX10_law_77 ?_
      refine g_mlet X (fun M5 => ?_)
      refine g_aload_n X dX10_law_80 0 rfl rfl ?_
      refine get_10_2 X (k := 0) k_0 s_0 m_2_128 dX10_law_81 ?_
      refine get_1_3 X (k := 20) k_20 s_20 m_1_183 dX10_law_84 ?_
      refine g_iconst X dX10_law_87 ic_1 ?_
      refine g_isub X dX10_law_88 ?_
      exact g_iret X hr rfl dX10_law_89
    · refine g_aload_n X dX10_law_55 0 rfl rfl ?_
      refine g_bipush X dX10_law_56 bi_m2 ?_
      refine g_cs X (st := []) (fun _ hh => ok_V X (k0 := 0) (As := [.int (-2)]) wkX10_refuse (tc_refuse M4 (-2) hh) rfl k_0 s_0 (by decide) rfl m_2_173 rfl (hRm (by decide) (by decide)) ⟨Nat.zero_le _, Nat.zero_le _⟩ (Nat.le_of_ble_eq_true rfl) dX10_law_58) (fun r7 M6 _ => ?_)
      refine g_pop X dX10_law_61 rfl ?_
      refine g_bipush X dX10_law_62 bi_m20 ?_
      refine g_iload_n X dX10_law_64 1 rfl rfl ?_
      refine g_isub X dX10_law_65 ?_
      exact g_iret X hr rfl dX10_law_66
  · refine g_aload_n X dX10_law_12 0 rfl rfl ?_
    refine g_bipush X dX10_law_13 bi_m6 ?_
    refine g_cs X (st := []) (fun _ hh => ok_V X (k0 := 0) (As := [.int (-6)]) wkX10_refuse (tc_refuse M (-6) hh) rfl k_0 s_0 (by decide) rfl m_2_173 rfl (hRm (by decide) (by decide)) ⟨Nat.zero_le _, Nat.zero_le _⟩ (Nat.le_of_ble_eq_true rfl) dX10_law_15) (fun r9 M8 _ => ?_)
    exact g_iret X hr rfl dX10_law_18
set_option maxRecDepth 100000 in
set_option maxHeartbeats 4000000 in
theorem tc_isLaw {l : Launch} {D : va_G} {cy : Nat → ClassId} {ad : Nat → Nat} {N : Mem} (M : Mem) (a1 : Int32) {x : Int32} (h : fc_isLaw M a1 = some x) : Mt l D cy ad yX10_isLaw cX10_isLaw 2 (some .boolean) 2 [.ref (ad 0), .int a1] ((wfC N) M) (some (.int x), (wfC N) M) := by
  refine met_of (fin := (finI M)) (lv0 := [(0, .ref (ad 0)), (1, .int a1)]) (by decide) (Nat.le_of_ble_eq_true rfl) rfl (lC N) h (fun p e s m args below meth c X hr => ?_)
  unfold fc_isLaw
  refine g_iload_n X dX10_isLaw_0 1 rfl rfl ?_
  refine g_aload_n X dX10_isLaw_1 0 rfl rfl ?_
  refine get_10_2 X (k := 0) k_0 s_0 m_2_128 dX10_isLaw_2 ?_
  refine get_1_3 X (k := 20) k_20 s_20 m_1_183 dX10_isLaw_5 ?_
  refine g_ct X (v0 := .int (fc_isBelowT M a1 (M.1 20 3))) (st := []) (ok_S X (As := [.int a1, .int (M.1 20 3)]) wkX10_isBelow (tc_isBelowT M a1 (M.1 20 3)) rfl m_2_167 rfl (hRm (by decide) (by decide)) ⟨Nat.zero_le _, Nat.zero_le _⟩ (Nat.le_of_ble_eq_true rfl) dX10_isLaw_8) ?_
  exact g_zret X hr (isB_n (fc_isBelowB M a1 (M.1 20 3))) rfl dX10_isLaw_11
theorem tc_isLawT {l : Launch} {D : va_G} {cy : Nat → ClassId} {ad : Nat → Nat} {N : Mem} (M : Mem) (a1 : Int32) : Mt l D cy ad yX10_isLaw cX10_isLaw 2 (some .boolean) 2 [.ref (ad 0), .int a1] ((wfC N) M) (some (.int (fc_isLawT M a1)), (wfC N) M) := tc_isLaw M a1 (fc_isLawE M a1)
set_option maxRecDepth 100000 in
set_option maxHeartbeats 4000000 in
theorem tc_lawOf {l : Launch} {D : va_G} {cy : Nat → ClassId} {ad : Nat → Nat} {N : Mem} (M : Mem) (a1 : Int32) (a2 : Int32) {x : (Int32 × Mem)} (h : fc_lawOf M a1 a2 = some x) : Mt l D cy ad yX10_lawOf cX10_lawOf 3 (some .int) 3 [.ref (ad 0), .int a1, .int a2] ((wfC N) M) (some (.int x.1), (wfC N) x.2) := by
  refine met_of (fin := finS) (lv0 := [(0, .ref (ad 0)), (1, .int a1), (2, .int a2)]) (by decide) (Nat.le_of_ble_eq_true rfl) rfl (lC N) h (fun p e s m args below meth c X hr => ?_)
  unfold fc_lawOf
  refine g_aload_n X dX10_lawOf_0 0 rfl rfl ?_
  refine g_iload_n X dX10_lawOf_1 1 rfl rfl ?_
  refine g_ct X (v0 := .int (fc_isLawT M a1)) (st := []) (ok_V X (k0 := 0) (As := [.int a1]) wkX10_isLaw (tc_isLawT M a1) rfl k_0 s_0 (by decide) rfl m_3_205 rfl (hRm (by decide) (by decide)) ⟨Nat.zero_le _, Nat.zero_le _⟩ (Nat.le_of_ble_eq_true rfl) dX10_lawOf_2) ?_
  refine g_if_eq X 17 (by decide) dX10_lawOf_5 (fun q5 => ?_) (fun q5 => ?_)
  · refine g_aload_n X dX10_lawOf_17 0 rfl rfl ?_
    refine g_bipush X dX10_lawOf_18 bi_m2 ?_
    refine g_cs X (st := []) (fun _ hh => ok_V X (k0 := 0) (As := [.int (-2)]) wkX10_refuse (tc_refuse M (-2) hh) rfl k_0 s_0 (by decide) rfl m_2_173 rfl (hRm (by decide) (by decide)) ⟨Nat.zero_le _, Nat.zero_le _⟩ (Nat.le_of_ble_eq_true rfl) dX10_lawOf_20) (fun r2 M1 _ => ?_)
    exact g_iret X hr rfl dX10_lawOf_23
  · refine g_iload_n X dX10_lawOf_8 2 rfl rfl ?_
    refine g_bipush X dX10_lawOf_9 bi_9 ?_
    refine g_ct X (v0 := .int (fc_isBelowT M a2 9)) (st := []) (ok_S X (As := [.int a2, .int 9]) wkX10_isBelow (tc_isBelowT M a2 9) rfl m_2_167 rfl (hRm (by decide) (by decide)) ⟨Nat.zero_le _, Nat.zero_le _⟩ (Nat.le_of_ble_eq_true rfl) dX10_lawOf_11) ?_
    refine g_if_ne X 24 (by decide) dX10_lawOf_14 (fun q14 => ?_) (fun q14 => ?_)
    · refine g_aload_n X dX10_lawOf_24 0 rfl rfl ?_
      refine get_10_2 X (k := 0) k_0 s_0 m_2_128 dX10_lawOf_25 ?_
      refine get_1_2 X (k := 20) k_20 s_20 m_1_181 dX10_lawOf_28 ?_
      refine g_iload_n X dX10_lawOf_31 1 rfl rfl ?_
      refine g_aald25 X (k := 42) k_42 s_42 dX10_lawOf_32 (fun h3 => ?_)
      refine get_2_0 X (k := (ix a1) + 43) (kf_43 _ (inb_lt h3)) (sf_43 _ (inb_lt h3)) m_1_151 dX10_lawOf_33 ?_
      refine g_iload_n X dX10_lawOf_36 2 rfl rfl ?_
      refine g_iald X (n := 9) (k := (ix a1) + 50) (kf_50 _ (inb_lt h3)) (sf_50 _ (inb_lt h3)) dX10_lawOf_37 (fun h4 => ?_)
      exact g_iret X hr rfl dX10_lawOf_38
    · refine g_aload_n X dX10_lawOf_17 0 rfl rfl ?_
      refine g_bipush X dX10_lawOf_18 bi_m2 ?_
      refine g_cs X (st := []) (fun _ hh => ok_V X (k0 := 0) (As := [.int (-2)]) wkX10_refuse (tc_refuse M (-2) hh) rfl k_0 s_0 (by decide) rfl m_2_173 rfl (hRm (by decide) (by decide)) ⟨Nat.zero_le _, Nat.zero_le _⟩ (Nat.le_of_ble_eq_true rfl) dX10_lawOf_20) (fun r6 M5 _ => ?_)
      exact g_iret X hr rfl dX10_lawOf_23
set_option maxRecDepth 100000 in
set_option maxHeartbeats 4000000 in
theorem tc_force {l : Launch} {D : va_G} {cy : Nat → ClassId} {ad : Nat → Nat} {N : Mem} (M : Mem) (a1 : Int32) {x : (Int32 × Mem)} (h : fc_force M a1 = some x) : Mt l D cy ad yX10_force cX10_force 3 (some .int) 3 [.ref (ad 0), .int a1] ((wfC N) M) (some (.int x.1), (wfC N) x.2) := by
  refine met_of (fin := finS) (lv0 := [(0, .ref (ad 0)), (1, .int a1)]) (by decide) (Nat.le_of_ble_eq_true rfl) rfl (lC N) h (fun p e s m args below meth c X hr => ?_)
  unfold fc_force
  refine g_iload_n X dX10_force_0 1 rfl rfl ?_
  refine g_iconst X dX10_force_1 ic_m1 ?_
  refine g_icmp_eq X 20 (by decide) dX10_force_2 (fun q2 => ?_) (fun q2 => ?_)
  · refine g_aload_n X dX10_force_20 0 rfl rfl ?_
    refine get_10_2 X (k := 0) k_0 s_0 m_2_128 dX10_force_21 ?_
    refine get_1_4 X (k := 20) k_20 s_20 m_1_185 dX10_force_24 ?_
    refine g_ilet X (fun v1 => ?_)
    refine g_istore_n X dX10_force_27 rfl (by decide) rfl [1, 2, 0] (lu := [(0, .ref (ad 0)), (1, .int a1), (2, .int v1)]) rfl ?_
    refine g_aload_n X dX10_force_28 0 rfl rfl ?_
    refine get_10_2 X (k := 0) k_0 s_0 m_2_128 dX10_force_29 ?_
    refine g_iload_n X dX10_force_32 1 rfl rfl ?_
    refine put_1_4 X (k := 20) k_20 s_20 m_1_185 dX10_force_33 ?_
    refine g_mlet X (fun M2 => ?_)
    refine g_iload_n X dX10_force_36 2 rfl rfl ?_
    exact g_iret X hr rfl dX10_force_37
  · refine g_aload_n X dX10_force_5 0 rfl rfl ?_
    refine g_iload_n X dX10_force_6 1 rfl rfl ?_
    refine g_ct X (v0 := .int (fc_isLawT M a1)) (st := []) (ok_V X (k0 := 0) (As := [.int a1]) wkX10_isLaw (tc_isLawT M a1) rfl k_0 s_0 (by decide) rfl m_3_205 rfl (hRm (by decide) (by decide)) ⟨Nat.zero_le _, Nat.zero_le _⟩ (Nat.le_of_ble_eq_true rfl) dX10_force_7) ?_
    refine g_if_ne X 20 (by decide) dX10_force_10 (fun q10 => ?_) (fun q10 => ?_)
    · refine g_aload_n X dX10_force_20 0 rfl rfl ?_
      refine get_10_2 X (k := 0) k_0 s_0 m_2_128 dX10_force_21 ?_
      refine get_1_4 X (k := 20) k_20 s_20 m_1_185 dX10_force_24 ?_
      refine g_ilet X (fun v3 => ?_)
      refine g_istore_n X dX10_force_27 rfl (by decide) rfl [1, 2, 0] (lu := [(0, .ref (ad 0)), (1, .int a1), (2, .int v3)]) rfl ?_
      refine g_aload_n X dX10_force_28 0 rfl rfl ?_
      refine get_10_2 X (k := 0) k_0 s_0 m_2_128 dX10_force_29 ?_
      refine g_iload_n X dX10_force_32 1 rfl rfl ?_
      refine put_1_4 X (k := 20) k_20 s_20 m_1_185 dX10_force_33 ?_
      refine g_mlet X (fun M4 => ?_)
      refine g_iload_n X dX10_force_36 2 rfl rfl ?_
      exact g_iret X hr rfl dX10_force_37
    · refine g_aload_n X dX10_force_13 0 rfl rfl ?_
      refine g_bipush X dX10_force_14 bi_m2 ?_
      refine g_cs X (st := []) (fun _ hh => ok_V X (k0 := 0) (As := [.int (-2)]) wkX10_refuse (tc_refuse M (-2) hh) rfl k_0 s_0 (by decide) rfl m_2_173 rfl (hRm (by decide) (by decide)) ⟨Nat.zero_le _, Nat.zero_le _⟩ (Nat.le_of_ble_eq_true rfl) dX10_force_16) (fun r6 M5 _ => ?_)
      exact g_iret X hr rfl dX10_force_19
set_option maxRecDepth 100000 in
set_option maxHeartbeats 4000000 in
theorem tLeaper_join {l : Launch} {D : va_G} {cy : Nat → ClassId} {ad : Nat → Nat} {N : Mem} (M : Mem) (a0 : Nat) (a1 : Int32) (ha0 : a0 < 6) {x : Mem} (h : fLeaper_join M a0 a1 = some x) : Mt l D cy ad yX3_join cX3_join 2 none 1 [.ref (ad (a0 + 58)), .int a1] ((wfC N) M) (none, (wfC N) x) := by
  refine met_of (fin := finV) (lv0 := [(0, .ref (ad (a0 + 58))), (1, .int a1)]) (by decide) (Nat.le_of_ble_eq_true rfl) rfl (lC N) h (fun p e s m args below meth c X hr => ?_)
  unfold fLeaper_join
  refine g_aload_n X dX3_join_0 0 rfl rfl ?_
  refine g_iload_n X dX3_join_1 1 rfl rfl ?_
  refine put_3_0 X (k := a0 + 58) (kf_58 _ ha0) (sf_58 _ ha0) m_1_160 dX3_join_2 ?_
  refine g_mlet X (fun M1 => ?_)
  refine g_aload_n X dX3_join_5 0 rfl rfl ?_
  refine g_iconst X dX3_join_6 ic_0 ?_
  refine put_3_1 X (k := a0 + 58) (kf_58 _ ha0) (sf_58 _ ha0) m_1_163 dX3_join_7 ?_
  refine g_mlet X (fun M2 => ?_)
  refine g_aload_n X dX3_join_10 0 rfl rfl ?_
  refine g_iconst X dX3_join_11 ic_0 ?_
  refine put_3_2 X (k := a0 + 58) (kf_58 _ ha0) (sf_58 _ ha0) m_1_165 dX3_join_12 ?_
  refine g_mlet X (fun M3 => ?_)
  exact g_vret X hr rfl dX3_join_15
set_option maxRecDepth 100000 in
set_option maxHeartbeats 4000000 in
theorem tc_leaper {l : Launch} {D : va_G} {cy : Nat → ClassId} {ad : Nat → Nat} {N : Mem} (M : Mem) (a1 : Int32) {x : (Int32 × Mem)} (h : fc_leaper M a1 = some x) : Mt l D cy ad yX10_leaper cX10_leaper 2 (some .int) 3 [.ref (ad 0), .int a1] ((wfC N) M) (some (.int x.1), (wfC N) x.2) := by
  refine met_of (fin := finS) (lv0 := [(0, .ref (ad 0)), (1, .int a1)]) (by decide) (Nat.le_of_ble_eq_true rfl) rfl (lC N) h (fun p e s m args below meth c X hr => ?_)
  unfold fc_leaper
  refine g_iload_n X dX10_leaper_0 1 rfl rfl ?_
  refine g_iconst X dX10_leaper_1 ic_0 ?_
  refine g_bipush X dX10_leaper_2 bi_99 ?_
  refine g_ct X (v0 := .int (fc_isWithinT M a1 0 99)) (st := []) (ok_S X (As := [.int a1, .int 0, .int 99]) wkX10_isWithin (tc_isWithinT M a1 0 99) rfl m_2_170 rfl (hRm (by decide) (by decide)) ⟨Nat.zero_le _, Nat.zero_le _⟩ (Nat.le_of_ble_eq_true rfl) dX10_leaper_4) ?_
  refine g_if_ne X 17 (by decide) dX10_leaper_7 (fun q7 => ?_) (fun q7 => ?_)
  · refine g_aload_n X dX10_leaper_17 0 rfl rfl ?_
    refine get_10_2 X (k := 0) k_0 s_0 m_2_128 dX10_leaper_18 ?_
    refine get_1_6 X (k := 20) k_20 s_20 m_1_190 dX10_leaper_21 ?_
    refine g_bipush X dX10_leaper_24 bi_6 ?_
    refine g_icmp_lt X 36 (by decide) dX10_leaper_26 (fun q26 => ?_) (fun q26 => ?_)
    · refine g_aload_n X dX10_leaper_36 0 rfl rfl ?_
      refine get_10_2 X (k := 0) k_0 s_0 m_2_128 dX10_leaper_37 ?_
      refine get_1_5 X (k := 20) k_20 s_20 m_1_187 dX10_leaper_40 ?_
      refine g_aload_n X dX10_leaper_43 0 rfl rfl ?_
      refine get_10_2 X (k := 0) k_0 s_0 m_2_128 dX10_leaper_44 ?_
      refine get_1_6 X (k := 20) k_20 s_20 m_1_190 dX10_leaper_47 ?_
      refine g_aald26 X (k := 57) k_57 s_57 dX10_leaper_50 (fun h1 => ?_)
      refine g_iload_n X dX10_leaper_51 1 rfl rfl ?_
      refine g_cv X (st := []) (fun _ hh => ok_V X (k0 := (ix (M.1 20 7)) + 58) (As := [.int a1]) wkX3_join (tLeaper_join M (ix (M.1 20 7)) a1 (inb_lt h1) hh) rfl (kf_58 _ (inb_lt h1)) (sf_58 _ (inb_lt h1)) (by decide) rfl m_3_217 rfl (hRm (by decide) (by decide)) ⟨Nat.zero_le _, Nat.zero_le _⟩ (Nat.le_of_ble_eq_true rfl) dX10_leaper_52) (fun M2 _ => ?_)
      refine g_aload_n X dX10_leaper_55 0 rfl rfl ?_
      refine get_10_2 X (k := 0) k_0 s_0 m_2_128 dX10_leaper_56 ?_
      refine g_dup X dX10_leaper_59 rfl ?_
      refine get_1_6 X (k := 20) k_20 s_20 m_1_190 dX10_leaper_60 ?_
      refine g_iconst X dX10_leaper_63 ic_1 ?_
      refine g_iadd X dX10_leaper_64 ?_
      refine put_1_6 X (k := 20) k_20 s_20 m_1_190 dX10_leaper_65 ?_
      refine g_mlet X (fun M3 => ?_)
      refine g_aload_n X dX10_leaper_68 0 rfl rfl ?_
      refine get_10_2 X (k := 0) k_0 s_0 m_2_128 dX10_leaper_69 ?_
      refine get_1_6 X (k := 20) k_20 s_20 m_1_190 dX10_leaper_72 ?_
      refine g_iconst X dX10_leaper_75 ic_1 ?_
      refine g_isub X dX10_leaper_76 ?_
      exact g_iret X hr rfl dX10_leaper_77
    · refine g_aload_n X dX10_leaper_29 0 rfl rfl ?_
      refine g_bipush X dX10_leaper_30 bi_m6 ?_
      refine g_cs X (st := []) (fun _ hh => ok_V X (k0 := 0) (As := [.int (-6)]) wkX10_refuse (tc_refuse M (-6) hh) rfl k_0 s_0 (by decide) rfl m_2_173 rfl (hRm (by decide) (by decide)) ⟨Nat.zero_le _, Nat.zero_le _⟩ (Nat.le_of_ble_eq_true rfl) dX10_leaper_32) (fun r5 M4 _ => ?_)
      exact g_iret X hr rfl dX10_leaper_35
  · refine g_aload_n X dX10_leaper_10 0 rfl rfl ?_
    refine g_bipush X dX10_leaper_11 bi_m2 ?_
    refine g_cs X (st := []) (fun _ hh => ok_V X (k0 := 0) (As := [.int (-2)]) wkX10_refuse (tc_refuse M (-2) hh) rfl k_0 s_0 (by decide) rfl m_2_173 rfl (hRm (by decide) (by decide)) ⟨Nat.zero_le _, Nat.zero_le _⟩ (Nat.le_of_ble_eq_true rfl) dX10_leaper_13) (fun r7 M6 _ => ?_)
    exact g_iret X hr rfl dX10_leaper_16
set_option maxRecDepth 100000 in
set_option maxHeartbeats 4000000 in
theorem tc_isLeaper {l : Launch} {D : va_G} {cy : Nat → ClassId} {ad : Nat → Nat} {N : Mem} (M : Mem) (a1 : Int32) {x : Int32} (h : fc_isLeaper M a1 = some x) : Mt l D cy ad yX10_isLeaper cX10_isLeaper 2 (some .boolean) 2 [.ref (ad 0), .int a1] ((wfC N) M) (some (.int x), (wfC N) M) := by
  refine met_of (fin := (finI M)) (lv0 := [(0, .ref (ad 0)), (1, .int a1)]) (by decide) (Nat.le_of_ble_eq_true rfl) rfl (lC N) h (fun p e s m args below meth c X hr => ?_)
  unfold fc_isLeaper
  refine g_iload_n X dX10_isLeaper_0 1 rfl rfl ?_
  refine g_aload_n X dX10_isLeaper_1 0 rfl rfl ?_
  refine get_10_2 X (k := 0) k_0 s_0 m_2_128 dX10_isLeaper_2 ?_
  refine get_1_6 X (k := 20) k_20 s_20 m_1_190 dX10_isLeaper_5 ?_
  refine g_ct X (v0 := .int (fc_isBelowT M a1 (M.1 20 7))) (st := []) (ok_S X (As := [.int a1, .int (M.1 20 7)]) wkX10_isBelow (tc_isBelowT M a1 (M.1 20 7)) rfl m_2_167 rfl (hRm (by decide) (by decide)) ⟨Nat.zero_le _, Nat.zero_le _⟩ (Nat.le_of_ble_eq_true rfl) dX10_isLeaper_8) ?_
  exact g_zret X hr (isB_n (fc_isBelowB M a1 (M.1 20 7))) rfl dX10_isLeaper_11
theorem tc_isLeaperT {l : Launch} {D : va_G} {cy : Nat → ClassId} {ad : Nat → Nat} {N : Mem} (M : Mem) (a1 : Int32) : Mt l D cy ad yX10_isLeaper cX10_isLeaper 2 (some .boolean) 2 [.ref (ad 0), .int a1] ((wfC N) M) (some (.int (fc_isLeaperT M a1)), (wfC N) M) := tc_isLeaper M a1 (fc_isLeaperE M a1)
set_option maxRecDepth 100000 in
set_option maxHeartbeats 4000000 in
theorem tc_leaperOf {l : Launch} {D : va_G} {cy : Nat → ClassId} {ad : Nat → Nat} {N : Mem} (M : Mem) (a1 : Int32) (a2 : Int32) {x : (Int32 × Mem)} (h : fc_leaperOf M a1 a2 = some x) : Mt l D cy ad yX10_leaperOf cX10_leaperOf 3 (some .int) 3 [.ref (ad 0), .int a1, .int a2] ((wfC N) M) (some (.int x.1), (wfC N) x.2) := by
  refine met_of (fin := finS) (lv0 := [(0, .ref (ad 0)), (1, .int a1), (2, .int a2)]) (by decide) (Nat.le_of_ble_eq_true rfl) rfl (lC N) h (fun p e s m args below meth c X hr => ?_)
  unfold fc_leaperOf
  refine g_aload_n X dX10_leaperOf_0 0 rfl rfl ?_
  refine g_iload_n X dX10_leaperOf_1 1 rfl rfl ?_
  refine g_ct X (v0 := .int (fc_isLeaperT M a1)) (st := []) (ok_V X (k0 := 0) (As := [.int a1]) wkX10_isLeaper (tc_isLeaperT M a1) rfl k_0 s_0 (by decide) rfl m_3_225 rfl (hRm (by decide) (by decide)) ⟨Nat.zero_le _, Nat.zero_le _⟩ (Nat.le_of_ble_eq_true rfl) dX10_leaperOf_2) ?_
  refine g_if_ne X 15 (by decide) dX10_leaperOf_5 (fun q5 => ?_) (fun q5 => ?_)
  · refine g_iload_n X dX10_leaperOf_15 2 rfl rfl ?_
    refine g_ifc X (fun q16_0 => ?_) (fun q16_0 => ?_)
    · refine g_swI X (v0 := 0) (tgt := 44) (off := 28) q16_0 (by decide) (by decide) (by decide) dX10_leaperOf_16 ?_
      refine g_aload_n X dX10_leaperOf_44 0 rfl rfl ?_
      refine get_10_2 X (k := 0) k_0 s_0 m_2_128 dX10_leaperOf_45 ?_
      refine get_1_5 X (k := 20) k_20 s_20 m_1_187 dX10_leaperOf_48 ?_
      refine g_iload_n X dX10_leaperOf_51 1 rfl rfl ?_
      refine g_aald26 X (k := 57) k_57 s_57 dX10_leaperOf_52 (fun h1 => ?_)
      refine get_3_0 X (k := (ix a1) + 58) (kf_58 _ (inb_lt h1)) (sf_58 _ (inb_lt h1)) m_1_162 dX10_leaperOf_53 ?_
      exact g_iret X hr rfl dX10_leaperOf_56
    ·
      refine g_ifc X (fun q16_1 => ?_) (fun q16_1 => ?_)
      · refine g_swI X (v0 := 1) (tgt := 57) (off := 41) q16_1 (by decide) (by decide) (by decide) dX10_leaperOf_16 ?_
        refine g_aload_n X dX10_leaperOf_57 0 rfl rfl ?_
        refine get_10_2 X (k := 0) k_0 s_0 m_2_128 dX10_leaperOf_58 ?_
        refine get_1_5 X (k := 20) k_20 s_20 m_1_187 dX10_leaperOf_61 ?_
        refine g_iload_n X dX10_leaperOf_64 1 rfl rfl ?_
        refine g_aald26 X (k := 57) k_57 s_57 dX10_leaperOf_65 (fun h2 => ?_)
        refine get_3_1 X (k := (ix a1) + 58) (kf_58 _ (inb_lt h2)) (sf_58 _ (inb_lt h2)) m_1_164 dX10_leaperOf_66 ?_
        exact g_iret X hr rfl dX10_leaperOf_69
      ·
        refine g_ifc X (fun q16_2 => ?_) (fun q16_2 => ?_)
        · refine g_swI X (v0 := 2) (tgt := 70) (off := 54) q16_2 (by decide) (by decide) (by decide) dX10_leaperOf_16 ?_
          refine g_aload_n X dX10_leaperOf_70 0 rfl rfl ?_
          refine get_10_2 X (k := 0) k_0 s_0 m_2_128 dX10_leaperOf_71 ?_
          refine get_1_5 X (k := 20) k_20 s_20 m_1_187 dX10_leaperOf_74 ?_
          refine g_iload_n X dX10_leaperOf_77 1 rfl rfl ?_
          refine g_aald26 X (k := 57) k_57 s_57 dX10_leaperOf_78 (fun h3 => ?_)
          refine get_3_2 X (k := (ix a1) + 58) (kf_58 _ (inb_lt h3)) (sf_58 _ (inb_lt h3)) m_1_166 dX10_leaperOf_79 ?_
          exact g_iret X hr rfl dX10_leaperOf_82
        ·
          refine g_swO X (tgt := 83) dX10_leaperOf_16 (fun n h1 h2 hx => by
              rcases (show n = 0 ∨ n = 1 ∨ n = 2 by omega) with rfl | rfl | rfl
              · exact absurd hx q16_0
              · exact absurd hx q16_1
              · exact absurd hx q16_2) (by decide) ?_
          refine g_aload_n X dX10_leaperOf_83 0 rfl rfl ?_
          refine g_bipush X dX10_leaperOf_84 bi_m2 ?_
          refine g_cs X (st := []) (fun _ hh => ok_V X (k0 := 0) (As := [.int (-2)]) wkX10_refuse (tc_refuse M (-2) hh) rfl k_0 s_0 (by decide) rfl m_2_173 rfl (hRm (by decide) (by decide)) ⟨Nat.zero_le _, Nat.zero_le _⟩ (Nat.le_of_ble_eq_true rfl) dX10_leaperOf_86) (fun r5 M4 _ => ?_)
          exact g_iret X hr rfl dX10_leaperOf_89
  · refine g_aload_n X dX10_leaperOf_8 0 rfl rfl ?_
    refine g_bipush X dX10_leaperOf_9 bi_m2 ?_
    refine g_cs X (st := []) (fun _ hh => ok_V X (k0 := 0) (As := [.int (-2)]) wkX10_refuse (tc_refuse M (-2) hh) rfl k_0 s_0 (by decide) rfl m_2_173 rfl (hRm (by decide) (by decide)) ⟨Nat.zero_le _, Nat.zero_le _⟩ (Nat.le_of_ble_eq_true rfl) dX10_leaperOf_11) (fun r7 M6 _ => ?_)
    exact g_iret X hr rfl dX10_leaperOf_14
set_option maxRecDepth 100000 in
set_option maxHeartbeats 4000000 in
theorem tLeaper_count {l : Launch} {D : va_G} {cy : Nat → ClassId} {ad : Nat → Nat} {N : Mem} (M : Mem) (a0 : Nat) (a1 : Int32) (a2 : Int32) (ha0 : a0 < 6) {x : Mem} (h : fLeaper_count M a0 a1 a2 = some x) : Mt l D cy ad yX3_count cX3_count 3 none 1 [.ref (ad (a0 + 58)), .int a1, .int a2] ((wfC N) M) (none, (wfC N) x) := by
  refine met_of (fin := finV) (lv0 := [(0, .ref (ad (a0 + 58))), (1, .int a1), (2, .int a2)]) (by decide) (Nat.le_of_ble_eq_true rfl) rfl (lC N) h (fun p e s m args below meth c X hr => ?_)
  unfold fLeaper_count
  refine g_aload_n X dX3_count_0 0 rfl rfl ?_
  refine g_dup X dX3_count_1 rfl ?_
  refine get_3_1 X (k := a0 + 58) (kf_58 _ ha0) (sf_58 _ ha0) m_1_163 dX3_count_2 ?_
  refine g_iload_n X dX3_count_5 1 rfl rfl ?_
  refine g_iadd X dX3_count_6 ?_
  refine put_3_1 X (k := a0 + 58) (kf_58 _ ha0) (sf_58 _ ha0) m_1_163 dX3_count_7 ?_
  refine g_mlet X (fun M1 => ?_)
  refine g_aload_n X dX3_count_10 0 rfl rfl ?_
  refine g_dup X dX3_count_11 rfl ?_
  refine get_3_2 X (k := a0 + 58) (kf_58 _ ha0) (sf_58 _ ha0) m_1_165 dX3_count_12 ?_
  refine g_iload_n X dX3_count_15 2 rfl rfl ?_
  refine g_iadd X dX3_count_16 ?_
  refine put_3_2 X (k := a0 + 58) (kf_58 _ ha0) (sf_58 _ ha0) m_1_165 dX3_count_17 ?_
  refine g_mlet X (fun M2 => ?_)
  exact g_vret X hr rfl dX3_count_20
set_option maxRecDepth 100000 in
set_option maxHeartbeats 4000000 in
theorem tc_tried {l : Launch} {D : va_G} {cy : Nat → ClassId} {ad : Nat → Nat} {N : Mem} (M : Mem) (a1 : Int32) (a2 : Int32) (a3 : Int32) {x : (Int32 × Mem)} (h : fc_tried M a1 a2 a3 = some x) : Mt l D cy ad yX10_tried cX10_tried 4 (some .int) 3 [.ref (ad 0), .int a1, .int a2, .int a3] ((wfC N) M) (some (.int x.1), (wfC N) x.2) := by
  refine met_of (fin := finS) (lv0 := [(0, .ref (ad 0)), (1, .int a1), (2, .int a2), (3, .int a3)]) (by decide) (Nat.le_of_ble_eq_true rfl) rfl (lC N) h (fun p e s m args below meth c X hr => ?_)
  unfold fc_tried
  refine g_aload_n X dX10_tried_0 0 rfl rfl ?_
  refine g_iload_n X dX10_tried_1 1 rfl rfl ?_
  refine g_ct X (v0 := .int (fc_isLeaperT M a1)) (st := []) (ok_V X (k0 := 0) (As := [.int a1]) wkX10_isLeaper (tc_isLeaperT M a1) rfl k_0 s_0 (by decide) rfl m_3_225 rfl (hRm (by decide) (by decide)) ⟨Nat.zero_le _, Nat.zero_le _⟩ (Nat.le_of_ble_eq_true rfl) dX10_tried_2) ?_
  refine g_if_eq X 27 (by decide) dX10_tried_5 (fun q5 => ?_) (fun q5 => ?_)
  · refine g_aload_n X dX10_tried_27 0 rfl rfl ?_
    refine g_bipush X dX10_tried_28 bi_m2 ?_
    refine g_cs X (st := []) (fun _ hh => ok_V X (k0 := 0) (As := [.int (-2)]) wkX10_refuse (tc_refuse M (-2) hh) rfl k_0 s_0 (by decide) rfl m_2_173 rfl (hRm (by decide) (by decide)) ⟨Nat.zero_le _, Nat.zero_le _⟩ (Nat.le_of_ble_eq_true rfl) dX10_tried_30) (fun r2 M1 _ => ?_)
    exact g_iret X hr rfl dX10_tried_33
  · refine g_iload_n X dX10_tried_8 2 rfl rfl ?_
    refine g_iconst X dX10_tried_9 ic_1 ?_
    refine g_bipush X dX10_tried_10 bi_99 ?_
    refine g_ct X (v0 := .int (fc_isWithinT M a2 1 99)) (st := []) (ok_S X (As := [.int a2, .int 1, .int 99]) wkX10_isWithin (tc_isWithinT M a2 1 99) rfl m_2_170 rfl (hRm (by decide) (by decide)) ⟨Nat.zero_le _, Nat.zero_le _⟩ (Nat.le_of_ble_eq_true rfl) dX10_tried_12) ?_
    refine g_if_eq X 27 (by decide) dX10_tried_15 (fun q15 => ?_) (fun q15 => ?_)
    · refine g_aload_n X dX10_tried_27 0 rfl rfl ?_
      refine g_bipush X dX10_tried_28 bi_m2 ?_
      refine g_cs X (st := []) (fun _ hh => ok_V X (k0 := 0) (As := [.int (-2)]) wkX10_refuse (tc_refuse M (-2) hh) rfl k_0 s_0 (by decide) rfl m_2_173 rfl (hRm (by decide) (by decide)) ⟨Nat.zero_le _, Nat.zero_le _⟩ (Nat.le_of_ble_eq_true rfl) dX10_tried_30) (fun r4 M3 _ => ?_)
      exact g_iret X hr rfl dX10_tried_33
    · refine g_iload_n X dX10_tried_18 3 rfl rfl ?_
      refine g_iconst X dX10_tried_19 ic_0 ?_
      refine g_iload_n X dX10_tried_20 2 rfl rfl ?_
      refine g_ct X (v0 := .int (fc_isWithinT M a3 0 a2)) (st := []) (ok_S X (As := [.int a3, .int 0, .int a2]) wkX10_isWithin (tc_isWithinT M a3 0 a2) rfl m_2_170 rfl (hRm (by decide) (by decide)) ⟨Nat.zero_le _, Nat.zero_le _⟩ (Nat.le_of_ble_eq_true rfl) dX10_tried_21) ?_
      refine g_if_ne X 34 (by decide) dX10_tried_24 (fun q24 => ?_) (fun q24 => ?_)
      · refine g_aload_n X dX10_tried_34 0 rfl rfl ?_
        refine get_10_2 X (k := 0) k_0 s_0 m_2_128 dX10_tried_35 ?_
        refine get_1_5 X (k := 20) k_20 s_20 m_1_187 dX10_tried_38 ?_
        refine g_iload_n X dX10_tried_41 1 rfl rfl ?_
        refine g_aald26 X (k := 57) k_57 s_57 dX10_tried_42 (fun h5 => ?_)
        refine g_iload_n X dX10_tried_43 2 rfl rfl ?_
        refine g_iload_n X dX10_tried_44 3 rfl rfl ?_
        refine g_cv X (st := []) (fun _ hh => ok_V X (k0 := (ix a1) + 58) (As := [.int a2, .int a3]) wkX3_count (tLeaper_count M (ix a1) a2 a3 (inb_lt h5) hh) rfl (kf_58 _ (inb_lt h5)) (sf_58 _ (inb_lt h5)) (by decide) rfl m_3_233 rfl (hRm (by decide) (by decide)) ⟨Nat.zero_le _, Nat.zero_le _⟩ (Nat.le_of_ble_eq_true rfl) dX10_tried_45) (fun M6 _ => ?_)
        refine g_aload_n X dX10_tried_48 0 rfl rfl ?_
        refine get_10_2 X (k := 0) k_0 s_0 m_2_128 dX10_tried_49 ?_
        refine get_1_5 X (k := 20) k_20 s_20 m_1_187 dX10_tried_52 ?_
        refine g_iload_n X dX10_tried_55 1 rfl rfl ?_
        refine g_aald26 X (k := 57) k_57 s_57 dX10_tried_56 (fun h7 => ?_)
        refine get_3_1 X (k := (ix a1) + 58) (kf_58 _ (inb_lt h7)) (sf_58 _ (inb_lt h7)) m_1_164 dX10_tried_57 ?_
        exact g_iret X hr rfl dX10_tried_60
      · refine g_aload_n X dX10_tried_27 0 rfl rfl ?_
        refine g_bipush X dX10_tried_28 bi_m2 ?_
        refine g_cs X (st := []) (fun _ hh => ok_V X (k0 := 0) (As := [.int (-2)]) wkX10_refuse (tc_refuse M (-2) hh) rfl k_0 s_0 (by decide) rfl m_2_173 rfl (hRm (by decide) (by decide)) ⟨Nat.zero_le _, Nat.zero_le _⟩ (Nat.le_of_ble_eq_true rfl) dX10_tried_30) (fun r9 M8 _ => ?_)
        exact g_iret X hr rfl dX10_tried_33
set_option maxRecDepth 100000 in
set_option maxHeartbeats 4000000 in
theorem tLeaper_learntSkill {l : Launch} {D : va_G} {cy : Nat → ClassId} {ad : Nat → Nat} {N : Mem} (M : Mem) (a0 : Nat) (ha0 : a0 < 6) {x : Int32} (h : fLeaper_learntSkill M a0 = some x) : Mt l D cy ad yX3_learntSkill cX3_learntSkill 1 (some .int) 2 [.ref (ad (a0 + 58))] ((wfC N) M) (some (.int x), (wfC N) M) := by
  refine met_of (fin := (finI M)) (lv0 := [(0, .ref (ad (a0 + 58)))]) (by decide) (Nat.le_of_ble_eq_true rfl) rfl (lC N) h (fun p e s m args below meth c X hr => ?_)
  unfold fLeaper_learntSkill
  refine g_bipush X dX3_learntSkill_0 bi_99 ?_
  refine g_bipush X dX3_learntSkill_2 bi_100 ?_
  refine g_aload_n X dX3_learntSkill_4 0 rfl rfl ?_
  refine get_3_1 X (k := a0 + 58) (kf_58 _ ha0) (sf_58 _ ha0) m_1_163 dX3_learntSkill_5 ?_
  refine g_aload_n X dX3_learntSkill_8 0 rfl rfl ?_
  refine get_3_2 X (k := a0 + 58) (kf_58 _ ha0) (sf_58 _ ha0) m_1_165 dX3_learntSkill_9 ?_
  refine g_isub X dX3_learntSkill_12 ?_
  refine g_imul X dX3_learntSkill_13 ?_
  refine g_bipush X dX3_learntSkill_14 bi_50 ?_
  refine g_iadd X dX3_learntSkill_16 ?_
  refine g_aload_n X dX3_learntSkill_17 0 rfl rfl ?_
  refine get_3_1 X (k := a0 + 58) (kf_58 _ ha0) (sf_58 _ ha0) m_1_163 dX3_learntSkill_18 ?_
  refine g_iconst X dX3_learntSkill_21 ic_1 ?_
  refine g_iadd X dX3_learntSkill_22 ?_
  refine g_ci X (st := [.int 99]) (fun _ hh => ok_N X (As := [.int (((100 : Int32) * ((M.1 (a0 + 58) 1) - (M.1 (a0 + 58) 2))) + 50), .int ((M.1 (a0 + 58) 1) + 1)]) wkX10_cutBy (tc_cutBy M (((100 : Int32) * ((M.1 (a0 + 58) 1) - (M.1 (a0 + 58) 2))) + 50) ((M.1 (a0 + 58) 1) + 1) hh) rfl m_4_5 rfl (hRm (by decide) (by decide)) ⟨Nat.zero_le _, Nat.zero_le _⟩ (Nat.le_of_ble_eq_true rfl) dX3_learntSkill_23) (fun r1 _ => ?_)
  refine g_min X m_4_6 (hR1 (by decide) (Nat.le_of_ble_eq_true rfl)) ⟨Nat.zero_le _, Nat.zero_le _⟩ dX3_learntSkill_26 ?_
  exact g_iret X hr rfl dX3_learntSkill_29
set_option maxRecDepth 100000 in
set_option maxHeartbeats 4000000 in
theorem tc_learnt {l : Launch} {D : va_G} {cy : Nat → ClassId} {ad : Nat → Nat} {N : Mem} (M : Mem) (a1 : Int32) {x : (Int32 × Mem)} (h : fc_learnt M a1 = some x) : Mt l D cy ad yX10_learnt cX10_learnt 2 (some .int) 3 [.ref (ad 0), .int a1] ((wfC N) M) (some (.int x.1), (wfC N) x.2) := by
  refine met_of (fin := finS) (lv0 := [(0, .ref (ad 0)), (1, .int a1)]) (by decide) (Nat.le_of_ble_eq_true rfl) rfl (lC N) h (fun p e s m args below meth c X hr => ?_)
  unfold fc_learnt
  refine g_aload_n X dX10_learnt_0 0 rfl rfl ?_
  refine g_iload_n X dX10_learnt_1 1 rfl rfl ?_
  refine g_ct X (v0 := .int (fc_isLeaperT M a1)) (st := []) (ok_V X (k0 := 0) (As := [.int a1]) wkX10_isLeaper (tc_isLeaperT M a1) rfl k_0 s_0 (by decide) rfl m_3_225 rfl (hRm (by decide) (by decide)) ⟨Nat.zero_le _, Nat.zero_le _⟩ (Nat.le_of_ble_eq_true rfl) dX10_learnt_2) ?_
  refine g_if_eq X 23 (by decide) dX10_learnt_5 (fun q5 => ?_) (fun q5 => ?_)
  · refine g_aload_n X dX10_learnt_23 0 rfl rfl ?_
    refine g_bipush X dX10_learnt_24 bi_m2 ?_
    refine g_cs X (st := []) (fun _ hh => ok_V X (k0 := 0) (As := [.int (-2)]) wkX10_refuse (tc_refuse M (-2) hh) rfl k_0 s_0 (by decide) rfl m_2_173 rfl (hRm (by decide) (by decide)) ⟨Nat.zero_le _, Nat.zero_le _⟩ (Nat.le_of_ble_eq_true rfl) dX10_learnt_26) (fun r2 M1 _ => ?_)
    exact g_iret X hr rfl dX10_learnt_29
  · refine g_aload_n X dX10_learnt_8 0 rfl rfl ?_
    refine get_10_2 X (k := 0) k_0 s_0 m_2_128 dX10_learnt_9 ?_
    refine get_1_5 X (k := 20) k_20 s_20 m_1_187 dX10_learnt_12 ?_
    refine g_iload_n X dX10_learnt_15 1 rfl rfl ?_
    refine g_aald26 X (k := 57) k_57 s_57 dX10_learnt_16 (fun h3 => ?_)
    refine g_ci X (st := []) (fun _ hh => ok_V X (k0 := (ix a1) + 58) (As := []) wkX3_learntSkill (tLeaper_learntSkill M (ix a1) (inb_lt h3) hh) rfl (kf_58 _ (inb_lt h3)) (sf_58 _ (inb_lt h3)) (by decide) rfl m_4_1 rfl (hRm (by decide) (by decide)) ⟨Nat.zero_le _, Nat.zero_le _⟩ (Nat.le_of_ble_eq_true rfl) dX10_learnt_17) (fun r4 _ => ?_)
    refine g_goto X 29 (by decide) dX10_learnt_20 ?_
    exact g_iret X hr rfl dX10_learnt_29
set_option maxRecDepth 100000 in
set_option maxHeartbeats 4000000 in
theorem tc_learn {l : Launch} {D : va_G} {cy : Nat → ClassId} {ad : Nat → Nat} {N : Mem} (M : Mem) (a1 : Int32) {x : (Int32 × Mem)} (h : fc_learn M a1 = some x) : Mt l D cy ad yX10_learn cX10_learn 4 (some .int) 3 [.ref (ad 0), .int a1] ((wfC N) M) (some (.int x.1), (wfC N) x.2) := by
  refine met_of (fin := finS) (lv0 := [(0, .ref (ad 0)), (1, .int a1)]) (by decide) (Nat.le_of_ble_eq_true rfl) rfl (lC N) h (fun p e s m args below meth c X hr => ?_)
  unfold fc_learn
  refine g_aload_n X dX10_learn_0 0 rfl rfl ?_
  refine g_iload_n X dX10_learn_1 1 rfl rfl ?_
  refine g_ct X (v0 := .int (fc_isLeaperT M a1)) (st := []) (ok_V X (k0 := 0) (As := [.int a1]) wkX10_isLeaper (tc_isLeaperT M a1) rfl k_0 s_0 (by decide) rfl m_3_225 rfl (hRm (by decide) (by decide)) ⟨Nat.zero_le _, Nat.zero_le _⟩ (Nat.le_of_ble_eq_true rfl) dX10_learn_2) ?_
  refine g_if_ne X 15 (by decide) dX10_learn_5 (fun q5 => ?_) (fun q5 => ?_)
  · refine g_aload_n X dX10_learn_15 0 rfl rfl ?_
    refine get_10_2 X (k := 0) k_0 s_0 m_2_128 dX10_learn_16 ?_
    refine get_1_5 X (k := 20) k_20 s_20 m_1_187 dX10_learn_19 ?_
    refine g_iload_n X dX10_learn_22 1 rfl rfl ?_
    refine g_aald26 X (k := 57) k_57 s_57 dX10_learn_23 (fun h1 => ?_)
    refine g_astore_n X dX10_learn_24 rfl (by decide) rfl [0] (lu := [(2, .ref (ad ((ix a1) + 58)))]) rfl ?_
    refine g_aload_n X dX10_learn_25 0 rfl rfl ?_
    refine get_3_0 X (k := (ix a1) + 58) (kf_58 _ (inb_lt h1)) (sf_58 _ (inb_lt h1)) m_1_162 dX10_learn_26 ?_
    refine g_ilet X (fun v2 => ?_)
    refine g_istore_n X dX10_learn_29 rfl (by decide) rfl [1, 0] (lu := [(2, .ref (ad ((ix a1) + 58))), (3, .int v2)]) rfl ?_
    refine g_aload_n X dX10_learn_30 0 rfl rfl ?_
    refine g_aload_n X dX10_learn_31 0 rfl rfl ?_
    refine g_ci X (st := [.ref (ad ((ix a1) + 58))]) (fun _ hh => ok_V X (k0 := (ix a1) + 58) (As := []) wkX3_learntSkill (tLeaper_learntSkill M (ix a1) (inb_lt h1) hh) rfl (kf_58 _ (inb_lt h1)) (sf_58 _ (inb_lt h1)) (by decide) rfl m_4_1 rfl (hRm (by decide) (by decide)) ⟨Nat.zero_le _, Nat.zero_le _⟩ (Nat.le_of_ble_eq_true rfl) dX10_learn_32) (fun r3 _ => ?_)
    refine put_3_0 X (k := (ix a1) + 58) (kf_58 _ (inb_lt h1)) (sf_58 _ (inb_lt h1)) m_1_162 dX10_learn_35 ?_
    refine g_mlet X (fun M4 => ?_)
    refine g_iload_n X dX10_learn_38 1 rfl rfl ?_
    exact g_iret X hr rfl dX10_learn_39
  · refine g_aload_n X dX10_learn_8 0 rfl rfl ?_
    refine g_bipush X dX10_learn_9 bi_m2 ?_
    refine g_cs X (st := []) (fun _ hh => ok_V X (k0 := 0) (As := [.int (-2)]) wkX10_refuse (tc_refuse M (-2) hh) rfl k_0 s_0 (by decide) rfl m_2_173 rfl (hRm (by decide) (by decide)) ⟨Nat.zero_le _, Nat.zero_le _⟩ (Nat.le_of_ble_eq_true rfl) dX10_learn_11) (fun r6 M5 _ => ?_)
    exact g_iret X hr rfl dX10_learn_14
set_option maxRecDepth 100000 in
set_option maxHeartbeats 4000000 in
theorem tLake_isHopeless {l : Launch} {D : va_G} {cy : Nat → ClassId} {ad : Nat → Nat} {N : Mem} (M : Mem) (a1 : Nat) (ha1 : a1 < 20) {x : Int32} (h : fLake_isHopeless M a1 = some x) : Mt l D cy ad yX1_isHopeless cX1_isHopeless 2 (some .boolean) 4 [.ref (ad 20), .ref (ad (a1 + 22))] ((wfC N) M) (some (.int x), (wfC N) M) := by
  refine met_of (fin := (finI M)) (lv0 := [(0, .ref (ad 20)), (1, .ref (ad (a1 + 22)))]) (by decide) (Nat.le_of_ble_eq_true rfl) rfl (lC N) h (fun p e s m args below meth c X hr => ?_)
  unfold fLake_isHopeless
  refine g_aload_n X dX1_isHopeless_0 0 rfl rfl ?_
  refine g_aload_n X dX1_isHopeless_1 1 rfl rfl ?_
  refine g_aload_n X dX1_isHopeless_2 0 rfl rfl ?_
  refine get_1_11 X (k := 20) k_20 s_20 m_1_199 dX1_isHopeless_3 ?_
  refine g_ct X (v0 := .int (fLake_isOutT M a1 (M.1 20 12))) (st := []) (ok_V X (k0 := 20) (As := [.ref (ad (a1 + 22)), .int (M.1 20 12)]) wkX1_isOut (tLake_isOutT M a1 (M.1 20 12) ha1) rfl k_20 s_20 (by decide) rfl m_4_23 rfl (hRm (by decide) (by decide)) ⟨Nat.zero_le _, Nat.zero_le _⟩ (Nat.le_of_ble_eq_true rfl) dX1_isHopeless_6) ?_
  refine g_if_ne X 24 (by decide) dX1_isHopeless_9 (fun q9 => ?_) (fun q9 => ?_)
  · refine g_iconst X dX1_isHopeless_24 ic_1 ?_
    refine g_goto X 29 (by decide) dX1_isHopeless_25 ?_
    exact g_zret X hr (isB_n (by decide)) rfl dX1_isHopeless_29
  · refine g_aload_n X dX1_isHopeless_12 0 rfl rfl ?_
    refine g_aload_n X dX1_isHopeless_13 1 rfl rfl ?_
    refine g_aload_n X dX1_isHopeless_14 0 rfl rfl ?_
    refine g_ci X (st := [.ref (ad (a1 + 22)), .ref (ad 20)]) (fun _ hh => ok_V X (k0 := 20) (As := []) wkX1_speed (tLake_speed M hh) rfl k_20 s_20 (by decide) rfl m_4_24 rfl (hRm (by decide) (by decide)) ⟨Nat.zero_le _, Nat.zero_le _⟩ (Nat.le_of_ble_eq_true rfl) dX1_isHopeless_15) (fun r1 _ => ?_)
    refine g_ci X (st := []) (fun _ hh => ok_V X (k0 := 20) (As := [.ref (ad (a1 + 22)), .int r1]) wkX1_hasTime (tLake_hasTime M a1 r1 ha1 hh) rfl k_20 s_20 (by decide) rfl m_4_25 rfl (hRm (by decide) (by decide)) ⟨Nat.zero_le _, Nat.zero_le _⟩ (Nat.le_of_ble_eq_true rfl) dX1_isHopeless_18) (fun r2 _ => ?_)
    refine g_if_ne X 28 (by decide) dX1_isHopeless_21 (fun q21 => ?_) (fun q21 => ?_)
    · refine g_iconst X dX1_isHopeless_28 ic_0 ?_
      exact g_zret X hr (isB_n (by decide)) rfl dX1_isHopeless_29
    · refine g_iconst X dX1_isHopeless_24 ic_1 ?_
      refine g_goto X 29 (by decide) dX1_isHopeless_25 ?_
      exact g_zret X hr (isB_n (by decide)) rfl dX1_isHopeless_29
set_option maxRecDepth 100000 in
set_option maxHeartbeats 4000000 in
theorem tLake_riskOf {l : Launch} {D : va_G} {cy : Nat → ClassId} {ad : Nat → Nat} {N : Mem} (M : Mem) (a1 : Int32) (a2 : Int32) (a3 : Int32) {x : Int32} (h : fLake_riskOf M a1 a2 a3 = some x) : Mt l D cy ad yX1_riskOf cX1_riskOf 6 (some .int) 5 [.ref (ad 20), .int a1, .int a2, .int a3] ((wfC N) M) (some (.int x), (wfC N) M) := by
  refine met_of (fin := (finI M)) (lv0 := [(0, .ref (ad 20)), (1, .int a1), (2, .int a2), (3, .int a3)]) (by decide) (Nat.le_of_ble_eq_true rfl) rfl (lC N) h (fun p e s m args below meth c X hr => ?_)
  unfold fLake_riskOf
  refine g_aload_n X dX1_riskOf_0 0 rfl rfl ?_
  refine get_1_0 X (k := 20) k_20 s_20 m_1_174 dX1_riskOf_1 ?_
  refine g_iload_n X dX1_riskOf_4 2 rfl rfl ?_
  refine g_aald24 X (k := 21) k_21 s_21 dX1_riskOf_5 (fun h1 => ?_)
  refine g_astore X dX1_riskOf_6 (by decide) rfl [1, 2, 4, 0] (lu := [(0, .ref (ad 20)), (1, .int a1), (3, .int a3), (4, .ref (ad ((ix a2) + 22)))]) rfl ?_
  refine g_aload_n X dX1_riskOf_8 0 rfl rfl ?_
  refine g_aload X dX1_riskOf_9 3 rfl ?_
  refine g_ci X (st := []) (fun _ hh => ok_V X (k0 := 20) (As := [.ref (ad ((ix a2) + 22))]) wkX1_isHopeless (tLake_isHopeless M (ix a2) (inb_lt h1) hh) rfl k_20 s_20 (by decide) rfl m_4_19 rfl (hRm (by decide) (by decide)) ⟨Nat.zero_le _, Nat.zero_le _⟩ (Nat.le_of_ble_eq_true rfl) dX1_riskOf_11) (fun r2 _ => ?_)
  refine g_if_eq X 21 (by decide) dX1_riskOf_14 (fun q14 => ?_) (fun q14 => ?_)
  · refine g_aload_n X dX1_riskOf_21 0 rfl rfl ?_
    refine g_iconst X dX1_riskOf_22 ic_4 ?_
    refine g_ci X (st := []) (fun _ hh => ok_V X (k0 := 20) (As := [.int 4]) wkX1_lawValue (tLake_lawValue M 4 hh) rfl k_20 s_20 (by decide) rfl m_3_52 rfl (hRm (by decide) (by decide)) ⟨Nat.zero_le _, Nat.zero_le _⟩ (Nat.le_of_ble_eq_true rfl) dX1_riskOf_23) (fun r3 _ => ?_)
    refine g_aload X dX1_riskOf_26 3 rfl ?_
    refine g_aload_n X dX1_riskOf_28 0 rfl rfl ?_
    refine get_1_11 X (k := 20) k_20 s_20 m_1_199 dX1_riskOf_29 ?_
    refine g_ct X (v0 := .int (fJetty_riseAtT M (ix a2) (M.1 20 12))) (st := [.int r3]) (ok_V X (k0 := (ix a2) + 22) (As := [.int (M.1 20 12)]) wkX0_riseAt (tJetty_riseAtT M (ix a2) (M.1 20 12) (inb_lt h1)) rfl (kf_22 _ (inb_lt h1)) (sf_22 _ (inb_lt h1)) (by decide) rfl m_3_40 rfl (hRm (by decide) (by decide)) ⟨Nat.zero_le _, Nat.zero_le _⟩ (Nat.le_of_ble_eq_true rfl) dX1_riskOf_32) ?_
    refine g_aload_n X dX1_riskOf_35 0 rfl rfl ?_
    refine g_ct X (v0 := .int (fLake_deckT M)) (st := [.int (fJetty_riseAtT M (ix a2) (M.1 20 12)), .int r3]) (ok_V X (k0 := 20) (As := []) wkX1_deck (tLake_deckT M) rfl k_20 s_20 (by decide) rfl m_3_41 rfl (hRm (by decide) (by decide)) ⟨Nat.zero_le _, Nat.zero_le _⟩ (Nat.le_of_ble_eq_true rfl) dX1_riskOf_36) ?_
    refine g_isub X dX1_riskOf_39 ?_
    refine g_abs X m_3_45 (hR1 (by decide) (Nat.le_of_ble_eq_true rfl)) ⟨Nat.zero_le _, Nat.zero_le _⟩ dX1_riskOf_40 ?_
    refine g_imul X dX1_riskOf_43 ?_
    refine g_aload X dX1_riskOf_44 3 rfl ?_
    refine get_0_4 X (k := (ix a2) + 22) (kf_22 _ (inb_lt h1)) (sf_22 _ (inb_lt h1)) m_1_122 dX1_riskOf_46 ?_
    refine g_jlet X 61 (fun z61 : Int32 => [(0, .ref (ad 20)), (1, .int a1), (3, .int a3)]) (fun z61 : Int32 => [.int z61, .int (r3 * (if 0 ≤ ((fJetty_riseAtT M (ix a2) (M.1 20 12)) - (fLake_deckT M)) then ((fJetty_riseAtT M (ix a2) (M.1 20 12)) - (fLake_deckT M)) else 0 - ((fJetty_riseAtT M (ix a2) (M.1 20 12)) - (fLake_deckT M))))]) (fun z61 : Int32 => M) (fun z61 => ?_) (fun J61 hJ61 => ?_)
    · show GF _ _ _ _ _ _ _ _ _ _ _ _ _ _ _ _ _ _ _ _ _ 61 [(0, .ref (ad 20)), (1, .int a1), (3, .int a3)] [.int z61, .int (r3 * (if 0 ≤ ((fJetty_riseAtT M (ix a2) (M.1 20 12)) - (fLake_deckT M)) then ((fJetty_riseAtT M (ix a2) (M.1 20 12)) - (fLake_deckT M)) else 0 - ((fJetty_riseAtT M (ix a2) (M.1 20 12)) - (fLake_deckT M))))] M
      refine g_iadd X dX1_riskOf_61 ?_
      refine g_aload_n X dX1_riskOf_62 0 rfl rfl ?_
      refine g_bipush X dX1_riskOf_63 bi_6 ?_
      refine g_ci X (st := [.int ((r3 * (if 0 ≤ ((fJetty_riseAtT M (ix a2) (M.1 20 12)) - (fLake_deckT M)) then ((fJetty_riseAtT M (ix a2) (M.1 20 12)) - (fLake_deckT M)) else 0 - ((fJetty_riseAtT M (ix a2) (M.1 20 12)) - (fLake_deckT M)))) + z61)]) (fun _ hh => ok_V X (k0 := 20) (As := [.int 6]) wkX1_lawValue (tLake_lawValue M 6 hh) rfl k_20 s_20 (by decide) rfl m_3_52 rfl (hRm (by decide) (by decide)) ⟨Nat.zero_le _, Nat.zero_le _⟩ (Nat.le_of_ble_eq_true rfl) dX1_riskOf_65) (fun r4 _ => ?_)
      refine g_aload_n X dX1_riskOf_68 0 rfl rfl ?_
      refine get_1_10 X (k := 20) k_20 s_20 m_1_197 dX1_riskOf_69 ?_
      refine g_iload_n X dX1_riskOf_72 2 rfl rfl ?_
      refine g_iald X (n := 12) (k := 66) k_66 s_66 dX1_riskOf_73 (fun h5 => ?_)
      refine g_imul X dX1_riskOf_74 ?_
      refine g_iadd X dX1_riskOf_75 ?_
      refine g_aload_n X dX1_riskOf_76 0 rfl rfl ?_
      refine g_bipush X dX1_riskOf_77 bi_7 ?_
      refine g_ci X (st := [.int (((r3 * (if 0 ≤ ((fJetty_riseAtT M (ix a2) (M.1 20 12)) - (fLake_deckT M)) then ((fJetty_riseAtT M (ix a2) (M.1 20 12)) - (fLake_deckT M)) else 0 - ((fJetty_riseAtT M (ix a2) (M.1 20 12)) - (fLake_deckT M)))) + z61) + (r4 * (M.1 66 (ix a3))))]) (fun _ hh => ok_V X (k0 := 20) (As := [.int 7]) wkX1_lawValue (tLake_lawValue M 7 hh) rfl k_20 s_20 (by decide) rfl m_3_52 rfl (hRm (by decide) (by decide)) ⟨Nat.zero_le _, Nat.zero_le _⟩ (Nat.le_of_ble_eq_true rfl) dX1_riskOf_79) (fun r6 _ => ?_)
      refine g_aload_n X dX1_riskOf_82 0 rfl rfl ?_
      refine get_1_5 X (k := 20) k_20 s_20 m_1_186 dX1_riskOf_83 ?_
      refine g_iload_n X dX1_riskOf_86 1 rfl rfl ?_
      refine g_aald26 X (k := 57) k_57 s_57 dX1_riskOf_87 (fun h7 => ?_)
      refine get_3_0 X (k := (ix a1) + 58) (kf_58 _ (inb_lt h7)) (sf_58 _ (inb_lt h7)) m_1_161 dX1_riskOf_88 ?_
      refine g_imul X dX1_riskOf_91 ?_
      refine g_isub X dX1_riskOf_92 ?_
      refine g_ilet X (fun v8 => ?_)
      refine g_istore X dX1_riskOf_93 (by decide) rfl [0] (lu := [(5, .int v8)]) rfl ?_
      refine g_iconst X dX1_riskOf_95 ic_0 ?_
      refine g_sipush X dX1_riskOf_96 si_1000 ?_
      refine g_iload X dX1_riskOf_99 0 rfl ?_
      refine g_min X m_4_26 (hR1 (by decide) (Nat.le_of_ble_eq_true rfl)) ⟨Nat.zero_le _, Nat.zero_le _⟩ dX1_riskOf_101 ?_
      refine g_max X m_4_27 (hR1 (by decide) (Nat.le_of_ble_eq_true rfl)) ⟨Nat.zero_le _, Nat.zero_le _⟩ dX1_riskOf_104 ?_
      exact g_iret X hr rfl dX1_riskOf_107
    refine g_if_eq X 60 (by decide) dX1_riskOf_49 (fun q49 => ?_) (fun q49 => ?_)
    · refine g_iconst X dX1_riskOf_60 ic_0 ?_
      refine g_sub (lu := [(0, .ref (ad 20)), (1, .int a1), (3, .int a3)]) [0, 1, 2] rfl ?_
      exact hJ61 0
    · refine g_aload_n X dX1_riskOf_52 0 rfl rfl ?_
      refine g_iconst X dX1_riskOf_53 ic_5 ?_
      refine g_ci X (st := [.int (r3 * (if 0 ≤ ((fJetty_riseAtT M (ix a2) (M.1 20 12)) - (fLake_deckT M)) then ((fJetty_riseAtT M (ix a2) (M.1 20 12)) - (fLake_deckT M)) else 0 - ((fJetty_riseAtT M (ix a2) (M.1 20 12)) - (fLake_deckT M))))]) (fun _ hh => ok_V X (k0 := 20) (As := [.int 5]) wkX1_lawValue (tLake_lawValue M 5 hh) rfl k_20 s_20 (by decide) rfl m_3_52 rfl (hRm (by decide) (by decide)) ⟨Nat.zero_le _, Nat.zero_le _⟩ (Nat.le_of_ble_eq_true rfl) dX1_riskOf_54) (fun r9 _ => ?_)
      refine g_goto X 61 (by decide) dX1_riskOf_57 ?_
      refine g_sub (lu := [(0, .ref (ad 20)), (1, .int a1), (3, .int a3)]) [0, 1, 2] rfl ?_
      exact hJ61 r9
  · refine g_sipush X dX1_riskOf_17 si_1000 ?_
    exact g_iret X hr rfl dX1_riskOf_20
set_option maxRecDepth 100000 in
set_option maxHeartbeats 4000000 in
theorem tc_risk {l : Launch} {D : va_G} {cy : Nat → ClassId} {ad : Nat → Nat} {N : Mem} (M : Mem) (a1 : Int32) (a2 : Int32) (a3 : Int32) {x : (Int32 × Mem)} (h : fc_risk M a1 a2 a3 = some x) : Mt l D cy ad yX10_risk cX10_risk 4 (some .int) 6 [.ref (ad 0), .int a1, .int a2, .int a3] ((wfC N) M) (some (.int x.1), (wfC N) x.2) := by
  refine met_of (fin := finS) (lv0 := [(0, .ref (ad 0)), (1, .int a1), (2, .int a2), (3, .int a3)]) (by decide) (Nat.le_of_ble_eq_true rfl) rfl (lC N) h (fun p e s m args below meth c X hr => ?_)
  unfold fc_risk
  refine g_aload_n X dX10_risk_0 0 rfl rfl ?_
  refine g_iload_n X dX10_risk_1 1 rfl rfl ?_
  refine g_ct X (v0 := .int (fc_isLeaperT M a1)) (st := []) (ok_V X (k0 := 0) (As := [.int a1]) wkX10_isLeaper (tc_isLeaperT M a1) rfl k_0 s_0 (by decide) rfl m_3_225 rfl (hRm (by decide) (by decide)) ⟨Nat.zero_le _, Nat.zero_le _⟩ (Nat.le_of_ble_eq_true rfl) dX10_risk_2) ?_
  refine g_if_eq X 23 (by decide) dX10_risk_5 (fun q5 => ?_) (fun q5 => ?_)
  · refine g_aload_n X dX10_risk_23 0 rfl rfl ?_
    refine g_bipush X dX10_risk_24 bi_m2 ?_
    refine g_cs X (st := []) (fun _ hh => ok_V X (k0 := 0) (As := [.int (-2)]) wkX10_refuse (tc_refuse M (-2) hh) rfl k_0 s_0 (by decide) rfl m_2_173 rfl (hRm (by decide) (by decide)) ⟨Nat.zero_le _, Nat.zero_le _⟩ (Nat.le_of_ble_eq_true rfl) dX10_risk_26) (fun r2 M1 _ => ?_)
    exact g_iret X hr rfl dX10_risk_29
  · refine g_aload_n X dX10_risk_8 0 rfl rfl ?_
    refine g_iload_n X dX10_risk_9 2 rfl rfl ?_
    refine g_ct X (v0 := .int (fc_isJettyT M a2)) (st := []) (ok_V X (k0 := 0) (As := [.int a2]) wkX10_isJetty (tc_isJettyT M a2) rfl k_0 s_0 (by decide) rfl m_2_227 rfl (hRm (by decide) (by decide)) ⟨Nat.zero_le _, Nat.zero_le _⟩ (Nat.le_of_ble_eq_true rfl) dX10_risk_10) ?_
    refine g_if_eq X 23 (by decide) dX10_risk_13 (fun q13 => ?_) (fun q13 => ?_)
    · refine g_aload_n X dX10_risk_23 0 rfl rfl ?_
      refine g_bipush X dX10_risk_24 bi_m2 ?_
      refine g_cs X (st := []) (fun _ hh => ok_V X (k0 := 0) (As := [.int (-2)]) wkX10_refuse (tc_refuse M (-2) hh) rfl k_0 s_0 (by decide) rfl m_2_173 rfl (hRm (by decide) (by decide)) ⟨Nat.zero_le _, Nat.zero_le _⟩ (Nat.le_of_ble_eq_true rfl) dX10_risk_26) (fun r4 M3 _ => ?_)
      exact g_iret X hr rfl dX10_risk_29
    · refine g_iload_n X dX10_risk_16 3 rfl rfl ?_
      refine g_ct X (v0 := .int (fc_isHourT M a3)) (st := []) (ok_S X (As := [.int a3]) wkX10_isHour (tc_isHourT M a3) rfl m_3_84 rfl (hRm (by decide) (by decide)) ⟨Nat.zero_le _, Nat.zero_le _⟩ (Nat.le_of_ble_eq_true rfl) dX10_risk_17) ?_
      refine g_if_ne X 30 (by decide) dX10_risk_20 (fun q20 => ?_) (fun q20 => ?_)
      · refine g_aload_n X dX10_risk_30 0 rfl rfl ?_
        refine get_10_2 X (k := 0) k_0 s_0 m_2_128 dX10_risk_31 ?_
        refine g_iload_n X dX10_risk_34 1 rfl rfl ?_
        refine g_iload_n X dX10_risk_35 2 rfl rfl ?_
        refine g_iload_n X dX10_risk_36 3 rfl rfl ?_
        refine g_ci X (st := []) (fun _ hh => ok_V X (k0 := 20) (As := [.int a1, .int a2, .int a3]) wkX1_riskOf (tLake_riskOf M a1 a2 a3 hh) rfl k_20 s_20 (by decide) rfl m_4_15 rfl (hRm (by decide) (by decide)) ⟨Nat.zero_le _, Nat.zero_le _⟩ (Nat.le_of_ble_eq_true rfl) dX10_risk_37) (fun r5 _ => ?_)
        exact g_iret X hr rfl dX10_risk_40
      · refine g_aload_n X dX10_risk_23 0 rfl rfl ?_
        refine g_bipush X dX10_risk_24 bi_m2 ?_
        refine g_cs X (st := []) (fun _ hh => ok_V X (k0 := 0) (As := [.int (-2)]) wkX10_refuse (tc_refuse M (-2) hh) rfl k_0 s_0 (by decide) rfl m_2_173 rfl (hRm (by decide) (by decide)) ⟨Nat.zero_le _, Nat.zero_le _⟩ (Nat.le_of_ble_eq_true rfl) dX10_risk_26) (fun r7 M6 _ => ?_)
        exact g_iret X hr rfl dX10_risk_29
set_option maxRecDepth 100000 in
set_option maxHeartbeats 4000000 in
theorem Lc_calm_L40 {l : Launch} {D : va_G} {cy : Nat → ClassId} {ad : Nat → Nat} {N : Mem} {p : Program} {e : Env} {s : State} {m : MethodId} {args : Array Value} {below : List Frame} {meth : Method} {c : Code} (X : Cx p s m args meth c cX10_calm 7 RX10 D cy ad (AA ad) (wfC N) sdC) (hr : meth.sig.returnType = (some .int)) (M : Mem) (b1 : Int32) (b2 : Int32) : ∀ (n : Nat) (x3 : Int32) (x4 : Int32) (x5 : Int32), GF p l e (Rm 6) s m args below meth c 7 D cy ad (AA ad) 0 0 (wfC N) (QM D cy ad (wfC N) below args s) finS (fc_calm_L40 M b1 b2 n x3 x4 x5) 40 [(0, .ref (ad 0)), (1, .int b1), (2, .int b2), (3, .int x3), (4, .int x4), (5, .int x5)] [] M := by
  intro n
  induction n with
  | zero => intro x3 x4 x5; exact g_none
  | succ n ih =>
    intro x3 x4 x5
    rw [fc_calm_L40]
    refine g_iload X dX10_calm_40 5 rfl ?_
    refine g_bipush X dX10_calm_42 bi_12 ?_
    refine g_icmp_ge X 80 (by decide) dX10_calm_44 (fun q44 => ?_) (fun q44 => ?_)
    · refine g_iload_n X dX10_calm_80 3 rfl rfl ?_
      exact g_iret X hr rfl dX10_calm_81
    · refine g_aload_n X dX10_calm_47 0 rfl rfl ?_
      refine get_10_2 X (k := 0) k_0 s_0 m_2_128 dX10_calm_48 ?_
      refine g_iload_n X dX10_calm_51 1 rfl rfl ?_
      refine g_iload_n X dX10_calm_52 2 rfl rfl ?_
      refine g_iload X dX10_calm_53 5 rfl ?_
      refine g_ci X (st := []) (fun _ hh => ok_V X (k0 := 20) (As := [.int b1, .int b2, .int x5]) wkX1_riskOf (tLake_riskOf M b1 b2 x5 hh) rfl k_20 s_20 (by decide) rfl m_4_15 rfl (hRm (by decide) (by decide)) ⟨Nat.zero_le _, Nat.zero_le _⟩ (Nat.le_of_ble_eq_true rfl) dX10_calm_55) (fun r4 _ => ?_)
      refine g_istore X dX10_calm_58 (by decide) rfl [1, 2, 3, 4, 5, 6, 0] (lu := [(0, .ref (ad 0)), (1, .int b1), (2, .int b2), (3, .int x3), (4, .int x4), (5, .int x5), (6, .int r4)]) rfl ?_
      refine g_iload X dX10_calm_60 6 rfl ?_
      refine g_iload X dX10_calm_62 4 rfl ?_
      refine g_jlet X 74 (fun z74 : Int32 × Int32 => [(0, .ref (ad 0)), (1, .int b1), (2, .int b2), (3, .int (z74.1)), (4, .int (z74.2)), (5, .int x5)]) (fun z74 : Int32 × Int32 => []) (fun z74 : Int32 × Int32 => M) (fun z74 => ?_) (fun J74 hJ74 => ?_)
      · show GF _ _ _ _ _ _ _ _ _ _ _ _ _ _ _ _ _ _ _ _ _ 74 [(0, .ref (ad 0)), (1, .int b1), (2, .int b2), (3, .int (z74.1)), (4, .int (z74.2)), (5, .int x5)] [] M
        refine g_iinc X (k := 5) (v := (x5 + 1)) dX10_calm_74 rfl (ii_1 _) (by decide) rfl [1, 2, 3, 4, 5, 0] (lu := [(0, .ref (ad 0)), (1, .int b1), (2, .int b2), (3, .int (z74.1)), (4, .int (z74.2)), (5, .int (x5 + 1))]) rfl ?_
        refine g_goto X 40 (by decide) dX10_calm_77 ?_
        exact ih (z74.1) (z74.2) (x5 + 1)
      refine g_icmp_ge X 74 (by decide) dX10_calm_64 (fun q64 => ?_) (fun q64 => ?_)
      · refine g_sub (lu := [(0, .ref (ad 0)), (1, .int b1), (2, .int b2), (3, .int x3), (4, .int x4), (5, .int x5)]) [0, 1, 2, 3, 4, 5] rfl ?_
        exact hJ74 (x3, x4)
      · refine g_iload X dX10_calm_67 6 rfl ?_
        refine g_istore X dX10_calm_69 (by decide) rfl [1, 2, 3, 0, 5] (lu := [(0, .ref (ad 0)), (1, .int b1), (2, .int b2), (4, .int r4), (5, .int x5)]) rfl ?_
        refine g_iload X dX10_calm_71 4 rfl ?_
        refine g_istore_n X dX10_calm_73 rfl (by decide) rfl [1, 2, 3, 0, 4, 5] (lu := [(0, .ref (ad 0)), (1, .int b1), (2, .int b2), (3, .int x5), (4, .int r4), (5, .int x5)]) rfl ?_
        exact hJ74 (x5, r4)
set_option maxRecDepth 100000 in
set_option maxHeartbeats 4000000 in
theorem tc_calm {l : Launch} {D : va_G} {cy : Nat → ClassId} {ad : Nat → Nat} {N : Mem} (M : Mem) (a1 : Int32) (a2 : Int32) {x : (Int32 × Mem)} (h : fc_calm M a1 a2 = some x) : Mt l D cy ad yX10_calm cX10_calm 7 (some .int) 6 [.ref (ad 0), .int a1, .int a2] ((wfC N) M) (some (.int x.1), (wfC N) x.2) := by
  refine met_of (fin := finS) (lv0 := [(0, .ref (ad 0)), (1, .int a1), (2, .int a2)]) (by decide) (Nat.le_of_ble_eq_true rfl) rfl (lC N) h (fun p e s m args below meth c X hr => ?_)
  unfold fc_calm
  refine g_aload_n X dX10_calm_0 0 rfl rfl ?_
  refine g_iload_n X dX10_calm_1 1 rfl rfl ?_
  refine g_ct X (v0 := .int (fc_isLeaperT M a1)) (st := []) (ok_V X (k0 := 0) (As := [.int a1]) wkX10_isLeaper (tc_isLeaperT M a1) rfl k_0 s_0 (by decide) rfl m_3_225 rfl (hRm (by decide) (by decide)) ⟨Nat.zero_le _, Nat.zero_le _⟩ (Nat.le_of_ble_eq_true rfl) dX10_calm_2) ?_
  refine g_if_eq X 16 (by decide) dX10_calm_5 (fun q5 => ?_) (fun q5 => ?_)
  · refine g_aload_n X dX10_calm_16 0 rfl rfl ?_
    refine g_bipush X dX10_calm_17 bi_m2 ?_
    refine g_cs X (st := []) (fun _ hh => ok_V X (k0 := 0) (As := [.int (-2)]) wkX10_refuse (tc_refuse M (-2) hh) rfl k_0 s_0 (by decide) rfl m_2_173 rfl (hRm (by decide) (by decide)) ⟨Nat.zero_le _, Nat.zero_le _⟩ (Nat.le_of_ble_eq_true rfl) dX10_calm_19) (fun r2 M1 _ => ?_)
    exact g_iret X hr rfl dX10_calm_22
  · refine g_aload_n X dX10_calm_8 0 rfl rfl ?_
    refine g_iload_n X dX10_calm_9 2 rfl rfl ?_
    refine g_ct X (v0 := .int (fc_isJettyT M a2)) (st := []) (ok_V X (k0 := 0) (As := [.int a2]) wkX10_isJetty (tc_isJettyT M a2) rfl k_0 s_0 (by decide) rfl m_2_227 rfl (hRm (by decide) (by decide)) ⟨Nat.zero_le _, Nat.zero_le _⟩ (Nat.le_of_ble_eq_true rfl) dX10_calm_10) ?_
    refine g_if_ne X 23 (by decide) dX10_calm_13 (fun q13 => ?_) (fun q13 => ?_)
    · refine g_iconst X dX10_calm_23 ic_0 ?_
      refine g_istore_n X dX10_calm_24 rfl (by decide) rfl [1, 2, 3, 0] (lu := [(0, .ref (ad 0)), (1, .int a1), (2, .int a2), (3, .int 0)]) rfl ?_
      refine g_aload_n X dX10_calm_25 0 rfl rfl ?_
      refine get_10_2 X (k := 0) k_0 s_0 m_2_128 dX10_calm_26 ?_
      refine g_iload_n X dX10_calm_29 1 rfl rfl ?_
      refine g_iload_n X dX10_calm_30 2 rfl rfl ?_
      refine g_iconst X dX10_calm_31 ic_0 ?_
      refine g_ci X (st := []) (fun _ hh => ok_V X (k0 := 20) (As := [.int a1, .int a2, .int 0]) wkX1_riskOf (tLake_riskOf M a1 a2 0 hh) rfl k_20 s_20 (by decide) rfl m_4_15 rfl (hRm (by decide) (by decide)) ⟨Nat.zero_le _, Nat.zero_le _⟩ (Nat.le_of_ble_eq_true rfl) dX10_calm_32) (fun r3 _ => ?_)
      refine g_istore X dX10_calm_35 (by decide) rfl [1, 2, 3, 4, 0] (lu := [(0, .ref (ad 0)), (1, .int a1), (2, .int a2), (3, .int 0), (4, .int r3)]) rfl ?_
      refine g_iconst X dX10_calm_37 ic_1 ?_
      refine g_istore X dX10_calm_38 (by decide) rfl [1, 2, 3, 4, 5, 0] (lu := [(0, .ref (ad 0)), (1, .int a1), (2, .int a2), (3, .int 0), (4, .int r3), (5, .int 1)]) rfl ?_
      exact Lc_calm_L40  X hr M a1 a2    FU 0 r3 1
    · refine g_aload_n X dX10_calm_16 0 rfl rfl ?_
      refine g_bipush X dX10_calm_17 bi_m2 ?_
      refine g_cs X (st := []) (fun _ hh => ok_V X (k0 := 0) (As := [.int (-2)]) wkX10_refuse (tc_refuse M (-2) hh) rfl k_0 s_0 (by decide) rfl m_2_173 rfl (hRm (by decide) (by decide)) ⟨Nat.zero_le _, Nat.zero_le _⟩ (Nat.le_of_ble_eq_true rfl) dX10_calm_19) (fun r6 M5 _ => ?_)
      exact g_iret X hr rfl dX10_calm_22
set_option maxRecDepth 100000 in
set_option maxHeartbeats 4000000 in
theorem tLake_legMinutes {l : Launch} {D : va_G} {cy : Nat → ClassId} {ad : Nat → Nat} {N : Mem} (M : Mem) (a1 : Int32) (a2 : Int32) (a3 : Int32) {x : Int32} (h : fLake_legMinutes M a1 a2 a3 = some x) : Mt l D cy ad yX1_legMinutes cX1_legMinutes 6 (some .int) 2 [.ref (ad 20), .int a1, .int a2, .int a3] ((wfC N) M) (some (.int x), (wfC N) M) := by
  refine met_of (fin := (finI M)) (lv0 := [(0, .ref (ad 20)), (1, .int a1), (2, .int a2), (3, .int a3)]) (by decide) (Nat.le_of_ble_eq_true rfl) rfl (lC N) h (fun p e s m args below meth c X hr => ?_)
  unfold fLake_legMinutes
  refine g_iload_n X dX1_legMinutes_0 1 rfl rfl ?_
  refine g_bipush X dX1_legMinutes_1 bi_16 ?_
  refine g_idivC X dX1_legMinutes_3 (by decide) ?_
  refine g_iload_n X dX1_legMinutes_4 2 rfl rfl ?_
  refine g_bipush X dX1_legMinutes_5 bi_16 ?_
  refine g_idivC X dX1_legMinutes_7 (by decide) ?_
  refine g_isub X dX1_legMinutes_8 ?_
  refine g_abs X m_3_45 (hR1 (by decide) (Nat.le_of_ble_eq_true rfl)) ⟨Nat.zero_le _, Nat.zero_le _⟩ dX1_legMinutes_9 ?_
  refine g_ilet X (fun v1 => ?_)
  refine g_istore X dX1_legMinutes_12 (by decide) rfl [1, 2, 3, 4, 0] (lu := [(0, .ref (ad 20)), (1, .int a1), (2, .int a2), (3, .int a3), (4, .int v1)]) rfl ?_
  refine g_iload_n X dX1_legMinutes_14 1 rfl rfl ?_
  refine g_bipush X dX1_legMinutes_15 bi_16 ?_
  refine g_iremC X dX1_legMinutes_17 (by decide) ?_
  refine g_iload_n X dX1_legMinutes_18 2 rfl rfl ?_
  refine g_bipush X dX1_legMinutes_19 bi_16 ?_
  refine g_iremC X dX1_legMinutes_21 (by decide) ?_
  refine g_isub X dX1_legMinutes_22 ?_
  refine g_abs X m_3_45 (hR1 (by decide) (Nat.le_of_ble_eq_true rfl)) ⟨Nat.zero_le _, Nat.zero_le _⟩ dX1_legMinutes_23 ?_
  refine g_ilet X (fun v2 => ?_)
  refine g_istore X dX1_legMinutes_26 (by decide) rfl [1, 4, 5, 0] (lu := [(0, .ref (ad 20)), (3, .int a3), (4, .int v1), (5, .int v2)]) rfl ?_
  refine g_aload_n X dX1_legMinutes_28 0 rfl rfl ?_
  refine g_bipush X dX1_legMinutes_29 bi_8 ?_
  refine g_ci X (st := []) (fun _ hh => ok_V X (k0 := 20) (As := [.int 8]) wkX1_lawValue (tLake_lawValue M 8 hh) rfl k_20 s_20 (by decide) rfl m_3_52 rfl (hRm (by decide) (by decide)) ⟨Nat.zero_le _, Nat.zero_le _⟩ (Nat.le_of_ble_eq_true rfl) dX1_legMinutes_31) (fun r3 _ => ?_)
  refine g_iload X dX1_legMinutes_34 2 rfl ?_
  refine g_iload X dX1_legMinutes_36 3 rfl ?_
  refine g_iadd X dX1_legMinutes_38 ?_
  refine g_imul X dX1_legMinutes_39 ?_
  refine g_iload_n X dX1_legMinutes_40 1 rfl rfl ?_
  refine g_ci X (st := []) (fun _ hh => ok_N X (As := [.int (r3 * (v1 + v2)), .int a3]) wkX10_roundedUpBy (tc_roundedUpBy M (r3 * (v1 + v2)) a3 hh) rfl m_3_62 rfl (hRm (by decide) (by decide)) ⟨Nat.zero_le _, Nat.zero_le _⟩ (Nat.le_of_ble_eq_true rfl) dX1_legMinutes_41) (fun r4 _ => ?_)
  exact g_iret X hr rfl dX1_legMinutes_44
set_option maxRecDepth 100000 in
set_option maxHeartbeats 4000000 in
theorem tc_leg {l : Launch} {D : va_G} {cy : Nat → ClassId} {ad : Nat → Nat} {N : Mem} (M : Mem) (a1 : Int32) (a2 : Int32) {x : (Int32 × Mem)} (h : fc_leg M a1 a2 = some x) : Mt l D cy ad yX10_leg cX10_leg 3 (some .int) 3 [.ref (ad 0), .int a1, .int a2] ((wfC N) M) (some (.int x.1), (wfC N) x.2) := by
  refine met_of (fin := finS) (lv0 := [(0, .ref (ad 0)), (1, .int a1), (2, .int a2)]) (by decide) (Nat.le_of_ble_eq_true rfl) rfl (lC N) h (fun p e s m args below meth c X hr => ?_)
  unfold fc_leg
  refine g_iload_n X dX10_leg_0 1 rfl rfl ?_
  refine g_sipush X dX10_leg_1 si_256 ?_
  refine g_ct X (v0 := .int (fc_isBelowT M a1 256)) (st := []) (ok_S X (As := [.int a1, .int 256]) wkX10_isBelow (tc_isBelowT M a1 256) rfl m_2_167 rfl (hRm (by decide) (by decide)) ⟨Nat.zero_le _, Nat.zero_le _⟩ (Nat.le_of_ble_eq_true rfl) dX10_leg_4) ?_
  refine g_if_eq X 20 (by decide) dX10_leg_7 (fun q7 => ?_) (fun q7 => ?_)
  · refine g_aload_n X dX10_leg_20 0 rfl rfl ?_
    refine g_bipush X dX10_leg_21 bi_m2 ?_
    refine g_cs X (st := []) (fun _ hh => ok_V X (k0 := 0) (As := [.int (-2)]) wkX10_refuse (tc_refuse M (-2) hh) rfl k_0 s_0 (by decide) rfl m_2_173 rfl (hRm (by decide) (by decide)) ⟨Nat.zero_le _, Nat.zero_le _⟩ (Nat.le_of_ble_eq_true rfl) dX10_leg_23) (fun r2 M1 _ => ?_)
    exact g_iret X hr rfl dX10_leg_26
  · refine g_iload_n X dX10_leg_10 2 rfl rfl ?_
    refine g_sipush X dX10_leg_11 si_256 ?_
    refine g_ct X (v0 := .int (fc_isBelowT M a2 256)) (st := []) (ok_S X (As := [.int a2, .int 256]) wkX10_isBelow (tc_isBelowT M a2 256) rfl m_2_167 rfl (hRm (by decide) (by decide)) ⟨Nat.zero_le _, Nat.zero_le _⟩ (Nat.le_of_ble_eq_true rfl) dX10_leg_14) ?_
    refine g_if_ne X 27 (by decide) dX10_leg_17 (fun q17 => ?_) (fun q17 => ?_)
    · refine g_aload_n X dX10_leg_27 0 rfl rfl ?_
      refine get_10_2 X (k := 0) k_0 s_0 m_2_128 dX10_leg_28 ?_
      refine g_iload_n X dX10_leg_31 1 rfl rfl ?_
      refine g_iload_n X dX10_leg_32 2 rfl rfl ?_
      refine g_aload_n X dX10_leg_33 0 rfl rfl ?_
      refine get_10_2 X (k := 0) k_0 s_0 m_2_128 dX10_leg_34 ?_
      refine g_ci X (st := [.int a2, .int a1, .ref (ad 20)]) (fun _ hh => ok_V X (k0 := 20) (As := []) wkX1_speed (tLake_speed M hh) rfl k_20 s_20 (by decide) rfl m_3_48 rfl (hRm (by decide) (by decide)) ⟨Nat.zero_le _, Nat.zero_le _⟩ (Nat.le_of_ble_eq_true rfl) dX10_leg_37) (fun r3 _ => ?_)
      refine g_ci X (st := []) (fun _ hh => ok_V X (k0 := 20) (As := [.int a1, .int a2, .int r3]) wkX1_legMinutes (tLake_legMinutes M a1 a2 r3 hh) rfl k_20 s_20 (by decide) rfl m_4_40 rfl (hRm (by decide) (by decide)) ⟨Nat.zero_le _, Nat.zero_le _⟩ (Nat.le_of_ble_eq_true rfl) dX10_leg_40) (fun r4 _ => ?_)
      exact g_iret X hr rfl dX10_leg_43
    · refine g_aload_n X dX10_leg_20 0 rfl rfl ?_
      refine g_bipush X dX10_leg_21 bi_m2 ?_
      refine g_cs X (st := []) (fun _ hh => ok_V X (k0 := 0) (As := [.int (-2)]) wkX10_refuse (tc_refuse M (-2) hh) rfl k_0 s_0 (by decide) rfl m_2_173 rfl (hRm (by decide) (by decide)) ⟨Nat.zero_le _, Nat.zero_le _⟩ (Nat.le_of_ble_eq_true rfl) dX10_leg_23) (fun r6 M5 _ => ?_)
      exact g_iret X hr rfl dX10_leg_26
set_option maxRecDepth 100000 in
set_option maxHeartbeats 4000000 in
theorem Lc_tellsJetties_L20 {l : Launch} {D : va_G} {cy : Nat → ClassId} {ad : Nat → Nat} {N : Mem} {p : Program} {e : Env} {s : State} {m : MethodId} {args : Array Value} {below : List Frame} {meth : Method} {c : Code} (X : Cx p s m args meth c cX10_tellsJetties 7 RX10 D cy ad (AA ad) (wfC N) sdC) (hr : meth.sig.returnType = (some .boolean)) (M : Mem) (b2 : Int32) (b3 : Nat) (hb3 : b3 < 8) : ∀ (n : Nat) (x4 : Int32), GF p l e (Rm 3) s m args below meth c 7 D cy ad (AA ad) 0 0 (wfC N) (QM D cy ad (wfC N) below args s) (finI M) (fc_tellsJetties_L20 M b2 b3 n x4) 20 [(0, .ref (ad 0)), (2, .int b2), (3, .ref (ad (b3 + 2))), (4, .int x4)] [] M := by
  intro n
  induction n with
  | zero => intro x4; exact g_none
  | succ n ih =>
    intro x4
    rw [fc_tellsJetties_L20]
    refine g_iload X dX10_tellsJetties_20 3 rfl ?_
    refine g_iload_n X dX10_tellsJetties_22 1 rfl rfl ?_
    refine g_icmp_ge X 63 (by decide) dX10_tellsJetties_23 (fun q23 => ?_) (fun q23 => ?_)
    · refine g_iconst X dX10_tellsJetties_63 ic_1 ?_
      exact g_zret X hr (isB_n (by decide)) rfl dX10_tellsJetties_64
    · refine g_aload_n X dX10_tellsJetties_26 2 rfl rfl ?_
      refine g_iload X dX10_tellsJetties_27 3 rfl ?_
      refine g_cl X (st := []) (fun _ hh => ok_V X (k0 := b3 + 2) (As := [.int x4]) wkX5_at (tShelf_at M b3 x4 hb3 hh) rfl (kf_2 _ hb3) (sf_2 _ hb3) (by decide) rfl m_2_215 rfl (hRm (by decide) (by decide)) ⟨Nat.zero_le _, Nat.zero_le _⟩ (Nat.le_of_ble_eq_true rfl) dX10_tellsJetties_29) (fun r2 _ => ?_)
      refine g_lstore X dX10_tellsJetties_32 (by decide) rfl [1, 2, 3, 4, 0] (lu := [(0, .ref (ad 0)), (2, .int b2), (3, .ref (ad (b3 + 2))), (4, .int x4), (5, .long r2)]) rfl ?_
      refine g_lload X dX10_tellsJetties_34 4 rfl ?_
      refine g_lconst X (v := 0) dX10_tellsJetties_36 (by decide) ?_
      refine g_lcmp X dX10_tellsJetties_37 ?_
      refine g_if_lt X 55 (by decide) dX10_tellsJetties_38 (fun q38 => ?_) (fun q38 => ?_)
      · refine g_iconst X dX10_tellsJetties_55 ic_0 ?_
        exact g_zret X hr (isB_n (by decide)) rfl dX10_tellsJetties_56
      · refine g_lload X dX10_tellsJetties_41 4 rfl ?_
        refine g_aload_n X dX10_tellsJetties_43 0 rfl rfl ?_
        refine get_10_2 X (k := 0) k_0 s_0 m_2_128 dX10_tellsJetties_44 ?_
        refine get_1_1 X (k := 20) k_20 s_20 m_1_179 dX10_tellsJetties_47 ?_
        refine g_i2l X dX10_tellsJetties_50 ?_
        refine g_lcmp X dX10_tellsJetties_51 ?_
        refine g_if_lt X 57 (by decide) dX10_tellsJetties_52 (fun q52 => ?_) (fun q52 => ?_)
        · refine g_iinc X (k := 3) (v := (x4 + 1)) dX10_tellsJetties_57 rfl (ii_1 _) (by decide) rfl [1, 2, 3, 0] (lu := [(0, .ref (ad 0)), (2, .int b2), (3, .ref (ad (b3 + 2))), (4, .int (x4 + 1))]) rfl ?_
          refine g_goto X 20 (by decide) dX10_tellsJetties_60 ?_
          exact ih (x4 + 1)
        · refine g_iconst X dX10_tellsJetties_55 ic_0 ?_
          exact g_zret X hr (isB_n (by decide)) rfl dX10_tellsJetties_56
set_option maxRecDepth 100000 in
set_option maxHeartbeats 4000000 in
theorem tc_tellsJetties {l : Launch} {D : va_G} {cy : Nat → ClassId} {ad : Nat → Nat} {N : Mem} (M : Mem) (a1 : Int32) (a2 : Int32) {x : Int32} (h : fc_tellsJetties M a1 a2 = some x) : Mt l D cy ad yX10_tellsJetties cX10_tellsJetties 7 (some .boolean) 3 [.ref (ad 0), .int a1, .int a2] ((wfC N) M) (some (.int x), (wfC N) M) := by
  refine met_of (fin := (finI M)) (lv0 := [(0, .ref (ad 0)), (1, .int a1), (2, .int a2)]) (by decide) (Nat.le_of_ble_eq_true rfl) rfl (lC N) h (fun p e s m args below meth c X hr => ?_)
  unfold fc_tellsJetties
  refine g_aload_n X dX10_tellsJetties_0 0 rfl rfl ?_
  refine get_10_0 X (k := 0) k_0 s_0 m_2_126 dX10_tellsJetties_1 ?_
  refine g_iload_n X dX10_tellsJetties_4 1 rfl rfl ?_
  refine g_aald27 X (k := 1) k_1 s_1 dX10_tellsJetties_5 (fun h1 => ?_)
  refine g_astore_n X dX10_tellsJetties_6 rfl (by decide) rfl [1, 3, 0] (lu := [(0, .ref (ad 0)), (2, .int a2), (3, .ref (ad ((ix a1) + 2)))]) rfl ?_
  refine g_iload_n X dX10_tellsJetties_7 1 rfl rfl ?_
  refine g_aload_n X dX10_tellsJetties_8 2 rfl rfl ?_
  refine get_5_1 X (k := (ix a1) + 2) (kf_2 _ (inb_lt h1)) (sf_2 _ (inb_lt h1)) m_2_111 dX10_tellsJetties_9 ?_
  refine g_icmp_le X 17 (by decide) dX10_tellsJetties_12 (fun q12 => ?_) (fun q12 => ?_)
  · refine g_iconst X dX10_tellsJetties_17 ic_0 ?_
    refine g_istore X dX10_tellsJetties_18 (by decide) rfl [1, 2, 3, 0] (lu := [(0, .ref (ad 0)), (2, .int a2), (3, .ref (ad ((ix a1) + 2))), (4, .int 0)]) rfl ?_
    exact Lc_tellsJetties_L20  X hr M a2 (ix a1) (inb_lt h1)   FU 0
  · refine g_iconst X dX10_tellsJetties_15 ic_0 ?_
    exact g_zret X hr (isB_n (by decide)) rfl dX10_tellsJetties_16
set_option maxRecDepth 100000 in
set_option maxHeartbeats 4000000 in
theorem tc_roundTrouble {l : Launch} {D : va_G} {cy : Nat → ClassId} {ad : Nat → Nat} {N : Mem} (M : Mem) (a1 : Int32) (a2 : Int32) {x : Int32} (h : fc_roundTrouble M a1 a2 = some x) : Mt l D cy ad yX10_roundTrouble cX10_roundTrouble 4 (some .int) 4 [.ref (ad 0), .int a1, .int a2] ((wfC N) M) (some (.int x), (wfC N) M) := by
  refine met_of (fin := (finI M)) (lv0 := [(0, .ref (ad 0)), (1, .int a1), (2, .int a2)]) (by decide) (Nat.le_of_ble_eq_true rfl) rfl (lC N) h (fun p e s m args below meth c X hr => ?_)
  unfold fc_roundTrouble
  refine g_iload_n X dX10_roundTrouble_0 2 rfl rfl ?_
  refine g_iconst X dX10_roundTrouble_1 ic_0 ?_
  refine g_bipush X dX10_roundTrouble_2 bi_20 ?_
  refine g_ct X (v0 := .int (fc_isWithinT M a2 0 20)) (st := []) (ok_S X (As := [.int a2, .int 0, .int 20]) wkX10_isWithin (tc_isWithinT M a2 0 20) rfl m_2_170 rfl (hRm (by decide) (by decide)) ⟨Nat.zero_le _, Nat.zero_le _⟩ (Nat.le_of_ble_eq_true rfl) dX10_roundTrouble_4) ?_
  refine g_if_ne X 13 (by decide) dX10_roundTrouble_7 (fun q7 => ?_) (fun q7 => ?_)
  · refine g_aload_n X dX10_roundTrouble_13 0 rfl rfl ?_
    refine g_iload_n X dX10_roundTrouble_14 1 rfl rfl ?_
    refine g_iload_n X dX10_roundTrouble_15 1 rfl rfl ?_
    refine g_ci X (st := []) (fun _ hh => ok_V X (k0 := 0) (As := [.int a1, .int a1]) wkX10_rowTrouble (tc_rowTrouble M a1 a1 hh) rfl k_0 s_0 (by decide) rfl m_2_185 rfl (hRm (by decide) (by decide)) ⟨Nat.zero_le _, Nat.zero_le _⟩ (Nat.le_of_ble_eq_true rfl) dX10_roundTrouble_16) (fun r1 _ => ?_)
    refine g_istore_n X dX10_roundTrouble_19 rfl (by decide) rfl [1, 2, 3, 0] (lu := [(0, .ref (ad 0)), (1, .int a1), (2, .int a2), (3, .int r1)]) rfl ?_
    refine g_iload_n X dX10_roundTrouble_20 3 rfl rfl ?_
    refine g_if_eq X 26 (by decide) dX10_roundTrouble_21 (fun q21 => ?_) (fun q21 => ?_)
    · refine g_aload_n X dX10_roundTrouble_26 0 rfl rfl ?_
      refine g_iload_n X dX10_roundTrouble_27 1 rfl rfl ?_
      refine g_iload_n X dX10_roundTrouble_28 2 rfl rfl ?_
      refine g_ci X (st := []) (fun _ hh => ok_V X (k0 := 0) (As := [.int a1, .int a2]) wkX10_tellsJetties (tc_tellsJetties M a1 a2 hh) rfl k_0 s_0 (by decide) rfl m_4_52 rfl (hRm (by decide) (by decide)) ⟨Nat.zero_le _, Nat.zero_le _⟩ (Nat.le_of_ble_eq_true rfl) dX10_roundTrouble_29) (fun r2 _ => ?_)
      refine g_if_eq X 39 (by decide) dX10_roundTrouble_32 (fun q32 => ?_) (fun q32 => ?_)
      · refine g_bipush X dX10_roundTrouble_39 bi_m2 ?_
        exact g_iret X hr rfl dX10_roundTrouble_41
      · refine g_iconst X dX10_roundTrouble_35 ic_0 ?_
        refine g_goto X 41 (by decide) dX10_roundTrouble_36 ?_
        exact g_iret X hr rfl dX10_roundTrouble_41
    · refine g_iload_n X dX10_roundTrouble_24 3 rfl rfl ?_
      exact g_iret X hr rfl dX10_roundTrouble_25
  · refine g_bipush X dX10_roundTrouble_10 bi_m2 ?_
    exact g_iret X hr rfl dX10_roundTrouble_12
set_option maxRecDepth 100000 in
set_option maxHeartbeats 4000000 in
theorem Lc_readTour_L8 {l : Launch} {D : va_G} {cy : Nat → ClassId} {ad : Nat → Nat} {N : Mem} {p : Program} {e : Env} {s : State} {m : MethodId} {args : Array Value} {below : List Frame} {meth : Method} {c : Code} (X : Cx p s m args meth c cX10_readTour 5 RX10 D cy ad (AA ad) (wfC N) sdC) (hr : meth.sig.returnType = none) (b2 : Int32) (b3 : Int32) : ∀ (n : Nat) (x4 : Int32) (M : Mem), GF p l e (Rm 3) s m args below meth c 5 D cy ad (AA ad) 0 0 (wfC N) (QM D cy ad (wfC N) below args s) finV (fc_readTour_L8 b2 b3 n x4 M) 8 [(0, .ref (ad 0)), (1, .ref (ad 119)), (2, .int b2), (3, .int b3), (4, .int x4)] [] M := by
  intro n
  induction n with
  | zero => intro x4 M; exact g_none
  | succ n ih =>
    intro x4 M
    rw [fc_readTour_L8]
    refine g_iload X dX10_readTour_8 4 rfl ?_
    refine g_iload_n X dX10_readTour_10 3 rfl rfl ?_
    refine g_icmp_ge X 39 (by decide) dX10_readTour_11 (fun q11 => ?_) (fun q11 => ?_)
    · exact g_vret X hr rfl dX10_readTour_39
    · refine g_aload_n X dX10_readTour_14 1 rfl rfl ?_
      refine get_8_0 X (k := 119) k_119 s_119 m_2_12 dX10_readTour_15 ?_
      refine g_iload X dX10_readTour_18 4 rfl ?_
      refine g_aload_n X dX10_readTour_20 0 rfl rfl ?_
      refine get_10_0 X (k := 0) k_0 s_0 m_2_126 dX10_readTour_21 ?_
      refine g_iload_n X dX10_readTour_24 2 rfl rfl ?_
      refine g_aald27 X (k := 1) k_1 s_1 dX10_readTour_25 (fun h2 => ?_)
      refine g_iload X dX10_readTour_26 4 rfl ?_
      refine g_cl X (st := [.int x4, .ref (ad 120)]) (fun _ hh => ok_V X (k0 := (ix b2) + 2) (As := [.int x4]) wkX5_at (tShelf_at M (ix b2) x4 (inb_lt h2) hh) rfl (kf_2 _ (inb_lt h2)) (sf_2 _ (inb_lt h2)) (by decide) rfl m_2_215 rfl (hRm (by decide) (by decide)) ⟨Nat.zero_le _, Nat.zero_le _⟩ (Nat.le_of_ble_eq_true rfl) dX10_readTour_28) (fun r3 _ => ?_)
      refine g_l2i X dX10_readTour_31 ?_
      refine g_iast X (n := 20) (k := 120) k_120 s_120 dX10_readTour_32 (fun h4 => ?_)
      refine g_mlet X (fun M5 => ?_)
      refine g_iinc X (k := 4) (v := (x4 + 1)) dX10_readTour_33 rfl (ii_1 _) (by decide) rfl [1, 2, 3, 4, 0] (lu := [(0, .ref (ad 0)), (1, .ref (ad 119)), (2, .int b2), (3, .int b3), (4, .int (x4 + 1))]) rfl ?_
      refine g_goto X 8 (by decide) dX10_readTour_36 ?_
      exact ih (x4 + 1) M5
set_option maxRecDepth 100000 in
set_option maxHeartbeats 4000000 in
theorem tc_readTour {l : Launch} {D : va_G} {cy : Nat → ClassId} {ad : Nat → Nat} {N : Mem} (M : Mem) (a2 : Int32) (a3 : Int32) {x : Mem} (h : fc_readTour M a2 a3 = some x) : Mt l D cy ad yX10_readTour cX10_readTour 5 none 3 [.ref (ad 0), .ref (ad 119), .int a2, .int a3] ((wfC N) M) (none, (wfC N) x) := by
  refine met_of (fin := finV) (lv0 := [(0, .ref (ad 0)), (1, .ref (ad 119)), (2, .int a2), (3, .int a3)]) (by decide) (Nat.le_of_ble_eq_true rfl) rfl (lC N) h (fun p e s m args below meth c X hr => ?_)
  unfold fc_readTour
  refine g_aload_n X dX10_readTour_0 1 rfl rfl ?_
  refine g_iload_n X dX10_readTour_1 3 rfl rfl ?_
  refine put_8_2 X (k := 119) k_119 s_119 m_2_16 dX10_readTour_2 ?_
  refine g_mlet X (fun M1 => ?_)
  refine g_iconst X dX10_readTour_5 ic_0 ?_
  refine g_istore X dX10_readTour_6 (by decide) rfl [1, 2, 3, 4, 0] (lu := [(0, .ref (ad 0)), (1, .ref (ad 119)), (2, .int a2), (3, .int a3), (4, .int 0)]) rfl ?_
  exact Lc_readTour_L8  X hr a2 a3    FU 0 M1
set_option maxRecDepth 100000 in
set_option maxHeartbeats 4000000 in
theorem LTour_sail_L12 {l : Launch} {D : va_G} {cy : Nat → ClassId} {ad : Nat → Nat} {N : Mem} {p : Program} {e : Env} {s : State} {m : MethodId} {args : Array Value} {below : List Frame} {meth : Method} {c : Code} (X : Cx p s m args meth c cX8_sail 8 RX8 D cy ad (AA ad) (wfC N) sdC) (hr : meth.sig.returnType = none) (b2 : Int32) (b3 : Int32) : ∀ (n : Nat) (x4 : Int32) (x5 : Int32) (x6 : Int32) (M : Mem), GF p l e (Rm 3) s m args below meth c 8 D cy ad (AA ad) 0 0 (wfC N) (QM D cy ad (wfC N) below args s) finV (fTour_sail_L12 b2 b3 n x4 x5 x6 M) 12 [(0, .ref (ad 119)), (1, .ref (ad 20)), (2, .int b2), (3, .int b3), (4, .int x4), (5, .int x5), (6, .int x6)] [] M := by
  intro n
  induction n with
  | zero => intro x4 x5 x6 M; exact g_none
  | succ n ih =>
    intro x4 x5 x6 M
    rw [fTour_sail_L12]
    refine g_iload X dX8_sail_12 6 rfl ?_
    refine g_aload_n X dX8_sail_14 0 rfl rfl ?_
    refine get_8_2 X (k := 119) k_119 s_119 m_2_15 dX8_sail_15 ?_
    refine g_icmp_ge X 92 (by decide) dX8_sail_18 (fun q18 => ?_) (fun q18 => ?_)
    · exact g_vret X hr rfl dX8_sail_92
    · refine g_aload_n X dX8_sail_21 1 rfl rfl ?_
      refine get_1_0 X (k := 20) k_20 s_20 m_1_175 dX8_sail_22 ?_
      refine g_aload_n X dX8_sail_25 0 rfl rfl ?_
      refine get_8_0 X (k := 119) k_119 s_119 m_2_10 dX8_sail_26 ?_
      refine g_iload X dX8_sail_29 6 rfl ?_
      refine g_iald X (n := 20) (k := 120) k_120 s_120 dX8_sail_31 (fun h2 => ?_)
      refine g_aald24 X (k := 21) k_21 s_21 dX8_sail_32 (fun h3 => ?_)
      refine get_0_1 X (k := (ix (M.1 120 (ix x6))) + 22) (kf_22 _ (inb_lt h3)) (sf_22 _ (inb_lt h3)) m_1_112 dX8_sail_33 ?_
      refine g_ilet X (fun v4 => ?_)
      refine g_istore X dX8_sail_36 (by decide) rfl [1, 2, 3, 4, 5, 6, 7, 0] (lu := [(0, .ref (ad 119)), (1, .ref (ad 20)), (2, .int b2), (3, .int b3), (4, .int x4), (5, .int x5), (6, .int x6), (7, .int v4)]) rfl ?_
      refine g_aload_n X dX8_sail_38 0 rfl rfl ?_
      refine get_8_1 X (k := 119) k_119 s_119 m_2_13 dX8_sail_39 ?_
      refine g_iload X dX8_sail_42 6 rfl ?_
      refine g_iload X dX8_sail_44 5 rfl ?_
      refine g_aload_n X dX8_sail_46 1 rfl rfl ?_
      refine g_iload X dX8_sail_47 4 rfl ?_
      refine g_iload X dX8_sail_49 7 rfl ?_
      refine g_iload_n X dX8_sail_51 2 rfl rfl ?_
      refine g_ci X (st := [.int x5, .int x6, .ref (ad 121)]) (fun _ hh => ok_V X (k0 := 20) (As := [.int x4, .int v4, .int b2]) wkX1_legMinutes (tLake_legMinutes M x4 v4 b2 hh) rfl k_20 s_20 (by decide) rfl m_4_70 rfl (hRm (by decide) (by decide)) ⟨Nat.zero_le _, Nat.zero_le _⟩ (Nat.le_of_ble_eq_true rfl) dX8_sail_52) (fun r5 _ => ?_)
      refine g_iadd X dX8_sail_55 ?_
      refine g_iast X (n := 20) (k := 121) k_121 s_121 dX8_sail_56 (fun h6 => ?_)
      refine g_mlet X (fun M7 => ?_)
      refine g_aload_n X dX8_sail_57 0 rfl rfl ?_
      refine get_8_1 X (k := 119) k_119 s_119 m_2_13 dX8_sail_58 ?_
      refine g_iload X dX8_sail_61 6 rfl ?_
      refine g_iald X (n := 20) (k := 121) k_121 s_121 dX8_sail_63 (fun h8 => ?_)
      refine g_iconst X dX8_sail_64 ic_1 ?_
      refine g_iadd X dX8_sail_65 ?_
      refine g_ilet X (fun v9 => ?_)
      refine g_istore X dX8_sail_66 (by decide) rfl [1, 2, 3, 4, 0, 6, 7] (lu := [(0, .ref (ad 119)), (1, .ref (ad 20)), (2, .int b2), (3, .int b3), (5, .int v9), (6, .int x6), (7, .int v4)]) rfl ?_
      refine g_iload X dX8_sail_68 5 rfl ?_
      refine g_iload_n X dX8_sail_70 3 rfl rfl ?_
      refine g_jlet X 82 (fun z82 : Int32 => [(0, .ref (ad 119)), (1, .ref (ad 20)), (2, .int b2), (3, .int b3), (5, .int z82), (6, .int x6), (7, .int v4)]) (fun z82 : Int32 => []) (fun z82 : Int32 => M7) (fun z82 => ?_) (fun J82 hJ82 => ?_)
      · show GF _ _ _ _ _ _ _ _ _ _ _ _ _ _ _ _ _ _ _ _ _ 82 [(0, .ref (ad 119)), (1, .ref (ad 20)), (2, .int b2), (3, .int b3), (5, .int z82), (6, .int x6), (7, .int v4)] [] M7
        refine g_iload X dX8_sail_82 6 rfl ?_
        refine g_istore X dX8_sail_84 (by decide) rfl [1, 2, 3, 4, 0, 5, 6] (lu := [(0, .ref (ad 119)), (1, .ref (ad 20)), (2, .int b2), (3, .int b3), (4, .int v4), (5, .int z82), (6, .int x6)]) rfl ?_
        refine g_iinc X (k := 6) (v := (x6 + 1)) dX8_sail_86 rfl (ii_1 _) (by decide) rfl [1, 2, 3, 4, 5, 6, 0] (lu := [(0, .ref (ad 119)), (1, .ref (ad 20)), (2, .int b2), (3, .int b3), (4, .int v4), (5, .int z82), (6, .int (x6 + 1))]) rfl ?_
        refine g_goto X 12 (by decide) dX8_sail_89 ?_
        exact ih v4 z82 (x6 + 1) M7
      refine g_icmp_ne X 82 (by decide) dX8_sail_71 (fun q71 => ?_) (fun q71 => ?_)
      · exact hJ82 v9
      · refine g_iload X dX8_sail_74 4 rfl ?_
        refine g_iconst X dX8_sail_76 ic_3 ?_
        refine g_iload_n X dX8_sail_77 2 rfl rfl ?_
        refine g_imul X dX8_sail_78 ?_
        refine g_iadd X dX8_sail_79 ?_
        refine g_ilet X (fun v10 => ?_)
        refine g_istore X dX8_sail_80 (by decide) rfl [1, 2, 3, 4, 0, 5, 6] (lu := [(0, .ref (ad 119)), (1, .ref (ad 20)), (2, .int b2), (3, .int b3), (5, .int v10), (6, .int x6), (7, .int v4)]) rfl ?_
        exact hJ82 v10
set_option maxRecDepth 100000 in
set_option maxHeartbeats 4000000 in
theorem tTour_sail {l : Launch} {D : va_G} {cy : Nat → ClassId} {ad : Nat → Nat} {N : Mem} (M : Mem) (a2 : Int32) (a3 : Int32) {x : Mem} (h : fTour_sail M a2 a3 = some x) : Mt l D cy ad yX8_sail cX8_sail 8 none 3 [.ref (ad 119), .ref (ad 20), .int a2, .int a3] ((wfC N) M) (none, (wfC N) x) := by
  refine met_of (fin := finV) (lv0 := [(0, .ref (ad 119)), (1, .ref (ad 20)), (2, .int a2), (3, .int a3)]) (by decide) (Nat.le_of_ble_eq_true rfl) rfl (lC N) h (fun p e s m args below meth c X hr => ?_)
  unfold fTour_sail
  refine g_aload_n X dX8_sail_0 1 rfl rfl ?_
  refine get_1_13 X (k := 20) k_20 s_20 m_1_203 dX8_sail_1 ?_
  refine g_ilet X (fun v1 => ?_)
  refine g_istore X dX8_sail_4 (by decide) rfl [1, 2, 3, 4, 0] (lu := [(0, .ref (ad 119)), (1, .ref (ad 20)), (2, .int a2), (3, .int a3), (4, .int v1)]) rfl ?_
  refine g_iconst X dX8_sail_6 ic_0 ?_
  refine g_istore X dX8_sail_7 (by decide) rfl [1, 2, 3, 4, 5, 0] (lu := [(0, .ref (ad 119)), (1, .ref (ad 20)), (2, .int a2), (3, .int a3), (4, .int v1), (5, .int 0)]) rfl ?_
  refine g_iconst X dX8_sail_9 ic_0 ?_
  refine g_istore X dX8_sail_10 (by decide) rfl [1, 2, 3, 4, 5, 6, 0] (lu := [(0, .ref (ad 119)), (1, .ref (ad 20)), (2, .int a2), (3, .int a3), (4, .int v1), (5, .int 0), (6, .int 0)]) rfl ?_
  exact LTour_sail_L12  X hr a2 a3    FU v1 0 0 M
set_option maxRecDepth 100000 in
set_option maxHeartbeats 4000000 in
theorem tTour_end {l : Launch} {D : va_G} {cy : Nat → ClassId} {ad : Nat → Nat} {N : Mem} (M : Mem) {x : Int32} (h : fTour_end M = some x) : Mt l D cy ad yX8_end cX8_end 1 (some .int) 1 [.ref (ad 119)] ((wfC N) M) (some (.int x), (wfC N) M) := by
  refine met_of (fin := (finI M)) (lv0 := [(0, .ref (ad 119))]) (by decide) (Nat.le_of_ble_eq_true rfl) rfl (lC N) h (fun p e s m args below meth c X hr => ?_)
  unfold fTour_end
  refine g_aload_n X dX8_end_0 0 rfl rfl ?_
  refine get_8_2 X (k := 119) k_119 s_119 m_2_15 dX8_end_1 ?_
  refine g_iconst X dX8_end_4 ic_1 ?_
  refine g_icmp_ge X 12 (by decide) dX8_end_5 (fun q5 => ?_) (fun q5 => ?_)
  · refine g_aload_n X dX8_end_12 0 rfl rfl ?_
    refine get_8_1 X (k := 119) k_119 s_119 m_2_13 dX8_end_13 ?_
    refine g_aload_n X dX8_end_16 0 rfl rfl ?_
    refine get_8_2 X (k := 119) k_119 s_119 m_2_15 dX8_end_17 ?_
    refine g_iconst X dX8_end_20 ic_1 ?_
    refine g_isub X dX8_end_21 ?_
    refine g_iald X (n := 20) (k := 121) k_121 s_121 dX8_end_22 (fun h1 => ?_)
    exact g_iret X hr rfl dX8_end_23
  · refine g_iconst X dX8_end_8 ic_0 ?_
    refine g_goto X 23 (by decide) dX8_end_9 ?_
    exact g_iret X hr rfl dX8_end_23
set_option maxRecDepth 100000 in
set_option maxHeartbeats 4000000 in
theorem tc_hourOf {l : Launch} {D : va_G} {cy : Nat → ClassId} {ad : Nat → Nat} {N : Mem} (M : Mem) (a0 : Int32) {x : Int32} (h : fc_hourOf M a0 = some x) : Mt l D cy ad yX10_hourOf cX10_hourOf 1 (some .int) 2 [.int a0] ((wfC N) M) (some (.int x), (wfC N) M) := by
  refine met_of (fin := (finI M)) (lv0 := [(0, .int a0)]) (by decide) (Nat.le_of_ble_eq_true rfl) rfl (lC N) h (fun p e s m args below meth c X hr => ?_)
  unfold fc_hourOf
  refine g_bipush X dX10_hourOf_0 bi_11 ?_
  refine g_iload_n X dX10_hourOf_2 0 rfl rfl ?_
  refine g_bipush X dX10_hourOf_3 bi_60 ?_
  refine g_idivC X dX10_hourOf_5 (by decide) ?_
  refine g_min X m_3_91 (hR1 (by decide) (Nat.le_of_ble_eq_true rfl)) ⟨Nat.zero_le _, Nat.zero_le _⟩ dX10_hourOf_6 ?_
  exact g_iret X hr rfl dX10_hourOf_9
theorem tc_hourOfT {l : Launch} {D : va_G} {cy : Nat → ClassId} {ad : Nat → Nat} {N : Mem} (M : Mem) (a0 : Int32) : Mt l D cy ad yX10_hourOf cX10_hourOf 1 (some .int) 2 [.int a0] ((wfC N) M) (some (.int (fc_hourOfT M a0)), (wfC N) M) := tc_hourOf M a0 (fc_hourOfE M a0)
set_option maxRecDepth 100000 in
set_option maxHeartbeats 4000000 in
theorem LTour_riskBy_L5 {l : Launch} {D : va_G} {cy : Nat → ClassId} {ad : Nat → Nat} {N : Mem} {p : Program} {e : Env} {s : State} {m : MethodId} {args : Array Value} {below : List Frame} {meth : Method} {c : Code} (X : Cx p s m args meth c cX8_riskBy 5 RX8 D cy ad (AA ad) (wfC N) sdC) (hr : meth.sig.returnType = (some .int)) (M : Mem) (b2 : Int32) : ∀ (n : Nat) (x3 : Int32) (x4 : Int32), GF p l e (Rm 6) s m args below meth c 5 D cy ad (AA ad) 0 0 (wfC N) (QM D cy ad (wfC N) below args s) (finI M) (fTour_riskBy_L5 M b2 n x3 x4) 5 [(0, .ref (ad 119)), (1, .ref (ad 20)), (2, .int b2), (3, .int x3), (4, .int x4)] [] M := by
  intro n
  induction n with
  | zero => intro x3 x4; exact g_none
  | succ n ih =>
    intro x3 x4
    rw [fTour_riskBy_L5]
    refine g_iload X dX8_riskBy_5 4 rfl ?_
    refine g_aload_n X dX8_riskBy_7 0 rfl rfl ?_
    refine get_8_2 X (k := 119) k_119 s_119 m_2_15 dX8_riskBy_8 ?_
    refine g_icmp_ge X 45 (by decide) dX8_riskBy_11 (fun q11 => ?_) (fun q11 => ?_)
    · refine g_iload_n X dX8_riskBy_45 3 rfl rfl ?_
      exact g_iret X hr rfl dX8_riskBy_46
    · refine g_iload_n X dX8_riskBy_14 3 rfl rfl ?_
      refine g_aload_n X dX8_riskBy_15 1 rfl rfl ?_
      refine g_iload_n X dX8_riskBy_16 2 rfl rfl ?_
      refine g_aload_n X dX8_riskBy_17 0 rfl rfl ?_
      refine get_8_0 X (k := 119) k_119 s_119 m_2_10 dX8_riskBy_18 ?_
      refine g_iload X dX8_riskBy_21 4 rfl ?_
      refine g_iald X (n := 20) (k := 120) k_120 s_120 dX8_riskBy_23 (fun h1 => ?_)
      refine g_aload_n X dX8_riskBy_24 0 rfl rfl ?_
      refine get_8_1 X (k := 119) k_119 s_119 m_2_13 dX8_riskBy_25 ?_
      refine g_iload X dX8_riskBy_28 4 rfl ?_
      refine g_iald X (n := 20) (k := 121) k_121 s_121 dX8_riskBy_30 (fun h2 => ?_)
      refine g_ct X (v0 := .int (fc_hourOfT M (M.1 121 (ix x4)))) (st := [.int (M.1 120 (ix x4)), .int b2, .ref (ad 20), .int x3]) (ok_N X (As := [.int (M.1 121 (ix x4))]) wkX10_hourOf (tc_hourOfT M (M.1 121 (ix x4))) rfl m_4_75 rfl (hRm (by decide) (by decide)) ⟨Nat.zero_le _, Nat.zero_le _⟩ (Nat.le_of_ble_eq_true rfl) dX8_riskBy_31) ?_
      refine g_ci X (st := [.int x3]) (fun _ hh => ok_V X (k0 := 20) (As := [.int b2, .int (M.1 120 (ix x4)), .int (fc_hourOfT M (M.1 121 (ix x4)))]) wkX1_riskOf (tLake_riskOf M b2 (M.1 120 (ix x4)) (fc_hourOfT M (M.1 121 (ix x4))) hh) rfl k_20 s_20 (by decide) rfl m_4_78 rfl (hRm (by decide) (by decide)) ⟨Nat.zero_le _, Nat.zero_le _⟩ (Nat.le_of_ble_eq_true rfl) dX8_riskBy_34) (fun r3 _ => ?_)
      refine g_iadd X dX8_riskBy_37 ?_
      refine g_ilet X (fun v4 => ?_)
      refine g_istore_n X dX8_riskBy_38 rfl (by decide) rfl [1, 2, 3, 0, 4] (lu := [(0, .ref (ad 119)), (1, .ref (ad 20)), (2, .int b2), (3, .int v4), (4, .int x4)]) rfl ?_
      refine g_iinc X (k := 4) (v := (x4 + 1)) dX8_riskBy_39 rfl (ii_1 _) (by decide) rfl [1, 2, 3, 4, 0] (lu := [(0, .ref (ad 119)), (1, .ref (ad 20)), (2, .int b2), (3, .int v4), (4, .int (x4 + 1))]) rfl ?_
      refine g_goto X 5 (by decide) dX8_riskBy_42 ?_
      exact ih v4 (x4 + 1)
set_option maxRecDepth 100000 in
set_option maxHeartbeats 4000000 in
theorem tTour_riskBy {l : Launch} {D : va_G} {cy : Nat → ClassId} {ad : Nat → Nat} {N : Mem} (M : Mem) (a2 : Int32) {x : Int32} (h : fTour_riskBy M a2 = some x) : Mt l D cy ad yX8_riskBy cX8_riskBy 5 (some .int) 6 [.ref (ad 119), .ref (ad 20), .int a2] ((wfC N) M) (some (.int x), (wfC N) M) := by
  refine met_of (fin := (finI M)) (lv0 := [(0, .ref (ad 119)), (1, .ref (ad 20)), (2, .int a2)]) (by decide) (Nat.le_of_ble_eq_true rfl) rfl (lC N) h (fun p e s m args below meth c X hr => ?_)
  unfold fTour_riskBy
  refine g_iconst X dX8_riskBy_0 ic_0 ?_
  refine g_istore_n X dX8_riskBy_1 rfl (by decide) rfl [1, 2, 3, 0] (lu := [(0, .ref (ad 119)), (1, .ref (ad 20)), (2, .int a2), (3, .int 0)]) rfl ?_
  refine g_iconst X dX8_riskBy_2 ic_0 ?_
  refine g_istore X dX8_riskBy_3 (by decide) rfl [1, 2, 3, 4, 0] (lu := [(0, .ref (ad 119)), (1, .ref (ad 20)), (2, .int a2), (3, .int 0), (4, .int 0)]) rfl ?_
  exact LTour_riskBy_L5  X hr M a2    FU 0 0
set_option maxRecDepth 100000 in
set_option maxHeartbeats 4000000 in
theorem LTour_hopeless_L4 {l : Launch} {D : va_G} {cy : Nat → ClassId} {ad : Nat → Nat} {N : Mem} {p : Program} {e : Env} {s : State} {m : MethodId} {args : Array Value} {below : List Frame} {meth : Method} {c : Code} (X : Cx p s m args meth c cX8_hopeless 4 RX8 D cy ad (AA ad) (wfC N) sdC) (hr : meth.sig.returnType = (some .int)) (M : Mem) : ∀ (n : Nat) (x2 : Int32) (x3 : Int32), GF p l e (Rm 5) s m args below meth c 4 D cy ad (AA ad) 0 0 (wfC N) (QM D cy ad (wfC N) below args s) (finI M) (fTour_hopeless_L4 M n x2 x3) 4 [(0, .ref (ad 119)), (1, .ref (ad 20)), (2, .int x2), (3, .int x3)] [] M := by
  intro n
  induction n with
  | zero => intro x2 x3; exact g_none
  | succ n ih =>
    intro x2 x3
    rw [fTour_hopeless_L4]
    refine g_iload_n X dX8_hopeless_4 3 rfl rfl ?_
    refine g_aload_n X dX8_hopeless_5 0 rfl rfl ?_
    refine get_8_2 X (k := 119) k_119 s_119 m_2_15 dX8_hopeless_6 ?_
    refine g_icmp_ge X 39 (by decide) dX8_hopeless_9 (fun q9 => ?_) (fun q9 => ?_)
    · refine g_iload_n X dX8_hopeless_39 2 rfl rfl ?_
      exact g_iret X hr rfl dX8_hopeless_40
    · refine g_iload_n X dX8_hopeless_12 2 rfl rfl ?_
      refine g_aload_n X dX8_hopeless_13 1 rfl rfl ?_
      refine g_aload_n X dX8_hopeless_14 1 rfl rfl ?_
      refine get_1_0 X (k := 20) k_20 s_20 m_1_175 dX8_hopeless_15 ?_
      refine g_aload_n X dX8_hopeless_18 0 rfl rfl ?_
      refine get_8_0 X (k := 119) k_119 s_119 m_2_10 dX8_hopeless_19 ?_
      refine g_iload_n X dX8_hopeless_22 3 rfl rfl ?_
      refine g_iald X (n := 20) (k := 120) k_120 s_120 dX8_hopeless_23 (fun h1 => ?_)
      refine g_aald24 X (k := 21) k_21 s_21 dX8_hopeless_24 (fun h2 => ?_)
      refine g_ci X (st := [.int x2]) (fun _ hh => ok_V X (k0 := 20) (As := [.ref (ad ((ix (M.1 120 (ix x3))) + 22))]) wkX1_isHopeless (tLake_isHopeless M (ix (M.1 120 (ix x3))) (inb_lt h2) hh) rfl k_20 s_20 (by decide) rfl m_4_64 rfl (hRm (by decide) (by decide)) ⟨Nat.zero_le _, Nat.zero_le _⟩ (Nat.le_of_ble_eq_true rfl) dX8_hopeless_25) (fun r3 _ => ?_)
      refine g_ct X (v0 := .int (fc_toNumberT M r3)) (st := [.int x2]) (ok_N X (As := [.int r3]) wkX10_toNumber (tc_toNumberT M r3) rfl m_4_65 rfl (hRm (by decide) (by decide)) ⟨Nat.zero_le _, Nat.zero_le _⟩ (Nat.le_of_ble_eq_true rfl) dX8_hopeless_28) ?_
      refine g_iadd X dX8_hopeless_31 ?_
      refine g_ilet X (fun v4 => ?_)
      refine g_istore_n X dX8_hopeless_32 rfl (by decide) rfl [1, 2, 0, 3] (lu := [(0, .ref (ad 119)), (1, .ref (ad 20)), (2, .int v4), (3, .int x3)]) rfl ?_
      refine g_iinc X (k := 3) (v := (x3 + 1)) dX8_hopeless_33 rfl (ii_1 _) (by decide) rfl [1, 2, 3, 0] (lu := [(0, .ref (ad 119)), (1, .ref (ad 20)), (2, .int v4), (3, .int (x3 + 1))]) rfl ?_
      refine g_goto X 4 (by decide) dX8_hopeless_36 ?_
      exact ih v4 (x3 + 1)
set_option maxRecDepth 100000 in
set_option maxHeartbeats 4000000 in
theorem tTour_hopeless {l : Launch} {D : va_G} {cy : Nat → ClassId} {ad : Nat → Nat} {N : Mem} (M : Mem) {x : Int32} (h : fTour_hopeless M = some x) : Mt l D cy ad yX8_hopeless cX8_hopeless 4 (some .int) 5 [.ref (ad 119), .ref (ad 20)] ((wfC N) M) (some (.int x), (wfC N) M) := by
  refine met_of (fin := (finI M)) (lv0 := [(0, .ref (ad 119)), (1, .ref (ad 20))]) (by decide) (Nat.le_of_ble_eq_true rfl) rfl (lC N) h (fun p e s m args below meth c X hr => ?_)
  unfold fTour_hopeless
  refine g_iconst X dX8_hopeless_0 ic_0 ?_
  refine g_istore_n X dX8_hopeless_1 rfl (by decide) rfl [1, 2, 0] (lu := [(0, .ref (ad 119)), (1, .ref (ad 20)), (2, .int 0)]) rfl ?_
  refine g_iconst X dX8_hopeless_2 ic_0 ?_
  refine g_istore_n X dX8_hopeless_3 rfl (by decide) rfl [1, 2, 3, 0] (lu := [(0, .ref (ad 119)), (1, .ref (ad 20)), (2, .int 0), (3, .int 0)]) rfl ?_
  exact LTour_hopeless_L4  X hr M    FU 0 0
set_option maxRecDepth 100000 in
set_option maxHeartbeats 4000000 in
theorem tc_round {l : Launch} {D : va_G} {cy : Nat → ClassId} {ad : Nat → Nat} {N : Mem} (M : Mem) (a1 : Int32) (a2 : Int32) (a3 : Int32) (a4 : Int32) {x : (Int32 × Mem)} (h : fc_round M a1 a2 a3 a4 = some x) : Mt l D cy ad yX10_round cX10_round 6 (some .int) 7 [.ref (ad 0), .int a1, .int a2, .int a3, .int a4] ((wfC N) M) (some (.int x.1), (wfC N) x.2) := by
  refine met_of (fin := finS) (lv0 := [(0, .ref (ad 0)), (1, .int a1), (2, .int a2), (3, .int a3), (4, .int a4)]) (by decide) (Nat.le_of_ble_eq_true rfl) rfl (lC N) h (fun p e s m args below meth c X hr => ?_)
  unfold fc_round
  refine g_aload_n X dX10_round_0 0 rfl rfl ?_
  refine g_iload_n X dX10_round_1 1 rfl rfl ?_
  refine g_ct X (v0 := .int (fc_isLeaperT M a1)) (st := []) (ok_V X (k0 := 0) (As := [.int a1]) wkX10_isLeaper (tc_isLeaperT M a1) rfl k_0 s_0 (by decide) rfl m_3_225 rfl (hRm (by decide) (by decide)) ⟨Nat.zero_le _, Nat.zero_le _⟩ (Nat.le_of_ble_eq_true rfl) dX10_round_2) ?_
  refine g_if_eq X 18 (by decide) dX10_round_5 (fun q5 => ?_) (fun q5 => ?_)
  · refine g_aload_n X dX10_round_18 0 rfl rfl ?_
    refine g_bipush X dX10_round_19 bi_m2 ?_
    refine g_cs X (st := []) (fun _ hh => ok_V X (k0 := 0) (As := [.int (-2)]) wkX10_refuse (tc_refuse M (-2) hh) rfl k_0 s_0 (by decide) rfl m_2_173 rfl (hRm (by decide) (by decide)) ⟨Nat.zero_le _, Nat.zero_le _⟩ (Nat.le_of_ble_eq_true rfl) dX10_round_21) (fun r2 M1 _ => ?_)
    exact g_iret X hr rfl dX10_round_24
  · refine g_iload X dX10_round_8 4 rfl ?_
    refine g_iconst X dX10_round_10 ic_0 ?_
    refine g_iconst X dX10_round_11 ic_2 ?_
    refine g_ct X (v0 := .int (fc_isWithinT M a4 0 2)) (st := []) (ok_S X (As := [.int a4, .int 0, .int 2]) wkX10_isWithin (tc_isWithinT M a4 0 2) rfl m_2_170 rfl (hRm (by decide) (by decide)) ⟨Nat.zero_le _, Nat.zero_le _⟩ (Nat.le_of_ble_eq_true rfl) dX10_round_12) ?_
    refine g_if_ne X 25 (by decide) dX10_round_15 (fun q15 => ?_) (fun q15 => ?_)
    · refine g_aload_n X dX10_round_25 0 rfl rfl ?_
      refine g_iload_n X dX10_round_26 2 rfl rfl ?_
      refine g_iload_n X dX10_round_27 3 rfl rfl ?_
      refine g_ci X (st := []) (fun _ hh => ok_V X (k0 := 0) (As := [.int a2, .int a3]) wkX10_roundTrouble (tc_roundTrouble M a2 a3 hh) rfl k_0 s_0 (by decide) rfl m_4_48 rfl (hRm (by decide) (by decide)) ⟨Nat.zero_le _, Nat.zero_le _⟩ (Nat.le_of_ble_eq_true rfl) dX10_round_28) (fun r3 _ => ?_)
      refine g_istore X dX10_round_31 (by decide) rfl [1, 2, 3, 4, 5, 0] (lu := [(0, .ref (ad 0)), (1, .int a1), (2, .int a2), (3, .int a3), (4, .int a4), (5, .int r3)]) rfl ?_
      refine g_iload X dX10_round_33 5 rfl ?_
      refine g_if_eq X 45 (by decide) dX10_round_35 (fun q35 => ?_) (fun q35 => ?_)
      · refine g_aload_n X dX10_round_45 0 rfl rfl ?_
        refine g_aload_n X dX10_round_46 0 rfl rfl ?_
        refine get_10_6 X (k := 0) k_0 s_0 m_2_132 dX10_round_47 ?_
        refine g_iload_n X dX10_round_50 2 rfl rfl ?_
        refine g_iload_n X dX10_round_51 3 rfl rfl ?_
        refine g_cv X (st := []) (fun _ hh => ok_V X (k0 := 0) (As := [.ref (ad 119), .int a2, .int a3]) wkX10_readTour (tc_readTour M a2 a3 hh) rfl k_0 s_0 (by decide) rfl m_4_56 rfl (hRm (by decide) (by decide)) ⟨Nat.zero_le _, Nat.zero_le _⟩ (Nat.le_of_ble_eq_true rfl) dX10_round_52) (fun M4 _ => ?_)
        refine g_iload X dX10_round_55 4 rfl ?_
        refine g_iconst X dX10_round_57 ic_2 ?_
        refine g_icmp_ne X 73 (by decide) dX10_round_58 (fun q58 => ?_) (fun q58 => ?_)
        · refine g_aload_n X dX10_round_73 0 rfl rfl ?_
          refine get_10_6 X (k := 0) k_0 s_0 m_2_132 dX10_round_74 ?_
          refine g_aload_n X dX10_round_77 0 rfl rfl ?_
          refine get_10_2 X (k := 0) k_0 s_0 m_2_128 dX10_round_78 ?_
          refine g_aload_n X dX10_round_81 0 rfl rfl ?_
          refine get_10_2 X (k := 0) k_0 s_0 m_2_128 dX10_round_82 ?_
          refine g_ci X (st := [.ref (ad 20), .ref (ad 119)]) (fun _ hh => ok_V X (k0 := 20) (As := []) wkX1_speed (tLake_speed M4 hh) rfl k_20 s_20 (by decide) rfl m_3_48 rfl (hRm (by decide) (by decide)) ⟨Nat.zero_le _, Nat.zero_le _⟩ (Nat.le_of_ble_eq_true rfl) dX10_round_85) (fun r5 _ => ?_)
          refine g_iconst X dX10_round_88 ic_m1 ?_
          refine g_cv X (st := []) (fun _ hh => ok_V X (k0 := 119) (As := [.ref (ad 20), .int r5, .int (-1)]) wkX8_sail (tTour_sail M4 r5 (-1) hh) rfl k_119 s_119 (by decide) rfl m_4_66 rfl (hRm (by decide) (by decide)) ⟨Nat.zero_le _, Nat.zero_le _⟩ (Nat.le_of_ble_eq_true rfl) dX10_round_89) (fun M6 _ => ?_)
          refine g_iload X dX10_round_92 4 rfl ?_
          refine g_if_ne X 112 (by decide) dX10_round_94 (fun q94 => ?_) (fun q94 => ?_)
          · refine g_aload_n X dX10_round_112 0 rfl rfl ?_
            refine get_10_6 X (k := 0) k_0 s_0 m_2_132 dX10_round_113 ?_
            refine g_ci X (st := []) (fun _ hh => ok_V X (k0 := 119) (As := []) wkX8_end (tTour_end M6 hh) rfl k_119 s_119 (by decide) rfl m_4_79 rfl (hRm (by decide) (by decide)) ⟨Nat.zero_le _, Nat.zero_le _⟩ (Nat.le_of_ble_eq_true rfl) dX10_round_116) (fun r7 _ => ?_)
            exact g_iret X hr rfl dX10_round_119
          · refine g_aload_n X dX10_round_97 0 rfl rfl ?_
            refine get_10_6 X (k := 0) k_0 s_0 m_2_132 dX10_round_98 ?_
            refine g_aload_n X dX10_round_101 0 rfl rfl ?_
            refine get_10_2 X (k := 0) k_0 s_0 m_2_128 dX10_round_102 ?_
            refine g_iload_n X dX10_round_105 1 rfl rfl ?_
            refine g_ci X (st := []) (fun _ hh => ok_V X (k0 := 119) (As := [.ref (ad 20), .int a1]) wkX8_riskBy (tTour_riskBy M6 a1 hh) rfl k_119 s_119 (by decide) rfl m_4_71 rfl (hRm (by decide) (by decide)) ⟨Nat.zero_le _, Nat.zero_le _⟩ (Nat.le_of_ble_eq_true rfl) dX10_round_106) (fun r8 _ => ?_)
            refine g_goto X 119 (by decide) dX10_round_109 ?_
            exact g_iret X hr rfl dX10_round_119
        · refine g_aload_n X dX10_round_61 0 rfl rfl ?_
          refine get_10_6 X (k := 0) k_0 s_0 m_2_132 dX10_round_62 ?_
          refine g_aload_n X dX10_round_65 0 rfl rfl ?_
          refine get_10_2 X (k := 0) k_0 s_0 m_2_128 dX10_round_66 ?_
          refine g_ci X (st := []) (fun _ hh => ok_V X (k0 := 119) (As := [.ref (ad 20)]) wkX8_hopeless (tTour_hopeless M4 hh) rfl k_119 s_119 (by decide) rfl m_4_60 rfl (hRm (by decide) (by decide)) ⟨Nat.zero_le _, Nat.zero_le _⟩ (Nat.le_of_ble_eq_true rfl) dX10_round_69) (fun r9 _ => ?_)
          exact g_iret X hr rfl dX10_round_72
      · refine g_aload_n X dX10_round_38 0 rfl rfl ?_
        refine g_iload X dX10_round_39 5 rfl ?_
        refine g_cs X (st := []) (fun _ hh => ok_V X (k0 := 0) (As := [.int r3]) wkX10_refuse (tc_refuse M r3 hh) rfl k_0 s_0 (by decide) rfl m_2_173 rfl (hRm (by decide) (by decide)) ⟨Nat.zero_le _, Nat.zero_le _⟩ (Nat.le_of_ble_eq_true rfl) dX10_round_41) (fun r11 M10 _ => ?_)
        exact g_iret X hr rfl dX10_round_44
    · refine g_aload_n X dX10_round_18 0 rfl rfl ?_
      refine g_bipush X dX10_round_19 bi_m2 ?_
      refine g_cs X (st := []) (fun _ hh => ok_V X (k0 := 0) (As := [.int (-2)]) wkX10_refuse (tc_refuse M (-2) hh) rfl k_0 s_0 (by decide) rfl m_2_173 rfl (hRm (by decide) (by decide)) ⟨Nat.zero_le _, Nat.zero_le _⟩ (Nat.le_of_ble_eq_true rfl) dX10_round_21) (fun r13 M12 _ => ?_)
      exact g_iret X hr rfl dX10_round_24
