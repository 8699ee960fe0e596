set_option maxRecDepth 100000 in
set_option maxHeartbeats 4000000 in
theorem tc_isBelow {l : Launch} {D : va_G} {cy : Nat → ClassId} {ad : Nat → Nat} {N : Mem} (M : Mem) (a0 : Int32) (a1 : Int32) {x : Int32} (h : fc_isBelow M a0 a1 = some x) : Mt l D cy ad yX10_isBelow cX10_isBelow 2 (some .boolean) 1 [.int a0, .int a1] ((wfC N) M) (some (.int x), (wfC N) M) := by
  refine met_of (fin := (finI M)) (lv0 := [(0, .int a0), (1, .int a1)]) (by decide) (Nat.le_of_ble_eq_true rfl) rfl (lC N) h (fun p e s m args below meth c X hr => ?_)
  unfold fc_isBelow
  refine g_iload_n X dX10_isBelow_0 0 rfl rfl ?_
  refine g_if_lt X 13 (by decide) dX10_isBelow_1 (fun q1 => ?_) (fun q1 => ?_)
  · refine g_iconst X dX10_isBelow_13 ic_0 ?_
    exact g_zret X hr (isB_n (by decide)) rfl dX10_isBelow_14
  · refine g_iload_n X dX10_isBelow_4 0 rfl rfl ?_
    refine g_iload_n X dX10_isBelow_5 1 rfl rfl ?_
    refine g_icmp_ge X 13 (by decide) dX10_isBelow_6 (fun q6 => ?_) (fun q6 => ?_)
    · refine g_iconst X dX10_isBelow_13 ic_0 ?_
      exact g_zret X hr (isB_n (by decide)) rfl dX10_isBelow_14
    · refine g_iconst X dX10_isBelow_9 ic_1 ?_
      refine g_goto X 14 (by decide) dX10_isBelow_10 ?_
      exact g_zret X hr (isB_n (by decide)) rfl dX10_isBelow_14
theorem tc_isBelowT {l : Launch} {D : va_G} {cy : Nat → ClassId} {ad : Nat → Nat} {N : Mem} (M : Mem) (a0 : Int32) (a1 : Int32) : Mt l D cy ad yX10_isBelow cX10_isBelow 2 (some .boolean) 1 [.int a0, .int a1] ((wfC N) M) (some (.int (fc_isBelowT M a0 a1)), (wfC N) M) := tc_isBelow M a0 a1 (fc_isBelowE M a0 a1)
set_option maxRecDepth 100000 in
set_option maxHeartbeats 4000000 in
theorem tc_isShelf {l : Launch} {D : va_G} {cy : Nat → ClassId} {ad : Nat → Nat} {N : Mem} (M : Mem) (a0 : Int32) {x : Int32} (h : fc_isShelf M a0 = some x) : Mt l D cy ad yX10_isShelf cX10_isShelf 1 (some .boolean) 2 [.int a0] ((wfC N) M) (some (.int x), (wfC N) M) := by
  refine met_of (fin := (finI M)) (lv0 := [(0, .int a0)]) (by decide) (Nat.le_of_ble_eq_true rfl) rfl (lC N) h (fun p e s m args below meth c X hr => ?_)
  unfold fc_isShelf
  refine g_iload_n X dX10_isShelf_0 0 rfl rfl ?_
  refine g_bipush X dX10_isShelf_1 bi_8 ?_
  refine g_ct X (v0 := .int (fc_isBelowT M a0 8)) (st := []) (ok_S X (As := [.int a0, .int 8]) wkX10_isBelow (tc_isBelowT M a0 8) rfl m_2_167 rfl (hRm (by decide) (by decide)) ⟨Nat.zero_le _, Nat.zero_le _⟩ (Nat.le_of_ble_eq_true rfl) dX10_isShelf_3) ?_
  exact g_zret X hr (isB_n (fc_isBelowB M a0 8)) rfl dX10_isShelf_6
theorem tc_isShelfT {l : Launch} {D : va_G} {cy : Nat → ClassId} {ad : Nat → Nat} {N : Mem} (M : Mem) (a0 : Int32) : Mt l D cy ad yX10_isShelf cX10_isShelf 1 (some .boolean) 2 [.int a0] ((wfC N) M) (some (.int (fc_isShelfT M a0)), (wfC N) M) := tc_isShelf M a0 (fc_isShelfE M a0)
set_option maxRecDepth 100000 in
set_option maxHeartbeats 4000000 in
theorem tc_refuse {l : Launch} {D : va_G} {cy : Nat → ClassId} {ad : Nat → Nat} {N : Mem} (M : Mem) (a1 : Int32) {x : (Int32 × Mem)} (h : fc_refuse M a1 = some x) : Mt l D cy ad yX10_refuse cX10_refuse 3 (some .int) 2 [.ref (ad 0), .int a1] ((wfC N) M) (some (.int x.1), (wfC N) x.2) := by
  refine met_of (fin := finS) (lv0 := [(0, .ref (ad 0)), (1, .int a1)]) (by decide) (Nat.le_of_ble_eq_true rfl) rfl (lC N) h (fun p e s m args below meth c X hr => ?_)
  unfold fc_refuse
  refine g_bipush X dX10_refuse_0 bi_m2 ?_
  refine g_iload_n X dX10_refuse_2 1 rfl rfl ?_
  refine g_isub X dX10_refuse_3 ?_
  refine g_ilet X (fun v1 => ?_)
  refine g_istore_n X dX10_refuse_4 rfl (by decide) rfl [1, 2, 0] (lu := [(0, .ref (ad 0)), (1, .int a1), (2, .int v1)]) rfl ?_
  refine g_iload_n X dX10_refuse_5 2 rfl rfl ?_
  refine g_iconst X dX10_refuse_6 ic_5 ?_
  refine g_ct X (v0 := .int (fc_isBelowT M v1 5)) (st := []) (ok_S X (As := [.int v1, .int 5]) wkX10_isBelow (tc_isBelowT M v1 5) rfl m_2_167 rfl (hRm (by decide) (by decide)) ⟨Nat.zero_le _, Nat.zero_le _⟩ (Nat.le_of_ble_eq_true rfl) dX10_refuse_7) ?_
  refine g_if_eq X 23 (by decide) dX10_refuse_10 (fun q10 => ?_) (fun q10 => ?_)
  · refine g_iload_n X dX10_refuse_23 1 rfl rfl ?_
    exact g_iret X hr rfl dX10_refuse_24
  · refine g_aload_n X dX10_refuse_13 0 rfl rfl ?_
    refine get_10_5 X (k := 0) k_0 s_0 m_2_131 dX10_refuse_14 ?_
    refine g_iload_n X dX10_refuse_17 2 rfl rfl ?_
    refine g_dup2 X dX10_refuse_18 rfl rfl ?_
    refine g_iald X (n := 5) (k := 118) k_118 s_118 dX10_refuse_19 (fun h2 => ?_)
    refine g_iconst X dX10_refuse_20 ic_1 ?_
    refine g_iadd X dX10_refuse_21 ?_
    refine g_iast X (n := 5) (k := 118) k_118 s_118 dX10_refuse_22 (fun h3 => ?_)
    refine g_mlet X (fun M4 => ?_)
    refine g_iload_n X dX10_refuse_23 1 rfl rfl ?_
    exact g_iret X hr rfl dX10_refuse_24
set_option maxRecDepth 100000 in
set_option maxHeartbeats 4000000 in
theorem tc_isWithin {l : Launch} {D : va_G} {cy : Nat → ClassId} {ad : Nat → Nat} {N : Mem} (M : Mem) (a0 : Int32) (a1 : Int32) (a2 : Int32) {x : Int32} (h : fc_isWithin M a0 a1 a2 = some x) : Mt l D cy ad yX10_isWithin cX10_isWithin 3 (some .boolean) 1 [.int a0, .int a1, .int a2] ((wfC N) M) (some (.int x), (wfC N) M) := by
  refine met_of (fin := (finI M)) (lv0 := [(0, .int a0), (1, .int a1), (2, .int a2)]) (by decide) (Nat.le_of_ble_eq_true rfl) rfl (lC N) h (fun p e s m args below meth c X hr => ?_)
  unfold fc_isWithin
  refine g_iload_n X dX10_isWithin_0 0 rfl rfl ?_
  refine g_iload_n X dX10_isWithin_1 1 rfl rfl ?_
  refine g_icmp_lt X 14 (by decide) dX10_isWithin_2 (fun q2 => ?_) (fun q2 => ?_)
  · refine g_iconst X dX10_isWithin_14 ic_0 ?_
    exact g_zret X hr (isB_n (by decide)) rfl dX10_isWithin_15
  · refine g_iload_n X dX10_isWithin_5 0 rfl rfl ?_
    refine g_iload_n X dX10_isWithin_6 2 rfl rfl ?_
    refine g_icmp_gt X 14 (by decide) dX10_isWithin_7 (fun q7 => ?_) (fun q7 => ?_)
    · refine g_iconst X dX10_isWithin_14 ic_0 ?_
      exact g_zret X hr (isB_n (by decide)) rfl dX10_isWithin_15
    · refine g_iconst X dX10_isWithin_10 ic_1 ?_
      refine g_goto X 15 (by decide) dX10_isWithin_11 ?_
      exact g_zret X hr (isB_n (by decide)) rfl dX10_isWithin_15
theorem tc_isWithinT {l : Launch} {D : va_G} {cy : Nat → ClassId} {ad : Nat → Nat} {N : Mem} (M : Mem) (a0 : Int32) (a1 : Int32) (a2 : Int32) : Mt l D cy ad yX10_isWithin cX10_isWithin 3 (some .boolean) 1 [.int a0, .int a1, .int a2] ((wfC N) M) (some (.int (fc_isWithinT M a0 a1 a2)), (wfC N) M) := tc_isWithin M a0 a1 a2 (fc_isWithinE M a0 a1 a2)
set_option maxRecDepth 100000 in
set_option maxHeartbeats 4000000 in
theorem LShelf_takeRow_L17 {l : Launch} {D : va_G} {cy : Nat → ClassId} {ad : Nat → Nat} {N : Mem} {p : Program} {e : Env} {s : State} {m : MethodId} {args : Array Value} {below : List Frame} {meth : Method} {c : Code} (X : Cx p s m args meth c cX5_takeRow 4 RX5 D cy ad (AA ad) (wfC N) sdC) (hr : meth.sig.returnType = none) (b0 : Nat) (hb0 : b0 < 8) : ∀ (n : Nat) (x3 : Int32) (M : Mem), GF p l e (Rm 1) s m args below meth c 4 D cy ad (AA ad) 0 0 (wfC N) (QM D cy ad (wfC N) below args s) finV (fShelf_takeRow_L17 b0 n x3 M) 17 [(0, .ref (ad (b0 + 2))), (3, .int x3)] [] M := by
  intro n
  induction n with
  | zero => intro x3 M; exact g_none
  | succ n ih =>
    intro x3 M
    rw [fShelf_takeRow_L17]
    refine g_iload_n X dX5_takeRow_17 1 rfl rfl ?_
    refine g_aload_n X dX5_takeRow_18 0 rfl rfl ?_
    refine get_5_3 X (k := b0 + 2) (kf_2 _ hb0) (sf_2 _ hb0) m_2_114 dX5_takeRow_19 ?_
    refine g_alenL X (k := b0 + 10) (v0 := 40) rfl (kf_10 _ hb0) (sf_10 _ hb0) dX5_takeRow_22 ?_
    refine g_icmp_ge X 39 (by decide) dX5_takeRow_23 (fun q23 => ?_) (fun q23 => ?_)
    · exact g_vret X hr rfl dX5_takeRow_39
    · refine g_aload_n X dX5_takeRow_26 0 rfl rfl ?_
      refine get_5_3 X (k := b0 + 2) (kf_2 _ hb0) (sf_2 _ hb0) m_2_114 dX5_takeRow_27 ?_
      refine g_iload_n X dX5_takeRow_30 1 rfl rfl ?_
      refine g_lconst X (v := 0) dX5_takeRow_31 (by decide) ?_
      refine g_last22 X (k := b0 + 10) (kf_10 _ hb0) (sf_10 _ hb0) dX5_takeRow_32 (fun h4 => ?_)
      refine g_mlet X (fun M5 => ?_)
      refine g_iinc X (k := 1) (v := (x3 + 1)) dX5_takeRow_33 rfl (ii_1 _) (by decide) rfl [1, 0] (lu := [(0, .ref (ad (b0 + 2))), (3, .int (x3 + 1))]) rfl ?_
      refine g_goto X 17 (by decide) dX5_takeRow_36 ?_
      exact ih (x3 + 1) M5
set_option maxRecDepth 100000 in
set_option maxHeartbeats 4000000 in
theorem tShelf_takeRow {l : Launch} {D : va_G} {cy : Nat → ClassId} {ad : Nat → Nat} {N : Mem} (M : Mem) (a0 : Nat) (a1 : Int32) (a2 : Int32) (ha0 : a0 < 8) {x : Mem} (h : fShelf_takeRow M a0 a1 a2 = some x) : Mt l D cy ad yX5_takeRow cX5_takeRow 4 none 1 [.ref (ad (a0 + 2)), .int a1, .int a2] ((wfC N) M) (none, (wfC N) x) := by
  refine met_of (fin := finV) (lv0 := [(0, .ref (ad (a0 + 2))), (1, .int a1), (2, .int a2)]) (by decide) (Nat.le_of_ble_eq_true rfl) rfl (lC N) h (fun p e s m args below meth c X hr => ?_)
  unfold fShelf_takeRow
  refine g_aload_n X dX5_takeRow_0 0 rfl rfl ?_
  refine g_iload_n X dX5_takeRow_1 1 rfl rfl ?_
  refine put_5_0 X (k := a0 + 2) (kf_2 _ ha0) (sf_2 _ ha0) m_2_108 dX5_takeRow_2 ?_
  refine g_mlet X (fun M1 => ?_)
  refine g_aload_n X dX5_takeRow_5 0 rfl rfl ?_
  refine g_iload_n X dX5_takeRow_6 2 rfl rfl ?_
  refine put_5_1 X (k := a0 + 2) (kf_2 _ ha0) (sf_2 _ ha0) m_2_110 dX5_takeRow_7 ?_
  refine g_mlet X (fun M2 => ?_)
  refine g_aload_n X dX5_takeRow_10 0 rfl rfl ?_
  refine g_iconst X dX5_takeRow_11 ic_m1 ?_
  refine put_5_2 X (k := a0 + 2) (kf_2 _ ha0) (sf_2 _ ha0) m_2_112 dX5_takeRow_12 ?_
  refine g_mlet X (fun M3 => ?_)
  refine g_iconst X dX5_takeRow_15 ic_0 ?_
  refine g_istore_n X dX5_takeRow_16 rfl (by decide) rfl [1, 0] (lu := [(0, .ref (ad (a0 + 2))), (3, .int 0)]) rfl ?_
  exact LShelf_takeRow_L17  X hr a0 ha0   FU 0 M3
set_option maxRecDepth 100000 in
set_option maxHeartbeats 4000000 in
theorem tc_row {l : Launch} {D : va_G} {cy : Nat → ClassId} {ad : Nat → Nat} {N : Mem} (M : Mem) (a1 : Int32) (a2 : Int32) (a3 : Int32) {x : (Int32 × Mem)} (h : fc_row M a1 a2 a3 = some x) : Mt l D cy ad yX10_row cX10_row 4 (some .int) 3 [.ref (ad 0), .int a1, .int a2, .int a3] ((wfC N) M) (some (.int x.1), (wfC N) x.2) := by
  refine met_of (fin := finS) (lv0 := [(0, .ref (ad 0)), (1, .int a1), (2, .int a2), (3, .int a3)]) (by decide) (Nat.le_of_ble_eq_true rfl) rfl (lC N) h (fun p e s m args below meth c X hr => ?_)
  unfold fc_row
  refine g_iload_n X dX10_row_0 1 rfl rfl ?_
  refine g_ct X (v0 := .int (fc_isShelfT M a1)) (st := []) (ok_S X (As := [.int a1]) wkX10_isShelf (tc_isShelfT M a1) rfl m_2_164 rfl (hRm (by decide) (by decide)) ⟨Nat.zero_le _, Nat.zero_le _⟩ (Nat.le_of_ble_eq_true rfl) dX10_row_1) ?_
  refine g_if_eq X 25 (by decide) dX10_row_4 (fun q4 => ?_) (fun q4 => ?_)
  · refine g_aload_n X dX10_row_25 0 rfl rfl ?_
    refine g_bipush X dX10_row_26 bi_m2 ?_
    refine g_cs X (st := []) (fun _ hh => ok_V X (k0 := 0) (As := [.int (-2)]) wkX10_refuse (tc_refuse M (-2) hh) rfl k_0 s_0 (by decide) rfl m_2_173 rfl (hRm (by decide) (by decide)) ⟨Nat.zero_le _, Nat.zero_le _⟩ (Nat.le_of_ble_eq_true rfl) dX10_row_28) (fun r2 M1 _ => ?_)
    exact g_iret X hr rfl dX10_row_31
  · refine g_iload_n X dX10_row_7 2 rfl rfl ?_
    refine g_iconst X dX10_row_8 ic_5 ?_
    refine g_ct X (v0 := .int (fc_isBelowT M a2 5)) (st := []) (ok_S X (As := [.int a2, .int 5]) wkX10_isBelow (tc_isBelowT M a2 5) rfl m_2_167 rfl (hRm (by decide) (by decide)) ⟨Nat.zero_le _, Nat.zero_le _⟩ (Nat.le_of_ble_eq_true rfl) dX10_row_9) ?_
    refine g_if_eq X 25 (by decide) dX10_row_12 (fun q12 => ?_) (fun q12 => ?_)
    · refine g_aload_n X dX10_row_25 0 rfl rfl ?_
      refine g_bipush X dX10_row_26 bi_m2 ?_
      refine g_cs X (st := []) (fun _ hh => ok_V X (k0 := 0) (As := [.int (-2)]) wkX10_refuse (tc_refuse M (-2) hh) rfl k_0 s_0 (by decide) rfl m_2_173 rfl (hRm (by decide) (by decide)) ⟨Nat.zero_le _, Nat.zero_le _⟩ (Nat.le_of_ble_eq_true rfl) dX10_row_28) (fun r4 M3 _ => ?_)
      exact g_iret X hr rfl dX10_row_31
    · refine g_iload_n X dX10_row_15 3 rfl rfl ?_
      refine g_iconst X dX10_row_16 ic_0 ?_
      refine g_bipush X dX10_row_17 bi_40 ?_
      refine g_ct X (v0 := .int (fc_isWithinT M a3 0 40)) (st := []) (ok_S X (As := [.int a3, .int 0, .int 40]) wkX10_isWithin (tc_isWithinT M a3 0 40) rfl m_2_170 rfl (hRm (by decide) (by decide)) ⟨Nat.zero_le _, Nat.zero_le _⟩ (Nat.le_of_ble_eq_true rfl) dX10_row_19) ?_
      refine g_if_ne X 32 (by decide) dX10_row_22 (fun q22 => ?_) (fun q22 => ?_)
      · refine g_aload_n X dX10_row_32 0 rfl rfl ?_
        refine get_10_0 X (k := 0) k_0 s_0 m_2_126 dX10_row_33 ?_
        refine g_iload_n X dX10_row_36 1 rfl rfl ?_
        refine g_aald27 X (k := 1) k_1 s_1 dX10_row_37 (fun h5 => ?_)
        refine g_iload_n X dX10_row_38 2 rfl rfl ?_
        refine g_iload_n X dX10_row_39 3 rfl rfl ?_
        refine g_cv X (st := []) (fun _ hh => ok_V X (k0 := (ix a1) + 2) (As := [.int a2, .int a3]) wkX5_takeRow (tShelf_takeRow M (ix a1) a2 a3 (inb_lt h5) hh) rfl (kf_2 _ (inb_lt h5)) (sf_2 _ (inb_lt h5)) (by decide) rfl m_2_177 rfl (hRm (by decide) (by decide)) ⟨Nat.zero_le _, Nat.zero_le _⟩ (Nat.le_of_ble_eq_true rfl) dX10_row_40) (fun M6 _ => ?_)
        refine g_iconst X dX10_row_43 ic_1 ?_
        exact g_iret X hr rfl dX10_row_44
      · refine g_aload_n X dX10_row_25 0 rfl rfl ?_
        refine g_bipush X dX10_row_26 bi_m2 ?_
        refine g_cs X (st := []) (fun _ hh => ok_V X (k0 := 0) (As := [.int (-2)]) wkX10_refuse (tc_refuse M (-2) hh) rfl k_0 s_0 (by decide) rfl m_2_173 rfl (hRm (by decide) (by decide)) ⟨Nat.zero_le _, Nat.zero_le _⟩ (Nat.le_of_ble_eq_true rfl) dX10_row_28) (fun r8 M7 _ => ?_)
        exact g_iret X hr rfl dX10_row_31
set_option maxRecDepth 100000 in
set_option maxHeartbeats 4000000 in
theorem tShelf_isEmpty {l : Launch} {D : va_G} {cy : Nat → ClassId} {ad : Nat → Nat} {N : Mem} (M : Mem) (a0 : Nat) (ha0 : a0 < 8) {x : Int32} (h : fShelf_isEmpty M a0 = some x) : Mt l D cy ad yX5_isEmpty cX5_isEmpty 1 (some .boolean) 1 [.ref (ad (a0 + 2))] ((wfC N) M) (some (.int x), (wfC N) M) := by
  refine met_of (fin := (finI M)) (lv0 := [(0, .ref (ad (a0 + 2)))]) (by decide) (Nat.le_of_ble_eq_true rfl) rfl (lC N) h (fun p e s m args below meth c X hr => ?_)
  unfold fShelf_isEmpty
  refine g_aload_n X dX5_isEmpty_0 0 rfl rfl ?_
  refine get_5_0 X (k := a0 + 2) (kf_2 _ ha0) (sf_2 _ ha0) m_2_108 dX5_isEmpty_1 ?_
  refine g_iconst X dX5_isEmpty_4 ic_m1 ?_
  refine g_icmp_ne X 20 (by decide) dX5_isEmpty_5 (fun q5 => ?_) (fun q5 => ?_)
  · refine g_iconst X dX5_isEmpty_20 ic_0 ?_
    exact g_zret X hr (isB_n (by decide)) rfl dX5_isEmpty_21
  · refine g_aload_n X dX5_isEmpty_8 0 rfl rfl ?_
    refine get_5_2 X (k := a0 + 2) (kf_2 _ ha0) (sf_2 _ ha0) m_2_112 dX5_isEmpty_9 ?_
    refine g_iconst X dX5_isEmpty_12 ic_m1 ?_
    refine g_icmp_ne X 20 (by decide) dX5_isEmpty_13 (fun q13 => ?_) (fun q13 => ?_)
    · refine g_iconst X dX5_isEmpty_20 ic_0 ?_
      exact g_zret X hr (isB_n (by decide)) rfl dX5_isEmpty_21
    · refine g_iconst X dX5_isEmpty_16 ic_1 ?_
      refine g_goto X 21 (by decide) dX5_isEmpty_17 ?_
      exact g_zret X hr (isB_n (by decide)) rfl dX5_isEmpty_21
theorem tShelf_isEmptyT {l : Launch} {D : va_G} {cy : Nat → ClassId} {ad : Nat → Nat} {N : Mem} (M : Mem) (a0 : Nat) (ha0 : a0 < 8) : Mt l D cy ad yX5_isEmpty cX5_isEmpty 1 (some .boolean) 1 [.ref (ad (a0 + 2))] ((wfC N) M) (some (.int (fShelf_isEmptyT M a0)), (wfC N) M) := tShelf_isEmpty M a0 ha0 (fShelf_isEmptyE M a0)
set_option maxRecDepth 100000 in
set_option maxHeartbeats 4000000 in
theorem tc_rowTrouble {l : Launch} {D : va_G} {cy : Nat → ClassId} {ad : Nat → Nat} {N : Mem} (M : Mem) (a1 : Int32) (a2 : Int32) {x : Int32} (h : fc_rowTrouble M a1 a2 = some x) : Mt l D cy ad yX10_rowTrouble cX10_rowTrouble 3 (some .int) 3 [.ref (ad 0), .int a1, .int a2] ((wfC N) M) (some (.int x), (wfC N) M) := by
  refine met_of (fin := (finI M)) (lv0 := [(0, .ref (ad 0)), (1, .int a1), (2, .int a2)]) (by decide) (Nat.le_of_ble_eq_true rfl) rfl (lC N) h (fun p e s m args below meth c X hr => ?_)
  unfold fc_rowTrouble
  refine g_iload_n X dX10_rowTrouble_0 1 rfl rfl ?_
  refine g_ct X (v0 := .int (fc_isShelfT M a1)) (st := []) (ok_S X (As := [.int a1]) wkX10_isShelf (tc_isShelfT M a1) rfl m_2_164 rfl (hRm (by decide) (by decide)) ⟨Nat.zero_le _, Nat.zero_le _⟩ (Nat.le_of_ble_eq_true rfl) dX10_rowTrouble_1) ?_
  refine g_if_eq X 14 (by decide) dX10_rowTrouble_4 (fun q4 => ?_) (fun q4 => ?_)
  · refine g_bipush X dX10_rowTrouble_14 bi_m2 ?_
    exact g_iret X hr rfl dX10_rowTrouble_16
  · refine g_iload_n X dX10_rowTrouble_7 2 rfl rfl ?_
    refine g_ct X (v0 := .int (fc_isShelfT M a2)) (st := []) (ok_S X (As := [.int a2]) wkX10_isShelf (tc_isShelfT M a2) rfl m_2_164 rfl (hRm (by decide) (by decide)) ⟨Nat.zero_le _, Nat.zero_le _⟩ (Nat.le_of_ble_eq_true rfl) dX10_rowTrouble_8) ?_
    refine g_if_ne X 17 (by decide) dX10_rowTrouble_11 (fun q11 => ?_) (fun q11 => ?_)
    · refine g_aload_n X dX10_rowTrouble_17 0 rfl rfl ?_
      refine get_10_0 X (k := 0) k_0 s_0 m_2_126 dX10_rowTrouble_18 ?_
      refine g_iload_n X dX10_rowTrouble_21 1 rfl rfl ?_
      refine g_aald27 X (k := 1) k_1 s_1 dX10_rowTrouble_22 (fun h1 => ?_)
      refine get_5_2 X (k := (ix a1) + 2) (kf_2 _ (inb_lt h1)) (sf_2 _ (inb_lt h1)) m_2_113 dX10_rowTrouble_23 ?_
      refine g_iconst X dX10_rowTrouble_26 ic_m1 ?_
      refine g_icmp_ne X 43 (by decide) dX10_rowTrouble_27 (fun q27 => ?_) (fun q27 => ?_)
      · refine g_bipush X dX10_rowTrouble_43 bi_m3 ?_
        exact g_iret X hr rfl dX10_rowTrouble_45
      · refine g_aload_n X dX10_rowTrouble_30 0 rfl rfl ?_
        refine get_10_0 X (k := 0) k_0 s_0 m_2_126 dX10_rowTrouble_31 ?_
        refine g_iload_n X dX10_rowTrouble_34 2 rfl rfl ?_
        refine g_aald27 X (k := 1) k_1 s_1 dX10_rowTrouble_35 (fun h2 => ?_)
        refine get_5_2 X (k := (ix a2) + 2) (kf_2 _ (inb_lt h2)) (sf_2 _ (inb_lt h2)) m_2_113 dX10_rowTrouble_36 ?_
        refine g_iconst X dX10_rowTrouble_39 ic_m1 ?_
        refine g_icmp_eq X 46 (by decide) dX10_rowTrouble_40 (fun q40 => ?_) (fun q40 => ?_)
        · refine g_aload_n X dX10_rowTrouble_46 0 rfl rfl ?_
          refine get_10_0 X (k := 0) k_0 s_0 m_2_126 dX10_rowTrouble_47 ?_
          refine g_iload_n X dX10_rowTrouble_50 1 rfl rfl ?_
          refine g_aald27 X (k := 1) k_1 s_1 dX10_rowTrouble_51 (fun h3 => ?_)
          refine g_ct X (v0 := .int (fShelf_isEmptyT M (ix a1))) (st := []) (ok_V X (k0 := (ix a1) + 2) (As := []) wkX5_isEmpty (tShelf_isEmptyT M (ix a1) (inb_lt h3)) rfl (kf_2 _ (inb_lt h3)) (sf_2 _ (inb_lt h3)) (by decide) rfl m_2_189 rfl (hRm (by decide) (by decide)) ⟨Nat.zero_le _, Nat.zero_le _⟩ (Nat.le_of_ble_eq_true rfl) dX10_rowTrouble_52) ?_
          refine g_if_ne X 70 (by decide) dX10_rowTrouble_55 (fun q55 => ?_) (fun q55 => ?_)
          · refine g_bipush X dX10_rowTrouble_70 bi_m4 ?_
            refine g_goto X 76 (by decide) dX10_rowTrouble_72 ?_
            exact g_iret X hr rfl dX10_rowTrouble_76
          · refine g_aload_n X dX10_rowTrouble_58 0 rfl rfl ?_
            refine get_10_0 X (k := 0) k_0 s_0 m_2_126 dX10_rowTrouble_59 ?_
            refine g_iload_n X dX10_rowTrouble_62 2 rfl rfl ?_
            refine g_aald27 X (k := 1) k_1 s_1 dX10_rowTrouble_63 (fun h4 => ?_)
            refine g_ct X (v0 := .int (fShelf_isEmptyT M (ix a2))) (st := []) (ok_V X (k0 := (ix a2) + 2) (As := []) wkX5_isEmpty (tShelf_isEmptyT M (ix a2) (inb_lt h4)) rfl (kf_2 _ (inb_lt h4)) (sf_2 _ (inb_lt h4)) (by decide) rfl m_2_189 rfl (hRm (by decide) (by decide)) ⟨Nat.zero_le _, Nat.zero_le _⟩ (Nat.le_of_ble_eq_true rfl) dX10_rowTrouble_64) ?_
            refine g_if_eq X 75 (by decide) dX10_rowTrouble_67 (fun q67 => ?_) (fun q67 => ?_)
            · refine g_iconst X dX10_rowTrouble_75 ic_0 ?_
              exact g_iret X hr rfl dX10_rowTrouble_76
            · refine g_bipush X dX10_rowTrouble_70 bi_m4 ?_
              refine g_goto X 76 (by decide) dX10_rowTrouble_72 ?_
              exact g_iret X hr rfl dX10_rowTrouble_76
        · refine g_bipush X dX10_rowTrouble_43 bi_m3 ?_
          exact g_iret X hr rfl dX10_rowTrouble_45
    · refine g_bipush X dX10_rowTrouble_14 bi_m2 ?_
      exact g_iret X hr rfl dX10_rowTrouble_16
set_option maxRecDepth 100000 in
set_option maxHeartbeats 4000000 in
theorem tShelf_lowestBits {l : Launch} {D : va_G} {cy : Nat → ClassId} {ad : Nat → Nat} {N : Mem} (M : Mem) (a0 : Nat) (a1 : Int64) (ha0 : a0 < 8) {x : Int64} (h : fShelf_lowestBits M a0 a1 = some x) : Mt l D cy ad yX5_lowestBits cX5_lowestBits 3 (some .long) 1 [.ref (ad (a0 + 2)), .long a1] ((wfC N) M) (some (.long x), (wfC N) M) := by
  refine met_of (fin := (finJ M)) (lv0 := [(0, .ref (ad (a0 + 2))), (1, .long a1)]) (by decide) (Nat.le_of_ble_eq_true rfl) rfl (lC N) h (fun p e s m args below meth c X hr => ?_)
  unfold fShelf_lowestBits
  refine g_aload_n X dX5_lowestBits_0 0 rfl rfl ?_
  refine get_5_0 X (k := a0 + 2) (kf_2 _ ha0) (sf_2 _ ha0) m_2_108 dX5_lowestBits_1 ?_
  refine g_ifc X (fun q4_0 => ?_) (fun q4_0 => ?_)
  · refine g_swI X (v0 := 0) (tgt := 36) (off := 32) q4_0 (by decide) (by decide) (by decide) dX5_lowestBits_4 ?_
    refine g_lload_n X dX5_lowestBits_36 1 rfl rfl ?_
    refine g_l2i X dX5_lowestBits_37 ?_
    refine g_i2b X dX5_lowestBits_38 ?_
    refine g_i2l X dX5_lowestBits_39 ?_
    exact g_lret X hr rfl dX5_lowestBits_40
  ·
    refine g_ifc X (fun q4_1 => ?_) (fun q4_1 => ?_)
    · refine g_swI X (v0 := 1) (tgt := 41) (off := 37) q4_1 (by decide) (by decide) (by decide) dX5_lowestBits_4 ?_
      refine g_lload_n X dX5_lowestBits_41 1 rfl rfl ?_
      refine g_l2i X dX5_lowestBits_42 ?_
      refine g_i2s X dX5_lowestBits_43 ?_
      refine g_i2l X dX5_lowestBits_44 ?_
      exact g_lret X hr rfl dX5_lowestBits_45
    ·
      refine g_ifc X (fun q4_2 => ?_) (fun q4_2 => ?_)
      · refine g_swI X (v0 := 2) (tgt := 46) (off := 42) q4_2 (by decide) (by decide) (by decide) dX5_lowestBits_4 ?_
        refine g_lload_n X dX5_lowestBits_46 1 rfl rfl ?_
        refine g_l2i X dX5_lowestBits_47 ?_
        refine g_i2l X dX5_lowestBits_48 ?_
        exact g_lret X hr rfl dX5_lowestBits_49
      ·
        refine g_ifc X (fun q4_3 => ?_) (fun q4_3 => ?_)
        · refine g_swI X (v0 := 3) (tgt := 50) (off := 46) q4_3 (by decide) (by decide) (by decide) dX5_lowestBits_4 ?_
          refine g_lload_n X dX5_lowestBits_50 1 rfl rfl ?_
          exact g_lret X hr rfl dX5_lowestBits_51
        ·
          refine g_swO X (tgt := 52) dX5_lowestBits_4 (fun n h1 h2 hx => by
              rcases (show n = 0 ∨ n = 1 ∨ n = 2 ∨ n = 3 by omega) with rfl | rfl | rfl | rfl
              · exact absurd hx q4_0
              · exact absurd hx q4_1
              · exact absurd hx q4_2
              · exact absurd hx q4_3) (by decide) ?_
          refine g_lload_n X dX5_lowestBits_52 1 rfl rfl ?_
          refine g_lconst X (v := 0) dX5_lowestBits_53 (by decide) ?_
          refine g_lcmp X dX5_lowestBits_54 ?_
          refine g_if_eq X 62 (by decide) dX5_lowestBits_55 (fun q55 => ?_) (fun q55 => ?_)
          · refine g_lconst X (v := 0) dX5_lowestBits_62 (by decide) ?_
            exact g_lret X hr rfl dX5_lowestBits_63
          · refine g_lconst X (v := 1) dX5_lowestBits_58 (by decide) ?_
            refine g_goto X 63 (by decide) dX5_lowestBits_59 ?_
            exact g_lret X hr rfl dX5_lowestBits_63
set_option maxRecDepth 100000 in
set_option maxHeartbeats 4000000 in
theorem tShelf_put {l : Launch} {D : va_G} {cy : Nat → ClassId} {ad : Nat → Nat} {N : Mem} (M : Mem) (a0 : Nat) (a1 : Int32) (a2 : Int64) (ha0 : a0 < 8) {x : Mem} (h : fShelf_put M a0 a1 a2 = some x) : Mt l D cy ad yX5_put cX5_put 4 none 2 [.ref (ad (a0 + 2)), .int a1, .long a2] ((wfC N) M) (none, (wfC N) x) := by
  refine met_of (fin := finV) (lv0 := [(0, .ref (ad (a0 + 2))), (1, .int a1), (2, .long a2)]) (by decide) (Nat.le_of_ble_eq_true rfl) rfl (lC N) h (fun p e s m args below meth c X hr => ?_)
  unfold fShelf_put
  refine g_iload_n X dX5_put_0 1 rfl rfl ?_
  refine g_aload_n X dX5_put_1 0 rfl rfl ?_
  refine get_5_1 X (k := a0 + 2) (kf_2 _ ha0) (sf_2 _ ha0) m_2_110 dX5_put_2 ?_
  refine g_ct X (v0 := .int (fc_isBelowT M a1 (M.1 (a0 + 2) 1))) (st := []) (ok_N X (As := [.int a1, .int (M.1 (a0 + 2) 1)]) wkX10_isBelow (tc_isBelowT M a1 (M.1 (a0 + 2) 1)) rfl m_2_197 rfl (hRm (by decide) (by decide)) ⟨Nat.zero_le _, Nat.zero_le _⟩ (Nat.le_of_ble_eq_true rfl) dX5_put_5) ?_
  refine g_if_eq X 22 (by decide) dX5_put_8 (fun q8 => ?_) (fun q8 => ?_)
  · exact g_vret X hr rfl dX5_put_22
  · refine g_aload_n X dX5_put_11 0 rfl rfl ?_
    refine get_5_3 X (k := a0 + 2) (kf_2 _ ha0) (sf_2 _ ha0) m_2_114 dX5_put_12 ?_
    refine g_iload_n X dX5_put_15 1 rfl rfl ?_
    refine g_aload_n X dX5_put_16 0 rfl rfl ?_
    refine g_lload_n X dX5_put_17 2 rfl rfl ?_
    refine g_cl X (st := [.int a1, .ref (ad (a0 + 10))]) (fun _ hh => ok_V X (k0 := a0 + 2) (As := [.long a2]) wkX5_lowestBits (tShelf_lowestBits M a0 a2 ha0 hh) rfl (kf_2 _ ha0) (sf_2 _ ha0) (by decide) rfl m_2_198 rfl (hRm (by decide) (by decide)) ⟨Nat.zero_le _, Nat.zero_le _⟩ (Nat.le_of_ble_eq_true rfl) dX5_put_18) (fun r1 _ => ?_)
    refine g_last22 X (k := a0 + 10) (kf_10 _ ha0) (sf_10 _ ha0) dX5_put_21 (fun h2 => ?_)
    refine g_mlet X (fun M3 => ?_)
    exact g_vret X hr rfl dX5_put_22
set_option maxRecDepth 100000 in
set_option maxHeartbeats 4000000 in
theorem tc_set {l : Launch} {D : va_G} {cy : Nat → ClassId} {ad : Nat → Nat} {N : Mem} (M : Mem) (a1 : Int32) (a2 : Int32) (a3 : Int64) {x : (Int32 × Mem)} (h : fc_set M a1 a2 a3 = some x) : Mt l D cy ad yX10_set cX10_set 6 (some .int) 4 [.ref (ad 0), .int a1, .int a2, .long a3] ((wfC N) M) (some (.int x.1), (wfC N) x.2) := by
  refine met_of (fin := finS) (lv0 := [(0, .ref (ad 0)), (1, .int a1), (2, .int a2), (3, .long a3)]) (by decide) (Nat.le_of_ble_eq_true rfl) rfl (lC N) h (fun p e s m args below meth c X hr => ?_)
  unfold fc_set
  refine g_aload_n X dX10_set_0 0 rfl rfl ?_
  refine g_iload_n X dX10_set_1 1 rfl rfl ?_
  refine g_iload_n X dX10_set_2 1 rfl rfl ?_
  refine g_ci X (st := []) (fun _ hh => ok_V X (k0 := 0) (As := [.int a1, .int a1]) wkX10_rowTrouble (tc_rowTrouble M a1 a1 hh) rfl k_0 s_0 (by decide) rfl m_2_185 rfl (hRm (by decide) (by decide)) ⟨Nat.zero_le _, Nat.zero_le _⟩ (Nat.le_of_ble_eq_true rfl) dX10_set_3) (fun r1 _ => ?_)
  refine g_istore X dX10_set_6 (by decide) rfl [1, 2, 3, 4, 0] (lu := [(0, .ref (ad 0)), (1, .int a1), (2, .int a2), (3, .long a3), (5, .int r1)]) rfl ?_
  refine g_iload X dX10_set_8 4 rfl ?_
  refine g_if_eq X 20 (by decide) dX10_set_10 (fun q10 => ?_) (fun q10 => ?_)
  · refine g_iload_n X dX10_set_20 2 rfl rfl ?_
    refine g_aload_n X dX10_set_21 0 rfl rfl ?_
    refine get_10_0 X (k := 0) k_0 s_0 m_2_126 dX10_set_22 ?_
    refine g_iload_n X dX10_set_25 1 rfl rfl ?_
    refine g_aald27 X (k := 1) k_1 s_1 dX10_set_26 (fun h2 => ?_)
    refine get_5_1 X (k := (ix a1) + 2) (kf_2 _ (inb_lt h2)) (sf_2 _ (inb_lt h2)) m_2_111 dX10_set_27 ?_
    refine g_ct X (v0 := .int (fc_isBelowT M a2 (M.1 ((ix a1) + 2) 1))) (st := []) (ok_S X (As := [.int a2, .int (M.1 ((ix a1) + 2) 1)]) wkX10_isBelow (tc_isBelowT M a2 (M.1 ((ix a1) + 2) 1)) rfl m_2_167 rfl (hRm (by decide) (by decide)) ⟨Nat.zero_le _, Nat.zero_le _⟩ (Nat.le_of_ble_eq_true rfl) dX10_set_30) ?_
    refine g_if_ne X 43 (by decide) dX10_set_33 (fun q33 => ?_) (fun q33 => ?_)
    · refine g_aload_n X dX10_set_43 0 rfl rfl ?_
      refine get_10_0 X (k := 0) k_0 s_0 m_2_126 dX10_set_44 ?_
      refine g_iload_n X dX10_set_47 1 rfl rfl ?_
      refine g_aald27 X (k := 1) k_1 s_1 dX10_set_48 (fun h3 => ?_)
      refine g_iload_n X dX10_set_49 2 rfl rfl ?_
      refine g_lload_n X dX10_set_50 3 rfl rfl ?_
      refine g_cv X (st := []) (fun _ hh => ok_V X (k0 := (ix a1) + 2) (As := [.int a2, .long a3]) wkX5_put (tShelf_put M (ix a1) a2 a3 (inb_lt h3) hh) rfl (kf_2 _ (inb_lt h3)) (sf_2 _ (inb_lt h3)) (by decide) rfl m_2_193 rfl (hRm (by decide) (by decide)) ⟨Nat.zero_le _, Nat.zero_le _⟩ (Nat.le_of_ble_eq_true rfl) dX10_set_51) (fun M4 _ => ?_)
      refine g_iconst X dX10_set_54 ic_1 ?_
      exact g_iret X hr rfl dX10_set_55
    · refine g_aload_n X dX10_set_36 0 rfl rfl ?_
      refine g_bipush X dX10_set_37 bi_m2 ?_
      refine g_cs X (st := []) (fun _ hh => ok_V X (k0 := 0) (As := [.int (-2)]) wkX10_refuse (tc_refuse M (-2) hh) rfl k_0 s_0 (by decide) rfl m_2_173 rfl (hRm (by decide) (by decide)) ⟨Nat.zero_le _, Nat.zero_le _⟩ (Nat.le_of_ble_eq_true rfl) dX10_set_39) (fun r6 M5 _ => ?_)
      exact g_iret X hr rfl dX10_set_42
  · refine g_aload_n X dX10_set_13 0 rfl rfl ?_
    refine g_iload X dX10_set_14 4 rfl ?_
    refine g_cs X (st := []) (fun _ hh => ok_V X (k0 := 0) (As := [.int r1]) wkX10_refuse (tc_refuse M r1 hh) rfl k_0 s_0 (by decide) rfl m_2_173 rfl (hRm (by decide) (by decide)) ⟨Nat.zero_le _, Nat.zero_le _⟩ (Nat.le_of_ble_eq_true rfl) dX10_set_16) (fun r8 M7 _ => ?_)
    exact g_iret X hr rfl dX10_set_19
set_option maxRecDepth 100000 in
set_option maxHeartbeats 4000000 in
theorem tShelf_hasPart {l : Launch} {D : va_G} {cy : Nat → ClassId} {ad : Nat → Nat} {N : Mem} (M : Mem) (a0 : Nat) (a1 : Int32) (a2 : Int32) (ha0 : a0 < 8) {x : Int32} (h : fShelf_hasPart M a0 a1 a2 = some x) : Mt l D cy ad yX5_hasPart cX5_hasPart 3 (some .boolean) 1 [.ref (ad (a0 + 2)), .int a1, .int a2] ((wfC N) M) (some (.int x), (wfC N) M) := by
  refine met_of (fin := (finI M)) (lv0 := [(0, .ref (ad (a0 + 2))), (1, .int a1), (2, .int a2)]) (by decide) (Nat.le_of_ble_eq_true rfl) rfl (lC N) h (fun p e s m args below meth c X hr => ?_)
  unfold fShelf_hasPart
  refine g_iload_n X dX5_hasPart_0 1 rfl rfl ?_
  refine g_if_lt X 30 (by decide) dX5_hasPart_1 (fun q1 => ?_) (fun q1 => ?_)
  · refine g_iconst X dX5_hasPart_30 ic_0 ?_
    exact g_zret X hr (isB_n (by decide)) rfl dX5_hasPart_31
  · refine g_iload_n X dX5_hasPart_4 2 rfl rfl ?_
    refine g_if_lt X 30 (by decide) dX5_hasPart_5 (fun q5 => ?_) (fun q5 => ?_)
    · refine g_iconst X dX5_hasPart_30 ic_0 ?_
      exact g_zret X hr (isB_n (by decide)) rfl dX5_hasPart_31
    · refine g_iload_n X dX5_hasPart_8 1 rfl rfl ?_
      refine g_aload_n X dX5_hasPart_9 0 rfl rfl ?_
      refine get_5_1 X (k := a0 + 2) (kf_2 _ ha0) (sf_2 _ ha0) m_2_110 dX5_hasPart_10 ?_
      refine g_icmp_gt X 30 (by decide) dX5_hasPart_13 (fun q13 => ?_) (fun q13 => ?_)
      · refine g_iconst X dX5_hasPart_30 ic_0 ?_
        exact g_zret X hr (isB_n (by decide)) rfl dX5_hasPart_31
      · refine g_iload_n X dX5_hasPart_16 2 rfl rfl ?_
        refine g_aload_n X dX5_hasPart_17 0 rfl rfl ?_
        refine get_5_1 X (k := a0 + 2) (kf_2 _ ha0) (sf_2 _ ha0) m_2_110 dX5_hasPart_18 ?_
        refine g_iload_n X dX5_hasPart_21 1 rfl rfl ?_
        refine g_isub X dX5_hasPart_22 ?_
        refine g_icmp_gt X 30 (by decide) dX5_hasPart_23 (fun q23 => ?_) (fun q23 => ?_)
        · refine g_iconst X dX5_hasPart_30 ic_0 ?_
          exact g_zret X hr (isB_n (by decide)) rfl dX5_hasPart_31
        · refine g_iconst X dX5_hasPart_26 ic_1 ?_
          refine g_goto X 31 (by decide) dX5_hasPart_27 ?_
          exact g_zret X hr (isB_n (by decide)) rfl dX5_hasPart_31
theorem tShelf_hasPartT {l : Launch} {D : va_G} {cy : Nat → ClassId} {ad : Nat → Nat} {N : Mem} (M : Mem) (a0 : Nat) (a1 : Int32) (a2 : Int32) (ha0 : a0 < 8) : Mt l D cy ad yX5_hasPart cX5_hasPart 3 (some .boolean) 1 [.ref (ad (a0 + 2)), .int a1, .int a2] ((wfC N) M) (some (.int (fShelf_hasPartT M a0 a1 a2)), (wfC N) M) := tShelf_hasPart M a0 a1 a2 ha0 (fShelf_hasPartE M a0 a1 a2)
set_option maxRecDepth 100000 in
set_option maxHeartbeats 4000000 in
theorem tc_copy {l : Launch} {D : va_G} {cy : Nat → ClassId} {ad : Nat → Nat} {N : Mem} (M : Mem) (a1 : Int32) (a2 : Int32) (a3 : Int32) (a4 : Int32) (a5 : Int32) {x : (Int32 × Mem)} (h : fc_copy M a1 a2 a3 a4 a5 = some x) : Mt l D cy ad yX10_copy cX10_copy 9 (some .int) 4 [.ref (ad 0), .int a1, .int a2, .int a3, .int a4, .int a5] ((wfC N) M) (some (.int x.1), (wfC N) x.2) := by
  refine met_of (fin := finS) (lv0 := [(0, .ref (ad 0)), (1, .int a1), (2, .int a2), (3, .int a3), (4, .int a4), (5, .int a5)]) (by decide) (Nat.le_of_ble_eq_true rfl) rfl (lC N) h (fun p e s m args below meth c X hr => ?_)
  unfold fc_copy
  refine g_aload_n X dX10_copy_0 0 rfl rfl ?_
  refine g_iload_n X dX10_copy_1 1 rfl rfl ?_
  refine g_iload_n X dX10_copy_2 2 rfl rfl ?_
  refine g_ci X (st := []) (fun _ hh => ok_V X (k0 := 0) (As := [.int a1, .int a2]) wkX10_rowTrouble (tc_rowTrouble M a1 a2 hh) rfl k_0 s_0 (by decide) rfl m_2_185 rfl (hRm (by decide) (by decide)) ⟨Nat.zero_le _, Nat.zero_le _⟩ (Nat.le_of_ble_eq_true rfl) dX10_copy_3) (fun r1 _ => ?_)
  refine g_istore X dX10_copy_6 (by decide) rfl [1, 2, 3, 4, 5, 6, 0] (lu := [(0, .ref (ad 0)), (1, .int a1), (2, .int a2), (3, .int a3), (4, .int a4), (5, .int a5), (6, .int r1)]) rfl ?_
  refine g_iload X dX10_copy_8 6 rfl ?_
  refine g_if_eq X 20 (by decide) dX10_copy_10 (fun q10 => ?_) (fun q10 => ?_)
  · refine g_aload_n X dX10_copy_20 0 rfl rfl ?_
    refine get_10_0 X (k := 0) k_0 s_0 m_2_126 dX10_copy_21 ?_
    refine g_iload_n X dX10_copy_24 1 rfl rfl ?_
    refine g_aald27 X (k := 1) k_1 s_1 dX10_copy_25 (fun h2 => ?_)
    refine g_astore X dX10_copy_26 (by decide) rfl [1, 3, 4, 5, 6, 0] (lu := [(0, .ref (ad 0)), (2, .int a2), (3, .int a3), (4, .int a4), (5, .int a5), (7, .ref (ad ((ix a1) + 2)))]) rfl ?_
    refine g_aload_n X dX10_copy_28 0 rfl rfl ?_
    refine get_10_0 X (k := 0) k_0 s_0 m_2_126 dX10_copy_29 ?_
    refine g_iload_n X dX10_copy_32 1 rfl rfl ?_
    refine g_aald27 X (k := 1) k_1 s_1 dX10_copy_33 (fun h3 => ?_)
    refine g_astore X dX10_copy_34 (by decide) rfl [1, 3, 4, 5, 6, 0] (lu := [(0, .ref (ad 0)), (3, .int a3), (4, .int a4), (5, .int a5), (7, .ref (ad ((ix a1) + 2))), (8, .ref (ad ((ix a2) + 2)))]) rfl ?_
    refine g_aload X dX10_copy_36 4 rfl ?_
    refine get_5_0 X (k := (ix a1) + 2) (kf_2 _ (inb_lt h2)) (sf_2 _ (inb_lt h2)) m_2_109 dX10_copy_38 ?_
    refine g_aload X dX10_copy_41 5 rfl ?_
    refine get_5_0 X (k := (ix a2) + 2) (kf_2 _ (inb_lt h3)) (sf_2 _ (inb_lt h3)) m_2_109 dX10_copy_43 ?_
    refine g_icmp_eq X 56 (by decide) dX10_copy_46 (fun q46 => ?_) (fun q46 => ?_)
    · refine g_aload X dX10_copy_56 4 rfl ?_
      refine g_iload_n X dX10_copy_58 1 rfl rfl ?_
      refine g_iload X dX10_copy_59 3 rfl ?_
      refine g_ct X (v0 := .int (fShelf_hasPartT M (ix a1) a3 a5)) (st := []) (ok_V X (k0 := (ix a1) + 2) (As := [.int a3, .int a5]) wkX5_hasPart (tShelf_hasPartT M (ix a1) a3 a5 (inb_lt h2)) rfl (kf_2 _ (inb_lt h2)) (sf_2 _ (inb_lt h2)) (by decide) rfl m_2_206 rfl (hRm (by decide) (by decide)) ⟨Nat.zero_le _, Nat.zero_le _⟩ (Nat.le_of_ble_eq_true rfl) dX10_copy_61) ?_
      refine g_if_eq X 79 (by decide) dX10_copy_64 (fun q64 => ?_) (fun q64 => ?_)
      · refine g_aload_n X dX10_copy_79 0 rfl rfl ?_
        refine g_bipush X dX10_copy_80 bi_m2 ?_
        refine g_cs X (st := []) (fun _ hh => ok_V X (k0 := 0) (As := [.int (-2)]) wkX10_refuse (tc_refuse M (-2) hh) rfl k_0 s_0 (by decide) rfl m_2_173 rfl (hRm (by decide) (by decide)) ⟨Nat.zero_le _, Nat.zero_le _⟩ (Nat.le_of_ble_eq_true rfl) dX10_copy_82) (fun r5 M4 _ => ?_)
        exact g_iret X hr rfl dX10_copy_85
      · refine g_aload X dX10_copy_67 5 rfl ?_
        refine g_iload X dX10_copy_69 2 rfl ?_
        refine g_iload X dX10_copy_71 3 rfl ?_
        refine g_ct X (v0 := .int (fShelf_hasPartT M (ix a2) a4 a5)) (st := []) (ok_V X (k0 := (ix a2) + 2) (As := [.int a4, .int a5]) wkX5_hasPart (tShelf_hasPartT M (ix a2) a4 a5 (inb_lt h3)) rfl (kf_2 _ (inb_lt h3)) (sf_2 _ (inb_lt h3)) (by decide) rfl m_2_206 rfl (hRm (by decide) (by decide)) ⟨Nat.zero_le _, Nat.zero_le _⟩ (Nat.le_of_ble_eq_true rfl) dX10_copy_73) ?_
        refine g_if_ne X 86 (by decide) dX10_copy_76 (fun q76 => ?_) (fun q76 => ?_)
        · refine g_aload X dX10_copy_86 4 rfl ?_
          refine get_5_3 X (k := (ix a1) + 2) (kf_2 _ (inb_lt h2)) (sf_2 _ (inb_lt h2)) m_2_115 dX10_copy_88 ?_
          refine g_iload_n X dX10_copy_91 1 rfl rfl ?_
          refine g_aload X dX10_copy_92 5 rfl ?_
          refine get_5_3 X (k := (ix a2) + 2) (kf_2 _ (inb_lt h3)) (sf_2 _ (inb_lt h3)) m_2_115 dX10_copy_94 ?_
          refine g_iload X dX10_copy_97 2 rfl ?_
          refine g_iload X dX10_copy_99 3 rfl ?_
          refine g_cpL X (k0 := (ix a1) + 10) (k := (ix a2) + 10) (kf_10 _ (inb_lt h2)) (sf_10 _ (inb_lt h2)) (kf_10 _ (inb_lt h3)) (sf_10 _ (inb_lt h3)) m_2_210 (hR2 (by decide) (Nat.le_of_ble_eq_true rfl)) dX10_copy_101 (fun _ => ?_)
          refine g_mlet X (fun M6 => ?_)
          refine g_iload X dX10_copy_104 3 rfl ?_
          exact g_iret X hr rfl dX10_copy_106
        · refine g_aload_n X dX10_copy_79 0 rfl rfl ?_
          refine g_bipush X dX10_copy_80 bi_m2 ?_
          refine g_cs X (st := []) (fun _ hh => ok_V X (k0 := 0) (As := [.int (-2)]) wkX10_refuse (tc_refuse M (-2) hh) rfl k_0 s_0 (by decide) rfl m_2_173 rfl (hRm (by decide) (by decide)) ⟨Nat.zero_le _, Nat.zero_le _⟩ (Nat.le_of_ble_eq_true rfl) dX10_copy_82) (fun r8 M7 _ => ?_)
          exact g_iret X hr rfl dX10_copy_85
    · refine g_aload_n X dX10_copy_49 0 rfl rfl ?_
      refine g_bipush X dX10_copy_50 bi_m3 ?_
      refine g_cs X (st := []) (fun _ hh => ok_V X (k0 := 0) (As := [.int (-3)]) wkX10_refuse (tc_refuse M (-3) hh) rfl k_0 s_0 (by decide) rfl m_2_173 rfl (hRm (by decide) (by decide)) ⟨Nat.zero_le _, Nat.zero_le _⟩ (Nat.le_of_ble_eq_true rfl) dX10_copy_52) (fun r10 M9 _ => ?_)
      exact g_iret X hr rfl dX10_copy_55
  · refine g_aload_n X dX10_copy_13 0 rfl rfl ?_
    refine g_iload X dX10_copy_14 6 rfl ?_
    refine g_cs X (st := []) (fun _ hh => ok_V X (k0 := 0) (As := [.int r1]) wkX10_refuse (tc_refuse M r1 hh) rfl k_0 s_0 (by decide) rfl m_2_173 rfl (hRm (by decide) (by decide)) ⟨Nat.zero_le _, Nat.zero_le _⟩ (Nat.le_of_ble_eq_true rfl) dX10_copy_16) (fun r12 M11 _ => ?_)
    exact g_iret X hr rfl dX10_copy_19
set_option maxRecDepth 100000 in
set_option maxHeartbeats 4000000 in
theorem tShelf_at {l : Launch} {D : va_G} {cy : Nat → ClassId} {ad : Nat → Nat} {N : Mem} (M : Mem) (a0 : Nat) (a1 : Int32) (ha0 : a0 < 8) {x : Int64} (h : fShelf_at M a0 a1 = some x) : Mt l D cy ad yX5_at cX5_at 2 (some .long) 2 [.ref (ad (a0 + 2)), .int a1] ((wfC N) M) (some (.long x), (wfC N) M) := by
  refine met_of (fin := (finJ M)) (lv0 := [(0, .ref (ad (a0 + 2))), (1, .int a1)]) (by decide) (Nat.le_of_ble_eq_true rfl) rfl (lC N) h (fun p e s m args below meth c X hr => ?_)
  unfold fShelf_at
  refine g_iload_n X dX5_at_0 1 rfl rfl ?_
  refine g_aload_n X dX5_at_1 0 rfl rfl ?_
  refine get_5_1 X (k := a0 + 2) (kf_2 _ ha0) (sf_2 _ ha0) m_2_110 dX5_at_2 ?_
  refine g_ct X (v0 := .int (fc_isBelowT M a1 (M.1 (a0 + 2) 1))) (st := []) (ok_N X (As := [.int a1, .int (M.1 (a0 + 2) 1)]) wkX10_isBelow (tc_isBelowT M a1 (M.1 (a0 + 2) 1)) rfl m_2_197 rfl (hRm (by decide) (by decide)) ⟨Nat.zero_le _, Nat.zero_le _⟩ (Nat.le_of_ble_eq_true rfl) dX5_at_5) ?_
  refine g_if_eq X 20 (by decide) dX5_at_8 (fun q8 => ?_) (fun q8 => ?_)
  · refine g_lconst X (v := 0) dX5_at_20 (by decide) ?_
    exact g_lret X hr rfl dX5_at_21
  · refine g_aload_n X dX5_at_11 0 rfl rfl ?_
    refine get_5_3 X (k := a0 + 2) (kf_2 _ ha0) (sf_2 _ ha0) m_2_114 dX5_at_12 ?_
    refine g_iload_n X dX5_at_15 1 rfl rfl ?_
    refine g_lald22 X (k := a0 + 10) (kf_10 _ ha0) (sf_10 _ ha0) dX5_at_16 (fun h1 => ?_)
    refine g_goto X 21 (by decide) dX5_at_17 ?_
    exact g_lret X hr rfl dX5_at_21
set_option maxRecDepth 100000 in
set_option maxHeartbeats 4000000 in
theorem tc_element {l : Launch} {D : va_G} {cy : Nat → ClassId} {ad : Nat → Nat} {N : Mem} (M : Mem) (a1 : Int32) (a2 : Int32) {x : Int64} (h : fc_element M a1 a2 = some x) : Mt l D cy ad yX10_element cX10_element 3 (some .long) 3 [.ref (ad 0), .int a1, .int a2] ((wfC N) M) (some (.long x), (wfC N) M) := by
  refine met_of (fin := (finJ M)) (lv0 := [(0, .ref (ad 0)), (1, .int a1), (2, .int a2)]) (by decide) (Nat.le_of_ble_eq_true rfl) rfl (lC N) h (fun p e s m args below meth c X hr => ?_)
  unfold fc_element
  refine g_iload_n X dX10_element_0 1 rfl rfl ?_
  refine g_ct X (v0 := .int (fc_isShelfT M a1)) (st := []) (ok_S X (As := [.int a1]) wkX10_isShelf (tc_isShelfT M a1) rfl m_2_164 rfl (hRm (by decide) (by decide)) ⟨Nat.zero_le _, Nat.zero_le _⟩ (Nat.le_of_ble_eq_true rfl) dX10_element_1) ?_
  refine g_if_eq X 20 (by decide) dX10_element_4 (fun q4 => ?_) (fun q4 => ?_)
  · refine g_lconst X (v := 0) dX10_element_20 (by decide) ?_
    exact g_lret X hr rfl dX10_element_21
  · refine g_aload_n X dX10_element_7 0 rfl rfl ?_
    refine get_10_0 X (k := 0) k_0 s_0 m_2_126 dX10_element_8 ?_
    refine g_iload_n X dX10_element_11 1 rfl rfl ?_
    refine g_aald27 X (k := 1) k_1 s_1 dX10_element_12 (fun h1 => ?_)
    refine g_iload_n X dX10_element_13 2 rfl rfl ?_
    refine g_cl X (st := []) (fun _ hh => ok_V X (k0 := (ix a1) + 2) (As := [.int a2]) wkX5_at (tShelf_at M (ix a1) a2 (inb_lt h1) hh) rfl (kf_2 _ (inb_lt h1)) (sf_2 _ (inb_lt h1)) (by decide) rfl m_2_215 rfl (hRm (by decide) (by decide)) ⟨Nat.zero_le _, Nat.zero_le _⟩ (Nat.le_of_ble_eq_true rfl) dX10_element_14) (fun r2 _ => ?_)
    refine g_goto X 21 (by decide) dX10_element_17 ?_
    exact g_lret X hr rfl dX10_element_21
set_option maxRecDepth 100000 in
set_option maxHeartbeats 4000000 in
theorem tc_holds {l : Launch} {D : va_G} {cy : Nat → ClassId} {ad : Nat → Nat} {N : Mem} (M : Mem) (a1 : Int32) {x : Int32} (h : fc_holds M a1 = some x) : Mt l D cy ad yX10_holds cX10_holds 3 (some .int) 3 [.ref (ad 0), .int a1] ((wfC N) M) (some (.int x), (wfC N) M) := by
  refine met_of (fin := (finI M)) (lv0 := [(0, .ref (ad 0)), (1, .int a1)]) (by decide) (Nat.le_of_ble_eq_true rfl) rfl (lC N) h (fun p e s m args below meth c X hr => ?_)
  unfold fc_holds
  refine g_iload_n X dX10_holds_0 1 rfl rfl ?_
  refine g_ct X (v0 := .int (fc_isShelfT M a1)) (st := []) (ok_S X (As := [.int a1]) wkX10_isShelf (tc_isShelfT M a1) rfl m_2_164 rfl (hRm (by decide) (by decide)) ⟨Nat.zero_le _, Nat.zero_le _⟩ (Nat.le_of_ble_eq_true rfl) dX10_holds_1) ?_
  refine g_if_ne X 9 (by decide) dX10_holds_4 (fun q4 => ?_) (fun q4 => ?_)
  · refine g_aload_n X dX10_holds_9 0 rfl rfl ?_
    refine get_10_0 X (k := 0) k_0 s_0 m_2_126 dX10_holds_10 ?_
    refine g_iload_n X dX10_holds_13 1 rfl rfl ?_
    refine g_aald27 X (k := 1) k_1 s_1 dX10_holds_14 (fun h1 => ?_)
    refine g_astore_n X dX10_holds_15 rfl (by decide) rfl [0] (lu := [(2, .ref (ad ((ix a1) + 2)))]) rfl ?_
    refine g_aload_n X dX10_holds_16 0 rfl rfl ?_
    refine get_5_2 X (k := (ix a1) + 2) (kf_2 _ (inb_lt h1)) (sf_2 _ (inb_lt h1)) m_2_113 dX10_holds_17 ?_
    refine g_iconst X dX10_holds_20 ic_m1 ?_
    refine g_icmp_ne X 31 (by decide) dX10_holds_21 (fun q21 => ?_) (fun q21 => ?_)
    · refine g_bipush X dX10_holds_31 bi_10 ?_
      refine g_aload_n X dX10_holds_33 0 rfl rfl ?_
      refine get_5_2 X (k := (ix a1) + 2) (kf_2 _ (inb_lt h1)) (sf_2 _ (inb_lt h1)) m_2_113 dX10_holds_34 ?_
      refine g_iadd X dX10_holds_37 ?_
      exact g_iret X hr rfl dX10_holds_38
    · refine g_aload_n X dX10_holds_24 0 rfl rfl ?_
      refine get_5_0 X (k := (ix a1) + 2) (kf_2 _ (inb_lt h1)) (sf_2 _ (inb_lt h1)) m_2_109 dX10_holds_25 ?_
      refine g_goto X 38 (by decide) dX10_holds_28 ?_
      exact g_iret X hr rfl dX10_holds_38
  · refine g_iconst X dX10_holds_7 ic_m1 ?_
    exact g_iret X hr rfl dX10_holds_8
set_option maxRecDepth 100000 in
set_option maxHeartbeats 4000000 in
theorem tShelf_takeJetty {l : Launch} {D : va_G} {cy : Nat → ClassId} {ad : Nat → Nat} {N : Mem} (M : Mem) (a0 : Nat) (a1 : Int32) (ha0 : a0 < 8) {x : Mem} (h : fShelf_takeJetty M a0 a1 = some x) : Mt l D cy ad yX5_takeJetty cX5_takeJetty 2 none 1 [.ref (ad (a0 + 2)), .int a1] ((wfC N) M) (none, (wfC N) x) := by
  refine met_of (fin := finV) (lv0 := [(0, .ref (ad (a0 + 2))), (1, .int a1)]) (by decide) (Nat.le_of_ble_eq_true rfl) rfl (lC N) h (fun p e s m args below meth c X hr => ?_)
  unfold fShelf_takeJetty
  refine g_aload_n X dX5_takeJetty_0 0 rfl rfl ?_
  refine g_iconst X dX5_takeJetty_1 ic_m1 ?_
  refine put_5_0 X (k := a0 + 2) (kf_2 _ ha0) (sf_2 _ ha0) m_2_108 dX5_takeJetty_2 ?_
  refine g_mlet X (fun M1 => ?_)
  refine g_aload_n X dX5_takeJetty_5 0 rfl rfl ?_
  refine g_iconst X dX5_takeJetty_6 ic_0 ?_
  refine put_5_1 X (k := a0 + 2) (kf_2 _ ha0) (sf_2 _ ha0) m_2_110 dX5_takeJetty_7 ?_
  refine g_mlet X (fun M2 => ?_)
  refine g_aload_n X dX5_takeJetty_10 0 rfl rfl ?_
  refine g_iload_n X dX5_takeJetty_11 1 rfl rfl ?_
  refine put_5_2 X (k := a0 + 2) (kf_2 _ ha0) (sf_2 _ ha0) m_2_112 dX5_takeJetty_12 ?_
  refine g_mlet X (fun M3 => ?_)
  exact g_vret X hr rfl dX5_takeJetty_15
set_option maxRecDepth 100000 in
set_option maxHeartbeats 4000000 in
theorem tc_isJetty {l : Launch} {D : va_G} {cy : Nat → ClassId} {ad : Nat → Nat} {N : Mem} (M : Mem) (a1 : Int32) {x : Int32} (h : fc_isJetty M a1 = some x) : Mt l D cy ad yX10_isJetty cX10_isJetty 2 (some .boolean) 2 [.ref (ad 0), .int a1] ((wfC N) M) (some (.int x), (wfC N) M) := by
  refine met_of (fin := (finI M)) (lv0 := [(0, .ref (ad 0)), (1, .int a1)]) (by decide) (Nat.le_of_ble_eq_true rfl) rfl (lC N) h (fun p e s m args below meth c X hr => ?_)
  unfold fc_isJetty
  refine g_iload_n X dX10_isJetty_0 1 rfl rfl ?_
  refine g_aload_n X dX10_isJetty_1 0 rfl rfl ?_
  refine get_10_2 X (k := 0) k_0 s_0 m_2_128 dX10_isJetty_2 ?_
  refine get_1_1 X (k := 20) k_20 s_20 m_1_179 dX10_isJetty_5 ?_
  refine g_ct X (v0 := .int (fc_isBelowT M a1 (M.1 20 1))) (st := []) (ok_S X (As := [.int a1, .int (M.1 20 1)]) wkX10_isBelow (tc_isBelowT M a1 (M.1 20 1)) rfl m_2_167 rfl (hRm (by decide) (by decide)) ⟨Nat.zero_le _, Nat.zero_le _⟩ (Nat.le_of_ble_eq_true rfl) dX10_isJetty_8) ?_
  exact g_zret X hr (isB_n (fc_isBelowB M a1 (M.1 20 1))) rfl dX10_isJetty_11
theorem tc_isJettyT {l : Launch} {D : va_G} {cy : Nat → ClassId} {ad : Nat → Nat} {N : Mem} (M : Mem) (a1 : Int32) : Mt l D cy ad yX10_isJetty cX10_isJetty 2 (some .boolean) 2 [.ref (ad 0), .int a1] ((wfC N) M) (some (.int (fc_isJettyT M a1)), (wfC N) M) := tc_isJetty M a1 (fc_isJettyE M a1)
set_option maxRecDepth 100000 in
set_option maxHeartbeats 4000000 in
theorem tc_show {l : Launch} {D : va_G} {cy : Nat → ClassId} {ad : Nat → Nat} {N : Mem} (M : Mem) (a1 : Int32) (a2 : Int32) {x : (Int32 × Mem)} (h : fc_show M a1 a2 = some x) : Mt l D cy ad yX10_show cX10_show 3 (some .int) 3 [.ref (ad 0), .int a1, .int a2] ((wfC N) M) (some (.int x.1), (wfC N) x.2) := by
  refine met_of (fin := finS) (lv0 := [(0, .ref (ad 0)), (1, .int a1), (2, .int a2)]) (by decide) (Nat.le_of_ble_eq_true rfl) rfl (lC N) h (fun p e s m args below meth c X hr => ?_)
  unfold fc_show
  refine g_iload_n X dX10_show_0 1 rfl rfl ?_
  refine g_ct X (v0 := .int (fc_isShelfT M a1)) (st := []) (ok_S X (As := [.int a1]) wkX10_isShelf (tc_isShelfT M a1) rfl m_2_164 rfl (hRm (by decide) (by decide)) ⟨Nat.zero_le _, Nat.zero_le _⟩ (Nat.le_of_ble_eq_true rfl) dX10_show_1) ?_
  refine g_if_eq X 20 (by decide) dX10_show_4 (fun q4 => ?_) (fun q4 => ?_)
  · refine g_aload_n X dX10_show_20 0 rfl rfl ?_
    refine g_bipush X dX10_show_21 bi_m2 ?_
    refine g_cs X (st := []) (fun _ hh => ok_V X (k0 := 0) (As := [.int (-2)]) wkX10_refuse (tc_refuse M (-2) hh) rfl k_0 s_0 (by decide) rfl m_2_173 rfl (hRm (by decide) (by decide)) ⟨Nat.zero_le _, Nat.zero_le _⟩ (Nat.le_of_ble_eq_true rfl) dX10_show_23) (fun r2 M1 _ => ?_)
    exact g_iret X hr rfl dX10_show_26
  · refine g_iload_n X dX10_show_7 2 rfl rfl ?_
    refine g_iconst X dX10_show_8 ic_m1 ?_
    refine g_icmp_eq X 27 (by decide) dX10_show_9 (fun q9 => ?_) (fun q9 => ?_)
    · refine g_aload_n X dX10_show_27 0 rfl rfl ?_
      refine get_10_0 X (k := 0) k_0 s_0 m_2_126 dX10_show_28 ?_
      refine g_iload_n X dX10_show_31 1 rfl rfl ?_
      refine g_aald27 X (k := 1) k_1 s_1 dX10_show_32 (fun h3 => ?_)
      refine g_iload_n X dX10_show_33 2 rfl rfl ?_
      refine g_cv X (st := []) (fun _ hh => ok_V X (k0 := (ix a1) + 2) (As := [.int a2]) wkX5_takeJetty (tShelf_takeJetty M (ix a1) a2 (inb_lt h3) hh) rfl (kf_2 _ (inb_lt h3)) (sf_2 _ (inb_lt h3)) (by decide) rfl m_2_231 rfl (hRm (by decide) (by decide)) ⟨Nat.zero_le _, Nat.zero_le _⟩ (Nat.le_of_ble_eq_true rfl) dX10_show_34) (fun M4 _ => ?_)
      refine g_iconst X dX10_show_37 ic_1 ?_
      exact g_iret X hr rfl dX10_show_38
    · refine g_aload_n X dX10_show_12 0 rfl rfl ?_
      refine g_iload_n X dX10_show_13 2 rfl rfl ?_
      refine g_ct X (v0 := .int (fc_isJettyT M a2)) (st := []) (ok_V X (k0 := 0) (As := [.int a2]) wkX10_isJetty (tc_isJettyT M a2) rfl k_0 s_0 (by decide) rfl m_2_227 rfl (hRm (by decide) (by decide)) ⟨Nat.zero_le _, Nat.zero_le _⟩ (Nat.le_of_ble_eq_true rfl) dX10_show_14) ?_
      refine g_if_ne X 27 (by decide) dX10_show_17 (fun q17 => ?_) (fun q17 => ?_)
      · refine g_aload_n X dX10_show_27 0 rfl rfl ?_
        refine get_10_0 X (k := 0) k_0 s_0 m_2_126 dX10_show_28 ?_
        refine g_iload_n X dX10_show_31 1 rfl rfl ?_
        refine g_aald27 X (k := 1) k_1 s_1 dX10_show_32 (fun h5 => ?_)
        refine g_iload_n X dX10_show_33 2 rfl rfl ?_
        refine g_cv X (st := []) (fun _ hh => ok_V X (k0 := (ix a1) + 2) (As := [.int a2]) wkX5_takeJetty (tShelf_takeJetty M (ix a1) a2 (inb_lt h5) hh) rfl (kf_2 _ (inb_lt h5)) (sf_2 _ (inb_lt h5)) (by decide) rfl m_2_231 rfl (hRm (by decide) (by decide)) ⟨Nat.zero_le _, Nat.zero_le _⟩ (Nat.le_of_ble_eq_true rfl) dX10_show_34) (fun M6 _ => ?_)
        refine g_iconst X dX10_show_37 ic_1 ?_
        exact g_iret X hr rfl dX10_show_38
      · refine g_aload_n X dX10_show_20 0 rfl rfl ?_
        refine g_bipush X dX10_show_21 bi_m2 ?_
        refine g_cs X (st := []) (fun _ hh => ok_V X (k0 := 0) (As := [.int (-2)]) wkX10_refuse (tc_refuse M (-2) hh) rfl k_0 s_0 (by decide) rfl m_2_173 rfl (hRm (by decide) (by decide)) ⟨Nat.zero_le _, Nat.zero_le _⟩ (Nat.le_of_ble_eq_true rfl) dX10_show_23) (fun r8 M7 _ => ?_)
        exact g_iret X hr rfl dX10_show_26
set_option maxRecDepth 100000 in
set_option maxHeartbeats 4000000 in
theorem LJetty_isOfKind_L7 {l : Launch} {D : va_G} {cy : Nat → ClassId} {ad : Nat → Nat} {N : Mem} {p : Program} {e : Env} {s : State} {m : MethodId} {args : Array Value} {below : List Frame} {meth : Method} {c : Code} (X : Cx p s m args meth c cX0_isOfKind 4 RX0 D cy ad (AA ad) (wfC N) sdC) (hr : meth.sig.returnType = (some .boolean)) (M : Mem) (b1 : Int32) : ∀ (n : Nat) (x2 : Int32) (x3 : Int32), GF p l e (Rm 2) s m args below meth c 4 D cy ad (AA ad) 0 0 (wfC N) (QM D cy ad (wfC N) below args s) (finI M) (fJetty_isOfKind_L7 M b1 n x2 x3) 7 [(1, .int b1), (2, .int x2), (3, .int x3)] [] M := by
  intro n
  induction n with
  | zero => intro x2 x3; exact g_none
  | succ n ih =>
    intro x2 x3
    rw [fJetty_isOfKind_L7]
    refine g_iload_n X dX0_isOfKind_7 2 rfl rfl ?_
    refine g_bipush X dX0_isOfKind_8 bi_6 ?_
    refine g_icmp_ge X 41 (by decide) dX0_isOfKind_10 (fun q10 => ?_) (fun q10 => ?_)
    · refine g_iconst X dX0_isOfKind_41 ic_0 ?_
      exact g_zret X hr (isB_n (by decide)) rfl dX0_isOfKind_42
    · refine g_iload_n X dX0_isOfKind_13 1 rfl rfl ?_
      refine g_bipush X dX0_isOfKind_14 bi_6 ?_
      refine g_ct X (v0 := .int (fc_isBelowT M x2 6)) (st := []) (ok_N X (As := [.int x2, .int 6]) wkX10_isBelow (tc_isBelowT M x2 6) rfl m_3_3 rfl (hRm (by decide) (by decide)) ⟨Nat.zero_le _, Nat.zero_le _⟩ (Nat.le_of_ble_eq_true rfl) dX0_isOfKind_16) ?_
      refine g_if_eq X 41 (by decide) dX0_isOfKind_19 (fun q19 => ?_) (fun q19 => ?_)
      · refine g_iconst X dX0_isOfKind_41 ic_0 ?_
        exact g_zret X hr (isB_n (by decide)) rfl dX0_isOfKind_42
      · refine g_iload_n X dX0_isOfKind_22 1 rfl rfl ?_
        refine g_iload_n X dX0_isOfKind_23 0 rfl rfl ?_
        refine g_icmp_ne X 29 (by decide) dX0_isOfKind_24 (fun q24 => ?_) (fun q24 => ?_)
        · refine g_gs3 X m_3_4 dX0_isOfKind_29 ?_
          refine g_iload_n X dX0_isOfKind_32 1 rfl rfl ?_
          refine g_sa3 X dX0_isOfKind_33 (fun h2 => ?_)
          refine g_ilet X (fun v3 => ?_)
          refine g_istore_n X dX0_isOfKind_34 rfl (by decide) rfl [1, 0, 2] (lu := [(1, .int b1), (2, .int v3), (3, .int x3)]) rfl ?_
          refine g_iinc X (k := 2) (v := (x3 + 1)) dX0_isOfKind_35 rfl (ii_1 _) (by decide) rfl [1, 2, 0] (lu := [(1, .int b1), (2, .int v3), (3, .int (x3 + 1))]) rfl ?_
          refine g_goto X 7 (by decide) dX0_isOfKind_38 ?_
          exact ih v3 (x3 + 1)
        · refine g_iconst X dX0_isOfKind_27 ic_1 ?_
          exact g_zret X hr (isB_n (by decide)) rfl dX0_isOfKind_28
set_option maxRecDepth 100000 in
set_option maxHeartbeats 4000000 in
theorem tJetty_isOfKind {l : Launch} {D : va_G} {cy : Nat → ClassId} {ad : Nat → Nat} {N : Mem} (M : Mem) (a0 : Nat) (a1 : Int32) (ha0 : a0 < 20) {x : Int32} (h : fJetty_isOfKind M a0 a1 = some x) : Mt l D cy ad yX0_isOfKind cX0_isOfKind 4 (some .boolean) 2 [.ref (ad (a0 + 22)), .int a1] ((wfC N) M) (some (.int x), (wfC N) M) := by
  refine met_of (fin := (finI M)) (lv0 := [(0, .ref (ad (a0 + 22))), (1, .int a1)]) (by decide) (Nat.le_of_ble_eq_true rfl) rfl (lC N) h (fun p e s m args below meth c X hr => ?_)
  unfold fJetty_isOfKind
  refine g_aload_n X dX0_isOfKind_0 0 rfl rfl ?_
  refine get_0_0 X (k := a0 + 22) (kf_22 _ ha0) (sf_22 _ ha0) m_1_109 dX0_isOfKind_1 ?_
  refine g_ilet X (fun v1 => ?_)
  refine g_istore_n X dX0_isOfKind_4 rfl (by decide) rfl [2, 0] (lu := [(1, .int a1), (2, .int v1)]) rfl ?_
  refine g_iconst X dX0_isOfKind_5 ic_0 ?_
  refine g_istore_n X dX0_isOfKind_6 rfl (by decide) rfl [1, 2, 0] (lu := [(1, .int a1), (2, .int v1), (3, .int 0)]) rfl ?_
  exact LJetty_isOfKind_L7  X hr M a1    FU v1 0
set_option maxRecDepth 100000 in
set_option maxHeartbeats 4000000 in
theorem tJetty_paces {l : Launch} {D : va_G} {cy : Nat → ClassId} {ad : Nat → Nat} {N : Mem} (M : Mem) (a0 : Nat) (ha0 : a0 < 20) {x : Int32} (h : fJetty_paces M a0 = some x) : Mt l D cy ad yX0_paces cX0_paces 1 (some .int) 1 [.ref (ad (a0 + 22))] ((wfC N) M) (some (.int x), (wfC N) M) := by
  refine met_of (fin := (finI M)) (lv0 := [(0, .ref (ad (a0 + 22)))]) (by decide) (Nat.le_of_ble_eq_true rfl) rfl (lC N) h (fun p e s m args below meth c X hr => ?_)
  unfold fJetty_paces
  refine g_aload_n X dX0_paces_0 0 rfl rfl ?_
  refine get_0_0 X (k := a0 + 22) (kf_22 _ ha0) (sf_22 _ ha0) m_1_109 dX0_paces_1 ?_
  refine g_ifc X (fun q4_0 => ?_) (fun q4_0 => ?_)
  · refine g_swI X (v0 := 1) (tgt := 40) (off := 36) q4_0 (by decide) (by decide) (by decide) dX0_paces_4 ?_
    refine g_iconst X dX0_paces_40 ic_2 ?_
    refine g_aload_n X dX0_paces_41 0 rfl rfl ?_
    refine get_0_2 X (k := a0 + 22) (kf_22 _ ha0) (sf_22 _ ha0) m_1_116 dX0_paces_42 ?_
    refine g_imul X dX0_paces_45 ?_
    exact g_iret X hr rfl dX0_paces_46
  ·
    refine g_ifc X (fun q4_1 => ?_) (fun q4_1 => ?_)
    · refine g_swI X (v0 := 2) (tgt := 47) (off := 43) q4_1 (by decide) (by decide) (by decide) dX0_paces_4 ?_
      refine g_iconst X dX0_paces_47 ic_2 ?_
      refine g_aload_n X dX0_paces_48 0 rfl rfl ?_
      refine get_0_2 X (k := a0 + 22) (kf_22 _ ha0) (sf_22 _ ha0) m_1_116 dX0_paces_49 ?_
      refine g_imul X dX0_paces_52 ?_
      refine g_iconst X dX0_paces_53 ic_4 ?_
      refine g_iadd X dX0_paces_54 ?_
      exact g_iret X hr rfl dX0_paces_55
    ·
      refine g_ifc X (fun q4_3 => ?_) (fun q4_3 => ?_)
      · refine g_swI X (v0 := 4) (tgt := 56) (off := 52) q4_3 (by decide) (by decide) (by decide) dX0_paces_4 ?_
        refine g_aload_n X dX0_paces_56 0 rfl rfl ?_
        refine get_0_2 X (k := a0 + 22) (kf_22 _ ha0) (sf_22 _ ha0) m_1_116 dX0_paces_57 ?_
        refine g_iconst X dX0_paces_60 ic_2 ?_
        refine g_iadd X dX0_paces_61 ?_
        exact g_iret X hr rfl dX0_paces_62
      ·
        refine g_ifc X (fun q4_4 => ?_) (fun q4_4 => ?_)
        · refine g_swI X (v0 := 5) (tgt := 63) (off := 59) q4_4 (by decide) (by decide) (by decide) dX0_paces_4 ?_
          refine g_iconst X dX0_paces_63 ic_1 ?_
          exact g_iret X hr rfl dX0_paces_64
        ·
          refine g_swO X (tgt := 65) dX0_paces_4 (fun n h1 h2 hx => by
              rcases (show n = 1 ∨ n = 2 ∨ n = 3 ∨ n = 4 ∨ n = 5 by omega) with rfl | rfl | rfl | rfl | rfl
              · exact absurd hx q4_0
              · exact absurd hx q4_1
              · exact ⟨_, rfl, by decide⟩
              · exact absurd hx q4_3
              · exact absurd hx q4_4) (by decide) ?_
          refine g_aload_n X dX0_paces_65 0 rfl rfl ?_
          refine get_0_2 X (k := a0 + 22) (kf_22 _ ha0) (sf_22 _ ha0) m_1_116 dX0_paces_66 ?_
          exact g_iret X hr rfl dX0_paces_69
theorem tJetty_pacesT {l : Launch} {D : va_G} {cy : Nat → ClassId} {ad : Nat → Nat} {N : Mem} (M : Mem) (a0 : Nat) (ha0 : a0 < 20) : Mt l D cy ad yX0_paces cX0_paces 1 (some .int) 1 [.ref (ad (a0 + 22))] ((wfC N) M) (some (.int (fJetty_pacesT M a0)), (wfC N) M) := tJetty_paces M a0 ha0 (fJetty_pacesE M a0)
set_option maxRecDepth 100000 in
set_option maxHeartbeats 4000000 in
theorem tJetty_riseAt {l : Launch} {D : va_G} {cy : Nat → ClassId} {ad : Nat → Nat} {N : Mem} (M : Mem) (a0 : Nat) (a1 : Int32) (ha0 : a0 < 20) {x : Int32} (h : fJetty_riseAt M a0 a1 = some x) : Mt l D cy ad yX0_riseAt cX0_riseAt 2 (some .int) 2 [.ref (ad (a0 + 22)), .int a1] ((wfC N) M) (some (.int x), (wfC N) M) := by
  refine met_of (fin := (finI M)) (lv0 := [(0, .ref (ad (a0 + 22))), (1, .int a1)]) (by decide) (Nat.le_of_ble_eq_true rfl) rfl (lC N) h (fun p e s m args below meth c X hr => ?_)
  unfold fJetty_riseAt
  refine g_aload_n X dX0_riseAt_0 0 rfl rfl ?_
  refine get_0_0 X (k := a0 + 22) (kf_22 _ ha0) (sf_22 _ ha0) m_1_109 dX0_riseAt_1 ?_
  refine g_ifc X (fun q4_0 => ?_) (fun q4_0 => ?_)
  · refine g_swI X (v0 := 1) (tgt := 36) (off := 32) q4_0 (by decide) (by decide) (by decide) dX0_riseAt_4 ?_
    refine g_aload_n X dX0_riseAt_36 0 rfl rfl ?_
    refine get_0_3 X (k := a0 + 22) (kf_22 _ ha0) (sf_22 _ ha0) m_1_118 dX0_riseAt_37 ?_
    refine g_iload_n X dX0_riseAt_40 1 rfl rfl ?_
    refine g_isub X dX0_riseAt_41 ?_
    refine g_bipush X dX0_riseAt_42 bi_10 ?_
    refine g_isub X dX0_riseAt_44 ?_
    exact g_iret X hr rfl dX0_riseAt_45
  ·
    refine g_ifc X (fun q4_1 => ?_) (fun q4_1 => ?_)
    · refine g_swI X (v0 := 2) (tgt := 46) (off := 42) q4_1 (by decide) (by decide) (by decide) dX0_riseAt_4 ?_
      refine g_iconst X dX0_riseAt_46 ic_0 ?_
      refine g_aload_n X dX0_riseAt_47 0 rfl rfl ?_
      refine get_0_3 X (k := a0 + 22) (kf_22 _ ha0) (sf_22 _ ha0) m_1_118 dX0_riseAt_48 ?_
      refine g_iload_n X dX0_riseAt_51 1 rfl rfl ?_
      refine g_isub X dX0_riseAt_52 ?_
      refine g_bipush X dX0_riseAt_53 bi_10 ?_
      refine g_isub X dX0_riseAt_55 ?_
      refine g_max X m_3_18 (hR1 (by decide) (Nat.le_of_ble_eq_true rfl)) ⟨Nat.zero_le _, Nat.zero_le _⟩ dX0_riseAt_56 ?_
      exact g_iret X hr rfl dX0_riseAt_59
    ·
      refine g_ifc X (fun q4_2 => ?_) (fun q4_2 => ?_)
      · refine g_swI X (v0 := 3) (tgt := 60) (off := 56) q4_2 (by decide) (by decide) (by decide) dX0_riseAt_4 ?_
        refine g_aload_n X dX0_riseAt_60 0 rfl rfl ?_
        refine get_0_3 X (k := a0 + 22) (kf_22 _ ha0) (sf_22 _ ha0) m_1_118 dX0_riseAt_61 ?_
        exact g_iret X hr rfl dX0_riseAt_64
      ·
        refine g_ifc X (fun q4_3 => ?_) (fun q4_3 => ?_)
        · refine g_swI X (v0 := 4) (tgt := 65) (off := 61) q4_3 (by decide) (by decide) (by decide) dX0_riseAt_4 ?_
          refine g_aload_n X dX0_riseAt_65 0 rfl rfl ?_
          refine get_0_3 X (k := a0 + 22) (kf_22 _ ha0) (sf_22 _ ha0) m_1_118 dX0_riseAt_66 ?_
          refine g_iconst X dX0_riseAt_69 ic_2 ?_
          refine g_idivC X dX0_riseAt_70 (by decide) ?_
          exact g_iret X hr rfl dX0_riseAt_71
        ·
          refine g_swO X (tgt := 72) dX0_riseAt_4 (fun n h1 h2 hx => by
              rcases (show n = 1 ∨ n = 2 ∨ n = 3 ∨ n = 4 by omega) with rfl | rfl | rfl | rfl
              · exact absurd hx q4_0
              · exact absurd hx q4_1
              · exact absurd hx q4_2
              · exact absurd hx q4_3) (by decide) ?_
          refine g_aload_n X dX0_riseAt_72 0 rfl rfl ?_
          refine get_0_3 X (k := a0 + 22) (kf_22 _ ha0) (sf_22 _ ha0) m_1_118 dX0_riseAt_73 ?_
          refine g_iload_n X dX0_riseAt_76 1 rfl rfl ?_
          refine g_isub X dX0_riseAt_77 ?_
          exact g_iret X hr rfl dX0_riseAt_78
theorem tJetty_riseAtT {l : Launch} {D : va_G} {cy : Nat → ClassId} {ad : Nat → Nat} {N : Mem} (M : Mem) (a0 : Nat) (a1 : Int32) (ha0 : a0 < 20) : Mt l D cy ad yX0_riseAt cX0_riseAt 2 (some .int) 2 [.ref (ad (a0 + 22)), .int a1] ((wfC N) M) (some (.int (fJetty_riseAtT M a0 a1)), (wfC N) M) := tJetty_riseAt M a0 a1 ha0 (fJetty_riseAtE M a0 a1)
set_option maxRecDepth 100000 in
set_option maxHeartbeats 4000000 in
theorem tc_toNumber {l : Launch} {D : va_G} {cy : Nat → ClassId} {ad : Nat → Nat} {N : Mem} (M : Mem) (a0 : Int32) {x : Int32} (h : fc_toNumber M a0 = some x) : Mt l D cy ad yX10_toNumber cX10_toNumber 1 (some .int) 1 [.int a0] ((wfC N) M) (some (.int x), (wfC N) M) := by
  refine met_of (fin := (finI M)) (lv0 := [(0, .int a0)]) (by decide) (Nat.le_of_ble_eq_true rfl) rfl (lC N) h (fun p e s m args below meth c X hr => ?_)
  unfold fc_toNumber
  refine g_iload_n X dX10_toNumber_0 0 rfl rfl ?_
  refine g_if_eq X 8 (by decide) dX10_toNumber_1 (fun q1 => ?_) (fun q1 => ?_)
  · refine g_iconst X dX10_toNumber_8 ic_0 ?_
    exact g_iret X hr rfl dX10_toNumber_9
  · refine g_iconst X dX10_toNumber_4 ic_1 ?_
    refine g_goto X 9 (by decide) dX10_toNumber_5 ?_
    exact g_iret X hr rfl dX10_toNumber_9
theorem tc_toNumberT {l : Launch} {D : va_G} {cy : Nat → ClassId} {ad : Nat → Nat} {N : Mem} (M : Mem) (a0 : Int32) : Mt l D cy ad yX10_toNumber cX10_toNumber 1 (some .int) 1 [.int a0] ((wfC N) M) (some (.int (fc_toNumberT M a0)), (wfC N) M) := tc_toNumber M a0 (fc_toNumberE M a0)
set_option maxRecDepth 100000 in
set_option maxHeartbeats 4000000 in
theorem tc_saying {l : Launch} {D : va_G} {cy : Nat → ClassId} {ad : Nat → Nat} {N : Mem} (M : Mem) (a1 : Nat) (a2 : Int32) (ha1 : a1 < 20) {x : Int32} (h : fc_saying M a1 a2 = some x) : Mt l D cy ad yX10_saying cX10_saying 3 (some .int) 3 [.ref (ad 0), .ref (ad (a1 + 22)), .int a2] ((wfC N) M) (some (.int x), (wfC N) M) := by
  refine met_of (fin := (finI M)) (lv0 := [(0, .ref (ad 0)), (1, .ref (ad (a1 + 22))), (2, .int a2)]) (by decide) (Nat.le_of_ble_eq_true rfl) rfl (lC N) h (fun p e s m args below meth c X hr => ?_)
  unfold fc_saying
  refine g_iload_n X dX10_saying_0 2 rfl rfl ?_
  refine g_ifc X (fun q1_0 => ?_) (fun q1_0 => ?_)
  · refine g_swI X (v0 := 1) (tgt := 36) (off := 35) q1_0 (by decide) (by decide) (by decide) dX10_saying_1 ?_
    refine g_aload_n X dX10_saying_36 1 rfl rfl ?_
    refine g_ct X (v0 := .int (fJetty_pacesT M a1)) (st := []) (ok_V X (k0 := a1 + 22) (As := []) wkX0_paces (tJetty_pacesT M a1 ha1) rfl (kf_22 _ ha1) (sf_22 _ ha1) (by decide) rfl m_3_10 rfl (hRm (by decide) (by decide)) ⟨Nat.zero_le _, Nat.zero_le _⟩ (Nat.le_of_ble_eq_true rfl) dX10_saying_37) ?_
    exact g_iret X hr rfl dX10_saying_40
  ·
    refine g_ifc X (fun q1_1 => ?_) (fun q1_1 => ?_)
    · refine g_swI X (v0 := 2) (tgt := 36) (off := 35) q1_1 (by decide) (by decide) (by decide) dX10_saying_1 ?_
      refine g_aload_n X dX10_saying_36 1 rfl rfl ?_
      refine g_ct X (v0 := .int (fJetty_pacesT M a1)) (st := []) (ok_V X (k0 := a1 + 22) (As := []) wkX0_paces (tJetty_pacesT M a1 ha1) rfl (kf_22 _ ha1) (sf_22 _ ha1) (by decide) rfl m_3_10 rfl (hRm (by decide) (by decide)) ⟨Nat.zero_le _, Nat.zero_le _⟩ (Nat.le_of_ble_eq_true rfl) dX10_saying_37) ?_
      exact g_iret X hr rfl dX10_saying_40
    ·
      refine g_ifc X (fun q1_2 => ?_) (fun q1_2 => ?_)
      · refine g_swI X (v0 := 3) (tgt := 41) (off := 40) q1_2 (by decide) (by decide) (by decide) dX10_saying_1 ?_
        refine g_aload_n X dX10_saying_41 1 rfl rfl ?_
        refine g_aload_n X dX10_saying_42 0 rfl rfl ?_
        refine get_10_2 X (k := 0) k_0 s_0 m_2_128 dX10_saying_43 ?_
        refine get_1_11 X (k := 20) k_20 s_20 m_1_200 dX10_saying_46 ?_
        refine g_ct X (v0 := .int (fJetty_riseAtT M a1 (M.1 20 12))) (st := []) (ok_V X (k0 := a1 + 22) (As := [.int (M.1 20 12)]) wkX0_riseAt (tJetty_riseAtT M a1 (M.1 20 12) ha1) rfl (kf_22 _ ha1) (sf_22 _ ha1) (by decide) rfl m_3_14 rfl (hRm (by decide) (by decide)) ⟨Nat.zero_le _, Nat.zero_le _⟩ (Nat.le_of_ble_eq_true rfl) dX10_saying_49) ?_
        exact g_iret X hr rfl dX10_saying_52
      ·
        refine g_ifc X (fun q1_3 => ?_) (fun q1_3 => ?_)
        · refine g_swI X (v0 := 4) (tgt := 41) (off := 40) q1_3 (by decide) (by decide) (by decide) dX10_saying_1 ?_
          refine g_aload_n X dX10_saying_41 1 rfl rfl ?_
          refine g_aload_n X dX10_saying_42 0 rfl rfl ?_
          refine get_10_2 X (k := 0) k_0 s_0 m_2_128 dX10_saying_43 ?_
          refine get_1_11 X (k := 20) k_20 s_20 m_1_200 dX10_saying_46 ?_
          refine g_ct X (v0 := .int (fJetty_riseAtT M a1 (M.1 20 12))) (st := []) (ok_V X (k0 := a1 + 22) (As := [.int (M.1 20 12)]) wkX0_riseAt (tJetty_riseAtT M a1 (M.1 20 12) ha1) rfl (kf_22 _ ha1) (sf_22 _ ha1) (by decide) rfl m_3_14 rfl (hRm (by decide) (by decide)) ⟨Nat.zero_le _, Nat.zero_le _⟩ (Nat.le_of_ble_eq_true rfl) dX10_saying_49) ?_
          exact g_iret X hr rfl dX10_saying_52
        ·
          refine g_ifc X (fun q1_4 => ?_) (fun q1_4 => ?_)
          · refine g_swI X (v0 := 5) (tgt := 53) (off := 52) q1_4 (by decide) (by decide) (by decide) dX10_saying_1 ?_
            refine g_aload_n X dX10_saying_53 1 rfl rfl ?_
            refine get_0_4 X (k := a1 + 22) (kf_22 _ ha1) (sf_22 _ ha1) m_1_121 dX10_saying_54 ?_
            refine g_ct X (v0 := .int (fc_toNumberT M (M.1 (a1 + 22) 4))) (st := []) (ok_S X (As := [.int (M.1 (a1 + 22) 4)]) wkX10_toNumber (tc_toNumberT M (M.1 (a1 + 22) 4)) rfl m_3_21 rfl (hRm (by decide) (by decide)) ⟨Nat.zero_le _, Nat.zero_le _⟩ (Nat.le_of_ble_eq_true rfl) dX10_saying_57) ?_
            exact g_iret X hr rfl dX10_saying_60
          ·
            refine g_swO X (tgt := 61) dX10_saying_1 (fun n h1 h2 hx => by
                rcases (show n = 1 ∨ n = 2 ∨ n = 3 ∨ n = 4 ∨ n = 5 by omega) with rfl | rfl | rfl | rfl | rfl
                · exact absurd hx q1_0
                · exact absurd hx q1_1
                · exact absurd hx q1_2
                · exact absurd hx q1_3
                · exact absurd hx q1_4) (by decide) ?_
            refine g_aload_n X dX10_saying_61 1 rfl rfl ?_
            refine get_0_1 X (k := a1 + 22) (kf_22 _ ha1) (sf_22 _ ha1) m_1_114 dX10_saying_62 ?_
            exact g_iret X hr rfl dX10_saying_65
theorem tc_sayingT {l : Launch} {D : va_G} {cy : Nat → ClassId} {ad : Nat → Nat} {N : Mem} (M : Mem) (a1 : Nat) (a2 : Int32) (ha1 : a1 < 20) : Mt l D cy ad yX10_saying cX10_saying 3 (some .int) 3 [.ref (ad 0), .ref (ad (a1 + 22)), .int a2] ((wfC N) M) (some (.int (fc_sayingT M a1 a2)), (wfC N) M) := tc_saying M a1 a2 ha1 (fc_sayingE M a1 a2)
set_option maxRecDepth 100000 in
set_option maxHeartbeats 4000000 in
theorem tc_says {l : Launch} {D : va_G} {cy : Nat → ClassId} {ad : Nat → Nat} {N : Mem} (M : Mem) (a1 : Int32) (a2 : Int32) {x : (Int32 × Mem)} (h : fc_says M a1 a2 = some x) : Mt l D cy ad yX10_says cX10_says 5 (some .int) 4 [.ref (ad 0), .int a1, .int a2] ((wfC N) M) (some (.int x.1), (wfC N) x.2) := by
  refine met_of (fin := finS) (lv0 := [(0, .ref (ad 0)), (1, .int a1), (2, .int a2)]) (by decide) (Nat.le_of_ble_eq_true rfl) rfl (lC N) h (fun p e s m args below meth c X hr => ?_)
  unfold fc_says
  refine g_iload_n X dX10_says_0 1 rfl rfl ?_
  refine g_ct X (v0 := .int (fc_isShelfT M a1)) (st := []) (ok_S X (As := [.int a1]) wkX10_isShelf (tc_isShelfT M a1) rfl m_2_164 rfl (hRm (by decide) (by decide)) ⟨Nat.zero_le _, Nat.zero_le _⟩ (Nat.le_of_ble_eq_true rfl) dX10_says_1) ?_
  refine g_if_eq X 16 (by decide) dX10_says_4 (fun q4 => ?_) (fun q4 => ?_)
  · refine g_aload_n X dX10_says_16 0 rfl rfl ?_
    refine g_bipush X dX10_says_17 bi_m2 ?_
    refine g_cs X (st := []) (fun _ hh => ok_V X (k0 := 0) (As := [.int (-2)]) wkX10_refuse (tc_refuse M (-2) hh) rfl k_0 s_0 (by decide) rfl m_2_173 rfl (hRm (by decide) (by decide)) ⟨Nat.zero_le _, Nat.zero_le _⟩ (Nat.le_of_ble_eq_true rfl) dX10_says_19) (fun r2 M1 _ => ?_)
    exact g_iret X hr rfl dX10_says_22
  · refine g_iload_n X dX10_says_7 2 rfl rfl ?_
    refine g_bipush X dX10_says_8 bi_6 ?_
    refine g_ct X (v0 := .int (fc_isBelowT M a2 6)) (st := []) (ok_S X (As := [.int a2, .int 6]) wkX10_isBelow (tc_isBelowT M a2 6) rfl m_2_167 rfl (hRm (by decide) (by decide)) ⟨Nat.zero_le _, Nat.zero_le _⟩ (Nat.le_of_ble_eq_true rfl) dX10_says_10) ?_
    refine g_if_ne X 23 (by decide) dX10_says_13 (fun q13 => ?_) (fun q13 => ?_)
    · refine g_aload_n X dX10_says_23 0 rfl rfl ?_
      refine get_10_0 X (k := 0) k_0 s_0 m_2_126 dX10_says_24 ?_
      refine g_iload_n X dX10_says_27 1 rfl rfl ?_
      refine g_aald27 X (k := 1) k_1 s_1 dX10_says_28 (fun h3 => ?_)
      refine g_astore_n X dX10_says_29 rfl (by decide) rfl [1, 3, 0] (lu := [(0, .ref (ad 0)), (2, .int a2), (3, .ref (ad ((ix a1) + 2)))]) rfl ?_
      refine g_aload_n X dX10_says_30 2 rfl rfl ?_
      refine get_5_0 X (k := (ix a1) + 2) (kf_2 _ (inb_lt h3)) (sf_2 _ (inb_lt h3)) m_2_109 dX10_says_31 ?_
      refine g_iconst X dX10_says_34 ic_m1 ?_
      refine g_icmp_eq X 45 (by decide) dX10_says_35 (fun q35 => ?_) (fun q35 => ?_)
      · refine g_aload_n X dX10_says_45 0 rfl rfl ?_
        refine g_aload_n X dX10_says_46 2 rfl rfl ?_
        refine get_5_2 X (k := (ix a1) + 2) (kf_2 _ (inb_lt h3)) (sf_2 _ (inb_lt h3)) m_2_113 dX10_says_47 ?_
        refine g_ct X (v0 := .int (fc_isJettyT M (M.1 ((ix a1) + 2) 2))) (st := []) (ok_V X (k0 := 0) (As := [.int (M.1 ((ix a1) + 2) 2)]) wkX10_isJetty (tc_isJettyT M (M.1 ((ix a1) + 2) 2)) rfl k_0 s_0 (by decide) rfl m_2_227 rfl (hRm (by decide) (by decide)) ⟨Nat.zero_le _, Nat.zero_le _⟩ (Nat.le_of_ble_eq_true rfl) dX10_says_50) ?_
        refine g_if_ne X 63 (by decide) dX10_says_53 (fun q53 => ?_) (fun q53 => ?_)
        · refine g_aload_n X dX10_says_63 0 rfl rfl ?_
          refine get_10_2 X (k := 0) k_0 s_0 m_2_128 dX10_says_64 ?_
          refine get_1_0 X (k := 20) k_20 s_20 m_1_177 dX10_says_67 ?_
          refine g_aload_n X dX10_says_70 2 rfl rfl ?_
          refine get_5_2 X (k := (ix a1) + 2) (kf_2 _ (inb_lt h3)) (sf_2 _ (inb_lt h3)) m_2_113 dX10_says_71 ?_
          refine g_aald24 X (k := 21) k_21 s_21 dX10_says_74 (fun h4 => ?_)
          refine g_astore X dX10_says_75 (by decide) rfl [1, 2, 0] (lu := [(0, .ref (ad 0)), (2, .int a2), (4, .ref (ad ((ix (M.1 ((ix a1) + 2) 2)) + 22)))]) rfl ?_
          refine g_aload X dX10_says_77 2 rfl ?_
          refine g_iload_n X dX10_says_79 1 rfl rfl ?_
          refine g_ci X (st := []) (fun _ hh => ok_V X (k0 := (ix (M.1 ((ix a1) + 2) 2)) + 22) (As := [.int a2]) wkX0_isOfKind (tJetty_isOfKind M (ix (M.1 ((ix a1) + 2) 2)) a2 (inb_lt h4) hh) rfl (kf_22 _ (inb_lt h4)) (sf_22 _ (inb_lt h4)) (by decide) rfl m_2_239 rfl (hRm (by decide) (by decide)) ⟨Nat.zero_le _, Nat.zero_le _⟩ (Nat.le_of_ble_eq_true rfl) dX10_says_80) (fun r5 _ => ?_)
          refine g_if_eq X 96 (by decide) dX10_says_83 (fun q83 => ?_) (fun q83 => ?_)
          · refine g_aload_n X dX10_says_96 0 rfl rfl ?_
            refine g_bipush X dX10_says_97 bi_m3 ?_
            refine g_cs X (st := []) (fun _ hh => ok_V X (k0 := 0) (As := [.int (-3)]) wkX10_refuse (tc_refuse M (-3) hh) rfl k_0 s_0 (by decide) rfl m_2_173 rfl (hRm (by decide) (by decide)) ⟨Nat.zero_le _, Nat.zero_le _⟩ (Nat.le_of_ble_eq_true rfl) dX10_says_99) (fun r7 M6 _ => ?_)
            exact g_iret X hr rfl dX10_says_102
          · refine g_aload_n X dX10_says_86 0 rfl rfl ?_
            refine g_aload X dX10_says_87 2 rfl ?_
            refine g_iload_n X dX10_says_89 1 rfl rfl ?_
            refine g_ct X (v0 := .int (fc_sayingT M (ix (M.1 ((ix a1) + 2) 2)) a2)) (st := []) (ok_V X (k0 := 0) (As := [.ref (ad ((ix (M.1 ((ix a1) + 2) 2)) + 22)), .int a2]) wkX10_saying (tc_sayingT M (ix (M.1 ((ix a1) + 2) 2)) a2 (inb_lt h4)) rfl k_0 s_0 (by decide) rfl m_3_6 rfl (hRm (by decide) (by decide)) ⟨Nat.zero_le _, Nat.zero_le _⟩ (Nat.le_of_ble_eq_true rfl) dX10_says_90) ?_
            refine g_goto X 102 (by decide) dX10_says_93 ?_
            exact g_iret X hr rfl dX10_says_102
        · refine g_aload_n X dX10_says_56 0 rfl rfl ?_
          refine g_bipush X dX10_says_57 bi_m4 ?_
          refine g_cs X (st := []) (fun _ hh => ok_V X (k0 := 0) (As := [.int (-4)]) wkX10_refuse (tc_refuse M (-4) hh) rfl k_0 s_0 (by decide) rfl m_2_173 rfl (hRm (by decide) (by decide)) ⟨Nat.zero_le _, Nat.zero_le _⟩ (Nat.le_of_ble_eq_true rfl) dX10_says_59) (fun r9 M8 _ => ?_)
          exact g_iret X hr rfl dX10_says_62
      · refine g_aload_n X dX10_says_38 0 rfl rfl ?_
        refine g_bipush X dX10_says_39 bi_m3 ?_
        refine g_cs X (st := []) (fun _ hh => ok_V X (k0 := 0) (As := [.int (-3)]) wkX10_refuse (tc_refuse M (-3) hh) rfl k_0 s_0 (by decide) rfl m_2_173 rfl (hRm (by decide) (by decide)) ⟨Nat.zero_le _, Nat.zero_le _⟩ (Nat.le_of_ble_eq_true rfl) dX10_says_41) (fun r11 M10 _ => ?_)
        exact g_iret X hr rfl dX10_says_44
    · refine g_aload_n X dX10_says_16 0 rfl rfl ?_
      refine g_bipush X dX10_says_17 bi_m2 ?_
      refine g_cs X (st := []) (fun _ hh => ok_V X (k0 := 0) (As := [.int (-2)]) wkX10_refuse (tc_refuse M (-2) hh) rfl k_0 s_0 (by decide) rfl m_2_173 rfl (hRm (by decide) (by decide)) ⟨Nat.zero_le _, Nat.zero_le _⟩ (Nat.le_of_ble_eq_true rfl) dX10_says_19) (fun r13 M12 _ => ?_)
      exact g_iret X hr rfl dX10_says_22
set_option maxRecDepth 100000 in
set_option maxHeartbeats 4000000 in
theorem tJetty_build {l : Launch} {D : va_G} {cy : Nat → ClassId} {ad : Nat → Nat} {N : Mem} (M : Mem) (a0 : Nat) (a1 : Int32) (a2 : Int32) (a3 : Int32) (a4 : Int32) (ha0 : a0 < 20) {x : Mem} (h : fJetty_build M a0 a1 a2 a3 a4 = some x) : Mt l D cy ad yX0_build cX0_build 5 none 1 [.ref (ad (a0 + 22)), .int a1, .int a2, .int a3, .int a4] ((wfC N) M) (none, (wfC N) x) := by
  refine met_of (fin := finV) (lv0 := [(0, .ref (ad (a0 + 22))), (1, .int a1), (2, .int a2), (3, .int a3), (4, .int a4)]) (by decide) (Nat.le_of_ble_eq_true rfl) rfl (lC N) h (fun p e s m args below meth c X hr => ?_)
  unfold fJetty_build
  refine g_aload_n X dX0_build_0 0 rfl rfl ?_
  refine g_iload_n X dX0_build_1 1 rfl rfl ?_
  refine put_0_0 X (k := a0 + 22) (kf_22 _ ha0) (sf_22 _ ha0) m_1_109 dX0_build_2 ?_
  refine g_mlet X (fun M1 => ?_)
  refine g_aload_n X dX0_build_5 0 rfl rfl ?_
  refine g_iload_n X dX0_build_6 2 rfl rfl ?_
  refine put_0_1 X (k := a0 + 22) (kf_22 _ ha0) (sf_22 _ ha0) m_1_111 dX0_build_7 ?_
  refine g_mlet X (fun M2 => ?_)
  refine g_aload_n X dX0_build_10 0 rfl rfl ?_
  refine g_iload_n X dX0_build_11 3 rfl rfl ?_
  refine put_0_2 X (k := a0 + 22) (kf_22 _ ha0) (sf_22 _ ha0) m_1_116 dX0_build_12 ?_
  refine g_mlet X (fun M3 => ?_)
  refine g_aload_n X dX0_build_15 0 rfl rfl ?_
  refine g_iload X dX0_build_16 4 rfl ?_
  refine put_0_3 X (k := a0 + 22) (kf_22 _ ha0) (sf_22 _ ha0) m_1_118 dX0_build_18 ?_
  refine g_mlet X (fun M4 => ?_)
  refine g_aload_n X dX0_build_21 0 rfl rfl ?_
  refine g_iconst X dX0_build_22 ic_0 ?_
  refine put_0_4 X (k := a0 + 22) (by decide) (kf_22 _ ha0) (sf_22 _ ha0) m_1_120 dX0_build_23 ?_
  refine g_mlet X (fun M5 => ?_)
  exact g_vret X hr rfl dX0_build_26
set_option maxRecDepth 100000 in
set_option maxHeartbeats 4000000 in
theorem tc_jetty {l : Launch} {D : va_G} {cy : Nat → ClassId} {ad : Nat → Nat} {N : Mem} (M : Mem) (a1 : Int32) (a2 : Int32) (a3 : Int32) (a4 : Int32) {x : (Int32 × Mem)} (h : fc_jetty M a1 a2 a3 a4 = some x) : Mt l D cy ad yX10_jetty cX10_jetty 5 (some .int) 3 [.ref (ad 0), .int a1, .int a2, .int a3, .int a4] ((wfC N) M) (some (.int x.1), (wfC N) x.2) := by
  refine met_of (fin := finS) (lv0 := [(0, .ref (ad 0)), (1, .int a1), (2, .int a2), (3, .int a3), (4, .int a4)]) (by decide) (Nat.le_of_ble_eq_true rfl) rfl (lC N) h (fun p e s m args below meth c X hr => ?_)
  unfold fc_jetty
  refine g_iload_n X dX10_jetty_0 1 rfl rfl ?_
  refine g_bipush X dX10_jetty_1 bi_6 ?_
  refine g_ct X (v0 := .int (fc_isBelowT M a1 6)) (st := []) (ok_S X (As := [.int a1, .int 6]) wkX10_isBelow (tc_isBelowT M a1 6) rfl m_2_167 rfl (hRm (by decide) (by decide)) ⟨Nat.zero_le _, Nat.zero_le _⟩ (Nat.le_of_ble_eq_true rfl) dX10_jetty_3) ?_
  refine g_if_eq X 40 (by decide) dX10_jetty_6 (fun q6 => ?_) (fun q6 => ?_)
  · refine g_aload_n X dX10_jetty_40 0 rfl rfl ?_
    refine g_bipush X dX10_jetty_41 bi_m2 ?_
    refine g_cs X (st := []) (fun _ hh => ok_V X (k0 := 0) (As := [.int (-2)]) wkX10_refuse (tc_refuse M (-2) hh) rfl k_0 s_0 (by decide) rfl m_2_173 rfl (hRm (by decide) (by decide)) ⟨Nat.zero_le _, Nat.zero_le _⟩ (Nat.le_of_ble_eq_true rfl) dX10_jetty_43) (fun r2 M1 _ => ?_)
    exact g_iret X hr rfl dX10_jetty_46
  · refine g_iload_n X dX10_jetty_9 2 rfl rfl ?_
    refine g_sipush X dX10_jetty_10 si_256 ?_
    refine g_ct X (v0 := .int (fc_isBelowT M a2 256)) (st := []) (ok_S X (As := [.int a2, .int 256]) wkX10_isBelow (tc_isBelowT M a2 256) rfl m_2_167 rfl (hRm (by decide) (by decide)) ⟨Nat.zero_le _, Nat.zero_le _⟩ (Nat.le_of_ble_eq_true rfl) dX10_jetty_13) ?_
    refine g_if_eq X 40 (by decide) dX10_jetty_16 (fun q16 => ?_) (fun q16 => ?_)
    · refine g_aload_n X dX10_jetty_40 0 rfl rfl ?_
      refine g_bipush X dX10_jetty_41 bi_m2 ?_
      refine g_cs X (st := []) (fun _ hh => ok_V X (k0 := 0) (As := [.int (-2)]) wkX10_refuse (tc_refuse M (-2) hh) rfl k_0 s_0 (by decide) rfl m_2_173 rfl (hRm (by decide) (by decide)) ⟨Nat.zero_le _, Nat.zero_le _⟩ (Nat.le_of_ble_eq_true rfl) dX10_jetty_43) (fun r4 M3 _ => ?_)
      exact g_iret X hr rfl dX10_jetty_46
    · refine g_iload_n X dX10_jetty_19 3 rfl rfl ?_
      refine g_iconst X dX10_jetty_20 ic_1 ?_
      refine g_bipush X dX10_jetty_21 bi_30 ?_
      refine g_ct X (v0 := .int (fc_isWithinT M a3 1 30)) (st := []) (ok_S X (As := [.int a3, .int 1, .int 30]) wkX10_isWithin (tc_isWithinT M a3 1 30) rfl m_2_170 rfl (hRm (by decide) (by decide)) ⟨Nat.zero_le _, Nat.zero_le _⟩ (Nat.le_of_ble_eq_true rfl) dX10_jetty_23) ?_
      refine g_if_eq X 40 (by decide) dX10_jetty_26 (fun q26 => ?_) (fun q26 => ?_)
      · refine g_aload_n X dX10_jetty_40 0 rfl rfl ?_
        refine g_bipush X dX10_jetty_41 bi_m2 ?_
        refine g_cs X (st := []) (fun _ hh => ok_V X (k0 := 0) (As := [.int (-2)]) wkX10_refuse (tc_refuse M (-2) hh) rfl k_0 s_0 (by decide) rfl m_2_173 rfl (hRm (by decide) (by decide)) ⟨Nat.zero_le _, Nat.zero_le _⟩ (Nat.le_of_ble_eq_true rfl) dX10_jetty_43) (fun r6 M5 _ => ?_)
        exact g_iret X hr rfl dX10_jetty_46
      · refine g_iload X dX10_jetty_29 4 rfl ?_
        refine g_iconst X dX10_jetty_31 ic_0 ?_
        refine g_bipush X dX10_jetty_32 bi_99 ?_
        refine g_ct X (v0 := .int (fc_isWithinT M a4 0 99)) (st := []) (ok_S X (As := [.int a4, .int 0, .int 99]) wkX10_isWithin (tc_isWithinT M a4 0 99) rfl m_2_170 rfl (hRm (by decide) (by decide)) ⟨Nat.zero_le _, Nat.zero_le _⟩ (Nat.le_of_ble_eq_true rfl) dX10_jetty_34) ?_
        refine g_if_ne X 47 (by decide) dX10_jetty_37 (fun q37 => ?_) (fun q37 => ?_)
        · refine g_aload_n X dX10_jetty_47 0 rfl rfl ?_
          refine get_10_2 X (k := 0) k_0 s_0 m_2_128 dX10_jetty_48 ?_
          refine get_1_1 X (k := 20) k_20 s_20 m_1_179 dX10_jetty_51 ?_
          refine g_bipush X dX10_jetty_54 bi_20 ?_
          refine g_icmp_lt X 66 (by decide) dX10_jetty_56 (fun q56 => ?_) (fun q56 => ?_)
          · refine g_aload_n X dX10_jetty_66 0 rfl rfl ?_
            refine get_10_2 X (k := 0) k_0 s_0 m_2_128 dX10_jetty_67 ?_
            refine get_1_0 X (k := 20) k_20 s_20 m_1_177 dX10_jetty_70 ?_
            refine g_aload_n X dX10_jetty_73 0 rfl rfl ?_
            refine get_10_2 X (k := 0) k_0 s_0 m_2_128 dX10_jetty_74 ?_
            refine get_1_1 X (k := 20) k_20 s_20 m_1_179 dX10_jetty_77 ?_
            refine g_aald24 X (k := 21) k_21 s_21 dX10_jetty_80 (fun h7 => ?_)
            refine g_iload_n X dX10_jetty_81 1 rfl rfl ?_
            refine g_iload_n X dX10_jetty_82 2 rfl rfl ?_
            refine g_iload_n X dX10_jetty_83 3 rfl rfl ?_
            refine g_iload X dX10_jetty_84 4 rfl ?_
            refine g_cv X (st := []) (fun _ hh => ok_V X (k0 := (ix (M.1 20 1)) + 22) (As := [.int a1, .int a2, .int a3, .int a4]) wkX0_build (tJetty_build M (ix (M.1 20 1)) a1 a2 a3 a4 (inb_lt h7) hh) rfl (kf_22 _ (inb_lt h7)) (sf_22 _ (inb_lt h7)) (by decide) rfl m_3_28 rfl (hRm (by decide) (by decide)) ⟨Nat.zero_le _, Nat.zero_le _⟩ (Nat.le_of_ble_eq_true rfl) dX10_jetty_86) (fun M8 _ => ?_)
            refine g_aload_n X dX10_jetty_89 0 rfl rfl ?_
            refine get_10_2 X (k := 0) k_0 s_0 m_2_128 dX10_jetty_90 ?_
            refine g_dup X dX10_jetty_93 rfl ?_
            refine get_1_1 X (k := 20) k_20 s_20 m_1_179 dX10_jetty_94 ?_
            refine g_iconst X dX10_jetty_97 ic_1 ?_
            refine g_iadd X dX10_jetty_98 ?_
            refine put_1_1 X (k := 20) k_20 s_20 m_1_179 dX10_jetty_99 ?_
            refine g_mlet X (fun M9 => ?_)
            refine g_aload_n X dX10_jetty_102 0 rfl rfl ?_
            refine get_10_2 X (k := 0) k_0 s_0 m_2_128 dX10_jetty_103 ?_
            refine get_1_1 X (k := 20) k_20 s_20 m_1_179 dX10_jetty_106 ?_
            refine g_iconst X dX10_jetty_109 ic_1 ?_
            refine g_isub X dX10_jetty_110 ?_
            exact g_iret X hr rfl dX10_jetty_111
          · refine g_aload_n X dX10_jetty_59 0 rfl rfl ?_
            refine g_bipush X dX10_jetty_60 bi_m6 ?_
            refine g_cs X (st := []) (fun _ hh => ok_V X (k0 := 0) (As := [.int (-6)]) wkX10_refuse (tc_refuse M (-6) hh) rfl k_0 s_0 (by decide) rfl m_2_173 rfl (hRm (by decide) (by decide)) ⟨Nat.zero_le _, Nat.zero_le _⟩ (Nat.le_of_ble_eq_true rfl) dX10_jetty_62) (fun r11 M10 _ => ?_)
            exact g_iret X hr rfl dX10_jetty_65
        · refine g_aload_n X dX10_jetty_40 0 rfl rfl ?_
          refine g_bipush X dX10_jetty_41 bi_m2 ?_
          refine g_cs X (st := []) (fun _ hh => ok_V X (k0 := 0) (As := [.int (-2)]) wkX10_refuse (tc_refuse M (-2) hh) rfl k_0 s_0 (by decide) rfl m_2_173 rfl (hRm (by decide) (by decide)) ⟨Nat.zero_le _, Nat.zero_le _⟩ (Nat.le_of_ble_eq_true rfl) dX10_jetty_43) (fun r13 M12 _ => ?_)
          exact g_iret X hr rfl dX10_jetty_46
set_option maxRecDepth 100000 in
set_option maxHeartbeats 4000000 in
theorem tLake_deck {l : Launch} {D : va_G} {cy : Nat → ClassId} {ad : Nat → Nat} {N : Mem} (M : Mem) {x : Int32} (h : fLake_deck M = some x) : Mt l D cy ad yX1_deck cX1_deck 1 (some .int) 1 [.ref (ad 20)] ((wfC N) M) (some (.int x), (wfC N) M) := by
  refine met_of (fin := (finI M)) (lv0 := [(0, .ref (ad 20))]) (by decide) (Nat.le_of_ble_eq_true rfl) rfl (lC N) h (fun p e s m args below meth c X hr => ?_)
  unfold fLake_deck
  refine g_bipush X dX1_deck_0 bi_20 ?_
  refine g_aload_n X dX1_deck_2 0 rfl rfl ?_
  refine get_1_12 X (k := 20) k_20 s_20 m_1_201 dX1_deck_3 ?_
  refine g_iconst X dX1_deck_6 ic_4 ?_
  refine g_idivC X dX1_deck_7 (by decide) ?_
  refine g_isub X dX1_deck_8 ?_
  exact g_iret X hr rfl dX1_deck_9
theorem tLake_deckT {l : Launch} {D : va_G} {cy : Nat → ClassId} {ad : Nat → Nat} {N : Mem} (M : Mem) : Mt l D cy ad yX1_deck cX1_deck 1 (some .int) 1 [.ref (ad 20)] ((wfC N) M) (some (.int (fLake_deckT M)), (wfC N) M) := tLake_deck M (fLake_deckE M)
set_option maxRecDepth 100000 in
set_option maxHeartbeats 4000000 in
theorem tLake_isOut {l : Launch} {D : va_G} {cy : Nat → ClassId} {ad : Nat → Nat} {N : Mem} (M : Mem) (a1 : Nat) (a2 : Int32) (ha1 : a1 < 20) {x : Int32} (h : fLake_isOut M a1 a2 = some x) : Mt l D cy ad yX1_isOut cX1_isOut 3 (some .boolean) 3 [.ref (ad 20), .ref (ad (a1 + 22)), .int a2] ((wfC N) M) (some (.int x), (wfC N) M) := by
  refine met_of (fin := (finI M)) (lv0 := [(0, .ref (ad 20)), (1, .ref (ad (a1 + 22))), (2, .int a2)]) (by decide) (Nat.le_of_ble_eq_true rfl) rfl (lC N) h (fun p e s m args below meth c X hr => ?_)
  unfold fLake_isOut
  refine g_aload_n X dX1_isOut_0 1 rfl rfl ?_
  refine g_iload_n X dX1_isOut_1 2 rfl rfl ?_
  refine g_ct X (v0 := .int (fJetty_riseAtT M a1 a2)) (st := []) (ok_V X (k0 := a1 + 22) (As := [.int a2]) wkX0_riseAt (tJetty_riseAtT M a1 a2 ha1) rfl (kf_22 _ ha1) (sf_22 _ ha1) (by decide) rfl m_3_40 rfl (hRm (by decide) (by decide)) ⟨Nat.zero_le _, Nat.zero_le _⟩ (Nat.le_of_ble_eq_true rfl) dX1_isOut_2) ?_
  refine g_aload_n X dX1_isOut_5 0 rfl rfl ?_
  refine g_ct X (v0 := .int (fLake_deckT M)) (st := [.int (fJetty_riseAtT M a1 a2)]) (ok_V X (k0 := 20) (As := []) wkX1_deck (tLake_deckT M) rfl k_20 s_20 (by decide) rfl m_3_41 rfl (hRm (by decide) (by decide)) ⟨Nat.zero_le _, Nat.zero_le _⟩ (Nat.le_of_ble_eq_true rfl) dX1_isOut_6) ?_
  refine g_isub X dX1_isOut_9 ?_
  refine g_abs X m_3_45 (hR1 (by decide) (Nat.le_of_ble_eq_true rfl)) ⟨Nat.zero_le _, Nat.zero_le _⟩ dX1_isOut_10 ?_
  refine g_bipush X dX1_isOut_13 bi_60 ?_
  refine g_icmp_le X 22 (by decide) dX1_isOut_15 (fun q15 => ?_) (fun q15 => ?_)
  · refine g_iconst X dX1_isOut_22 ic_0 ?_
    exact g_zret X hr (isB_n (by decide)) rfl dX1_isOut_23
  · refine g_iconst X dX1_isOut_18 ic_1 ?_
    refine g_goto X 23 (by decide) dX1_isOut_19 ?_
    exact g_zret X hr (isB_n (by decide)) rfl dX1_isOut_23
theorem tLake_isOutT {l : Launch} {D : va_G} {cy : Nat → ClassId} {ad : Nat → Nat} {N : Mem} (M : Mem) (a1 : Nat) (a2 : Int32) (ha1 : a1 < 20) : Mt l D cy ad yX1_isOut cX1_isOut 3 (some .boolean) 3 [.ref (ad 20), .ref (ad (a1 + 22)), .int a2] ((wfC N) M) (some (.int (fLake_isOutT M a1 a2)), (wfC N) M) := tLake_isOut M a1 a2 ha1 (fLake_isOutE M a1 a2)
set_option maxRecDepth 100000 in
set_option maxHeartbeats 4000000 in
theorem tLake_lawValue {l : Launch} {D : va_G} {cy : Nat → ClassId} {ad : Nat → Nat} {N : Mem} (M : Mem) (a1 : Int32) {x : Int32} (h : fLake_lawValue M a1 = some x) : Mt l D cy ad yX1_lawValue cX1_lawValue 3 (some .int) 1 [.ref (ad 20), .int a1] ((wfC N) M) (some (.int x), (wfC N) M) := by
  refine met_of (fin := (finI M)) (lv0 := [(0, .ref (ad 20)), (1, .int a1)]) (by decide) (Nat.le_of_ble_eq_true rfl) rfl (lC N) h (fun p e s m args below meth c X hr => ?_)
  unfold fLake_lawValue
  refine g_aload_n X dX1_lawValue_0 0 rfl rfl ?_
  refine get_1_4 X (k := 20) k_20 s_20 m_1_184 dX1_lawValue_1 ?_
  refine g_jlet X 23 (fun z23 : Int32 => [(0, .ref (ad 20)), (1, .int a1)]) (fun z23 : Int32 => [.int z23]) (fun z23 : Int32 => M) (fun z23 => ?_) (fun J23 hJ23 => ?_)
  · show GF _ _ _ _ _ _ _ _ _ _ _ _ _ _ _ _ _ _ _ _ _ 23 [(0, .ref (ad 20)), (1, .int a1)] [.int z23] M
    refine g_istore_n X dX1_lawValue_23 rfl (by decide) rfl [1, 2, 0] (lu := [(0, .ref (ad 20)), (1, .int a1), (2, .int z23)]) rfl ?_
    refine g_iload_n X dX1_lawValue_24 2 rfl rfl ?_
    refine g_if_eq X 45 (by decide) dX1_lawValue_25 (fun q25 => ?_) (fun q25 => ?_)
    · refine g_gs0 X m_3_56 dX1_lawValue_45 ?_
      refine g_iload_n X dX1_lawValue_48 1 rfl rfl ?_
      refine g_sa0 X dX1_lawValue_49 (fun h1 => ?_)
      exact g_iret X hr rfl dX1_lawValue_50
    · refine g_aload_n X dX1_lawValue_28 0 rfl rfl ?_
      refine get_1_2 X (k := 20) k_20 s_20 m_1_180 dX1_lawValue_29 ?_
      refine g_aload_n X dX1_lawValue_32 0 rfl rfl ?_
      refine get_1_4 X (k := 20) k_20 s_20 m_1_184 dX1_lawValue_33 ?_
      refine g_aald25 X (k := 42) k_42 s_42 dX1_lawValue_36 (fun h2 => ?_)
      refine get_2_0 X (k := (ix (M.1 20 4)) + 43) (kf_43 _ (inb_lt h2)) (sf_43 _ (inb_lt h2)) m_1_150 dX1_lawValue_37 ?_
      refine g_iload_n X dX1_lawValue_40 1 rfl rfl ?_
      refine g_iald X (n := 9) (k := (ix (M.1 20 4)) + 50) (kf_50 _ (inb_lt h2)) (sf_50 _ (inb_lt h2)) dX1_lawValue_41 (fun h3 => ?_)
      refine g_goto X 50 (by decide) dX1_lawValue_42 ?_
      exact g_iret X hr rfl dX1_lawValue_50
  refine g_jlet X 22 (fun z22 : Unit => [(0, .ref (ad 20)), (1, .int a1)]) (fun z22 : Unit => []) (fun z22 : Unit => M) (fun z22 => ?_) (fun J22 hJ22 => ?_)
  · show GF _ _ _ _ _ _ _ _ _ _ _ _ _ _ _ _ _ _ _ _ _ 22 [(0, .ref (ad 20)), (1, .int a1)] [] M
    refine g_iconst X dX1_lawValue_22 ic_0 ?_
    exact hJ23 0
  refine g_if_lt X 22 (by decide) dX1_lawValue_4 (fun q4 => ?_) (fun q4 => ?_)
  · exact hJ22 ()
  · refine g_aload_n X dX1_lawValue_7 0 rfl rfl ?_
    refine get_1_4 X (k := 20) k_20 s_20 m_1_184 dX1_lawValue_8 ?_
    refine g_aload_n X dX1_lawValue_11 0 rfl rfl ?_
    refine get_1_3 X (k := 20) k_20 s_20 m_1_182 dX1_lawValue_12 ?_
    refine g_icmp_ge X 22 (by decide) dX1_lawValue_15 (fun q15 => ?_) (fun q15 => ?_)
    · exact hJ22 ()
    · refine g_iconst X dX1_lawValue_18 ic_1 ?_
      refine g_goto X 23 (by decide) dX1_lawValue_19 ?_
      exact hJ23 1
set_option maxRecDepth 100000 in
set_option maxHeartbeats 4000000 in
theorem tLake_speed {l : Launch} {D : va_G} {cy : Nat → ClassId} {ad : Nat → Nat} {N : Mem} (M : Mem) {x : Int32} (h : fLake_speed M = some x) : Mt l D cy ad yX1_speed cX1_speed 1 (some .int) 2 [.ref (ad 20)] ((wfC N) M) (some (.int x), (wfC N) M) := by
  refine met_of (fin := (finI M)) (lv0 := [(0, .ref (ad 20))]) (by decide) (Nat.le_of_ble_eq_true rfl) rfl (lC N) h (fun p e s m args below meth c X hr => ?_)
  unfold fLake_speed
  refine g_aload_n X dX1_speed_0 0 rfl rfl ?_
  refine g_iconst X dX1_speed_1 ic_1 ?_
  refine g_ci X (st := []) (fun _ hh => ok_V X (k0 := 20) (As := [.int 1]) wkX1_lawValue (tLake_lawValue M 1 hh) rfl k_20 s_20 (by decide) rfl m_3_52 rfl (hRm (by decide) (by decide)) ⟨Nat.zero_le _, Nat.zero_le _⟩ (Nat.le_of_ble_eq_true rfl) dX1_speed_2) (fun r1 _ => ?_)
  exact g_iret X hr rfl dX1_speed_5
set_option maxRecDepth 100000 in
set_option maxHeartbeats 4000000 in
theorem tc_roundedUpBy {l : Launch} {D : va_G} {cy : Nat → ClassId} {ad : Nat → Nat} {N : Mem} (M : Mem) (a0 : Int32) (a1 : Int32) {x : Int32} (h : fc_roundedUpBy M a0 a1 = some x) : Mt l D cy ad yX10_roundedUpBy cX10_roundedUpBy 2 (some .int) 1 [.int a0, .int a1] ((wfC N) M) (some (.int x), (wfC N) M) := by
  refine met_of (fin := (finI M)) (lv0 := [(0, .int a0), (1, .int a1)]) (by decide) (Nat.le_of_ble_eq_true rfl) rfl (lC N) h (fun p e s m args below meth c X hr => ?_)
  unfold fc_roundedUpBy
  refine g_iload_n X dX10_roundedUpBy_0 1 rfl rfl ?_
  refine g_iconst X dX10_roundedUpBy_1 ic_1 ?_
  refine g_icmp_ge X 9 (by decide) dX10_roundedUpBy_2 (fun q2 => ?_) (fun q2 => ?_)
  · refine g_iload_n X dX10_roundedUpBy_9 0 rfl rfl ?_
    refine g_iload_n X dX10_roundedUpBy_10 1 rfl rfl ?_
    refine g_iadd X dX10_roundedUpBy_11 ?_
    refine g_iconst X dX10_roundedUpBy_12 ic_1 ?_
    refine g_isub X dX10_roundedUpBy_13 ?_
    refine g_iload_n X dX10_roundedUpBy_14 1 rfl rfl ?_
    refine g_idiv X dX10_roundedUpBy_15 (fun _ => ?_)
    exact g_iret X hr rfl dX10_roundedUpBy_16
  · refine g_iconst X dX10_roundedUpBy_5 ic_0 ?_
    refine g_goto X 16 (by decide) dX10_roundedUpBy_6 ?_
    exact g_iret X hr rfl dX10_roundedUpBy_16
set_option maxRecDepth 100000 in
set_option maxHeartbeats 4000000 in
theorem tc_cutBy {l : Launch} {D : va_G} {cy : Nat → ClassId} {ad : Nat → Nat} {N : Mem} (M : Mem) (a0 : Int32) (a1 : Int32) {x : Int32} (h : fc_cutBy M a0 a1 = some x) : Mt l D cy ad yX10_cutBy cX10_cutBy 2 (some .int) 1 [.int a0, .int a1] ((wfC N) M) (some (.int x), (wfC N) M) := by
  refine met_of (fin := (finI M)) (lv0 := [(0, .int a0), (1, .int a1)]) (by decide) (Nat.le_of_ble_eq_true rfl) rfl (lC N) h (fun p e s m args below meth c X hr => ?_)
  unfold fc_cutBy
  refine g_iload_n X dX10_cutBy_0 1 rfl rfl ?_
  refine g_iconst X dX10_cutBy_1 ic_1 ?_
  refine g_icmp_ge X 9 (by decide) dX10_cutBy_2 (fun q2 => ?_) (fun q2 => ?_)
  · refine g_iload_n X dX10_cutBy_9 0 rfl rfl ?_
    refine g_iload_n X dX10_cutBy_10 1 rfl rfl ?_
    refine g_idiv X dX10_cutBy_11 (fun _ => ?_)
    exact g_iret X hr rfl dX10_cutBy_12
  · refine g_iconst X dX10_cutBy_5 ic_0 ?_
    refine g_goto X 12 (by decide) dX10_cutBy_6 ?_
    exact g_iret X hr rfl dX10_cutBy_12
set_option maxRecDepth 100000 in
set_option maxHeartbeats 4000000 in
theorem tLake_hasTime {l : Launch} {D : va_G} {cy : Nat → ClassId} {ad : Nat → Nat} {N : Mem} (M : Mem) (a1 : Nat) (a2 : Int32) (ha1 : a1 < 20) {x : Int32} (h : fLake_hasTime M a1 a2 = some x) : Mt l D cy ad yX1_hasTime cX1_hasTime 4 (some .boolean) 2 [.ref (ad 20), .ref (ad (a1 + 22)), .int a2] ((wfC N) M) (some (.int x), (wfC N) M) := by
  refine met_of (fin := (finI M)) (lv0 := [(0, .ref (ad 20)), (1, .ref (ad (a1 + 22))), (2, .int a2)]) (by decide) (Nat.le_of_ble_eq_true rfl) rfl (lC N) h (fun p e s m args below meth c X hr => ?_)
  unfold fLake_hasTime
  refine g_iconst X dX1_hasTime_0 ic_2 ?_
  refine g_aload_n X dX1_hasTime_1 1 rfl rfl ?_
  refine g_ct X (v0 := .int (fJetty_pacesT M a1)) (st := [.int 2]) (ok_V X (k0 := a1 + 22) (As := []) wkX0_paces (tJetty_pacesT M a1 ha1) rfl (kf_22 _ ha1) (sf_22 _ ha1) (by decide) rfl m_3_61 rfl (hRm (by decide) (by decide)) ⟨Nat.zero_le _, Nat.zero_le _⟩ (Nat.le_of_ble_eq_true rfl) dX1_hasTime_2) ?_
  refine g_imul X dX1_hasTime_5 ?_
  refine g_aload_n X dX1_hasTime_6 0 rfl rfl ?_
  refine g_iconst X dX1_hasTime_7 ic_2 ?_
  refine g_ci X (st := [.int ((2 : Int32) * (fJetty_pacesT M a1))]) (fun _ hh => ok_V X (k0 := 20) (As := [.int 2]) wkX1_lawValue (tLake_lawValue M 2 hh) rfl k_20 s_20 (by decide) rfl m_3_52 rfl (hRm (by decide) (by decide)) ⟨Nat.zero_le _, Nat.zero_le _⟩ (Nat.le_of_ble_eq_true rfl) dX1_hasTime_8) (fun r1 _ => ?_)
  refine g_ci X (st := []) (fun _ hh => ok_N X (As := [.int ((2 : Int32) * (fJetty_pacesT M a1)), .int r1]) wkX10_roundedUpBy (tc_roundedUpBy M ((2 : Int32) * (fJetty_pacesT M a1)) r1 hh) rfl m_3_62 rfl (hRm (by decide) (by decide)) ⟨Nat.zero_le _, Nat.zero_le _⟩ (Nat.le_of_ble_eq_true rfl) dX1_hasTime_11) (fun r2 _ => ?_)
  refine g_aload_n X dX1_hasTime_14 0 rfl rfl ?_
  refine g_iconst X dX1_hasTime_15 ic_3 ?_
  refine g_ci X (st := [.int r2]) (fun _ hh => ok_V X (k0 := 20) (As := [.int 3]) wkX1_lawValue (tLake_lawValue M 3 hh) rfl k_20 s_20 (by decide) rfl m_3_52 rfl (hRm (by decide) (by decide)) ⟨Nat.zero_le _, Nat.zero_le _⟩ (Nat.le_of_ble_eq_true rfl) dX1_hasTime_16) (fun r3 _ => ?_)
  refine g_iadd X dX1_hasTime_19 ?_
  refine g_ilet X (fun v4 => ?_)
  refine g_istore_n X dX1_hasTime_20 rfl (by decide) rfl [1, 3, 0] (lu := [(0, .ref (ad 20)), (2, .int a2), (3, .int v4)]) rfl ?_
  refine g_iload_n X dX1_hasTime_21 2 rfl rfl ?_
  refine g_aload_n X dX1_hasTime_22 0 rfl rfl ?_
  refine g_iconst X dX1_hasTime_23 ic_0 ?_
  refine g_ci X (st := [.int v4]) (fun _ hh => ok_V X (k0 := 20) (As := [.int 0]) wkX1_lawValue (tLake_lawValue M 0 hh) rfl k_20 s_20 (by decide) rfl m_3_52 rfl (hRm (by decide) (by decide)) ⟨Nat.zero_le _, Nat.zero_le _⟩ (Nat.le_of_ble_eq_true rfl) dX1_hasTime_24) (fun r5 _ => ?_)
  refine g_iload_n X dX1_hasTime_27 1 rfl rfl ?_
  refine g_ci X (st := [.int v4]) (fun _ hh => ok_N X (As := [.int r5, .int a2]) wkX10_cutBy (tc_cutBy M r5 a2 hh) rfl m_3_65 rfl (hRm (by decide) (by decide)) ⟨Nat.zero_le _, Nat.zero_le _⟩ (Nat.le_of_ble_eq_true rfl) dX1_hasTime_28) (fun r6 _ => ?_)
  refine g_icmp_gt X 38 (by decide) dX1_hasTime_31 (fun q31 => ?_) (fun q31 => ?_)
  · refine g_iconst X dX1_hasTime_38 ic_0 ?_
    exact g_zret X hr (isB_n (by decide)) rfl dX1_hasTime_39
  · refine g_iconst X dX1_hasTime_34 ic_1 ?_
    refine g_goto X 39 (by decide) dX1_hasTime_35 ?_
    exact g_zret X hr (isB_n (by decide)) rfl dX1_hasTime_39
set_option maxRecDepth 100000 in
set_option maxHeartbeats 4000000 in
theorem tc_jettyOf {l : Launch} {D : va_G} {cy : Nat → ClassId} {ad : Nat → Nat} {N : Mem} (M : Mem) (a1 : Int32) (a2 : Int32) {x : (Int32 × Mem)} (h : fc_jettyOf M a1 a2 = some x) : Mt l D cy ad yX10_jettyOf cX10_jettyOf 4 (some .int) 4 [.ref (ad 0), .int a1, .int a2] ((wfC N) M) (some (.int x.1), (wfC N) x.2) := by
  refine met_of (fin := finS) (lv0 := [(0, .ref (ad 0)), (1, .int a1), (2, .int a2)]) (by decide) (Nat.le_of_ble_eq_true rfl) rfl (lC N) h (fun p e s m args below meth c X hr => ?_)
  unfold fc_jettyOf
  refine g_aload_n X dX10_jettyOf_0 0 rfl rfl ?_
  refine g_iload_n X dX10_jettyOf_1 1 rfl rfl ?_
  refine g_ct X (v0 := .int (fc_isJettyT M a1)) (st := []) (ok_V X (k0 := 0) (As := [.int a1]) wkX10_isJetty (tc_isJettyT M a1) rfl k_0 s_0 (by decide) rfl m_2_227 rfl (hRm (by decide) (by decide)) ⟨Nat.zero_le _, Nat.zero_le _⟩ (Nat.le_of_ble_eq_true rfl) dX10_jettyOf_2) ?_
  refine g_if_ne X 15 (by decide) dX10_jettyOf_5 (fun q5 => ?_) (fun q5 => ?_)
  · refine g_aload_n X dX10_jettyOf_15 0 rfl rfl ?_
    refine get_10_2 X (k := 0) k_0 s_0 m_2_128 dX10_jettyOf_16 ?_
    refine get_1_0 X (k := 20) k_20 s_20 m_1_177 dX10_jettyOf_19 ?_
    refine g_iload_n X dX10_jettyOf_22 1 rfl rfl ?_
    refine g_aald24 X (k := 21) k_21 s_21 dX10_jettyOf_23 (fun h1 => ?_)
    refine g_astore_n X dX10_jettyOf_24 rfl (by decide) rfl [1, 3, 0] (lu := [(0, .ref (ad 0)), (2, .int a2), (3, .ref (ad ((ix a1) + 22)))]) rfl ?_
    refine g_iload_n X dX10_jettyOf_25 1 rfl rfl ?_
    refine g_ifc X (fun q26_0 => ?_) (fun q26_0 => ?_)
    · refine g_swI X (v0 := 0) (tgt := 72) (off := 46) q26_0 (by decide) (by decide) (by decide) dX10_jettyOf_26 ?_
      refine g_aload_n X dX10_jettyOf_72 2 rfl rfl ?_
      refine get_0_0 X (k := (ix a1) + 22) (kf_22 _ (inb_lt h1)) (sf_22 _ (inb_lt h1)) m_1_110 dX10_jettyOf_73 ?_
      exact g_iret X hr rfl dX10_jettyOf_76
    ·
      refine g_ifc X (fun q26_1 => ?_) (fun q26_1 => ?_)
      · refine g_swI X (v0 := 1) (tgt := 77) (off := 51) q26_1 (by decide) (by decide) (by decide) dX10_jettyOf_26 ?_
        refine g_aload_n X dX10_jettyOf_77 2 rfl rfl ?_
        refine get_0_1 X (k := (ix a1) + 22) (kf_22 _ (inb_lt h1)) (sf_22 _ (inb_lt h1)) m_1_114 dX10_jettyOf_78 ?_
        exact g_iret X hr rfl dX10_jettyOf_81
      ·
        refine g_ifc X (fun q26_2 => ?_) (fun q26_2 => ?_)
        · refine g_swI X (v0 := 2) (tgt := 82) (off := 56) q26_2 (by decide) (by decide) (by decide) dX10_jettyOf_26 ?_
          refine g_aload_n X dX10_jettyOf_82 2 rfl rfl ?_
          refine get_0_2 X (k := (ix a1) + 22) (kf_22 _ (inb_lt h1)) (sf_22 _ (inb_lt h1)) m_1_117 dX10_jettyOf_83 ?_
          exact g_iret X hr rfl dX10_jettyOf_86
        ·
          refine g_ifc X (fun q26_3 => ?_) (fun q26_3 => ?_)
          · refine g_swI X (v0 := 3) (tgt := 87) (off := 61) q26_3 (by decide) (by decide) (by decide) dX10_jettyOf_26 ?_
            refine g_aload_n X dX10_jettyOf_87 2 rfl rfl ?_
            refine get_0_3 X (k := (ix a1) + 22) (kf_22 _ (inb_lt h1)) (sf_22 _ (inb_lt h1)) m_1_119 dX10_jettyOf_88 ?_
            exact g_iret X hr rfl dX10_jettyOf_91
          ·
            refine g_ifc X (fun q26_4 => ?_) (fun q26_4 => ?_)
            · refine g_swI X (v0 := 4) (tgt := 92) (off := 66) q26_4 (by decide) (by decide) (by decide) dX10_jettyOf_26 ?_
              refine g_aload_n X dX10_jettyOf_92 2 rfl rfl ?_
              refine g_ct X (v0 := .int (fJetty_pacesT M (ix a1))) (st := []) (ok_V X (k0 := (ix a1) + 22) (As := []) wkX0_paces (tJetty_pacesT M (ix a1) (inb_lt h1)) rfl (kf_22 _ (inb_lt h1)) (sf_22 _ (inb_lt h1)) (by decide) rfl m_3_10 rfl (hRm (by decide) (by decide)) ⟨Nat.zero_le _, Nat.zero_le _⟩ (Nat.le_of_ble_eq_true rfl) dX10_jettyOf_93) ?_
              exact g_iret X hr rfl dX10_jettyOf_96
            ·
              refine g_ifc X (fun q26_5 => ?_) (fun q26_5 => ?_)
              · refine g_swI X (v0 := 5) (tgt := 97) (off := 71) q26_5 (by decide) (by decide) (by decide) dX10_jettyOf_26 ?_
                refine g_aload_n X dX10_jettyOf_97 2 rfl rfl ?_
                refine get_0_4 X (k := (ix a1) + 22) (kf_22 _ (inb_lt h1)) (sf_22 _ (inb_lt h1)) m_1_121 dX10_jettyOf_98 ?_
                refine g_ct X (v0 := .int (fc_toNumberT M (M.1 ((ix a1) + 22) 4))) (st := []) (ok_S X (As := [.int (M.1 ((ix a1) + 22) 4)]) wkX10_toNumber (tc_toNumberT M (M.1 ((ix a1) + 22) 4)) rfl m_3_21 rfl (hRm (by decide) (by decide)) ⟨Nat.zero_le _, Nat.zero_le _⟩ (Nat.le_of_ble_eq_true rfl) dX10_jettyOf_101) ?_
                exact g_iret X hr rfl dX10_jettyOf_104
              ·
                refine g_ifc X (fun q26_6 => ?_) (fun q26_6 => ?_)
                · refine g_swI X (v0 := 6) (tgt := 105) (off := 79) q26_6 (by decide) (by decide) (by decide) dX10_jettyOf_26 ?_
                  refine g_aload_n X dX10_jettyOf_105 0 rfl rfl ?_
                  refine get_10_2 X (k := 0) k_0 s_0 m_2_128 dX10_jettyOf_106 ?_
                  refine g_aload_n X dX10_jettyOf_109 2 rfl rfl ?_
                  refine g_aload_n X dX10_jettyOf_110 0 rfl rfl ?_
                  refine get_10_2 X (k := 0) k_0 s_0 m_2_128 dX10_jettyOf_111 ?_
                  refine get_1_11 X (k := 20) k_20 s_20 m_1_200 dX10_jettyOf_114 ?_
                  refine g_ct X (v0 := .int (fLake_isOutT M (ix a1) (M.1 20 12))) (st := []) (ok_V X (k0 := 20) (As := [.ref (ad ((ix a1) + 22)), .int (M.1 20 12)]) wkX1_isOut (tLake_isOutT M (ix a1) (M.1 20 12) (inb_lt h1)) rfl k_20 s_20 (by decide) rfl m_3_36 rfl (hRm (by decide) (by decide)) ⟨Nat.zero_le _, Nat.zero_le _⟩ (Nat.le_of_ble_eq_true rfl) dX10_jettyOf_117) ?_
                  refine g_ct X (v0 := .int (fc_toNumberT M (fLake_isOutT M (ix a1) (M.1 20 12)))) (st := []) (ok_S X (As := [.int (fLake_isOutT M (ix a1) (M.1 20 12))]) wkX10_toNumber (tc_toNumberT M (fLake_isOutT M (ix a1) (M.1 20 12))) rfl m_3_21 rfl (hRm (by decide) (by decide)) ⟨Nat.zero_le _, Nat.zero_le _⟩ (Nat.le_of_ble_eq_true rfl) dX10_jettyOf_120) ?_
                  exact g_iret X hr rfl dX10_jettyOf_123
                ·
                  refine g_ifc X (fun q26_7 => ?_) (fun q26_7 => ?_)
                  · refine g_swI X (v0 := 7) (tgt := 124) (off := 98) q26_7 (by decide) (by decide) (by decide) dX10_jettyOf_26 ?_
                    refine g_aload_n X dX10_jettyOf_124 0 rfl rfl ?_
                    refine get_10_2 X (k := 0) k_0 s_0 m_2_128 dX10_jettyOf_125 ?_
                    refine g_aload_n X dX10_jettyOf_128 2 rfl rfl ?_
                    refine g_aload_n X dX10_jettyOf_129 0 rfl rfl ?_
                    refine get_10_2 X (k := 0) k_0 s_0 m_2_128 dX10_jettyOf_130 ?_
                    refine g_ci X (st := [.ref (ad ((ix a1) + 22)), .ref (ad 20)]) (fun _ hh => ok_V X (k0 := 20) (As := []) wkX1_speed (tLake_speed M hh) rfl k_20 s_20 (by decide) rfl m_3_48 rfl (hRm (by decide) (by decide)) ⟨Nat.zero_le _, Nat.zero_le _⟩ (Nat.le_of_ble_eq_true rfl) dX10_jettyOf_133) (fun r2 _ => ?_)
                    refine g_ci X (st := []) (fun _ hh => ok_V X (k0 := 20) (As := [.ref (ad ((ix a1) + 22)), .int r2]) wkX1_hasTime (tLake_hasTime M (ix a1) r2 (inb_lt h1) hh) rfl k_20 s_20 (by decide) rfl m_3_57 rfl (hRm (by decide) (by decide)) ⟨Nat.zero_le _, Nat.zero_le _⟩ (Nat.le_of_ble_eq_true rfl) dX10_jettyOf_136) (fun r3 _ => ?_)
                    refine g_ct X (v0 := .int (fc_toNumberT M r3)) (st := []) (ok_S X (As := [.int r3]) wkX10_toNumber (tc_toNumberT M r3) rfl m_3_21 rfl (hRm (by decide) (by decide)) ⟨Nat.zero_le _, Nat.zero_le _⟩ (Nat.le_of_ble_eq_true rfl) dX10_jettyOf_139) ?_
                    exact g_iret X hr rfl dX10_jettyOf_142
                  ·
                    refine g_swO X (tgt := 143) dX10_jettyOf_26 (fun n h1 h2 hx => by
                        rcases (show n = 0 ∨ n = 1 ∨ n = 2 ∨ n = 3 ∨ n = 4 ∨ n = 5 ∨ n = 6 ∨ n = 7 by omega) with rfl | rfl | rfl | rfl | rfl | rfl | rfl | rfl
                        · exact absurd hx q26_0
                        · exact absurd hx q26_1
                        · exact absurd hx q26_2
                        · exact absurd hx q26_3
                        · exact absurd hx q26_4
                        · exact absurd hx q26_5
                        · exact absurd hx q26_6
                        · exact absurd hx q26_7) (by decide) ?_
                    refine g_aload_n X dX10_jettyOf_143 0 rfl rfl ?_
                    refine g_bipush X dX10_jettyOf_144 bi_m2 ?_
                    refine g_cs X (st := []) (fun _ hh => ok_V X (k0 := 0) (As := [.int (-2)]) wkX10_refuse (tc_refuse M (-2) hh) rfl k_0 s_0 (by decide) rfl m_2_173 rfl (hRm (by decide) (by decide)) ⟨Nat.zero_le _, Nat.zero_le _⟩ (Nat.le_of_ble_eq_true rfl) dX10_jettyOf_146) (fun r5 M4 _ => ?_)
                    exact g_iret X hr rfl dX10_jettyOf_149
  · refine g_aload_n X dX10_jettyOf_8 0 rfl rfl ?_
    refine g_bipush X dX10_jettyOf_9 bi_m2 ?_
    refine g_cs X (st := []) (fun _ hh => ok_V X (k0 := 0) (As := [.int (-2)]) wkX10_refuse (tc_refuse M (-2) hh) rfl k_0 s_0 (by decide) rfl m_2_173 rfl (hRm (by decide) (by decide)) ⟨Nat.zero_le _, Nat.zero_le _⟩ (Nat.le_of_ble_eq_true rfl) dX10_jettyOf_11) (fun r7 M6 _ => ?_)
    exact g_iret X hr rfl dX10_jettyOf_14
set_option maxRecDepth 100000 in
set_option maxHeartbeats 4000000 in
theorem tc_wet {l : Launch} {D : va_G} {cy : Nat → ClassId} {ad : Nat → Nat} {N : Mem} (M : Mem) (a1 : Int32) (a2 : Int32) {x : (Int32 × Mem)} (h : fc_wet M a1 a2 = some x) : Mt l D cy ad yX10_wet cX10_wet 5 (some .int) 3 [.ref (ad 0), .int a1, .int a2] ((wfC N) M) (some (.int x.1), (wfC N) x.2) := by
  refine met_of (fin := finS) (lv0 := [(0, .ref (ad 0)), (1, .int a1), (2, .int a2)]) (by decide) (Nat.le_of_ble_eq_true rfl) rfl (lC N) h (fun p e s m args below meth c X hr => ?_)
  unfold fc_wet
  refine g_aload_n X dX10_wet_0 0 rfl rfl ?_
  refine g_iload_n X dX10_wet_1 1 rfl rfl ?_
  refine g_ct X (v0 := .int (fc_isJettyT M a1)) (st := []) (ok_V X (k0 := 0) (As := [.int a1]) wkX10_isJetty (tc_isJettyT M a1) rfl k_0 s_0 (by decide) rfl m_2_227 rfl (hRm (by decide) (by decide)) ⟨Nat.zero_le _, Nat.zero_le _⟩ (Nat.le_of_ble_eq_true rfl) dX10_wet_2) ?_
  refine g_if_ne X 15 (by decide) dX10_wet_5 (fun q5 => ?_) (fun q5 => ?_)
  · refine g_aload_n X dX10_wet_15 0 rfl rfl ?_
    refine get_10_2 X (k := 0) k_0 s_0 m_2_128 dX10_wet_16 ?_
    refine get_1_0 X (k := 20) k_20 s_20 m_1_177 dX10_wet_19 ?_
    refine g_iload_n X dX10_wet_22 1 rfl rfl ?_
    refine g_aald24 X (k := 21) k_21 s_21 dX10_wet_23 (fun h1 => ?_)
    refine g_astore_n X dX10_wet_24 rfl (by decide) rfl [3, 0] (lu := [(2, .int a2), (3, .ref (ad ((ix a1) + 22)))]) rfl ?_
    refine g_aload_n X dX10_wet_25 1 rfl rfl ?_
    refine get_0_4 X (k := (ix a1) + 22) (kf_22 _ (inb_lt h1)) (sf_22 _ (inb_lt h1)) m_1_121 dX10_wet_26 ?_
    refine g_ilet X (fun v2 => ?_)
    refine g_istore X dX10_wet_29 (by decide) rfl [1, 2, 0] (lu := [(2, .int a2), (3, .ref (ad ((ix a1) + 22))), (4, .int v2)]) rfl ?_
    refine g_aload_n X dX10_wet_31 1 rfl rfl ?_
    refine g_iload_n X dX10_wet_32 0 rfl rfl ?_
    refine g_gd (q := isB a2) (fun hz => ?_)
    refine put_0_4 X (k := (ix a1) + 22) hz (kf_22 _ (inb_lt h1)) (sf_22 _ (inb_lt h1)) m_1_121 dX10_wet_33 ?_
    refine g_mlet X (fun M3 => ?_)
    refine g_iload X dX10_wet_36 2 rfl ?_
    refine g_ct X (v0 := .int (fc_toNumberT M3 v2)) (st := []) (ok_S X (As := [.int v2]) wkX10_toNumber (tc_toNumberT M3 v2) rfl m_3_21 rfl (hRm (by decide) (by decide)) ⟨Nat.zero_le _, Nat.zero_le _⟩ (Nat.le_of_ble_eq_true rfl) dX10_wet_38) ?_
    exact g_iret X hr rfl dX10_wet_41
  · refine g_aload_n X dX10_wet_8 0 rfl rfl ?_
    refine g_bipush X dX10_wet_9 bi_m2 ?_
    refine g_cs X (st := []) (fun _ hh => ok_V X (k0 := 0) (As := [.int (-2)]) wkX10_refuse (tc_refuse M (-2) hh) rfl k_0 s_0 (by decide) rfl m_2_173 rfl (hRm (by decide) (by decide)) ⟨Nat.zero_le _, Nat.zero_le _⟩ (Nat.le_of_ble_eq_true rfl) dX10_wet_11) (fun r5 M4 _ => ?_)
    exact g_iret X hr rfl dX10_wet_14
set_option maxRecDepth 100000 in
set_option maxHeartbeats 4000000 in
theorem tc_rise {l : Launch} {D : va_G} {cy : Nat → ClassId} {ad : Nat → Nat} {N : Mem} (M : Mem) (a1 : Int32) (a2 : Int32) {x : (Int32 × Mem)} (h : fc_rise M a1 a2 = some x) : Mt l D cy ad yX10_rise cX10_rise 3 (some .int) 3 [.ref (ad 0), .int a1, .int a2] ((wfC N) M) (some (.int x.1), (wfC N) x.2) := by
  refine met_of (fin := finS) (lv0 := [(0, .ref (ad 0)), (1, .int a1), (2, .int a2)]) (by decide) (Nat.le_of_ble_eq_true rfl) rfl (lC N) h (fun p e s m args below meth c X hr => ?_)
  unfold fc_rise
  refine g_aload_n X dX10_rise_0 0 rfl rfl ?_
  refine g_iload_n X dX10_rise_1 1 rfl rfl ?_
  refine g_ct X (v0 := .int (fc_isJettyT M a1)) (st := []) (ok_V X (k0 := 0) (As := [.int a1]) wkX10_isJetty (tc_isJettyT M a1) rfl k_0 s_0 (by decide) rfl m_2_227 rfl (hRm (by decide) (by decide)) ⟨Nat.zero_le _, Nat.zero_le _⟩ (Nat.le_of_ble_eq_true rfl) dX10_rise_2) ?_
  refine g_if_eq X 19 (by decide) dX10_rise_5 (fun q5 => ?_) (fun q5 => ?_)
  · refine g_sipush X dX10_rise_19 si_m1000 ?_
    refine g_aload_n X dX10_rise_22 0 rfl rfl ?_
    refine g_bipush X dX10_rise_23 bi_m2 ?_
    refine g_cs X (st := [.int (-1000)]) (fun _ hh => ok_V X (k0 := 0) (As := [.int (-2)]) wkX10_refuse (tc_refuse M (-2) hh) rfl k_0 s_0 (by decide) rfl m_2_173 rfl (hRm (by decide) (by decide)) ⟨Nat.zero_le _, Nat.zero_le _⟩ (Nat.le_of_ble_eq_true rfl) dX10_rise_25) (fun r2 M1 _ => ?_)
    refine g_iadd X dX10_rise_28 ?_
    exact g_iret X hr rfl dX10_rise_29
  · refine g_iload_n X dX10_rise_8 2 rfl rfl ?_
    refine g_bipush X dX10_rise_9 bi_m50 ?_
    refine g_bipush X dX10_rise_11 bi_50 ?_
    refine g_ct X (v0 := .int (fc_isWithinT M a2 (-50) 50)) (st := []) (ok_S X (As := [.int a2, .int (-50), .int 50]) wkX10_isWithin (tc_isWithinT M a2 (-50) 50) rfl m_2_170 rfl (hRm (by decide) (by decide)) ⟨Nat.zero_le _, Nat.zero_le _⟩ (Nat.le_of_ble_eq_true rfl) dX10_rise_13) ?_
    refine g_if_ne X 30 (by decide) dX10_rise_16 (fun q16 => ?_) (fun q16 => ?_)
    · refine g_aload_n X dX10_rise_30 0 rfl rfl ?_
      refine get_10_2 X (k := 0) k_0 s_0 m_2_128 dX10_rise_31 ?_
      refine get_1_0 X (k := 20) k_20 s_20 m_1_177 dX10_rise_34 ?_
      refine g_iload_n X dX10_rise_37 1 rfl rfl ?_
      refine g_aald24 X (k := 21) k_21 s_21 dX10_rise_38 (fun h3 => ?_)
      refine g_iload_n X dX10_rise_39 2 rfl rfl ?_
      refine g_ct X (v0 := .int (fJetty_riseAtT M (ix a1) a2)) (st := []) (ok_V X (k0 := (ix a1) + 22) (As := [.int a2]) wkX0_riseAt (tJetty_riseAtT M (ix a1) a2 (inb_lt h3)) rfl (kf_22 _ (inb_lt h3)) (sf_22 _ (inb_lt h3)) (by decide) rfl m_3_14 rfl (hRm (by decide) (by decide)) ⟨Nat.zero_le _, Nat.zero_le _⟩ (Nat.le_of_ble_eq_true rfl) dX10_rise_40) ?_
      exact g_iret X hr rfl dX10_rise_43
    · refine g_sipush X dX10_rise_19 si_m1000 ?_
      refine g_aload_n X dX10_rise_22 0 rfl rfl ?_
      refine g_bipush X dX10_rise_23 bi_m2 ?_
      refine g_cs X (st := [.int (-1000)]) (fun _ hh => ok_V X (k0 := 0) (As := [.int (-2)]) wkX10_refuse (tc_refuse M (-2) hh) rfl k_0 s_0 (by decide) rfl m_2_173 rfl (hRm (by decide) (by decide)) ⟨Nat.zero_le _, Nat.zero_le _⟩ (Nat.le_of_ble_eq_true rfl) dX10_rise_25) (fun r5 M4 _ => ?_)
      refine g_iadd X dX10_rise_28 ?_
      exact g_iret X hr rfl dX10_rise_29
set_option maxRecDepth 100000 in
set_option maxHeartbeats 4000000 in
theorem tc_lake {l : Launch} {D : va_G} {cy : Nat → ClassId} {ad : Nat → Nat} {N : Mem} (M : Mem) (a1 : Int32) (a2 : Int32) {x : (Int32 × Mem)} (h : fc_lake M a1 a2 = some x) : Mt l D cy ad yX10_lake cX10_lake 4 (some .int) 3 [.ref (ad 0), .int a1, .int a2] ((wfC N) M) (some (.int x.1), (wfC N) x.2) := by
  refine met_of (fin := finS) (lv0 := [(0, .ref (ad 0)), (1, .int a1), (2, .int a2)]) (by decide) (Nat.le_of_ble_eq_true rfl) rfl (lC N) h (fun p e s m args below meth c X hr => ?_)
  unfold fc_lake
  refine g_iload_n X dX10_lake_0 1 rfl rfl ?_
  refine g_jlet X 34 (fun z34 : Unit => [(0, .ref (ad 0)), (1, .int a1), (2, .int a2)]) (fun z34 : Unit => []) (fun z34 : Unit => M) (fun z34 => ?_) (fun J34 hJ34 => ?_)
  · show GF _ _ _ _ _ _ _ _ _ _ _ _ _ _ _ _ _ _ _ _ _ 34 [(0, .ref (ad 0)), (1, .int a1), (2, .int a2)] [] M
    refine g_iload_n X dX10_lake_34 1 rfl rfl ?_
    refine g_iconst X dX10_lake_35 ic_1 ?_
    refine g_jlet X 68 (fun z68 : Unit => [(0, .ref (ad 0)), (1, .int a1), (2, .int a2)]) (fun z68 : Unit => []) (fun z68 : Unit => M) (fun z68 => ?_) (fun J68 hJ68 => ?_)
    · show GF _ _ _ _ _ _ _ _ _ _ _ _ _ _ _ _ _ _ _ _ _ 68 [(0, .ref (ad 0)), (1, .int a1), (2, .int a2)] [] M
      refine g_iload_n X dX10_lake_68 1 rfl rfl ?_
      refine g_iconst X dX10_lake_69 ic_2 ?_
      refine g_icmp_ne X 102 (by decide) dX10_lake_70 (fun q70 => ?_) (fun q70 => ?_)
      · refine g_aload_n X dX10_lake_102 0 rfl rfl ?_
        refine g_bipush X dX10_lake_103 bi_m2 ?_
        refine g_cs X (st := []) (fun _ hh => ok_V X (k0 := 0) (As := [.int (-2)]) wkX10_refuse (tc_refuse M (-2) hh) rfl k_0 s_0 (by decide) rfl m_2_173 rfl (hRm (by decide) (by decide)) ⟨Nat.zero_le _, Nat.zero_le _⟩ (Nat.le_of_ble_eq_true rfl) dX10_lake_105) (fun r2 M1 _ => ?_)
        exact g_iret X hr rfl dX10_lake_108
      · refine g_iload_n X dX10_lake_73 2 rfl rfl ?_
        refine g_sipush X dX10_lake_74 si_256 ?_
        refine g_ct X (v0 := .int (fc_isBelowT M a2 256)) (st := []) (ok_S X (As := [.int a2, .int 256]) wkX10_isBelow (tc_isBelowT M a2 256) rfl m_2_167 rfl (hRm (by decide) (by decide)) ⟨Nat.zero_le _, Nat.zero_le _⟩ (Nat.le_of_ble_eq_true rfl) dX10_lake_77) ?_
        refine g_if_eq X 102 (by decide) dX10_lake_80 (fun q80 => ?_) (fun q80 => ?_)
        · refine g_aload_n X dX10_lake_102 0 rfl rfl ?_
          refine g_bipush X dX10_lake_103 bi_m2 ?_
          refine g_cs X (st := []) (fun _ hh => ok_V X (k0 := 0) (As := [.int (-2)]) wkX10_refuse (tc_refuse M (-2) hh) rfl k_0 s_0 (by decide) rfl m_2_173 rfl (hRm (by decide) (by decide)) ⟨Nat.zero_le _, Nat.zero_le _⟩ (Nat.le_of_ble_eq_true rfl) dX10_lake_105) (fun r4 M3 _ => ?_)
          exact g_iret X hr rfl dX10_lake_108
        · refine g_aload_n X dX10_lake_83 0 rfl rfl ?_
          refine get_10_2 X (k := 0) k_0 s_0 m_2_128 dX10_lake_84 ?_
          refine get_1_13 X (k := 20) k_20 s_20 m_1_206 dX10_lake_87 ?_
          refine g_ilet X (fun v5 => ?_)
          refine g_istore_n X dX10_lake_90 rfl (by decide) rfl [1, 3, 0] (lu := [(0, .ref (ad 0)), (2, .int a2), (3, .int v5)]) rfl ?_
          refine g_aload_n X dX10_lake_91 0 rfl rfl ?_
          refine get_10_2 X (k := 0) k_0 s_0 m_2_128 dX10_lake_92 ?_
          refine g_iload_n X dX10_lake_95 1 rfl rfl ?_
          refine put_1_13 X (k := 20) k_20 s_20 m_1_206 dX10_lake_96 ?_
          refine g_mlet X (fun M6 => ?_)
          refine g_goto X 109 (by decide) dX10_lake_99 ?_
          refine g_iload_n X dX10_lake_109 2 rfl rfl ?_
          refine g_iload_n X dX10_lake_110 1 rfl rfl ?_
          refine g_icmp_eq X 118 (by decide) dX10_lake_111 (fun q111 => ?_) (fun q111 => ?_)
          · refine g_iconst X dX10_lake_118 ic_0 ?_
            refine g_ct X (v0 := .int (fc_toNumberT M6 0)) (st := []) (ok_S X (As := [.int 0]) wkX10_toNumber (tc_toNumberT M6 0) rfl m_3_21 rfl (hRm (by decide) (by decide)) ⟨Nat.zero_le _, Nat.zero_le _⟩ (Nat.le_of_ble_eq_true rfl) dX10_lake_119) ?_
            exact g_iret X hr rfl dX10_lake_122
          · refine g_iconst X dX10_lake_114 ic_1 ?_
            refine g_goto X 119 (by decide) dX10_lake_115 ?_
            refine g_ct X (v0 := .int (fc_toNumberT M6 1)) (st := []) (ok_S X (As := [.int 1]) wkX10_toNumber (tc_toNumberT M6 1) rfl m_3_21 rfl (hRm (by decide) (by decide)) ⟨Nat.zero_le _, Nat.zero_le _⟩ (Nat.le_of_ble_eq_true rfl) dX10_lake_119) ?_
            exact g_iret X hr rfl dX10_lake_122
    refine g_icmp_ne X 68 (by decide) dX10_lake_36 (fun q36 => ?_) (fun q36 => ?_)
    · exact hJ68 ()
    · refine g_iload_n X dX10_lake_39 2 rfl rfl ?_
      refine g_iconst X dX10_lake_40 ic_0 ?_
      refine g_bipush X dX10_lake_41 bi_60 ?_
      refine g_ct X (v0 := .int (fc_isWithinT M a2 0 60)) (st := []) (ok_S X (As := [.int a2, .int 0, .int 60]) wkX10_isWithin (tc_isWithinT M a2 0 60) rfl m_2_170 rfl (hRm (by decide) (by decide)) ⟨Nat.zero_le _, Nat.zero_le _⟩ (Nat.le_of_ble_eq_true rfl) dX10_lake_43) ?_
      refine g_if_eq X 68 (by decide) dX10_lake_46 (fun q46 => ?_) (fun q46 => ?_)
      · exact hJ68 ()
      · refine g_aload_n X dX10_lake_49 0 rfl rfl ?_
        refine get_10_2 X (k := 0) k_0 s_0 m_2_128 dX10_lake_50 ?_
        refine get_1_12 X (k := 20) k_20 s_20 m_1_202 dX10_lake_53 ?_
        refine g_ilet X (fun v7 => ?_)
        refine g_istore_n X dX10_lake_56 rfl (by decide) rfl [1, 3, 0] (lu := [(0, .ref (ad 0)), (2, .int a2), (3, .int v7)]) rfl ?_
        refine g_aload_n X dX10_lake_57 0 rfl rfl ?_
        refine get_10_2 X (k := 0) k_0 s_0 m_2_128 dX10_lake_58 ?_
        refine g_iload_n X dX10_lake_61 1 rfl rfl ?_
        refine put_1_12 X (k := 20) k_20 s_20 m_1_202 dX10_lake_62 ?_
        refine g_mlet X (fun M8 => ?_)
        refine g_goto X 109 (by decide) dX10_lake_65 ?_
        refine g_iload_n X dX10_lake_109 2 rfl rfl ?_
        refine g_iload_n X dX10_lake_110 1 rfl rfl ?_
        refine g_icmp_eq X 118 (by decide) dX10_lake_111 (fun q111 => ?_) (fun q111 => ?_)
        · refine g_iconst X dX10_lake_118 ic_0 ?_
          refine g_ct X (v0 := .int (fc_toNumberT M8 0)) (st := []) (ok_S X (As := [.int 0]) wkX10_toNumber (tc_toNumberT M8 0) rfl m_3_21 rfl (hRm (by decide) (by decide)) ⟨Nat.zero_le _, Nat.zero_le _⟩ (Nat.le_of_ble_eq_true rfl) dX10_lake_119) ?_
          exact g_iret X hr rfl dX10_lake_122
        · refine g_iconst X dX10_lake_114 ic_1 ?_
          refine g_goto X 119 (by decide) dX10_lake_115 ?_
          refine g_ct X (v0 := .int (fc_toNumberT M8 1)) (st := []) (ok_S X (As := [.int 1]) wkX10_toNumber (tc_toNumberT M8 1) rfl m_3_21 rfl (hRm (by decide) (by decide)) ⟨Nat.zero_le _, Nat.zero_le _⟩ (Nat.le_of_ble_eq_true rfl) dX10_lake_119) ?_
          exact g_iret X hr rfl dX10_lake_122
  refine g_if_ne X 34 (by decide) dX10_lake_1 (fun q1 => ?_) (fun q1 => ?_)
  · exact hJ34 ()
  · refine g_iload_n X dX10_lake_4 2 rfl rfl ?_
    refine g_bipush X dX10_lake_5 bi_m50 ?_
    refine g_bipush X dX10_lake_7 bi_50 ?_
    refine g_ct X (v0 := .int (fc_isWithinT M a2 (-50) 50)) (st := []) (ok_S X (As := [.int a2, .int (-50), .int 50]) wkX10_isWithin (tc_isWithinT M a2 (-50) 50) rfl m_2_170 rfl (hRm (by decide) (by decide)) ⟨Nat.zero_le _, Nat.zero_le _⟩ (Nat.le_of_ble_eq_true rfl) dX10_lake_9) ?_
    refine g_if_eq X 34 (by decide) dX10_lake_12 (fun q12 => ?_) (fun q12 => ?_)
    · exact hJ34 ()
    · refine g_aload_n X dX10_lake_15 0 rfl rfl ?_
      refine get_10_2 X (k := 0) k_0 s_0 m_2_128 dX10_lake_16 ?_
      refine get_1_11 X (k := 20) k_20 s_20 m_1_200 dX10_lake_19 ?_
      refine g_ilet X (fun v9 => ?_)
      refine g_istore_n X dX10_lake_22 rfl (by decide) rfl [1, 3, 0] (lu := [(0, .ref (ad 0)), (2, .int a2), (3, .int v9)]) rfl ?_
      refine g_aload_n X dX10_lake_23 0 rfl rfl ?_
      refine get_10_2 X (k := 0) k_0 s_0 m_2_128 dX10_lake_24 ?_
      refine g_iload_n X dX10_lake_27 1 rfl rfl ?_
      refine put_1_11 X (k := 20) k_20 s_20 m_1_200 dX10_lake_28 ?_
      refine g_mlet X (fun M10 => ?_)
      refine g_goto X 109 (by decide) dX10_lake_31 ?_
      refine g_iload_n X dX10_lake_109 2 rfl rfl ?_
      refine g_iload_n X dX10_lake_110 1 rfl rfl ?_
      refine g_icmp_eq X 118 (by decide) dX10_lake_111 (fun q111 => ?_) (fun q111 => ?_)
      · refine g_iconst X dX10_lake_118 ic_0 ?_
        refine g_ct X (v0 := .int (fc_toNumberT M10 0)) (st := []) (ok_S X (As := [.int 0]) wkX10_toNumber (tc_toNumberT M10 0) rfl m_3_21 rfl (hRm (by decide) (by decide)) ⟨Nat.zero_le _, Nat.zero_le _⟩ (Nat.le_of_ble_eq_true rfl) dX10_lake_119) ?_
        exact g_iret X hr rfl dX10_lake_122
      · refine g_iconst X dX10_lake_114 ic_1 ?_
        refine g_goto X 119 (by decide) dX10_lake_115 ?_
        refine g_ct X (v0 := .int (fc_toNumberT M10 1)) (st := []) (ok_S X (As := [.int 1]) wkX10_toNumber (tc_toNumberT M10 1) rfl m_3_21 rfl (hRm (by decide) (by decide)) ⟨Nat.zero_le _, Nat.zero_le _⟩ (Nat.le_of_ble_eq_true rfl) dX10_lake_119) ?_
        exact g_iret X hr rfl dX10_lake_122
set_option maxRecDepth 100000 in
set_option maxHeartbeats 4000000 in
theorem tc_isHour {l : Launch} {D : va_G} {cy : Nat → ClassId} {ad : Nat → Nat} {N : Mem} (M : Mem) (a0 : Int32) {x : Int32} (h : fc_isHour M a0 = some x) : Mt l D cy ad yX10_isHour cX10_isHour 1 (some .boolean) 2 [.int a0] ((wfC N) M) (some (.int x), (wfC N) M) := by
  refine met_of (fin := (finI M)) (lv0 := [(0, .int a0)]) (by decide) (Nat.le_of_ble_eq_true rfl) rfl (lC N) h (fun p e s m args below meth c X hr => ?_)
  unfold fc_isHour
  refine g_iload_n X dX10_isHour_0 0 rfl rfl ?_
  refine g_bipush X dX10_isHour_1 bi_12 ?_
  refine g_ct X (v0 := .int (fc_isBelowT M a0 12)) (st := []) (ok_S X (As := [.int a0, .int 12]) wkX10_isBelow (tc_isBelowT M a0 12) rfl m_2_167 rfl (hRm (by decide) (by decide)) ⟨Nat.zero_le _, Nat.zero_le _⟩ (Nat.le_of_ble_eq_true rfl) dX10_isHour_3) ?_
  exact g_zret X hr (isB_n (fc_isBelowB M a0 12)) rfl dX10_isHour_6
theorem tc_isHourT {l : Launch} {D : va_G} {cy : Nat → ClassId} {ad : Nat → Nat} {N : Mem} (M : Mem) (a0 : Int32) : Mt l D cy ad yX10_isHour cX10_isHour 1 (some .boolean) 2 [.int a0] ((wfC N) M) (some (.int (fc_isHourT M a0)), (wfC N) M) := tc_isHour M a0 (fc_isHourE M a0)
set_option maxRecDepth 100000 in
set_option maxHeartbeats 4000000 in
theorem tc_wind {l : Launch} {D : va_G} {cy : Nat → ClassId} {ad : Nat → Nat} {N : Mem} (M : Mem) (a1 : Int32) (a2 : Int32) {x : (Int32 × Mem)} (h : fc_wind M a1 a2 = some x) : Mt l D cy ad yX10_wind cX10_wind 4 (some .int) 3 [.ref (ad 0), .int a1, .int a2] ((wfC N) M) (some (.int x.1), (wfC N) x.2) := by
  refine met_of (fin := finS) (lv0 := [(0, .ref (ad 0)), (1, .int a1), (2, .int a2)]) (by decide) (Nat.le_of_ble_eq_true rfl) rfl (lC N) h (fun p e s m args below meth c X hr => ?_)
  unfold fc_wind
  refine g_iload_n X dX10_wind_0 1 rfl rfl ?_
  refine g_ct X (v0 := .int (fc_isHourT M a1)) (st := []) (ok_S X (As := [.int a1]) wkX10_isHour (tc_isHourT M a1) rfl m_3_84 rfl (hRm (by decide) (by decide)) ⟨Nat.zero_le _, Nat.zero_le _⟩ (Nat.le_of_ble_eq_true rfl) dX10_wind_1) ?_
  refine g_if_eq X 17 (by decide) dX10_wind_4 (fun q4 => ?_) (fun q4 => ?_)
  · refine g_aload_n X dX10_wind_17 0 rfl rfl ?_
    refine g_bipush X dX10_wind_18 bi_m2 ?_
    refine g_cs X (st := []) (fun _ hh => ok_V X (k0 := 0) (As := [.int (-2)]) wkX10_refuse (tc_refuse M (-2) hh) rfl k_0 s_0 (by decide) rfl m_2_173 rfl (hRm (by decide) (by decide)) ⟨Nat.zero_le _, Nat.zero_le _⟩ (Nat.le_of_ble_eq_true rfl) dX10_wind_20) (fun r2 M1 _ => ?_)
    exact g_iret X hr rfl dX10_wind_23
  · refine g_iload_n X dX10_wind_7 2 rfl rfl ?_
    refine g_iconst X dX10_wind_8 ic_0 ?_
    refine g_bipush X dX10_wind_9 bi_9 ?_
    refine g_ct X (v0 := .int (fc_isWithinT M a2 0 9)) (st := []) (ok_S X (As := [.int a2, .int 0, .int 9]) wkX10_isWithin (tc_isWithinT M a2 0 9) rfl m_2_170 rfl (hRm (by decide) (by decide)) ⟨Nat.zero_le _, Nat.zero_le _⟩ (Nat.le_of_ble_eq_true rfl) dX10_wind_11) ?_
    refine g_if_ne X 24 (by decide) dX10_wind_14 (fun q14 => ?_) (fun q14 => ?_)
    · refine g_aload_n X dX10_wind_24 0 rfl rfl ?_
      refine get_10_2 X (k := 0) k_0 s_0 m_2_128 dX10_wind_25 ?_
      refine get_1_10 X (k := 20) k_20 s_20 m_1_198 dX10_wind_28 ?_
      refine g_iload_n X dX10_wind_31 1 rfl rfl ?_
      refine g_iald X (n := 12) (k := 66) k_66 s_66 dX10_wind_32 (fun h3 => ?_)
      refine g_ilet X (fun v4 => ?_)
      refine g_istore_n X dX10_wind_33 rfl (by decide) rfl [1, 2, 3, 0] (lu := [(0, .ref (ad 0)), (1, .int a1), (2, .int a2), (3, .int v4)]) rfl ?_
      refine g_aload_n X dX10_wind_34 0 rfl rfl ?_
      refine get_10_2 X (k := 0) k_0 s_0 m_2_128 dX10_wind_35 ?_
      refine get_1_10 X (k := 20) k_20 s_20 m_1_198 dX10_wind_38 ?_
      refine g_iload_n X dX10_wind_41 1 rfl rfl ?_
      refine g_iload_n X dX10_wind_42 2 rfl rfl ?_
      refine g_iast X (n := 12) (k := 66) k_66 s_66 dX10_wind_43 (fun h5 => ?_)
      refine g_mlet X (fun M6 => ?_)
      refine g_iload_n X dX10_wind_44 3 rfl rfl ?_
      exact g_iret X hr rfl dX10_wind_45
    · refine g_aload_n X dX10_wind_17 0 rfl rfl ?_
      refine g_bipush X dX10_wind_18 bi_m2 ?_
      refine g_cs X (st := []) (fun _ hh => ok_V X (k0 := 0) (As := [.int (-2)]) wkX10_refuse (tc_refuse M (-2) hh) rfl k_0 s_0 (by decide) rfl m_2_173 rfl (hRm (by decide) (by decide)) ⟨Nat.zero_le _, Nat.zero_le _⟩ (Nat.le_of_ble_eq_true rfl) dX10_wind_20) (fun r8 M7 _ => ?_)
      exact g_iret X hr rfl dX10_wind_23
set_option maxRecDepth 100000 in
set_option maxHeartbeats 4000000 in
theorem Lc_winds_L35 {l : Launch} {D : va_G} {cy : Nat → ClassId} {ad : Nat → Nat} {N : Mem} {p : Program} {e : Env} {s : State} {m : MethodId} {args : Array Value} {below : List Frame} {meth : Method} {c : Code} (X : Cx p s m args meth c cX10_winds 7 RX10 D cy ad (AA ad) (wfC N) sdC) (hr : meth.sig.returnType = (some .int)) (b1 : Int32) (b3 : Int32) : ∀ (n : Nat) (x4 : Int32) (M : Mem), GF p l e (Rm 4) s m args below meth c 7 D cy ad (AA ad) 0 0 (wfC N) (QM D cy ad (wfC N) below args s) finS (fc_winds_L35 b1 b3 n x4 M) 35 [(0, .ref (ad 0)), (1, .int b1), (3, .int b3), (4, .int x4)] [] M := by
  intro n
  induction n with
  | zero => intro x4 M; exact g_none
  | succ n ih =>
    intro x4 M
    rw [fc_winds_L35]
    refine g_iload X dX10_winds_35 3 rfl ?_
    refine g_iload_n X dX10_winds_37 2 rfl rfl ?_
    refine g_icmp_ge X 92 (by decide) dX10_winds_38 (fun q38 => ?_) (fun q38 => ?_)
    · refine g_iload_n X dX10_winds_92 2 rfl rfl ?_
      exact g_iret X hr rfl dX10_winds_93
    · refine g_aload_n X dX10_winds_41 0 rfl rfl ?_
      refine get_10_0 X (k := 0) k_0 s_0 m_2_126 dX10_winds_42 ?_
      refine g_iload_n X dX10_winds_45 1 rfl rfl ?_
      refine g_aald27 X (k := 1) k_1 s_1 dX10_winds_46 (fun h4 => ?_)
      refine g_iload X dX10_winds_47 3 rfl ?_
      refine g_cl X (st := []) (fun _ hh => ok_V X (k0 := (ix b1) + 2) (As := [.int x4]) wkX5_at (tShelf_at M (ix b1) x4 (inb_lt h4) hh) rfl (kf_2 _ (inb_lt h4)) (sf_2 _ (inb_lt h4)) (by decide) rfl m_2_215 rfl (hRm (by decide) (by decide)) ⟨Nat.zero_le _, Nat.zero_le _⟩ (Nat.le_of_ble_eq_true rfl) dX10_winds_49) (fun r5 _ => ?_)
      refine g_lstore X dX10_winds_52 (by decide) rfl [1, 2, 3, 4, 0] (lu := [(0, .ref (ad 0)), (1, .int b1), (3, .int b3), (4, .int x4), (5, .long r5)]) rfl ?_
      refine g_lload X dX10_winds_54 4 rfl ?_
      refine g_lconst X (v := 0) dX10_winds_56 (by decide) ?_
      refine g_lcmp X dX10_winds_57 ?_
      refine g_if_lt X 70 (by decide) dX10_winds_58 (fun q58 => ?_) (fun q58 => ?_)
      · refine g_iload X dX10_winds_70 3 rfl ?_
        exact g_iret X hr rfl dX10_winds_72
      · refine g_lload X dX10_winds_61 4 rfl ?_
        refine g_ldc2 X dX10_winds_63 m_3_94 ?_
        refine g_lcmp X dX10_winds_66 ?_
        refine g_if_le X 73 (by decide) dX10_winds_67 (fun q67 => ?_) (fun q67 => ?_)
        · refine g_aload_n X dX10_winds_73 0 rfl rfl ?_
          refine get_10_2 X (k := 0) k_0 s_0 m_2_128 dX10_winds_74 ?_
          refine get_1_10 X (k := 20) k_20 s_20 m_1_198 dX10_winds_77 ?_
          refine g_iload X dX10_winds_80 3 rfl ?_
          refine g_lload X dX10_winds_82 4 rfl ?_
          refine g_l2i X dX10_winds_84 ?_
          refine g_iast X (n := 12) (k := 66) k_66 s_66 dX10_winds_85 (fun h6 => ?_)
          refine g_mlet X (fun M7 => ?_)
          refine g_iinc X (k := 3) (v := (x4 + 1)) dX10_winds_86 rfl (ii_1 _) (by decide) rfl [1, 2, 3, 0] (lu := [(0, .ref (ad 0)), (1, .int b1), (3, .int b3), (4, .int (x4 + 1))]) rfl ?_
          refine g_goto X 35 (by decide) dX10_winds_89 ?_
          exact ih (x4 + 1) M7
        · refine g_iload X dX10_winds_70 3 rfl ?_
          exact g_iret X hr rfl dX10_winds_72
set_option maxRecDepth 100000 in
set_option maxHeartbeats 4000000 in
theorem tc_winds {l : Launch} {D : va_G} {cy : Nat → ClassId} {ad : Nat → Nat} {N : Mem} (M : Mem) (a1 : Int32) {x : (Int32 × Mem)} (h : fc_winds M a1 = some x) : Mt l D cy ad yX10_winds cX10_winds 7 (some .int) 4 [.ref (ad 0), .int a1] ((wfC N) M) (some (.int x.1), (wfC N) x.2) := by
  refine met_of (fin := finS) (lv0 := [(0, .ref (ad 0)), (1, .int a1)]) (by decide) (Nat.le_of_ble_eq_true rfl) rfl (lC N) h (fun p e s m args below meth c X hr => ?_)
  unfold fc_winds
  refine g_aload_n X dX10_winds_0 0 rfl rfl ?_
  refine g_iload_n X dX10_winds_1 1 rfl rfl ?_
  refine g_iload_n X dX10_winds_2 1 rfl rfl ?_
  refine g_ci X (st := []) (fun _ hh => ok_V X (k0 := 0) (As := [.int a1, .int a1]) wkX10_rowTrouble (tc_rowTrouble M a1 a1 hh) rfl k_0 s_0 (by decide) rfl m_2_185 rfl (hRm (by decide) (by decide)) ⟨Nat.zero_le _, Nat.zero_le _⟩ (Nat.le_of_ble_eq_true rfl) dX10_winds_3) (fun r1 _ => ?_)
  refine g_istore_n X dX10_winds_6 rfl (by decide) rfl [1, 2, 0] (lu := [(0, .ref (ad 0)), (1, .int a1), (2, .int r1)]) rfl ?_
  refine g_iload_n X dX10_winds_7 2 rfl rfl ?_
  refine g_if_eq X 17 (by decide) dX10_winds_8 (fun q8 => ?_) (fun q8 => ?_)
  · refine g_bipush X dX10_winds_17 bi_12 ?_
    refine g_aload_n X dX10_winds_19 0 rfl rfl ?_
    refine get_10_0 X (k := 0) k_0 s_0 m_2_126 dX10_winds_20 ?_
    refine g_iload_n X dX10_winds_23 1 rfl rfl ?_
    refine g_aald27 X (k := 1) k_1 s_1 dX10_winds_24 (fun h2 => ?_)
    refine get_5_1 X (k := (ix a1) + 2) (kf_2 _ (inb_lt h2)) (sf_2 _ (inb_lt h2)) m_2_111 dX10_winds_25 ?_
    refine g_min X m_3_91 (hR1 (by decide) (Nat.le_of_ble_eq_true rfl)) ⟨Nat.zero_le _, Nat.zero_le _⟩ dX10_winds_28 ?_
    refine g_ilet X (fun v3 => ?_)
    refine g_istore_n X dX10_winds_31 rfl (by decide) rfl [1, 2, 0] (lu := [(0, .ref (ad 0)), (1, .int a1), (3, .int v3)]) rfl ?_
    refine g_iconst X dX10_winds_32 ic_0 ?_
    refine g_istore X dX10_winds_33 (by decide) rfl [1, 2, 3, 0] (lu := [(0, .ref (ad 0)), (1, .int a1), (3, .int v3), (4, .int 0)]) rfl ?_
    exact Lc_winds_L35  X hr a1 v3    FU 0 M
  · refine g_aload_n X dX10_winds_11 0 rfl rfl ?_
    refine g_iload_n X dX10_winds_12 2 rfl rfl ?_
    refine g_cs X (st := []) (fun _ hh => ok_V X (k0 := 0) (As := [.int r1]) wkX10_refuse (tc_refuse M r1 hh) rfl k_0 s_0 (by decide) rfl m_2_173 rfl (hRm (by decide) (by decide)) ⟨Nat.zero_le _, Nat.zero_le _⟩ (Nat.le_of_ble_eq_true rfl) dX10_winds_13) (fun r9 M8 _ => ?_)
    exact g_iret X hr rfl dX10_winds_16
set_option maxRecDepth 100000 in
set_option maxHeartbeats 4000000 in
theorem LTape_append_L4 {l : Launch} {D : va_G} {cy : Nat → ClassId} {ad : Nat → Nat} {N : Mem} {p : Program} {e : Env} {s : State} {m : MethodId} {args : Array Value} {below : List Frame} {meth : Method} {c : Code} (X : Cx p s m args meth c cX6_append 4 RX6 D cy ad (AA ad) (wfC N) sdC) (hr : meth.sig.returnType = none) (b1 : Int32) : ∀ (n : Nat) (x3 : Int32) (M : Mem), GF p l e (Rm 1) s m args below meth c 4 D cy ad (AA ad) 0 0 (wfC N) (QM D cy ad (wfC N) below args s) finV (fTape_append_L4 b1 n x3 M) 4 [(0, .ref (ad 18)), (1, .int b1), (3, .int x3)] [] M := by
  intro n
  induction n with
  | zero => intro x3 M; exact g_none
  | succ n ih =>
    intro x3 M
    rw [fTape_append_L4]
    refine g_iload_n X dX6_append_4 2 rfl rfl ?_
    refine g_if_lt X 52 (by decide) dX6_append_5 (fun q5 => ?_) (fun q5 => ?_)
    · exact g_vret X hr rfl dX6_append_52
    · refine g_aload_n X dX6_append_8 0 rfl rfl ?_
      refine get_6_1 X (k := 18) k_18 s_18 m_1_37 dX6_append_9 ?_
      refine g_aload_n X dX6_append_12 0 rfl rfl ?_
      refine get_6_0 X (k := 18) k_18 s_18 m_1_36 dX6_append_13 ?_
      refine g_alenB X (k := 19) (v0 := 160) rfl k_19 s_19 dX6_append_16 ?_
      refine g_icmp_ge X 52 (by decide) dX6_append_17 (fun q17 => ?_) (fun q17 => ?_)
      · exact g_vret X hr rfl dX6_append_52
      · refine g_aload_n X dX6_append_20 0 rfl rfl ?_
        refine get_6_0 X (k := 18) k_18 s_18 m_1_36 dX6_append_21 ?_
        refine g_aload_n X dX6_append_24 0 rfl rfl ?_
        refine get_6_1 X (k := 18) k_18 s_18 m_1_37 dX6_append_25 ?_
        refine g_iload_n X dX6_append_28 1 rfl rfl ?_
        refine g_bipush X dX6_append_29 bi_8 ?_
        refine g_iload_n X dX6_append_31 2 rfl rfl ?_
        refine g_imul X dX6_append_32 ?_
        refine g_ishr X dX6_append_33 ?_
        refine g_i2b X dX6_append_34 ?_
        refine g_bast X (k := 19) (pk_vb _) k_19 s_19 dX6_append_35 (fun h2 => ?_)
        refine g_mlet X (fun M3 => ?_)
        refine g_aload_n X dX6_append_36 0 rfl rfl ?_
        refine g_dup X dX6_append_37 rfl ?_
        refine get_6_1 X (k := 18) k_18 s_18 m_1_37 dX6_append_38 ?_
        refine g_iconst X dX6_append_41 ic_1 ?_
        refine g_iadd X dX6_append_42 ?_
        refine put_6_1 X (k := 18) k_18 s_18 m_1_37 dX6_append_43 ?_
        refine g_mlet X (fun M4 => ?_)
        refine g_iinc X (k := 2) (v := (x3 + (-1))) dX6_append_46 rfl (ii_m1 _) (by decide) rfl [1, 2, 0] (lu := [(0, .ref (ad 18)), (1, .int b1), (3, .int (x3 + (-1)))]) rfl ?_
        refine g_goto X 4 (by decide) dX6_append_49 ?_
        exact ih (x3 + (-1)) M4
set_option maxRecDepth 100000 in
set_option maxHeartbeats 4000000 in
theorem tTape_append {l : Launch} {D : va_G} {cy : Nat → ClassId} {ad : Nat → Nat} {N : Mem} (M : Mem) (a1 : Int32) (a2 : Int32) {x : Mem} (h : fTape_append M a1 a2 = some x) : Mt l D cy ad yX6_append cX6_append 4 none 1 [.ref (ad 18), .int a1, .int a2] ((wfC N) M) (none, (wfC N) x) := by
  refine met_of (fin := finV) (lv0 := [(0, .ref (ad 18)), (1, .int a1), (2, .int a2)]) (by decide) (Nat.le_of_ble_eq_true rfl) rfl (lC N) h (fun p e s m args below meth c X hr => ?_)
  unfold fTape_append
  refine g_iload_n X dX6_append_0 2 rfl rfl ?_
  refine g_iconst X dX6_append_1 ic_1 ?_
  refine g_isub X dX6_append_2 ?_
  refine g_ilet X (fun v1 => ?_)
  refine g_istore_n X dX6_append_3 rfl (by decide) rfl [1, 2, 0] (lu := [(0, .ref (ad 18)), (1, .int a1), (3, .int v1)]) rfl ?_
  exact LTape_append_L4  X hr a1    FU v1 M
