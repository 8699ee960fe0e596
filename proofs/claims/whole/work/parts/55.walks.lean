set_option maxRecDepth 100000 in
set_option maxHeartbeats 4000000 in
theorem tm_element {l : Launch} {D : va_G} {cy : Nat → ClassId} {ad : Nat → Nat} {N : Mem} (M : Mem) (a1 : Int32) (a2 : Int32) {x : Int64} (h : fm_element M a1 a2 = some x) : Mt l D cy ad yX11_element cX11_element 3 (some .long) 2 [.ref (ad 138), .int a1, .int a2] ((wfM N) M) (some (.long x), (wfM N) M) := by
  refine met_of (fin := (finJ M)) (lv0 := [(0, .ref (ad 138)), (1, .int a1), (2, .int a2)]) (by decide) (Nat.le_of_ble_eq_true rfl) rfl (lM N) h (fun p e s m args below meth c X hr => ?_)
  unfold fm_element
  refine g_aload_n X dX11_element_0 0 rfl rfl ?_
  refine g_iload_n X dX11_element_1 1 rfl rfl ?_
  refine g_ct X (v0 := .int (fm_isShelfT M a1)) (st := []) (ok_V X (k0 := 138) (As := [.int a1]) wkX11_isShelf (tm_isShelfT M a1) rfl k_138 s_138 (by decide) rfl m_5_150 rfl (hRm (by decide) (by decide)) ⟨Nat.zero_le _, Nat.zero_le _⟩ (Nat.le_of_ble_eq_true rfl) dX11_element_2) ?_
  refine g_if_eq X 30 (by decide) dX11_element_5 (fun q5 => ?_) (fun q5 => ?_)
  · refine g_lconst X (v := 0) dX11_element_30 (by decide) ?_
    exact g_lret X hr rfl dX11_element_31
  · refine g_aload_n X dX11_element_8 0 rfl rfl ?_
    refine g_iload_n X dX11_element_9 1 rfl rfl ?_
    refine g_ci X (st := []) (fun _ hh => ok_V X (k0 := 138) (As := [.int a1]) wkX11_isRow (tm_isRow M a1 hh) rfl k_138 s_138 (by decide) rfl m_5_174 rfl (hRm (by decide) (by decide)) ⟨Nat.zero_le _, Nat.zero_le _⟩ (Nat.le_of_ble_eq_true rfl) dX11_element_10) (fun r1 _ => ?_)
    refine g_if_eq X 30 (by decide) dX11_element_13 (fun q13 => ?_) (fun q13 => ?_)
    · refine g_lconst X (v := 0) dX11_element_30 (by decide) ?_
      exact g_lret X hr rfl dX11_element_31
    · refine g_iload_n X dX11_element_16 2 rfl rfl ?_
      refine g_if_lt X 30 (by decide) dX11_element_17 (fun q17 => ?_) (fun q17 => ?_)
      · refine g_lconst X (v := 0) dX11_element_30 (by decide) ?_
        exact g_lret X hr rfl dX11_element_31
      · refine g_iload_n X dX11_element_20 2 rfl rfl ?_
        refine g_aload_n X dX11_element_21 0 rfl rfl ?_
        refine get_11_1 X (k := 138) k_138 s_138 m_5_62 dX11_element_22 ?_
        refine g_iload_n X dX11_element_25 1 rfl rfl ?_
        refine g_iald X (n := 8) (k := 140) k_140 s_140 dX11_element_26 (fun h2 => ?_)
        refine g_icmp_lt X 32 (by decide) dX11_element_27 (fun q27 => ?_) (fun q27 => ?_)
        · refine g_aload_n X dX11_element_32 0 rfl rfl ?_
          refine get_11_2 X (k := 138) k_138 s_138 m_5_63 dX11_element_33 ?_
          refine g_bipush X dX11_element_36 bi_40 ?_
          refine g_iload_n X dX11_element_38 1 rfl rfl ?_
          refine g_imul X dX11_element_39 ?_
          refine g_iload_n X dX11_element_40 2 rfl rfl ?_
          refine g_iadd X dX11_element_41 ?_
          refine g_lald23 X (k := 141) k_141 s_141 dX11_element_42 (fun h3 => ?_)
          exact g_lret X hr rfl dX11_element_43
        · refine g_lconst X (v := 0) dX11_element_30 (by decide) ?_
          exact g_lret X hr rfl dX11_element_31
set_option maxRecDepth 100000 in
set_option maxHeartbeats 4000000 in
theorem tm_holds {l : Launch} {D : va_G} {cy : Nat → ClassId} {ad : Nat → Nat} {N : Mem} (M : Mem) (a1 : Int32) {x : Int32} (h : fm_holds M a1 = some x) : Mt l D cy ad yX11_holds cX11_holds 2 (some .int) 2 [.ref (ad 138), .int a1] ((wfM N) M) (some (.int x), (wfM N) M) := by
  refine met_of (fin := (finI M)) (lv0 := [(0, .ref (ad 138)), (1, .int a1)]) (by decide) (Nat.le_of_ble_eq_true rfl) rfl (lM N) h (fun p e s m args below meth c X hr => ?_)
  unfold fm_holds
  refine g_aload_n X dX11_holds_0 0 rfl rfl ?_
  refine g_iload_n X dX11_holds_1 1 rfl rfl ?_
  refine g_ct X (v0 := .int (fm_isShelfT M a1)) (st := []) (ok_V X (k0 := 138) (As := [.int a1]) wkX11_isShelf (tm_isShelfT M a1) rfl k_138 s_138 (by decide) rfl m_5_150 rfl (hRm (by decide) (by decide)) ⟨Nat.zero_le _, Nat.zero_le _⟩ (Nat.le_of_ble_eq_true rfl) dX11_holds_2) ?_
  refine g_if_eq X 17 (by decide) dX11_holds_5 (fun q5 => ?_) (fun q5 => ?_)
  · refine g_iconst X dX11_holds_17 ic_m1 ?_
    exact g_iret X hr rfl dX11_holds_18
  · refine g_aload_n X dX11_holds_8 0 rfl rfl ?_
    refine get_11_0 X (k := 138) k_138 s_138 m_5_61 dX11_holds_9 ?_
    refine g_iload_n X dX11_holds_12 1 rfl rfl ?_
    refine g_iald X (n := 8) (k := 139) k_139 s_139 dX11_holds_13 (fun h1 => ?_)
    refine g_if_ge X 19 (by decide) dX11_holds_14 (fun q14 => ?_) (fun q14 => ?_)
    · refine g_aload_n X dX11_holds_19 0 rfl rfl ?_
      refine g_iload_n X dX11_holds_20 1 rfl rfl ?_
      refine g_ci X (st := []) (fun _ hh => ok_V X (k0 := 138) (As := [.int a1]) wkX11_isRow (tm_isRow M a1 hh) rfl k_138 s_138 (by decide) rfl m_5_174 rfl (hRm (by decide) (by decide)) ⟨Nat.zero_le _, Nat.zero_le _⟩ (Nat.le_of_ble_eq_true rfl) dX11_holds_21) (fun r2 _ => ?_)
      refine g_if_eq X 39 (by decide) dX11_holds_24 (fun q24 => ?_) (fun q24 => ?_)
      · refine g_bipush X dX11_holds_39 bi_10 ?_
        refine g_aload_n X dX11_holds_41 0 rfl rfl ?_
        refine get_11_0 X (k := 138) k_138 s_138 m_5_61 dX11_holds_42 ?_
        refine g_iload_n X dX11_holds_45 1 rfl rfl ?_
        refine g_iald X (n := 8) (k := 139) k_139 s_139 dX11_holds_46 (fun h3 => ?_)
        refine g_iadd X dX11_holds_47 ?_
        exact g_iret X hr rfl dX11_holds_48
      · refine g_aload_n X dX11_holds_27 0 rfl rfl ?_
        refine get_11_0 X (k := 138) k_138 s_138 m_5_61 dX11_holds_28 ?_
        refine g_iload_n X dX11_holds_31 1 rfl rfl ?_
        refine g_iald X (n := 8) (k := 139) k_139 s_139 dX11_holds_32 (fun h4 => ?_)
        refine g_bipush X dX11_holds_33 bi_100 ?_
        refine g_isub X dX11_holds_35 ?_
        refine g_goto X 48 (by decide) dX11_holds_36 ?_
        exact g_iret X hr rfl dX11_holds_48
    · refine g_iconst X dX11_holds_17 ic_m1 ?_
      exact g_iret X hr rfl dX11_holds_18
set_option maxRecDepth 100000 in
set_option maxHeartbeats 4000000 in
theorem tm_isJetty {l : Launch} {D : va_G} {cy : Nat → ClassId} {ad : Nat → Nat} {N : Mem} (M : Mem) (a1 : Int32) {x : Int32} (h : fm_isJetty M a1 = some x) : Mt l D cy ad yX11_isJetty cX11_isJetty 2 (some .boolean) 1 [.ref (ad 138), .int a1] ((wfM N) M) (some (.int x), (wfM N) M) := by
  refine met_of (fin := (finI M)) (lv0 := [(0, .ref (ad 138)), (1, .int a1)]) (by decide) (Nat.le_of_ble_eq_true rfl) rfl (lM N) h (fun p e s m args below meth c X hr => ?_)
  unfold fm_isJetty
  refine g_iload_n X dX11_isJetty_0 1 rfl rfl ?_
  refine g_if_lt X 18 (by decide) dX11_isJetty_1 (fun q1 => ?_) (fun q1 => ?_)
  · refine g_iconst X dX11_isJetty_18 ic_0 ?_
    exact g_zret X hr (isB_n (by decide)) rfl dX11_isJetty_19
  · refine g_iload_n X dX11_isJetty_4 1 rfl rfl ?_
    refine g_aload_n X dX11_isJetty_5 0 rfl rfl ?_
    refine get_11_18 X (k := 138) k_138 s_138 m_5_79 dX11_isJetty_6 ?_
    refine g_iconst X dX11_isJetty_9 ic_0 ?_
    refine g_ialdC X (n := 9) (k := 156) k_156 s_156 (by decide) dX11_isJetty_10 ?_
    refine g_icmp_ge X 18 (by decide) dX11_isJetty_11 (fun q11 => ?_) (fun q11 => ?_)
    · refine g_iconst X dX11_isJetty_18 ic_0 ?_
      exact g_zret X hr (isB_n (by decide)) rfl dX11_isJetty_19
    · refine g_iconst X dX11_isJetty_14 ic_1 ?_
      refine g_goto X 19 (by decide) dX11_isJetty_15 ?_
      exact g_zret X hr (isB_n (by decide)) rfl dX11_isJetty_19
theorem tm_isJettyT {l : Launch} {D : va_G} {cy : Nat → ClassId} {ad : Nat → Nat} {N : Mem} (M : Mem) (a1 : Int32) : Mt l D cy ad yX11_isJetty cX11_isJetty 2 (some .boolean) 1 [.ref (ad 138), .int a1] ((wfM N) M) (some (.int (fm_isJettyT M a1)), (wfM N) M) := tm_isJetty M a1 (fm_isJettyE M a1)
set_option maxRecDepth 100000 in
set_option maxHeartbeats 4000000 in
theorem tm_show {l : Launch} {D : va_G} {cy : Nat → ClassId} {ad : Nat → Nat} {N : Mem} (M : Mem) (a1 : Int32) (a2 : Int32) {x : (Int32 × Mem)} (h : fm_show M a1 a2 = some x) : Mt l D cy ad yX11_show cX11_show 3 (some .int) 2 [.ref (ad 138), .int a1, .int a2] ((wfM N) M) (some (.int x.1), (wfM N) x.2) := by
  refine met_of (fin := finS) (lv0 := [(0, .ref (ad 138)), (1, .int a1), (2, .int a2)]) (by decide) (Nat.le_of_ble_eq_true rfl) rfl (lM N) h (fun p e s m args below meth c X hr => ?_)
  unfold fm_show
  refine g_aload_n X dX11_show_0 0 rfl rfl ?_
  refine g_iload_n X dX11_show_1 1 rfl rfl ?_
  refine g_ct X (v0 := .int (fm_isShelfT M a1)) (st := []) (ok_V X (k0 := 138) (As := [.int a1]) wkX11_isShelf (tm_isShelfT M a1) rfl k_138 s_138 (by decide) rfl m_5_150 rfl (hRm (by decide) (by decide)) ⟨Nat.zero_le _, Nat.zero_le _⟩ (Nat.le_of_ble_eq_true rfl) dX11_show_2) ?_
  refine g_if_eq X 21 (by decide) dX11_show_5 (fun q5 => ?_) (fun q5 => ?_)
  · refine g_aload_n X dX11_show_21 0 rfl rfl ?_
    refine g_bipush X dX11_show_22 bi_m2 ?_
    refine g_cs X (st := []) (fun _ hh => ok_V X (k0 := 138) (As := [.int (-2)]) wkX11_no (tm_no M (-2) hh) rfl k_138 s_138 (by decide) rfl m_5_154 rfl (hRm (by decide) (by decide)) ⟨Nat.zero_le _, Nat.zero_le _⟩ (Nat.le_of_ble_eq_true rfl) dX11_show_24) (fun r2 M1 _ => ?_)
    exact g_iret X hr rfl dX11_show_27
  · refine g_iload_n X dX11_show_8 2 rfl rfl ?_
    refine g_iconst X dX11_show_9 ic_m1 ?_
    refine g_icmp_eq X 28 (by decide) dX11_show_10 (fun q10 => ?_) (fun q10 => ?_)
    · refine g_aload_n X dX11_show_28 0 rfl rfl ?_
      refine get_11_0 X (k := 138) k_138 s_138 m_5_61 dX11_show_29 ?_
      refine g_iload_n X dX11_show_32 1 rfl rfl ?_
      refine g_iload_n X dX11_show_33 2 rfl rfl ?_
      refine g_iast X (n := 8) (k := 139) k_139 s_139 dX11_show_34 (fun h3 => ?_)
      refine g_mlet X (fun M4 => ?_)
      refine g_iconst X dX11_show_35 ic_1 ?_
      exact g_iret X hr rfl dX11_show_36
    · refine g_aload_n X dX11_show_13 0 rfl rfl ?_
      refine g_iload_n X dX11_show_14 2 rfl rfl ?_
      refine g_ct X (v0 := .int (fm_isJettyT M a2)) (st := []) (ok_V X (k0 := 138) (As := [.int a2]) wkX11_isJetty (tm_isJettyT M a2) rfl k_138 s_138 (by decide) rfl m_5_190 rfl (hRm (by decide) (by decide)) ⟨Nat.zero_le _, Nat.zero_le _⟩ (Nat.le_of_ble_eq_true rfl) dX11_show_15) ?_
      refine g_if_ne X 28 (by decide) dX11_show_18 (fun q18 => ?_) (fun q18 => ?_)
      · refine g_aload_n X dX11_show_28 0 rfl rfl ?_
        refine get_11_0 X (k := 138) k_138 s_138 m_5_61 dX11_show_29 ?_
        refine g_iload_n X dX11_show_32 1 rfl rfl ?_
        refine g_iload_n X dX11_show_33 2 rfl rfl ?_
        refine g_iast X (n := 8) (k := 139) k_139 s_139 dX11_show_34 (fun h5 => ?_)
        refine g_mlet X (fun M6 => ?_)
        refine g_iconst X dX11_show_35 ic_1 ?_
        exact g_iret X hr rfl dX11_show_36
      · refine g_aload_n X dX11_show_21 0 rfl rfl ?_
        refine g_bipush X dX11_show_22 bi_m2 ?_
        refine g_cs X (st := []) (fun _ hh => ok_V X (k0 := 138) (As := [.int (-2)]) wkX11_no (tm_no M (-2) hh) rfl k_138 s_138 (by decide) rfl m_5_154 rfl (hRm (by decide) (by decide)) ⟨Nat.zero_le _, Nat.zero_le _⟩ (Nat.le_of_ble_eq_true rfl) dX11_show_24) (fun r8 M7 _ => ?_)
        exact g_iret X hr rfl dX11_show_27
set_option maxRecDepth 100000 in
set_option maxHeartbeats 4000000 in
theorem tm_isUnder {l : Launch} {D : va_G} {cy : Nat → ClassId} {ad : Nat → Nat} {N : Mem} (M : Mem) (a1 : Int32) (a2 : Int32) {x : Int32} (h : fm_isUnder M a1 a2 = some x) : Mt l D cy ad yX11_isUnder cX11_isUnder 3 (some .boolean) 1 [.ref (ad 138), .int a1, .int a2] ((wfM N) M) (some (.int x), (wfM N) M) := by
  refine met_of (fin := (finI M)) (lv0 := [(0, .ref (ad 138)), (1, .int a1), (2, .int a2)]) (by decide) (Nat.le_of_ble_eq_true rfl) rfl (lM N) h (fun p e s m args below meth c X hr => ?_)
  unfold fm_isUnder
  refine g_iload_n X dX11_isUnder_0 2 rfl rfl ?_
  refine g_if_eq X 9 (by decide) dX11_isUnder_1 (fun q1 => ?_) (fun q1 => ?_)
  · refine g_iconst X dX11_isUnder_9 ic_1 ?_
    exact g_zret X hr (isB_n (by decide)) rfl dX11_isUnder_10
  · refine g_iload_n X dX11_isUnder_4 1 rfl rfl ?_
    refine g_iload_n X dX11_isUnder_5 2 rfl rfl ?_
    refine g_icmp_ne X 11 (by decide) dX11_isUnder_6 (fun q6 => ?_) (fun q6 => ?_)
    · refine g_iload_n X dX11_isUnder_11 2 rfl rfl ?_
      refine g_iconst X dX11_isUnder_12 ic_1 ?_
      refine g_icmp_ne X 21 (by decide) dX11_isUnder_13 (fun q13 => ?_) (fun q13 => ?_)
      · refine g_iload_n X dX11_isUnder_21 2 rfl rfl ?_
        refine g_iconst X dX11_isUnder_22 ic_3 ?_
        refine g_icmp_ne X 35 (by decide) dX11_isUnder_23 (fun q23 => ?_) (fun q23 => ?_)
        · refine g_iconst X dX11_isUnder_35 ic_0 ?_
          exact g_zret X hr (isB_n (by decide)) rfl dX11_isUnder_36
        · refine g_iload_n X dX11_isUnder_26 1 rfl rfl ?_
          refine g_iconst X dX11_isUnder_27 ic_4 ?_
          refine g_icmp_ne X 35 (by decide) dX11_isUnder_28 (fun q28 => ?_) (fun q28 => ?_)
          · refine g_iconst X dX11_isUnder_35 ic_0 ?_
            exact g_zret X hr (isB_n (by decide)) rfl dX11_isUnder_36
          · refine g_iconst X dX11_isUnder_31 ic_1 ?_
            refine g_goto X 36 (by decide) dX11_isUnder_32 ?_
            exact g_zret X hr (isB_n (by decide)) rfl dX11_isUnder_36
      · refine g_iload_n X dX11_isUnder_16 1 rfl rfl ?_
        refine g_iconst X dX11_isUnder_17 ic_2 ?_
        refine g_icmp_eq X 31 (by decide) dX11_isUnder_18 (fun q18 => ?_) (fun q18 => ?_)
        · refine g_iconst X dX11_isUnder_31 ic_1 ?_
          refine g_goto X 36 (by decide) dX11_isUnder_32 ?_
          exact g_zret X hr (isB_n (by decide)) rfl dX11_isUnder_36
        · refine g_iload_n X dX11_isUnder_21 2 rfl rfl ?_
          refine g_iconst X dX11_isUnder_22 ic_3 ?_
          refine g_icmp_ne X 35 (by decide) dX11_isUnder_23 (fun q23 => ?_) (fun q23 => ?_)
          · refine g_iconst X dX11_isUnder_35 ic_0 ?_
            exact g_zret X hr (isB_n (by decide)) rfl dX11_isUnder_36
          · refine g_iload_n X dX11_isUnder_26 1 rfl rfl ?_
            refine g_iconst X dX11_isUnder_27 ic_4 ?_
            refine g_icmp_ne X 35 (by decide) dX11_isUnder_28 (fun q28 => ?_) (fun q28 => ?_)
            · refine g_iconst X dX11_isUnder_35 ic_0 ?_
              exact g_zret X hr (isB_n (by decide)) rfl dX11_isUnder_36
            · refine g_iconst X dX11_isUnder_31 ic_1 ?_
              refine g_goto X 36 (by decide) dX11_isUnder_32 ?_
              exact g_zret X hr (isB_n (by decide)) rfl dX11_isUnder_36
    · refine g_iconst X dX11_isUnder_9 ic_1 ?_
      exact g_zret X hr (isB_n (by decide)) rfl dX11_isUnder_10
theorem tm_isUnderT {l : Launch} {D : va_G} {cy : Nat → ClassId} {ad : Nat → Nat} {N : Mem} (M : Mem) (a1 : Int32) (a2 : Int32) : Mt l D cy ad yX11_isUnder cX11_isUnder 3 (some .boolean) 1 [.ref (ad 138), .int a1, .int a2] ((wfM N) M) (some (.int (fm_isUnderT M a1 a2)), (wfM N) M) := tm_isUnder M a1 a2 (fm_isUnderE M a1 a2)
set_option maxRecDepth 100000 in
set_option maxHeartbeats 4000000 in
theorem tm_riseAt {l : Launch} {D : va_G} {cy : Nat → ClassId} {ad : Nat → Nat} {N : Mem} (M : Mem) (a1 : Int32) (a2 : Int32) {x : Int32} (h : fm_riseAt M a1 a2 = some x) : Mt l D cy ad yX11_riseAt cX11_riseAt 6 (some .int) 1 [.ref (ad 138), .int a1, .int a2] ((wfM N) M) (some (.int x), (wfM N) M) := by
  refine met_of (fin := (finI M)) (lv0 := [(0, .ref (ad 138)), (1, .int a1), (2, .int a2)]) (by decide) (Nat.le_of_ble_eq_true rfl) rfl (lM N) h (fun p e s m args below meth c X hr => ?_)
  unfold fm_riseAt
  refine g_aload_n X dX11_riseAt_0 0 rfl rfl ?_
  refine get_11_3 X (k := 138) k_138 s_138 m_5_64 dX11_riseAt_1 ?_
  refine g_iload_n X dX11_riseAt_4 1 rfl rfl ?_
  refine g_iald X (n := 20) (k := 142) k_142 s_142 dX11_riseAt_5 (fun h1 => ?_)
  refine g_ilet X (fun v2 => ?_)
  refine g_istore_n X dX11_riseAt_6 rfl (by decide) rfl [1, 2, 3, 0] (lu := [(0, .ref (ad 138)), (1, .int a1), (2, .int a2), (3, .int v2)]) rfl ?_
  refine g_aload_n X dX11_riseAt_7 0 rfl rfl ?_
  refine get_11_6 X (k := 138) k_138 s_138 m_5_67 dX11_riseAt_8 ?_
  refine g_iload_n X dX11_riseAt_11 1 rfl rfl ?_
  refine g_iald X (n := 20) (k := 145) k_145 s_145 dX11_riseAt_12 (fun h3 => ?_)
  refine g_ilet X (fun v4 => ?_)
  refine g_istore X dX11_riseAt_13 (by decide) rfl [3, 4, 0] (lu := [(2, .int a2), (3, .int v2), (4, .int v4)]) rfl ?_
  refine g_iload_n X dX11_riseAt_15 1 rfl rfl ?_
  refine g_iconst X dX11_riseAt_16 ic_3 ?_
  refine g_icmp_ne X 23 (by decide) dX11_riseAt_17 (fun q17 => ?_) (fun q17 => ?_)
  · refine g_iload_n X dX11_riseAt_23 1 rfl rfl ?_
    refine g_iconst X dX11_riseAt_24 ic_4 ?_
    refine g_icmp_ne X 33 (by decide) dX11_riseAt_25 (fun q25 => ?_) (fun q25 => ?_)
    · refine g_iload_n X dX11_riseAt_33 1 rfl rfl ?_
      refine g_if_eq X 42 (by decide) dX11_riseAt_34 (fun q34 => ?_) (fun q34 => ?_)
      · refine g_iload X dX11_riseAt_42 2 rfl ?_
        refine g_iload_n X dX11_riseAt_44 0 rfl rfl ?_
        refine g_isub X dX11_riseAt_45 ?_
        exact g_iret X hr rfl dX11_riseAt_46
      · refine g_iload_n X dX11_riseAt_37 1 rfl rfl ?_
        refine g_iconst X dX11_riseAt_38 ic_5 ?_
        refine g_icmp_ne X 47 (by decide) dX11_riseAt_39 (fun q39 => ?_) (fun q39 => ?_)
        · refine g_iload X dX11_riseAt_47 2 rfl ?_
          refine g_iload_n X dX11_riseAt_49 0 rfl rfl ?_
          refine g_isub X dX11_riseAt_50 ?_
          refine g_bipush X dX11_riseAt_51 bi_10 ?_
          refine g_isub X dX11_riseAt_53 ?_
          refine g_ilet X (fun v5 => ?_)
          refine g_istore X dX11_riseAt_54 (by decide) rfl [2, 0] (lu := [(3, .int v2), (5, .int v5)]) rfl ?_
          refine g_iload_n X dX11_riseAt_56 0 rfl rfl ?_
          refine g_iconst X dX11_riseAt_57 ic_2 ?_
          refine g_icmp_ne X 70 (by decide) dX11_riseAt_58 (fun q58 => ?_) (fun q58 => ?_)
          · refine g_iload X dX11_riseAt_70 1 rfl ?_
            exact g_iret X hr rfl dX11_riseAt_72
          · refine g_iload X dX11_riseAt_61 1 rfl ?_
            refine g_if_ge X 70 (by decide) dX11_riseAt_63 (fun q63 => ?_) (fun q63 => ?_)
            · refine g_iload X dX11_riseAt_70 1 rfl ?_
              exact g_iret X hr rfl dX11_riseAt_72
            · refine g_iconst X dX11_riseAt_66 ic_0 ?_
              refine g_goto X 72 (by decide) dX11_riseAt_67 ?_
              exact g_iret X hr rfl dX11_riseAt_72
        · refine g_iload X dX11_riseAt_42 2 rfl ?_
          refine g_iload_n X dX11_riseAt_44 0 rfl rfl ?_
          refine g_isub X dX11_riseAt_45 ?_
          exact g_iret X hr rfl dX11_riseAt_46
    · refine g_iload X dX11_riseAt_28 2 rfl ?_
      refine g_iconst X dX11_riseAt_30 ic_2 ?_
      refine g_idivC X dX11_riseAt_31 (by decide) ?_
      exact g_iret X hr rfl dX11_riseAt_32
  · refine g_iload X dX11_riseAt_20 2 rfl ?_
    exact g_iret X hr rfl dX11_riseAt_22
set_option maxRecDepth 100000 in
set_option maxHeartbeats 4000000 in
theorem tm_paces {l : Launch} {D : va_G} {cy : Nat → ClassId} {ad : Nat → Nat} {N : Mem} (M : Mem) (a1 : Int32) {x : Int32} (h : fm_paces M a1 = some x) : Mt l D cy ad yX11_paces cX11_paces 4 (some .int) 1 [.ref (ad 138), .int a1] ((wfM N) M) (some (.int x), (wfM N) M) := by
  refine met_of (fin := (finI M)) (lv0 := [(0, .ref (ad 138)), (1, .int a1)]) (by decide) (Nat.le_of_ble_eq_true rfl) rfl (lM N) h (fun p e s m args below meth c X hr => ?_)
  unfold fm_paces
  refine g_aload_n X dX11_paces_0 0 rfl rfl ?_
  refine get_11_3 X (k := 138) k_138 s_138 m_5_64 dX11_paces_1 ?_
  refine g_iload_n X dX11_paces_4 1 rfl rfl ?_
  refine g_iald X (n := 20) (k := 142) k_142 s_142 dX11_paces_5 (fun h1 => ?_)
  refine g_ilet X (fun v2 => ?_)
  refine g_istore_n X dX11_paces_6 rfl (by decide) rfl [1, 2, 0] (lu := [(0, .ref (ad 138)), (1, .int a1), (2, .int v2)]) rfl ?_
  refine g_aload_n X dX11_paces_7 0 rfl rfl ?_
  refine get_11_5 X (k := 138) k_138 s_138 m_5_66 dX11_paces_8 ?_
  refine g_iload_n X dX11_paces_11 1 rfl rfl ?_
  refine g_iald X (n := 20) (k := 144) k_144 s_144 dX11_paces_12 (fun h3 => ?_)
  refine g_ilet X (fun v4 => ?_)
  refine g_istore_n X dX11_paces_13 rfl (by decide) rfl [3, 0] (lu := [(2, .int v2), (3, .int v4)]) rfl ?_
  refine g_iload_n X dX11_paces_14 0 rfl rfl ?_
  refine g_if_eq X 23 (by decide) dX11_paces_15 (fun q15 => ?_) (fun q15 => ?_)
  · refine g_iload_n X dX11_paces_23 1 rfl rfl ?_
    exact g_iret X hr rfl dX11_paces_24
  · refine g_iload_n X dX11_paces_18 0 rfl rfl ?_
    refine g_iconst X dX11_paces_19 ic_3 ?_
    refine g_icmp_ne X 25 (by decide) dX11_paces_20 (fun q20 => ?_) (fun q20 => ?_)
    · refine g_iload_n X dX11_paces_25 0 rfl rfl ?_
      refine g_iconst X dX11_paces_26 ic_1 ?_
      refine g_icmp_ne X 34 (by decide) dX11_paces_27 (fun q27 => ?_) (fun q27 => ?_)
      · refine g_iload_n X dX11_paces_34 0 rfl rfl ?_
        refine g_iconst X dX11_paces_35 ic_2 ?_
        refine g_icmp_ne X 45 (by decide) dX11_paces_36 (fun q36 => ?_) (fun q36 => ?_)
        · refine g_iload_n X dX11_paces_45 0 rfl rfl ?_
          refine g_iconst X dX11_paces_46 ic_4 ?_
          refine g_icmp_ne X 56 (by decide) dX11_paces_47 (fun q47 => ?_) (fun q47 => ?_)
          · refine g_iconst X dX11_paces_56 ic_1 ?_
            exact g_iret X hr rfl dX11_paces_57
          · refine g_iload_n X dX11_paces_50 1 rfl rfl ?_
            refine g_iconst X dX11_paces_51 ic_2 ?_
            refine g_iadd X dX11_paces_52 ?_
            refine g_goto X 57 (by decide) dX11_paces_53 ?_
            exact g_iret X hr rfl dX11_paces_57
        · refine g_iconst X dX11_paces_39 ic_2 ?_
          refine g_iload_n X dX11_paces_40 1 rfl rfl ?_
          refine g_imul X dX11_paces_41 ?_
          refine g_iconst X dX11_paces_42 ic_4 ?_
          refine g_iadd X dX11_paces_43 ?_
          exact g_iret X hr rfl dX11_paces_44
      · refine g_iconst X dX11_paces_30 ic_2 ?_
        refine g_iload_n X dX11_paces_31 1 rfl rfl ?_
        refine g_imul X dX11_paces_32 ?_
        exact g_iret X hr rfl dX11_paces_33
    · refine g_iload_n X dX11_paces_23 1 rfl rfl ?_
      exact g_iret X hr rfl dX11_paces_24
set_option maxRecDepth 100000 in
set_option maxHeartbeats 4000000 in
theorem tm_says {l : Launch} {D : va_G} {cy : Nat → ClassId} {ad : Nat → Nat} {N : Mem} (M : Mem) (a1 : Int32) (a2 : Int32) {x : (Int32 × Mem)} (h : fm_says M a1 a2 = some x) : Mt l D cy ad yX11_says cX11_says 4 (some .int) 2 [.ref (ad 138), .int a1, .int a2] ((wfM N) M) (some (.int x.1), (wfM N) x.2) := by
  refine met_of (fin := finS) (lv0 := [(0, .ref (ad 138)), (1, .int a1), (2, .int a2)]) (by decide) (Nat.le_of_ble_eq_true rfl) rfl (lM N) h (fun p e s m args below meth c X hr => ?_)
  unfold fm_says
  refine g_aload_n X dX11_says_0 0 rfl rfl ?_
  refine g_iload_n X dX11_says_1 1 rfl rfl ?_
  refine g_ct X (v0 := .int (fm_isShelfT M a1)) (st := []) (ok_V X (k0 := 138) (As := [.int a1]) wkX11_isShelf (tm_isShelfT M a1) rfl k_138 s_138 (by decide) rfl m_5_150 rfl (hRm (by decide) (by decide)) ⟨Nat.zero_le _, Nat.zero_le _⟩ (Nat.le_of_ble_eq_true rfl) dX11_says_2) ?_
  refine g_if_eq X 17 (by decide) dX11_says_5 (fun q5 => ?_) (fun q5 => ?_)
  · refine g_aload_n X dX11_says_17 0 rfl rfl ?_
    refine g_bipush X dX11_says_18 bi_m2 ?_
    refine g_cs X (st := []) (fun _ hh => ok_V X (k0 := 138) (As := [.int (-2)]) wkX11_no (tm_no M (-2) hh) rfl k_138 s_138 (by decide) rfl m_5_154 rfl (hRm (by decide) (by decide)) ⟨Nat.zero_le _, Nat.zero_le _⟩ (Nat.le_of_ble_eq_true rfl) dX11_says_20) (fun r2 M1 _ => ?_)
    exact g_iret X hr rfl dX11_says_23
  · refine g_iload_n X dX11_says_8 2 rfl rfl ?_
    refine g_if_lt X 17 (by decide) dX11_says_9 (fun q9 => ?_) (fun q9 => ?_)
    · refine g_aload_n X dX11_says_17 0 rfl rfl ?_
      refine g_bipush X dX11_says_18 bi_m2 ?_
      refine g_cs X (st := []) (fun _ hh => ok_V X (k0 := 138) (As := [.int (-2)]) wkX11_no (tm_no M (-2) hh) rfl k_138 s_138 (by decide) rfl m_5_154 rfl (hRm (by decide) (by decide)) ⟨Nat.zero_le _, Nat.zero_le _⟩ (Nat.le_of_ble_eq_true rfl) dX11_says_20) (fun r4 M3 _ => ?_)
      exact g_iret X hr rfl dX11_says_23
    · refine g_iload_n X dX11_says_12 2 rfl rfl ?_
      refine g_iconst X dX11_says_13 ic_5 ?_
      refine g_icmp_le X 24 (by decide) dX11_says_14 (fun q14 => ?_) (fun q14 => ?_)
      · refine g_aload_n X dX11_says_24 0 rfl rfl ?_
        refine g_iload_n X dX11_says_25 1 rfl rfl ?_
        refine g_ci X (st := []) (fun _ hh => ok_V X (k0 := 138) (As := [.int a1]) wkX11_isRow (tm_isRow M a1 hh) rfl k_138 s_138 (by decide) rfl m_5_174 rfl (hRm (by decide) (by decide)) ⟨Nat.zero_le _, Nat.zero_le _⟩ (Nat.le_of_ble_eq_true rfl) dX11_says_26) (fun r5 _ => ?_)
        refine g_if_eq X 39 (by decide) dX11_says_29 (fun q29 => ?_) (fun q29 => ?_)
        · refine g_aload_n X dX11_says_39 0 rfl rfl ?_
          refine get_11_0 X (k := 138) k_138 s_138 m_5_61 dX11_says_40 ?_
          refine g_iload_n X dX11_says_43 1 rfl rfl ?_
          refine g_iald X (n := 8) (k := 139) k_139 s_139 dX11_says_44 (fun h6 => ?_)
          refine g_if_ge X 55 (by decide) dX11_says_45 (fun q45 => ?_) (fun q45 => ?_)
          · refine g_aload_n X dX11_says_55 0 rfl rfl ?_
            refine get_11_0 X (k := 138) k_138 s_138 m_5_61 dX11_says_56 ?_
            refine g_iload_n X dX11_says_59 1 rfl rfl ?_
            refine g_iald X (n := 8) (k := 139) k_139 s_139 dX11_says_60 (fun h7 => ?_)
            refine g_ilet X (fun v8 => ?_)
            refine g_istore_n X dX11_says_61 rfl (by decide) rfl [1, 3, 0] (lu := [(0, .ref (ad 138)), (2, .int a2), (3, .int v8)]) rfl ?_
            refine g_aload_n X dX11_says_62 0 rfl rfl ?_
            refine g_aload_n X dX11_says_63 0 rfl rfl ?_
            refine get_11_3 X (k := 138) k_138 s_138 m_5_64 dX11_says_64 ?_
            refine g_iload_n X dX11_says_67 2 rfl rfl ?_
            refine g_iald X (n := 20) (k := 142) k_142 s_142 dX11_says_68 (fun h9 => ?_)
            refine g_iload_n X dX11_says_69 1 rfl rfl ?_
            refine g_ct X (v0 := .int (fm_isUnderT M (M.1 142 (ix v8)) a2)) (st := []) (ok_V X (k0 := 138) (As := [.int (M.1 142 (ix v8)), .int a2]) wkX11_isUnder (tm_isUnderT M (M.1 142 (ix v8)) a2) rfl k_138 s_138 (by decide) rfl m_5_198 rfl (hRm (by decide) (by decide)) ⟨Nat.zero_le _, Nat.zero_le _⟩ (Nat.le_of_ble_eq_true rfl) dX11_says_70) ?_
            refine g_if_ne X 83 (by decide) dX11_says_73 (fun q73 => ?_) (fun q73 => ?_)
            · refine g_iload_n X dX11_says_83 1 rfl rfl ?_
              refine g_if_ne X 94 (by decide) dX11_says_84 (fun q84 => ?_) (fun q84 => ?_)
              · refine g_iload_n X dX11_says_94 1 rfl rfl ?_
                refine g_iconst X dX11_says_95 ic_3 ?_
                refine g_icmp_ge X 105 (by decide) dX11_says_96 (fun q96 => ?_) (fun q96 => ?_)
                · refine g_iload_n X dX11_says_105 1 rfl rfl ?_
                  refine g_iconst X dX11_says_106 ic_5 ?_
                  refine g_icmp_ge X 124 (by decide) dX11_says_107 (fun q107 => ?_) (fun q107 => ?_)
                  · refine g_aload_n X dX11_says_124 0 rfl rfl ?_
                    refine get_11_7 X (k := 138) k_138 s_138 m_5_68 dX11_says_125 ?_
                    refine g_iload_n X dX11_says_128 2 rfl rfl ?_
                    refine g_iald X (n := 20) (k := 146) k_146 s_146 dX11_says_129 (fun h10 => ?_)
                    exact g_iret X hr rfl dX11_says_130
                  · refine g_aload_n X dX11_says_110 0 rfl rfl ?_
                    refine g_iload_n X dX11_says_111 2 rfl rfl ?_
                    refine g_aload_n X dX11_says_112 0 rfl rfl ?_
                    refine get_11_18 X (k := 138) k_138 s_138 m_5_79 dX11_says_113 ?_
                    refine g_iconst X dX11_says_116 ic_5 ?_
                    refine g_ialdC X (n := 9) (k := 156) k_156 s_156 (by decide) dX11_says_117 ?_
                    refine g_ci X (st := []) (fun _ hh => ok_V X (k0 := 138) (As := [.int v8, .int (M.1 156 (ix 5))]) wkX11_riseAt (tm_riseAt M v8 (M.1 156 (ix 5)) hh) rfl k_138 s_138 (by decide) rfl m_5_206 rfl (hRm (by decide) (by decide)) ⟨Nat.zero_le _, Nat.zero_le _⟩ (Nat.le_of_ble_eq_true rfl) dX11_says_118) (fun r12 _ => ?_)
                    refine g_goto X 130 (by decide) dX11_says_121 ?_
                    exact g_iret X hr rfl dX11_says_130
                · refine g_aload_n X dX11_says_99 0 rfl rfl ?_
                  refine g_iload_n X dX11_says_100 2 rfl rfl ?_
                  refine g_ci X (st := []) (fun _ hh => ok_V X (k0 := 138) (As := [.int v8]) wkX11_paces (tm_paces M v8 hh) rfl k_138 s_138 (by decide) rfl m_5_202 rfl (hRm (by decide) (by decide)) ⟨Nat.zero_le _, Nat.zero_le _⟩ (Nat.le_of_ble_eq_true rfl) dX11_says_101) (fun r13 _ => ?_)
                  exact g_iret X hr rfl dX11_says_104
              · refine g_aload_n X dX11_says_87 0 rfl rfl ?_
                refine get_11_4 X (k := 138) k_138 s_138 m_5_65 dX11_says_88 ?_
                refine g_iload_n X dX11_says_91 2 rfl rfl ?_
                refine g_iald X (n := 20) (k := 143) k_143 s_143 dX11_says_92 (fun h14 => ?_)
                exact g_iret X hr rfl dX11_says_93
            · refine g_aload_n X dX11_says_76 0 rfl rfl ?_
              refine g_bipush X dX11_says_77 bi_m3 ?_
              refine g_cs X (st := []) (fun _ hh => ok_V X (k0 := 138) (As := [.int (-3)]) wkX11_no (tm_no M (-3) hh) rfl k_138 s_138 (by decide) rfl m_5_154 rfl (hRm (by decide) (by decide)) ⟨Nat.zero_le _, Nat.zero_le _⟩ (Nat.le_of_ble_eq_true rfl) dX11_says_79) (fun r16 M15 _ => ?_)
              exact g_iret X hr rfl dX11_says_82
          · refine g_aload_n X dX11_says_48 0 rfl rfl ?_
            refine g_bipush X dX11_says_49 bi_m4 ?_
            refine g_cs X (st := []) (fun _ hh => ok_V X (k0 := 138) (As := [.int (-4)]) wkX11_no (tm_no M (-4) hh) rfl k_138 s_138 (by decide) rfl m_5_154 rfl (hRm (by decide) (by decide)) ⟨Nat.zero_le _, Nat.zero_le _⟩ (Nat.le_of_ble_eq_true rfl) dX11_says_51) (fun r18 M17 _ => ?_)
            exact g_iret X hr rfl dX11_says_54
        · refine g_aload_n X dX11_says_32 0 rfl rfl ?_
          refine g_bipush X dX11_says_33 bi_m3 ?_
          refine g_cs X (st := []) (fun _ hh => ok_V X (k0 := 138) (As := [.int (-3)]) wkX11_no (tm_no M (-3) hh) rfl k_138 s_138 (by decide) rfl m_5_154 rfl (hRm (by decide) (by decide)) ⟨Nat.zero_le _, Nat.zero_le _⟩ (Nat.le_of_ble_eq_true rfl) dX11_says_35) (fun r20 M19 _ => ?_)
          exact g_iret X hr rfl dX11_says_38
      · refine g_aload_n X dX11_says_17 0 rfl rfl ?_
        refine g_bipush X dX11_says_18 bi_m2 ?_
        refine g_cs X (st := []) (fun _ hh => ok_V X (k0 := 138) (As := [.int (-2)]) wkX11_no (tm_no M (-2) hh) rfl k_138 s_138 (by decide) rfl m_5_154 rfl (hRm (by decide) (by decide)) ⟨Nat.zero_le _, Nat.zero_le _⟩ (Nat.le_of_ble_eq_true rfl) dX11_says_20) (fun r22 M21 _ => ?_)
        exact g_iret X hr rfl dX11_says_23
set_option maxRecDepth 100000 in
set_option maxHeartbeats 4000000 in
theorem tm_isSpot {l : Launch} {D : va_G} {cy : Nat → ClassId} {ad : Nat → Nat} {N : Mem} (M : Mem) (a1 : Int32) {x : Int32} (h : fm_isSpot M a1 = some x) : Mt l D cy ad yX11_isSpot cX11_isSpot 2 (some .boolean) 1 [.ref (ad 138), .int a1] ((wfM N) M) (some (.int x), (wfM N) M) := by
  refine met_of (fin := (finI M)) (lv0 := [(0, .ref (ad 138)), (1, .int a1)]) (by decide) (Nat.le_of_ble_eq_true rfl) rfl (lM N) h (fun p e s m args below meth c X hr => ?_)
  unfold fm_isSpot
  refine g_iload_n X dX11_isSpot_0 1 rfl rfl ?_
  refine g_if_lt X 15 (by decide) dX11_isSpot_1 (fun q1 => ?_) (fun q1 => ?_)
  · refine g_iconst X dX11_isSpot_15 ic_0 ?_
    exact g_zret X hr (isB_n (by decide)) rfl dX11_isSpot_16
  · refine g_iload_n X dX11_isSpot_4 1 rfl rfl ?_
    refine g_sipush X dX11_isSpot_5 si_256 ?_
    refine g_icmp_ge X 15 (by decide) dX11_isSpot_8 (fun q8 => ?_) (fun q8 => ?_)
    · refine g_iconst X dX11_isSpot_15 ic_0 ?_
      exact g_zret X hr (isB_n (by decide)) rfl dX11_isSpot_16
    · refine g_iconst X dX11_isSpot_11 ic_1 ?_
      refine g_goto X 16 (by decide) dX11_isSpot_12 ?_
      exact g_zret X hr (isB_n (by decide)) rfl dX11_isSpot_16
theorem tm_isSpotT {l : Launch} {D : va_G} {cy : Nat → ClassId} {ad : Nat → Nat} {N : Mem} (M : Mem) (a1 : Int32) : Mt l D cy ad yX11_isSpot cX11_isSpot 2 (some .boolean) 1 [.ref (ad 138), .int a1] ((wfM N) M) (some (.int (fm_isSpotT M a1)), (wfM N) M) := tm_isSpot M a1 (fm_isSpotE M a1)
set_option maxRecDepth 100000 in
set_option maxHeartbeats 4000000 in
theorem tm_jetty {l : Launch} {D : va_G} {cy : Nat → ClassId} {ad : Nat → Nat} {N : Mem} (M : Mem) (a1 : Int32) (a2 : Int32) (a3 : Int32) (a4 : Int32) {x : (Int32 × Mem)} (h : fm_jetty M a1 a2 a3 a4 = some x) : Mt l D cy ad yX11_jetty cX11_jetty 6 (some .int) 2 [.ref (ad 138), .int a1, .int a2, .int a3, .int a4] ((wfM N) M) (some (.int x.1), (wfM N) x.2) := by
  refine met_of (fin := finS) (lv0 := [(0, .ref (ad 138)), (1, .int a1), (2, .int a2), (3, .int a3), (4, .int a4)]) (by decide) (Nat.le_of_ble_eq_true rfl) rfl (lM N) h (fun p e s m args below meth c X hr => ?_)
  unfold fm_jetty
  refine g_iload_n X dX11_jetty_0 1 rfl rfl ?_
  refine g_if_lt X 40 (by decide) dX11_jetty_1 (fun q1 => ?_) (fun q1 => ?_)
  · refine g_aload_n X dX11_jetty_40 0 rfl rfl ?_
    refine g_bipush X dX11_jetty_41 bi_m2 ?_
    refine g_cs X (st := []) (fun _ hh => ok_V X (k0 := 138) (As := [.int (-2)]) wkX11_no (tm_no M (-2) hh) rfl k_138 s_138 (by decide) rfl m_5_154 rfl (hRm (by decide) (by decide)) ⟨Nat.zero_le _, Nat.zero_le _⟩ (Nat.le_of_ble_eq_true rfl) dX11_jetty_43) (fun r2 M1 _ => ?_)
    exact g_iret X hr rfl dX11_jetty_46
  · refine g_iload_n X dX11_jetty_4 1 rfl rfl ?_
    refine g_iconst X dX11_jetty_5 ic_5 ?_
    refine g_icmp_gt X 40 (by decide) dX11_jetty_6 (fun q6 => ?_) (fun q6 => ?_)
    · refine g_aload_n X dX11_jetty_40 0 rfl rfl ?_
      refine g_bipush X dX11_jetty_41 bi_m2 ?_
      refine g_cs X (st := []) (fun _ hh => ok_V X (k0 := 138) (As := [.int (-2)]) wkX11_no (tm_no M (-2) hh) rfl k_138 s_138 (by decide) rfl m_5_154 rfl (hRm (by decide) (by decide)) ⟨Nat.zero_le _, Nat.zero_le _⟩ (Nat.le_of_ble_eq_true rfl) dX11_jetty_43) (fun r4 M3 _ => ?_)
      exact g_iret X hr rfl dX11_jetty_46
    · refine g_aload_n X dX11_jetty_9 0 rfl rfl ?_
      refine g_iload_n X dX11_jetty_10 2 rfl rfl ?_
      refine g_ct X (v0 := .int (fm_isSpotT M a2)) (st := []) (ok_V X (k0 := 138) (As := [.int a2]) wkX11_isSpot (tm_isSpotT M a2) rfl k_138 s_138 (by decide) rfl m_5_214 rfl (hRm (by decide) (by decide)) ⟨Nat.zero_le _, Nat.zero_le _⟩ (Nat.le_of_ble_eq_true rfl) dX11_jetty_11) ?_
      refine g_if_eq X 40 (by decide) dX11_jetty_14 (fun q14 => ?_) (fun q14 => ?_)
      · refine g_aload_n X dX11_jetty_40 0 rfl rfl ?_
        refine g_bipush X dX11_jetty_41 bi_m2 ?_
        refine g_cs X (st := []) (fun _ hh => ok_V X (k0 := 138) (As := [.int (-2)]) wkX11_no (tm_no M (-2) hh) rfl k_138 s_138 (by decide) rfl m_5_154 rfl (hRm (by decide) (by decide)) ⟨Nat.zero_le _, Nat.zero_le _⟩ (Nat.le_of_ble_eq_true rfl) dX11_jetty_43) (fun r6 M5 _ => ?_)
        exact g_iret X hr rfl dX11_jetty_46
      · refine g_iload_n X dX11_jetty_17 3 rfl rfl ?_
        refine g_iconst X dX11_jetty_18 ic_1 ?_
        refine g_icmp_lt X 40 (by decide) dX11_jetty_19 (fun q19 => ?_) (fun q19 => ?_)
        · refine g_aload_n X dX11_jetty_40 0 rfl rfl ?_
          refine g_bipush X dX11_jetty_41 bi_m2 ?_
          refine g_cs X (st := []) (fun _ hh => ok_V X (k0 := 138) (As := [.int (-2)]) wkX11_no (tm_no M (-2) hh) rfl k_138 s_138 (by decide) rfl m_5_154 rfl (hRm (by decide) (by decide)) ⟨Nat.zero_le _, Nat.zero_le _⟩ (Nat.le_of_ble_eq_true rfl) dX11_jetty_43) (fun r8 M7 _ => ?_)
          exact g_iret X hr rfl dX11_jetty_46
        · refine g_iload_n X dX11_jetty_22 3 rfl rfl ?_
          refine g_bipush X dX11_jetty_23 bi_30 ?_
          refine g_icmp_gt X 40 (by decide) dX11_jetty_25 (fun q25 => ?_) (fun q25 => ?_)
          · refine g_aload_n X dX11_jetty_40 0 rfl rfl ?_
            refine g_bipush X dX11_jetty_41 bi_m2 ?_
            refine g_cs X (st := []) (fun _ hh => ok_V X (k0 := 138) (As := [.int (-2)]) wkX11_no (tm_no M (-2) hh) rfl k_138 s_138 (by decide) rfl m_5_154 rfl (hRm (by decide) (by decide)) ⟨Nat.zero_le _, Nat.zero_le _⟩ (Nat.le_of_ble_eq_true rfl) dX11_jetty_43) (fun r10 M9 _ => ?_)
            exact g_iret X hr rfl dX11_jetty_46
          · refine g_iload X dX11_jetty_28 4 rfl ?_
            refine g_if_lt X 40 (by decide) dX11_jetty_30 (fun q30 => ?_) (fun q30 => ?_)
            · refine g_aload_n X dX11_jetty_40 0 rfl rfl ?_
              refine g_bipush X dX11_jetty_41 bi_m2 ?_
              refine g_cs X (st := []) (fun _ hh => ok_V X (k0 := 138) (As := [.int (-2)]) wkX11_no (tm_no M (-2) hh) rfl k_138 s_138 (by decide) rfl m_5_154 rfl (hRm (by decide) (by decide)) ⟨Nat.zero_le _, Nat.zero_le _⟩ (Nat.le_of_ble_eq_true rfl) dX11_jetty_43) (fun r12 M11 _ => ?_)
              exact g_iret X hr rfl dX11_jetty_46
            · refine g_iload X dX11_jetty_33 4 rfl ?_
              refine g_bipush X dX11_jetty_35 bi_99 ?_
              refine g_icmp_le X 47 (by decide) dX11_jetty_37 (fun q37 => ?_) (fun q37 => ?_)
              · refine g_aload_n X dX11_jetty_47 0 rfl rfl ?_
                refine get_11_18 X (k := 138) k_138 s_138 m_5_79 dX11_jetty_48 ?_
                refine g_iconst X dX11_jetty_51 ic_0 ?_
                refine g_ialdC X (n := 9) (k := 156) k_156 s_156 (by decide) dX11_jetty_52 ?_
                refine g_bipush X dX11_jetty_53 bi_20 ?_
                refine g_icmp_ne X 65 (by decide) dX11_jetty_55 (fun q55 => ?_) (fun q55 => ?_)
                · refine g_aload_n X dX11_jetty_65 0 rfl rfl ?_
                  refine get_11_18 X (k := 138) k_138 s_138 m_5_79 dX11_jetty_66 ?_
                  refine g_iconst X dX11_jetty_69 ic_0 ?_
                  refine g_dup2 X dX11_jetty_70 rfl rfl ?_
                  refine g_ialdC X (n := 9) (k := 156) k_156 s_156 (by decide) dX11_jetty_71 ?_
                  refine g_dup_x2 X dX11_jetty_72 rfl rfl rfl ?_
                  refine g_iconst X dX11_jetty_73 ic_1 ?_
                  refine g_iadd X dX11_jetty_74 ?_
                  refine g_iastC X (n := 9) (k := 156) k_156 s_156 (by decide) dX11_jetty_75 ?_
                  refine g_mlet X (fun M16 => ?_)
                  refine g_ilet X (fun v17 => ?_)
                  refine g_istore X dX11_jetty_76 (by decide) rfl [1, 2, 3, 4, 5, 0] (lu := [(0, .ref (ad 138)), (1, .int a1), (2, .int a2), (3, .int a3), (4, .int a4), (5, .int v17)]) rfl ?_
                  refine g_aload_n X dX11_jetty_78 0 rfl rfl ?_
                  refine get_11_3 X (k := 138) k_138 s_138 m_5_64 dX11_jetty_79 ?_
                  refine g_iload X dX11_jetty_82 5 rfl ?_
                  refine g_iload_n X dX11_jetty_84 1 rfl rfl ?_
                  refine g_iast X (n := 20) (k := 142) k_142 s_142 dX11_jetty_85 (fun h18 => ?_)
                  refine g_mlet X (fun M19 => ?_)
                  refine g_aload_n X dX11_jetty_86 0 rfl rfl ?_
                  refine get_11_4 X (k := 138) k_138 s_138 m_5_65 dX11_jetty_87 ?_
                  refine g_iload X dX11_jetty_90 5 rfl ?_
                  refine g_iload_n X dX11_jetty_92 2 rfl rfl ?_
                  refine g_iast X (n := 20) (k := 143) k_143 s_143 dX11_jetty_93 (fun h20 => ?_)
                  refine g_mlet X (fun M21 => ?_)
                  refine g_aload_n X dX11_jetty_94 0 rfl rfl ?_
                  refine get_11_5 X (k := 138) k_138 s_138 m_5_66 dX11_jetty_95 ?_
                  refine g_iload X dX11_jetty_98 5 rfl ?_
                  refine g_iload_n X dX11_jetty_100 3 rfl rfl ?_
                  refine g_iast X (n := 20) (k := 144) k_144 s_144 dX11_jetty_101 (fun h22 => ?_)
                  refine g_mlet X (fun M23 => ?_)
                  refine g_aload_n X dX11_jetty_102 0 rfl rfl ?_
                  refine get_11_6 X (k := 138) k_138 s_138 m_5_67 dX11_jetty_103 ?_
                  refine g_iload X dX11_jetty_106 5 rfl ?_
                  refine g_iload X dX11_jetty_108 4 rfl ?_
                  refine g_iast X (n := 20) (k := 145) k_145 s_145 dX11_jetty_110 (fun h24 => ?_)
                  refine g_mlet X (fun M25 => ?_)
                  refine g_aload_n X dX11_jetty_111 0 rfl rfl ?_
                  refine get_11_7 X (k := 138) k_138 s_138 m_5_68 dX11_jetty_112 ?_
                  refine g_iload X dX11_jetty_115 5 rfl ?_
                  refine g_iconst X dX11_jetty_117 ic_0 ?_
                  refine g_iast X (n := 20) (k := 146) k_146 s_146 dX11_jetty_118 (fun h26 => ?_)
                  refine g_mlet X (fun M27 => ?_)
                  refine g_iload X dX11_jetty_119 5 rfl ?_
                  exact g_iret X hr rfl dX11_jetty_121
                · refine g_aload_n X dX11_jetty_58 0 rfl rfl ?_
                  refine g_bipush X dX11_jetty_59 bi_m6 ?_
                  refine g_cs X (st := []) (fun _ hh => ok_V X (k0 := 138) (As := [.int (-6)]) wkX11_no (tm_no M (-6) hh) rfl k_138 s_138 (by decide) rfl m_5_154 rfl (hRm (by decide) (by decide)) ⟨Nat.zero_le _, Nat.zero_le _⟩ (Nat.le_of_ble_eq_true rfl) dX11_jetty_61) (fun r29 M28 _ => ?_)
                  exact g_iret X hr rfl dX11_jetty_64
              · refine g_aload_n X dX11_jetty_40 0 rfl rfl ?_
                refine g_bipush X dX11_jetty_41 bi_m2 ?_
                refine g_cs X (st := []) (fun _ hh => ok_V X (k0 := 138) (As := [.int (-2)]) wkX11_no (tm_no M (-2) hh) rfl k_138 s_138 (by decide) rfl m_5_154 rfl (hRm (by decide) (by decide)) ⟨Nat.zero_le _, Nat.zero_le _⟩ (Nat.le_of_ble_eq_true rfl) dX11_jetty_43) (fun r31 M30 _ => ?_)
                exact g_iret X hr rfl dX11_jetty_46
set_option maxRecDepth 100000 in
set_option maxHeartbeats 4000000 in
theorem tm_first {l : Launch} {D : va_G} {cy : Nat → ClassId} {ad : Nat → Nat} {N : Mem} (M : Mem) (a1 : Int32) {x : Int32} (h : fm_first M a1 = some x) : Mt l D cy ad yX11_first cX11_first 2 (some .int) 1 [.ref (ad 138), .int a1] ((wfM N) M) (some (.int x), (wfM N) M) := by
  refine met_of (fin := (finI M)) (lv0 := [(0, .ref (ad 138)), (1, .int a1)]) (by decide) (Nat.le_of_ble_eq_true rfl) rfl (lM N) h (fun p e s m args below meth c X hr => ?_)
  unfold fm_first
  refine g_iload_n X dX11_first_0 1 rfl rfl ?_
  refine g_if_ne X 7 (by decide) dX11_first_1 (fun q1 => ?_) (fun q1 => ?_)
  · refine g_iload_n X dX11_first_7 1 rfl rfl ?_
    refine g_iconst X dX11_first_8 ic_1 ?_
    refine g_icmp_eq X 18 (by decide) dX11_first_9 (fun q9 => ?_) (fun q9 => ?_)
    · refine g_iconst X dX11_first_18 ic_4 ?_
      exact g_iret X hr rfl dX11_first_19
    · refine g_iload_n X dX11_first_12 1 rfl rfl ?_
      refine g_bipush X dX11_first_13 bi_7 ?_
      refine g_icmp_ne X 20 (by decide) dX11_first_15 (fun q15 => ?_) (fun q15 => ?_)
      · refine g_iload_n X dX11_first_20 1 rfl rfl ?_
        refine g_iconst X dX11_first_21 ic_2 ?_
        refine g_icmp_ne X 27 (by decide) dX11_first_22 (fun q22 => ?_) (fun q22 => ?_)
        · refine g_iload_n X dX11_first_27 1 rfl rfl ?_
          refine g_iconst X dX11_first_28 ic_3 ?_
          refine g_icmp_eq X 37 (by decide) dX11_first_29 (fun q29 => ?_) (fun q29 => ?_)
          · refine g_iconst X dX11_first_37 ic_3 ?_
            exact g_iret X hr rfl dX11_first_38
          · refine g_iload_n X dX11_first_32 1 rfl rfl ?_
            refine g_iconst X dX11_first_33 ic_4 ?_
            refine g_icmp_ne X 39 (by decide) dX11_first_34 (fun q34 => ?_) (fun q34 => ?_)
            · refine g_iload_n X dX11_first_39 1 rfl rfl ?_
              refine g_iconst X dX11_first_40 ic_5 ?_
              refine g_icmp_ne X 47 (by decide) dX11_first_41 (fun q41 => ?_) (fun q41 => ?_)
              · refine g_iload_n X dX11_first_47 1 rfl rfl ?_
                refine g_bipush X dX11_first_48 bi_6 ?_
                refine g_icmp_ne X 58 (by decide) dX11_first_50 (fun q50 => ?_) (fun q50 => ?_)
                · refine g_iconst X dX11_first_58 ic_2 ?_
                  exact g_iret X hr rfl dX11_first_59
                · refine g_bipush X dX11_first_53 bi_20 ?_
                  refine g_goto X 59 (by decide) dX11_first_55 ?_
                  exact g_iret X hr rfl dX11_first_59
              · refine g_bipush X dX11_first_44 bi_40 ?_
                exact g_iret X hr rfl dX11_first_46
            · refine g_iconst X dX11_first_37 ic_3 ?_
              exact g_iret X hr rfl dX11_first_38
        · refine g_iconst X dX11_first_25 ic_5 ?_
          exact g_iret X hr rfl dX11_first_26
      · refine g_iconst X dX11_first_18 ic_4 ?_
        exact g_iret X hr rfl dX11_first_19
  · refine g_bipush X dX11_first_4 bi_40 ?_
    exact g_iret X hr rfl dX11_first_6
theorem tm_firstT {l : Launch} {D : va_G} {cy : Nat → ClassId} {ad : Nat → Nat} {N : Mem} (M : Mem) (a1 : Int32) : Mt l D cy ad yX11_first cX11_first 2 (some .int) 1 [.ref (ad 138), .int a1] ((wfM N) M) (some (.int (fm_firstT M a1)), (wfM N) M) := tm_first M a1 (fm_firstE M a1)
set_option maxRecDepth 100000 in
set_option maxHeartbeats 4000000 in
theorem tm_says1 {l : Launch} {D : va_G} {cy : Nat → ClassId} {ad : Nat → Nat} {N : Mem} (M : Mem) (a1 : Int32) {x : Int32} (h : fm_says1 M a1 = some x) : Mt l D cy ad yX11_says_ cX11_says_ 2 (some .int) 2 [.ref (ad 138), .int a1] ((wfM N) M) (some (.int x), (wfM N) M) := by
  refine met_of (fin := (finI M)) (lv0 := [(0, .ref (ad 138)), (1, .int a1)]) (by decide) (Nat.le_of_ble_eq_true rfl) rfl (lM N) h (fun p e s m args below meth c X hr => ?_)
  unfold fm_says1
  refine g_aload_n X dX11_says__0 0 rfl rfl ?_
  refine get_11_18 X (k := 138) k_138 s_138 m_5_79 dX11_says__1 ?_
  refine g_iconst X dX11_says__4 ic_4 ?_
  refine g_ialdC X (n := 9) (k := 156) k_156 s_156 (by decide) dX11_says__5 ?_
  refine g_if_lt X 26 (by decide) dX11_says__6 (fun q6 => ?_) (fun q6 => ?_)
  · refine g_aload_n X dX11_says__26 0 rfl rfl ?_
    refine g_iload_n X dX11_says__27 1 rfl rfl ?_
    refine g_ct X (v0 := .int (fm_firstT M a1)) (st := []) (ok_V X (k0 := 138) (As := [.int a1]) wkX11_first (tm_firstT M a1) rfl k_138 s_138 (by decide) rfl m_5_238 rfl (hRm (by decide) (by decide)) ⟨Nat.zero_le _, Nat.zero_le _⟩ (Nat.le_of_ble_eq_true rfl) dX11_says__28) ?_
    exact g_iret X hr rfl dX11_says__31
  · refine g_aload_n X dX11_says__9 0 rfl rfl ?_
    refine get_11_10 X (k := 138) k_138 s_138 m_5_71 dX11_says__10 ?_
    refine g_bipush X dX11_says__13 bi_9 ?_
    refine g_aload_n X dX11_says__15 0 rfl rfl ?_
    refine get_11_18 X (k := 138) k_138 s_138 m_5_79 dX11_says__16 ?_
    refine g_iconst X dX11_says__19 ic_4 ?_
    refine g_ialdC X (n := 9) (k := 156) k_156 s_156 (by decide) dX11_says__20 ?_
    refine g_imul X dX11_says__21 ?_
    refine g_iload_n X dX11_says__22 1 rfl rfl ?_
    refine g_iadd X dX11_says__23 ?_
    refine g_iald X (n := 54) (k := 148) k_148 s_148 dX11_says__24 (fun h3 => ?_)
    exact g_iret X hr rfl dX11_says__25
set_option maxRecDepth 100000 in
set_option maxHeartbeats 4000000 in
theorem tm_isTimeAt {l : Launch} {D : va_G} {cy : Nat → ClassId} {ad : Nat → Nat} {N : Mem} (M : Mem) (a1 : Int32) (a2 : Int32) {x : Int32} (h : fm_isTimeAt M a1 a2 = some x) : Mt l D cy ad yX11_isTimeAt cX11_isTimeAt 4 (some .boolean) 3 [.ref (ad 138), .int a1, .int a2] ((wfM N) M) (some (.int x), (wfM N) M) := by
  refine met_of (fin := (finI M)) (lv0 := [(0, .ref (ad 138)), (1, .int a1), (2, .int a2)]) (by decide) (Nat.le_of_ble_eq_true rfl) rfl (lM N) h (fun p e s m args below meth c X hr => ?_)
  unfold fm_isTimeAt
  refine g_aload_n X dX11_isTimeAt_0 0 rfl rfl ?_
  refine g_iconst X dX11_isTimeAt_1 ic_2 ?_
  refine g_ci X (st := []) (fun _ hh => ok_V X (k0 := 138) (As := [.int 2]) wkX11_says_ (tm_says1 M 2 hh) rfl k_138 s_138 (by decide) rfl m_5_234 rfl (hRm (by decide) (by decide)) ⟨Nat.zero_le _, Nat.zero_le _⟩ (Nat.le_of_ble_eq_true rfl) dX11_isTimeAt_2) (fun r1 _ => ?_)
  refine g_istore_n X dX11_isTimeAt_5 rfl (by decide) rfl [1, 2, 3, 0] (lu := [(0, .ref (ad 138)), (1, .int a1), (2, .int a2), (3, .int r1)]) rfl ?_
  refine g_iconst X dX11_isTimeAt_6 ic_2 ?_
  refine g_aload_n X dX11_isTimeAt_7 0 rfl rfl ?_
  refine g_iload_n X dX11_isTimeAt_8 1 rfl rfl ?_
  refine g_ci X (st := [.int 2]) (fun _ hh => ok_V X (k0 := 138) (As := [.int a1]) wkX11_paces (tm_paces M a1 hh) rfl k_138 s_138 (by decide) rfl m_5_202 rfl (hRm (by decide) (by decide)) ⟨Nat.zero_le _, Nat.zero_le _⟩ (Nat.le_of_ble_eq_true rfl) dX11_isTimeAt_9) (fun r2 _ => ?_)
  refine g_imul X dX11_isTimeAt_12 ?_
  refine g_iload_n X dX11_isTimeAt_13 3 rfl rfl ?_
  refine g_iadd X dX11_isTimeAt_14 ?_
  refine g_iconst X dX11_isTimeAt_15 ic_1 ?_
  refine g_isub X dX11_isTimeAt_16 ?_
  refine g_iload_n X dX11_isTimeAt_17 3 rfl rfl ?_
  refine g_idiv X dX11_isTimeAt_18 (fun _ => ?_)
  refine g_aload_n X dX11_isTimeAt_19 0 rfl rfl ?_
  refine g_iconst X dX11_isTimeAt_20 ic_3 ?_
  refine g_ci X (st := [.int (((((2 : Int32) * r2) + r1) - 1) / r1)]) (fun _ hh => ok_V X (k0 := 138) (As := [.int 3]) wkX11_says_ (tm_says1 M 3 hh) rfl k_138 s_138 (by decide) rfl m_5_234 rfl (hRm (by decide) (by decide)) ⟨Nat.zero_le _, Nat.zero_le _⟩ (Nat.le_of_ble_eq_true rfl) dX11_isTimeAt_21) (fun r3 _ => ?_)
  refine g_iadd X dX11_isTimeAt_24 ?_
  refine g_aload_n X dX11_isTimeAt_25 0 rfl rfl ?_
  refine g_iconst X dX11_isTimeAt_26 ic_0 ?_
  refine g_ci X (st := [.int ((((((2 : Int32) * r2) + r1) - 1) / r1) + r3)]) (fun _ hh => ok_V X (k0 := 138) (As := [.int 0]) wkX11_says_ (tm_says1 M 0 hh) rfl k_138 s_138 (by decide) rfl m_5_234 rfl (hRm (by decide) (by decide)) ⟨Nat.zero_le _, Nat.zero_le _⟩ (Nat.le_of_ble_eq_true rfl) dX11_isTimeAt_27) (fun r4 _ => ?_)
  refine g_iload_n X dX11_isTimeAt_30 2 rfl rfl ?_
  refine g_idiv X dX11_isTimeAt_31 (fun _ => ?_)
  refine g_icmp_gt X 39 (by decide) dX11_isTimeAt_32 (fun q32 => ?_) (fun q32 => ?_)
  · refine g_iconst X dX11_isTimeAt_39 ic_0 ?_
    exact g_zret X hr (isB_n (by decide)) rfl dX11_isTimeAt_40
  · refine g_iconst X dX11_isTimeAt_35 ic_1 ?_
    refine g_goto X 40 (by decide) dX11_isTimeAt_36 ?_
    exact g_zret X hr (isB_n (by decide)) rfl dX11_isTimeAt_40
set_option maxRecDepth 100000 in
set_option maxHeartbeats 4000000 in
theorem tm_isTime {l : Launch} {D : va_G} {cy : Nat → ClassId} {ad : Nat → Nat} {N : Mem} (M : Mem) (a1 : Int32) {x : Int32} (h : fm_isTime M a1 = some x) : Mt l D cy ad yX11_isTime cX11_isTime 2 (some .boolean) 4 [.ref (ad 138), .int a1] ((wfM N) M) (some (.int x), (wfM N) M) := by
  refine met_of (fin := (finI M)) (lv0 := [(0, .ref (ad 138)), (1, .int a1)]) (by decide) (Nat.le_of_ble_eq_true rfl) rfl (lM N) h (fun p e s m args below meth c X hr => ?_)
  unfold fm_isTime
  refine g_aload_n X dX11_isTime_0 0 rfl rfl ?_
  refine g_iload_n X dX11_isTime_1 1 rfl rfl ?_
  refine g_aload_n X dX11_isTime_2 0 rfl rfl ?_
  refine g_iconst X dX11_isTime_3 ic_1 ?_
  refine g_ci X (st := [.int a1, .ref (ad 138)]) (fun _ hh => ok_V X (k0 := 138) (As := [.int 1]) wkX11_says_ (tm_says1 M 1 hh) rfl k_138 s_138 (by decide) rfl m_5_234 rfl (hRm (by decide) (by decide)) ⟨Nat.zero_le _, Nat.zero_le _⟩ (Nat.le_of_ble_eq_true rfl) dX11_isTime_4) (fun r1 _ => ?_)
  refine g_ci X (st := []) (fun _ hh => ok_V X (k0 := 138) (As := [.int a1, .int r1]) wkX11_isTimeAt (tm_isTimeAt M a1 r1 hh) rfl k_138 s_138 (by decide) rfl m_6_2 rfl (hRm (by decide) (by decide)) ⟨Nat.zero_le _, Nat.zero_le _⟩ (Nat.le_of_ble_eq_true rfl) dX11_isTime_7) (fun r2 _ => ?_)
  exact g_gd (fun hz => g_zret X hr (isB_n hz) rfl dX11_isTime_10)
set_option maxRecDepth 100000 in
set_option maxHeartbeats 4000000 in
theorem tm_deck {l : Launch} {D : va_G} {cy : Nat → ClassId} {ad : Nat → Nat} {N : Mem} (M : Mem) {x : Int32} (h : fm_deck M = some x) : Mt l D cy ad yX11_deck cX11_deck 1 (some .int) 1 [.ref (ad 138)] ((wfM N) M) (some (.int x), (wfM N) M) := by
  refine met_of (fin := (finI M)) (lv0 := [(0, .ref (ad 138))]) (by decide) (Nat.le_of_ble_eq_true rfl) rfl (lM N) h (fun p e s m args below meth c X hr => ?_)
  unfold fm_deck
  refine g_bipush X dX11_deck_0 bi_20 ?_
  refine g_aload_n X dX11_deck_2 0 rfl rfl ?_
  refine get_11_18 X (k := 138) k_138 s_138 m_5_79 dX11_deck_3 ?_
  refine g_bipush X dX11_deck_6 bi_6 ?_
  refine g_ialdC X (n := 9) (k := 156) k_156 s_156 (by decide) dX11_deck_8 ?_
  refine g_iconst X dX11_deck_9 ic_4 ?_
  refine g_idivC X dX11_deck_10 (by decide) ?_
  refine g_isub X dX11_deck_11 ?_
  exact g_iret X hr rfl dX11_deck_12
theorem tm_deckT {l : Launch} {D : va_G} {cy : Nat → ClassId} {ad : Nat → Nat} {N : Mem} (M : Mem) : Mt l D cy ad yX11_deck cX11_deck 1 (some .int) 1 [.ref (ad 138)] ((wfM N) M) (some (.int (fm_deckT M)), (wfM N) M) := tm_deck M (fm_deckE M)
set_option maxRecDepth 100000 in
set_option maxHeartbeats 4000000 in
theorem tm_isOut {l : Launch} {D : va_G} {cy : Nat → ClassId} {ad : Nat → Nat} {N : Mem} (M : Mem) (a1 : Int32) (a2 : Int32) {x : Int32} (h : fm_isOut M a1 a2 = some x) : Mt l D cy ad yX11_isOut cX11_isOut 4 (some .boolean) 2 [.ref (ad 138), .int a1, .int a2] ((wfM N) M) (some (.int x), (wfM N) M) := by
  refine met_of (fin := (finI M)) (lv0 := [(0, .ref (ad 138)), (1, .int a1), (2, .int a2)]) (by decide) (Nat.le_of_ble_eq_true rfl) rfl (lM N) h (fun p e s m args below meth c X hr => ?_)
  unfold fm_isOut
  refine g_aload_n X dX11_isOut_0 0 rfl rfl ?_
  refine g_iload_n X dX11_isOut_1 1 rfl rfl ?_
  refine g_iload_n X dX11_isOut_2 2 rfl rfl ?_
  refine g_ci X (st := []) (fun _ hh => ok_V X (k0 := 138) (As := [.int a1, .int a2]) wkX11_riseAt (tm_riseAt M a1 a2 hh) rfl k_138 s_138 (by decide) rfl m_5_206 rfl (hRm (by decide) (by decide)) ⟨Nat.zero_le _, Nat.zero_le _⟩ (Nat.le_of_ble_eq_true rfl) dX11_isOut_3) (fun r1 _ => ?_)
  refine g_aload_n X dX11_isOut_6 0 rfl rfl ?_
  refine g_ct X (v0 := .int (fm_deckT M)) (st := [.int r1]) (ok_V X (k0 := 138) (As := []) wkX11_deck (tm_deckT M) rfl k_138 s_138 (by decide) rfl m_5_226 rfl (hRm (by decide) (by decide)) ⟨Nat.zero_le _, Nat.zero_le _⟩ (Nat.le_of_ble_eq_true rfl) dX11_isOut_7) ?_
  refine g_isub X dX11_isOut_10 ?_
  refine g_ilet X (fun v2 => ?_)
  refine g_istore_n X dX11_isOut_11 rfl (by decide) rfl [0] (lu := [(3, .int v2)]) rfl ?_
  refine g_iload_n X dX11_isOut_12 0 rfl rfl ?_
  refine g_bipush X dX11_isOut_13 bi_60 ?_
  refine g_icmp_gt X 24 (by decide) dX11_isOut_15 (fun q15 => ?_) (fun q15 => ?_)
  · refine g_iconst X dX11_isOut_24 ic_1 ?_
    refine g_goto X 29 (by decide) dX11_isOut_25 ?_
    exact g_zret X hr (isB_n (by decide)) rfl dX11_isOut_29
  · refine g_iload_n X dX11_isOut_18 0 rfl rfl ?_
    refine g_bipush X dX11_isOut_19 bi_m60 ?_
    refine g_icmp_ge X 28 (by decide) dX11_isOut_21 (fun q21 => ?_) (fun q21 => ?_)
    · refine g_iconst X dX11_isOut_28 ic_0 ?_
      exact g_zret X hr (isB_n (by decide)) rfl dX11_isOut_29
    · refine g_iconst X dX11_isOut_24 ic_1 ?_
      refine g_goto X 29 (by decide) dX11_isOut_25 ?_
      exact g_zret X hr (isB_n (by decide)) rfl dX11_isOut_29
set_option maxRecDepth 100000 in
set_option maxHeartbeats 4000000 in
theorem tm_jettyOf {l : Launch} {D : va_G} {cy : Nat → ClassId} {ad : Nat → Nat} {N : Mem} (M : Mem) (a1 : Int32) (a2 : Int32) {x : (Int32 × Mem)} (h : fm_jettyOf M a1 a2 = some x) : Mt l D cy ad yX11_jettyOf cX11_jettyOf 3 (some .int) 5 [.ref (ad 138), .int a1, .int a2] ((wfM N) M) (some (.int x.1), (wfM N) x.2) := by
  refine met_of (fin := finS) (lv0 := [(0, .ref (ad 138)), (1, .int a1), (2, .int a2)]) (by decide) (Nat.le_of_ble_eq_true rfl) rfl (lM N) h (fun p e s m args below meth c X hr => ?_)
  unfold fm_jettyOf
  refine g_aload_n X dX11_jettyOf_0 0 rfl rfl ?_
  refine g_iload_n X dX11_jettyOf_1 1 rfl rfl ?_
  refine g_ct X (v0 := .int (fm_isJettyT M a1)) (st := []) (ok_V X (k0 := 138) (As := [.int a1]) wkX11_isJetty (tm_isJettyT M a1) rfl k_138 s_138 (by decide) rfl m_5_190 rfl (hRm (by decide) (by decide)) ⟨Nat.zero_le _, Nat.zero_le _⟩ (Nat.le_of_ble_eq_true rfl) dX11_jettyOf_2) ?_
  refine g_if_eq X 18 (by decide) dX11_jettyOf_5 (fun q5 => ?_) (fun q5 => ?_)
  · refine g_aload_n X dX11_jettyOf_18 0 rfl rfl ?_
    refine g_bipush X dX11_jettyOf_19 bi_m2 ?_
    refine g_cs X (st := []) (fun _ hh => ok_V X (k0 := 138) (As := [.int (-2)]) wkX11_no (tm_no M (-2) hh) rfl k_138 s_138 (by decide) rfl m_5_154 rfl (hRm (by decide) (by decide)) ⟨Nat.zero_le _, Nat.zero_le _⟩ (Nat.le_of_ble_eq_true rfl) dX11_jettyOf_21) (fun r2 M1 _ => ?_)
    exact g_iret X hr rfl dX11_jettyOf_24
  · refine g_iload_n X dX11_jettyOf_8 2 rfl rfl ?_
    refine g_if_lt X 18 (by decide) dX11_jettyOf_9 (fun q9 => ?_) (fun q9 => ?_)
    · refine g_aload_n X dX11_jettyOf_18 0 rfl rfl ?_
      refine g_bipush X dX11_jettyOf_19 bi_m2 ?_
      refine g_cs X (st := []) (fun _ hh => ok_V X (k0 := 138) (As := [.int (-2)]) wkX11_no (tm_no M (-2) hh) rfl k_138 s_138 (by decide) rfl m_5_154 rfl (hRm (by decide) (by decide)) ⟨Nat.zero_le _, Nat.zero_le _⟩ (Nat.le_of_ble_eq_true rfl) dX11_jettyOf_21) (fun r4 M3 _ => ?_)
      exact g_iret X hr rfl dX11_jettyOf_24
    · refine g_iload_n X dX11_jettyOf_12 2 rfl rfl ?_
      refine g_bipush X dX11_jettyOf_13 bi_7 ?_
      refine g_icmp_le X 25 (by decide) dX11_jettyOf_15 (fun q15 => ?_) (fun q15 => ?_)
      · refine g_iload_n X dX11_jettyOf_25 2 rfl rfl ?_
        refine g_if_ne X 36 (by decide) dX11_jettyOf_26 (fun q26 => ?_) (fun q26 => ?_)
        · refine g_iload_n X dX11_jettyOf_36 2 rfl rfl ?_
          refine g_iconst X dX11_jettyOf_37 ic_1 ?_
          refine g_icmp_ne X 48 (by decide) dX11_jettyOf_38 (fun q38 => ?_) (fun q38 => ?_)
          · refine g_iload_n X dX11_jettyOf_48 2 rfl rfl ?_
            refine g_iconst X dX11_jettyOf_49 ic_2 ?_
            refine g_icmp_ne X 60 (by decide) dX11_jettyOf_50 (fun q50 => ?_) (fun q50 => ?_)
            · refine g_iload_n X dX11_jettyOf_60 2 rfl rfl ?_
              refine g_iconst X dX11_jettyOf_61 ic_3 ?_
              refine g_icmp_ne X 72 (by decide) dX11_jettyOf_62 (fun q62 => ?_) (fun q62 => ?_)
              · refine g_iload_n X dX11_jettyOf_72 2 rfl rfl ?_
                refine g_iconst X dX11_jettyOf_73 ic_4 ?_
                refine g_icmp_ne X 83 (by decide) dX11_jettyOf_74 (fun q74 => ?_) (fun q74 => ?_)
                · refine g_iload_n X dX11_jettyOf_83 2 rfl rfl ?_
                  refine g_iconst X dX11_jettyOf_84 ic_5 ?_
                  refine g_icmp_ne X 95 (by decide) dX11_jettyOf_85 (fun q85 => ?_) (fun q85 => ?_)
                  · refine g_iload_n X dX11_jettyOf_95 2 rfl rfl ?_
                    refine g_bipush X dX11_jettyOf_96 bi_6 ?_
                    refine g_icmp_ne X 121 (by decide) dX11_jettyOf_98 (fun q98 => ?_) (fun q98 => ?_)
                    · refine g_aload_n X dX11_jettyOf_121 0 rfl rfl ?_
                      refine g_iload_n X dX11_jettyOf_122 1 rfl rfl ?_
                      refine g_ci X (st := []) (fun _ hh => ok_V X (k0 := 138) (As := [.int a1]) wkX11_isTime (tm_isTime M a1 hh) rfl k_138 s_138 (by decide) rfl m_5_230 rfl (hRm (by decide) (by decide)) ⟨Nat.zero_le _, Nat.zero_le _⟩ (Nat.le_of_ble_eq_true rfl) dX11_jettyOf_123) (fun r5 _ => ?_)
                      refine g_if_eq X 133 (by decide) dX11_jettyOf_126 (fun q126 => ?_) (fun q126 => ?_)
                      · refine g_iconst X dX11_jettyOf_133 ic_0 ?_
                        exact g_iret X hr rfl dX11_jettyOf_134
                      · refine g_iconst X dX11_jettyOf_129 ic_1 ?_
                        refine g_goto X 134 (by decide) dX11_jettyOf_130 ?_
                        exact g_iret X hr rfl dX11_jettyOf_134
                    · refine g_aload_n X dX11_jettyOf_101 0 rfl rfl ?_
                      refine g_iload_n X dX11_jettyOf_102 1 rfl rfl ?_
                      refine g_aload_n X dX11_jettyOf_103 0 rfl rfl ?_
                      refine get_11_18 X (k := 138) k_138 s_138 m_5_79 dX11_jettyOf_104 ?_
                      refine g_iconst X dX11_jettyOf_107 ic_5 ?_
                      refine g_ialdC X (n := 9) (k := 156) k_156 s_156 (by decide) dX11_jettyOf_108 ?_
                      refine g_ci X (st := []) (fun _ hh => ok_V X (k0 := 138) (As := [.int a1, .int (M.1 156 (ix 5))]) wkX11_isOut (tm_isOut M a1 (M.1 156 (ix 5)) hh) rfl k_138 s_138 (by decide) rfl m_5_222 rfl (hRm (by decide) (by decide)) ⟨Nat.zero_le _, Nat.zero_le _⟩ (Nat.le_of_ble_eq_true rfl) dX11_jettyOf_109) (fun r7 _ => ?_)
                      refine g_if_eq X 119 (by decide) dX11_jettyOf_112 (fun q112 => ?_) (fun q112 => ?_)
                      · refine g_iconst X dX11_jettyOf_119 ic_0 ?_
                        exact g_iret X hr rfl dX11_jettyOf_120
                      · refine g_iconst X dX11_jettyOf_115 ic_1 ?_
                        refine g_goto X 120 (by decide) dX11_jettyOf_116 ?_
                        exact g_iret X hr rfl dX11_jettyOf_120
                  · refine g_aload_n X dX11_jettyOf_88 0 rfl rfl ?_
                    refine get_11_7 X (k := 138) k_138 s_138 m_5_68 dX11_jettyOf_89 ?_
                    refine g_iload_n X dX11_jettyOf_92 1 rfl rfl ?_
                    refine g_iald X (n := 20) (k := 146) k_146 s_146 dX11_jettyOf_93 (fun h8 => ?_)
                    exact g_iret X hr rfl dX11_jettyOf_94
                · refine g_aload_n X dX11_jettyOf_77 0 rfl rfl ?_
                  refine g_iload_n X dX11_jettyOf_78 1 rfl rfl ?_
                  refine g_ci X (st := []) (fun _ hh => ok_V X (k0 := 138) (As := [.int a1]) wkX11_paces (tm_paces M a1 hh) rfl k_138 s_138 (by decide) rfl m_5_202 rfl (hRm (by decide) (by decide)) ⟨Nat.zero_le _, Nat.zero_le _⟩ (Nat.le_of_ble_eq_true rfl) dX11_jettyOf_79) (fun r9 _ => ?_)
                  exact g_iret X hr rfl dX11_jettyOf_82
              · refine g_aload_n X dX11_jettyOf_65 0 rfl rfl ?_
                refine get_11_6 X (k := 138) k_138 s_138 m_5_67 dX11_jettyOf_66 ?_
                refine g_iload_n X dX11_jettyOf_69 1 rfl rfl ?_
                refine g_iald X (n := 20) (k := 145) k_145 s_145 dX11_jettyOf_70 (fun h10 => ?_)
                exact g_iret X hr rfl dX11_jettyOf_71
            · refine g_aload_n X dX11_jettyOf_53 0 rfl rfl ?_
              refine get_11_5 X (k := 138) k_138 s_138 m_5_66 dX11_jettyOf_54 ?_
              refine g_iload_n X dX11_jettyOf_57 1 rfl rfl ?_
              refine g_iald X (n := 20) (k := 144) k_144 s_144 dX11_jettyOf_58 (fun h11 => ?_)
              exact g_iret X hr rfl dX11_jettyOf_59
          · refine g_aload_n X dX11_jettyOf_41 0 rfl rfl ?_
            refine get_11_4 X (k := 138) k_138 s_138 m_5_65 dX11_jettyOf_42 ?_
            refine g_iload_n X dX11_jettyOf_45 1 rfl rfl ?_
            refine g_iald X (n := 20) (k := 143) k_143 s_143 dX11_jettyOf_46 (fun h12 => ?_)
            exact g_iret X hr rfl dX11_jettyOf_47
        · refine g_aload_n X dX11_jettyOf_29 0 rfl rfl ?_
          refine get_11_3 X (k := 138) k_138 s_138 m_5_64 dX11_jettyOf_30 ?_
          refine g_iload_n X dX11_jettyOf_33 1 rfl rfl ?_
          refine g_iald X (n := 20) (k := 142) k_142 s_142 dX11_jettyOf_34 (fun h13 => ?_)
          exact g_iret X hr rfl dX11_jettyOf_35
      · refine g_aload_n X dX11_jettyOf_18 0 rfl rfl ?_
        refine g_bipush X dX11_jettyOf_19 bi_m2 ?_
        refine g_cs X (st := []) (fun _ hh => ok_V X (k0 := 138) (As := [.int (-2)]) wkX11_no (tm_no M (-2) hh) rfl k_138 s_138 (by decide) rfl m_5_154 rfl (hRm (by decide) (by decide)) ⟨Nat.zero_le _, Nat.zero_le _⟩ (Nat.le_of_ble_eq_true rfl) dX11_jettyOf_21) (fun r15 M14 _ => ?_)
        exact g_iret X hr rfl dX11_jettyOf_24
set_option maxRecDepth 100000 in
set_option maxHeartbeats 4000000 in
theorem tm_wet {l : Launch} {D : va_G} {cy : Nat → ClassId} {ad : Nat → Nat} {N : Mem} (M : Mem) (a1 : Int32) (a2 : Int32) {x : (Int32 × Mem)} (h : fm_wet M a1 a2 = some x) : Mt l D cy ad yX11_wet cX11_wet 4 (some .int) 2 [.ref (ad 138), .int a1, .int a2] ((wfM N) M) (some (.int x.1), (wfM N) x.2) := by
  refine met_of (fin := finS) (lv0 := [(0, .ref (ad 138)), (1, .int a1), (2, .int a2)]) (by decide) (Nat.le_of_ble_eq_true rfl) rfl (lM N) h (fun p e s m args below meth c X hr => ?_)
  unfold fm_wet
  refine g_aload_n X dX11_wet_0 0 rfl rfl ?_
  refine g_iload_n X dX11_wet_1 1 rfl rfl ?_
  refine g_ct X (v0 := .int (fm_isJettyT M a1)) (st := []) (ok_V X (k0 := 138) (As := [.int a1]) wkX11_isJetty (tm_isJettyT M a1) rfl k_138 s_138 (by decide) rfl m_5_190 rfl (hRm (by decide) (by decide)) ⟨Nat.zero_le _, Nat.zero_le _⟩ (Nat.le_of_ble_eq_true rfl) dX11_wet_2) ?_
  refine g_if_ne X 15 (by decide) dX11_wet_5 (fun q5 => ?_) (fun q5 => ?_)
  · refine g_aload_n X dX11_wet_15 0 rfl rfl ?_
    refine get_11_7 X (k := 138) k_138 s_138 m_5_68 dX11_wet_16 ?_
    refine g_iload_n X dX11_wet_19 1 rfl rfl ?_
    refine g_iald X (n := 20) (k := 146) k_146 s_146 dX11_wet_20 (fun h1 => ?_)
    refine g_ilet X (fun v2 => ?_)
    refine g_istore_n X dX11_wet_21 rfl (by decide) rfl [1, 2, 3, 0] (lu := [(0, .ref (ad 138)), (1, .int a1), (2, .int a2), (3, .int v2)]) rfl ?_
    refine g_aload_n X dX11_wet_22 0 rfl rfl ?_
    refine get_11_7 X (k := 138) k_138 s_138 m_5_68 dX11_wet_23 ?_
    refine g_iload_n X dX11_wet_26 1 rfl rfl ?_
    refine g_iload_n X dX11_wet_27 2 rfl rfl ?_
    refine g_if_eq X 35 (by decide) dX11_wet_28 (fun q28 => ?_) (fun q28 => ?_)
    · refine g_iconst X dX11_wet_35 ic_0 ?_
      refine g_iast X (n := 20) (k := 146) k_146 s_146 dX11_wet_36 (fun h3 => ?_)
      refine g_mlet X (fun M4 => ?_)
      refine g_iload_n X dX11_wet_37 3 rfl rfl ?_
      exact g_iret X hr rfl dX11_wet_38
    · refine g_iconst X dX11_wet_31 ic_1 ?_
      refine g_goto X 36 (by decide) dX11_wet_32 ?_
      refine g_iast X (n := 20) (k := 146) k_146 s_146 dX11_wet_36 (fun h5 => ?_)
      refine g_mlet X (fun M6 => ?_)
      refine g_iload_n X dX11_wet_37 3 rfl rfl ?_
      exact g_iret X hr rfl dX11_wet_38
  · refine g_aload_n X dX11_wet_8 0 rfl rfl ?_
    refine g_bipush X dX11_wet_9 bi_m2 ?_
    refine g_cs X (st := []) (fun _ hh => ok_V X (k0 := 138) (As := [.int (-2)]) wkX11_no (tm_no M (-2) hh) rfl k_138 s_138 (by decide) rfl m_5_154 rfl (hRm (by decide) (by decide)) ⟨Nat.zero_le _, Nat.zero_le _⟩ (Nat.le_of_ble_eq_true rfl) dX11_wet_11) (fun r8 M7 _ => ?_)
    exact g_iret X hr rfl dX11_wet_14
set_option maxRecDepth 100000 in
set_option maxHeartbeats 4000000 in
theorem tm_isLevel {l : Launch} {D : va_G} {cy : Nat → ClassId} {ad : Nat → Nat} {N : Mem} (M : Mem) (a1 : Int32) {x : Int32} (h : fm_isLevel M a1 = some x) : Mt l D cy ad yX11_isLevel cX11_isLevel 2 (some .boolean) 1 [.ref (ad 138), .int a1] ((wfM N) M) (some (.int x), (wfM N) M) := by
  refine met_of (fin := (finI M)) (lv0 := [(0, .ref (ad 138)), (1, .int a1)]) (by decide) (Nat.le_of_ble_eq_true rfl) rfl (lM N) h (fun p e s m args below meth c X hr => ?_)
  unfold fm_isLevel
  refine g_iload_n X dX11_isLevel_0 1 rfl rfl ?_
  refine g_bipush X dX11_isLevel_1 bi_m50 ?_
  refine g_icmp_lt X 16 (by decide) dX11_isLevel_3 (fun q3 => ?_) (fun q3 => ?_)
  · refine g_iconst X dX11_isLevel_16 ic_0 ?_
    exact g_zret X hr (isB_n (by decide)) rfl dX11_isLevel_17
  · refine g_iload_n X dX11_isLevel_6 1 rfl rfl ?_
    refine g_bipush X dX11_isLevel_7 bi_50 ?_
    refine g_icmp_gt X 16 (by decide) dX11_isLevel_9 (fun q9 => ?_) (fun q9 => ?_)
    · refine g_iconst X dX11_isLevel_16 ic_0 ?_
      exact g_zret X hr (isB_n (by decide)) rfl dX11_isLevel_17
    · refine g_iconst X dX11_isLevel_12 ic_1 ?_
      refine g_goto X 17 (by decide) dX11_isLevel_13 ?_
      exact g_zret X hr (isB_n (by decide)) rfl dX11_isLevel_17
theorem tm_isLevelT {l : Launch} {D : va_G} {cy : Nat → ClassId} {ad : Nat → Nat} {N : Mem} (M : Mem) (a1 : Int32) : Mt l D cy ad yX11_isLevel cX11_isLevel 2 (some .boolean) 1 [.ref (ad 138), .int a1] ((wfM N) M) (some (.int (fm_isLevelT M a1)), (wfM N) M) := tm_isLevel M a1 (fm_isLevelE M a1)
set_option maxRecDepth 100000 in
set_option maxHeartbeats 4000000 in
theorem tm_rise {l : Launch} {D : va_G} {cy : Nat → ClassId} {ad : Nat → Nat} {N : Mem} (M : Mem) (a1 : Int32) (a2 : Int32) {x : (Int32 × Mem)} (h : fm_rise M a1 a2 = some x) : Mt l D cy ad yX11_rise cX11_rise 3 (some .int) 2 [.ref (ad 138), .int a1, .int a2] ((wfM N) M) (some (.int x.1), (wfM N) x.2) := by
  refine met_of (fin := finS) (lv0 := [(0, .ref (ad 138)), (1, .int a1), (2, .int a2)]) (by decide) (Nat.le_of_ble_eq_true rfl) rfl (lM N) h (fun p e s m args below meth c X hr => ?_)
  unfold fm_rise
  refine g_aload_n X dX11_rise_0 0 rfl rfl ?_
  refine g_iload_n X dX11_rise_1 1 rfl rfl ?_
  refine g_ct X (v0 := .int (fm_isJettyT M a1)) (st := []) (ok_V X (k0 := 138) (As := [.int a1]) wkX11_isJetty (tm_isJettyT M a1) rfl k_138 s_138 (by decide) rfl m_5_190 rfl (hRm (by decide) (by decide)) ⟨Nat.zero_le _, Nat.zero_le _⟩ (Nat.le_of_ble_eq_true rfl) dX11_rise_2) ?_
  refine g_if_eq X 16 (by decide) dX11_rise_5 (fun q5 => ?_) (fun q5 => ?_)
  · refine g_aload_n X dX11_rise_16 0 rfl rfl ?_
    refine g_bipush X dX11_rise_17 bi_m2 ?_
    refine g_cs X (st := []) (fun _ hh => ok_V X (k0 := 138) (As := [.int (-2)]) wkX11_no (tm_no M (-2) hh) rfl k_138 s_138 (by decide) rfl m_5_154 rfl (hRm (by decide) (by decide)) ⟨Nat.zero_le _, Nat.zero_le _⟩ (Nat.le_of_ble_eq_true rfl) dX11_rise_19) (fun r2 M1 _ => ?_)
    refine g_pop X dX11_rise_22 rfl ?_
    refine g_sipush X dX11_rise_23 si_m1002 ?_
    exact g_iret X hr rfl dX11_rise_26
  · refine g_aload_n X dX11_rise_8 0 rfl rfl ?_
    refine g_iload_n X dX11_rise_9 2 rfl rfl ?_
    refine g_ct X (v0 := .int (fm_isLevelT M a2)) (st := []) (ok_V X (k0 := 138) (As := [.int a2]) wkX11_isLevel (tm_isLevelT M a2) rfl k_138 s_138 (by decide) rfl m_6_14 rfl (hRm (by decide) (by decide)) ⟨Nat.zero_le _, Nat.zero_le _⟩ (Nat.le_of_ble_eq_true rfl) dX11_rise_10) ?_
    refine g_if_ne X 27 (by decide) dX11_rise_13 (fun q13 => ?_) (fun q13 => ?_)
    · refine g_aload_n X dX11_rise_27 0 rfl rfl ?_
      refine g_iload_n X dX11_rise_28 1 rfl rfl ?_
      refine g_iload_n X dX11_rise_29 2 rfl rfl ?_
      refine g_ci X (st := []) (fun _ hh => ok_V X (k0 := 138) (As := [.int a1, .int a2]) wkX11_riseAt (tm_riseAt M a1 a2 hh) rfl k_138 s_138 (by decide) rfl m_5_206 rfl (hRm (by decide) (by decide)) ⟨Nat.zero_le _, Nat.zero_le _⟩ (Nat.le_of_ble_eq_true rfl) dX11_rise_30) (fun r3 _ => ?_)
      exact g_iret X hr rfl dX11_rise_33
    · refine g_aload_n X dX11_rise_16 0 rfl rfl ?_
      refine g_bipush X dX11_rise_17 bi_m2 ?_
      refine g_cs X (st := []) (fun _ hh => ok_V X (k0 := 138) (As := [.int (-2)]) wkX11_no (tm_no M (-2) hh) rfl k_138 s_138 (by decide) rfl m_5_154 rfl (hRm (by decide) (by decide)) ⟨Nat.zero_le _, Nat.zero_le _⟩ (Nat.le_of_ble_eq_true rfl) dX11_rise_19) (fun r5 M4 _ => ?_)
      refine g_pop X dX11_rise_22 rfl ?_
      refine g_sipush X dX11_rise_23 si_m1002 ?_
      exact g_iret X hr rfl dX11_rise_26
set_option maxRecDepth 100000 in
set_option maxHeartbeats 4000000 in
theorem tm_lake {l : Launch} {D : va_G} {cy : Nat → ClassId} {ad : Nat → Nat} {N : Mem} (M : Mem) (a1 : Int32) (a2 : Int32) {x : (Int32 × Mem)} (h : fm_lake M a1 a2 = some x) : Mt l D cy ad yX11_lake cX11_lake 4 (some .int) 2 [.ref (ad 138), .int a1, .int a2] ((wfM N) M) (some (.int x.1), (wfM N) x.2) := by
  refine met_of (fin := finS) (lv0 := [(0, .ref (ad 138)), (1, .int a1), (2, .int a2)]) (by decide) (Nat.le_of_ble_eq_true rfl) rfl (lM N) h (fun p e s m args below meth c X hr => ?_)
  unfold fm_lake
  refine g_iload_n X dX11_lake_0 1 rfl rfl ?_
  refine g_if_lt X 9 (by decide) dX11_lake_1 (fun q1 => ?_) (fun q1 => ?_)
  · refine g_aload_n X dX11_lake_9 0 rfl rfl ?_
    refine g_bipush X dX11_lake_10 bi_m2 ?_
    refine g_cs X (st := []) (fun _ hh => ok_V X (k0 := 138) (As := [.int (-2)]) wkX11_no (tm_no M (-2) hh) rfl k_138 s_138 (by decide) rfl m_5_154 rfl (hRm (by decide) (by decide)) ⟨Nat.zero_le _, Nat.zero_le _⟩ (Nat.le_of_ble_eq_true rfl) dX11_lake_12) (fun r2 M1 _ => ?_)
    exact g_iret X hr rfl dX11_lake_15
  · refine g_iload_n X dX11_lake_4 1 rfl rfl ?_
    refine g_iconst X dX11_lake_5 ic_2 ?_
    refine g_icmp_le X 16 (by decide) dX11_lake_6 (fun q6 => ?_) (fun q6 => ?_)
    · refine g_iload_n X dX11_lake_16 1 rfl rfl ?_
      refine g_jlet X 28 (fun z28 : Unit => [(0, .ref (ad 138)), (1, .int a1), (2, .int a2)]) (fun z28 : Unit => []) (fun z28 : Unit => M) (fun z28 => ?_) (fun J28 hJ28 => ?_)
      · show GF _ _ _ _ _ _ _ _ _ _ _ _ _ _ _ _ _ _ _ _ _ 28 [(0, .ref (ad 138)), (1, .int a1), (2, .int a2)] [] M
        refine g_iload_n X dX11_lake_28 1 rfl rfl ?_
        refine g_iconst X dX11_lake_29 ic_1 ?_
        refine g_jlet X 43 (fun z43 : Unit => [(0, .ref (ad 138)), (1, .int a1), (2, .int a2)]) (fun z43 : Unit => []) (fun z43 : Unit => M) (fun z43 => ?_) (fun J43 hJ43 => ?_)
        · show GF _ _ _ _ _ _ _ _ _ _ _ _ _ _ _ _ _ _ _ _ _ 43 [(0, .ref (ad 138)), (1, .int a1), (2, .int a2)] [] M
          refine g_iload_n X dX11_lake_43 1 rfl rfl ?_
          refine g_iconst X dX11_lake_44 ic_2 ?_
          refine g_jlet X 63 (fun z63 : Unit => [(0, .ref (ad 138)), (1, .int a1), (2, .int a2)]) (fun z63 : Unit => []) (fun z63 : Unit => M) (fun z63 => ?_) (fun J63 hJ63 => ?_)
          · show GF _ _ _ _ _ _ _ _ _ _ _ _ _ _ _ _ _ _ _ _ _ 63 [(0, .ref (ad 138)), (1, .int a1), (2, .int a2)] [] M
            refine g_aload_n X dX11_lake_63 0 rfl rfl ?_
            refine get_11_18 X (k := 138) k_138 s_138 m_5_79 dX11_lake_64 ?_
            refine g_iconst X dX11_lake_67 ic_5 ?_
            refine g_iload_n X dX11_lake_68 1 rfl rfl ?_
            refine g_iadd X dX11_lake_69 ?_
            refine g_iald X (n := 9) (k := 156) k_156 s_156 dX11_lake_70 (fun h3 => ?_)
            refine g_ilet X (fun v4 => ?_)
            refine g_istore_n X dX11_lake_71 rfl (by decide) rfl [1, 2, 3, 0] (lu := [(0, .ref (ad 138)), (1, .int a1), (2, .int a2), (3, .int v4)]) rfl ?_
            refine g_aload_n X dX11_lake_72 0 rfl rfl ?_
            refine get_11_18 X (k := 138) k_138 s_138 m_5_79 dX11_lake_73 ?_
            refine g_iconst X dX11_lake_76 ic_5 ?_
            refine g_iload_n X dX11_lake_77 1 rfl rfl ?_
            refine g_iadd X dX11_lake_78 ?_
            refine g_iload_n X dX11_lake_79 2 rfl rfl ?_
            refine g_iast X (n := 9) (k := 156) k_156 s_156 dX11_lake_80 (fun h5 => ?_)
            refine g_mlet X (fun M6 => ?_)
            refine g_iload_n X dX11_lake_81 3 rfl rfl ?_
            refine g_iload_n X dX11_lake_82 2 rfl rfl ?_
            refine g_icmp_eq X 90 (by decide) dX11_lake_83 (fun q83 => ?_) (fun q83 => ?_)
            · refine g_iconst X dX11_lake_90 ic_0 ?_
              exact g_iret X hr rfl dX11_lake_91
            · refine g_iconst X dX11_lake_86 ic_1 ?_
              refine g_goto X 91 (by decide) dX11_lake_87 ?_
              exact g_iret X hr rfl dX11_lake_91
          refine g_icmp_ne X 63 (by decide) dX11_lake_45 (fun q45 => ?_) (fun q45 => ?_)
          · exact hJ63 ()
          · refine g_aload_n X dX11_lake_48 0 rfl rfl ?_
            refine g_iload_n X dX11_lake_49 2 rfl rfl ?_
            refine g_ct X (v0 := .int (fm_isSpotT M a2)) (st := []) (ok_V X (k0 := 138) (As := [.int a2]) wkX11_isSpot (tm_isSpotT M a2) rfl k_138 s_138 (by decide) rfl m_5_214 rfl (hRm (by decide) (by decide)) ⟨Nat.zero_le _, Nat.zero_le _⟩ (Nat.le_of_ble_eq_true rfl) dX11_lake_50) ?_
            refine g_if_ne X 63 (by decide) dX11_lake_53 (fun q53 => ?_) (fun q53 => ?_)
            · exact hJ63 ()
            · refine g_aload_n X dX11_lake_56 0 rfl rfl ?_
              refine g_bipush X dX11_lake_57 bi_m2 ?_
              refine g_cs X (st := []) (fun _ hh => ok_V X (k0 := 138) (As := [.int (-2)]) wkX11_no (tm_no M (-2) hh) rfl k_138 s_138 (by decide) rfl m_5_154 rfl (hRm (by decide) (by decide)) ⟨Nat.zero_le _, Nat.zero_le _⟩ (Nat.le_of_ble_eq_true rfl) dX11_lake_59) (fun r8 M7 _ => ?_)
              exact g_iret X hr rfl dX11_lake_62
        refine g_icmp_ne X 43 (by decide) dX11_lake_30 (fun q30 => ?_) (fun q30 => ?_)
        · exact hJ43 ()
        · refine g_iload_n X dX11_lake_33 2 rfl rfl ?_
          refine g_if_lt X 56 (by decide) dX11_lake_34 (fun q34 => ?_) (fun q34 => ?_)
          · refine g_aload_n X dX11_lake_56 0 rfl rfl ?_
            refine g_bipush X dX11_lake_57 bi_m2 ?_
            refine g_cs X (st := []) (fun _ hh => ok_V X (k0 := 138) (As := [.int (-2)]) wkX11_no (tm_no M (-2) hh) rfl k_138 s_138 (by decide) rfl m_5_154 rfl (hRm (by decide) (by decide)) ⟨Nat.zero_le _, Nat.zero_le _⟩ (Nat.le_of_ble_eq_true rfl) dX11_lake_59) (fun r10 M9 _ => ?_)
            exact g_iret X hr rfl dX11_lake_62
          · refine g_iload_n X dX11_lake_37 2 rfl rfl ?_
            refine g_bipush X dX11_lake_38 bi_60 ?_
            refine g_icmp_gt X 56 (by decide) dX11_lake_40 (fun q40 => ?_) (fun q40 => ?_)
            · refine g_aload_n X dX11_lake_56 0 rfl rfl ?_
              refine g_bipush X dX11_lake_57 bi_m2 ?_
              refine g_cs X (st := []) (fun _ hh => ok_V X (k0 := 138) (As := [.int (-2)]) wkX11_no (tm_no M (-2) hh) rfl k_138 s_138 (by decide) rfl m_5_154 rfl (hRm (by decide) (by decide)) ⟨Nat.zero_le _, Nat.zero_le _⟩ (Nat.le_of_ble_eq_true rfl) dX11_lake_59) (fun r12 M11 _ => ?_)
              exact g_iret X hr rfl dX11_lake_62
            · exact hJ43 ()
      refine g_if_ne X 28 (by decide) dX11_lake_17 (fun q17 => ?_) (fun q17 => ?_)
      · exact hJ28 ()
      · refine g_aload_n X dX11_lake_20 0 rfl rfl ?_
        refine g_iload_n X dX11_lake_21 2 rfl rfl ?_
        refine g_ct X (v0 := .int (fm_isLevelT M a2)) (st := []) (ok_V X (k0 := 138) (As := [.int a2]) wkX11_isLevel (tm_isLevelT M a2) rfl k_138 s_138 (by decide) rfl m_6_14 rfl (hRm (by decide) (by decide)) ⟨Nat.zero_le _, Nat.zero_le _⟩ (Nat.le_of_ble_eq_true rfl) dX11_lake_22) ?_
        refine g_if_eq X 56 (by decide) dX11_lake_25 (fun q25 => ?_) (fun q25 => ?_)
        · refine g_aload_n X dX11_lake_56 0 rfl rfl ?_
          refine g_bipush X dX11_lake_57 bi_m2 ?_
          refine g_cs X (st := []) (fun _ hh => ok_V X (k0 := 138) (As := [.int (-2)]) wkX11_no (tm_no M (-2) hh) rfl k_138 s_138 (by decide) rfl m_5_154 rfl (hRm (by decide) (by decide)) ⟨Nat.zero_le _, Nat.zero_le _⟩ (Nat.le_of_ble_eq_true rfl) dX11_lake_59) (fun r14 M13 _ => ?_)
          exact g_iret X hr rfl dX11_lake_62
        · exact hJ28 ()
    · refine g_aload_n X dX11_lake_9 0 rfl rfl ?_
      refine g_bipush X dX11_lake_10 bi_m2 ?_
      refine g_cs X (st := []) (fun _ hh => ok_V X (k0 := 138) (As := [.int (-2)]) wkX11_no (tm_no M (-2) hh) rfl k_138 s_138 (by decide) rfl m_5_154 rfl (hRm (by decide) (by decide)) ⟨Nat.zero_le _, Nat.zero_le _⟩ (Nat.le_of_ble_eq_true rfl) dX11_lake_12) (fun r16 M15 _ => ?_)
      exact g_iret X hr rfl dX11_lake_15
set_option maxRecDepth 100000 in
set_option maxHeartbeats 4000000 in
theorem tm_isHour {l : Launch} {D : va_G} {cy : Nat → ClassId} {ad : Nat → Nat} {N : Mem} (M : Mem) (a1 : Int32) {x : Int32} (h : fm_isHour M a1 = some x) : Mt l D cy ad yX11_isHour cX11_isHour 2 (some .boolean) 1 [.ref (ad 138), .int a1] ((wfM N) M) (some (.int x), (wfM N) M) := by
  refine met_of (fin := (finI M)) (lv0 := [(0, .ref (ad 138)), (1, .int a1)]) (by decide) (Nat.le_of_ble_eq_true rfl) rfl (lM N) h (fun p e s m args below meth c X hr => ?_)
  unfold fm_isHour
  refine g_iload_n X dX11_isHour_0 1 rfl rfl ?_
  refine g_if_lt X 14 (by decide) dX11_isHour_1 (fun q1 => ?_) (fun q1 => ?_)
  · refine g_iconst X dX11_isHour_14 ic_0 ?_
    exact g_zret X hr (isB_n (by decide)) rfl dX11_isHour_15
  · refine g_iload_n X dX11_isHour_4 1 rfl rfl ?_
    refine g_bipush X dX11_isHour_5 bi_12 ?_
    refine g_icmp_ge X 14 (by decide) dX11_isHour_7 (fun q7 => ?_) (fun q7 => ?_)
    · refine g_iconst X dX11_isHour_14 ic_0 ?_
      exact g_zret X hr (isB_n (by decide)) rfl dX11_isHour_15
    · refine g_iconst X dX11_isHour_10 ic_1 ?_
      refine g_goto X 15 (by decide) dX11_isHour_11 ?_
      exact g_zret X hr (isB_n (by decide)) rfl dX11_isHour_15
theorem tm_isHourT {l : Launch} {D : va_G} {cy : Nat → ClassId} {ad : Nat → Nat} {N : Mem} (M : Mem) (a1 : Int32) : Mt l D cy ad yX11_isHour cX11_isHour 2 (some .boolean) 1 [.ref (ad 138), .int a1] ((wfM N) M) (some (.int (fm_isHourT M a1)), (wfM N) M) := tm_isHour M a1 (fm_isHourE M a1)
set_option maxRecDepth 100000 in
set_option maxHeartbeats 4000000 in
theorem tm_wind {l : Launch} {D : va_G} {cy : Nat → ClassId} {ad : Nat → Nat} {N : Mem} (M : Mem) (a1 : Int32) (a2 : Int32) {x : (Int32 × Mem)} (h : fm_wind M a1 a2 = some x) : Mt l D cy ad yX11_wind cX11_wind 4 (some .int) 2 [.ref (ad 138), .int a1, .int a2] ((wfM N) M) (some (.int x.1), (wfM N) x.2) := by
  refine met_of (fin := finS) (lv0 := [(0, .ref (ad 138)), (1, .int a1), (2, .int a2)]) (by decide) (Nat.le_of_ble_eq_true rfl) rfl (lM N) h (fun p e s m args below meth c X hr => ?_)
  unfold fm_wind
  refine g_aload_n X dX11_wind_0 0 rfl rfl ?_
  refine g_iload_n X dX11_wind_1 1 rfl rfl ?_
  refine g_ct X (v0 := .int (fm_isHourT M a1)) (st := []) (ok_V X (k0 := 138) (As := [.int a1]) wkX11_isHour (tm_isHourT M a1) rfl k_138 s_138 (by decide) rfl m_6_26 rfl (hRm (by decide) (by decide)) ⟨Nat.zero_le _, Nat.zero_le _⟩ (Nat.le_of_ble_eq_true rfl) dX11_wind_2) ?_
  refine g_if_eq X 18 (by decide) dX11_wind_5 (fun q5 => ?_) (fun q5 => ?_)
  · refine g_aload_n X dX11_wind_18 0 rfl rfl ?_
    refine g_bipush X dX11_wind_19 bi_m2 ?_
    refine g_cs X (st := []) (fun _ hh => ok_V X (k0 := 138) (As := [.int (-2)]) wkX11_no (tm_no M (-2) hh) rfl k_138 s_138 (by decide) rfl m_5_154 rfl (hRm (by decide) (by decide)) ⟨Nat.zero_le _, Nat.zero_le _⟩ (Nat.le_of_ble_eq_true rfl) dX11_wind_21) (fun r2 M1 _ => ?_)
    exact g_iret X hr rfl dX11_wind_24
  · refine g_iload_n X dX11_wind_8 2 rfl rfl ?_
    refine g_if_lt X 18 (by decide) dX11_wind_9 (fun q9 => ?_) (fun q9 => ?_)
    · refine g_aload_n X dX11_wind_18 0 rfl rfl ?_
      refine g_bipush X dX11_wind_19 bi_m2 ?_
      refine g_cs X (st := []) (fun _ hh => ok_V X (k0 := 138) (As := [.int (-2)]) wkX11_no (tm_no M (-2) hh) rfl k_138 s_138 (by decide) rfl m_5_154 rfl (hRm (by decide) (by decide)) ⟨Nat.zero_le _, Nat.zero_le _⟩ (Nat.le_of_ble_eq_true rfl) dX11_wind_21) (fun r4 M3 _ => ?_)
      exact g_iret X hr rfl dX11_wind_24
    · refine g_iload_n X dX11_wind_12 2 rfl rfl ?_
      refine g_bipush X dX11_wind_13 bi_9 ?_
      refine g_icmp_le X 25 (by decide) dX11_wind_15 (fun q15 => ?_) (fun q15 => ?_)
      · refine g_aload_n X dX11_wind_25 0 rfl rfl ?_
        refine get_11_17 X (k := 138) k_138 s_138 m_5_78 dX11_wind_26 ?_
        refine g_iload_n X dX11_wind_29 1 rfl rfl ?_
        refine g_iald X (n := 12) (k := 155) k_155 s_155 dX11_wind_30 (fun h5 => ?_)
        refine g_ilet X (fun v6 => ?_)
        refine g_istore_n X dX11_wind_31 rfl (by decide) rfl [1, 2, 3, 0] (lu := [(0, .ref (ad 138)), (1, .int a1), (2, .int a2), (3, .int v6)]) rfl ?_
        refine g_aload_n X dX11_wind_32 0 rfl rfl ?_
        refine get_11_17 X (k := 138) k_138 s_138 m_5_78 dX11_wind_33 ?_
        refine g_iload_n X dX11_wind_36 1 rfl rfl ?_
        refine g_iload_n X dX11_wind_37 2 rfl rfl ?_
        refine g_iast X (n := 12) (k := 155) k_155 s_155 dX11_wind_38 (fun h7 => ?_)
        refine g_mlet X (fun M8 => ?_)
        refine g_iload_n X dX11_wind_39 3 rfl rfl ?_
        exact g_iret X hr rfl dX11_wind_40
      · refine g_aload_n X dX11_wind_18 0 rfl rfl ?_
        refine g_bipush X dX11_wind_19 bi_m2 ?_
        refine g_cs X (st := []) (fun _ hh => ok_V X (k0 := 138) (As := [.int (-2)]) wkX11_no (tm_no M (-2) hh) rfl k_138 s_138 (by decide) rfl m_5_154 rfl (hRm (by decide) (by decide)) ⟨Nat.zero_le _, Nat.zero_le _⟩ (Nat.le_of_ble_eq_true rfl) dX11_wind_21) (fun r10 M9 _ => ?_)
        exact g_iret X hr rfl dX11_wind_24
set_option maxRecDepth 100000 in
set_option maxHeartbeats 4000000 in
theorem Lm_winds_L18 {l : Launch} {D : va_G} {cy : Nat → ClassId} {ad : Nat → Nat} {N : Mem} {p : Program} {e : Env} {s : State} {m : MethodId} {args : Array Value} {below : List Frame} {meth : Method} {c : Code} (X : Cx p s m args meth c cX11_winds 6 RX11 D cy ad (AA ad) (wfM N) sdM) (hr : meth.sig.returnType = (some .int)) (b1 : Int32) (kx63 : Int32 → Mem → Option (Int32 × Mem)) (hkx63 : ∀ (y3 : Int32) (M : Mem), GF p l e (Rm 3) s m args below meth c 6 D cy ad (AA ad) 0 0 (wfM N) (QM D cy ad (wfM N) below args s) finS (kx63 y3 M) 63 [(3, .int y3)] [] M) : ∀ (n : Nat) (x3 : Int32) (M : Mem), GF p l e (Rm 3) s m args below meth c 6 D cy ad (AA ad) 0 0 (wfM N) (QM D cy ad (wfM N) below args s) finS (fm_winds_L18 b1 kx63 n x3 M) 18 [(0, .ref (ad 138)), (1, .int b1), (3, .int x3)] [] M := by
  intro n
  induction n with
  | zero => intro x3 M; exact g_none
  | succ n ih =>
    intro x3 M
    rw [fm_winds_L18]
    refine g_iload_n X dX11_winds_18 2 rfl rfl ?_
    refine g_bipush X dX11_winds_19 bi_12 ?_
    refine g_icmp_ge X 81 (by decide) dX11_winds_21 (fun q21 => ?_) (fun q21 => ?_)
    · refine g_iload_n X dX11_winds_81 2 rfl rfl ?_
      exact g_iret X hr rfl dX11_winds_82
    · refine g_iload_n X dX11_winds_24 2 rfl rfl ?_
      refine g_aload_n X dX11_winds_25 0 rfl rfl ?_
      refine get_11_1 X (k := 138) k_138 s_138 m_5_62 dX11_winds_26 ?_
      refine g_iload_n X dX11_winds_29 1 rfl rfl ?_
      refine g_iald X (n := 8) (k := 140) k_140 s_140 dX11_winds_30 (fun h2 => ?_)
      refine g_icmp_ge X 81 (by decide) dX11_winds_31 (fun q31 => ?_) (fun q31 => ?_)
      · refine g_iload_n X dX11_winds_81 2 rfl rfl ?_
        exact g_iret X hr rfl dX11_winds_82
      · refine g_aload_n X dX11_winds_34 0 rfl rfl ?_
        refine get_11_2 X (k := 138) k_138 s_138 m_5_63 dX11_winds_35 ?_
        refine g_bipush X dX11_winds_38 bi_40 ?_
        refine g_iload_n X dX11_winds_40 1 rfl rfl ?_
        refine g_imul X dX11_winds_41 ?_
        refine g_iload_n X dX11_winds_42 2 rfl rfl ?_
        refine g_iadd X dX11_winds_43 ?_
        refine g_lald23 X (k := 141) k_141 s_141 dX11_winds_44 (fun h3 => ?_)
        refine g_llet X (fun v4 => ?_)
        refine g_lstore X dX11_winds_45 (by decide) rfl [1, 2, 3, 0] (lu := [(0, .ref (ad 138)), (1, .int b1), (3, .int x3), (4, .long v4)]) rfl ?_
        refine g_lload X dX11_winds_47 3 rfl ?_
        refine g_lconst X (v := 0) dX11_winds_49 (by decide) ?_
        refine g_lcmp X dX11_winds_50 ?_
        refine g_if_lt X 81 (by decide) dX11_winds_51 (fun q51 => ?_) (fun q51 => ?_)
        · refine g_iload_n X dX11_winds_81 2 rfl rfl ?_
          exact g_iret X hr rfl dX11_winds_82
        · refine g_lload X dX11_winds_54 3 rfl ?_
          refine g_ldc2 X dX11_winds_56 m_6_34 ?_
          refine g_lcmp X dX11_winds_59 ?_
          refine g_if_le X 66 (by decide) dX11_winds_60 (fun q60 => ?_) (fun q60 => ?_)
          · refine g_aload_n X dX11_winds_66 0 rfl rfl ?_
            refine get_11_17 X (k := 138) k_138 s_138 m_5_78 dX11_winds_67 ?_
            refine g_iload_n X dX11_winds_70 2 rfl rfl ?_
            refine g_iinc X (k := 2) (v := (x3 + 1)) dX11_winds_71 rfl (ii_1 _) (by decide) rfl [1, 2, 0, 3] (lu := [(0, .ref (ad 138)), (1, .int b1), (3, .int (x3 + 1)), (4, .long v4)]) rfl ?_
            refine g_lload X dX11_winds_74 3 rfl ?_
            refine g_l2i X dX11_winds_76 ?_
            refine g_iast X (n := 12) (k := 155) k_155 s_155 dX11_winds_77 (fun h5 => ?_)
            refine g_mlet X (fun M6 => ?_)
            refine g_goto X 18 (by decide) dX11_winds_78 ?_
            refine g_sub (lu := [(0, .ref (ad 138)), (1, .int b1), (3, .int (x3 + 1))]) [0, 1, 2] rfl ?_
            exact ih (x3 + 1) M6
          · refine g_sub (lu := [(3, .int x3)]) [2] rfl ?_
            exact hkx63 x3 M
set_option maxRecDepth 100000 in
set_option maxHeartbeats 4000000 in
theorem tm_winds {l : Launch} {D : va_G} {cy : Nat → ClassId} {ad : Nat → Nat} {N : Mem} (M : Mem) (a1 : Int32) {x : (Int32 × Mem)} (h : fm_winds M a1 = some x) : Mt l D cy ad yX11_winds cX11_winds 6 (some .int) 3 [.ref (ad 138), .int a1] ((wfM N) M) (some (.int x.1), (wfM N) x.2) := by
  refine met_of (fin := finS) (lv0 := [(0, .ref (ad 138)), (1, .int a1)]) (by decide) (Nat.le_of_ble_eq_true rfl) rfl (lM N) h (fun p e s m args below meth c X hr => ?_)
  unfold fm_winds
  refine g_aload_n X dX11_winds_0 0 rfl rfl ?_
  refine g_iload_n X dX11_winds_1 1 rfl rfl ?_
  refine g_ci X (st := []) (fun _ hh => ok_V X (k0 := 138) (As := [.int a1]) wkX11_noRow (tm_noRow M a1 hh) rfl k_138 s_138 (by decide) rfl m_5_162 rfl (hRm (by decide) (by decide)) ⟨Nat.zero_le _, Nat.zero_le _⟩ (Nat.le_of_ble_eq_true rfl) dX11_winds_2) (fun r1 _ => ?_)
  refine g_istore_n X dX11_winds_5 rfl (by decide) rfl [1, 2, 0] (lu := [(0, .ref (ad 138)), (1, .int a1), (2, .int r1)]) rfl ?_
  refine g_iload_n X dX11_winds_6 2 rfl rfl ?_
  refine g_if_ge X 16 (by decide) dX11_winds_7 (fun q7 => ?_) (fun q7 => ?_)
  · refine g_iconst X dX11_winds_16 ic_0 ?_
    refine g_istore_n X dX11_winds_17 rfl (by decide) rfl [1, 2, 0] (lu := [(0, .ref (ad 138)), (1, .int a1), (3, .int 0)]) rfl ?_
    refine Lm_winds_L18  X hr a1  _ (fun w7 M8 => ?_) 1000 0 M
    · refine g_goto X 81 (by decide) dX11_winds_63 ?_
      refine g_iload_n X dX11_winds_81 0 rfl rfl ?_
      exact g_iret X hr rfl dX11_winds_82
  · refine g_aload_n X dX11_winds_10 0 rfl rfl ?_
    refine g_iload_n X dX11_winds_11 2 rfl rfl ?_
    refine g_cs X (st := []) (fun _ hh => ok_V X (k0 := 138) (As := [.int r1]) wkX11_no (tm_no M r1 hh) rfl k_138 s_138 (by decide) rfl m_5_154 rfl (hRm (by decide) (by decide)) ⟨Nat.zero_le _, Nat.zero_le _⟩ (Nat.le_of_ble_eq_true rfl) dX11_winds_12) (fun r10 M9 _ => ?_)
    exact g_iret X hr rfl dX11_winds_15
set_option maxRecDepth 100000 in
set_option maxHeartbeats 4000000 in
theorem Lm_feed_L40 {l : Launch} {D : va_G} {cy : Nat → ClassId} {ad : Nat → Nat} {N : Mem} {p : Program} {e : Env} {s : State} {m : MethodId} {args : Array Value} {below : List Frame} {meth : Method} {c : Code} (X : Cx p s m args meth c cX11_feed 4 RX11 D cy ad (AA ad) (wfM N) sdM) (hr : meth.sig.returnType = (some .int)) (b1 : Int32) (kx76 : Mem → Option (Int32 × Mem)) (hkx76 : ∀ (M : Mem), GF p l e (Rm 2) s m args below meth c 4 D cy ad (AA ad) 0 0 (wfM N) (QM D cy ad (wfM N) below args s) finS (kx76 M) 76 [(0, .ref (ad 138))] [] M) : ∀ (n : Nat) (x3 : Int32) (M : Mem), GF p l e (Rm 2) s m args below meth c 4 D cy ad (AA ad) 0 0 (wfM N) (QM D cy ad (wfM N) below args s) finS (fm_feed_L40 b1 kx76 n x3 M) 40 [(0, .ref (ad 138)), (1, .int b1), (3, .int x3)] [] M := by
  intro n
  induction n with
  | zero => intro x3 M; exact g_none
  | succ n ih =>
    intro x3 M
    rw [fm_feed_L40]
    refine g_iload_n X dX11_feed_40 2 rfl rfl ?_
    refine g_if_lt X 76 (by decide) dX11_feed_41 (fun q41 => ?_) (fun q41 => ?_)
    · refine g_sub (lu := [(0, .ref (ad 138))]) [0] rfl ?_
      exact hkx76 M
    · refine g_aload_n X dX11_feed_44 0 rfl rfl ?_
      refine get_11_9 X (k := 138) k_138 s_138 m_5_70 dX11_feed_45 ?_
      refine g_aload_n X dX11_feed_48 0 rfl rfl ?_
      refine g_dup X dX11_feed_49 rfl ?_
      refine get_11_8 X (k := 138) k_138 s_138 m_5_69 dX11_feed_50 ?_
      refine g_dup_x1 X dX11_feed_53 rfl rfl ?_
      refine g_iconst X dX11_feed_54 ic_1 ?_
      refine g_iadd X dX11_feed_55 ?_
      refine put_11_8 X (k := 138) k_138 s_138 m_5_69 dX11_feed_56 ?_
      refine g_mlet X (fun M4 => ?_)
      refine g_iload_n X dX11_feed_59 1 rfl rfl ?_
      refine g_bipush X dX11_feed_60 bi_8 ?_
      refine g_iload_n X dX11_feed_62 2 rfl rfl ?_
      refine g_imul X dX11_feed_63 ?_
      refine g_ishr X dX11_feed_64 ?_
      refine g_sipush X dX11_feed_65 si_255 ?_
      refine g_iand X dX11_feed_68 ?_
      refine g_iast X (n := 160) (k := 147) k_147 s_147 dX11_feed_69 (fun h5 => ?_)
      refine g_mlet X (fun M6 => ?_)
      refine g_iinc X (k := 2) (v := (x3 + (-1))) dX11_feed_70 rfl (ii_m1 _) (by decide) rfl [1, 2, 0] (lu := [(0, .ref (ad 138)), (1, .int b1), (3, .int (x3 + (-1)))]) rfl ?_
      refine g_goto X 40 (by decide) dX11_feed_73 ?_
      exact ih (x3 + (-1)) M6
set_option maxRecDepth 100000 in
set_option maxHeartbeats 4000000 in
theorem tm_feed {l : Launch} {D : va_G} {cy : Nat → ClassId} {ad : Nat → Nat} {N : Mem} (M : Mem) (a1 : Int32) (a2 : Int32) {x : (Int32 × Mem)} (h : fm_feed M a1 a2 = some x) : Mt l D cy ad yX11_feed cX11_feed 4 (some .int) 2 [.ref (ad 138), .int a1, .int a2] ((wfM N) M) (some (.int x.1), (wfM N) x.2) := by
  refine met_of (fin := finS) (lv0 := [(0, .ref (ad 138)), (1, .int a1), (2, .int a2)]) (by decide) (Nat.le_of_ble_eq_true rfl) rfl (lM N) h (fun p e s m args below meth c X hr => ?_)
  unfold fm_feed
  refine g_iload_n X dX11_feed_0 2 rfl rfl ?_
  refine g_iconst X dX11_feed_1 ic_1 ?_
  refine g_icmp_lt X 10 (by decide) dX11_feed_2 (fun q2 => ?_) (fun q2 => ?_)
  · refine g_aload_n X dX11_feed_10 0 rfl rfl ?_
    refine g_bipush X dX11_feed_11 bi_m2 ?_
    refine g_cs X (st := []) (fun _ hh => ok_V X (k0 := 138) (As := [.int (-2)]) wkX11_no (tm_no M (-2) hh) rfl k_138 s_138 (by decide) rfl m_5_154 rfl (hRm (by decide) (by decide)) ⟨Nat.zero_le _, Nat.zero_le _⟩ (Nat.le_of_ble_eq_true rfl) dX11_feed_13) (fun r2 M1 _ => ?_)
    exact g_iret X hr rfl dX11_feed_16
  · refine g_iload_n X dX11_feed_5 2 rfl rfl ?_
    refine g_iconst X dX11_feed_6 ic_4 ?_
    refine g_icmp_le X 17 (by decide) dX11_feed_7 (fun q7 => ?_) (fun q7 => ?_)
    · refine g_aload_n X dX11_feed_17 0 rfl rfl ?_
      refine get_11_8 X (k := 138) k_138 s_138 m_5_69 dX11_feed_18 ?_
      refine g_iload_n X dX11_feed_21 2 rfl rfl ?_
      refine g_iadd X dX11_feed_22 ?_
      refine g_sipush X dX11_feed_23 si_160 ?_
      refine g_icmp_le X 36 (by decide) dX11_feed_26 (fun q26 => ?_) (fun q26 => ?_)
      · refine g_iload_n X dX11_feed_36 2 rfl rfl ?_
        refine g_iconst X dX11_feed_37 ic_1 ?_
        refine g_isub X dX11_feed_38 ?_
        refine g_ilet X (fun v3 => ?_)
        refine g_istore_n X dX11_feed_39 rfl (by decide) rfl [1, 2, 0] (lu := [(0, .ref (ad 138)), (1, .int a1), (3, .int v3)]) rfl ?_
        refine Lm_feed_L40  X hr a1  _ (fun M7 => ?_) 1000 v3 M
        · refine g_aload_n X dX11_feed_76 0 rfl rfl ?_
          refine get_11_8 X (k := 138) k_138 s_138 m_5_69 dX11_feed_77 ?_
          exact g_iret X hr rfl dX11_feed_80
      · refine g_aload_n X dX11_feed_29 0 rfl rfl ?_
        refine g_bipush X dX11_feed_30 bi_m6 ?_
        refine g_cs X (st := []) (fun _ hh => ok_V X (k0 := 138) (As := [.int (-6)]) wkX11_no (tm_no M (-6) hh) rfl k_138 s_138 (by decide) rfl m_5_154 rfl (hRm (by decide) (by decide)) ⟨Nat.zero_le _, Nat.zero_le _⟩ (Nat.le_of_ble_eq_true rfl) dX11_feed_32) (fun r9 M8 _ => ?_)
        exact g_iret X hr rfl dX11_feed_35
    · refine g_aload_n X dX11_feed_10 0 rfl rfl ?_
      refine g_bipush X dX11_feed_11 bi_m2 ?_
      refine g_cs X (st := []) (fun _ hh => ok_V X (k0 := 138) (As := [.int (-2)]) wkX11_no (tm_no M (-2) hh) rfl k_138 s_138 (by decide) rfl m_5_154 rfl (hRm (by decide) (by decide)) ⟨Nat.zero_le _, Nat.zero_le _⟩ (Nat.le_of_ble_eq_true rfl) dX11_feed_13) (fun r11 M10 _ => ?_)
      exact g_iret X hr rfl dX11_feed_16
set_option maxRecDepth 100000 in
set_option maxHeartbeats 4000000 in
theorem tm_wipe {l : Launch} {D : va_G} {cy : Nat → ClassId} {ad : Nat → Nat} {N : Mem} (M : Mem) {x : (Int32 × Mem)} (h : fm_wipe M = some x) : Mt l D cy ad yX11_wipe cX11_wipe 2 (some .int) 1 [.ref (ad 138)] ((wfM N) M) (some (.int x.1), (wfM N) x.2) := by
  refine met_of (fin := finS) (lv0 := [(0, .ref (ad 138))]) (by decide) (Nat.le_of_ble_eq_true rfl) rfl (lM N) h (fun p e s m args below meth c X hr => ?_)
  unfold fm_wipe
  refine g_aload_n X dX11_wipe_0 0 rfl rfl ?_
  refine get_11_8 X (k := 138) k_138 s_138 m_5_69 dX11_wipe_1 ?_
  refine g_ilet X (fun v1 => ?_)
  refine g_istore_n X dX11_wipe_4 rfl (by decide) rfl [1, 0] (lu := [(0, .ref (ad 138)), (1, .int v1)]) rfl ?_
  refine g_aload_n X dX11_wipe_5 0 rfl rfl ?_
  refine g_iconst X dX11_wipe_6 ic_0 ?_
  refine put_11_8 X (k := 138) k_138 s_138 m_5_69 dX11_wipe_7 ?_
  refine g_mlet X (fun M2 => ?_)
  refine g_iload_n X dX11_wipe_10 1 rfl rfl ?_
  exact g_iret X hr rfl dX11_wipe_11
set_option maxRecDepth 100000 in
set_option maxHeartbeats 4000000 in
theorem tm_isLaw {l : Launch} {D : va_G} {cy : Nat → ClassId} {ad : Nat → Nat} {N : Mem} (M : Mem) (a1 : Int32) {x : Int32} (h : fm_isLaw M a1 = some x) : Mt l D cy ad yX11_isLaw cX11_isLaw 2 (some .boolean) 1 [.ref (ad 138), .int a1] ((wfM N) M) (some (.int x), (wfM N) M) := by
  refine met_of (fin := (finI M)) (lv0 := [(0, .ref (ad 138)), (1, .int a1)]) (by decide) (Nat.le_of_ble_eq_true rfl) rfl (lM N) h (fun p e s m args below meth c X hr => ?_)
  unfold fm_isLaw
  refine g_iload_n X dX11_isLaw_0 1 rfl rfl ?_
  refine g_if_lt X 18 (by decide) dX11_isLaw_1 (fun q1 => ?_) (fun q1 => ?_)
  · refine g_iconst X dX11_isLaw_18 ic_0 ?_
    exact g_zret X hr (isB_n (by decide)) rfl dX11_isLaw_19
  · refine g_iload_n X dX11_isLaw_4 1 rfl rfl ?_
    refine g_aload_n X dX11_isLaw_5 0 rfl rfl ?_
    refine get_11_18 X (k := 138) k_138 s_138 m_5_79 dX11_isLaw_6 ?_
    refine g_iconst X dX11_isLaw_9 ic_1 ?_
    refine g_ialdC X (n := 9) (k := 156) k_156 s_156 (by decide) dX11_isLaw_10 ?_
    refine g_icmp_ge X 18 (by decide) dX11_isLaw_11 (fun q11 => ?_) (fun q11 => ?_)
    · refine g_iconst X dX11_isLaw_18 ic_0 ?_
      exact g_zret X hr (isB_n (by decide)) rfl dX11_isLaw_19
    · refine g_iconst X dX11_isLaw_14 ic_1 ?_
      refine g_goto X 19 (by decide) dX11_isLaw_15 ?_
      exact g_zret X hr (isB_n (by decide)) rfl dX11_isLaw_19
theorem tm_isLawT {l : Launch} {D : va_G} {cy : Nat → ClassId} {ad : Nat → Nat} {N : Mem} (M : Mem) (a1 : Int32) : Mt l D cy ad yX11_isLaw cX11_isLaw 2 (some .boolean) 1 [.ref (ad 138), .int a1] ((wfM N) M) (some (.int (fm_isLawT M a1)), (wfM N) M) := tm_isLaw M a1 (fm_isLawE M a1)
set_option maxRecDepth 100000 in
set_option maxHeartbeats 4000000 in
theorem tm_lawOf {l : Launch} {D : va_G} {cy : Nat → ClassId} {ad : Nat → Nat} {N : Mem} (M : Mem) (a1 : Int32) (a2 : Int32) {x : (Int32 × Mem)} (h : fm_lawOf M a1 a2 = some x) : Mt l D cy ad yX11_lawOf cX11_lawOf 3 (some .int) 2 [.ref (ad 138), .int a1, .int a2] ((wfM N) M) (some (.int x.1), (wfM N) x.2) := by
  refine met_of (fin := finS) (lv0 := [(0, .ref (ad 138)), (1, .int a1), (2, .int a2)]) (by decide) (Nat.le_of_ble_eq_true rfl) rfl (lM N) h (fun p e s m args below meth c X hr => ?_)
  unfold fm_lawOf
  refine g_aload_n X dX11_lawOf_0 0 rfl rfl ?_
  refine g_iload_n X dX11_lawOf_1 1 rfl rfl ?_
  refine g_ct X (v0 := .int (fm_isLawT M a1)) (st := []) (ok_V X (k0 := 138) (As := [.int a1]) wkX11_isLaw (tm_isLawT M a1) rfl k_138 s_138 (by decide) rfl m_6_78 rfl (hRm (by decide) (by decide)) ⟨Nat.zero_le _, Nat.zero_le _⟩ (Nat.le_of_ble_eq_true rfl) dX11_lawOf_2) ?_
  refine g_if_eq X 18 (by decide) dX11_lawOf_5 (fun q5 => ?_) (fun q5 => ?_)
  · refine g_aload_n X dX11_lawOf_18 0 rfl rfl ?_
    refine g_bipush X dX11_lawOf_19 bi_m2 ?_
    refine g_cs X (st := []) (fun _ hh => ok_V X (k0 := 138) (As := [.int (-2)]) wkX11_no (tm_no M (-2) hh) rfl k_138 s_138 (by decide) rfl m_5_154 rfl (hRm (by decide) (by decide)) ⟨Nat.zero_le _, Nat.zero_le _⟩ (Nat.le_of_ble_eq_true rfl) dX11_lawOf_21) (fun r2 M1 _ => ?_)
    exact g_iret X hr rfl dX11_lawOf_24
  · refine g_iload_n X dX11_lawOf_8 2 rfl rfl ?_
    refine g_if_lt X 18 (by decide) dX11_lawOf_9 (fun q9 => ?_) (fun q9 => ?_)
    · refine g_aload_n X dX11_lawOf_18 0 rfl rfl ?_
      refine g_bipush X dX11_lawOf_19 bi_m2 ?_
      refine g_cs X (st := []) (fun _ hh => ok_V X (k0 := 138) (As := [.int (-2)]) wkX11_no (tm_no M (-2) hh) rfl k_138 s_138 (by decide) rfl m_5_154 rfl (hRm (by decide) (by decide)) ⟨Nat.zero_le _, Nat.zero_le _⟩ (Nat.le_of_ble_eq_true rfl) dX11_lawOf_21) (fun r4 M3 _ => ?_)
      exact g_iret X hr rfl dX11_lawOf_24
    · refine g_iload_n X dX11_lawOf_12 2 rfl rfl ?_
      refine g_bipush X dX11_lawOf_13 bi_8 ?_
      refine g_icmp_le X 25 (by decide) dX11_lawOf_15 (fun q15 => ?_) (fun q15 => ?_)
      · refine g_aload_n X dX11_lawOf_25 0 rfl rfl ?_
        refine get_11_10 X (k := 138) k_138 s_138 m_5_71 dX11_lawOf_26 ?_
        refine g_bipush X dX11_lawOf_29 bi_9 ?_
        refine g_iload_n X dX11_lawOf_31 1 rfl rfl ?_
        refine g_imul X dX11_lawOf_32 ?_
        refine g_iload_n X dX11_lawOf_33 2 rfl rfl ?_
        refine g_iadd X dX11_lawOf_34 ?_
        refine g_iald X (n := 54) (k := 148) k_148 s_148 dX11_lawOf_35 (fun h5 => ?_)
        exact g_iret X hr rfl dX11_lawOf_36
      · refine g_aload_n X dX11_lawOf_18 0 rfl rfl ?_
        refine g_bipush X dX11_lawOf_19 bi_m2 ?_
        refine g_cs X (st := []) (fun _ hh => ok_V X (k0 := 138) (As := [.int (-2)]) wkX11_no (tm_no M (-2) hh) rfl k_138 s_138 (by decide) rfl m_5_154 rfl (hRm (by decide) (by decide)) ⟨Nat.zero_le _, Nat.zero_le _⟩ (Nat.le_of_ble_eq_true rfl) dX11_lawOf_21) (fun r7 M6 _ => ?_)
        exact g_iret X hr rfl dX11_lawOf_24
set_option maxRecDepth 100000 in
set_option maxHeartbeats 4000000 in
theorem tm_force {l : Launch} {D : va_G} {cy : Nat → ClassId} {ad : Nat → Nat} {N : Mem} (M : Mem) (a1 : Int32) {x : (Int32 × Mem)} (h : fm_force M a1 = some x) : Mt l D cy ad yX11_force cX11_force 3 (some .int) 2 [.ref (ad 138), .int a1] ((wfM N) M) (some (.int x.1), (wfM N) x.2) := by
  refine met_of (fin := finS) (lv0 := [(0, .ref (ad 138)), (1, .int a1)]) (by decide) (Nat.le_of_ble_eq_true rfl) rfl (lM N) h (fun p e s m args below meth c X hr => ?_)
  unfold fm_force
  refine g_iload_n X dX11_force_0 1 rfl rfl ?_
  refine g_iconst X dX11_force_1 ic_m1 ?_
  refine g_icmp_eq X 20 (by decide) dX11_force_2 (fun q2 => ?_) (fun q2 => ?_)
  · refine g_aload_n X dX11_force_20 0 rfl rfl ?_
    refine get_11_18 X (k := 138) k_138 s_138 m_5_79 dX11_force_21 ?_
    refine g_iconst X dX11_force_24 ic_4 ?_
    refine g_ialdC X (n := 9) (k := 156) k_156 s_156 (by decide) dX11_force_25 ?_
    refine g_ilet X (fun v2 => ?_)
    refine g_istore_n X dX11_force_26 rfl (by decide) rfl [1, 2, 0] (lu := [(0, .ref (ad 138)), (1, .int a1), (2, .int v2)]) rfl ?_
    refine g_aload_n X dX11_force_27 0 rfl rfl ?_
    refine get_11_18 X (k := 138) k_138 s_138 m_5_79 dX11_force_28 ?_
    refine g_iconst X dX11_force_31 ic_4 ?_
    refine g_iload_n X dX11_force_32 1 rfl rfl ?_
    refine g_iastC X (n := 9) (k := 156) k_156 s_156 (by decide) dX11_force_33 ?_
    refine g_mlet X (fun M4 => ?_)
    refine g_iload_n X dX11_force_34 2 rfl rfl ?_
    exact g_iret X hr rfl dX11_force_35
  · refine g_aload_n X dX11_force_5 0 rfl rfl ?_
    refine g_iload_n X dX11_force_6 1 rfl rfl ?_
    refine g_ct X (v0 := .int (fm_isLawT M a1)) (st := []) (ok_V X (k0 := 138) (As := [.int a1]) wkX11_isLaw (tm_isLawT M a1) rfl k_138 s_138 (by decide) rfl m_6_78 rfl (hRm (by decide) (by decide)) ⟨Nat.zero_le _, Nat.zero_le _⟩ (Nat.le_of_ble_eq_true rfl) dX11_force_7) ?_
    refine g_if_ne X 20 (by decide) dX11_force_10 (fun q10 => ?_) (fun q10 => ?_)
    · refine g_aload_n X dX11_force_20 0 rfl rfl ?_
      refine get_11_18 X (k := 138) k_138 s_138 m_5_79 dX11_force_21 ?_
      refine g_iconst X dX11_force_24 ic_4 ?_
      refine g_ialdC X (n := 9) (k := 156) k_156 s_156 (by decide) dX11_force_25 ?_
      refine g_ilet X (fun v6 => ?_)
      refine g_istore_n X dX11_force_26 rfl (by decide) rfl [1, 2, 0] (lu := [(0, .ref (ad 138)), (1, .int a1), (2, .int v6)]) rfl ?_
      refine g_aload_n X dX11_force_27 0 rfl rfl ?_
      refine get_11_18 X (k := 138) k_138 s_138 m_5_79 dX11_force_28 ?_
      refine g_iconst X dX11_force_31 ic_4 ?_
      refine g_iload_n X dX11_force_32 1 rfl rfl ?_
      refine g_iastC X (n := 9) (k := 156) k_156 s_156 (by decide) dX11_force_33 ?_
      refine g_mlet X (fun M8 => ?_)
      refine g_iload_n X dX11_force_34 2 rfl rfl ?_
      exact g_iret X hr rfl dX11_force_35
    · refine g_aload_n X dX11_force_13 0 rfl rfl ?_
      refine g_bipush X dX11_force_14 bi_m2 ?_
      refine g_cs X (st := []) (fun _ hh => ok_V X (k0 := 138) (As := [.int (-2)]) wkX11_no (tm_no M (-2) hh) rfl k_138 s_138 (by decide) rfl m_5_154 rfl (hRm (by decide) (by decide)) ⟨Nat.zero_le _, Nat.zero_le _⟩ (Nat.le_of_ble_eq_true rfl) dX11_force_16) (fun r10 M9 _ => ?_)
      exact g_iret X hr rfl dX11_force_19
set_option maxRecDepth 100000 in
set_option maxHeartbeats 4000000 in
theorem tm_leaper {l : Launch} {D : va_G} {cy : Nat → ClassId} {ad : Nat → Nat} {N : Mem} (M : Mem) (a1 : Int32) {x : (Int32 × Mem)} (h : fm_leaper M a1 = some x) : Mt l D cy ad yX11_leaper cX11_leaper 3 (some .int) 2 [.ref (ad 138), .int a1] ((wfM N) M) (some (.int x.1), (wfM N) x.2) := by
  refine met_of (fin := finS) (lv0 := [(0, .ref (ad 138)), (1, .int a1)]) (by decide) (Nat.le_of_ble_eq_true rfl) rfl (lM N) h (fun p e s m args below meth c X hr => ?_)
  unfold fm_leaper
  refine g_iload_n X dX11_leaper_0 1 rfl rfl ?_
  refine g_if_lt X 10 (by decide) dX11_leaper_1 (fun q1 => ?_) (fun q1 => ?_)
  · refine g_aload_n X dX11_leaper_10 0 rfl rfl ?_
    refine g_bipush X dX11_leaper_11 bi_m2 ?_
    refine g_cs X (st := []) (fun _ hh => ok_V X (k0 := 138) (As := [.int (-2)]) wkX11_no (tm_no M (-2) hh) rfl k_138 s_138 (by decide) rfl m_5_154 rfl (hRm (by decide) (by decide)) ⟨Nat.zero_le _, Nat.zero_le _⟩ (Nat.le_of_ble_eq_true rfl) dX11_leaper_13) (fun r2 M1 _ => ?_)
    exact g_iret X hr rfl dX11_leaper_16
  · refine g_iload_n X dX11_leaper_4 1 rfl rfl ?_
    refine g_bipush X dX11_leaper_5 bi_99 ?_
    refine g_icmp_le X 17 (by decide) dX11_leaper_7 (fun q7 => ?_) (fun q7 => ?_)
    · refine g_aload_n X dX11_leaper_17 0 rfl rfl ?_
      refine get_11_18 X (k := 138) k_138 s_138 m_5_79 dX11_leaper_18 ?_
      refine g_iconst X dX11_leaper_21 ic_2 ?_
      refine g_ialdC X (n := 9) (k := 156) k_156 s_156 (by decide) dX11_leaper_22 ?_
      refine g_bipush X dX11_leaper_23 bi_6 ?_
      refine g_icmp_ne X 35 (by decide) dX11_leaper_25 (fun q25 => ?_) (fun q25 => ?_)
      · refine g_aload_n X dX11_leaper_35 0 rfl rfl ?_
        refine get_11_18 X (k := 138) k_138 s_138 m_5_79 dX11_leaper_36 ?_
        refine g_iconst X dX11_leaper_39 ic_2 ?_
        refine g_dup2 X dX11_leaper_40 rfl rfl ?_
        refine g_ialdC X (n := 9) (k := 156) k_156 s_156 (by decide) dX11_leaper_41 ?_
        refine g_dup_x2 X dX11_leaper_42 rfl rfl rfl ?_
        refine g_iconst X dX11_leaper_43 ic_1 ?_
        refine g_iadd X dX11_leaper_44 ?_
        refine g_iastC X (n := 9) (k := 156) k_156 s_156 (by decide) dX11_leaper_45 ?_
        refine g_mlet X (fun M6 => ?_)
        refine g_ilet X (fun v7 => ?_)
        refine g_istore_n X dX11_leaper_46 rfl (by decide) rfl [1, 2, 0] (lu := [(0, .ref (ad 138)), (1, .int a1), (2, .int v7)]) rfl ?_
        refine g_aload_n X dX11_leaper_47 0 rfl rfl ?_
        refine get_11_11 X (k := 138) k_138 s_138 m_5_72 dX11_leaper_48 ?_
        refine g_iload_n X dX11_leaper_51 2 rfl rfl ?_
        refine g_iload_n X dX11_leaper_52 1 rfl rfl ?_
        refine g_iast X (n := 6) (k := 149) k_149 s_149 dX11_leaper_53 (fun h8 => ?_)
        refine g_mlet X (fun M9 => ?_)
        refine g_aload_n X dX11_leaper_54 0 rfl rfl ?_
        refine get_11_12 X (k := 138) k_138 s_138 m_5_73 dX11_leaper_55 ?_
        refine g_iload_n X dX11_leaper_58 2 rfl rfl ?_
        refine g_iconst X dX11_leaper_59 ic_0 ?_
        refine g_iast X (n := 6) (k := 150) k_150 s_150 dX11_leaper_60 (fun h10 => ?_)
        refine g_mlet X (fun M11 => ?_)
        refine g_aload_n X dX11_leaper_61 0 rfl rfl ?_
        refine get_11_13 X (k := 138) k_138 s_138 m_5_74 dX11_leaper_62 ?_
        refine g_iload_n X dX11_leaper_65 2 rfl rfl ?_
        refine g_iconst X dX11_leaper_66 ic_0 ?_
        refine g_iast X (n := 6) (k := 151) k_151 s_151 dX11_leaper_67 (fun h12 => ?_)
        refine g_mlet X (fun M13 => ?_)
        refine g_iload_n X dX11_leaper_68 2 rfl rfl ?_
        exact g_iret X hr rfl dX11_leaper_69
      · refine g_aload_n X dX11_leaper_28 0 rfl rfl ?_
        refine g_bipush X dX11_leaper_29 bi_m6 ?_
        refine g_cs X (st := []) (fun _ hh => ok_V X (k0 := 138) (As := [.int (-6)]) wkX11_no (tm_no M (-6) hh) rfl k_138 s_138 (by decide) rfl m_5_154 rfl (hRm (by decide) (by decide)) ⟨Nat.zero_le _, Nat.zero_le _⟩ (Nat.le_of_ble_eq_true rfl) dX11_leaper_31) (fun r15 M14 _ => ?_)
        exact g_iret X hr rfl dX11_leaper_34
    · refine g_aload_n X dX11_leaper_10 0 rfl rfl ?_
      refine g_bipush X dX11_leaper_11 bi_m2 ?_
      refine g_cs X (st := []) (fun _ hh => ok_V X (k0 := 138) (As := [.int (-2)]) wkX11_no (tm_no M (-2) hh) rfl k_138 s_138 (by decide) rfl m_5_154 rfl (hRm (by decide) (by decide)) ⟨Nat.zero_le _, Nat.zero_le _⟩ (Nat.le_of_ble_eq_true rfl) dX11_leaper_13) (fun r17 M16 _ => ?_)
      exact g_iret X hr rfl dX11_leaper_16
set_option maxRecDepth 100000 in
set_option maxHeartbeats 4000000 in
theorem tm_isLeaper {l : Launch} {D : va_G} {cy : Nat → ClassId} {ad : Nat → Nat} {N : Mem} (M : Mem) (a1 : Int32) {x : Int32} (h : fm_isLeaper M a1 = some x) : Mt l D cy ad yX11_isLeaper cX11_isLeaper 2 (some .boolean) 1 [.ref (ad 138), .int a1] ((wfM N) M) (some (.int x), (wfM N) M) := by
  refine met_of (fin := (finI M)) (lv0 := [(0, .ref (ad 138)), (1, .int a1)]) (by decide) (Nat.le_of_ble_eq_true rfl) rfl (lM N) h (fun p e s m args below meth c X hr => ?_)
  unfold fm_isLeaper
  refine g_iload_n X dX11_isLeaper_0 1 rfl rfl ?_
  refine g_if_lt X 18 (by decide) dX11_isLeaper_1 (fun q1 => ?_) (fun q1 => ?_)
  · refine g_iconst X dX11_isLeaper_18 ic_0 ?_
    exact g_zret X hr (isB_n (by decide)) rfl dX11_isLeaper_19
  · refine g_iload_n X dX11_isLeaper_4 1 rfl rfl ?_
    refine g_aload_n X dX11_isLeaper_5 0 rfl rfl ?_
    refine get_11_18 X (k := 138) k_138 s_138 m_5_79 dX11_isLeaper_6 ?_
    refine g_iconst X dX11_isLeaper_9 ic_2 ?_
    refine g_ialdC X (n := 9) (k := 156) k_156 s_156 (by decide) dX11_isLeaper_10 ?_
    refine g_icmp_ge X 18 (by decide) dX11_isLeaper_11 (fun q11 => ?_) (fun q11 => ?_)
    · refine g_iconst X dX11_isLeaper_18 ic_0 ?_
      exact g_zret X hr (isB_n (by decide)) rfl dX11_isLeaper_19
    · refine g_iconst X dX11_isLeaper_14 ic_1 ?_
      refine g_goto X 19 (by decide) dX11_isLeaper_15 ?_
      exact g_zret X hr (isB_n (by decide)) rfl dX11_isLeaper_19
theorem tm_isLeaperT {l : Launch} {D : va_G} {cy : Nat → ClassId} {ad : Nat → Nat} {N : Mem} (M : Mem) (a1 : Int32) : Mt l D cy ad yX11_isLeaper cX11_isLeaper 2 (some .boolean) 1 [.ref (ad 138), .int a1] ((wfM N) M) (some (.int (fm_isLeaperT M a1)), (wfM N) M) := tm_isLeaper M a1 (fm_isLeaperE M a1)
set_option maxRecDepth 100000 in
set_option maxHeartbeats 4000000 in
theorem tm_leaperOf {l : Launch} {D : va_G} {cy : Nat → ClassId} {ad : Nat → Nat} {N : Mem} (M : Mem) (a1 : Int32) (a2 : Int32) {x : (Int32 × Mem)} (h : fm_leaperOf M a1 a2 = some x) : Mt l D cy ad yX11_leaperOf cX11_leaperOf 3 (some .int) 2 [.ref (ad 138), .int a1, .int a2] ((wfM N) M) (some (.int x.1), (wfM N) x.2) := by
  refine met_of (fin := finS) (lv0 := [(0, .ref (ad 138)), (1, .int a1), (2, .int a2)]) (by decide) (Nat.le_of_ble_eq_true rfl) rfl (lM N) h (fun p e s m args below meth c X hr => ?_)
  unfold fm_leaperOf
  refine g_aload_n X dX11_leaperOf_0 0 rfl rfl ?_
  refine g_iload_n X dX11_leaperOf_1 1 rfl rfl ?_
  refine g_ct X (v0 := .int (fm_isLeaperT M a1)) (st := []) (ok_V X (k0 := 138) (As := [.int a1]) wkX11_isLeaper (tm_isLeaperT M a1) rfl k_138 s_138 (by decide) rfl m_6_94 rfl (hRm (by decide) (by decide)) ⟨Nat.zero_le _, Nat.zero_le _⟩ (Nat.le_of_ble_eq_true rfl) dX11_leaperOf_2) ?_
  refine g_if_eq X 17 (by decide) dX11_leaperOf_5 (fun q5 => ?_) (fun q5 => ?_)
  · refine g_aload_n X dX11_leaperOf_17 0 rfl rfl ?_
    refine g_bipush X dX11_leaperOf_18 bi_m2 ?_
    refine g_cs X (st := []) (fun _ hh => ok_V X (k0 := 138) (As := [.int (-2)]) wkX11_no (tm_no M (-2) hh) rfl k_138 s_138 (by decide) rfl m_5_154 rfl (hRm (by decide) (by decide)) ⟨Nat.zero_le _, Nat.zero_le _⟩ (Nat.le_of_ble_eq_true rfl) dX11_leaperOf_20) (fun r2 M1 _ => ?_)
    exact g_iret X hr rfl dX11_leaperOf_23
  · refine g_iload_n X dX11_leaperOf_8 2 rfl rfl ?_
    refine g_if_lt X 17 (by decide) dX11_leaperOf_9 (fun q9 => ?_) (fun q9 => ?_)
    · refine g_aload_n X dX11_leaperOf_17 0 rfl rfl ?_
      refine g_bipush X dX11_leaperOf_18 bi_m2 ?_
      refine g_cs X (st := []) (fun _ hh => ok_V X (k0 := 138) (As := [.int (-2)]) wkX11_no (tm_no M (-2) hh) rfl k_138 s_138 (by decide) rfl m_5_154 rfl (hRm (by decide) (by decide)) ⟨Nat.zero_le _, Nat.zero_le _⟩ (Nat.le_of_ble_eq_true rfl) dX11_leaperOf_20) (fun r4 M3 _ => ?_)
      exact g_iret X hr rfl dX11_leaperOf_23
    · refine g_iload_n X dX11_leaperOf_12 2 rfl rfl ?_
      refine g_iconst X dX11_leaperOf_13 ic_2 ?_
      refine g_icmp_le X 24 (by decide) dX11_leaperOf_14 (fun q14 => ?_) (fun q14 => ?_)
      · refine g_iload_n X dX11_leaperOf_24 2 rfl rfl ?_
        refine g_if_ne X 35 (by decide) dX11_leaperOf_25 (fun q25 => ?_) (fun q25 => ?_)
        · refine g_iload_n X dX11_leaperOf_35 2 rfl rfl ?_
          refine g_iconst X dX11_leaperOf_36 ic_1 ?_
          refine g_icmp_ne X 49 (by decide) dX11_leaperOf_37 (fun q37 => ?_) (fun q37 => ?_)
          · refine g_aload_n X dX11_leaperOf_49 0 rfl rfl ?_
            refine get_11_13 X (k := 138) k_138 s_138 m_5_74 dX11_leaperOf_50 ?_
            refine g_iload_n X dX11_leaperOf_53 1 rfl rfl ?_
            refine g_iald X (n := 6) (k := 151) k_151 s_151 dX11_leaperOf_54 (fun h5 => ?_)
            exact g_iret X hr rfl dX11_leaperOf_55
          · refine g_aload_n X dX11_leaperOf_40 0 rfl rfl ?_
            refine get_11_12 X (k := 138) k_138 s_138 m_5_73 dX11_leaperOf_41 ?_
            refine g_iload_n X dX11_leaperOf_44 1 rfl rfl ?_
            refine g_iald X (n := 6) (k := 150) k_150 s_150 dX11_leaperOf_45 (fun h6 => ?_)
            refine g_goto X 55 (by decide) dX11_leaperOf_46 ?_
            exact g_iret X hr rfl dX11_leaperOf_55
        · refine g_aload_n X dX11_leaperOf_28 0 rfl rfl ?_
          refine get_11_11 X (k := 138) k_138 s_138 m_5_72 dX11_leaperOf_29 ?_
          refine g_iload_n X dX11_leaperOf_32 1 rfl rfl ?_
          refine g_iald X (n := 6) (k := 149) k_149 s_149 dX11_leaperOf_33 (fun h7 => ?_)
          exact g_iret X hr rfl dX11_leaperOf_34
      · refine g_aload_n X dX11_leaperOf_17 0 rfl rfl ?_
        refine g_bipush X dX11_leaperOf_18 bi_m2 ?_
        refine g_cs X (st := []) (fun _ hh => ok_V X (k0 := 138) (As := [.int (-2)]) wkX11_no (tm_no M (-2) hh) rfl k_138 s_138 (by decide) rfl m_5_154 rfl (hRm (by decide) (by decide)) ⟨Nat.zero_le _, Nat.zero_le _⟩ (Nat.le_of_ble_eq_true rfl) dX11_leaperOf_20) (fun r9 M8 _ => ?_)
        exact g_iret X hr rfl dX11_leaperOf_23
set_option maxRecDepth 100000 in
set_option maxHeartbeats 4000000 in
theorem tm_tried {l : Launch} {D : va_G} {cy : Nat → ClassId} {ad : Nat → Nat} {N : Mem} (M : Mem) (a1 : Int32) (a2 : Int32) (a3 : Int32) {x : (Int32 × Mem)} (h : fm_tried M a1 a2 a3 = some x) : Mt l D cy ad yX11_tried cX11_tried 4 (some .int) 2 [.ref (ad 138), .int a1, .int a2, .int a3] ((wfM N) M) (some (.int x.1), (wfM N) x.2) := by
  refine met_of (fin := finS) (lv0 := [(0, .ref (ad 138)), (1, .int a1), (2, .int a2), (3, .int a3)]) (by decide) (Nat.le_of_ble_eq_true rfl) rfl (lM N) h (fun p e s m args below meth c X hr => ?_)
  unfold fm_tried
  refine g_aload_n X dX11_tried_0 0 rfl rfl ?_
  refine g_iload_n X dX11_tried_1 1 rfl rfl ?_
  refine g_ct X (v0 := .int (fm_isLeaperT M a1)) (st := []) (ok_V X (k0 := 138) (As := [.int a1]) wkX11_isLeaper (tm_isLeaperT M a1) rfl k_138 s_138 (by decide) rfl m_6_94 rfl (hRm (by decide) (by decide)) ⟨Nat.zero_le _, Nat.zero_le _⟩ (Nat.le_of_ble_eq_true rfl) dX11_tried_2) ?_
  refine g_if_eq X 28 (by decide) dX11_tried_5 (fun q5 => ?_) (fun q5 => ?_)
  · refine g_aload_n X dX11_tried_28 0 rfl rfl ?_
    refine g_bipush X dX11_tried_29 bi_m2 ?_
    refine g_cs X (st := []) (fun _ hh => ok_V X (k0 := 138) (As := [.int (-2)]) wkX11_no (tm_no M (-2) hh) rfl k_138 s_138 (by decide) rfl m_5_154 rfl (hRm (by decide) (by decide)) ⟨Nat.zero_le _, Nat.zero_le _⟩ (Nat.le_of_ble_eq_true rfl) dX11_tried_31) (fun r2 M1 _ => ?_)
    exact g_iret X hr rfl dX11_tried_34
  · refine g_iload_n X dX11_tried_8 2 rfl rfl ?_
    refine g_iconst X dX11_tried_9 ic_1 ?_
    refine g_icmp_lt X 28 (by decide) dX11_tried_10 (fun q10 => ?_) (fun q10 => ?_)
    · refine g_aload_n X dX11_tried_28 0 rfl rfl ?_
      refine g_bipush X dX11_tried_29 bi_m2 ?_
      refine g_cs X (st := []) (fun _ hh => ok_V X (k0 := 138) (As := [.int (-2)]) wkX11_no (tm_no M (-2) hh) rfl k_138 s_138 (by decide) rfl m_5_154 rfl (hRm (by decide) (by decide)) ⟨Nat.zero_le _, Nat.zero_le _⟩ (Nat.le_of_ble_eq_true rfl) dX11_tried_31) (fun r4 M3 _ => ?_)
      exact g_iret X hr rfl dX11_tried_34
    · refine g_iload_n X dX11_tried_13 2 rfl rfl ?_
      refine g_bipush X dX11_tried_14 bi_99 ?_
      refine g_icmp_gt X 28 (by decide) dX11_tried_16 (fun q16 => ?_) (fun q16 => ?_)
      · refine g_aload_n X dX11_tried_28 0 rfl rfl ?_
        refine g_bipush X dX11_tried_29 bi_m2 ?_
        refine g_cs X (st := []) (fun _ hh => ok_V X (k0 := 138) (As := [.int (-2)]) wkX11_no (tm_no M (-2) hh) rfl k_138 s_138 (by decide) rfl m_5_154 rfl (hRm (by decide) (by decide)) ⟨Nat.zero_le _, Nat.zero_le _⟩ (Nat.le_of_ble_eq_true rfl) dX11_tried_31) (fun r6 M5 _ => ?_)
        exact g_iret X hr rfl dX11_tried_34
      · refine g_iload_n X dX11_tried_19 3 rfl rfl ?_
        refine g_if_lt X 28 (by decide) dX11_tried_20 (fun q20 => ?_) (fun q20 => ?_)
        · refine g_aload_n X dX11_tried_28 0 rfl rfl ?_
          refine g_bipush X dX11_tried_29 bi_m2 ?_
          refine g_cs X (st := []) (fun _ hh => ok_V X (k0 := 138) (As := [.int (-2)]) wkX11_no (tm_no M (-2) hh) rfl k_138 s_138 (by decide) rfl m_5_154 rfl (hRm (by decide) (by decide)) ⟨Nat.zero_le _, Nat.zero_le _⟩ (Nat.le_of_ble_eq_true rfl) dX11_tried_31) (fun r8 M7 _ => ?_)
          exact g_iret X hr rfl dX11_tried_34
        · refine g_iload_n X dX11_tried_23 3 rfl rfl ?_
          refine g_iload_n X dX11_tried_24 2 rfl rfl ?_
          refine g_icmp_le X 35 (by decide) dX11_tried_25 (fun q25 => ?_) (fun q25 => ?_)
          · refine g_aload_n X dX11_tried_35 0 rfl rfl ?_
            refine get_11_12 X (k := 138) k_138 s_138 m_5_73 dX11_tried_36 ?_
            refine g_iload_n X dX11_tried_39 1 rfl rfl ?_
            refine g_dup2 X dX11_tried_40 rfl rfl ?_
            refine g_iald X (n := 6) (k := 150) k_150 s_150 dX11_tried_41 (fun h9 => ?_)
            refine g_iload_n X dX11_tried_42 2 rfl rfl ?_
            refine g_iadd X dX11_tried_43 ?_
            refine g_iast X (n := 6) (k := 150) k_150 s_150 dX11_tried_44 (fun h10 => ?_)
            refine g_mlet X (fun M11 => ?_)
            refine g_aload_n X dX11_tried_45 0 rfl rfl ?_
            refine get_11_13 X (k := 138) k_138 s_138 m_5_74 dX11_tried_46 ?_
            refine g_iload_n X dX11_tried_49 1 rfl rfl ?_
            refine g_dup2 X dX11_tried_50 rfl rfl ?_
            refine g_iald X (n := 6) (k := 151) k_151 s_151 dX11_tried_51 (fun h12 => ?_)
            refine g_iload_n X dX11_tried_52 3 rfl rfl ?_
            refine g_iadd X dX11_tried_53 ?_
            refine g_iast X (n := 6) (k := 151) k_151 s_151 dX11_tried_54 (fun h13 => ?_)
            refine g_mlet X (fun M14 => ?_)
            refine g_aload_n X dX11_tried_55 0 rfl rfl ?_
            refine get_11_12 X (k := 138) k_138 s_138 m_5_73 dX11_tried_56 ?_
            refine g_iload_n X dX11_tried_59 1 rfl rfl ?_
            refine g_iald X (n := 6) (k := 150) k_150 s_150 dX11_tried_60 (fun h15 => ?_)
            exact g_iret X hr rfl dX11_tried_61
          · refine g_aload_n X dX11_tried_28 0 rfl rfl ?_
            refine g_bipush X dX11_tried_29 bi_m2 ?_
            refine g_cs X (st := []) (fun _ hh => ok_V X (k0 := 138) (As := [.int (-2)]) wkX11_no (tm_no M (-2) hh) rfl k_138 s_138 (by decide) rfl m_5_154 rfl (hRm (by decide) (by decide)) ⟨Nat.zero_le _, Nat.zero_le _⟩ (Nat.le_of_ble_eq_true rfl) dX11_tried_31) (fun r17 M16 _ => ?_)
            exact g_iret X hr rfl dX11_tried_34
set_option maxRecDepth 100000 in
set_option maxHeartbeats 4000000 in
theorem tm_learntBy {l : Launch} {D : va_G} {cy : Nat → ClassId} {ad : Nat → Nat} {N : Mem} (M : Mem) (a1 : Int32) {x : Int32} (h : fm_learntBy M a1 = some x) : Mt l D cy ad yX11_learntBy cX11_learntBy 3 (some .int) 1 [.ref (ad 138), .int a1] ((wfM N) M) (some (.int x), (wfM N) M) := by
  refine met_of (fin := (finI M)) (lv0 := [(0, .ref (ad 138)), (1, .int a1)]) (by decide) (Nat.le_of_ble_eq_true rfl) rfl (lM N) h (fun p e s m args below meth c X hr => ?_)
  unfold fm_learntBy
  refine g_bipush X dX11_learntBy_0 bi_100 ?_
  refine g_aload_n X dX11_learntBy_2 0 rfl rfl ?_
  refine get_11_12 X (k := 138) k_138 s_138 m_5_73 dX11_learntBy_3 ?_
  refine g_iload_n X dX11_learntBy_6 1 rfl rfl ?_
  refine g_iald X (n := 6) (k := 150) k_150 s_150 dX11_learntBy_7 (fun h1 => ?_)
  refine g_aload_n X dX11_learntBy_8 0 rfl rfl ?_
  refine get_11_13 X (k := 138) k_138 s_138 m_5_74 dX11_learntBy_9 ?_
  refine g_iload_n X dX11_learntBy_12 1 rfl rfl ?_
  refine g_iald X (n := 6) (k := 151) k_151 s_151 dX11_learntBy_13 (fun h2 => ?_)
  refine g_isub X dX11_learntBy_14 ?_
  refine g_imul X dX11_learntBy_15 ?_
  refine g_bipush X dX11_learntBy_16 bi_50 ?_
  refine g_iadd X dX11_learntBy_18 ?_
  refine g_aload_n X dX11_learntBy_19 0 rfl rfl ?_
  refine get_11_12 X (k := 138) k_138 s_138 m_5_73 dX11_learntBy_20 ?_
  refine g_iload_n X dX11_learntBy_23 1 rfl rfl ?_
  refine g_iald X (n := 6) (k := 150) k_150 s_150 dX11_learntBy_24 (fun h3 => ?_)
  refine g_iconst X dX11_learntBy_25 ic_1 ?_
  refine g_iadd X dX11_learntBy_26 ?_
  refine g_idiv X dX11_learntBy_27 (fun _ => ?_)
  refine g_ilet X (fun v4 => ?_)
  refine g_istore_n X dX11_learntBy_28 rfl (by decide) rfl [0] (lu := [(2, .int v4)]) rfl ?_
  refine g_iload_n X dX11_learntBy_29 0 rfl rfl ?_
  refine g_bipush X dX11_learntBy_30 bi_99 ?_
  refine g_icmp_le X 40 (by decide) dX11_learntBy_32 (fun q32 => ?_) (fun q32 => ?_)
  · refine g_iload_n X dX11_learntBy_40 0 rfl rfl ?_
    exact g_iret X hr rfl dX11_learntBy_41
  · refine g_bipush X dX11_learntBy_35 bi_99 ?_
    refine g_goto X 41 (by decide) dX11_learntBy_37 ?_
    exact g_iret X hr rfl dX11_learntBy_41
set_option maxRecDepth 100000 in
set_option maxHeartbeats 4000000 in
theorem tm_learnt {l : Launch} {D : va_G} {cy : Nat → ClassId} {ad : Nat → Nat} {N : Mem} (M : Mem) (a1 : Int32) {x : (Int32 × Mem)} (h : fm_learnt M a1 = some x) : Mt l D cy ad yX11_learnt cX11_learnt 2 (some .int) 2 [.ref (ad 138), .int a1] ((wfM N) M) (some (.int x.1), (wfM N) x.2) := by
  refine met_of (fin := finS) (lv0 := [(0, .ref (ad 138)), (1, .int a1)]) (by decide) (Nat.le_of_ble_eq_true rfl) rfl (lM N) h (fun p e s m args below meth c X hr => ?_)
  unfold fm_learnt
  refine g_aload_n X dX11_learnt_0 0 rfl rfl ?_
  refine g_iload_n X dX11_learnt_1 1 rfl rfl ?_
  refine g_ct X (v0 := .int (fm_isLeaperT M a1)) (st := []) (ok_V X (k0 := 138) (As := [.int a1]) wkX11_isLeaper (tm_isLeaperT M a1) rfl k_138 s_138 (by decide) rfl m_6_94 rfl (hRm (by decide) (by decide)) ⟨Nat.zero_le _, Nat.zero_le _⟩ (Nat.le_of_ble_eq_true rfl) dX11_learnt_2) ?_
  refine g_if_ne X 15 (by decide) dX11_learnt_5 (fun q5 => ?_) (fun q5 => ?_)
  · refine g_aload_n X dX11_learnt_15 0 rfl rfl ?_
    refine g_iload_n X dX11_learnt_16 1 rfl rfl ?_
    refine g_ci X (st := []) (fun _ hh => ok_V X (k0 := 138) (As := [.int a1]) wkX11_learntBy (tm_learntBy M a1 hh) rfl k_138 s_138 (by decide) rfl m_6_106 rfl (hRm (by decide) (by decide)) ⟨Nat.zero_le _, Nat.zero_le _⟩ (Nat.le_of_ble_eq_true rfl) dX11_learnt_17) (fun r1 _ => ?_)
    exact g_iret X hr rfl dX11_learnt_20
  · refine g_aload_n X dX11_learnt_8 0 rfl rfl ?_
    refine g_bipush X dX11_learnt_9 bi_m2 ?_
    refine g_cs X (st := []) (fun _ hh => ok_V X (k0 := 138) (As := [.int (-2)]) wkX11_no (tm_no M (-2) hh) rfl k_138 s_138 (by decide) rfl m_5_154 rfl (hRm (by decide) (by decide)) ⟨Nat.zero_le _, Nat.zero_le _⟩ (Nat.le_of_ble_eq_true rfl) dX11_learnt_11) (fun r3 M2 _ => ?_)
    exact g_iret X hr rfl dX11_learnt_14
set_option maxRecDepth 100000 in
set_option maxHeartbeats 4000000 in
theorem tm_learn {l : Launch} {D : va_G} {cy : Nat → ClassId} {ad : Nat → Nat} {N : Mem} (M : Mem) (a1 : Int32) {x : (Int32 × Mem)} (h : fm_learn M a1 = some x) : Mt l D cy ad yX11_learn cX11_learn 3 (some .int) 2 [.ref (ad 138), .int a1] ((wfM N) M) (some (.int x.1), (wfM N) x.2) := by
  refine met_of (fin := finS) (lv0 := [(0, .ref (ad 138)), (1, .int a1)]) (by decide) (Nat.le_of_ble_eq_true rfl) rfl (lM N) h (fun p e s m args below meth c X hr => ?_)
  unfold fm_learn
  refine g_aload_n X dX11_learn_0 0 rfl rfl ?_
  refine g_iload_n X dX11_learn_1 1 rfl rfl ?_
  refine g_ct X (v0 := .int (fm_isLeaperT M a1)) (st := []) (ok_V X (k0 := 138) (As := [.int a1]) wkX11_isLeaper (tm_isLeaperT M a1) rfl k_138 s_138 (by decide) rfl m_6_94 rfl (hRm (by decide) (by decide)) ⟨Nat.zero_le _, Nat.zero_le _⟩ (Nat.le_of_ble_eq_true rfl) dX11_learn_2) ?_
  refine g_if_ne X 15 (by decide) dX11_learn_5 (fun q5 => ?_) (fun q5 => ?_)
  · refine g_aload_n X dX11_learn_15 0 rfl rfl ?_
    refine get_11_11 X (k := 138) k_138 s_138 m_5_72 dX11_learn_16 ?_
    refine g_iload_n X dX11_learn_19 1 rfl rfl ?_
    refine g_iald X (n := 6) (k := 149) k_149 s_149 dX11_learn_20 (fun h1 => ?_)
    refine g_ilet X (fun v2 => ?_)
    refine g_istore_n X dX11_learn_21 rfl (by decide) rfl [1, 2, 0] (lu := [(0, .ref (ad 138)), (1, .int a1), (2, .int v2)]) rfl ?_
    refine g_aload_n X dX11_learn_22 0 rfl rfl ?_
    refine get_11_11 X (k := 138) k_138 s_138 m_5_72 dX11_learn_23 ?_
    refine g_iload_n X dX11_learn_26 1 rfl rfl ?_
    refine g_aload_n X dX11_learn_27 0 rfl rfl ?_
    refine g_iload_n X dX11_learn_28 1 rfl rfl ?_
    refine g_ci X (st := [.int a1, .ref (ad 149)]) (fun _ hh => ok_V X (k0 := 138) (As := [.int a1]) wkX11_learntBy (tm_learntBy M a1 hh) rfl k_138 s_138 (by decide) rfl m_6_106 rfl (hRm (by decide) (by decide)) ⟨Nat.zero_le _, Nat.zero_le _⟩ (Nat.le_of_ble_eq_true rfl) dX11_learn_29) (fun r3 _ => ?_)
    refine g_iast X (n := 6) (k := 149) k_149 s_149 dX11_learn_32 (fun h4 => ?_)
    refine g_mlet X (fun M5 => ?_)
    refine g_iload_n X dX11_learn_33 2 rfl rfl ?_
    exact g_iret X hr rfl dX11_learn_34
  · refine g_aload_n X dX11_learn_8 0 rfl rfl ?_
    refine g_bipush X dX11_learn_9 bi_m2 ?_
    refine g_cs X (st := []) (fun _ hh => ok_V X (k0 := 138) (As := [.int (-2)]) wkX11_no (tm_no M (-2) hh) rfl k_138 s_138 (by decide) rfl m_5_154 rfl (hRm (by decide) (by decide)) ⟨Nat.zero_le _, Nat.zero_le _⟩ (Nat.le_of_ble_eq_true rfl) dX11_learn_11) (fun r7 M6 _ => ?_)
    exact g_iret X hr rfl dX11_learn_14
set_option maxRecDepth 100000 in
set_option maxHeartbeats 4000000 in
theorem tm_riskOf {l : Launch} {D : va_G} {cy : Nat → ClassId} {ad : Nat → Nat} {N : Mem} (M : Mem) (a1 : Int32) (a2 : Int32) (a3 : Int32) {x : Int32} (h : fm_riskOf M a1 a2 a3 = some x) : Mt l D cy ad yX11_riskOf cX11_riskOf 6 (some .int) 5 [.ref (ad 138), .int a1, .int a2, .int a3] ((wfM N) M) (some (.int x), (wfM N) M) := by
  refine met_of (fin := (finI M)) (lv0 := [(0, .ref (ad 138)), (1, .int a1), (2, .int a2), (3, .int a3)]) (by decide) (Nat.le_of_ble_eq_true rfl) rfl (lM N) h (fun p e s m args below meth c X hr => ?_)
  unfold fm_riskOf
  refine g_aload_n X dX11_riskOf_0 0 rfl rfl ?_
  refine g_iload_n X dX11_riskOf_1 2 rfl rfl ?_
  refine g_aload_n X dX11_riskOf_2 0 rfl rfl ?_
  refine get_11_18 X (k := 138) k_138 s_138 m_5_79 dX11_riskOf_3 ?_
  refine g_iconst X dX11_riskOf_6 ic_5 ?_
  refine g_ialdC X (n := 9) (k := 156) k_156 s_156 (by decide) dX11_riskOf_7 ?_
  refine g_ci X (st := []) (fun _ hh => ok_V X (k0 := 138) (As := [.int a2, .int (M.1 156 (ix 5))]) wkX11_isOut (tm_isOut M a2 (M.1 156 (ix 5)) hh) rfl k_138 s_138 (by decide) rfl m_5_222 rfl (hRm (by decide) (by decide)) ⟨Nat.zero_le _, Nat.zero_le _⟩ (Nat.le_of_ble_eq_true rfl) dX11_riskOf_8) (fun r2 _ => ?_)
  refine g_if_ne X 22 (by decide) dX11_riskOf_11 (fun q11 => ?_) (fun q11 => ?_)
  · refine g_sipush X dX11_riskOf_22 si_1000 ?_
    exact g_iret X hr rfl dX11_riskOf_25
  · refine g_aload_n X dX11_riskOf_14 0 rfl rfl ?_
    refine g_iload_n X dX11_riskOf_15 2 rfl rfl ?_
    refine g_ci X (st := []) (fun _ hh => ok_V X (k0 := 138) (As := [.int a2]) wkX11_isTime (tm_isTime M a2 hh) rfl k_138 s_138 (by decide) rfl m_5_230 rfl (hRm (by decide) (by decide)) ⟨Nat.zero_le _, Nat.zero_le _⟩ (Nat.le_of_ble_eq_true rfl) dX11_riskOf_16) (fun r3 _ => ?_)
    refine g_if_ne X 26 (by decide) dX11_riskOf_19 (fun q19 => ?_) (fun q19 => ?_)
    · refine g_aload_n X dX11_riskOf_26 0 rfl rfl ?_
      refine g_iload_n X dX11_riskOf_27 2 rfl rfl ?_
      refine g_aload_n X dX11_riskOf_28 0 rfl rfl ?_
      refine get_11_18 X (k := 138) k_138 s_138 m_5_79 dX11_riskOf_29 ?_
      refine g_iconst X dX11_riskOf_32 ic_5 ?_
      refine g_ialdC X (n := 9) (k := 156) k_156 s_156 (by decide) dX11_riskOf_33 ?_
      refine g_ci X (st := []) (fun _ hh => ok_V X (k0 := 138) (As := [.int a2, .int (M.1 156 (ix 5))]) wkX11_riseAt (tm_riseAt M a2 (M.1 156 (ix 5)) hh) rfl k_138 s_138 (by decide) rfl m_5_206 rfl (hRm (by decide) (by decide)) ⟨Nat.zero_le _, Nat.zero_le _⟩ (Nat.le_of_ble_eq_true rfl) dX11_riskOf_34) (fun r5 _ => ?_)
      refine g_aload_n X dX11_riskOf_37 0 rfl rfl ?_
      refine g_ct X (v0 := .int (fm_deckT M)) (st := [.int r5]) (ok_V X (k0 := 138) (As := []) wkX11_deck (tm_deckT M) rfl k_138 s_138 (by decide) rfl m_5_226 rfl (hRm (by decide) (by decide)) ⟨Nat.zero_le _, Nat.zero_le _⟩ (Nat.le_of_ble_eq_true rfl) dX11_riskOf_38) ?_
      refine g_isub X dX11_riskOf_41 ?_
      refine g_ilet X (fun v6 => ?_)
      refine g_istore X dX11_riskOf_42 (by decide) rfl [1, 2, 3, 4, 0] (lu := [(0, .ref (ad 138)), (1, .int a1), (2, .int a2), (3, .int a3), (4, .int v6)]) rfl ?_
      refine g_aload_n X dX11_riskOf_44 0 rfl rfl ?_
      refine g_iconst X dX11_riskOf_45 ic_4 ?_
      refine g_ci X (st := []) (fun _ hh => ok_V X (k0 := 138) (As := [.int 4]) wkX11_says_ (tm_says1 M 4 hh) rfl k_138 s_138 (by decide) rfl m_5_234 rfl (hRm (by decide) (by decide)) ⟨Nat.zero_le _, Nat.zero_le _⟩ (Nat.le_of_ble_eq_true rfl) dX11_riskOf_46) (fun r7 _ => ?_)
      refine g_iload X dX11_riskOf_49 4 rfl ?_
      refine g_jlet X 62 (fun z62 : Int32 => [(0, .ref (ad 138)), (1, .int a1), (2, .int a2), (3, .int a3)]) (fun z62 : Int32 => [.int z62, .int r7]) (fun z62 : Int32 => M) (fun z62 => ?_) (fun J62 hJ62 => ?_)
      · show GF _ _ _ _ _ _ _ _ _ _ _ _ _ _ _ _ _ _ _ _ _ 62 [(0, .ref (ad 138)), (1, .int a1), (2, .int a2), (3, .int a3)] [.int z62, .int r7] M
        refine g_imul X dX11_riskOf_62 ?_
        refine g_aload_n X dX11_riskOf_63 0 rfl rfl ?_
        refine g_iconst X dX11_riskOf_64 ic_5 ?_
        refine g_ci X (st := [.int (r7 * z62)]) (fun _ hh => ok_V X (k0 := 138) (As := [.int 5]) wkX11_says_ (tm_says1 M 5 hh) rfl k_138 s_138 (by decide) rfl m_5_234 rfl (hRm (by decide) (by decide)) ⟨Nat.zero_le _, Nat.zero_le _⟩ (Nat.le_of_ble_eq_true rfl) dX11_riskOf_65) (fun r8 _ => ?_)
        refine g_aload_n X dX11_riskOf_68 0 rfl rfl ?_
        refine get_11_7 X (k := 138) k_138 s_138 m_5_68 dX11_riskOf_69 ?_
        refine g_iload_n X dX11_riskOf_72 2 rfl rfl ?_
        refine g_iald X (n := 20) (k := 146) k_146 s_146 dX11_riskOf_73 (fun h9 => ?_)
        refine g_imul X dX11_riskOf_74 ?_
        refine g_iadd X dX11_riskOf_75 ?_
        refine g_aload_n X dX11_riskOf_76 0 rfl rfl ?_
        refine g_bipush X dX11_riskOf_77 bi_6 ?_
        refine g_ci X (st := [.int ((r7 * z62) + (r8 * (M.1 146 (ix a2))))]) (fun _ hh => ok_V X (k0 := 138) (As := [.int 6]) wkX11_says_ (tm_says1 M 6 hh) rfl k_138 s_138 (by decide) rfl m_5_234 rfl (hRm (by decide) (by decide)) ⟨Nat.zero_le _, Nat.zero_le _⟩ (Nat.le_of_ble_eq_true rfl) dX11_riskOf_79) (fun r10 _ => ?_)
        refine g_aload_n X dX11_riskOf_82 0 rfl rfl ?_
        refine get_11_17 X (k := 138) k_138 s_138 m_5_78 dX11_riskOf_83 ?_
        refine g_iload_n X dX11_riskOf_86 3 rfl rfl ?_
        refine g_iald X (n := 12) (k := 155) k_155 s_155 dX11_riskOf_87 (fun h11 => ?_)
        refine g_imul X dX11_riskOf_88 ?_
        refine g_iadd X dX11_riskOf_89 ?_
        refine g_aload_n X dX11_riskOf_90 0 rfl rfl ?_
        refine g_bipush X dX11_riskOf_91 bi_7 ?_
        refine g_ci X (st := [.int (((r7 * z62) + (r8 * (M.1 146 (ix a2)))) + (r10 * (M.1 155 (ix a3))))]) (fun _ hh => ok_V X (k0 := 138) (As := [.int 7]) wkX11_says_ (tm_says1 M 7 hh) rfl k_138 s_138 (by decide) rfl m_5_234 rfl (hRm (by decide) (by decide)) ⟨Nat.zero_le _, Nat.zero_le _⟩ (Nat.le_of_ble_eq_true rfl) dX11_riskOf_93) (fun r12 _ => ?_)
        refine g_aload_n X dX11_riskOf_96 0 rfl rfl ?_
        refine get_11_11 X (k := 138) k_138 s_138 m_5_72 dX11_riskOf_97 ?_
        refine g_iload_n X dX11_riskOf_100 1 rfl rfl ?_
        refine g_iald X (n := 6) (k := 149) k_149 s_149 dX11_riskOf_101 (fun h13 => ?_)
        refine g_imul X dX11_riskOf_102 ?_
        refine g_isub X dX11_riskOf_103 ?_
        refine g_ilet X (fun v14 => ?_)
        refine g_istore X dX11_riskOf_104 (by decide) rfl [0] (lu := [(5, .int v14)]) rfl ?_
        refine g_iload X dX11_riskOf_106 0 rfl ?_
        refine g_if_ge X 113 (by decide) dX11_riskOf_108 (fun q108 => ?_) (fun q108 => ?_)
        · refine g_iload X dX11_riskOf_113 0 rfl ?_
          refine g_sipush X dX11_riskOf_115 si_1000 ?_
          refine g_icmp_le X 127 (by decide) dX11_riskOf_118 (fun q118 => ?_) (fun q118 => ?_)
          · refine g_iload X dX11_riskOf_127 0 rfl ?_
            exact g_iret X hr rfl dX11_riskOf_129
          · refine g_sipush X dX11_riskOf_121 si_1000 ?_
            refine g_goto X 129 (by decide) dX11_riskOf_124 ?_
            exact g_iret X hr rfl dX11_riskOf_129
        · refine g_iconst X dX11_riskOf_111 ic_0 ?_
          exact g_iret X hr rfl dX11_riskOf_112
      refine g_if_ge X 60 (by decide) dX11_riskOf_51 (fun q51 => ?_) (fun q51 => ?_)
      · refine g_iload X dX11_riskOf_60 4 rfl ?_
        refine g_sub (lu := [(0, .ref (ad 138)), (1, .int a1), (2, .int a2), (3, .int a3)]) [0, 1, 2, 3] rfl ?_
        exact hJ62 v6
      · refine g_iload X dX11_riskOf_54 4 rfl ?_
        refine g_ineg X dX11_riskOf_56 ?_
        refine g_goto X 62 (by decide) dX11_riskOf_57 ?_
        refine g_sub (lu := [(0, .ref (ad 138)), (1, .int a1), (2, .int a2), (3, .int a3)]) [0, 1, 2, 3] rfl ?_
        exact hJ62 (-v6)
    · refine g_sipush X dX11_riskOf_22 si_1000 ?_
      exact g_iret X hr rfl dX11_riskOf_25
