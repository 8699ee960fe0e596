set_option maxRecDepth 100000 in
set_option maxHeartbeats 4000000 in
theorem Lm_round_L94 {l : Launch} {D : va_G} {cy : Nat → ClassId} {ad : Nat → Nat} {N : Mem} {p : Program} {e : Env} {s : State} {m : MethodId} {args : Array Value} {below : List Frame} {meth : Method} {c : Code} (X : Cx p s m args meth c cX11_round 8 RX11 D cy ad (AA ad) (wfM N) sdM) (hr : meth.sig.returnType = (some .int)) (M : Mem) (b3 : Int32) : ∀ (n : Nat) (x6 : Int32) (x7 : Int32), GF p l e (Rm 7) s m args below meth c 8 D cy ad (AA ad) 0 0 (wfM N) (QM D cy ad (wfM N) below args s) finS (fm_round_L94 M b3 n x6 x7) 94 [(0, .ref (ad 138)), (3, .int b3), (6, .int x6), (7, .int x7)] [] M := by
  intro n
  induction n with
  | zero => intro x6 x7; exact g_none
  | succ n ih =>
    intro x6 x7
    rw [fm_round_L94]
    refine g_iload X dX11_round_94 3 rfl ?_
    refine g_iload_n X dX11_round_96 1 rfl rfl ?_
    refine g_icmp_ge X 143 (by decide) dX11_round_97 (fun q97 => ?_) (fun q97 => ?_)
    · refine g_iload X dX11_round_143 2 rfl ?_
      exact g_iret X hr rfl dX11_round_145
    · refine g_aload_n X dX11_round_100 0 rfl rfl ?_
      refine g_aload_n X dX11_round_101 0 rfl rfl ?_
      refine get_11_23 X (k := 138) k_138 s_138 m_5_80 dX11_round_102 ?_
      refine g_iload X dX11_round_105 3 rfl ?_
      refine g_iald X (n := 20) (k := 160) k_160 s_160 dX11_round_107 (fun h13 => ?_)
      refine g_aload_n X dX11_round_108 0 rfl rfl ?_
      refine get_11_18 X (k := 138) k_138 s_138 m_5_75 dX11_round_109 ?_
      refine g_iconst X dX11_round_112 ic_5 ?_
      refine g_ialdC X (n := 9) (k := 156) k_156 s_156 (by decide) dX11_round_113 ?_
      refine g_ci X (st := []) (fun _ hh => ok_V X (k0 := 138) (As := [.int (M.1 160 (ix x7)), .int (M.1 156 (ix 5))]) wkX11_isOut (tm_isOut M (M.1 160 (ix x7)) (M.1 156 (ix 5)) hh) rfl k_138 s_138 (by decide) rfl m_5_218 rfl (hRm (by decide) (by decide)) ⟨Nat.zero_le _, Nat.zero_le _⟩ (Nat.le_of_ble_eq_true rfl) dX11_round_114) (fun r15 _ => ?_)
      refine g_jlet X 137 (fun z137 : Int32 => [(0, .ref (ad 138)), (3, .int b3), (6, .int z137), (7, .int x7)]) (fun z137 : Int32 => []) (fun z137 : Int32 => M) (fun z137 => ?_) (fun J137 hJ137 => ?_)
      · show GF _ _ _ _ _ _ _ _ _ _ _ _ _ _ _ _ _ _ _ _ _ 137 [(0, .ref (ad 138)), (3, .int b3), (6, .int z137), (7, .int x7)] [] M
        refine g_iinc X (k := 3) (v := (x7 + 1)) dX11_round_137 rfl (ii_1 _) (by decide) rfl [1, 2, 3, 0] (lu := [(0, .ref (ad 138)), (3, .int b3), (6, .int z137), (7, .int (x7 + 1))]) rfl ?_
        refine g_goto X 94 (by decide) dX11_round_140 ?_
        exact ih z137 (x7 + 1)
      refine g_jlet X 134 (fun z134 : Unit => [(0, .ref (ad 138)), (3, .int b3), (6, .int x6), (7, .int x7)]) (fun z134 : Unit => []) (fun z134 : Unit => M) (fun z134 => ?_) (fun J134 hJ134 => ?_)
      · show GF _ _ _ _ _ _ _ _ _ _ _ _ _ _ _ _ _ _ _ _ _ 134 [(0, .ref (ad 138)), (3, .int b3), (6, .int x6), (7, .int x7)] [] M
        refine g_iinc X (k := 2) (v := (x6 + 1)) dX11_round_134 rfl (ii_1 _) (by decide) rfl [1, 2, 0, 3] (lu := [(0, .ref (ad 138)), (3, .int b3), (6, .int (x6 + 1)), (7, .int x7)]) rfl ?_
        exact hJ137 (x6 + 1)
      refine g_if_ne X 134 (by decide) dX11_round_117 (fun q117 => ?_) (fun q117 => ?_)
      · exact hJ134 ()
      · refine g_aload_n X dX11_round_120 0 rfl rfl ?_
        refine g_aload_n X dX11_round_121 0 rfl rfl ?_
        refine get_11_23 X (k := 138) k_138 s_138 m_5_80 dX11_round_122 ?_
        refine g_iload X dX11_round_125 3 rfl ?_
        refine g_iald X (n := 20) (k := 160) k_160 s_160 dX11_round_127 (fun h16 => ?_)
        refine g_ci X (st := []) (fun _ hh => ok_V X (k0 := 138) (As := [.int (M.1 160 (ix x7))]) wkX11_isTime (tm_isTime M (M.1 160 (ix x7)) hh) rfl k_138 s_138 (by decide) rfl m_5_226 rfl (hRm (by decide) (by decide)) ⟨Nat.zero_le _, Nat.zero_le _⟩ (Nat.le_of_ble_eq_true rfl) dX11_round_128) (fun r17 _ => ?_)
        refine g_if_ne X 137 (by decide) dX11_round_131 (fun q131 => ?_) (fun q131 => ?_)
        · exact hJ137 x6
        · exact hJ134 ()
set_option maxRecDepth 100000 in
set_option maxHeartbeats 4000000 in
theorem tm_round {l : Launch} {D : va_G} {cy : Nat → ClassId} {ad : Nat → Nat} {N : Mem} (M : Mem) (a1 : Int32) (a2 : Int32) (a3 : Int32) (a4 : Int32) {x : (Int32 × Mem)} (h : fm_round M a1 a2 a3 a4 = some x) : Mt l D cy ad yX11_round cX11_round 8 (some .int) 7 [.ref (ad 138), .int a1, .int a2, .int a3, .int a4] ((wfM N) M) (some (.int x.1), (wfM N) x.2) := by
  refine met_of (fin := finS) (lv0 := [(0, .ref (ad 138)), (1, .int a1), (2, .int a2), (3, .int a3), (4, .int a4)]) (by decide) (Nat.le_of_ble_eq_true rfl) rfl (lM N) h (fun p e s m args below meth c X hr => ?_)
  unfold fm_round
  refine g_aload_n X dX11_round_0 0 rfl rfl ?_
  refine g_iload_n X dX11_round_1 1 rfl rfl ?_
  refine g_ct X (v0 := .int (fm_isLeaperT M a1)) (st := []) (ok_V X (k0 := 138) (As := [.int a1]) wkX11_isLeaper (tm_isLeaperT M a1) rfl k_138 s_138 (by decide) rfl m_6_90 rfl (hRm (by decide) (by decide)) ⟨Nat.zero_le _, Nat.zero_le _⟩ (Nat.le_of_ble_eq_true rfl) dX11_round_2) ?_
  refine g_if_eq X 37 (by decide) dX11_round_5 (fun q5 => ?_) (fun q5 => ?_)
  · refine g_aload_n X dX11_round_37 0 rfl rfl ?_
    refine g_bipush X dX11_round_38 bi_m2 ?_
    refine g_cs X (st := []) (fun _ hh => ok_V X (k0 := 138) (As := [.int (-2)]) wkX11_no (tm_no M (-2) hh) rfl k_138 s_138 (by decide) rfl m_5_150 rfl (hRm (by decide) (by decide)) ⟨Nat.zero_le _, Nat.zero_le _⟩ (Nat.le_of_ble_eq_true rfl) dX11_round_40) (fun r2 M1 _ => ?_)
    exact g_iret X hr rfl dX11_round_43
  · refine g_aload_n X dX11_round_8 0 rfl rfl ?_
    refine g_iload_n X dX11_round_9 2 rfl rfl ?_
    refine g_ct X (v0 := .int (fm_isShelfT M a2)) (st := []) (ok_V X (k0 := 138) (As := [.int a2]) wkX11_isShelf (tm_isShelfT M a2) rfl k_138 s_138 (by decide) rfl m_5_146 rfl (hRm (by decide) (by decide)) ⟨Nat.zero_le _, Nat.zero_le _⟩ (Nat.le_of_ble_eq_true rfl) dX11_round_10) ?_
    refine g_if_eq X 37 (by decide) dX11_round_13 (fun q13 => ?_) (fun q13 => ?_)
    · refine g_aload_n X dX11_round_37 0 rfl rfl ?_
      refine g_bipush X dX11_round_38 bi_m2 ?_
      refine g_cs X (st := []) (fun _ hh => ok_V X (k0 := 138) (As := [.int (-2)]) wkX11_no (tm_no M (-2) hh) rfl k_138 s_138 (by decide) rfl m_5_150 rfl (hRm (by decide) (by decide)) ⟨Nat.zero_le _, Nat.zero_le _⟩ (Nat.le_of_ble_eq_true rfl) dX11_round_40) (fun r4 M3 _ => ?_)
      exact g_iret X hr rfl dX11_round_43
    · refine g_iload_n X dX11_round_16 3 rfl rfl ?_
      refine g_if_lt X 37 (by decide) dX11_round_17 (fun q17 => ?_) (fun q17 => ?_)
      · refine g_aload_n X dX11_round_37 0 rfl rfl ?_
        refine g_bipush X dX11_round_38 bi_m2 ?_
        refine g_cs X (st := []) (fun _ hh => ok_V X (k0 := 138) (As := [.int (-2)]) wkX11_no (tm_no M (-2) hh) rfl k_138 s_138 (by decide) rfl m_5_150 rfl (hRm (by decide) (by decide)) ⟨Nat.zero_le _, Nat.zero_le _⟩ (Nat.le_of_ble_eq_true rfl) dX11_round_40) (fun r6 M5 _ => ?_)
        exact g_iret X hr rfl dX11_round_43
      · refine g_iload_n X dX11_round_20 3 rfl rfl ?_
        refine g_bipush X dX11_round_21 bi_20 ?_
        refine g_icmp_gt X 37 (by decide) dX11_round_23 (fun q23 => ?_) (fun q23 => ?_)
        · refine g_aload_n X dX11_round_37 0 rfl rfl ?_
          refine g_bipush X dX11_round_38 bi_m2 ?_
          refine g_cs X (st := []) (fun _ hh => ok_V X (k0 := 138) (As := [.int (-2)]) wkX11_no (tm_no M (-2) hh) rfl k_138 s_138 (by decide) rfl m_5_150 rfl (hRm (by decide) (by decide)) ⟨Nat.zero_le _, Nat.zero_le _⟩ (Nat.le_of_ble_eq_true rfl) dX11_round_40) (fun r8 M7 _ => ?_)
          exact g_iret X hr rfl dX11_round_43
        · refine g_iload X dX11_round_26 4 rfl ?_
          refine g_if_lt X 37 (by decide) dX11_round_28 (fun q28 => ?_) (fun q28 => ?_)
          · refine g_aload_n X dX11_round_37 0 rfl rfl ?_
            refine g_bipush X dX11_round_38 bi_m2 ?_
            refine g_cs X (st := []) (fun _ hh => ok_V X (k0 := 138) (As := [.int (-2)]) wkX11_no (tm_no M (-2) hh) rfl k_138 s_138 (by decide) rfl m_5_150 rfl (hRm (by decide) (by decide)) ⟨Nat.zero_le _, Nat.zero_le _⟩ (Nat.le_of_ble_eq_true rfl) dX11_round_40) (fun r10 M9 _ => ?_)
            exact g_iret X hr rfl dX11_round_43
          · refine g_iload X dX11_round_31 4 rfl ?_
            refine g_iconst X dX11_round_33 ic_2 ?_
            refine g_icmp_le X 44 (by decide) dX11_round_34 (fun q34 => ?_) (fun q34 => ?_)
            · refine g_aload_n X dX11_round_44 0 rfl rfl ?_
              refine g_iload_n X dX11_round_45 2 rfl rfl ?_
              refine g_iload_n X dX11_round_46 3 rfl rfl ?_
              refine g_cs X (st := []) (fun _ hh => ok_V X (k0 := 138) (As := [.int a2, .int a3]) wkX11_take (tm_take M a2 a3 hh) rfl k_138 s_138 (by decide) rfl m_6_138 rfl (hRm (by decide) (by decide)) ⟨Nat.zero_le _, Nat.zero_le _⟩ (Nat.le_of_ble_eq_true rfl) dX11_round_47) (fun r12 M11 _ => ?_)
              refine g_istore X dX11_round_50 (by decide) rfl [1, 2, 4, 5, 0] (lu := [(0, .ref (ad 138)), (1, .int a1), (3, .int a3), (4, .int a4), (5, .int r12)]) rfl ?_
              refine g_iload X dX11_round_52 4 rfl ?_
              refine g_if_ge X 64 (by decide) dX11_round_54 (fun q54 => ?_) (fun q54 => ?_)
              · refine g_iload X dX11_round_64 3 rfl ?_
                refine g_if_ne X 76 (by decide) dX11_round_66 (fun q66 => ?_) (fun q66 => ?_)
                · refine g_iload X dX11_round_76 3 rfl ?_
                  refine g_iconst X dX11_round_78 ic_1 ?_
                  refine g_icmp_ne X 88 (by decide) dX11_round_79 (fun q79 => ?_) (fun q79 => ?_)
                  · refine g_iconst X dX11_round_88 ic_0 ?_
                    refine g_istore X dX11_round_89 (by decide) rfl [1, 3, 0] (lu := [(0, .ref (ad 138)), (3, .int a3), (6, .int 0)]) rfl ?_
                    refine g_iconst X dX11_round_91 ic_0 ?_
                    refine g_istore X dX11_round_92 (by decide) rfl [1, 2, 3, 0] (lu := [(0, .ref (ad 138)), (3, .int a3), (6, .int 0), (7, .int 0)]) rfl ?_
                    exact Lm_round_L94  X hr M11 a3    FU 0 0
                  · refine g_aload_n X dX11_round_82 0 rfl rfl ?_
                    refine g_iload_n X dX11_round_83 2 rfl rfl ?_
                    refine g_ci X (st := []) (fun _ hh => ok_V X (k0 := 138) (As := [.int a3]) wkX11_endOfTour (tm_endOfTour M11 a3 hh) rfl k_138 s_138 (by decide) rfl m_6_150 rfl (hRm (by decide) (by decide)) ⟨Nat.zero_le _, Nat.zero_le _⟩ (Nat.le_of_ble_eq_true rfl) dX11_round_84) (fun r18 _ => ?_)
                    exact g_iret X hr rfl dX11_round_87
                · refine g_aload_n X dX11_round_69 0 rfl rfl ?_
                  refine g_iload_n X dX11_round_70 1 rfl rfl ?_
                  refine g_iload_n X dX11_round_71 2 rfl rfl ?_
                  refine g_ci X (st := []) (fun _ hh => ok_V X (k0 := 138) (As := [.int a1, .int a3]) wkX11_riskOfTour (tm_riskOfTour M11 a1 a3 hh) rfl k_138 s_138 (by decide) rfl m_6_142 rfl (hRm (by decide) (by decide)) ⟨Nat.zero_le _, Nat.zero_le _⟩ (Nat.le_of_ble_eq_true rfl) dX11_round_72) (fun r19 _ => ?_)
                  exact g_iret X hr rfl dX11_round_75
              · refine g_aload_n X dX11_round_57 0 rfl rfl ?_
                refine g_iload X dX11_round_58 4 rfl ?_
                refine g_cs X (st := []) (fun _ hh => ok_V X (k0 := 138) (As := [.int r12]) wkX11_no (tm_no M11 r12 hh) rfl k_138 s_138 (by decide) rfl m_5_150 rfl (hRm (by decide) (by decide)) ⟨Nat.zero_le _, Nat.zero_le _⟩ (Nat.le_of_ble_eq_true rfl) dX11_round_60) (fun r21 M20 _ => ?_)
                exact g_iret X hr rfl dX11_round_63
            · refine g_aload_n X dX11_round_37 0 rfl rfl ?_
              refine g_bipush X dX11_round_38 bi_m2 ?_
              refine g_cs X (st := []) (fun _ hh => ok_V X (k0 := 138) (As := [.int (-2)]) wkX11_no (tm_no M (-2) hh) rfl k_138 s_138 (by decide) rfl m_5_150 rfl (hRm (by decide) (by decide)) ⟨Nat.zero_le _, Nat.zero_le _⟩ (Nat.le_of_ble_eq_true rfl) dX11_round_40) (fun r23 M22 _ => ?_)
              exact g_iret X hr rfl dX11_round_43
set_option maxRecDepth 100000 in
set_option maxHeartbeats 4000000 in
theorem Lm_membersOf_L21 {l : Launch} {D : va_G} {cy : Nat → ClassId} {ad : Nat → Nat} {N : Mem} {p : Program} {e : Env} {s : State} {m : MethodId} {args : Array Value} {below : List Frame} {meth : Method} {c : Code} (X : Cx p s m args meth c cX11_membersOf 4 RX11 D cy ad (AA ad) (wfM N) sdM) (hr : meth.sig.returnType = (some .int)) (b1 : Int32) : ∀ (n : Nat) (x2 : Int32) (x3 : Int32) (M : Mem), GF p l e (Rm 1) s m args below meth c 4 D cy ad (AA ad) 0 0 (wfM N) (QM D cy ad (wfM N) below args s) finS (fm_membersOf_L21 b1 n x2 x3 M) 21 [(0, .ref (ad 138)), (1, .int b1), (2, .int x2), (3, .int x3)] [] M := by
  intro n
  induction n with
  | zero => intro x2 x3 M; exact g_none
  | succ n ih =>
    intro x2 x3 M
    rw [fm_membersOf_L21]
    refine g_iload_n X dX11_membersOf_21 3 rfl rfl ?_
    refine g_aload_n X dX11_membersOf_22 0 rfl rfl ?_
    refine get_11_18 X (k := 138) k_138 s_138 m_5_75 dX11_membersOf_23 ?_
    refine g_iconst X dX11_membersOf_26 ic_0 ?_
    refine g_ialdC X (n := 9) (k := 156) k_156 s_156 (by decide) dX11_membersOf_27 ?_
    refine g_icmp_ge X 66 (by decide) dX11_membersOf_28 (fun q28 => ?_) (fun q28 => ?_)
    · refine g_iload_n X dX11_membersOf_66 2 rfl rfl ?_
      exact g_iret X hr rfl dX11_membersOf_67
    · refine g_iload_n X dX11_membersOf_31 1 rfl rfl ?_
      refine g_iload_n X dX11_membersOf_32 3 rfl rfl ?_
      refine g_ishr X dX11_membersOf_33 ?_
      refine g_iconst X dX11_membersOf_34 ic_1 ?_
      refine g_iand X dX11_membersOf_35 ?_
      refine g_jlet X 60 (fun z60 : Int32 × Mem => [(0, .ref (ad 138)), (1, .int b1), (2, .int (z60.1)), (3, .int x3)]) (fun z60 : Int32 × Mem => []) (fun z60 : Int32 × Mem => (z60.2)) (fun z60 => ?_) (fun J60 hJ60 => ?_)
      · show GF _ _ _ _ _ _ _ _ _ _ _ _ _ _ _ _ _ _ _ _ _ 60 [(0, .ref (ad 138)), (1, .int b1), (2, .int (z60.1)), (3, .int x3)] [] (z60.2)
        refine g_iinc X (k := 3) (v := (x3 + 1)) dX11_membersOf_60 rfl (ii_1 _) (by decide) rfl [1, 2, 3, 0] (lu := [(0, .ref (ad 138)), (1, .int b1), (2, .int (z60.1)), (3, .int (x3 + 1))]) rfl ?_
        refine g_goto X 21 (by decide) dX11_membersOf_63 ?_
        exact ih (z60.1) (x3 + 1) (z60.2)
      refine g_if_ne X 42 (by decide) dX11_membersOf_36 (fun q36 => ?_) (fun q36 => ?_)
      · refine g_iload_n X dX11_membersOf_42 2 rfl rfl ?_
        refine g_bipush X dX11_membersOf_43 bi_6 ?_
        refine g_icmp_ne X 50 (by decide) dX11_membersOf_45 (fun q45 => ?_) (fun q45 => ?_)
        · refine g_aload_n X dX11_membersOf_50 0 rfl rfl ?_
          refine get_11_25 X (k := 138) k_138 s_138 m_5_82 dX11_membersOf_51 ?_
          refine g_iload_n X dX11_membersOf_54 2 rfl rfl ?_
          refine g_iinc X (k := 2) (v := (x2 + 1)) dX11_membersOf_55 rfl (ii_1 _) (by decide) rfl [1, 2, 0, 3] (lu := [(0, .ref (ad 138)), (1, .int b1), (2, .int (x2 + 1)), (3, .int x3)]) rfl ?_
          refine g_iload_n X dX11_membersOf_58 3 rfl rfl ?_
          refine g_iast X (n := 6) (k := 162) k_162 s_162 dX11_membersOf_59 (fun h3 => ?_)
          refine g_mlet X (fun M4 => ?_)
          exact hJ60 ((x2 + 1), M4)
        · refine g_iconst X dX11_membersOf_48 ic_m1 ?_
          exact g_iret X hr rfl dX11_membersOf_49
      · refine g_goto X 60 (by decide) dX11_membersOf_39 ?_
        exact hJ60 (x2, M)
set_option maxRecDepth 100000 in
set_option maxHeartbeats 4000000 in
theorem tm_membersOf {l : Launch} {D : va_G} {cy : Nat → ClassId} {ad : Nat → Nat} {N : Mem} (M : Mem) (a1 : Int32) {x : (Int32 × Mem)} (h : fm_membersOf M a1 = some x) : Mt l D cy ad yX11_membersOf cX11_membersOf 4 (some .int) 1 [.ref (ad 138), .int a1] ((wfM N) M) (some (.int x.1), (wfM N) x.2) := by
  refine met_of (fin := finS) (lv0 := [(0, .ref (ad 138)), (1, .int a1)]) (by decide) (Nat.le_of_ble_eq_true rfl) rfl (lM N) h (fun p e s m args below meth c X hr => ?_)
  unfold fm_membersOf
  refine g_iload_n X dX11_membersOf_0 1 rfl rfl ?_
  refine g_if_lt X 15 (by decide) dX11_membersOf_1 (fun q1 => ?_) (fun q1 => ?_)
  · refine g_iconst X dX11_membersOf_15 ic_m1 ?_
    exact g_iret X hr rfl dX11_membersOf_16
  · refine g_iload_n X dX11_membersOf_4 1 rfl rfl ?_
    refine g_aload_n X dX11_membersOf_5 0 rfl rfl ?_
    refine get_11_18 X (k := 138) k_138 s_138 m_5_75 dX11_membersOf_6 ?_
    refine g_iconst X dX11_membersOf_9 ic_0 ?_
    refine g_ialdC X (n := 9) (k := 156) k_156 s_156 (by decide) dX11_membersOf_10 ?_
    refine g_ishr X dX11_membersOf_11 ?_
    refine g_if_eq X 17 (by decide) dX11_membersOf_12 (fun q12 => ?_) (fun q12 => ?_)
    · refine g_iconst X dX11_membersOf_17 ic_0 ?_
      refine g_istore_n X dX11_membersOf_18 rfl (by decide) rfl [1, 2, 0] (lu := [(0, .ref (ad 138)), (1, .int a1), (2, .int 0)]) rfl ?_
      refine g_iconst X dX11_membersOf_19 ic_0 ?_
      refine g_istore_n X dX11_membersOf_20 rfl (by decide) rfl [1, 2, 3, 0] (lu := [(0, .ref (ad 138)), (1, .int a1), (2, .int 0), (3, .int 0)]) rfl ?_
      exact Lm_membersOf_L21  X hr a1    FU 0 0 M
    · refine g_iconst X dX11_membersOf_15 ic_m1 ?_
      exact g_iret X hr rfl dX11_membersOf_16
set_option maxRecDepth 100000 in
set_option maxHeartbeats 4000000 in
theorem Lm_nextOrder_L4 {l : Launch} {D : va_G} {cy : Nat → ClassId} {ad : Nat → Nat} {N : Mem} {p : Program} {e : Env} {s : State} {m : MethodId} {args : Array Value} {below : List Frame} {meth : Method} {c : Code} (X : Cx p s m args meth c cX11_nextOrder 7 RX11 D cy ad (AA ad) (wfM N) sdM) (hr : meth.sig.returnType = (some .boolean)) (M : Mem) (b1 : Int32) (kx31 : Int32 → Option (Int32 × Mem)) (hkx31 : ∀ (y2 : Int32), GF p l e (Rm 1) s m args below meth c 7 D cy ad (AA ad) 0 0 (wfM N) (QM D cy ad (wfM N) below args s) finS (kx31 y2) 31 [(0, .ref (ad 138)), (1, .int b1), (2, .int y2)] [] M) : ∀ (n : Nat) (x2 : Int32), GF p l e (Rm 1) s m args below meth c 7 D cy ad (AA ad) 0 0 (wfM N) (QM D cy ad (wfM N) below args s) finS (fm_nextOrder_L4 M b1 kx31 n x2) 4 [(0, .ref (ad 138)), (1, .int b1), (2, .int x2)] [] M := by
  intro n
  induction n with
  | zero => intro x2; exact g_none
  | succ n ih =>
    intro x2
    rw [fm_nextOrder_L4]
    refine g_iload_n X dX11_nextOrder_4 2 rfl rfl ?_
    refine g_if_lt X 31 (by decide) dX11_nextOrder_5 (fun q5 => ?_) (fun q5 => ?_)
    · exact hkx31 x2
    · refine g_aload_n X dX11_nextOrder_8 0 rfl rfl ?_
      refine get_11_24 X (k := 138) k_138 s_138 m_5_81 dX11_nextOrder_9 ?_
      refine g_iload_n X dX11_nextOrder_12 2 rfl rfl ?_
      refine g_iald X (n := 6) (k := 161) k_161 s_161 dX11_nextOrder_13 (fun h2 => ?_)
      refine g_aload_n X dX11_nextOrder_14 0 rfl rfl ?_
      refine get_11_24 X (k := 138) k_138 s_138 m_5_81 dX11_nextOrder_15 ?_
      refine g_iload_n X dX11_nextOrder_18 2 rfl rfl ?_
      refine g_iconst X dX11_nextOrder_19 ic_1 ?_
      refine g_iadd X dX11_nextOrder_20 ?_
      refine g_iald X (n := 6) (k := 161) k_161 s_161 dX11_nextOrder_21 (fun h3 => ?_)
      refine g_icmp_le X 31 (by decide) dX11_nextOrder_22 (fun q22 => ?_) (fun q22 => ?_)
      · exact hkx31 x2
      · refine g_iinc X (k := 2) (v := (x2 + (-1))) dX11_nextOrder_25 rfl (ii_m1 _) (by decide) rfl [1, 2, 0] (lu := [(0, .ref (ad 138)), (1, .int b1), (2, .int (x2 + (-1)))]) rfl ?_
        refine g_goto X 4 (by decide) dX11_nextOrder_28 ?_
        exact ih (x2 + (-1))
set_option maxRecDepth 100000 in
set_option maxHeartbeats 4000000 in
theorem Lm_nextOrder_L41 {l : Launch} {D : va_G} {cy : Nat → ClassId} {ad : Nat → Nat} {N : Mem} {p : Program} {e : Env} {s : State} {m : MethodId} {args : Array Value} {below : List Frame} {meth : Method} {c : Code} (X : Cx p s m args meth c cX11_nextOrder 7 RX11 D cy ad (AA ad) (wfM N) sdM) (hr : meth.sig.returnType = (some .boolean)) (M : Mem) (b1 : Int32) (b2 : Int32) (kx62 : Int32 → Option (Int32 × Mem)) (hkx62 : ∀ (y3 : Int32), GF p l e (Rm 1) s m args below meth c 7 D cy ad (AA ad) 0 0 (wfM N) (QM D cy ad (wfM N) below args s) finS (kx62 y3) 62 [(0, .ref (ad 138)), (1, .int b1), (2, .int b2), (3, .int y3)] [] M) : ∀ (n : Nat) (x3 : Int32), GF p l e (Rm 1) s m args below meth c 7 D cy ad (AA ad) 0 0 (wfM N) (QM D cy ad (wfM N) below args s) finS (fm_nextOrder_L41 M b1 b2 kx62 n x3) 41 [(0, .ref (ad 138)), (1, .int b1), (2, .int b2), (3, .int x3)] [] M := by
  intro n
  induction n with
  | zero => intro x3; exact g_none
  | succ n ih =>
    intro x3
    rw [fm_nextOrder_L41]
    refine g_aload_n X dX11_nextOrder_41 0 rfl rfl ?_
    refine get_11_24 X (k := 138) k_138 s_138 m_5_81 dX11_nextOrder_42 ?_
    refine g_iload_n X dX11_nextOrder_45 3 rfl rfl ?_
    refine g_iald X (n := 6) (k := 161) k_161 s_161 dX11_nextOrder_46 (fun h6 => ?_)
    refine g_aload_n X dX11_nextOrder_47 0 rfl rfl ?_
    refine get_11_24 X (k := 138) k_138 s_138 m_5_81 dX11_nextOrder_48 ?_
    refine g_iload_n X dX11_nextOrder_51 2 rfl rfl ?_
    refine g_iald X (n := 6) (k := 161) k_161 s_161 dX11_nextOrder_52 (fun h7 => ?_)
    refine g_icmp_ge X 62 (by decide) dX11_nextOrder_53 (fun q53 => ?_) (fun q53 => ?_)
    · exact hkx62 x3
    · refine g_iinc X (k := 3) (v := (x3 + (-1))) dX11_nextOrder_56 rfl (ii_m1 _) (by decide) rfl [1, 2, 3, 0] (lu := [(0, .ref (ad 138)), (1, .int b1), (2, .int b2), (3, .int (x3 + (-1)))]) rfl ?_
      refine g_goto X 41 (by decide) dX11_nextOrder_59 ?_
      exact ih (x3 + (-1))
set_option maxRecDepth 100000 in
set_option maxHeartbeats 4000000 in
theorem Lm_nextOrder_L100 {l : Launch} {D : va_G} {cy : Nat → ClassId} {ad : Nat → Nat} {N : Mem} {p : Program} {e : Env} {s : State} {m : MethodId} {args : Array Value} {below : List Frame} {meth : Method} {c : Code} (X : Cx p s m args meth c cX11_nextOrder 7 RX11 D cy ad (AA ad) (wfM N) sdM) (hr : meth.sig.returnType = (some .boolean)) : ∀ (n : Nat) (x5 : Int32) (x6 : Int32) (M : Mem), GF p l e (Rm 1) s m args below meth c 7 D cy ad (AA ad) 0 0 (wfM N) (QM D cy ad (wfM N) below args s) finS (fm_nextOrder_L100 n x5 x6 M) 100 [(0, .ref (ad 138)), (5, .int x5), (6, .int x6)] [] M := by
  intro n
  induction n with
  | zero => intro x5 x6 M; exact g_none
  | succ n ih =>
    intro x5 x6 M
    rw [fm_nextOrder_L100]
    refine g_iload X dX11_nextOrder_100 1 rfl ?_
    refine g_iload X dX11_nextOrder_102 2 rfl ?_
    refine g_icmp_ge X 148 (by decide) dX11_nextOrder_104 (fun q104 => ?_) (fun q104 => ?_)
    · refine g_iconst X dX11_nextOrder_148 ic_1 ?_
      exact g_zret X hr (isB_n (by decide)) rfl dX11_nextOrder_149
    · refine g_aload_n X dX11_nextOrder_107 0 rfl rfl ?_
      refine get_11_24 X (k := 138) k_138 s_138 m_5_81 dX11_nextOrder_108 ?_
      refine g_iload X dX11_nextOrder_111 1 rfl ?_
      refine g_iald X (n := 6) (k := 161) k_161 s_161 dX11_nextOrder_113 (fun h18 => ?_)
      refine g_ilet X (fun v19 => ?_)
      refine g_istore X dX11_nextOrder_114 (by decide) rfl [1, 0, 2, 3] (lu := [(0, .ref (ad 138)), (4, .int v19), (5, .int x5), (6, .int x6)]) rfl ?_
      refine g_aload_n X dX11_nextOrder_116 0 rfl rfl ?_
      refine get_11_24 X (k := 138) k_138 s_138 m_5_81 dX11_nextOrder_117 ?_
      refine g_iload X dX11_nextOrder_120 2 rfl ?_
      refine g_aload_n X dX11_nextOrder_122 0 rfl rfl ?_
      refine get_11_24 X (k := 138) k_138 s_138 m_5_81 dX11_nextOrder_123 ?_
      refine g_iload X dX11_nextOrder_126 3 rfl ?_
      refine g_iald X (n := 6) (k := 161) k_161 s_161 dX11_nextOrder_128 (fun h20 => ?_)
      refine g_iast X (n := 6) (k := 161) k_161 s_161 dX11_nextOrder_129 (fun h21 => ?_)
      refine g_mlet X (fun M22 => ?_)
      refine g_aload_n X dX11_nextOrder_130 0 rfl rfl ?_
      refine get_11_24 X (k := 138) k_138 s_138 m_5_81 dX11_nextOrder_131 ?_
      refine g_iload X dX11_nextOrder_134 3 rfl ?_
      refine g_iload X dX11_nextOrder_136 1 rfl ?_
      refine g_iast X (n := 6) (k := 161) k_161 s_161 dX11_nextOrder_138 (fun h23 => ?_)
      refine g_mlet X (fun M24 => ?_)
      refine g_iinc X (k := 2) (v := (x5 + 1)) dX11_nextOrder_139 rfl (ii_1 _) (by decide) rfl [1, 0, 3] (lu := [(0, .ref (ad 138)), (5, .int (x5 + 1)), (6, .int x6)]) rfl ?_
      refine g_iinc X (k := 2) (v := (x6 + (-1))) dX11_nextOrder_142 rfl (ii_m1 _) (by decide) rfl [1, 2, 0] (lu := [(0, .ref (ad 138)), (5, .int (x5 + 1)), (6, .int (x6 + (-1)))]) rfl ?_
      refine g_goto X 100 (by decide) dX11_nextOrder_145 ?_
      exact ih (x5 + 1) (x6 + (-1)) M24
set_option maxRecDepth 100000 in
set_option maxHeartbeats 4000000 in
theorem tm_nextOrder {l : Launch} {D : va_G} {cy : Nat → ClassId} {ad : Nat → Nat} {N : Mem} (M : Mem) (a1 : Int32) {x : (Int32 × Mem)} (h : fm_nextOrder M a1 = some x) : Mt l D cy ad yX11_nextOrder cX11_nextOrder 7 (some .boolean) 1 [.ref (ad 138), .int a1] ((wfM N) M) (some (.int x.1), (wfM N) x.2) := by
  refine met_of (fin := finS) (lv0 := [(0, .ref (ad 138)), (1, .int a1)]) (by decide) (Nat.le_of_ble_eq_true rfl) rfl (lM N) h (fun p e s m args below meth c X hr => ?_)
  unfold fm_nextOrder
  refine g_iload_n X dX11_nextOrder_0 1 rfl rfl ?_
  refine g_iconst X dX11_nextOrder_1 ic_2 ?_
  refine g_isub X dX11_nextOrder_2 ?_
  refine g_ilet X (fun v1 => ?_)
  refine g_istore_n X dX11_nextOrder_3 rfl (by decide) rfl [1, 2, 0] (lu := [(0, .ref (ad 138)), (1, .int a1), (2, .int v1)]) rfl ?_
  refine Lm_nextOrder_L4  X hr M a1  _ (fun w4 => ?_) FU v1
  · refine g_iload_n X dX11_nextOrder_31 2 rfl rfl ?_
    refine g_if_ge X 37 (by decide) dX11_nextOrder_32 (fun q32 => ?_) (fun q32 => ?_)
    · refine g_iload_n X dX11_nextOrder_37 1 rfl rfl ?_
      refine g_iconst X dX11_nextOrder_38 ic_1 ?_
      refine g_isub X dX11_nextOrder_39 ?_
      refine g_ilet X (fun v5 => ?_)
      refine g_istore_n X dX11_nextOrder_40 rfl (by decide) rfl [1, 2, 3, 0] (lu := [(0, .ref (ad 138)), (1, .int a1), (2, .int w4), (3, .int v5)]) rfl ?_
      refine Lm_nextOrder_L41  X hr M a1 w4  _ (fun w8 => ?_) FU v5
      · refine g_aload_n X dX11_nextOrder_62 0 rfl rfl ?_
        refine get_11_24 X (k := 138) k_138 s_138 m_5_81 dX11_nextOrder_63 ?_
        refine g_iload_n X dX11_nextOrder_66 2 rfl rfl ?_
        refine g_iald X (n := 6) (k := 161) k_161 s_161 dX11_nextOrder_67 (fun h9 => ?_)
        refine g_ilet X (fun v10 => ?_)
        refine g_istore X dX11_nextOrder_68 (by decide) rfl [1, 2, 3, 4, 0] (lu := [(0, .ref (ad 138)), (1, .int a1), (2, .int w4), (3, .int w8), (4, .int v10)]) rfl ?_
        refine g_aload_n X dX11_nextOrder_70 0 rfl rfl ?_
        refine get_11_24 X (k := 138) k_138 s_138 m_5_81 dX11_nextOrder_71 ?_
        refine g_iload_n X dX11_nextOrder_74 2 rfl rfl ?_
        refine g_aload_n X dX11_nextOrder_75 0 rfl rfl ?_
        refine get_11_24 X (k := 138) k_138 s_138 m_5_81 dX11_nextOrder_76 ?_
        refine g_iload_n X dX11_nextOrder_79 3 rfl rfl ?_
        refine g_iald X (n := 6) (k := 161) k_161 s_161 dX11_nextOrder_80 (fun h11 => ?_)
        refine g_iast X (n := 6) (k := 161) k_161 s_161 dX11_nextOrder_81 (fun h12 => ?_)
        refine g_mlet X (fun M13 => ?_)
        refine g_aload_n X dX11_nextOrder_82 0 rfl rfl ?_
        refine get_11_24 X (k := 138) k_138 s_138 m_5_81 dX11_nextOrder_83 ?_
        refine g_iload_n X dX11_nextOrder_86 3 rfl rfl ?_
        refine g_iload X dX11_nextOrder_87 4 rfl ?_
        refine g_iast X (n := 6) (k := 161) k_161 s_161 dX11_nextOrder_89 (fun h14 => ?_)
        refine g_mlet X (fun M15 => ?_)
        refine g_iload_n X dX11_nextOrder_90 2 rfl rfl ?_
        refine g_iconst X dX11_nextOrder_91 ic_1 ?_
        refine g_iadd X dX11_nextOrder_92 ?_
        refine g_ilet X (fun v16 => ?_)
        refine g_istore X dX11_nextOrder_93 (by decide) rfl [1, 2, 0] (lu := [(0, .ref (ad 138)), (1, .int a1), (5, .int v16)]) rfl ?_
        refine g_iload_n X dX11_nextOrder_95 1 rfl rfl ?_
        refine g_iconst X dX11_nextOrder_96 ic_1 ?_
        refine g_isub X dX11_nextOrder_97 ?_
        refine g_ilet X (fun v17 => ?_)
        refine g_istore X dX11_nextOrder_98 (by decide) rfl [1, 3, 0] (lu := [(0, .ref (ad 138)), (5, .int v16), (6, .int v17)]) rfl ?_
        exact Lm_nextOrder_L100  X hr     FU v16 v17 M15
    · refine g_iconst X dX11_nextOrder_35 ic_0 ?_
      exact g_zret X hr (isB_n (by decide)) rfl dX11_nextOrder_36
set_option maxRecDepth 100000 in
set_option maxHeartbeats 4000000 in
theorem Lm_best_L82 {l : Launch} {D : va_G} {cy : Nat → ClassId} {ad : Nat → Nat} {N : Mem} {p : Program} {e : Env} {s : State} {m : MethodId} {args : Array Value} {below : List Frame} {meth : Method} {c : Code} (X : Cx p s m args meth c cX11_best 12 RX11 D cy ad (AA ad) (wfM N) sdM) (hr : meth.sig.returnType = (some .int)) (b1 : Int32) (b3 : Int32) (b4 : Int32) (b5 : Int32) (kx104 : Mem → Option (Int32 × Mem)) (hkx104 : ∀ (M : Mem), GF p l e (Rm 7) s m args below meth c 12 D cy ad (AA ad) 0 0 (wfM N) (QM D cy ad (wfM N) below args s) finS (kx104 M) 104 [(0, .ref (ad 138)), (1, .int b1), (3, .int b3), (4, .int b4), (5, .int b5), (6, .int (-1)), (7, .int 0)] [] M) : ∀ (n : Nat) (x8 : Int32) (M : Mem), GF p l e (Rm 7) s m args below meth c 12 D cy ad (AA ad) 0 0 (wfM N) (QM D cy ad (wfM N) below args s) finS (fm_best_L82 b1 b3 b4 b5 kx104 n x8 M) 82 [(0, .ref (ad 138)), (1, .int b1), (3, .int b3), (4, .int b4), (5, .int b5), (6, .int (-1)), (7, .int 0), (8, .int x8)] [] M := by
  intro n
  induction n with
  | zero => intro x8 M; exact g_none
  | succ n ih =>
    intro x8 M
    rw [fm_best_L82]
    refine g_iload X dX11_best_82 7 rfl ?_
    refine g_iload X dX11_best_84 4 rfl ?_
    refine g_icmp_ge X 104 (by decide) dX11_best_86 (fun q86 => ?_) (fun q86 => ?_)
    · refine g_sub (lu := [(0, .ref (ad 138)), (1, .int b1), (3, .int b3), (4, .int b4), (5, .int b5), (6, .int (-1)), (7, .int 0)]) [0, 1, 2, 3, 4, 5, 6] rfl ?_
      exact hkx104 M
    · refine g_aload_n X dX11_best_89 0 rfl rfl ?_
      refine get_11_24 X (k := 138) k_138 s_138 m_5_81 dX11_best_90 ?_
      refine g_iload X dX11_best_93 7 rfl ?_
      refine g_iload X dX11_best_95 7 rfl ?_
      refine g_iast X (n := 6) (k := 161) k_161 s_161 dX11_best_97 (fun h9 => ?_)
      refine g_mlet X (fun M10 => ?_)
      refine g_iinc X (k := 7) (v := (x8 + 1)) dX11_best_98 rfl (ii_1 _) (by decide) rfl [1, 2, 3, 4, 5, 6, 7, 0] (lu := [(0, .ref (ad 138)), (1, .int b1), (3, .int b3), (4, .int b4), (5, .int b5), (6, .int (-1)), (7, .int 0), (8, .int (x8 + 1))]) rfl ?_
      refine g_goto X 82 (by decide) dX11_best_101 ?_
      exact ih (x8 + 1) M10
set_option maxRecDepth 100000 in
set_option maxHeartbeats 4000000 in
theorem Lm_best_L115 {l : Launch} {D : va_G} {cy : Nat → ClassId} {ad : Nat → Nat} {N : Mem} {p : Program} {e : Env} {s : State} {m : MethodId} {args : Array Value} {below : List Frame} {meth : Method} {c : Code} (X : Cx p s m args meth c cX11_best 12 RX11 D cy ad (AA ad) (wfM N) sdM) (hr : meth.sig.returnType = (some .int)) (b1 : Int32) (b3 : Int32) (b4 : Int32) (b5 : Int32) (b6 : Int32) (b7 : Int32) (kx147 : Mem → Option (Int32 × Mem)) (hkx147 : ∀ (M : Mem), GF p l e (Rm 7) s m args below meth c 12 D cy ad (AA ad) 0 0 (wfM N) (QM D cy ad (wfM N) below args s) finS (kx147 M) 147 [(0, .ref (ad 138)), (1, .int b1), (3, .int b3), (4, .int b4), (5, .int b5), (6, .int b6), (7, .int b7)] [] M) : ∀ (n : Nat) (x9 : Int32) (M : Mem), GF p l e (Rm 7) s m args below meth c 12 D cy ad (AA ad) 0 0 (wfM N) (QM D cy ad (wfM N) below args s) finS (fm_best_L115 b1 b3 b4 b5 b6 b7 kx147 n x9 M) 115 [(0, .ref (ad 138)), (1, .int b1), (3, .int b3), (4, .int b4), (5, .int b5), (6, .int b6), (7, .int b7), (9, .int x9)] [] M := by
  intro n
  induction n with
  | zero => intro x9 M; exact g_none
  | succ n ih =>
    intro x9 M
    rw [fm_best_L115]
    refine g_iload X dX11_best_115 7 rfl ?_
    refine g_iload X dX11_best_117 4 rfl ?_
    refine g_icmp_ge X 147 (by decide) dX11_best_119 (fun q119 => ?_) (fun q119 => ?_)
    · refine g_sub (lu := [(0, .ref (ad 138)), (1, .int b1), (3, .int b3), (4, .int b4), (5, .int b5), (6, .int b6), (7, .int b7)]) [0, 1, 2, 3, 4, 5, 6] rfl ?_
      exact hkx147 M
    · refine g_aload_n X dX11_best_122 0 rfl rfl ?_
      refine get_11_23 X (k := 138) k_138 s_138 m_5_80 dX11_best_123 ?_
      refine g_iload X dX11_best_126 7 rfl ?_
      refine g_aload_n X dX11_best_128 0 rfl rfl ?_
      refine get_11_25 X (k := 138) k_138 s_138 m_5_82 dX11_best_129 ?_
      refine g_aload_n X dX11_best_132 0 rfl rfl ?_
      refine get_11_24 X (k := 138) k_138 s_138 m_5_81 dX11_best_133 ?_
      refine g_iload X dX11_best_136 7 rfl ?_
      refine g_iald X (n := 6) (k := 161) k_161 s_161 dX11_best_138 (fun h12 => ?_)
      refine g_iald X (n := 6) (k := 162) k_162 s_162 dX11_best_139 (fun h13 => ?_)
      refine g_iast X (n := 20) (k := 160) k_160 s_160 dX11_best_140 (fun h14 => ?_)
      refine g_mlet X (fun M15 => ?_)
      refine g_iinc X (k := 7) (v := (x9 + 1)) dX11_best_141 rfl (ii_1 _) (by decide) rfl [1, 2, 3, 4, 5, 6, 7, 0] (lu := [(0, .ref (ad 138)), (1, .int b1), (3, .int b3), (4, .int b4), (5, .int b5), (6, .int b6), (7, .int b7), (9, .int (x9 + 1))]) rfl ?_
      refine g_goto X 115 (by decide) dX11_best_144 ?_
      exact ih (x9 + 1) M15
set_option maxRecDepth 100000 in
set_option maxHeartbeats 4000000 in
theorem Lm_best_L207 {l : Launch} {D : va_G} {cy : Nat → ClassId} {ad : Nat → Nat} {N : Mem} {p : Program} {e : Env} {s : State} {m : MethodId} {args : Array Value} {below : List Frame} {meth : Method} {c : Code} (X : Cx p s m args meth c cX11_best 12 RX11 D cy ad (AA ad) (wfM N) sdM) (hr : meth.sig.returnType = (some .int)) (b1 : Int32) (b3 : Int32) (b4 : Int32) (b5 : Int32) (b6 : Int32) (b7 : Int32) (kx234 : Mem → Option (Int32 × Mem)) (hkx234 : ∀ (M : Mem), GF p l e (Rm 7) s m args below meth c 12 D cy ad (AA ad) 0 0 (wfM N) (QM D cy ad (wfM N) below args s) finS (kx234 M) 234 [(0, .ref (ad 138)), (1, .int b1), (3, .int b3), (4, .int b4), (5, .int b5), (6, .int b6), (7, .int b7)] [] M) : ∀ (n : Nat) (x11 : Int32) (M : Mem), GF p l e (Rm 7) s m args below meth c 12 D cy ad (AA ad) 0 0 (wfM N) (QM D cy ad (wfM N) below args s) finS (fm_best_L207 b1 b3 b4 b5 b6 b7 kx234 n x11 M) 207 [(0, .ref (ad 138)), (1, .int b1), (3, .int b3), (4, .int b4), (5, .int b5), (6, .int b6), (7, .int b7), (11, .int x11)] [] M := by
  intro n
  induction n with
  | zero => intro x11 M; exact g_none
  | succ n ih =>
    intro x11 M
    rw [fm_best_L207]
    refine g_iload X dX11_best_207 7 rfl ?_
    refine g_iload X dX11_best_209 4 rfl ?_
    refine g_icmp_ge X 234 (by decide) dX11_best_211 (fun q211 => ?_) (fun q211 => ?_)
    · refine g_sub (lu := [(0, .ref (ad 138)), (1, .int b1), (3, .int b3), (4, .int b4), (5, .int b5), (6, .int b6), (7, .int b7)]) [0, 1, 2, 3, 4, 5, 6] rfl ?_
      exact hkx234 M
    · refine g_aload_n X dX11_best_214 0 rfl rfl ?_
      refine get_11_26 X (k := 138) k_138 s_138 m_5_83 dX11_best_215 ?_
      refine g_iload X dX11_best_218 7 rfl ?_
      refine g_aload_n X dX11_best_220 0 rfl rfl ?_
      refine get_11_23 X (k := 138) k_138 s_138 m_5_80 dX11_best_221 ?_
      refine g_iload X dX11_best_224 7 rfl ?_
      refine g_iald X (n := 20) (k := 160) k_160 s_160 dX11_best_226 (fun h21 => ?_)
      refine g_iast X (n := 6) (k := 163) k_163 s_163 dX11_best_227 (fun h22 => ?_)
      refine g_mlet X (fun M23 => ?_)
      refine g_iinc X (k := 7) (v := (x11 + 1)) dX11_best_228 rfl (ii_1 _) (by decide) rfl [1, 2, 3, 4, 5, 6, 7, 0] (lu := [(0, .ref (ad 138)), (1, .int b1), (3, .int b3), (4, .int b4), (5, .int b5), (6, .int b6), (7, .int b7), (11, .int (x11 + 1))]) rfl ?_
      refine g_goto X 207 (by decide) dX11_best_231 ?_
      exact ih (x11 + 1) M23
set_option maxRecDepth 100000 in
set_option maxHeartbeats 4000000 in
theorem Lm_best_L107 {l : Launch} {D : va_G} {cy : Nat → ClassId} {ad : Nat → Nat} {N : Mem} {p : Program} {e : Env} {s : State} {m : MethodId} {args : Array Value} {below : List Frame} {meth : Method} {c : Code} (X : Cx p s m args meth c cX11_best 12 RX11 D cy ad (AA ad) (wfM N) sdM) (hr : meth.sig.returnType = (some .int)) (b1 : Int32) (b3 : Int32) (b4 : Int32) (b5 : Int32) (kx245 : Int32 → Int32 → Mem → Option (Int32 × Mem)) (hkx245 : ∀ (y6 : Int32) (y7 : Int32) (M : Mem), GF p l e (Rm 7) s m args below meth c 12 D cy ad (AA ad) 0 0 (wfM N) (QM D cy ad (wfM N) below args s) finS (kx245 y6 y7 M) 245 [(0, .ref (ad 138)), (4, .int b4), (6, .int y6), (7, .int y7)] [] M) : ∀ (n : Nat) (x6 : Int32) (x7 : Int32) (x8 : Int32) (M : Mem), GF p l e (Rm 7) s m args below meth c 12 D cy ad (AA ad) 0 0 (wfM N) (QM D cy ad (wfM N) below args s) finS (fm_best_L107 b1 b3 b4 b5 kx245 n x6 x7 x8 M) 107 [(0, .ref (ad 138)), (1, .int b1), (3, .int b3), (4, .int b4), (5, .int b5), (6, .int x6), (7, .int x7), (8, .int x8)] [] M := by
  intro n
  induction n with
  | zero => intro x6 x7 x8 M; exact g_none
  | succ n ih =>
    intro x6 x7 x8 M
    rw [fm_best_L107]
    refine g_iload X dX11_best_107 7 rfl ?_
    refine g_if_eq X 245 (by decide) dX11_best_109 (fun q109 => ?_) (fun q109 => ?_)
    · refine g_sub (lu := [(0, .ref (ad 138)), (4, .int b4), (6, .int x6), (7, .int x7)]) [0, 3, 5, 6] rfl ?_
      exact hkx245 x6 x7 M
    · refine g_iconst X dX11_best_112 ic_0 ?_
      refine g_istore X dX11_best_113 (by decide) rfl [1, 2, 3, 4, 5, 6, 7, 0] (lu := [(0, .ref (ad 138)), (1, .int b1), (3, .int b3), (4, .int b4), (5, .int b5), (6, .int x6), (7, .int x7), (9, .int 0)]) rfl ?_
      refine Lm_best_L115  X hr b1 b3 b4 b5 x6 x7  _ (fun M16 => ?_) FU 0 M
      · refine g_aload_n X dX11_best_147 0 rfl rfl ?_
        refine g_iload X dX11_best_148 4 rfl ?_
        refine g_ci X (st := []) (fun _ hh => ok_V X (k0 := 138) (As := [.int b5]) wkX11_endOfTour (tm_endOfTour M16 b5 hh) rfl k_138 s_138 (by decide) rfl m_6_150 rfl (hRm (by decide) (by decide)) ⟨Nat.zero_le _, Nat.zero_le _⟩ (Nat.le_of_ble_eq_true rfl) dX11_best_150) (fun r17 _ => ?_)
        refine g_istore X dX11_best_153 (by decide) rfl [1, 2, 3, 4, 5, 6, 7, 0] (lu := [(0, .ref (ad 138)), (1, .int b1), (3, .int b3), (4, .int b4), (5, .int b5), (6, .int x6), (7, .int x7), (9, .int r17)]) rfl ?_
        refine g_iload X dX11_best_155 7 rfl ?_
        refine g_iload_n X dX11_best_157 2 rfl rfl ?_
        refine g_jlet X 234 (fun z234 : Int32 × Int32 × Mem => [(0, .ref (ad 138)), (1, .int b1), (3, .int b3), (4, .int b4), (5, .int b5), (6, .int (z234.1)), (7, .int (z234.2.1))]) (fun z234 : Int32 × Int32 × Mem => []) (fun z234 : Int32 × Int32 × Mem => (z234.2.2)) (fun z234 => ?_) (fun J234 hJ234 => ?_)
        · show GF _ _ _ _ _ _ _ _ _ _ _ _ _ _ _ _ _ _ _ _ _ 234 [(0, .ref (ad 138)), (1, .int b1), (3, .int b3), (4, .int b4), (5, .int b5), (6, .int (z234.1)), (7, .int (z234.2.1))] [] (z234.2.2)
          refine g_aload_n X dX11_best_234 0 rfl rfl ?_
          refine g_iload X dX11_best_235 4 rfl ?_
          refine g_cs X (st := []) (fun _ hh => ok_V X (k0 := 138) (As := [.int b5]) wkX11_nextOrder (tm_nextOrder (z234.2.2) b5 hh) rfl k_138 s_138 (by decide) rfl m_6_162 rfl (hRm (by decide) (by decide)) ⟨Nat.zero_le _, Nat.zero_le _⟩ (Nat.le_of_ble_eq_true rfl) dX11_best_237) (fun r19 M18 _ => ?_)
          refine g_istore X dX11_best_240 (by decide) rfl [1, 2, 3, 4, 5, 6, 7, 0] (lu := [(0, .ref (ad 138)), (1, .int b1), (3, .int b3), (4, .int b4), (5, .int b5), (6, .int (z234.1)), (7, .int (z234.2.1)), (8, .int r19)]) rfl ?_
          refine g_goto X 107 (by decide) dX11_best_242 ?_
          exact ih (z234.1) (z234.2.1) r19 M18
        refine g_icmp_gt X 234 (by decide) dX11_best_158 (fun q158 => ?_) (fun q158 => ?_)
        · refine g_sub (lu := [(0, .ref (ad 138)), (1, .int b1), (3, .int b3), (4, .int b4), (5, .int b5), (6, .int x6), (7, .int x7)]) [0, 1, 2, 3, 4, 5, 6] rfl ?_
          exact hJ234 (x6, x7, M16)
        · refine g_aload_n X dX11_best_161 0 rfl rfl ?_
          refine g_iload_n X dX11_best_162 1 rfl rfl ?_
          refine g_iload X dX11_best_163 4 rfl ?_
          refine g_ci X (st := []) (fun _ hh => ok_V X (k0 := 138) (As := [.int b1, .int b5]) wkX11_riskOfTour (tm_riskOfTour M16 b1 b5 hh) rfl k_138 s_138 (by decide) rfl m_6_142 rfl (hRm (by decide) (by decide)) ⟨Nat.zero_le _, Nat.zero_le _⟩ (Nat.le_of_ble_eq_true rfl) dX11_best_165) (fun r20 _ => ?_)
          refine g_istore X dX11_best_168 (by decide) rfl [1, 2, 3, 4, 5, 6, 7, 8, 0] (lu := [(0, .ref (ad 138)), (1, .int b1), (3, .int b3), (4, .int b4), (5, .int b5), (6, .int x6), (7, .int x7), (9, .int r17), (10, .int r20)]) rfl ?_
          refine g_iload X dX11_best_170 5 rfl ?_
          refine g_jlet X 196 (fun z196 : Unit => [(0, .ref (ad 138)), (1, .int b1), (3, .int b3), (4, .int b4), (5, .int b5), (9, .int r17), (10, .int r20)]) (fun z196 : Unit => []) (fun z196 : Unit => M16) (fun z196 => ?_) (fun J196 hJ196 => ?_)
          · show GF _ _ _ _ _ _ _ _ _ _ _ _ _ _ _ _ _ _ _ _ _ 196 [(0, .ref (ad 138)), (1, .int b1), (3, .int b3), (4, .int b4), (5, .int b5), (9, .int r17), (10, .int r20)] [] M16
            refine g_iload X dX11_best_196 6 rfl ?_
            refine g_istore X dX11_best_198 (by decide) rfl [1, 2, 3, 4, 5, 0, 6] (lu := [(0, .ref (ad 138)), (1, .int b1), (3, .int b3), (4, .int b4), (5, .int b5), (6, .int r20), (9, .int r17)]) rfl ?_
            refine g_iload X dX11_best_200 6 rfl ?_
            refine g_istore X dX11_best_202 (by decide) rfl [1, 2, 3, 4, 5, 6, 0] (lu := [(0, .ref (ad 138)), (1, .int b1), (3, .int b3), (4, .int b4), (5, .int b5), (6, .int r20), (7, .int r17)]) rfl ?_
            refine g_iconst X dX11_best_204 ic_0 ?_
            refine g_istore X dX11_best_205 (by decide) rfl [1, 2, 3, 4, 5, 6, 7, 0] (lu := [(0, .ref (ad 138)), (1, .int b1), (3, .int b3), (4, .int b4), (5, .int b5), (6, .int r20), (7, .int r17), (11, .int 0)]) rfl ?_
            refine Lm_best_L207  X hr b1 b3 b4 b5 r20 r17  _ (fun M24 => ?_) FU 0 M16
            · exact hJ234 (r20, r17, M24)
          refine g_if_lt X 196 (by decide) dX11_best_172 (fun q172 => ?_) (fun q172 => ?_)
          · refine g_sub (lu := [(0, .ref (ad 138)), (1, .int b1), (3, .int b3), (4, .int b4), (5, .int b5), (9, .int r17), (10, .int r20)]) [0, 1, 2, 3, 4, 7, 8] rfl ?_
            exact hJ196 ()
          · refine g_iload X dX11_best_175 8 rfl ?_
            refine g_iload X dX11_best_177 5 rfl ?_
            refine g_icmp_lt X 196 (by decide) dX11_best_179 (fun q179 => ?_) (fun q179 => ?_)
            · refine g_sub (lu := [(0, .ref (ad 138)), (1, .int b1), (3, .int b3), (4, .int b4), (5, .int b5), (9, .int r17), (10, .int r20)]) [0, 1, 2, 3, 4, 7, 8] rfl ?_
              exact hJ196 ()
            · refine g_iload X dX11_best_182 8 rfl ?_
              refine g_iload X dX11_best_184 5 rfl ?_
              refine g_icmp_ne X 234 (by decide) dX11_best_186 (fun q186 => ?_) (fun q186 => ?_)
              · refine g_sub (lu := [(0, .ref (ad 138)), (1, .int b1), (3, .int b3), (4, .int b4), (5, .int b5), (6, .int x6), (7, .int x7)]) [0, 1, 2, 3, 4, 5, 6] rfl ?_
                exact hJ234 (x6, x7, M16)
              · refine g_iload X dX11_best_189 7 rfl ?_
                refine g_iload X dX11_best_191 6 rfl ?_
                refine g_icmp_ge X 234 (by decide) dX11_best_193 (fun q193 => ?_) (fun q193 => ?_)
                · refine g_sub (lu := [(0, .ref (ad 138)), (1, .int b1), (3, .int b3), (4, .int b4), (5, .int b5), (6, .int x6), (7, .int x7)]) [0, 1, 2, 3, 4, 5, 6] rfl ?_
                  exact hJ234 (x6, x7, M16)
                · refine g_sub (lu := [(0, .ref (ad 138)), (1, .int b1), (3, .int b3), (4, .int b4), (5, .int b5), (9, .int r17), (10, .int r20)]) [0, 1, 2, 3, 4, 7, 8] rfl ?_
                  exact hJ196 ()
set_option maxRecDepth 100000 in
set_option maxHeartbeats 4000000 in
theorem tm_best {l : Launch} {D : va_G} {cy : Nat → ClassId} {ad : Nat → Nat} {N : Mem} (M : Mem) (a1 : Int32) (a2 : Int32) (a3 : Int32) (a4 : Int32) {x : (Int32 × Mem)} (h : fm_best M a1 a2 a3 a4 = some x) : Mt l D cy ad yX11_best cX11_best 12 (some .int) 7 [.ref (ad 138), .int a1, .int a2, .int a3, .int a4] ((wfM N) M) (some (.int x.1), (wfM N) x.2) := by
  refine met_of (fin := finS) (lv0 := [(0, .ref (ad 138)), (1, .int a1), (2, .int a2), (3, .int a3), (4, .int a4)]) (by decide) (Nat.le_of_ble_eq_true rfl) rfl (lM N) h (fun p e s m args below meth c X hr => ?_)
  unfold fm_best
  refine g_aload_n X dX11_best_0 0 rfl rfl ?_
  refine g_iload_n X dX11_best_1 2 rfl rfl ?_
  refine g_cs X (st := []) (fun _ hh => ok_V X (k0 := 138) (As := [.int a2]) wkX11_membersOf (tm_membersOf M a2 hh) rfl k_138 s_138 (by decide) rfl m_6_158 rfl (hRm (by decide) (by decide)) ⟨Nat.zero_le _, Nat.zero_le _⟩ (Nat.le_of_ble_eq_true rfl) dX11_best_2) (fun r2 M1 _ => ?_)
  refine g_istore X dX11_best_5 (by decide) rfl [1, 2, 4, 5, 0] (lu := [(0, .ref (ad 138)), (1, .int a1), (3, .int a3), (4, .int a4), (5, .int r2)]) rfl ?_
  refine g_aload_n X dX11_best_7 0 rfl rfl ?_
  refine g_iload_n X dX11_best_8 1 rfl rfl ?_
  refine g_ct X (v0 := .int (fm_isLeaperT M1 a1)) (st := []) (ok_V X (k0 := 138) (As := [.int a1]) wkX11_isLeaper (tm_isLeaperT M1 a1) rfl k_138 s_138 (by decide) rfl m_6_90 rfl (hRm (by decide) (by decide)) ⟨Nat.zero_le _, Nat.zero_le _⟩ (Nat.le_of_ble_eq_true rfl) dX11_best_9) ?_
  refine g_if_eq X 31 (by decide) dX11_best_12 (fun q12 => ?_) (fun q12 => ?_)
  · refine g_aload_n X dX11_best_31 0 rfl rfl ?_
    refine g_bipush X dX11_best_32 bi_m2 ?_
    refine g_cs X (st := []) (fun _ hh => ok_V X (k0 := 138) (As := [.int (-2)]) wkX11_no (tm_no M1 (-2) hh) rfl k_138 s_138 (by decide) rfl m_5_150 rfl (hRm (by decide) (by decide)) ⟨Nat.zero_le _, Nat.zero_le _⟩ (Nat.le_of_ble_eq_true rfl) dX11_best_34) (fun r4 M3 _ => ?_)
    exact g_iret X hr rfl dX11_best_37
  · refine g_iload X dX11_best_15 4 rfl ?_
    refine g_if_lt X 31 (by decide) dX11_best_17 (fun q17 => ?_) (fun q17 => ?_)
    · refine g_aload_n X dX11_best_31 0 rfl rfl ?_
      refine g_bipush X dX11_best_32 bi_m2 ?_
      refine g_cs X (st := []) (fun _ hh => ok_V X (k0 := 138) (As := [.int (-2)]) wkX11_no (tm_no M1 (-2) hh) rfl k_138 s_138 (by decide) rfl m_5_150 rfl (hRm (by decide) (by decide)) ⟨Nat.zero_le _, Nat.zero_le _⟩ (Nat.le_of_ble_eq_true rfl) dX11_best_34) (fun r6 M5 _ => ?_)
      exact g_iret X hr rfl dX11_best_37
    · refine g_iload_n X dX11_best_20 2 rfl rfl ?_
      refine g_if_lt X 31 (by decide) dX11_best_21 (fun q21 => ?_) (fun q21 => ?_)
      · refine g_aload_n X dX11_best_31 0 rfl rfl ?_
        refine g_bipush X dX11_best_32 bi_m2 ?_
        refine g_cs X (st := []) (fun _ hh => ok_V X (k0 := 138) (As := [.int (-2)]) wkX11_no (tm_no M1 (-2) hh) rfl k_138 s_138 (by decide) rfl m_5_150 rfl (hRm (by decide) (by decide)) ⟨Nat.zero_le _, Nat.zero_le _⟩ (Nat.le_of_ble_eq_true rfl) dX11_best_34) (fun r8 M7 _ => ?_)
        exact g_iret X hr rfl dX11_best_37
      · refine g_iload_n X dX11_best_24 2 rfl rfl ?_
        refine g_sipush X dX11_best_25 si_999 ?_
        refine g_icmp_le X 38 (by decide) dX11_best_28 (fun q28 => ?_) (fun q28 => ?_)
        · refine g_iload X dX11_best_38 3 rfl ?_
          refine g_jlet X 73 (fun z73 : Unit => [(0, .ref (ad 138)), (1, .int a1), (3, .int a3), (4, .int a4), (5, .int r2)]) (fun z73 : Unit => []) (fun z73 : Unit => M1) (fun z73 => ?_) (fun J73 hJ73 => ?_)
          · show GF _ _ _ _ _ _ _ _ _ _ _ _ _ _ _ _ _ _ _ _ _ 73 [(0, .ref (ad 138)), (1, .int a1), (3, .int a3), (4, .int a4), (5, .int r2)] [] M1
            refine g_iconst X dX11_best_73 ic_m1 ?_
            refine g_istore X dX11_best_74 (by decide) rfl [1, 2, 3, 4, 5, 0] (lu := [(0, .ref (ad 138)), (1, .int a1), (3, .int a3), (4, .int a4), (5, .int r2), (6, .int (-1))]) rfl ?_
            refine g_iconst X dX11_best_76 ic_0 ?_
            refine g_istore X dX11_best_77 (by decide) rfl [1, 2, 3, 4, 5, 6, 0] (lu := [(0, .ref (ad 138)), (1, .int a1), (3, .int a3), (4, .int a4), (5, .int r2), (6, .int (-1)), (7, .int 0)]) rfl ?_
            refine g_iconst X dX11_best_79 ic_0 ?_
            refine g_istore X dX11_best_80 (by decide) rfl [1, 2, 3, 4, 5, 6, 7, 0] (lu := [(0, .ref (ad 138)), (1, .int a1), (3, .int a3), (4, .int a4), (5, .int r2), (6, .int (-1)), (7, .int 0), (8, .int 0)]) rfl ?_
            refine Lm_best_L82  X hr a1 a3 a4 r2  _ (fun M11 => ?_) FU 0 M1
            · refine g_iconst X dX11_best_104 ic_1 ?_
              refine g_istore X dX11_best_105 (by decide) rfl [1, 2, 3, 4, 5, 6, 7, 0] (lu := [(0, .ref (ad 138)), (1, .int a1), (3, .int a3), (4, .int a4), (5, .int r2), (6, .int (-1)), (7, .int 0), (8, .int 1)]) rfl ?_
              refine Lm_best_L107  X hr a1 a3 a4 r2  _ (fun w25 w26 M27 => ?_) FU (-1) 0 1 M11
              · refine g_iload X dX11_best_245 2 rfl ?_
                refine g_if_ge X 257 (by decide) dX11_best_247 (fun q247 => ?_) (fun q247 => ?_)
                · refine g_iload X dX11_best_257 1 rfl ?_
                  refine g_if_ne X 265 (by decide) dX11_best_259 (fun q259 => ?_) (fun q259 => ?_)
                  · refine g_iload X dX11_best_265 1 rfl ?_
                    refine g_iconst X dX11_best_267 ic_1 ?_
                    refine g_icmp_ne X 276 (by decide) dX11_best_268 (fun q268 => ?_) (fun q268 => ?_)
                    · refine g_aload_n X dX11_best_276 0 rfl rfl ?_
                      refine get_11_26 X (k := 138) k_138 s_138 m_5_83 dX11_best_277 ?_
                      refine g_iload X dX11_best_280 1 rfl ?_
                      refine g_bipush X dX11_best_282 bi_10 ?_
                      refine g_isub X dX11_best_284 ?_
                      refine g_iald X (n := 6) (k := 163) k_163 s_163 dX11_best_285 (fun h28 => ?_)
                      exact g_iret X hr rfl dX11_best_286
                    · refine g_iload X dX11_best_271 3 rfl ?_
                      refine g_goto X 286 (by decide) dX11_best_273 ?_
                      exact g_iret X hr rfl dX11_best_286
                  · refine g_iload X dX11_best_262 2 rfl ?_
                    exact g_iret X hr rfl dX11_best_264
                · refine g_aload_n X dX11_best_250 0 rfl rfl ?_
                  refine g_bipush X dX11_best_251 bi_m5 ?_
                  refine g_cs X (st := []) (fun _ hh => ok_V X (k0 := 138) (As := [.int (-5)]) wkX11_no (tm_no M27 (-5) hh) rfl k_138 s_138 (by decide) rfl m_5_150 rfl (hRm (by decide) (by decide)) ⟨Nat.zero_le _, Nat.zero_le _⟩ (Nat.le_of_ble_eq_true rfl) dX11_best_253) (fun r30 M29 _ => ?_)
                  exact g_iret X hr rfl dX11_best_256
          refine g_if_eq X 73 (by decide) dX11_best_40 (fun q40 => ?_) (fun q40 => ?_)
          · exact hJ73 ()
          · refine g_iload X dX11_best_43 3 rfl ?_
            refine g_iconst X dX11_best_45 ic_1 ?_
            refine g_icmp_eq X 73 (by decide) dX11_best_46 (fun q46 => ?_) (fun q46 => ?_)
            · exact hJ73 ()
            · refine g_iload X dX11_best_49 3 rfl ?_
              refine g_bipush X dX11_best_51 bi_10 ?_
              refine g_icmp_lt X 66 (by decide) dX11_best_53 (fun q53 => ?_) (fun q53 => ?_)
              · refine g_aload_n X dX11_best_66 0 rfl rfl ?_
                refine g_bipush X dX11_best_67 bi_m2 ?_
                refine g_cs X (st := []) (fun _ hh => ok_V X (k0 := 138) (As := [.int (-2)]) wkX11_no (tm_no M1 (-2) hh) rfl k_138 s_138 (by decide) rfl m_5_150 rfl (hRm (by decide) (by decide)) ⟨Nat.zero_le _, Nat.zero_le _⟩ (Nat.le_of_ble_eq_true rfl) dX11_best_69) (fun r32 M31 _ => ?_)
                exact g_iret X hr rfl dX11_best_72
              · refine g_iload X dX11_best_56 3 rfl ?_
                refine g_bipush X dX11_best_58 bi_10 ?_
                refine g_iload X dX11_best_60 4 rfl ?_
                refine g_iadd X dX11_best_62 ?_
                refine g_icmp_lt X 73 (by decide) dX11_best_63 (fun q63 => ?_) (fun q63 => ?_)
                · exact hJ73 ()
                · refine g_aload_n X dX11_best_66 0 rfl rfl ?_
                  refine g_bipush X dX11_best_67 bi_m2 ?_
                  refine g_cs X (st := []) (fun _ hh => ok_V X (k0 := 138) (As := [.int (-2)]) wkX11_no (tm_no M1 (-2) hh) rfl k_138 s_138 (by decide) rfl m_5_150 rfl (hRm (by decide) (by decide)) ⟨Nat.zero_le _, Nat.zero_le _⟩ (Nat.le_of_ble_eq_true rfl) dX11_best_69) (fun r34 M33 _ => ?_)
                  exact g_iret X hr rfl dX11_best_72
        · refine g_aload_n X dX11_best_31 0 rfl rfl ?_
          refine g_bipush X dX11_best_32 bi_m2 ?_
          refine g_cs X (st := []) (fun _ hh => ok_V X (k0 := 138) (As := [.int (-2)]) wkX11_no (tm_no M1 (-2) hh) rfl k_138 s_138 (by decide) rfl m_5_150 rfl (hRm (by decide) (by decide)) ⟨Nat.zero_le _, Nat.zero_le _⟩ (Nat.le_of_ble_eq_true rfl) dX11_best_34) (fun r36 M35 _ => ?_)
          exact g_iret X hr rfl dX11_best_37
set_option maxRecDepth 100000 in
set_option maxHeartbeats 4000000 in
theorem Lm_team_L95 {l : Launch} {D : va_G} {cy : Nat → ClassId} {ad : Nat → Nat} {N : Mem} {p : Program} {e : Env} {s : State} {m : MethodId} {args : Array Value} {below : List Frame} {meth : Method} {c : Code} (X : Cx p s m args meth c cX11_team 15 RX11 D cy ad (AA ad) (wfM N) sdM) (hr : meth.sig.returnType = (some .int)) (M : Mem) (b2 : Int32) (b3 : Int32) (b4 : Int32) (b5 : Int32) (kx119 : Int32 → Option (Int32 × Mem)) (hkx119 : ∀ (y6 : Int32), GF p l e (Rm 6) s m args below meth c 15 D cy ad (AA ad) 0 0 (wfM N) (QM D cy ad (wfM N) below args s) finS (kx119 y6) 119 [(0, .ref (ad 138)), (2, .int b2), (3, .int b3), (4, .int b4), (5, .int b5), (6, .int y6)] [] M) : ∀ (n : Nat) (x6 : Int32) (x7 : Int32), GF p l e (Rm 6) s m args below meth c 15 D cy ad (AA ad) 0 0 (wfM N) (QM D cy ad (wfM N) below args s) finS (fm_team_L95 M b2 b3 b4 b5 kx119 n x6 x7) 95 [(0, .ref (ad 138)), (2, .int b2), (3, .int b3), (4, .int b4), (5, .int b5), (6, .int x6), (7, .int x7)] [] M := by
  intro n
  induction n with
  | zero => intro x6 x7; exact g_none
  | succ n ih =>
    intro x6 x7
    rw [fm_team_L95]
    refine g_iload X dX11_team_95 6 rfl ?_
    refine g_iload X dX11_team_97 4 rfl ?_
    refine g_icmp_ge X 119 (by decide) dX11_team_99 (fun q99 => ?_) (fun q99 => ?_)
    · refine g_sub (lu := [(0, .ref (ad 138)), (2, .int b2), (3, .int b3), (4, .int b4), (5, .int b5), (6, .int x6)]) [0, 1, 2, 3, 4, 5] rfl ?_
      exact hkx119 x6
    · refine g_iload X dX11_team_102 5 rfl ?_
      refine g_aload_n X dX11_team_104 0 rfl rfl ?_
      refine get_11_18 X (k := 138) k_138 s_138 m_5_75 dX11_team_105 ?_
      refine g_iconst X dX11_team_108 ic_2 ?_
      refine g_ialdC X (n := 9) (k := 156) k_156 s_156 (by decide) dX11_team_109 ?_
      refine g_imul X dX11_team_110 ?_
      refine g_ilet X (fun v11 => ?_)
      refine g_istore X dX11_team_111 (by decide) rfl [1, 2, 3, 4, 5, 0, 6] (lu := [(0, .ref (ad 138)), (2, .int b2), (3, .int b3), (4, .int b4), (5, .int b5), (6, .int v11), (7, .int x7)]) rfl ?_
      refine g_iinc X (k := 6) (v := (x7 + 1)) dX11_team_113 rfl (ii_1 _) (by decide) rfl [1, 2, 3, 4, 5, 6, 0] (lu := [(0, .ref (ad 138)), (2, .int b2), (3, .int b3), (4, .int b4), (5, .int b5), (6, .int v11), (7, .int (x7 + 1))]) rfl ?_
      refine g_goto X 95 (by decide) dX11_team_116 ?_
      exact ih v11 (x7 + 1)
set_option maxRecDepth 100000 in
set_option maxHeartbeats 4000000 in
theorem Lm_team_L148 {l : Launch} {D : va_G} {cy : Nat → ClassId} {ad : Nat → Nat} {N : Mem} {p : Program} {e : Env} {s : State} {m : MethodId} {args : Array Value} {below : List Frame} {meth : Method} {c : Code} (X : Cx p s m args meth c cX11_team 15 RX11 D cy ad (AA ad) (wfM N) sdM) (hr : meth.sig.returnType = (some .int)) (b2 : Int32) (b3 : Int32) (b4 : Int32) (b5 : Int32) (b6 : Int32) (b7 : Int32) (b8 : Int32) (kx220 : Int64 → Int32 → Mem → Option (Int32 × Mem)) (hkx220 : ∀ (y10 : Int64) (y12 : Int32) (M : Mem), GF p l e (Rm 6) s m args below meth c 15 D cy ad (AA ad) 0 0 (wfM N) (QM D cy ad (wfM N) below args s) finS (kx220 y10 y12 M) 220 [(0, .ref (ad 138)), (2, .int b2), (3, .int b3), (4, .int b4), (5, .int b5), (6, .int b6), (7, .int b7), (8, .int b8), (10, .long y10), (12, .int y12)] [] M) : ∀ (n : Nat) (x9 : Int32) (x10 : Int64) (x12 : Int32) (x13 : Int32) (M : Mem), GF p l e (Rm 6) s m args below meth c 15 D cy ad (AA ad) 0 0 (wfM N) (QM D cy ad (wfM N) below args s) finS (fm_team_L148 b2 b3 b4 b5 b6 b7 b8 kx220 n x9 x10 x12 x13 M) 148 [(0, .ref (ad 138)), (2, .int b2), (3, .int b3), (4, .int b4), (5, .int b5), (6, .int b6), (7, .int b7), (8, .int b8), (9, .int x9), (10, .long x10), (12, .int x12), (13, .int x13)] [] M := by
  intro n
  induction n with
  | zero => intro x9 x10 x12 x13 M; exact g_none
  | succ n ih =>
    intro x9 x10 x12 x13 M
    rw [fm_team_L148]
    refine g_iload X dX11_team_148 11 rfl ?_
    refine g_if_lt X 220 (by decide) dX11_team_150 (fun q150 => ?_) (fun q150 => ?_)
    · refine g_sub (lu := [(0, .ref (ad 138)), (2, .int b2), (3, .int b3), (4, .int b4), (5, .int b5), (6, .int b6), (7, .int b7), (8, .int b8), (10, .long x10), (12, .int x12)]) [0, 1, 2, 3, 4, 5, 6, 7, 9, 10] rfl ?_
      exact hkx220 x10 x12 M
    · refine g_iload X dX11_team_153 8 rfl ?_
      refine g_aload_n X dX11_team_155 0 rfl rfl ?_
      refine get_11_18 X (k := 138) k_138 s_138 m_5_75 dX11_team_156 ?_
      refine g_iconst X dX11_team_159 ic_2 ?_
      refine g_ialdC X (n := 9) (k := 156) k_156 s_156 (by decide) dX11_team_160 ?_
      refine g_irem X dX11_team_161 (fun _ => ?_)
      refine g_ilet X (fun v15 => ?_)
      refine g_istore X dX11_team_162 (by decide) rfl [1, 2, 3, 4, 5, 6, 7, 8, 9, 10, 11, 12, 0] (lu := [(0, .ref (ad 138)), (2, .int b2), (3, .int b3), (4, .int b4), (5, .int b5), (6, .int b6), (7, .int b7), (8, .int b8), (9, .int x9), (10, .long x10), (12, .int x12), (13, .int x13), (14, .int v15)]) rfl ?_
      refine g_iload X dX11_team_164 8 rfl ?_
      refine g_aload_n X dX11_team_166 0 rfl rfl ?_
      refine get_11_18 X (k := 138) k_138 s_138 m_5_75 dX11_team_167 ?_
      refine g_iconst X dX11_team_170 ic_2 ?_
      refine g_ialdC X (n := 9) (k := 156) k_156 s_156 (by decide) dX11_team_171 ?_
      refine g_idiv X dX11_team_172 (fun _ => ?_)
      refine g_ilet X (fun v17 => ?_)
      refine g_istore X dX11_team_173 (by decide) rfl [1, 2, 3, 4, 5, 6, 7, 8, 0, 9, 10, 11, 12] (lu := [(0, .ref (ad 138)), (2, .int b2), (3, .int b3), (4, .int b4), (5, .int b5), (6, .int b6), (7, .int b7), (8, .int b8), (9, .int v17), (10, .long x10), (12, .int x12), (13, .int x13), (14, .int v15)]) rfl ?_
      refine g_aload_n X dX11_team_175 0 rfl rfl ?_
      refine get_11_24 X (k := 138) k_138 s_138 m_5_81 dX11_team_176 ?_
      refine g_iload X dX11_team_179 11 rfl ?_
      refine g_iload X dX11_team_181 12 rfl ?_
      refine g_iast X (n := 6) (k := 161) k_161 s_161 dX11_team_183 (fun h18 => ?_)
      refine g_mlet X (fun M19 => ?_)
      refine g_lload X dX11_team_184 9 rfl ?_
      refine g_lconst X (v := 1) dX11_team_186 (by decide) ?_
      refine g_iconst X dX11_team_187 ic_4 ?_
      refine g_iload X dX11_team_188 12 rfl ?_
      refine g_imul X dX11_team_190 ?_
      refine g_lshl X dX11_team_191 ?_
      refine g_ladd X dX11_team_192 ?_
      refine g_llet X (fun v20 => ?_)
      refine g_lstore X dX11_team_193 (by decide) rfl [1, 2, 3, 4, 5, 6, 7, 8, 9, 0, 10, 11, 12] (lu := [(0, .ref (ad 138)), (2, .int b2), (3, .int b3), (4, .int b4), (5, .int b5), (6, .int b6), (7, .int b7), (8, .int b8), (9, .int v17), (10, .long v20), (12, .int x12), (13, .int x13), (14, .int v15)]) rfl ?_
      refine g_iload X dX11_team_195 10 rfl ?_
      refine g_aload_n X dX11_team_197 0 rfl rfl ?_
      refine g_iload X dX11_team_198 12 rfl ?_
      refine g_aload_n X dX11_team_200 0 rfl rfl ?_
      refine get_11_25 X (k := 138) k_138 s_138 m_5_82 dX11_team_201 ?_
      refine g_iload X dX11_team_204 11 rfl ?_
      refine g_iald X (n := 6) (k := 162) k_162 s_162 dX11_team_206 (fun h21 => ?_)
      refine g_iload_n X dX11_team_207 2 rfl rfl ?_
      refine g_ci X (st := [.int x12]) (fun _ hh => ok_V X (k0 := 138) (As := [.int v15, .int (M19.1 162 (ix x13)), .int b3]) wkX11_riskOf (tm_riskOf M19 v15 (M19.1 162 (ix x13)) b3 hh) rfl k_138 s_138 (by decide) rfl m_6_114 rfl (hRm (by decide) (by decide)) ⟨Nat.zero_le _, Nat.zero_le _⟩ (Nat.le_of_ble_eq_true rfl) dX11_team_208) (fun r22 _ => ?_)
      refine g_iadd X dX11_team_211 ?_
      refine g_ilet X (fun v23 => ?_)
      refine g_istore X dX11_team_212 (by decide) rfl [1, 2, 3, 4, 5, 6, 7, 8, 9, 10, 0, 11] (lu := [(0, .ref (ad 138)), (2, .int b2), (3, .int b3), (4, .int b4), (5, .int b5), (6, .int b6), (7, .int b7), (8, .int b8), (9, .int v17), (10, .long v20), (12, .int v23), (13, .int x13)]) rfl ?_
      refine g_iinc X (k := 11) (v := (x13 + (-1))) dX11_team_214 rfl (ii_m1 _) (by decide) rfl [1, 2, 3, 4, 5, 6, 7, 8, 9, 10, 11, 0] (lu := [(0, .ref (ad 138)), (2, .int b2), (3, .int b3), (4, .int b4), (5, .int b5), (6, .int b6), (7, .int b7), (8, .int b8), (9, .int v17), (10, .long v20), (12, .int v23), (13, .int (x13 + (-1)))]) rfl ?_
      refine g_goto X 148 (by decide) dX11_team_217 ?_
      exact ih v17 v20 v23 (x13 + (-1)) M19
set_option maxRecDepth 100000 in
set_option maxHeartbeats 4000000 in
theorem Lm_team_L242 {l : Launch} {D : va_G} {cy : Nat → ClassId} {ad : Nat → Nat} {N : Mem} {p : Program} {e : Env} {s : State} {m : MethodId} {args : Array Value} {below : List Frame} {meth : Method} {c : Code} (X : Cx p s m args meth c cX11_team 15 RX11 D cy ad (AA ad) (wfM N) sdM) (hr : meth.sig.returnType = (some .int)) (M : Mem) (b2 : Int32) (b3 : Int32) (b4 : Int32) (b5 : Int32) (b6 : Int32) (b7 : Int32) (b8 : Int32) (b10 : Int64) (b12 : Int32) (kx284 : Int32 → Option (Int32 × Mem)) (hkx284 : ∀ (y13 : Int32), GF p l e (Rm 6) s m args below meth c 15 D cy ad (AA ad) 0 0 (wfM N) (QM D cy ad (wfM N) below args s) finS (kx284 y13) 284 [(0, .ref (ad 138)), (2, .int b2), (3, .int b3), (4, .int b4), (5, .int b5), (6, .int b6), (7, .int b7), (8, .int b8), (12, .int b12), (13, .int y13)] [] M) : ∀ (n : Nat) (x13 : Int32) (x14 : Int32), GF p l e (Rm 6) s m args below meth c 15 D cy ad (AA ad) 0 0 (wfM N) (QM D cy ad (wfM N) below args s) finS (fm_team_L242 M b2 b3 b4 b5 b6 b7 b8 b10 b12 kx284 n x13 x14) 242 [(0, .ref (ad 138)), (2, .int b2), (3, .int b3), (4, .int b4), (5, .int b5), (6, .int b6), (7, .int b7), (8, .int b8), (10, .long b10), (12, .int b12), (13, .int x13), (14, .int x14)] [] M := by
  intro n
  induction n with
  | zero => intro x13 x14; exact g_none
  | succ n ih =>
    intro x13 x14
    rw [fm_team_L242]
    refine g_iload X dX11_team_242 11 rfl ?_
    refine g_aload_n X dX11_team_244 0 rfl rfl ?_
    refine get_11_18 X (k := 138) k_138 s_138 m_5_75 dX11_team_245 ?_
    refine g_iconst X dX11_team_248 ic_2 ?_
    refine g_ialdC X (n := 9) (k := 156) k_156 s_156 (by decide) dX11_team_249 ?_
    refine g_icmp_ge X 284 (by decide) dX11_team_250 (fun q250 => ?_) (fun q250 => ?_)
    · refine g_sub (lu := [(0, .ref (ad 138)), (2, .int b2), (3, .int b3), (4, .int b4), (5, .int b5), (6, .int b6), (7, .int b7), (8, .int b8), (12, .int b12), (13, .int x13)]) [0, 1, 2, 3, 4, 5, 6, 7, 9, 10] rfl ?_
      exact hkx284 x13
    · refine g_iload X dX11_team_253 10 rfl ?_
      refine g_if_eq X 284 (by decide) dX11_team_255 (fun q255 => ?_) (fun q255 => ?_)
      · refine g_sub (lu := [(0, .ref (ad 138)), (2, .int b2), (3, .int b3), (4, .int b4), (5, .int b5), (6, .int b6), (7, .int b7), (8, .int b8), (12, .int b12), (13, .int x13)]) [0, 1, 2, 3, 4, 5, 6, 7, 9, 10] rfl ?_
        exact hkx284 x13
      · refine g_lload X dX11_team_258 8 rfl ?_
        refine g_iconst X dX11_team_260 ic_4 ?_
        refine g_iload X dX11_team_261 11 rfl ?_
        refine g_imul X dX11_team_263 ?_
        refine g_lshr X dX11_team_264 ?_
        refine g_ldc2 X dX11_team_265 m_6_170 ?_
        refine g_land X dX11_team_268 ?_
        refine g_iload_n X dX11_team_269 1 rfl rfl ?_
        refine g_i2l X dX11_team_270 ?_
        refine g_lcmp X dX11_team_271 ?_
        refine g_jlet X 278 (fun z278 : Int32 => [(0, .ref (ad 138)), (2, .int b2), (3, .int b3), (4, .int b4), (5, .int b5), (6, .int b6), (7, .int b7), (8, .int b8), (10, .long b10), (12, .int b12), (13, .int z278), (14, .int x14)]) (fun z278 : Int32 => []) (fun z278 : Int32 => M) (fun z278 => ?_) (fun J278 hJ278 => ?_)
        · show GF _ _ _ _ _ _ _ _ _ _ _ _ _ _ _ _ _ _ _ _ _ 278 [(0, .ref (ad 138)), (2, .int b2), (3, .int b3), (4, .int b4), (5, .int b5), (6, .int b6), (7, .int b7), (8, .int b8), (10, .long b10), (12, .int b12), (13, .int z278), (14, .int x14)] [] M
          refine g_iinc X (k := 11) (v := (x14 + 1)) dX11_team_278 rfl (ii_1 _) (by decide) rfl [1, 2, 3, 4, 5, 6, 7, 8, 9, 10, 11, 0] (lu := [(0, .ref (ad 138)), (2, .int b2), (3, .int b3), (4, .int b4), (5, .int b5), (6, .int b6), (7, .int b7), (8, .int b8), (10, .long b10), (12, .int b12), (13, .int z278), (14, .int (x14 + 1))]) rfl ?_
          refine g_goto X 242 (by decide) dX11_team_281 ?_
          exact ih z278 (x14 + 1)
        refine g_if_le X 278 (by decide) dX11_team_272 (fun q272 => ?_) (fun q272 => ?_)
        · exact hJ278 x13
        · refine g_iconst X dX11_team_275 ic_0 ?_
          refine g_istore X dX11_team_276 (by decide) rfl [1, 2, 3, 4, 5, 6, 7, 8, 9, 10, 0, 11] (lu := [(0, .ref (ad 138)), (2, .int b2), (3, .int b3), (4, .int b4), (5, .int b5), (6, .int b6), (7, .int b7), (8, .int b8), (10, .long b10), (12, .int b12), (13, .int 0), (14, .int x14)]) rfl ?_
          exact hJ278 0
set_option maxRecDepth 100000 in
set_option maxHeartbeats 4000000 in
theorem Lm_team_L299 {l : Launch} {D : va_G} {cy : Nat → ClassId} {ad : Nat → Nat} {N : Mem} {p : Program} {e : Env} {s : State} {m : MethodId} {args : Array Value} {below : List Frame} {meth : Method} {c : Code} (X : Cx p s m args meth c cX11_team 15 RX11 D cy ad (AA ad) (wfM N) sdM) (hr : meth.sig.returnType = (some .int)) (b2 : Int32) (b3 : Int32) (b4 : Int32) (b5 : Int32) (b6 : Int32) (b7 : Int32) (b8 : Int32) (kx326 : Mem → Option (Int32 × Mem)) (hkx326 : ∀ (M : Mem), GF p l e (Rm 6) s m args below meth c 15 D cy ad (AA ad) 0 0 (wfM N) (QM D cy ad (wfM N) below args s) finS (kx326 M) 326 [(0, .ref (ad 138)), (2, .int b2), (3, .int b3), (4, .int b4), (5, .int b5), (6, .int b6), (7, .int b7), (8, .int b8)] [] M) : ∀ (n : Nat) (x14 : Int32) (M : Mem), GF p l e (Rm 6) s m args below meth c 15 D cy ad (AA ad) 0 0 (wfM N) (QM D cy ad (wfM N) below args s) finS (fm_team_L299 b2 b3 b4 b5 b6 b7 b8 kx326 n x14 M) 299 [(0, .ref (ad 138)), (2, .int b2), (3, .int b3), (4, .int b4), (5, .int b5), (6, .int b6), (7, .int b7), (8, .int b8), (14, .int x14)] [] M := by
  intro n
  induction n with
  | zero => intro x14 M; exact g_none
  | succ n ih =>
    intro x14 M
    rw [fm_team_L299]
    refine g_iload X dX11_team_299 8 rfl ?_
    refine g_iload X dX11_team_301 4 rfl ?_
    refine g_icmp_ge X 326 (by decide) dX11_team_303 (fun q303 => ?_) (fun q303 => ?_)
    · refine g_sub (lu := [(0, .ref (ad 138)), (2, .int b2), (3, .int b3), (4, .int b4), (5, .int b5), (6, .int b6), (7, .int b7), (8, .int b8)]) [0, 1, 2, 3, 4, 5, 6, 7] rfl ?_
      exact hkx326 M
    · refine g_aload_n X dX11_team_306 0 rfl rfl ?_
      refine get_11_26 X (k := 138) k_138 s_138 m_5_83 dX11_team_307 ?_
      refine g_iload X dX11_team_310 8 rfl ?_
      refine g_aload_n X dX11_team_312 0 rfl rfl ?_
      refine get_11_24 X (k := 138) k_138 s_138 m_5_81 dX11_team_313 ?_
      refine g_iload X dX11_team_316 8 rfl ?_
      refine g_iald X (n := 6) (k := 161) k_161 s_161 dX11_team_318 (fun h29 => ?_)
      refine g_iast X (n := 6) (k := 163) k_163 s_163 dX11_team_319 (fun h30 => ?_)
      refine g_mlet X (fun M31 => ?_)
      refine g_iinc X (k := 8) (v := (x14 + 1)) dX11_team_320 rfl (ii_1 _) (by decide) rfl [1, 2, 3, 4, 5, 6, 7, 8, 0] (lu := [(0, .ref (ad 138)), (2, .int b2), (3, .int b3), (4, .int b4), (5, .int b5), (6, .int b6), (7, .int b7), (8, .int b8), (14, .int (x14 + 1))]) rfl ?_
      refine g_goto X 299 (by decide) dX11_team_323 ?_
      exact ih (x14 + 1) M31
set_option maxRecDepth 100000 in
set_option maxHeartbeats 4000000 in
theorem Lm_team_L125 {l : Launch} {D : va_G} {cy : Nat → ClassId} {ad : Nat → Nat} {N : Mem} {p : Program} {e : Env} {s : State} {m : MethodId} {args : Array Value} {below : List Frame} {meth : Method} {c : Code} (X : Cx p s m args meth c cX11_team 15 RX11 D cy ad (AA ad) (wfM N) sdM) (hr : meth.sig.returnType = (some .int)) (b2 : Int32) (b3 : Int32) (b4 : Int32) (b5 : Int32) (b6 : Int32) (kx332 : Int32 → Mem → Option (Int32 × Mem)) (hkx332 : ∀ (y7 : Int32) (M : Mem), GF p l e (Rm 6) s m args below meth c 15 D cy ad (AA ad) 0 0 (wfM N) (QM D cy ad (wfM N) below args s) finS (kx332 y7 M) 332 [(0, .ref (ad 138)), (4, .int b4), (5, .int b5), (7, .int y7)] [] M) : ∀ (n : Nat) (x7 : Int32) (x8 : Int32) (M : Mem), GF p l e (Rm 6) s m args below meth c 15 D cy ad (AA ad) 0 0 (wfM N) (QM D cy ad (wfM N) below args s) finS (fm_team_L125 b2 b3 b4 b5 b6 kx332 n x7 x8 M) 125 [(0, .ref (ad 138)), (2, .int b2), (3, .int b3), (4, .int b4), (5, .int b5), (6, .int b6), (7, .int x7), (8, .int x8)] [] M := by
  intro n
  induction n with
  | zero => intro x7 x8 M; exact g_none
  | succ n ih =>
    intro x7 x8 M
    rw [fm_team_L125]
    refine g_iload X dX11_team_125 7 rfl ?_
    refine g_iload X dX11_team_127 5 rfl ?_
    refine g_icmp_ge X 332 (by decide) dX11_team_129 (fun q129 => ?_) (fun q129 => ?_)
    · refine g_sub (lu := [(0, .ref (ad 138)), (4, .int b4), (5, .int b5), (7, .int x7)]) [0, 3, 4, 6] rfl ?_
      exact hkx332 x7 M
    · refine g_iload X dX11_team_132 7 rfl ?_
      refine g_istore X dX11_team_134 (by decide) rfl [1, 2, 3, 4, 5, 6, 7, 8, 0] (lu := [(0, .ref (ad 138)), (2, .int b2), (3, .int b3), (4, .int b4), (5, .int b5), (6, .int b6), (7, .int x7), (8, .int x8), (9, .int x8)]) rfl ?_
      refine g_lconst X (v := 0) dX11_team_136 (by decide) ?_
      refine g_lstore X dX11_team_137 (by decide) rfl [1, 2, 3, 4, 5, 6, 7, 8, 9, 0] (lu := [(0, .ref (ad 138)), (2, .int b2), (3, .int b3), (4, .int b4), (5, .int b5), (6, .int b6), (7, .int x7), (8, .int x8), (9, .int x8), (10, .long 0)]) rfl ?_
      refine g_iconst X dX11_team_139 ic_0 ?_
      refine g_istore X dX11_team_140 (by decide) rfl [1, 2, 3, 4, 5, 6, 7, 8, 9, 10, 0] (lu := [(0, .ref (ad 138)), (2, .int b2), (3, .int b3), (4, .int b4), (5, .int b5), (6, .int b6), (7, .int x7), (8, .int x8), (9, .int x8), (10, .long 0), (12, .int 0)]) rfl ?_
      refine g_iload X dX11_team_142 4 rfl ?_
      refine g_iconst X dX11_team_144 ic_1 ?_
      refine g_isub X dX11_team_145 ?_
      refine g_ilet X (fun v13 => ?_)
      refine g_istore X dX11_team_146 (by decide) rfl [1, 2, 3, 4, 5, 6, 7, 8, 9, 10, 11, 0] (lu := [(0, .ref (ad 138)), (2, .int b2), (3, .int b3), (4, .int b4), (5, .int b5), (6, .int b6), (7, .int x7), (8, .int x8), (9, .int x8), (10, .long 0), (12, .int 0), (13, .int v13)]) rfl ?_
      refine Lm_team_L148  X hr b2 b3 b4 b5 b6 x7 x8  _ (fun w24 w25 M26 => ?_) FU x8 0 0 v13 M
      · refine g_iload X dX11_team_220 6 rfl ?_
        refine g_jlet X 237 (fun z237 : Int32 => [(0, .ref (ad 138)), (2, .int b2), (3, .int b3), (4, .int b4), (5, .int b5), (6, .int b6), (7, .int x7), (8, .int x8), (10, .long w24), (12, .int w25)]) (fun z237 : Int32 => [.int z237]) (fun z237 : Int32 => M26) (fun z237 => ?_) (fun J237 hJ237 => ?_)
        · show GF _ _ _ _ _ _ _ _ _ _ _ _ _ _ _ _ _ _ _ _ _ 237 [(0, .ref (ad 138)), (2, .int b2), (3, .int b3), (4, .int b4), (5, .int b5), (6, .int b6), (7, .int x7), (8, .int x8), (10, .long w24), (12, .int w25)] [.int z237] M26
          refine g_istore X dX11_team_237 (by decide) rfl [1, 2, 3, 4, 5, 6, 7, 8, 9, 10, 0] (lu := [(0, .ref (ad 138)), (2, .int b2), (3, .int b3), (4, .int b4), (5, .int b5), (6, .int b6), (7, .int x7), (8, .int x8), (10, .long w24), (12, .int w25), (13, .int z237)]) rfl ?_
          refine g_iconst X dX11_team_239 ic_0 ?_
          refine g_istore X dX11_team_240 (by decide) rfl [1, 2, 3, 4, 5, 6, 7, 8, 9, 10, 11, 0] (lu := [(0, .ref (ad 138)), (2, .int b2), (3, .int b3), (4, .int b4), (5, .int b5), (6, .int b6), (7, .int x7), (8, .int x8), (10, .long w24), (12, .int w25), (13, .int z237), (14, .int 0)]) rfl ?_
          refine Lm_team_L242  X hr M26 b2 b3 b4 b5 b6 x7 x8 w24 w25  _ (fun w28 => ?_) FU z237 0
          · refine g_iload X dX11_team_284 9 rfl ?_
            refine g_jlet X 326 (fun z326 : Int32 × Mem => [(0, .ref (ad 138)), (2, .int b2), (3, .int b3), (4, .int b4), (5, .int b5), (6, .int b6), (7, .int (z326.1)), (8, .int x8)]) (fun z326 : Int32 × Mem => []) (fun z326 : Int32 × Mem => (z326.2)) (fun z326 => ?_) (fun J326 hJ326 => ?_)
            · show GF _ _ _ _ _ _ _ _ _ _ _ _ _ _ _ _ _ _ _ _ _ 326 [(0, .ref (ad 138)), (2, .int b2), (3, .int b3), (4, .int b4), (5, .int b5), (6, .int b6), (7, .int (z326.1)), (8, .int x8)] [] (z326.2)
              refine g_iinc X (k := 7) (v := (x8 + 1)) dX11_team_326 rfl (ii_1 _) (by decide) rfl [1, 2, 3, 4, 5, 6, 7, 0] (lu := [(0, .ref (ad 138)), (2, .int b2), (3, .int b3), (4, .int b4), (5, .int b5), (6, .int b6), (7, .int (z326.1)), (8, .int (x8 + 1))]) rfl ?_
              refine g_goto X 125 (by decide) dX11_team_329 ?_
              exact ih (z326.1) (x8 + 1) (z326.2)
            refine g_if_ne X 292 (by decide) dX11_team_286 (fun q286 => ?_) (fun q286 => ?_)
            · refine g_iload X dX11_team_292 8 rfl ?_
              refine g_istore X dX11_team_294 (by decide) rfl [1, 2, 3, 4, 5, 6, 0, 7] (lu := [(0, .ref (ad 138)), (2, .int b2), (3, .int b3), (4, .int b4), (5, .int b5), (6, .int b6), (7, .int w25), (8, .int x8)]) rfl ?_
              refine g_iconst X dX11_team_296 ic_0 ?_
              refine g_istore X dX11_team_297 (by decide) rfl [1, 2, 3, 4, 5, 6, 7, 8, 0] (lu := [(0, .ref (ad 138)), (2, .int b2), (3, .int b3), (4, .int b4), (5, .int b5), (6, .int b6), (7, .int w25), (8, .int x8), (14, .int 0)]) rfl ?_
              refine Lm_team_L299  X hr b2 b3 b4 b5 b6 w25 x8  _ (fun M32 => ?_) FU 0 M26
              · exact hJ326 (w25, M32)
            · refine g_goto X 326 (by decide) dX11_team_289 ?_
              refine g_sub (lu := [(0, .ref (ad 138)), (2, .int b2), (3, .int b3), (4, .int b4), (5, .int b5), (6, .int b6), (7, .int x7), (8, .int x8)]) [0, 1, 2, 3, 4, 5, 6, 7] rfl ?_
              exact hJ326 (x7, M26)
        refine g_jlet X 232 (fun z232 : Unit => [(0, .ref (ad 138)), (2, .int b2), (3, .int b3), (4, .int b4), (5, .int b5), (6, .int b6), (7, .int x7), (8, .int x8), (10, .long w24), (12, .int w25)]) (fun z232 : Unit => []) (fun z232 : Unit => M26) (fun z232 => ?_) (fun J232 hJ232 => ?_)
        · show GF _ _ _ _ _ _ _ _ _ _ _ _ _ _ _ _ _ _ _ _ _ 232 [(0, .ref (ad 138)), (2, .int b2), (3, .int b3), (4, .int b4), (5, .int b5), (6, .int b6), (7, .int x7), (8, .int x8), (10, .long w24), (12, .int w25)] [] M26
          refine g_iconst X dX11_team_232 ic_1 ?_
          refine g_goto X 237 (by decide) dX11_team_233 ?_
          exact hJ237 1
        refine g_if_lt X 232 (by decide) dX11_team_222 (fun q222 => ?_) (fun q222 => ?_)
        · exact hJ232 ()
        · refine g_iload X dX11_team_225 9 rfl ?_
          refine g_iload X dX11_team_227 6 rfl ?_
          refine g_icmp_ge X 236 (by decide) dX11_team_229 (fun q229 => ?_) (fun q229 => ?_)
          · refine g_iconst X dX11_team_236 ic_0 ?_
            exact hJ237 0
          · exact hJ232 ()
set_option maxRecDepth 100000 in
set_option maxHeartbeats 4000000 in
theorem Lm_team_L346 {l : Launch} {D : va_G} {cy : Nat → ClassId} {ad : Nat → Nat} {N : Mem} {p : Program} {e : Env} {s : State} {m : MethodId} {args : Array Value} {below : List Frame} {meth : Method} {c : Code} (X : Cx p s m args meth c cX11_team 15 RX11 D cy ad (AA ad) (wfM N) sdM) (hr : meth.sig.returnType = (some .int)) (M : Mem) (b4 : Int32) (b5 : Int32) : ∀ (n : Nat) (x8 : Int32) (x9 : Int32), GF p l e (Rm 6) s m args below meth c 15 D cy ad (AA ad) 0 0 (wfM N) (QM D cy ad (wfM N) below args s) finS (fm_team_L346 M b4 b5 n x8 x9) 346 [(0, .ref (ad 138)), (4, .int b4), (5, .int b5), (8, .int x8), (9, .int x9)] [] M := by
  intro n
  induction n with
  | zero => intro x8 x9; exact g_none
  | succ n ih =>
    intro x8 x9
    rw [fm_team_L346]
    refine g_iload X dX11_team_346 4 rfl ?_
    refine g_iload X dX11_team_348 2 rfl ?_
    refine g_icmp_ge X 380 (by decide) dX11_team_350 (fun q350 => ?_) (fun q350 => ?_)
    · refine g_iload X dX11_team_380 3 rfl ?_
      exact g_iret X hr rfl dX11_team_382
    · refine g_aload_n X dX11_team_353 0 rfl rfl ?_
      refine get_11_25 X (k := 138) k_138 s_138 m_5_82 dX11_team_354 ?_
      refine g_iload X dX11_team_357 4 rfl ?_
      refine g_iald X (n := 6) (k := 162) k_162 s_162 dX11_team_359 (fun h35 => ?_)
      refine g_iload X dX11_team_360 1 rfl ?_
      refine g_jlet X 374 (fun z374 : Int32 => [(0, .ref (ad 138)), (4, .int b4), (5, .int b5), (8, .int z374), (9, .int x9)]) (fun z374 : Int32 => []) (fun z374 : Int32 => M) (fun z374 => ?_) (fun J374 hJ374 => ?_)
      · show GF _ _ _ _ _ _ _ _ _ _ _ _ _ _ _ _ _ _ _ _ _ 374 [(0, .ref (ad 138)), (4, .int b4), (5, .int b5), (8, .int z374), (9, .int x9)] [] M
        refine g_iinc X (k := 4) (v := (x9 + 1)) dX11_team_374 rfl (ii_1 _) (by decide) rfl [1, 2, 3, 4, 0] (lu := [(0, .ref (ad 138)), (4, .int b4), (5, .int b5), (8, .int z374), (9, .int (x9 + 1))]) rfl ?_
        refine g_goto X 346 (by decide) dX11_team_377 ?_
        exact ih z374 (x9 + 1)
      refine g_icmp_ne X 374 (by decide) dX11_team_362 (fun q362 => ?_) (fun q362 => ?_)
      · exact hJ374 x8
      · refine g_aload_n X dX11_team_365 0 rfl rfl ?_
        refine get_11_26 X (k := 138) k_138 s_138 m_5_83 dX11_team_366 ?_
        refine g_iload X dX11_team_369 4 rfl ?_
        refine g_iald X (n := 6) (k := 163) k_163 s_163 dX11_team_371 (fun h36 => ?_)
        refine g_ilet X (fun v37 => ?_)
        refine g_istore X dX11_team_372 (by decide) rfl [1, 2, 3, 0, 4] (lu := [(0, .ref (ad 138)), (4, .int b4), (5, .int b5), (8, .int v37), (9, .int x9)]) rfl ?_
        exact hJ374 v37
set_option maxRecDepth 100000 in
set_option maxHeartbeats 4000000 in
theorem tm_team {l : Launch} {D : va_G} {cy : Nat → ClassId} {ad : Nat → Nat} {N : Mem} (M : Mem) (a1 : Int32) (a2 : Int32) (a3 : Int32) (a4 : Int32) {x : (Int32 × Mem)} (h : fm_team M a1 a2 a3 a4 = some x) : Mt l D cy ad yX11_team cX11_team 15 (some .int) 6 [.ref (ad 138), .int a1, .int a2, .int a3, .int a4] ((wfM N) M) (some (.int x.1), (wfM N) x.2) := by
  refine met_of (fin := finS) (lv0 := [(0, .ref (ad 138)), (1, .int a1), (2, .int a2), (3, .int a3), (4, .int a4)]) (by decide) (Nat.le_of_ble_eq_true rfl) rfl (lM N) h (fun p e s m args below meth c X hr => ?_)
  unfold fm_team
  refine g_aload_n X dX11_team_0 0 rfl rfl ?_
  refine g_iload_n X dX11_team_1 1 rfl rfl ?_
  refine g_cs X (st := []) (fun _ hh => ok_V X (k0 := 138) (As := [.int a1]) wkX11_membersOf (tm_membersOf M a1 hh) rfl k_138 s_138 (by decide) rfl m_6_158 rfl (hRm (by decide) (by decide)) ⟨Nat.zero_le _, Nat.zero_le _⟩ (Nat.le_of_ble_eq_true rfl) dX11_team_2) (fun r2 M1 _ => ?_)
  refine g_istore X dX11_team_5 (by decide) rfl [1, 2, 3, 4, 5, 0] (lu := [(0, .ref (ad 138)), (1, .int a1), (2, .int a2), (3, .int a3), (4, .int a4), (5, .int r2)]) rfl ?_
  refine g_iload X dX11_team_7 5 rfl ?_
  refine g_if_lt X 31 (by decide) dX11_team_9 (fun q9 => ?_) (fun q9 => ?_)
  · refine g_aload_n X dX11_team_31 0 rfl rfl ?_
    refine g_bipush X dX11_team_32 bi_m2 ?_
    refine g_cs X (st := []) (fun _ hh => ok_V X (k0 := 138) (As := [.int (-2)]) wkX11_no (tm_no M1 (-2) hh) rfl k_138 s_138 (by decide) rfl m_5_150 rfl (hRm (by decide) (by decide)) ⟨Nat.zero_le _, Nat.zero_le _⟩ (Nat.le_of_ble_eq_true rfl) dX11_team_34) (fun r4 M3 _ => ?_)
    exact g_iret X hr rfl dX11_team_37
  · refine g_iload_n X dX11_team_12 2 rfl rfl ?_
    refine g_iconst X dX11_team_13 ic_1 ?_
    refine g_icmp_lt X 31 (by decide) dX11_team_14 (fun q14 => ?_) (fun q14 => ?_)
    · refine g_aload_n X dX11_team_31 0 rfl rfl ?_
      refine g_bipush X dX11_team_32 bi_m2 ?_
      refine g_cs X (st := []) (fun _ hh => ok_V X (k0 := 138) (As := [.int (-2)]) wkX11_no (tm_no M1 (-2) hh) rfl k_138 s_138 (by decide) rfl m_5_150 rfl (hRm (by decide) (by decide)) ⟨Nat.zero_le _, Nat.zero_le _⟩ (Nat.le_of_ble_eq_true rfl) dX11_team_34) (fun r6 M5 _ => ?_)
      exact g_iret X hr rfl dX11_team_37
    · refine g_iload_n X dX11_team_17 2 rfl rfl ?_
      refine g_bipush X dX11_team_18 bi_6 ?_
      refine g_icmp_gt X 31 (by decide) dX11_team_20 (fun q20 => ?_) (fun q20 => ?_)
      · refine g_aload_n X dX11_team_31 0 rfl rfl ?_
        refine g_bipush X dX11_team_32 bi_m2 ?_
        refine g_cs X (st := []) (fun _ hh => ok_V X (k0 := 138) (As := [.int (-2)]) wkX11_no (tm_no M1 (-2) hh) rfl k_138 s_138 (by decide) rfl m_5_150 rfl (hRm (by decide) (by decide)) ⟨Nat.zero_le _, Nat.zero_le _⟩ (Nat.le_of_ble_eq_true rfl) dX11_team_34) (fun r8 M7 _ => ?_)
        exact g_iret X hr rfl dX11_team_37
      · refine g_aload_n X dX11_team_23 0 rfl rfl ?_
        refine g_iload_n X dX11_team_24 3 rfl rfl ?_
        refine g_ct X (v0 := .int (fm_isHourT M1 a3)) (st := []) (ok_V X (k0 := 138) (As := [.int a3]) wkX11_isHour (tm_isHourT M1 a3) rfl k_138 s_138 (by decide) rfl m_6_22 rfl (hRm (by decide) (by decide)) ⟨Nat.zero_le _, Nat.zero_le _⟩ (Nat.le_of_ble_eq_true rfl) dX11_team_25) ?_
        refine g_if_ne X 38 (by decide) dX11_team_28 (fun q28 => ?_) (fun q28 => ?_)
        · refine g_iload X dX11_team_38 4 rfl ?_
          refine g_iconst X dX11_team_40 ic_m1 ?_
          refine g_jlet X 69 (fun z69 : Unit => [(0, .ref (ad 138)), (2, .int a2), (3, .int a3), (4, .int a4), (5, .int r2)]) (fun z69 : Unit => []) (fun z69 : Unit => M1) (fun z69 => ?_) (fun J69 hJ69 => ?_)
          · show GF _ _ _ _ _ _ _ _ _ _ _ _ _ _ _ _ _ _ _ _ _ 69 [(0, .ref (ad 138)), (2, .int a2), (3, .int a3), (4, .int a4), (5, .int r2)] [] M1
            refine g_aload_n X dX11_team_69 0 rfl rfl ?_
            refine get_11_18 X (k := 138) k_138 s_138 m_5_75 dX11_team_70 ?_
            refine g_iconst X dX11_team_73 ic_2 ?_
            refine g_ialdC X (n := 9) (k := 156) k_156 s_156 (by decide) dX11_team_74 ?_
            refine g_iload_n X dX11_team_75 1 rfl rfl ?_
            refine g_imul X dX11_team_76 ?_
            refine g_iload X dX11_team_77 4 rfl ?_
            refine g_icmp_ge X 89 (by decide) dX11_team_79 (fun q79 => ?_) (fun q79 => ?_)
            · refine g_iconst X dX11_team_89 ic_1 ?_
              refine g_istore X dX11_team_90 (by decide) rfl [1, 2, 3, 4, 5, 0] (lu := [(0, .ref (ad 138)), (2, .int a2), (3, .int a3), (4, .int a4), (5, .int r2), (6, .int 1)]) rfl ?_
              refine g_iconst X dX11_team_92 ic_0 ?_
              refine g_istore X dX11_team_93 (by decide) rfl [1, 2, 3, 4, 5, 6, 0] (lu := [(0, .ref (ad 138)), (2, .int a2), (3, .int a3), (4, .int a4), (5, .int r2), (6, .int 1), (7, .int 0)]) rfl ?_
              refine Lm_team_L95  X hr M1 a2 a3 a4 r2  _ (fun w12 => ?_) FU 1 0
              · refine g_iconst X dX11_team_119 ic_m1 ?_
                refine g_istore X dX11_team_120 (by decide) rfl [1, 2, 3, 4, 5, 6, 0] (lu := [(0, .ref (ad 138)), (2, .int a2), (3, .int a3), (4, .int a4), (5, .int r2), (6, .int w12), (7, .int (-1))]) rfl ?_
                refine g_iconst X dX11_team_122 ic_0 ?_
                refine g_istore X dX11_team_123 (by decide) rfl [1, 2, 3, 4, 5, 6, 7, 0] (lu := [(0, .ref (ad 138)), (2, .int a2), (3, .int a3), (4, .int a4), (5, .int r2), (6, .int w12), (7, .int (-1)), (8, .int 0)]) rfl ?_
                refine Lm_team_L125  X hr a2 a3 a4 r2 w12  _ (fun w33 M34 => ?_) FU (-1) 0 M1
                · refine g_iload X dX11_team_332 1 rfl ?_
                  refine g_if_ge X 340 (by decide) dX11_team_334 (fun q334 => ?_) (fun q334 => ?_)
                  · refine g_iconst X dX11_team_340 ic_m1 ?_
                    refine g_istore X dX11_team_341 (by decide) rfl [1, 2, 3, 0] (lu := [(0, .ref (ad 138)), (4, .int a4), (5, .int r2), (8, .int (-1))]) rfl ?_
                    refine g_iconst X dX11_team_343 ic_0 ?_
                    refine g_istore X dX11_team_344 (by decide) rfl [1, 2, 3, 4, 0] (lu := [(0, .ref (ad 138)), (4, .int a4), (5, .int r2), (8, .int (-1)), (9, .int 0)]) rfl ?_
                    exact Lm_team_L346  X hr M34 a4 r2    FU (-1) 0
                  · refine g_iload X dX11_team_337 3 rfl ?_
                    exact g_iret X hr rfl dX11_team_339
            · refine g_aload_n X dX11_team_82 0 rfl rfl ?_
              refine g_bipush X dX11_team_83 bi_m5 ?_
              refine g_cs X (st := []) (fun _ hh => ok_V X (k0 := 138) (As := [.int (-5)]) wkX11_no (tm_no M1 (-5) hh) rfl k_138 s_138 (by decide) rfl m_5_150 rfl (hRm (by decide) (by decide)) ⟨Nat.zero_le _, Nat.zero_le _⟩ (Nat.le_of_ble_eq_true rfl) dX11_team_85) (fun r39 M38 _ => ?_)
              exact g_iret X hr rfl dX11_team_88
          refine g_icmp_eq X 69 (by decide) dX11_team_41 (fun q41 => ?_) (fun q41 => ?_)
          · refine g_sub (lu := [(0, .ref (ad 138)), (2, .int a2), (3, .int a3), (4, .int a4), (5, .int r2)]) [0, 2, 3, 4, 5] rfl ?_
            exact hJ69 ()
          · refine g_aload_n X dX11_team_44 0 rfl rfl ?_
            refine g_iload X dX11_team_45 4 rfl ?_
            refine g_ct X (v0 := .int (fm_isJettyT M1 a4)) (st := []) (ok_V X (k0 := 138) (As := [.int a4]) wkX11_isJetty (tm_isJettyT M1 a4) rfl k_138 s_138 (by decide) rfl m_5_186 rfl (hRm (by decide) (by decide)) ⟨Nat.zero_le _, Nat.zero_le _⟩ (Nat.le_of_ble_eq_true rfl) dX11_team_47) ?_
            refine g_if_eq X 62 (by decide) dX11_team_50 (fun q50 => ?_) (fun q50 => ?_)
            · refine g_aload_n X dX11_team_62 0 rfl rfl ?_
              refine g_bipush X dX11_team_63 bi_m2 ?_
              refine g_cs X (st := []) (fun _ hh => ok_V X (k0 := 138) (As := [.int (-2)]) wkX11_no (tm_no M1 (-2) hh) rfl k_138 s_138 (by decide) rfl m_5_150 rfl (hRm (by decide) (by decide)) ⟨Nat.zero_le _, Nat.zero_le _⟩ (Nat.le_of_ble_eq_true rfl) dX11_team_65) (fun r41 M40 _ => ?_)
              exact g_iret X hr rfl dX11_team_68
            · refine g_iload_n X dX11_team_53 1 rfl rfl ?_
              refine g_iload X dX11_team_54 4 rfl ?_
              refine g_ishr X dX11_team_56 ?_
              refine g_iconst X dX11_team_57 ic_1 ?_
              refine g_iand X dX11_team_58 ?_
              refine g_if_ne X 69 (by decide) dX11_team_59 (fun q59 => ?_) (fun q59 => ?_)
              · refine g_sub (lu := [(0, .ref (ad 138)), (2, .int a2), (3, .int a3), (4, .int a4), (5, .int r2)]) [0, 2, 3, 4, 5] rfl ?_
                exact hJ69 ()
              · refine g_aload_n X dX11_team_62 0 rfl rfl ?_
                refine g_bipush X dX11_team_63 bi_m2 ?_
                refine g_cs X (st := []) (fun _ hh => ok_V X (k0 := 138) (As := [.int (-2)]) wkX11_no (tm_no M1 (-2) hh) rfl k_138 s_138 (by decide) rfl m_5_150 rfl (hRm (by decide) (by decide)) ⟨Nat.zero_le _, Nat.zero_le _⟩ (Nat.le_of_ble_eq_true rfl) dX11_team_65) (fun r43 M42 _ => ?_)
                exact g_iret X hr rfl dX11_team_68
        · refine g_aload_n X dX11_team_31 0 rfl rfl ?_
          refine g_bipush X dX11_team_32 bi_m2 ?_
          refine g_cs X (st := []) (fun _ hh => ok_V X (k0 := 138) (As := [.int (-2)]) wkX11_no (tm_no M1 (-2) hh) rfl k_138 s_138 (by decide) rfl m_5_150 rfl (hRm (by decide) (by decide)) ⟨Nat.zero_le _, Nat.zero_le _⟩ (Nat.le_of_ble_eq_true rfl) dX11_team_34) (fun r45 M44 _ => ?_)
          exact g_iret X hr rfl dX11_team_37
set_option maxRecDepth 100000 in
set_option maxHeartbeats 4000000 in
theorem Lm_safest_L44 {l : Launch} {D : va_G} {cy : Nat → ClassId} {ad : Nat → Nat} {N : Mem} {p : Program} {e : Env} {s : State} {m : MethodId} {args : Array Value} {below : List Frame} {meth : Method} {c : Code} (X : Cx p s m args meth c cX11_safest 5 RX11 D cy ad (AA ad) (wfM N) sdM) (hr : meth.sig.returnType = (some .int)) (M : Mem) (b1 : Int32) (b2 : Int32) : ∀ (n : Nat) (x3 : Int32) (x4 : Int32), GF p l e (Rm 6) s m args below meth c 5 D cy ad (AA ad) 0 0 (wfM N) (QM D cy ad (wfM N) below args s) finS (fm_safest_L44 M b1 b2 n x3 x4) 44 [(0, .ref (ad 138)), (1, .int b1), (2, .int b2), (3, .int x3), (4, .int x4)] [] M := by
  intro n
  induction n with
  | zero => intro x3 x4; exact g_none
  | succ n ih =>
    intro x3 x4
    rw [fm_safest_L44]
    refine g_iload X dX11_safest_44 4 rfl ?_
    refine g_aload_n X dX11_safest_46 0 rfl rfl ?_
    refine get_11_18 X (k := 138) k_138 s_138 m_5_75 dX11_safest_47 ?_
    refine g_iconst X dX11_safest_50 ic_2 ?_
    refine g_ialdC X (n := 9) (k := 156) k_156 s_156 (by decide) dX11_safest_51 ?_
    refine g_icmp_ge X 82 (by decide) dX11_safest_52 (fun q52 => ?_) (fun q52 => ?_)
    · refine g_iload_n X dX11_safest_82 3 rfl rfl ?_
      exact g_iret X hr rfl dX11_safest_83
    · refine g_aload_n X dX11_safest_55 0 rfl rfl ?_
      refine g_iload X dX11_safest_56 4 rfl ?_
      refine g_iload_n X dX11_safest_58 1 rfl rfl ?_
      refine g_iload_n X dX11_safest_59 2 rfl rfl ?_
      refine g_ci X (st := []) (fun _ hh => ok_V X (k0 := 138) (As := [.int x4, .int b1, .int b2]) wkX11_riskOf (tm_riskOf M x4 b1 b2 hh) rfl k_138 s_138 (by decide) rfl m_6_114 rfl (hRm (by decide) (by decide)) ⟨Nat.zero_le _, Nat.zero_le _⟩ (Nat.le_of_ble_eq_true rfl) dX11_safest_60) (fun r5 _ => ?_)
      refine g_aload_n X dX11_safest_63 0 rfl rfl ?_
      refine g_iload_n X dX11_safest_64 3 rfl rfl ?_
      refine g_iload_n X dX11_safest_65 1 rfl rfl ?_
      refine g_iload_n X dX11_safest_66 2 rfl rfl ?_
      refine g_ci X (st := [.int r5]) (fun _ hh => ok_V X (k0 := 138) (As := [.int x3, .int b1, .int b2]) wkX11_riskOf (tm_riskOf M x3 b1 b2 hh) rfl k_138 s_138 (by decide) rfl m_6_114 rfl (hRm (by decide) (by decide)) ⟨Nat.zero_le _, Nat.zero_le _⟩ (Nat.le_of_ble_eq_true rfl) dX11_safest_67) (fun r6 _ => ?_)
      refine g_jlet X 76 (fun z76 : Int32 => [(0, .ref (ad 138)), (1, .int b1), (2, .int b2), (3, .int z76), (4, .int x4)]) (fun z76 : Int32 => []) (fun z76 : Int32 => M) (fun z76 => ?_) (fun J76 hJ76 => ?_)
      · show GF _ _ _ _ _ _ _ _ _ _ _ _ _ _ _ _ _ _ _ _ _ 76 [(0, .ref (ad 138)), (1, .int b1), (2, .int b2), (3, .int z76), (4, .int x4)] [] M
        refine g_iinc X (k := 4) (v := (x4 + 1)) dX11_safest_76 rfl (ii_1 _) (by decide) rfl [1, 2, 3, 4, 0] (lu := [(0, .ref (ad 138)), (1, .int b1), (2, .int b2), (3, .int z76), (4, .int (x4 + 1))]) rfl ?_
        refine g_goto X 44 (by decide) dX11_safest_79 ?_
        exact ih z76 (x4 + 1)
      refine g_icmp_ge X 76 (by decide) dX11_safest_70 (fun q70 => ?_) (fun q70 => ?_)
      · exact hJ76 x3
      · refine g_iload X dX11_safest_73 4 rfl ?_
        refine g_istore_n X dX11_safest_75 rfl (by decide) rfl [1, 2, 3, 0, 4] (lu := [(0, .ref (ad 138)), (1, .int b1), (2, .int b2), (3, .int x4), (4, .int x4)]) rfl ?_
        exact hJ76 x4
set_option maxRecDepth 100000 in
set_option maxHeartbeats 4000000 in
theorem tm_safest {l : Launch} {D : va_G} {cy : Nat → ClassId} {ad : Nat → Nat} {N : Mem} (M : Mem) (a1 : Int32) (a2 : Int32) {x : (Int32 × Mem)} (h : fm_safest M a1 a2 = some x) : Mt l D cy ad yX11_safest cX11_safest 5 (some .int) 6 [.ref (ad 138), .int a1, .int a2] ((wfM N) M) (some (.int x.1), (wfM N) x.2) := by
  refine met_of (fin := finS) (lv0 := [(0, .ref (ad 138)), (1, .int a1), (2, .int a2)]) (by decide) (Nat.le_of_ble_eq_true rfl) rfl (lM N) h (fun p e s m args below meth c X hr => ?_)
  unfold fm_safest
  refine g_aload_n X dX11_safest_0 0 rfl rfl ?_
  refine g_iload_n X dX11_safest_1 1 rfl rfl ?_
  refine g_ct X (v0 := .int (fm_isJettyT M a1)) (st := []) (ok_V X (k0 := 138) (As := [.int a1]) wkX11_isJetty (tm_isJettyT M a1) rfl k_138 s_138 (by decide) rfl m_5_186 rfl (hRm (by decide) (by decide)) ⟨Nat.zero_le _, Nat.zero_le _⟩ (Nat.le_of_ble_eq_true rfl) dX11_safest_2) ?_
  refine g_if_eq X 16 (by decide) dX11_safest_5 (fun q5 => ?_) (fun q5 => ?_)
  · refine g_aload_n X dX11_safest_16 0 rfl rfl ?_
    refine g_bipush X dX11_safest_17 bi_m2 ?_
    refine g_cs X (st := []) (fun _ hh => ok_V X (k0 := 138) (As := [.int (-2)]) wkX11_no (tm_no M (-2) hh) rfl k_138 s_138 (by decide) rfl m_5_150 rfl (hRm (by decide) (by decide)) ⟨Nat.zero_le _, Nat.zero_le _⟩ (Nat.le_of_ble_eq_true rfl) dX11_safest_19) (fun r2 M1 _ => ?_)
    exact g_iret X hr rfl dX11_safest_22
  · refine g_aload_n X dX11_safest_8 0 rfl rfl ?_
    refine g_iload_n X dX11_safest_9 2 rfl rfl ?_
    refine g_ct X (v0 := .int (fm_isHourT M a2)) (st := []) (ok_V X (k0 := 138) (As := [.int a2]) wkX11_isHour (tm_isHourT M a2) rfl k_138 s_138 (by decide) rfl m_6_22 rfl (hRm (by decide) (by decide)) ⟨Nat.zero_le _, Nat.zero_le _⟩ (Nat.le_of_ble_eq_true rfl) dX11_safest_10) ?_
    refine g_if_ne X 23 (by decide) dX11_safest_13 (fun q13 => ?_) (fun q13 => ?_)
    · refine g_aload_n X dX11_safest_23 0 rfl rfl ?_
      refine get_11_18 X (k := 138) k_138 s_138 m_5_75 dX11_safest_24 ?_
      refine g_iconst X dX11_safest_27 ic_2 ?_
      refine g_ialdC X (n := 9) (k := 156) k_156 s_156 (by decide) dX11_safest_28 ?_
      refine g_if_ne X 39 (by decide) dX11_safest_29 (fun q29 => ?_) (fun q29 => ?_)
      · refine g_iconst X dX11_safest_39 ic_0 ?_
        refine g_istore_n X dX11_safest_40 rfl (by decide) rfl [1, 2, 3, 0] (lu := [(0, .ref (ad 138)), (1, .int a1), (2, .int a2), (3, .int 0)]) rfl ?_
        refine g_iconst X dX11_safest_41 ic_1 ?_
        refine g_istore X dX11_safest_42 (by decide) rfl [1, 2, 3, 4, 0] (lu := [(0, .ref (ad 138)), (1, .int a1), (2, .int a2), (3, .int 0), (4, .int 1)]) rfl ?_
        exact Lm_safest_L44  X hr M a1 a2    FU 0 1
      · refine g_aload_n X dX11_safest_32 0 rfl rfl ?_
        refine g_bipush X dX11_safest_33 bi_m5 ?_
        refine g_cs X (st := []) (fun _ hh => ok_V X (k0 := 138) (As := [.int (-5)]) wkX11_no (tm_no M (-5) hh) rfl k_138 s_138 (by decide) rfl m_5_150 rfl (hRm (by decide) (by decide)) ⟨Nat.zero_le _, Nat.zero_le _⟩ (Nat.le_of_ble_eq_true rfl) dX11_safest_35) (fun r8 M7 _ => ?_)
        exact g_iret X hr rfl dX11_safest_38
    · refine g_aload_n X dX11_safest_16 0 rfl rfl ?_
      refine g_bipush X dX11_safest_17 bi_m2 ?_
      refine g_cs X (st := []) (fun _ hh => ok_V X (k0 := 138) (As := [.int (-2)]) wkX11_no (tm_no M (-2) hh) rfl k_138 s_138 (by decide) rfl m_5_150 rfl (hRm (by decide) (by decide)) ⟨Nat.zero_le _, Nat.zero_le _⟩ (Nat.le_of_ble_eq_true rfl) dX11_safest_19) (fun r10 M9 _ => ?_)
      exact g_iret X hr rfl dX11_safest_22
set_option maxRecDepth 100000 in
set_option maxHeartbeats 4000000 in
theorem Lm_missed_L99 {l : Launch} {D : va_G} {cy : Nat → ClassId} {ad : Nat → Nat} {N : Mem} {p : Program} {e : Env} {s : State} {m : MethodId} {args : Array Value} {below : List Frame} {meth : Method} {c : Code} (X : Cx p s m args meth c cX11_missed 14 RX11 D cy ad (AA ad) (wfM N) sdM) (hr : meth.sig.returnType = (some .int)) (M : Mem) (b1 : Int32) (b3 : Int32) (b4 : Int32) (b5 : Int32) (kx227 : Int32 → Int32 → Int32 → Int32 → Option (Int32 × Mem)) (hkx227 : ∀ (y7 : Int32) (y8 : Int32) (y9 : Int32) (y10 : Int32), GF p l e (Rm 6) s m args below meth c 14 D cy ad (AA ad) 0 0 (wfM N) (QM D cy ad (wfM N) below args s) finS (kx227 y7 y8 y9 y10) 227 [(5, .int b5), (7, .int y7), (8, .int y8), (9, .int y9), (10, .int y10)] [] M) : ∀ (n : Nat) (x7 : Int32) (x8 : Int32) (x9 : Int32) (x10 : Int32) (x11 : Int32) (x12 : Int32), GF p l e (Rm 6) s m args below meth c 14 D cy ad (AA ad) 0 0 (wfM N) (QM D cy ad (wfM N) below args s) finS (fm_missed_L99 M b1 b3 b4 b5 kx227 n x7 x8 x9 x10 x11 x12) 99 [(0, .ref (ad 138)), (1, .int b1), (3, .int b3), (4, .int b4), (5, .int b5), (7, .int x7), (8, .int x8), (9, .int x9), (10, .int x10), (11, .int x11), (12, .int x12)] [] M := by
  intro n
  induction n with
  | zero => intro x7 x8 x9 x10 x11 x12; exact g_none
  | succ n ih =>
    intro x7 x8 x9 x10 x11 x12
    rw [fm_missed_L99]
    refine g_iload X dX11_missed_99 10 rfl ?_
    refine g_iload_n X dX11_missed_101 2 rfl rfl ?_
    refine g_icmp_ge X 227 (by decide) dX11_missed_102 (fun q102 => ?_) (fun q102 => ?_)
    · refine g_sub (lu := [(5, .int b5), (7, .int x7), (8, .int x8), (9, .int x9), (10, .int x10)]) [4, 5, 6, 7, 8] rfl ?_
      exact hkx227 x7 x8 x9 x10
    · refine g_iload X dX11_missed_105 5 rfl ?_
      refine g_aload_n X dX11_missed_107 0 rfl rfl ?_
      refine g_iload X dX11_missed_108 9 rfl ?_
      refine g_aload_n X dX11_missed_110 0 rfl rfl ?_
      refine get_11_4 X (k := 138) k_138 s_138 m_5_61 dX11_missed_111 ?_
      refine g_aload_n X dX11_missed_114 0 rfl rfl ?_
      refine get_11_23 X (k := 138) k_138 s_138 m_5_80 dX11_missed_115 ?_
      refine g_iload X dX11_missed_118 10 rfl ?_
      refine g_iald X (n := 20) (k := 160) k_160 s_160 dX11_missed_120 (fun h19 => ?_)
      refine g_iald X (n := 20) (k := 143) k_143 s_143 dX11_missed_121 (fun h20 => ?_)
      refine g_ci X (st := [.int x7]) (fun _ hh => ok_V X (k0 := 138) (As := [.int x11, .int (M.1 143 (ix (M.1 160 (ix x12))))]) wkX11_legOf (tm_legOf M x11 (M.1 143 (ix (M.1 160 (ix x12)))) hh) rfl k_138 s_138 (by decide) rfl m_6_126 rfl (hRm (by decide) (by decide)) ⟨Nat.zero_le _, Nat.zero_le _⟩ (Nat.le_of_ble_eq_true rfl) dX11_missed_122) (fun r21 _ => ?_)
      refine g_iload X dX11_missed_125 10 rfl ?_
      refine g_jlet X 135 (fun z135 : Int32 => [(0, .ref (ad 138)), (1, .int b1), (3, .int b3), (4, .int b4), (5, .int b5), (8, .int x8), (9, .int x9), (10, .int x10), (12, .int x12)]) (fun z135 : Int32 => [.int z135, .int r21, .int x7]) (fun z135 : Int32 => M) (fun z135 => ?_) (fun J135 hJ135 => ?_)
      · show GF _ _ _ _ _ _ _ _ _ _ _ _ _ _ _ _ _ _ _ _ _ 135 [(0, .ref (ad 138)), (1, .int b1), (3, .int b3), (4, .int b4), (5, .int b5), (8, .int x8), (9, .int x9), (10, .int x10), (12, .int x12)] [.int z135, .int r21, .int x7] M
        refine g_iadd X dX11_missed_135 ?_
        refine g_iadd X dX11_missed_136 ?_
        refine g_ilet X (fun v22 => ?_)
        refine g_istore X dX11_missed_137 (by decide) rfl [1, 2, 3, 4, 5, 0, 6, 7, 8, 9] (lu := [(0, .ref (ad 138)), (1, .int b1), (3, .int b3), (4, .int b4), (5, .int b5), (7, .int v22), (8, .int x8), (9, .int x9), (10, .int x10), (12, .int x12)]) rfl ?_
        refine g_aload_n X dX11_missed_139 0 rfl rfl ?_
        refine get_11_4 X (k := 138) k_138 s_138 m_5_61 dX11_missed_140 ?_
        refine g_aload_n X dX11_missed_143 0 rfl rfl ?_
        refine get_11_23 X (k := 138) k_138 s_138 m_5_80 dX11_missed_144 ?_
        refine g_iload X dX11_missed_147 9 rfl ?_
        refine g_iald X (n := 20) (k := 160) k_160 s_160 dX11_missed_149 (fun h23 => ?_)
        refine g_iald X (n := 20) (k := 143) k_143 s_143 dX11_missed_150 (fun h24 => ?_)
        refine g_ilet X (fun v25 => ?_)
        refine g_istore X dX11_missed_151 (by decide) rfl [1, 2, 3, 4, 5, 6, 7, 8, 9, 0, 10] (lu := [(0, .ref (ad 138)), (1, .int b1), (3, .int b3), (4, .int b4), (5, .int b5), (7, .int v22), (8, .int x8), (9, .int x9), (10, .int x10), (11, .int v25), (12, .int x12)]) rfl ?_
        refine g_aload_n X dX11_missed_153 0 rfl rfl ?_
        refine g_iload X dX11_missed_154 5 rfl ?_
        refine g_iload X dX11_missed_156 6 rfl ?_
        refine g_iadd X dX11_missed_158 ?_
        refine g_ct X (v0 := .int (fm_hourOfT M (v22 + x8))) (st := []) (ok_V X (k0 := 138) (As := [.int (v22 + x8)]) wkX11_hourOf (tm_hourOfT M (v22 + x8)) rfl k_138 s_138 (by decide) rfl m_6_146 rfl (hRm (by decide) (by decide)) ⟨Nat.zero_le _, Nat.zero_le _⟩ (Nat.le_of_ble_eq_true rfl) dX11_missed_159) ?_
        refine g_ilet X (fun v26 => ?_)
        refine g_istore X dX11_missed_162 (by decide) rfl [1, 2, 3, 4, 5, 6, 7, 8, 9, 10, 11, 0] (lu := [(0, .ref (ad 138)), (1, .int b1), (3, .int b3), (4, .int b4), (5, .int b5), (7, .int v22), (8, .int x8), (9, .int x9), (10, .int x10), (11, .int v25), (12, .int x12), (13, .int v26)]) rfl ?_
        refine g_iload X dX11_missed_164 7 rfl ?_
        refine g_aload_n X dX11_missed_166 0 rfl rfl ?_
        refine g_iload_n X dX11_missed_167 1 rfl rfl ?_
        refine g_aload_n X dX11_missed_168 0 rfl rfl ?_
        refine get_11_23 X (k := 138) k_138 s_138 m_5_80 dX11_missed_169 ?_
        refine g_iload X dX11_missed_172 10 rfl ?_
        refine g_iald X (n := 20) (k := 160) k_160 s_160 dX11_missed_174 (fun h27 => ?_)
        refine g_iload X dX11_missed_175 11 rfl ?_
        refine g_ci X (st := [.int x9]) (fun _ hh => ok_V X (k0 := 138) (As := [.int b1, .int (M.1 160 (ix x12)), .int v26]) wkX11_riskOf (tm_riskOf M b1 (M.1 160 (ix x12)) v26 hh) rfl k_138 s_138 (by decide) rfl m_6_114 rfl (hRm (by decide) (by decide)) ⟨Nat.zero_le _, Nat.zero_le _⟩ (Nat.le_of_ble_eq_true rfl) dX11_missed_177) (fun r28 _ => ?_)
        refine g_iadd X dX11_missed_180 ?_
        refine g_ilet X (fun v29 => ?_)
        refine g_istore X dX11_missed_181 (by decide) rfl [1, 2, 3, 4, 5, 6, 7, 0, 8, 9, 10, 11] (lu := [(0, .ref (ad 138)), (1, .int b1), (3, .int b3), (4, .int b4), (5, .int b5), (7, .int v22), (8, .int x8), (9, .int v29), (10, .int x10), (11, .int v25), (12, .int x12), (13, .int v26)]) rfl ?_
        refine g_iload X dX11_missed_183 11 rfl ?_
        refine g_aload_n X dX11_missed_185 0 rfl rfl ?_
        refine g_iload X dX11_missed_186 5 rfl ?_
        refine g_ct X (v0 := .int (fm_hourOfT M v22)) (st := [.int v26]) (ok_V X (k0 := 138) (As := [.int v22]) wkX11_hourOf (tm_hourOfT M v22) rfl k_138 s_138 (by decide) rfl m_6_146 rfl (hRm (by decide) (by decide)) ⟨Nat.zero_le _, Nat.zero_le _⟩ (Nat.le_of_ble_eq_true rfl) dX11_missed_188) ?_
        refine g_jlet X 197 (fun z197 : Int32 => [(0, .ref (ad 138)), (1, .int b1), (3, .int b3), (4, .int b4), (5, .int b5), (7, .int v22), (8, .int x8), (9, .int v29), (10, .int z197), (11, .int v25), (12, .int x12)]) (fun z197 : Int32 => []) (fun z197 : Int32 => M) (fun z197 => ?_) (fun J197 hJ197 => ?_)
        · show GF _ _ _ _ _ _ _ _ _ _ _ _ _ _ _ _ _ _ _ _ _ 197 [(0, .ref (ad 138)), (1, .int b1), (3, .int b3), (4, .int b4), (5, .int b5), (7, .int v22), (8, .int x8), (9, .int v29), (10, .int z197), (11, .int v25), (12, .int x12)] [] M
          refine g_iload X dX11_missed_197 10 rfl ?_
          refine g_iload X dX11_missed_199 3 rfl ?_
          refine g_jlet X 221 (fun z221 : Int32 => [(0, .ref (ad 138)), (1, .int b1), (3, .int b3), (4, .int b4), (5, .int b5), (7, .int v22), (8, .int z221), (9, .int v29), (10, .int z197), (11, .int v25), (12, .int x12)]) (fun z221 : Int32 => []) (fun z221 : Int32 => M) (fun z221 => ?_) (fun J221 hJ221 => ?_)
          · show GF _ _ _ _ _ _ _ _ _ _ _ _ _ _ _ _ _ _ _ _ _ 221 [(0, .ref (ad 138)), (1, .int b1), (3, .int b3), (4, .int b4), (5, .int b5), (7, .int v22), (8, .int z221), (9, .int v29), (10, .int z197), (11, .int v25), (12, .int x12)] [] M
            refine g_iinc X (k := 10) (v := (x12 + 1)) dX11_missed_221 rfl (ii_1 _) (by decide) rfl [1, 2, 3, 4, 5, 6, 7, 8, 9, 10, 0] (lu := [(0, .ref (ad 138)), (1, .int b1), (3, .int b3), (4, .int b4), (5, .int b5), (7, .int v22), (8, .int z221), (9, .int v29), (10, .int z197), (11, .int v25), (12, .int (x12 + 1))]) rfl ?_
            refine g_goto X 99 (by decide) dX11_missed_224 ?_
            exact ih v22 z221 v29 z197 v25 (x12 + 1)
          refine g_icmp_ne X 221 (by decide) dX11_missed_201 (fun q201 => ?_) (fun q201 => ?_)
          · exact hJ221 x8
          · refine g_iload X dX11_missed_204 10 rfl ?_
            refine g_iload_n X dX11_missed_206 2 rfl rfl ?_
            refine g_iconst X dX11_missed_207 ic_1 ?_
            refine g_isub X dX11_missed_208 ?_
            refine g_icmp_ge X 221 (by decide) dX11_missed_209 (fun q209 => ?_) (fun q209 => ?_)
            · exact hJ221 x8
            · refine g_iconst X dX11_missed_212 ic_3 ?_
              refine g_aload_n X dX11_missed_213 0 rfl rfl ?_
              refine g_iconst X dX11_missed_214 ic_1 ?_
              refine g_ci X (st := [.int 3]) (fun _ hh => ok_V X (k0 := 138) (As := [.int 1]) wkX11_says_ (tm_says1 M 1 hh) rfl k_138 s_138 (by decide) rfl m_5_230 rfl (hRm (by decide) (by decide)) ⟨Nat.zero_le _, Nat.zero_le _⟩ (Nat.le_of_ble_eq_true rfl) dX11_missed_215) (fun r30 _ => ?_)
              refine g_imul X dX11_missed_218 ?_
              refine g_ilet X (fun v31 => ?_)
              refine g_istore X dX11_missed_219 (by decide) rfl [1, 2, 3, 4, 5, 6, 0, 7, 8, 9, 10] (lu := [(0, .ref (ad 138)), (1, .int b1), (3, .int b3), (4, .int b4), (5, .int b5), (7, .int v22), (8, .int v31), (9, .int v29), (10, .int z197), (11, .int v25), (12, .int x12)]) rfl ?_
              exact hJ221 v31
        refine g_icmp_le X 197 (by decide) dX11_missed_191 (fun q191 => ?_) (fun q191 => ?_)
        · refine g_sub (lu := [(0, .ref (ad 138)), (1, .int b1), (3, .int b3), (4, .int b4), (5, .int b5), (7, .int v22), (8, .int x8), (9, .int v29), (10, .int x10), (11, .int v25), (12, .int x12)]) [0, 1, 2, 3, 4, 5, 6, 7, 8, 9, 10] rfl ?_
          exact hJ197 x10
        · refine g_iinc X (k := 8) (v := (x10 + 1)) dX11_missed_194 rfl (ii_1 _) (by decide) rfl [1, 2, 3, 4, 5, 6, 7, 8, 0, 9, 10] (lu := [(0, .ref (ad 138)), (1, .int b1), (3, .int b3), (4, .int b4), (5, .int b5), (7, .int v22), (8, .int x8), (9, .int v29), (10, .int (x10 + 1)), (11, .int v25), (12, .int x12)]) rfl ?_
          exact hJ197 (x10 + 1)
      refine g_if_le X 134 (by decide) dX11_missed_127 (fun q127 => ?_) (fun q127 => ?_)
      · refine g_iconst X dX11_missed_134 ic_0 ?_
        refine g_sub (lu := [(0, .ref (ad 138)), (1, .int b1), (3, .int b3), (4, .int b4), (5, .int b5), (8, .int x8), (9, .int x9), (10, .int x10), (12, .int x12)]) [0, 1, 2, 3, 4, 6, 7, 8, 10] rfl ?_
        exact hJ135 0
      · refine g_iconst X dX11_missed_130 ic_1 ?_
        refine g_goto X 135 (by decide) dX11_missed_131 ?_
        refine g_sub (lu := [(0, .ref (ad 138)), (1, .int b1), (3, .int b3), (4, .int b4), (5, .int b5), (8, .int x8), (9, .int x9), (10, .int x10), (12, .int x12)]) [0, 1, 2, 3, 4, 6, 7, 8, 10] rfl ?_
        exact hJ135 1
set_option maxRecDepth 100000 in
set_option maxHeartbeats 4000000 in
theorem tm_missed {l : Launch} {D : va_G} {cy : Nat → ClassId} {ad : Nat → Nat} {N : Mem} (M : Mem) (a1 : Int32) (a2 : Int32) (a3 : Int32) (a4 : Int32) (a5 : Int32) {x : (Int32 × Mem)} (h : fm_missed M a1 a2 a3 a4 a5 = some x) : Mt l D cy ad yX11_missed cX11_missed 14 (some .int) 6 [.ref (ad 138), .int a1, .int a2, .int a3, .int a4, .int a5] ((wfM N) M) (some (.int x.1), (wfM N) x.2) := by
  refine met_of (fin := finS) (lv0 := [(0, .ref (ad 138)), (1, .int a1), (2, .int a2), (3, .int a3), (4, .int a4), (5, .int a5)]) (by decide) (Nat.le_of_ble_eq_true rfl) rfl (lM N) h (fun p e s m args below meth c X hr => ?_)
  unfold fm_missed
  refine g_aload_n X dX11_missed_0 0 rfl rfl ?_
  refine g_iload_n X dX11_missed_1 1 rfl rfl ?_
  refine g_ct X (v0 := .int (fm_isLeaperT M a1)) (st := []) (ok_V X (k0 := 138) (As := [.int a1]) wkX11_isLeaper (tm_isLeaperT M a1) rfl k_138 s_138 (by decide) rfl m_6_90 rfl (hRm (by decide) (by decide)) ⟨Nat.zero_le _, Nat.zero_le _⟩ (Nat.le_of_ble_eq_true rfl) dX11_missed_2) ?_
  refine g_if_eq X 48 (by decide) dX11_missed_5 (fun q5 => ?_) (fun q5 => ?_)
  · refine g_aload_n X dX11_missed_48 0 rfl rfl ?_
    refine g_bipush X dX11_missed_49 bi_m2 ?_
    refine g_cs X (st := []) (fun _ hh => ok_V X (k0 := 138) (As := [.int (-2)]) wkX11_no (tm_no M (-2) hh) rfl k_138 s_138 (by decide) rfl m_5_150 rfl (hRm (by decide) (by decide)) ⟨Nat.zero_le _, Nat.zero_le _⟩ (Nat.le_of_ble_eq_true rfl) dX11_missed_51) (fun r2 M1 _ => ?_)
    exact g_iret X hr rfl dX11_missed_54
  · refine g_aload_n X dX11_missed_8 0 rfl rfl ?_
    refine g_iload_n X dX11_missed_9 2 rfl rfl ?_
    refine g_ct X (v0 := .int (fm_isShelfT M a2)) (st := []) (ok_V X (k0 := 138) (As := [.int a2]) wkX11_isShelf (tm_isShelfT M a2) rfl k_138 s_138 (by decide) rfl m_5_146 rfl (hRm (by decide) (by decide)) ⟨Nat.zero_le _, Nat.zero_le _⟩ (Nat.le_of_ble_eq_true rfl) dX11_missed_10) ?_
    refine g_if_eq X 48 (by decide) dX11_missed_13 (fun q13 => ?_) (fun q13 => ?_)
    · refine g_aload_n X dX11_missed_48 0 rfl rfl ?_
      refine g_bipush X dX11_missed_49 bi_m2 ?_
      refine g_cs X (st := []) (fun _ hh => ok_V X (k0 := 138) (As := [.int (-2)]) wkX11_no (tm_no M (-2) hh) rfl k_138 s_138 (by decide) rfl m_5_150 rfl (hRm (by decide) (by decide)) ⟨Nat.zero_le _, Nat.zero_le _⟩ (Nat.le_of_ble_eq_true rfl) dX11_missed_51) (fun r4 M3 _ => ?_)
      exact g_iret X hr rfl dX11_missed_54
    · refine g_iload_n X dX11_missed_16 3 rfl rfl ?_
      refine g_if_lt X 48 (by decide) dX11_missed_17 (fun q17 => ?_) (fun q17 => ?_)
      · refine g_aload_n X dX11_missed_48 0 rfl rfl ?_
        refine g_bipush X dX11_missed_49 bi_m2 ?_
        refine g_cs X (st := []) (fun _ hh => ok_V X (k0 := 138) (As := [.int (-2)]) wkX11_no (tm_no M (-2) hh) rfl k_138 s_138 (by decide) rfl m_5_150 rfl (hRm (by decide) (by decide)) ⟨Nat.zero_le _, Nat.zero_le _⟩ (Nat.le_of_ble_eq_true rfl) dX11_missed_51) (fun r6 M5 _ => ?_)
        exact g_iret X hr rfl dX11_missed_54
      · refine g_iload_n X dX11_missed_20 3 rfl rfl ?_
        refine g_bipush X dX11_missed_21 bi_20 ?_
        refine g_icmp_gt X 48 (by decide) dX11_missed_23 (fun q23 => ?_) (fun q23 => ?_)
        · refine g_aload_n X dX11_missed_48 0 rfl rfl ?_
          refine g_bipush X dX11_missed_49 bi_m2 ?_
          refine g_cs X (st := []) (fun _ hh => ok_V X (k0 := 138) (As := [.int (-2)]) wkX11_no (tm_no M (-2) hh) rfl k_138 s_138 (by decide) rfl m_5_150 rfl (hRm (by decide) (by decide)) ⟨Nat.zero_le _, Nat.zero_le _⟩ (Nat.le_of_ble_eq_true rfl) dX11_missed_51) (fun r8 M7 _ => ?_)
          exact g_iret X hr rfl dX11_missed_54
        · refine g_iload X dX11_missed_26 4 rfl ?_
          refine g_if_lt X 48 (by decide) dX11_missed_28 (fun q28 => ?_) (fun q28 => ?_)
          · refine g_aload_n X dX11_missed_48 0 rfl rfl ?_
            refine g_bipush X dX11_missed_49 bi_m2 ?_
            refine g_cs X (st := []) (fun _ hh => ok_V X (k0 := 138) (As := [.int (-2)]) wkX11_no (tm_no M (-2) hh) rfl k_138 s_138 (by decide) rfl m_5_150 rfl (hRm (by decide) (by decide)) ⟨Nat.zero_le _, Nat.zero_le _⟩ (Nat.le_of_ble_eq_true rfl) dX11_missed_51) (fun r10 M9 _ => ?_)
            exact g_iret X hr rfl dX11_missed_54
          · refine g_iload X dX11_missed_31 4 rfl ?_
            refine g_iload_n X dX11_missed_33 3 rfl rfl ?_
            refine g_icmp_ge X 48 (by decide) dX11_missed_34 (fun q34 => ?_) (fun q34 => ?_)
            · refine g_aload_n X dX11_missed_48 0 rfl rfl ?_
              refine g_bipush X dX11_missed_49 bi_m2 ?_
              refine g_cs X (st := []) (fun _ hh => ok_V X (k0 := 138) (As := [.int (-2)]) wkX11_no (tm_no M (-2) hh) rfl k_138 s_138 (by decide) rfl m_5_150 rfl (hRm (by decide) (by decide)) ⟨Nat.zero_le _, Nat.zero_le _⟩ (Nat.le_of_ble_eq_true rfl) dX11_missed_51) (fun r12 M11 _ => ?_)
              exact g_iret X hr rfl dX11_missed_54
            · refine g_iload X dX11_missed_37 5 rfl ?_
              refine g_if_lt X 48 (by decide) dX11_missed_39 (fun q39 => ?_) (fun q39 => ?_)
              · refine g_aload_n X dX11_missed_48 0 rfl rfl ?_
                refine g_bipush X dX11_missed_49 bi_m2 ?_
                refine g_cs X (st := []) (fun _ hh => ok_V X (k0 := 138) (As := [.int (-2)]) wkX11_no (tm_no M (-2) hh) rfl k_138 s_138 (by decide) rfl m_5_150 rfl (hRm (by decide) (by decide)) ⟨Nat.zero_le _, Nat.zero_le _⟩ (Nat.le_of_ble_eq_true rfl) dX11_missed_51) (fun r14 M13 _ => ?_)
                exact g_iret X hr rfl dX11_missed_54
              · refine g_iload X dX11_missed_42 5 rfl ?_
                refine g_iconst X dX11_missed_44 ic_2 ?_
                refine g_icmp_le X 55 (by decide) dX11_missed_45 (fun q45 => ?_) (fun q45 => ?_)
                · refine g_aload_n X dX11_missed_55 0 rfl rfl ?_
                  refine g_iload_n X dX11_missed_56 2 rfl rfl ?_
                  refine g_iload_n X dX11_missed_57 3 rfl rfl ?_
                  refine g_cs X (st := []) (fun _ hh => ok_V X (k0 := 138) (As := [.int a2, .int a3]) wkX11_take (tm_take M a2 a3 hh) rfl k_138 s_138 (by decide) rfl m_6_138 rfl (hRm (by decide) (by decide)) ⟨Nat.zero_le _, Nat.zero_le _⟩ (Nat.le_of_ble_eq_true rfl) dX11_missed_58) (fun r16 M15 _ => ?_)
                  refine g_istore X dX11_missed_61 (by decide) rfl [1, 2, 4, 5, 6, 0] (lu := [(0, .ref (ad 138)), (1, .int a1), (3, .int a3), (4, .int a4), (5, .int a5), (6, .int r16)]) rfl ?_
                  refine g_iload X dX11_missed_63 5 rfl ?_
                  refine g_if_ge X 75 (by decide) dX11_missed_65 (fun q65 => ?_) (fun q65 => ?_)
                  · refine g_iconst X dX11_missed_75 ic_0 ?_
                    refine g_istore X dX11_missed_76 (by decide) rfl [1, 2, 3, 4, 5, 0] (lu := [(0, .ref (ad 138)), (1, .int a1), (3, .int a3), (4, .int a4), (5, .int a5), (7, .int 0)]) rfl ?_
                    refine g_iconst X dX11_missed_78 ic_0 ?_
                    refine g_istore X dX11_missed_79 (by decide) rfl [1, 2, 3, 4, 5, 6, 0] (lu := [(0, .ref (ad 138)), (1, .int a1), (3, .int a3), (4, .int a4), (5, .int a5), (7, .int 0), (8, .int 0)]) rfl ?_
                    refine g_iconst X dX11_missed_81 ic_0 ?_
                    refine g_istore X dX11_missed_82 (by decide) rfl [1, 2, 3, 4, 5, 6, 7, 0] (lu := [(0, .ref (ad 138)), (1, .int a1), (3, .int a3), (4, .int a4), (5, .int a5), (7, .int 0), (8, .int 0), (9, .int 0)]) rfl ?_
                    refine g_iconst X dX11_missed_84 ic_0 ?_
                    refine g_istore X dX11_missed_85 (by decide) rfl [1, 2, 3, 4, 5, 6, 7, 8, 0] (lu := [(0, .ref (ad 138)), (1, .int a1), (3, .int a3), (4, .int a4), (5, .int a5), (7, .int 0), (8, .int 0), (9, .int 0), (10, .int 0)]) rfl ?_
                    refine g_aload_n X dX11_missed_87 0 rfl rfl ?_
                    refine get_11_18 X (k := 138) k_138 s_138 m_5_75 dX11_missed_88 ?_
                    refine g_bipush X dX11_missed_91 bi_7 ?_
                    refine g_ialdC X (n := 9) (k := 156) k_156 s_156 (by decide) dX11_missed_93 ?_
                    refine g_ilet X (fun v18 => ?_)
                    refine g_istore X dX11_missed_94 (by decide) rfl [1, 2, 3, 4, 5, 6, 7, 8, 9, 0] (lu := [(0, .ref (ad 138)), (1, .int a1), (3, .int a3), (4, .int a4), (5, .int a5), (7, .int 0), (8, .int 0), (9, .int 0), (10, .int 0), (11, .int v18)]) rfl ?_
                    refine g_iconst X dX11_missed_96 ic_0 ?_
                    refine g_istore X dX11_missed_97 (by decide) rfl [1, 2, 3, 4, 5, 6, 7, 8, 9, 10, 0] (lu := [(0, .ref (ad 138)), (1, .int a1), (3, .int a3), (4, .int a4), (5, .int a5), (7, .int 0), (8, .int 0), (9, .int 0), (10, .int 0), (11, .int v18), (12, .int 0)]) rfl ?_
                    refine Lm_missed_L99  X hr M15 a1 a3 a4 a5  _ (fun w32 w33 w34 w35 => ?_) FU 0 0 0 0 v18 0
                    · refine g_iload X dX11_missed_227 0 rfl ?_
                      refine g_if_ne X 238 (by decide) dX11_missed_229 (fun q229 => ?_) (fun q229 => ?_)
                      · refine g_iload X dX11_missed_238 0 rfl ?_
                        refine g_iconst X dX11_missed_240 ic_1 ?_
                        refine g_icmp_ne X 249 (by decide) dX11_missed_241 (fun q241 => ?_) (fun q241 => ?_)
                        · refine g_iload X dX11_missed_249 4 rfl ?_
                          exact g_iret X hr rfl dX11_missed_251
                        · refine g_iload X dX11_missed_244 3 rfl ?_
                          refine g_goto X 251 (by decide) dX11_missed_246 ?_
                          exact g_iret X hr rfl dX11_missed_251
                      · refine g_iload X dX11_missed_232 1 rfl ?_
                        refine g_iload X dX11_missed_234 2 rfl ?_
                        refine g_iadd X dX11_missed_236 ?_
                        exact g_iret X hr rfl dX11_missed_237
                  · refine g_aload_n X dX11_missed_68 0 rfl rfl ?_
                    refine g_iload X dX11_missed_69 5 rfl ?_
                    refine g_cs X (st := []) (fun _ hh => ok_V X (k0 := 138) (As := [.int r16]) wkX11_no (tm_no M15 r16 hh) rfl k_138 s_138 (by decide) rfl m_5_150 rfl (hRm (by decide) (by decide)) ⟨Nat.zero_le _, Nat.zero_le _⟩ (Nat.le_of_ble_eq_true rfl) dX11_missed_71) (fun r37 M36 _ => ?_)
                    exact g_iret X hr rfl dX11_missed_74
                · refine g_aload_n X dX11_missed_48 0 rfl rfl ?_
                  refine g_bipush X dX11_missed_49 bi_m2 ?_
                  refine g_cs X (st := []) (fun _ hh => ok_V X (k0 := 138) (As := [.int (-2)]) wkX11_no (tm_no M (-2) hh) rfl k_138 s_138 (by decide) rfl m_5_150 rfl (hRm (by decide) (by decide)) ⟨Nat.zero_le _, Nat.zero_le _⟩ (Nat.le_of_ble_eq_true rfl) dX11_missed_51) (fun r39 M38 _ => ?_)
                  exact g_iret X hr rfl dX11_missed_54
set_option maxRecDepth 100000 in
set_option maxHeartbeats 4000000 in
theorem Lm_pilot_L91 {l : Launch} {D : va_G} {cy : Nat → ClassId} {ad : Nat → Nat} {N : Mem} {p : Program} {e : Env} {s : State} {m : MethodId} {args : Array Value} {below : List Frame} {meth : Method} {c : Code} (X : Cx p s m args meth c cX11_pilot 9 RX11 D cy ad (AA ad) (wfM N) sdM) (hr : meth.sig.returnType = (some .int)) (M : Mem) (b2 : Int32) (b3 : Int32) (b5 : Int32) (kx142 : Int32 → Option (Int32 × Mem)) (hkx142 : ∀ (y6 : Int32), GF p l e (Rm 4) s m args below meth c 9 D cy ad (AA ad) 0 0 (wfM N) (QM D cy ad (wfM N) below args s) finS (kx142 y6) 142 [(0, .ref (ad 138)), (2, .int b2), (3, .int b3), (5, .int b5), (6, .int y6)] [] M) : ∀ (n : Nat) (x6 : Int32) (x7 : Int32) (x8 : Int32), GF p l e (Rm 4) s m args below meth c 9 D cy ad (AA ad) 0 0 (wfM N) (QM D cy ad (wfM N) below args s) finS (fm_pilot_L91 M b2 b3 b5 kx142 n x6 x7 x8) 91 [(0, .ref (ad 138)), (2, .int b2), (3, .int b3), (5, .int b5), (6, .int x6), (7, .int x7), (8, .int x8)] [] M := by
  intro n
  induction n with
  | zero => intro x6 x7 x8; exact g_none
  | succ n ih =>
    intro x6 x7 x8
    rw [fm_pilot_L91]
    refine g_iload X dX11_pilot_91 6 rfl ?_
    refine g_iload_n X dX11_pilot_93 1 rfl rfl ?_
    refine g_icmp_ge X 142 (by decide) dX11_pilot_94 (fun q94 => ?_) (fun q94 => ?_)
    · refine g_sub (lu := [(0, .ref (ad 138)), (2, .int b2), (3, .int b3), (5, .int b5), (6, .int x6)]) [0, 1, 2, 3, 4] rfl ?_
      exact hkx142 x6
    · refine g_iload X dX11_pilot_97 4 rfl ?_
      refine g_aload_n X dX11_pilot_99 0 rfl rfl ?_
      refine g_iload X dX11_pilot_100 5 rfl ?_
      refine g_aload_n X dX11_pilot_102 0 rfl rfl ?_
      refine get_11_4 X (k := 138) k_138 s_138 m_5_61 dX11_pilot_103 ?_
      refine g_aload_n X dX11_pilot_106 0 rfl rfl ?_
      refine get_11_23 X (k := 138) k_138 s_138 m_5_80 dX11_pilot_107 ?_
      refine g_iload X dX11_pilot_110 6 rfl ?_
      refine g_iald X (n := 20) (k := 160) k_160 s_160 dX11_pilot_112 (fun h13 => ?_)
      refine g_iald X (n := 20) (k := 143) k_143 s_143 dX11_pilot_113 (fun h14 => ?_)
      refine g_iload X dX11_pilot_114 3 rfl ?_
      refine g_ci X (st := [.int x6]) (fun _ hh => ok_V X (k0 := 138) (As := [.int x7, .int (M.1 143 (ix (M.1 160 (ix x8)))), .int b5]) wkX11_legAt (tm_legAt M x7 (M.1 143 (ix (M.1 160 (ix x8)))) b5 hh) rfl k_138 s_138 (by decide) rfl m_6_130 rfl (hRm (by decide) (by decide)) ⟨Nat.zero_le _, Nat.zero_le _⟩ (Nat.le_of_ble_eq_true rfl) dX11_pilot_116) (fun r15 _ => ?_)
      refine g_iadd X dX11_pilot_119 ?_
      refine g_ilet X (fun v16 => ?_)
      refine g_istore X dX11_pilot_120 (by decide) rfl [1, 2, 3, 4, 0, 6] (lu := [(0, .ref (ad 138)), (2, .int b2), (3, .int b3), (5, .int b5), (6, .int v16), (8, .int x8)]) rfl ?_
      refine g_aload_n X dX11_pilot_122 0 rfl rfl ?_
      refine get_11_4 X (k := 138) k_138 s_138 m_5_61 dX11_pilot_123 ?_
      refine g_aload_n X dX11_pilot_126 0 rfl rfl ?_
      refine get_11_23 X (k := 138) k_138 s_138 m_5_80 dX11_pilot_127 ?_
      refine g_iload X dX11_pilot_130 5 rfl ?_
      refine g_iald X (n := 20) (k := 160) k_160 s_160 dX11_pilot_132 (fun h17 => ?_)
      refine g_iald X (n := 20) (k := 143) k_143 s_143 dX11_pilot_133 (fun h18 => ?_)
      refine g_ilet X (fun v19 => ?_)
      refine g_istore X dX11_pilot_134 (by decide) rfl [1, 2, 3, 4, 5, 0, 6] (lu := [(0, .ref (ad 138)), (2, .int b2), (3, .int b3), (5, .int b5), (6, .int v16), (7, .int v19), (8, .int x8)]) rfl ?_
      refine g_iinc X (k := 6) (v := (x8 + 1)) dX11_pilot_136 rfl (ii_1 _) (by decide) rfl [1, 2, 3, 4, 5, 6, 0] (lu := [(0, .ref (ad 138)), (2, .int b2), (3, .int b3), (5, .int b5), (6, .int v16), (7, .int v19), (8, .int (x8 + 1))]) rfl ?_
      refine g_goto X 91 (by decide) dX11_pilot_139 ?_
      exact ih v16 v19 (x8 + 1)
set_option maxRecDepth 100000 in
set_option maxHeartbeats 4000000 in
theorem Lm_pilot_L59 {l : Launch} {D : va_G} {cy : Nat → ClassId} {ad : Nat → Nat} {N : Mem} {p : Program} {e : Env} {s : State} {m : MethodId} {args : Array Value} {below : List Frame} {meth : Method} {c : Code} (X : Cx p s m args meth c cX11_pilot 9 RX11 D cy ad (AA ad) (wfM N) sdM) (hr : meth.sig.returnType = (some .int)) (M : Mem) (b2 : Int32) (b3 : Int32) : ∀ (n : Nat) (x5 : Int32), GF p l e (Rm 4) s m args below meth c 9 D cy ad (AA ad) 0 0 (wfM N) (QM D cy ad (wfM N) below args s) finS (fm_pilot_L59 M b2 b3 n x5) 59 [(0, .ref (ad 138)), (2, .int b2), (3, .int b3), (5, .int x5)] [] M := by
  intro n
  induction n with
  | zero => intro x5; exact g_none
  | succ n ih =>
    intro x5
    rw [fm_pilot_L59]
    refine g_iload X dX11_pilot_59 3 rfl ?_
    refine g_bipush X dX11_pilot_61 bi_10 ?_
    refine g_icmp_ge X 157 (by decide) dX11_pilot_63 (fun q63 => ?_) (fun q63 => ?_)
    · refine g_iconst X dX11_pilot_157 ic_m1 ?_
      exact g_iret X hr rfl dX11_pilot_158
    · refine g_iload_n X dX11_pilot_66 1 rfl rfl ?_
      refine g_jlet X 77 (fun z77 : Int32 => [(0, .ref (ad 138)), (2, .int b2), (3, .int b3), (5, .int x5)]) (fun z77 : Int32 => [.int z77]) (fun z77 : Int32 => M) (fun z77 => ?_) (fun J77 hJ77 => ?_)
      · show GF _ _ _ _ _ _ _ _ _ _ _ _ _ _ _ _ _ _ _ _ _ 77 [(0, .ref (ad 138)), (2, .int b2), (3, .int b3), (5, .int x5)] [.int z77] M
        refine g_istore X dX11_pilot_77 (by decide) rfl [1, 2, 3, 4, 0] (lu := [(0, .ref (ad 138)), (2, .int b2), (3, .int b3), (5, .int x5), (6, .int z77)]) rfl ?_
        refine g_aload_n X dX11_pilot_79 0 rfl rfl ?_
        refine get_11_18 X (k := 138) k_138 s_138 m_5_75 dX11_pilot_80 ?_
        refine g_bipush X dX11_pilot_83 bi_7 ?_
        refine g_ialdC X (n := 9) (k := 156) k_156 s_156 (by decide) dX11_pilot_85 ?_
        refine g_ilet X (fun v12 => ?_)
        refine g_istore X dX11_pilot_86 (by decide) rfl [1, 2, 3, 4, 5, 0] (lu := [(0, .ref (ad 138)), (2, .int b2), (3, .int b3), (5, .int x5), (6, .int z77), (7, .int v12)]) rfl ?_
        refine g_iconst X dX11_pilot_88 ic_0 ?_
        refine g_istore X dX11_pilot_89 (by decide) rfl [1, 2, 3, 4, 5, 6, 0] (lu := [(0, .ref (ad 138)), (2, .int b2), (3, .int b3), (5, .int x5), (6, .int z77), (7, .int v12), (8, .int 0)]) rfl ?_
        refine Lm_pilot_L91  X hr M b2 b3 x5  _ (fun w20 => ?_) FU z77 v12 0
        · refine g_iload X dX11_pilot_142 4 rfl ?_
          refine g_iload_n X dX11_pilot_144 2 rfl rfl ?_
          refine g_icmp_gt X 151 (by decide) dX11_pilot_145 (fun q145 => ?_) (fun q145 => ?_)
          · refine g_iinc X (k := 3) (v := (x5 + 1)) dX11_pilot_151 rfl (ii_1 _) (by decide) rfl [1, 2, 3, 0] (lu := [(0, .ref (ad 138)), (2, .int b2), (3, .int b3), (5, .int (x5 + 1))]) rfl ?_
            refine g_goto X 59 (by decide) dX11_pilot_154 ?_
            exact ih (x5 + 1)
          · refine g_iload X dX11_pilot_148 3 rfl ?_
            exact g_iret X hr rfl dX11_pilot_150
      refine g_if_le X 76 (by decide) dX11_pilot_67 (fun q67 => ?_) (fun q67 => ?_)
      · refine g_iconst X dX11_pilot_76 ic_0 ?_
        exact hJ77 0
      · refine g_iload_n X dX11_pilot_70 1 rfl rfl ?_
        refine g_iconst X dX11_pilot_71 ic_1 ?_
        refine g_isub X dX11_pilot_72 ?_
        refine g_goto X 77 (by decide) dX11_pilot_73 ?_
        exact hJ77 (b2 - 1)
set_option maxRecDepth 100000 in
set_option maxHeartbeats 4000000 in
theorem tm_pilot {l : Launch} {D : va_G} {cy : Nat → ClassId} {ad : Nat → Nat} {N : Mem} (M : Mem) (a1 : Int32) (a2 : Int32) (a3 : Int32) {x : (Int32 × Mem)} (h : fm_pilot M a1 a2 a3 = some x) : Mt l D cy ad yX11_pilot cX11_pilot 9 (some .int) 4 [.ref (ad 138), .int a1, .int a2, .int a3] ((wfM N) M) (some (.int x.1), (wfM N) x.2) := by
  refine met_of (fin := finS) (lv0 := [(0, .ref (ad 138)), (1, .int a1), (2, .int a2), (3, .int a3)]) (by decide) (Nat.le_of_ble_eq_true rfl) rfl (lM N) h (fun p e s m args below meth c X hr => ?_)
  unfold fm_pilot
  refine g_aload_n X dX11_pilot_0 0 rfl rfl ?_
  refine g_iload_n X dX11_pilot_1 1 rfl rfl ?_
  refine g_ct X (v0 := .int (fm_isShelfT M a1)) (st := []) (ok_V X (k0 := 138) (As := [.int a1]) wkX11_isShelf (tm_isShelfT M a1) rfl k_138 s_138 (by decide) rfl m_5_146 rfl (hRm (by decide) (by decide)) ⟨Nat.zero_le _, Nat.zero_le _⟩ (Nat.le_of_ble_eq_true rfl) dX11_pilot_2) ?_
  refine g_if_eq X 29 (by decide) dX11_pilot_5 (fun q5 => ?_) (fun q5 => ?_)
  · refine g_aload_n X dX11_pilot_29 0 rfl rfl ?_
    refine g_bipush X dX11_pilot_30 bi_m2 ?_
    refine g_cs X (st := []) (fun _ hh => ok_V X (k0 := 138) (As := [.int (-2)]) wkX11_no (tm_no M (-2) hh) rfl k_138 s_138 (by decide) rfl m_5_150 rfl (hRm (by decide) (by decide)) ⟨Nat.zero_le _, Nat.zero_le _⟩ (Nat.le_of_ble_eq_true rfl) dX11_pilot_32) (fun r2 M1 _ => ?_)
    exact g_iret X hr rfl dX11_pilot_35
  · refine g_iload_n X dX11_pilot_8 2 rfl rfl ?_
    refine g_if_lt X 29 (by decide) dX11_pilot_9 (fun q9 => ?_) (fun q9 => ?_)
    · refine g_aload_n X dX11_pilot_29 0 rfl rfl ?_
      refine g_bipush X dX11_pilot_30 bi_m2 ?_
      refine g_cs X (st := []) (fun _ hh => ok_V X (k0 := 138) (As := [.int (-2)]) wkX11_no (tm_no M (-2) hh) rfl k_138 s_138 (by decide) rfl m_5_150 rfl (hRm (by decide) (by decide)) ⟨Nat.zero_le _, Nat.zero_le _⟩ (Nat.le_of_ble_eq_true rfl) dX11_pilot_32) (fun r4 M3 _ => ?_)
      exact g_iret X hr rfl dX11_pilot_35
    · refine g_iload_n X dX11_pilot_12 2 rfl rfl ?_
      refine g_bipush X dX11_pilot_13 bi_20 ?_
      refine g_icmp_gt X 29 (by decide) dX11_pilot_15 (fun q15 => ?_) (fun q15 => ?_)
      · refine g_aload_n X dX11_pilot_29 0 rfl rfl ?_
        refine g_bipush X dX11_pilot_30 bi_m2 ?_
        refine g_cs X (st := []) (fun _ hh => ok_V X (k0 := 138) (As := [.int (-2)]) wkX11_no (tm_no M (-2) hh) rfl k_138 s_138 (by decide) rfl m_5_150 rfl (hRm (by decide) (by decide)) ⟨Nat.zero_le _, Nat.zero_le _⟩ (Nat.le_of_ble_eq_true rfl) dX11_pilot_32) (fun r6 M5 _ => ?_)
        exact g_iret X hr rfl dX11_pilot_35
      · refine g_iload_n X dX11_pilot_18 3 rfl rfl ?_
        refine g_if_lt X 29 (by decide) dX11_pilot_19 (fun q19 => ?_) (fun q19 => ?_)
        · refine g_aload_n X dX11_pilot_29 0 rfl rfl ?_
          refine g_bipush X dX11_pilot_30 bi_m2 ?_
          refine g_cs X (st := []) (fun _ hh => ok_V X (k0 := 138) (As := [.int (-2)]) wkX11_no (tm_no M (-2) hh) rfl k_138 s_138 (by decide) rfl m_5_150 rfl (hRm (by decide) (by decide)) ⟨Nat.zero_le _, Nat.zero_le _⟩ (Nat.le_of_ble_eq_true rfl) dX11_pilot_32) (fun r8 M7 _ => ?_)
          exact g_iret X hr rfl dX11_pilot_35
        · refine g_iload_n X dX11_pilot_22 3 rfl rfl ?_
          refine g_sipush X dX11_pilot_23 si_999 ?_
          refine g_icmp_le X 36 (by decide) dX11_pilot_26 (fun q26 => ?_) (fun q26 => ?_)
          · refine g_aload_n X dX11_pilot_36 0 rfl rfl ?_
            refine g_iload_n X dX11_pilot_37 1 rfl rfl ?_
            refine g_iload_n X dX11_pilot_38 2 rfl rfl ?_
            refine g_cs X (st := []) (fun _ hh => ok_V X (k0 := 138) (As := [.int a1, .int a2]) wkX11_take (tm_take M a1 a2 hh) rfl k_138 s_138 (by decide) rfl m_6_138 rfl (hRm (by decide) (by decide)) ⟨Nat.zero_le _, Nat.zero_le _⟩ (Nat.le_of_ble_eq_true rfl) dX11_pilot_39) (fun r10 M9 _ => ?_)
            refine g_istore X dX11_pilot_42 (by decide) rfl [1, 3, 4, 0] (lu := [(0, .ref (ad 138)), (2, .int a2), (3, .int a3), (4, .int r10)]) rfl ?_
            refine g_iload X dX11_pilot_44 3 rfl ?_
            refine g_if_ge X 56 (by decide) dX11_pilot_46 (fun q46 => ?_) (fun q46 => ?_)
            · refine g_iconst X dX11_pilot_56 ic_1 ?_
              refine g_istore X dX11_pilot_57 (by decide) rfl [1, 2, 3, 0] (lu := [(0, .ref (ad 138)), (2, .int a2), (3, .int a3), (5, .int 1)]) rfl ?_
              exact Lm_pilot_L59  X hr M9 a2 a3    FU 1
            · refine g_aload_n X dX11_pilot_49 0 rfl rfl ?_
              refine g_iload X dX11_pilot_50 3 rfl ?_
              refine g_cs X (st := []) (fun _ hh => ok_V X (k0 := 138) (As := [.int r10]) wkX11_no (tm_no M9 r10 hh) rfl k_138 s_138 (by decide) rfl m_5_150 rfl (hRm (by decide) (by decide)) ⟨Nat.zero_le _, Nat.zero_le _⟩ (Nat.le_of_ble_eq_true rfl) dX11_pilot_52) (fun r22 M21 _ => ?_)
              exact g_iret X hr rfl dX11_pilot_55
          · refine g_aload_n X dX11_pilot_29 0 rfl rfl ?_
            refine g_bipush X dX11_pilot_30 bi_m2 ?_
            refine g_cs X (st := []) (fun _ hh => ok_V X (k0 := 138) (As := [.int (-2)]) wkX11_no (tm_no M (-2) hh) rfl k_138 s_138 (by decide) rfl m_5_150 rfl (hRm (by decide) (by decide)) ⟨Nat.zero_le _, Nat.zero_le _⟩ (Nat.le_of_ble_eq_true rfl) dX11_pilot_32) (fun r24 M23 _ => ?_)
            exact g_iret X hr rfl dX11_pilot_35
set_option maxRecDepth 100000 in
set_option maxHeartbeats 4000000 in
theorem Lm_still_L57 {l : Launch} {D : va_G} {cy : Nat → ClassId} {ad : Nat → Nat} {N : Mem} {p : Program} {e : Env} {s : State} {m : MethodId} {args : Array Value} {below : List Frame} {meth : Method} {c : Code} (X : Cx p s m args meth c cX11_still 7 RX11 D cy ad (AA ad) (wfM N) sdM) (hr : meth.sig.returnType = (some .int)) (M : Mem) (b2 : Int32) (b4 : Int32) (kx88 : Int32 → Option (Int32 × Mem)) (hkx88 : ∀ (y5 : Int32), GF p l e (Rm 4) s m args below meth c 7 D cy ad (AA ad) 0 0 (wfM N) (QM D cy ad (wfM N) below args s) finS (kx88 y5) 88 [(0, .ref (ad 138)), (2, .int b2), (4, .int b4), (5, .int y5)] [] M) : ∀ (n : Nat) (x5 : Int32) (x6 : Int32), GF p l e (Rm 4) s m args below meth c 7 D cy ad (AA ad) 0 0 (wfM N) (QM D cy ad (wfM N) below args s) finS (fm_still_L57 M b2 b4 kx88 n x5 x6) 57 [(0, .ref (ad 138)), (2, .int b2), (4, .int b4), (5, .int x5), (6, .int x6)] [] M := by
  intro n
  induction n with
  | zero => intro x5 x6; exact g_none
  | succ n ih =>
    intro x5 x6
    rw [fm_still_L57]
    refine g_iload X dX11_still_57 4 rfl ?_
    refine g_iload_n X dX11_still_59 1 rfl rfl ?_
    refine g_icmp_ge X 88 (by decide) dX11_still_60 (fun q60 => ?_) (fun q60 => ?_)
    · refine g_sub (lu := [(0, .ref (ad 138)), (2, .int b2), (4, .int b4), (5, .int x5)]) [0, 1, 2, 3] rfl ?_
      exact hkx88 x5
    · refine g_aload_n X dX11_still_63 0 rfl rfl ?_
      refine g_aload_n X dX11_still_64 0 rfl rfl ?_
      refine get_11_23 X (k := 138) k_138 s_138 m_5_80 dX11_still_65 ?_
      refine g_iload X dX11_still_68 4 rfl ?_
      refine g_iald X (n := 20) (k := 160) k_160 s_160 dX11_still_70 (fun h7 => ?_)
      refine g_iload X dX11_still_71 2 rfl ?_
      refine g_ci X (st := []) (fun _ hh => ok_V X (k0 := 138) (As := [.int (M.1 160 (ix x6)), .int b4]) wkX11_isTimeAt (tm_isTimeAt M (M.1 160 (ix x6)) b4 hh) rfl k_138 s_138 (by decide) rfl m_5_238 rfl (hRm (by decide) (by decide)) ⟨Nat.zero_le _, Nat.zero_le _⟩ (Nat.le_of_ble_eq_true rfl) dX11_still_73) (fun r8 _ => ?_)
      refine g_jlet X 82 (fun z82 : Int32 => [(0, .ref (ad 138)), (2, .int b2), (4, .int b4), (5, .int z82), (6, .int x6)]) (fun z82 : Int32 => []) (fun z82 : Int32 => M) (fun z82 => ?_) (fun J82 hJ82 => ?_)
      · show GF _ _ _ _ _ _ _ _ _ _ _ _ _ _ _ _ _ _ _ _ _ 82 [(0, .ref (ad 138)), (2, .int b2), (4, .int b4), (5, .int z82), (6, .int x6)] [] M
        refine g_iinc X (k := 4) (v := (x6 + 1)) dX11_still_82 rfl (ii_1 _) (by decide) rfl [1, 2, 3, 4, 0] (lu := [(0, .ref (ad 138)), (2, .int b2), (4, .int b4), (5, .int z82), (6, .int (x6 + 1))]) rfl ?_
        refine g_goto X 57 (by decide) dX11_still_85 ?_
        exact ih z82 (x6 + 1)
      refine g_if_ne X 82 (by decide) dX11_still_76 (fun q76 => ?_) (fun q76 => ?_)
      · exact hJ82 x5
      · refine g_iconst X dX11_still_79 ic_0 ?_
        refine g_istore X dX11_still_80 (by decide) rfl [1, 2, 3, 0, 4] (lu := [(0, .ref (ad 138)), (2, .int b2), (4, .int b4), (5, .int 0), (6, .int x6)]) rfl ?_
        exact hJ82 0
set_option maxRecDepth 100000 in
set_option maxHeartbeats 4000000 in
theorem Lm_still_L46 {l : Launch} {D : va_G} {cy : Nat → ClassId} {ad : Nat → Nat} {N : Mem} {p : Program} {e : Env} {s : State} {m : MethodId} {args : Array Value} {below : List Frame} {meth : Method} {c : Code} (X : Cx p s m args meth c cX11_still 7 RX11 D cy ad (AA ad) (wfM N) sdM) (hr : meth.sig.returnType = (some .int)) (M : Mem) (b2 : Int32) : ∀ (n : Nat) (x4 : Int32), GF p l e (Rm 4) s m args below meth c 7 D cy ad (AA ad) 0 0 (wfM N) (QM D cy ad (wfM N) below args s) finS (fm_still_L46 M b2 n x4) 46 [(0, .ref (ad 138)), (2, .int b2), (4, .int x4)] [] M := by
  intro n
  induction n with
  | zero => intro x4; exact g_none
  | succ n ih =>
    intro x4
    rw [fm_still_L46]
    refine g_iload X dX11_still_46 2 rfl ?_
    refine g_if_le X 102 (by decide) dX11_still_48 (fun q48 => ?_) (fun q48 => ?_)
    · refine g_iconst X dX11_still_102 ic_m1 ?_
      exact g_iret X hr rfl dX11_still_103
    · refine g_iconst X dX11_still_51 ic_1 ?_
      refine g_istore X dX11_still_52 (by decide) rfl [1, 2, 3, 0] (lu := [(0, .ref (ad 138)), (2, .int b2), (4, .int x4), (5, .int 1)]) rfl ?_
      refine g_iconst X dX11_still_54 ic_0 ?_
      refine g_istore X dX11_still_55 (by decide) rfl [1, 2, 3, 4, 0] (lu := [(0, .ref (ad 138)), (2, .int b2), (4, .int x4), (5, .int 1), (6, .int 0)]) rfl ?_
      refine Lm_still_L57  X hr M b2 x4  _ (fun w9 => ?_) FU 1 0
      · refine g_iload X dX11_still_88 3 rfl ?_
        refine g_if_eq X 96 (by decide) dX11_still_90 (fun q90 => ?_) (fun q90 => ?_)
        · refine g_iinc X (k := 2) (v := (x4 + (-1))) dX11_still_96 rfl (ii_m1 _) (by decide) rfl [1, 2, 0] (lu := [(0, .ref (ad 138)), (2, .int b2), (4, .int (x4 + (-1)))]) rfl ?_
          refine g_goto X 46 (by decide) dX11_still_99 ?_
          exact ih (x4 + (-1))
        · refine g_iload X dX11_still_93 2 rfl ?_
          exact g_iret X hr rfl dX11_still_95
set_option maxRecDepth 100000 in
set_option maxHeartbeats 4000000 in
theorem tm_still {l : Launch} {D : va_G} {cy : Nat → ClassId} {ad : Nat → Nat} {N : Mem} (M : Mem) (a1 : Int32) (a2 : Int32) {x : (Int32 × Mem)} (h : fm_still M a1 a2 = some x) : Mt l D cy ad yX11_still cX11_still 7 (some .int) 4 [.ref (ad 138), .int a1, .int a2] ((wfM N) M) (some (.int x.1), (wfM N) x.2) := by
  refine met_of (fin := finS) (lv0 := [(0, .ref (ad 138)), (1, .int a1), (2, .int a2)]) (by decide) (Nat.le_of_ble_eq_true rfl) rfl (lM N) h (fun p e s m args below meth c X hr => ?_)
  unfold fm_still
  refine g_aload_n X dX11_still_0 0 rfl rfl ?_
  refine g_iload_n X dX11_still_1 1 rfl rfl ?_
  refine g_ct X (v0 := .int (fm_isShelfT M a1)) (st := []) (ok_V X (k0 := 138) (As := [.int a1]) wkX11_isShelf (tm_isShelfT M a1) rfl k_138 s_138 (by decide) rfl m_5_146 rfl (hRm (by decide) (by decide)) ⟨Nat.zero_le _, Nat.zero_le _⟩ (Nat.le_of_ble_eq_true rfl) dX11_still_2) ?_
  refine g_if_eq X 18 (by decide) dX11_still_5 (fun q5 => ?_) (fun q5 => ?_)
  · refine g_aload_n X dX11_still_18 0 rfl rfl ?_
    refine g_bipush X dX11_still_19 bi_m2 ?_
    refine g_cs X (st := []) (fun _ hh => ok_V X (k0 := 138) (As := [.int (-2)]) wkX11_no (tm_no M (-2) hh) rfl k_138 s_138 (by decide) rfl m_5_150 rfl (hRm (by decide) (by decide)) ⟨Nat.zero_le _, Nat.zero_le _⟩ (Nat.le_of_ble_eq_true rfl) dX11_still_21) (fun r2 M1 _ => ?_)
    exact g_iret X hr rfl dX11_still_24
  · refine g_iload_n X dX11_still_8 2 rfl rfl ?_
    refine g_if_lt X 18 (by decide) dX11_still_9 (fun q9 => ?_) (fun q9 => ?_)
    · refine g_aload_n X dX11_still_18 0 rfl rfl ?_
      refine g_bipush X dX11_still_19 bi_m2 ?_
      refine g_cs X (st := []) (fun _ hh => ok_V X (k0 := 138) (As := [.int (-2)]) wkX11_no (tm_no M (-2) hh) rfl k_138 s_138 (by decide) rfl m_5_150 rfl (hRm (by decide) (by decide)) ⟨Nat.zero_le _, Nat.zero_le _⟩ (Nat.le_of_ble_eq_true rfl) dX11_still_21) (fun r4 M3 _ => ?_)
      exact g_iret X hr rfl dX11_still_24
    · refine g_iload_n X dX11_still_12 2 rfl rfl ?_
      refine g_bipush X dX11_still_13 bi_20 ?_
      refine g_icmp_le X 25 (by decide) dX11_still_15 (fun q15 => ?_) (fun q15 => ?_)
      · refine g_aload_n X dX11_still_25 0 rfl rfl ?_
        refine g_iload_n X dX11_still_26 1 rfl rfl ?_
        refine g_iload_n X dX11_still_27 2 rfl rfl ?_
        refine g_cs X (st := []) (fun _ hh => ok_V X (k0 := 138) (As := [.int a1, .int a2]) wkX11_take (tm_take M a1 a2 hh) rfl k_138 s_138 (by decide) rfl m_6_138 rfl (hRm (by decide) (by decide)) ⟨Nat.zero_le _, Nat.zero_le _⟩ (Nat.le_of_ble_eq_true rfl) dX11_still_28) (fun r6 M5 _ => ?_)
        refine g_istore_n X dX11_still_31 rfl (by decide) rfl [1, 3, 0] (lu := [(0, .ref (ad 138)), (2, .int a2), (3, .int r6)]) rfl ?_
        refine g_iload_n X dX11_still_32 2 rfl rfl ?_
        refine g_if_ge X 42 (by decide) dX11_still_33 (fun q33 => ?_) (fun q33 => ?_)
        · refine g_bipush X dX11_still_42 bi_9 ?_
          refine g_istore X dX11_still_44 (by decide) rfl [1, 2, 0] (lu := [(0, .ref (ad 138)), (2, .int a2), (4, .int 9)]) rfl ?_
          exact Lm_still_L46  X hr M5 a2    FU 9
        · refine g_aload_n X dX11_still_36 0 rfl rfl ?_
          refine g_iload_n X dX11_still_37 2 rfl rfl ?_
          refine g_cs X (st := []) (fun _ hh => ok_V X (k0 := 138) (As := [.int r6]) wkX11_no (tm_no M5 r6 hh) rfl k_138 s_138 (by decide) rfl m_5_150 rfl (hRm (by decide) (by decide)) ⟨Nat.zero_le _, Nat.zero_le _⟩ (Nat.le_of_ble_eq_true rfl) dX11_still_38) (fun r11 M10 _ => ?_)
          exact g_iret X hr rfl dX11_still_41
      · refine g_aload_n X dX11_still_18 0 rfl rfl ?_
        refine g_bipush X dX11_still_19 bi_m2 ?_
        refine g_cs X (st := []) (fun _ hh => ok_V X (k0 := 138) (As := [.int (-2)]) wkX11_no (tm_no M (-2) hh) rfl k_138 s_138 (by decide) rfl m_5_150 rfl (hRm (by decide) (by decide)) ⟨Nat.zero_le _, Nat.zero_le _⟩ (Nat.le_of_ble_eq_true rfl) dX11_still_21) (fun r13 M12 _ => ?_)
        exact g_iret X hr rfl dX11_still_24
