set_option maxRecDepth 100000 in
set_option maxHeartbeats 4000000 in
theorem known_K {args : Array Value} {s : State} (hTB : ∀ w ∈ TB, w.before args s = true) (hts : ∀ w ∈ lw_tbl, w.before args s = true) : ∃ (D : va_G) (cy : Nat → ClassId), va_K D vwCl (tys cy) s ∧ va_AO RX0 s ∧ va_AO RX2 s ∧ va_AO RX3 s ∧ va_AO RX5 s := by
  obtain ⟨c0, i0, k0⟩ := u_known (C := RX0) (T := TX0) (N := 5) (n := 5) hTB inX0 (hTB _ m_1_104)
  obtain ⟨c1, i1, k1⟩ := u_known (C := RX1) (T := TX1) (N := 16) (n := 16) hTB inX1 (hTB _ m_1_49)
  obtain ⟨c2, i2, k2⟩ := u_known (C := RX2) (T := TX2) (N := 1) (n := 1) hTB inX2 (hTB _ m_1_134)
  obtain ⟨c3, i3, k3⟩ := u_known (C := RX3) (T := TX3) (N := 3) (n := 3) hTB inX3 (hTB _ m_1_155)
  obtain ⟨c4, i4, k4⟩ := u_known (C := RX4) (T := TX4) (N := 10) (n := 10) hTB inX4 (hTB _ m_2_25)
  obtain ⟨c5, i5, k5⟩ := u_known (C := RX5) (T := TX5) (N := 4) (n := 4) hTB inX5 (hTB _ m_2_103)
  obtain ⟨c6, i6, k6⟩ := u_known (C := RX6) (T := TX6) (N := 3) (n := 3) hTB inX6 (hTB _ m_1_31)
  obtain ⟨c7, i7, k7⟩ := u_known (C := RX7) (T := TX7) (N := 10) (n := 10) hTB inX7 (hTB _ m_2_66)
  obtain ⟨c8, i8, k8⟩ := u_known (C := RX8) (T := TX8) (N := 3) (n := 3) hTB inX8 (hTB _ m_2_5)
  obtain ⟨c9, i9, k9⟩ := u_known (C := RX9) (T := TX9) (N := 8) (n := 8) hTB inX9 (hTB _ m_1_61)
  obtain ⟨c10, i10, k10⟩ := u_known (C := RX10) (T := TX10) (N := 11) (n := 11) hTB inX10 (hTB _ m_1_21)
  obtain ⟨c11, i11, k11⟩ := u_known (C := RX11) (T := TX11) (N := 28) (n := 28) hTB inX11 (hTB _ m_5_52)
  obtain ⟨a0, ka0, co0, x0, y0, z0⟩ := Cond.arrayClass_spec (hTB _ m_1_47)
  obtain ⟨a1, ka1, co1, x1, y1, z1⟩ := Cond.arrayClass_spec (hTB _ m_1_103)
  obtain ⟨a2, ka2, co2, x2, y2, z2⟩ := Cond.arrayClass_spec (hTB _ m_2_125)
  obtain ⟨a3, ka3, co3, x3, y3, z3⟩ := Cond.arrayClass_spec (hTB _ m_2_64)
  have ao0 : va_AO RX0 s := va_AO.of (A := args) (hts _ (tb_1 (List.mem_of_getElem? (i := 55) (by decide +kernel))))
  obtain ⟨co4, a4, ka4, u4, -, y4, z4, x4⟩ := Cond.arrayOver_spec ao0
  have ao2 : va_AO RX2 s := va_AO.of (A := args) (hts _ (tb_1 (List.mem_of_getElem? (i := 57) (by decide +kernel))))
  obtain ⟨co5, a5, ka5, u5, -, y5, z5, x5⟩ := Cond.arrayOver_spec ao2
  have ao3 : va_AO RX3 s := va_AO.of (A := args) (hts _ (tb_1 (List.mem_of_getElem? (i := 59) (by decide +kernel))))
  obtain ⟨co6, a6, ka6, u6, -, y6, z6, x6⟩ := Cond.arrayOver_spec ao3
  have ao5 : va_AO RX5 s := va_AO.of (A := args) (hts _ (tb_1 (List.mem_of_getElem? (i := 29) (by decide +kernel))))
  obtain ⟨co7, a7, ka7, u7, -, y7, z7, x7⟩ := Cond.arrayOver_spec ao5
  refine ⟨(fun c => if c = 0 then c0 else if c = 1 then c1 else if c = 2 then c2 else if c = 3 then c3 else if c = 4 then c4 else if c = 5 then c5 else if c = 6 then c6 else if c = 7 then c7 else if c = 8 then c8 else if c = 9 then c9 else if c = 10 then c10 else c11, fun c => if c = 0 then i0 else if c = 1 then i1 else if c = 2 then i2 else if c = 3 then i3 else if c = 4 then i4 else if c = 5 then i5 else if c = 6 then i6 else if c = 7 then i7 else if c = 8 then i8 else if c = 9 then i9 else if c = 10 then i10 else i11), fun t => if t = 0 then a0 else if t = 1 then a1 else if t = 2 then a2 else if t = 3 then a3 else if t = 4 then a4 else if t = 5 then a5 else if t = 6 then a6 else a7, ⟨fun c q hq => ?_, fun k q hq => ?_⟩, ao0, ao2, ao3, ao5⟩
  · have hc : c < 12 := by
      have := (List.getElem?_eq_some_iff.mp hq).1
      exact this
    rcases (show c = 0 ∨ c = 1 ∨ c = 2 ∨ c = 3 ∨ c = 4 ∨ c = 5 ∨ c = 6 ∨ c = 7 ∨ c = 8 ∨ c = 9 ∨ c = 10 ∨ c = 11 by omega) with rfl | rfl | rfl | rfl | rfl | rfl | rfl | rfl | rfl | rfl | rfl | rfl
    · cases hq; exact k0
    · cases hq; exact k1
    · cases hq; exact k2
    · cases hq; exact k3
    · cases hq; exact k4
    · cases hq; exact k5
    · cases hq; exact k6
    · cases hq; exact k7
    · cases hq; exact k8
    · cases hq; exact k9
    · cases hq; exact k10
    · cases hq; exact k11
  · have hk : k < 8 := by
      have := (List.getElem?_eq_some_iff.mp hq).1
      exact this
    rcases (show k = 0 ∨ k = 1 ∨ k = 2 ∨ k = 3 ∨ k = 4 ∨ k = 5 ∨ k = 6 ∨ k = 7 by omega) with rfl | rfl | rfl | rfl | rfl | rfl | rfl | rfl
    · cases hq; exact ⟨fun n z => ⟨fun k h => (by cases h), ka0, y0, co0, z0⟩, x0⟩
    · cases hq; exact ⟨fun n z => ⟨fun k h => (by cases h), ka1, y1, co1, z1⟩, x1⟩
    · cases hq; exact ⟨fun n z => ⟨fun k h => (by cases h), ka2, y2, co2, z2⟩, x2⟩
    · cases hq; exact ⟨fun n z => ⟨fun k h => (by cases h), ka3, y3, co3, z3⟩, x3⟩
    · cases hq; exact ⟨fun n z => ⟨fun k h => (by cases h), ka4, y4, co4, z4⟩, ka4, co4, y4, z4, u4, x4⟩
    · cases hq; exact ⟨fun n z => ⟨fun k h => (by cases h), ka5, y5, co5, z5⟩, ka5, co5, y5, z5, u5, x5⟩
    · cases hq; exact ⟨fun n z => ⟨fun k h => (by cases h), ka6, y6, co6, z6⟩, ka6, co6, y6, z6, u6, x6⟩
    · cases hq; exact ⟨fun n z => ⟨fun k h => (by cases h), ka7, y7, co7, z7⟩, ka7, co7, y7, z7, u7, x7⟩
set_option maxRecDepth 100000 in
set_option maxHeartbeats 4000000 in
/-- from the entry to the loop -/
theorem whole_start {p : Program} {e : Env} {s : State} {m : MethodId} {below : List Frame} {meth : Method} {c : Code} (l : Launch) (hflags : l.flags = flags0) {b L : Nat} {xs : Nat → Int32} (hL : L ≤ 384) (C0 : lw_At p s m meth c b L xs) : W p l e room_1 s m #[Value.ref b] below meth c s.heap [] 0 0 (lw_Z below #[Value.ref b] s) (entryFrame m ([Value.ref b] : List Value).toArray 4) := by
  obtain ⟨hexec, hcode, hret, hml, hown, hts, hX, hbl, hlocks, hgv⟩ := C0
  have hTB : ∀ w ∈ TB, w.before #[Value.ref b] s = true := fun w hw => hts w (List.mem_filter.mp hw).1
  obtain ⟨D, cy, hK, o0, o2, o3, o5⟩ := known_K hTB hts
  obtain ⟨sa, hSV, t0, q0, x0, Z0, l0⟩ := stat_SV hgv hts
  have hA : ¬ s.heap.size ≤ t0 := Nat.not_le.mpr l0
  have hE : EVA D cy s.heap.size t0 s := ⟨hK, ⟨Z0, x0, l0, hA⟩, o0, o2, o3, o5⟩
  have X : CxA p s m #[Value.ref b] meth c cL_law 4 RL D cy s.heap.size t0 0 := ⟨⟨hexec, hcode, hml, hown, hlocks⟩, hTB, hE, rfl⟩
  have XL : LX p s m #[Value.ref b] meth c D cy (adf s.heap.size sa) (fun q => s.heap.size ≤ q) 161 2508 b L xs := ⟨⟨hexec, hcode, hml, hown, hlocks⟩, hTB, ⟨hK, adf_adj, fun k hk => by show s.heap.size ≤ adf s.heap.size sa k; rw [adf_lt hk]; omega, hSV⟩, ⟨hX, hbl, Nat.not_le.mpr hbl, hL⟩, Nat.le_of_ble_eq_true rfl, Nat.le_of_ble_eq_true rfl⟩
  have hl := lv_entry ([Value.ref b] : List Value) (n := 4) (Nat.le_of_ble_eq_true rfl)
  rw [lg_entry_eq]
  have go : GA p l e room_1 s m #[Value.ref b] below meth c 4 D s.heap.size 0 (lw_Z below #[Value.ref b] s) (fun _ => .inr (0, [])) 0 0 0 [(0, .ref b)] [] := by
    refine a_new X (ci := 10) (C := RX10) (T := TX10) (N := 11) rfl inX10 tyX10 tyX10_ok m_1_20 m_1_21 m_1_1 fr_10 ⟨Nat.le_of_ble_eq_true rfl, Nat.le_of_ble_eq_true rfl⟩ dL_law_0 ?_
    refine a_dup X dL_law_3 rfl ?_
    refine a_call X wi_10 (c_10 (o := 0 + 0) (by omega) upE_s) m_1_22 ⟨Nat.le_of_ble_eq_true rfl, Nat.le_of_ble_eq_true rfl⟩ ⟨Nat.le_of_ble_eq_true rfl, Nat.le_of_ble_eq_true rfl⟩ (Nat.le_of_ble_eq_true rfl) dL_law_4 ?_
    show GA _ _ _ _ _ _ _ _ _ _ _ _ _ _ _ (Eb cy s.heap.size) 134 1348 _ _ _
    refine a_astore X (lu := [(0, .ref b), (1, .ref (s.heap.size + 0))]) dL_law_7 rfl (by omega) rfl [1, 0] rfl ?_
    refine a_new X (ci := 11) (C := RX11) (T := TX11) (N := 28) rfl inX11 tyX11 tyX11_ok m_5_51 m_5_52 m_1_13 fr_11 ⟨Nat.le_of_ble_eq_true rfl, Nat.le_of_ble_eq_true rfl⟩ dL_law_8 ?_
    refine a_dup X dL_law_11 rfl ?_
    refine a_call X wi_11 (c_11 (o := 0 + 134) (by omega) upE_s) m_5_53 ⟨Nat.le_of_ble_eq_true rfl, Nat.le_of_ble_eq_true rfl⟩ ⟨Nat.le_of_ble_eq_true rfl, Nat.le_of_ble_eq_true rfl⟩ (Nat.le_of_ble_eq_true rfl) dL_law_12 ?_
    show GA _ _ _ _ _ _ _ _ _ _ _ _ _ _ _ (Ed cy s.heap.size) 161 2508 _ _ _
    refine a_astore X (lu := [(0, .ref b), (1, .ref (s.heap.size + 0)), (2, .ref (s.heap.size + 134))]) dL_law_15 rfl (by omega) rfl [1, 2, 0] rfl ?_
    refine a_iconst X (v := 0) dL_law_16 (by decide) ?_
    refine a_istore X (lu := [(0, .ref b), (1, .ref (s.heap.size + 0)), (2, .ref (s.heap.size + 134)), (3, .int 0)]) dL_law_17 rfl (by omega) rfl [1, 2, 3, 0] rfl ?_
    intro H locs ls hl1 hz hP hS
    exact law_loop XL hret 64 0 C0 N0 (by omega) Rel_0 H locs ls hl1 (start_P hP) hS
  exact go s.heap [] _ hl (Nat.le_refl _) (fun k q hq => by rw [gw_none (by omega)] at hq; cases hq) va_S.rf

