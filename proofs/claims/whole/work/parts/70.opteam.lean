-- team
theorem team_go {c : Nat} {C N : Mem} (h : Rel c C N) {a1 a2 a3 a4 : Int32} {cap P n : Nat} (hc : a2 = nI cap) (hcap : cap ≤ 6) (hcap0 : 0 < cap) (q1 : 0 ≤ a3.toInt) (q2 : a3.toInt < 12) (hP : P ≤ 6) (hPn : N.1 156 2 = nI P) {js : Nat → Nat} (hn : n ≤ 6) (hnP : n ≤ P * cap) (hj : ∀ i, i < n → (js i : Int) < (N.1 156 0).toInt) (ha : ∀ i j, i < j → j < n → js i < js j) (hs : ∀ C1 : Mem, ∃ C', fc_readSet_2 C1 a1 = some (nI n, C') ∧ (∀ q, q ≠ 131 → C'.1 q = C1.1 q) ∧ C'.2 = C1.2 ∧ ∀ i, i < n → C'.1 131 i = nI (js i)) (h2 : ∀ i, i < n → N.1 162 i = nI (js i)) (h4 : (a4 = -1 ∧ ¬ 0 ≤ a4) ∨ (¬ a4 = -1 ∧ 0 ≤ a4)) : Sim c (Option.bind (fTeamSearch_find C a1 a2 a3) (fun M9 => (if a4 = ((-1) : Int32) then (some ((M9.1 130 0), M9)) else (Option.bind (fTeamSearch_leaperOfJetty M9 a4) (fun r10 => (some (r10, M9))))))) (fm_team_L95 N a2 a3 a4 (nI n) (fun w12 => (fm_team_L125 a2 a3 a4 (nI n) w12 (fun w33 M34 => (if 0 ≤ a4 then (fm_team_L346 M34 a4 (nI n) FU (-1) 0) else (some (w33, M34)))) FU (-1) 0 N)) FU 1 0) := by
  have u0 : (N.1 156 0).toInt ≤ 20 := (LeapOK.of h).u0
  have hz : n = 0 ∨ 0 < P := by
    rcases Nat.eq_zero_or_pos P with z | z
    · rw [z, Nat.zero_mul] at hnP; exact Or.inl (by omega)
    · exact Or.inr z
  obtain ⟨C', f1, f2, f3, f4, f5⟩ := tfind_e h hc hcap q1 q2 hP hPn hn hz hj hs
  have t95 := t95_L (M := N) hP hPn hn (b2 := a2) (b3 := a3) (b4 := a4) (kx := (fun w12 => (fm_team_L125 a2 a3 a4 (nI n) w12 (fun w33 M34 => (if 0 ≤ a4 then (fm_team_L346 M34 a4 (nI n) FU (-1) 0) else (some (w33, M34)))) FU (-1) 0 N))) n 0 (by omega) FU (by rw [FU_eq]; omega)
  rw [Nat.pow_zero, show nI 1 = 1 from rfl, show nI 0 = 0 from rfl] at t95
  have hX := pow_b P hP n hn
  obtain ⟨x7, M, g1, g2, g3, g4⟩ := teams_L h q1 q2 hP hPn hn hz hcap hj (X := P ^ n) (by omega) (b4 := a4) (kx := (fun w33 M34 => (if 0 ≤ a4 then (fm_team_L346 M34 a4 (nI n) FU (-1) 0) else (some (w33, M34))))) (P ^ n) 0 (by omega) none (-1) N same_r h2 rfl FU (by rw [FU_eq]; omega)
  rw [← hc, show nI 0 = 0 from rfl] at g1
  obtain ⟨s, hsome⟩ := team_some (rk := rk2 N js (ix a3)) hcap0 hnP
  rw [hsome] at f5 g4
  obtain ⟨k1, k2, k3⟩ := f5
  obtain ⟨m1, m2, m3⟩ := g4
  have hR : Rel (c + 1) C' M := Rel_next (Rel_same0 f2 same_r rfl rfl g2)
  rw [f1, Option.bind_some, t95, g1]
  rcases h4 with ⟨z1, z2⟩ | ⟨z1, z2⟩
  · rw [if_pos z1, if_neg z2]
    exact ⟨x7, C', M, by rw [k1, m1], rfl, hR⟩
  · rw [if_neg z1, if_pos z2]
    unfold fTeamSearch_leaperOfJetty
    have hjb : ∀ p, p < n → js p < 20 := fun p hp => by have := hj p hp; omega
    have wl := who_L (C := C') (M := M) (v := atR s) (a4 := a4) hn hjb ha f3 f4 k2 (by rw [g3]; exact h2) m2 n 0 (by omega) FU FU (by rw [FU_eq]; omega) (by rw [FU_eq]; omega)
    rw [show nI 0 = 0 from rfl] at wl
    rcases wl with ⟨p, -, -, -, w4, w5⟩ | ⟨-, w4, w5⟩
    · rw [w4, w5, Option.bind_some]
      exact ⟨_, C', M, rfl, rfl, hR⟩
    · rw [w4, w5, Option.bind_some]
      exact ⟨_, C', M, rfl, rfl, hR⟩
theorem op_team {c : Nat} {C N : Mem} (h : Rel c C N) (a1 a2 a3 a4 : Int32) : Sim c (fc_team C a1 a2 a3 a4) (fm_team N a1 a2 a3 a4) := by
  obtain ⟨e2, l2, u2⟩ := h.1.1.2.2.1
  obtain ⟨e0, l0, u0⟩ := h.1.1.1
  rcases sets_t h a1 with ⟨s1, N', m1, m2, m3⟩ | ⟨s1, A, n, hA, hAe, hn, hnb, hbc, hj, ⟨N', m1, m2, m3, m4⟩, -, hc2⟩
  · have hR' : Rel c C N' := Rel_same0 h same_r rfl rfl (same_of m2 m3 (by omega))
    refine sim_2 hR' ?_ ?_
    · unfold fc_team
      rw [s1, Option.bind_some, if_pos rfl, bind_eta]
    · unfold fm_team
      rw [m1, Option.bind_some]
      dsimp only
      rw [if_pos (by decide), bind_eta]
  have hR' : Rel c C N' := Rel_same0 h same_r rfl rfl (same_of m2 m3 (by omega))
  have N156 : N'.1 156 = N.1 156 := m2 156 (by omega)
  have tn := t_nI (show n < 2147483648 by omega)
  have c0 : ¬ (1 : Int32) = 0 := by decide
  have c3 : ¬ nI n < 0 := by rw [t_lt, tn, li_0]; omega
  have t6 : (6 : Int32).toInt = 6 := rfl
  by_cases q2 : a2.toInt < 1 ∨ 6 < a2.toInt
  · refine sim_2 hR' ?_ ?_
    · unfold fc_team
      rw [s1, Option.bind_some, if_neg c0, if_pos (by rw [within_0, li_1, t6]; exact q2), bind_eta]
    · unfold fm_team
      rw [m1, Option.bind_some]
      dsimp only
      rw [if_neg c3]
      by_cases w : a2 < 1
      · rw [if_pos w, bind_eta]
      · rw [if_neg w, if_pos (by rw [t_lt, t6]; rw [t_lt, li_1] at w; omega), bind_eta]
  have d1 : ¬ fc_isWithinT C a2 1 6 = 0 := by rw [within_0, li_1, t6]; exact q2
  have d2 : ¬ a2 < 1 := by rw [t_lt, li_1]; omega
  have d3 : ¬ (6 : Int32) < a2 := by rw [t_lt, t6]; omega
  by_cases q3 : a3.toInt < 0 ∨ 12 ≤ a3.toInt
  · refine sim_2 hR' ?_ ?_
    · unfold fc_team
      rw [s1, Option.bind_some, if_neg c0, if_neg d1, if_pos (by rw [hour_0]; exact q3), bind_eta]
    · unfold fm_team
      rw [m1, Option.bind_some]
      dsimp only
      rw [if_neg c3, if_neg d2, if_neg d3, if_pos (by rw [mhour_0]; exact q3), bind_eta]
  have d4 : ¬ fc_isHourT C a3 = 0 := by rw [hour_0]; exact q3
  have d5 : ¬ fm_isHourT N' a3 = 0 := by rw [mhour_0]; exact q3
  -- whom is asked for
  have ask : (¬ a4 = -1 ∧ fc_isInSetT C a4 a1 = 0 ∧ (fm_isJettyT N' a4 = 0 ∨ (¬ fm_isJettyT N' a4 = 0 ∧ ((a1 >>> (a4 &&& 31)) &&& 1) = 0))) ∨ ((a4 = -1 ∧ ¬ 0 ≤ a4) ∨ ((¬ a4 = -1 ∧ 0 ≤ a4) ∧ ¬ fc_isInSetT C a4 a1 = 0 ∧ ¬ fm_isJettyT N' a4 = 0 ∧ ¬ ((a1 >>> (a4 &&& 31)) &&& 1) = 0)) := by
    by_cases z : a4 = -1
    · exact Or.inr (Or.inl ⟨z, by rw [z]; decide⟩)
    by_cases y : a4.toInt < 0 ∨ (N.1 156 0).toInt ≤ a4.toInt
    · refine Or.inl ⟨z, ?_, Or.inl (by rw [mjetty_0, N156]; exact y)⟩
      unfold fc_isInSetT
      rw [if_pos (by rw [jetty_0, e0]; exact y)]
    · have ja : ¬ fc_isJettyT C a4 = 0 := by rw [jetty_0, e0]; exact y
      have jm : ¬ fm_isJettyT N' a4 = 0 := by rw [mjetty_0, N156]; exact y
      have o4 := of_ix (a := a4) (by omega)
      have i4 := t_ix (a := a4) (by omega)
      have eb : (a1 >>> (a4 &&& 31)) &&& 1 = nI (A / 2 ^ ix a4 % 2) := by
        conv => lhs; rw [hAe, o4]
        rw [nI_sar (by omega) (by omega), nI_b1]
      unfold fc_isInSetT
      rw [if_neg ja, eb]
      by_cases w : A / 2 ^ ix a4 % 2 = 1
      · refine Or.inr (Or.inr ⟨⟨z, by rw [t_le, li_0]; omega⟩, ?_, jm, ?_⟩)
        · rw [w, if_pos (show nI 1 = 1 from rfl)]; decide
        · rw [w]; decide
      · have w0 : A / 2 ^ ix a4 % 2 = 0 := by omega
        refine Or.inl ⟨z, ?_, Or.inr ⟨jm, ?_⟩⟩
        · rw [w0, if_neg (by decide)]
        · rw [w0]; rfl
  rcases ask with ⟨z1, z2, z3⟩ | ask
  · refine sim_2 hR' ?_ ?_
    · unfold fc_team
      rw [s1, Option.bind_some, if_neg c0, if_neg d1, if_neg d4, jlet_e, if_neg z1, if_pos z2, bind_eta]
    · unfold fm_team
      rw [m1, Option.bind_some]
      dsimp only
      rw [if_neg c3, if_neg d2, if_neg d3, if_neg d5, jlet_e, if_neg z1]
      rcases z3 with z3 | ⟨z3, z4⟩
      · rw [if_pos z3, bind_eta]
      · rw [if_neg z3, if_pos z4, bind_eta]
  have hcl : fc_team C a1 a2 a3 a4 = if nI n ≤ (C.1 20 7) * a2 then (Option.bind (fTeamSearch_find C a1 a2 a3) (fun M9 => (if a4 = ((-1) : Int32) then (some ((M9.1 130 0), M9)) else (Option.bind (fTeamSearch_leaperOfJetty M9 a4) (fun r10 => (some (r10, M9))))))) else fc_refuse C (-5) := by
    unfold fc_team
    rw [s1, Option.bind_some, if_neg c0, if_neg d1, if_neg d4, jlet_e, hbc, Option.bind_some, bind_eta]
    rcases ask with ⟨z1, -⟩ | ⟨⟨z1, -⟩, z2, -⟩
    · rw [if_pos z1]
    · rw [if_neg z1, if_neg z2]
  have hml : fm_team N a1 a2 a3 a4 = if nI n ≤ (N'.1 156 2) * a2 then (fm_team_L95 N' a2 a3 a4 (nI n) (fun w12 => (fm_team_L125 a2 a3 a4 (nI n) w12 (fun w33 M34 => (if 0 ≤ a4 then (fm_team_L346 M34 a4 (nI n) FU (-1) 0) else (some (w33, M34)))) FU (-1) 0 N')) FU 1 0) else fm_no N' (-5) := by
    unfold fm_team
    rw [m1, Option.bind_some]
    dsimp only
    rw [if_neg c3, if_neg d2, if_neg d3, if_neg d5, jlet_e, bind_eta, ix_2]
    rcases ask with ⟨z1, -⟩ | ⟨⟨z1, -⟩, -, z2, z3⟩
    · rw [if_pos z1]
    · rw [if_neg z1, if_neg z2, if_neg z3]
  have i2 := t_ix (a := a2) (by omega)
  have o2 := of_ix (a := a2) (by omega)
  have iP := t_ix l2
  have oP := of_ix l2
  have hm : ((ix (N.1 156 2) : Int) * (ix a2 : Int)) = ((ix (N.1 156 2) * ix a2 : Nat) : Int) := (Int.natCast_mul _ _).symm
  have hb36 : ix (N.1 156 2) * ix a2 ≤ 6 * 6 := Nat.mul_le_mul (by omega) (by omega)
  have tm : ((N.1 156 2) * a2).toInt = ((ix (N.1 156 2) * ix a2 : Nat) : Int) := by
    rw [t_mul (by rw [← iP, ← i2, hm]; omega) (by rw [← iP, ← i2, hm]; omega), ← iP, ← i2, hm]
  rw [hcl, hml, N156, e2]
  by_cases w : nI n ≤ N.1 156 2 * a2
  · rw [if_pos w, if_pos w]
    rw [t_le, tm, tn] at w
    refine team_go hR' (cap := ix a2) (P := ix (N.1 156 2)) (js := el A 20) o2 (by omega) (by omega) (by omega) (by omega) (by omega) (by rw [N156]; exact oP) hn (by omega) (by rw [N156]; exact hj) (fun i j x y => el_asc A 20 i j x (by omega)) hc2 m4 ?_
    rcases ask with z | ⟨z, -⟩
    · exact Or.inl z
    · exact Or.inr z
  · rw [if_neg w, if_neg w]
    exact sim_5 hR' rfl rfl
