-- begin
theorem same_rI' {M M1 : Mem} {k lo hi : Nat} {f : Nat → Int32} (h : same lo hi M M1) (hk : k < lo ∨ hi < k) : same lo hi M (rowI M1 k f) := same_t h (same_rI hk)
theorem row_rI' {M1 : Mem} {k a : Nat} {f : Nat → Int32} {x : Nat → Int32} (h : M1.1 a = x) (hk : a ≠ k) : (rowI M1 k f).1 a = x := by rw [rowI_1, if_neg hk]; exact h
theorem el_rI' {M1 : Mem} {k a b : Nat} {f : Nat → Int32} {x : Int32} (h : M1.1 a b = x) (hk : a ≠ k) : (rowI M1 k f).1 a b = x := by rw [rowI_1, if_neg hk]; exact h
theorem beg_1 (b : Int32) (kx : Mem → Option (Int32 × Mem)) (n : Nat) (M : Mem) : fm_begin_L77 b kx (n + 8) 3 M = kx (wI (wI (wI (wI M 157 3 0) 157 4 0) 157 5 0) 157 6 0) := rfl
theorem t_8 {k : Nat} (h : k < 100) : ((8 : Int32) + nI k).toInt = 8 + (k : Int) ∧ ix ((8 : Int32) + nI k) = k + 8 := by
  have tk := t_nI (show k < 2147483648 by omega)
  have e : ((8 : Int32) + nI k).toInt = 8 + (k : Int) := by rw [t_add] <;> rw [tk] <;> simp only [Int32.reduceToInt] <;> omega
  have i := t_ix (a := (8 : Int32) + nI k) (by omega)
  exact ⟨e, by omega⟩
theorem beg_2 {m : Nat} (hm : m ≤ 20) : ∀ (n k : Nat), k + n = m → ∀ (M : Mem) (F1 : Nat), n < F1 → ∃ N', fm_begin_L115 (nI m) F1 (nI k) M = some (nI m, N') ∧ (∀ q, q ≠ 157 → N'.1 q = M.1 q) ∧ N'.2 = M.2 ∧ (∀ i, i < k + 8 → N'.1 157 i = M.1 157 i) ∧ ∀ i, k ≤ i → i < m → N'.1 157 (i + 8) = M.1 160 i := by
  have tm := t_nI (show m < 2147483648 by omega)
  intro n
  induction n with
  | zero =>
    intro k hk M F1 h1
    obtain ⟨F1, rfl⟩ : ∃ m, F1 = m + 1 := ⟨F1 - 1, by omega⟩
    have tk := t_nI (show k < 2147483648 by omega)
    rw [fm_begin_L115, if_pos (by rw [t_le, tk, tm]; omega)]
    exact ⟨M, rfl, fun _ _ => rfl, rfl, fun _ _ => rfl, fun i x y => by omega⟩
  | succ n ih =>
    intro k hk M F1 h1
    obtain ⟨F1, rfl⟩ : ∃ m, F1 = m + 1 := ⟨F1 - 1, by omega⟩
    have tk := t_nI (show k < 2147483648 by omega)
    have xk := ix_nI (show k < 2147483648 by omega)
    obtain ⟨q1, q2⟩ := t_8 (k := k) (by omega)
    rw [fm_begin_L115, if_neg (by rw [t_le, tk, tm]; omega), gd_t (b_in (by omega) (by omega)), gd_t (b_in (by omega) (by omega)), mlet_e, q2, xk, nI_1]
    obtain ⟨N', r1, r2, r3, r4, r5⟩ := ih (k + 1) (by omega) (wI M 157 (k + 8) (M.1 160 k)) F1 (by omega)
    refine ⟨N', r1, fun q hq => (r2 q hq).trans (wI_row _ _ _ _ hq), r3, fun i hi => (r4 i (by omega)).trans (mem_fst (by omega)), fun i x y => ?_⟩
    by_cases e : i = k
    · rw [e, r4 (k + 8) (by omega), wI_s]
    · rw [r5 i (by omega) y, mem_fst (by omega)]
theorem op_begin {c : Nat} {C N : Mem} (h : Rel c C N) (a1 a2 a3 : Int32) : Sim c (fc_begin C a1 a2 a3) (fm_begin N a1 a2 a3) := by
  obtain ⟨⟨hS, hJ, hL, hF, hA, hP, hW, hV⟩, -⟩ := id h
  obtain ⟨⟨e0, b0⟩, ⟨e1, b1⟩, ⟨e2, b2⟩, ⟨e3, b3⟩, ⟨e5, b5⟩, ⟨e6, b6⟩, ⟨e7, b7⟩, ⟨e4, b4⟩, e8⟩ := id hS
  obtain ⟨l0, u0⟩ := id b0
  obtain ⟨l1, u1⟩ := id b1
  obtain ⟨l2, u2⟩ := id b2
  obtain ⟨l3, u3⟩ := id b3
  obtain ⟨l5, u5⟩ := id b5
  obtain ⟨l6, u6⟩ := id b6
  obtain ⟨l7, u7⟩ := id b7
  obtain ⟨l4, u4⟩ := id b4
  have L := LeapOK.of h
  unfold fc_begin fm_begin
  by_cases hb : (a1.toInt < 0 ∨ (N.1 156 2).toInt ≤ a1.toInt) ∨ (a3.toInt < 0 ∨ 20 < a3.toInt)
  · refine sim_2 h ?_ ?_
    · by_cases q : a1.toInt < 0 ∨ (N.1 156 2).toInt ≤ a1.toInt
      · rw [if_pos (by rw [leaper_0, e2]; exact q), bind_eta]
      · rw [if_neg (by rw [leaper_0, e2]; exact q), rt_bad (by omega)]
        simp only [Option.bind_some, bind_eta]
        rw [if_neg (by decide)]
    · simp only [mleaper_0, mshelf_0, t_lt, t_le, Int32.reduceToInt, bind_eta]
      repeat' split
      all_goals first | rfl | (exfalso; omega)
  · rw [if_neg (show ¬ fc_isLeaperT C a1 = 0 by rw [leaper_0, e2]; omega), if_neg (show ¬ fm_isLeaperT N a1 = 0 by rw [mleaper_0]; omega)]
    rw [if_neg (show ¬ a3 < 0 by rw [t_lt]; simp only [Int32.reduceToInt]; omega), if_pos (show a3 ≤ (20 : Int32) by rw [t_le]; simp only [Int32.reduceToInt]; omega)]
    have i3 := t_ix (a := a3) (by omega)
    have w3 : nI (ix a3) = a3 := (of_ix (by omega)).symm
    rcases tour_u h (a1 := a2) (a2 := a3) (by omega) (by omega) with ⟨r, hr, t1, ⟨t2, hr2⟩ | ⟨t2, N', t3, hR⟩⟩ | ⟨t1, t2, -, -, N1, t3, hR, hT, hN, hc⟩
    · rw [if_pos t2, t1]
      simp only [Option.bind_some, bind_eta]
      rw [if_neg (r_ne0 hr), hr2]
      exact sim_2 h rfl rfl
    · rw [if_neg t2, t1, t3]
      simp only [Option.bind_some, bind_eta]
      rw [if_neg (r_ne0 hr), if_neg (r_nle hr)]
      exact sim_r hR hr rfl rfl
    · obtain ⟨⟨C1, s1, hR1, s3, s4, s5, s6⟩, -⟩ := hc C hR rfl rfl
      have n2 : N1.1 156 2 = N.1 156 2 := by rw [(hN 156 (by omega) (by omega)).1]
      have c14 : C1.1 20 14 = N1.1 156 7 := hR1.1.1.2.2.2.2.2.2.1.1
      have c14b : bd (N1.1 156 7) 0 255 := hR1.1.1.2.2.2.2.2.2.1.2
      obtain ⟨f8, hf8⟩ := FU_8
      obtain ⟨N2, r1, r2, r3, r4, r5⟩ := beg_2 (m := ix a3) (by omega) (ix a3) 0 (by omega) (wI (wI (wI (wI (wI (wI (wI (wI N1 157 0 1) 157 1 a1) 157 2 a3) 157 3 0) 157 4 0) 157 5 0) 157 6 0) 157 7 (N1.1 156 7)) FU (by rw [FU_eq]; omega)
      rw [w3] at r1
      rw [if_neg t2, t1, t3]
      simp only [Option.bind_some, if_true]
      rw [if_pos (show (0 : Int32) ≤ 0 by decide), s1]
      simp only [Option.bind_some]
      refine sim_i (r := a3) (N' := N2) rfl ?_ ?_
      · simp only [mlet_e]
        rw [show fm_begin_L77 a3 = fm_begin_L77 a3 from rfl]
        have e := beg_1 a3 (fun M17 => mlet (wI M17 157 (ix 7) (M17.1 156 (ix 7))) (fun M20 => fm_begin_L115 a3 FU 0 M20)) f8 (wI (wI (wI N1 157 0 1) 157 1 a1) 157 2 a3)
        rw [← hf8] at e
        exact e.trans r1
      · have hR1' := hR1
        obtain ⟨⟨hS, hJ, hL, hF, hA, hP, hW, hV⟩, -⟩ := hR1'
        have o0 := hS.1.2.2
        have o1 := hS.2.1.2.2
        have o2 := hS.2.2.1.2.2
        have hq := fun q (hq : q ≠ 157) => (r2 q hq).trans (show (wI (wI (wI (wI (wI (wI (wI (wI N1 157 0 1) 157 1 a1) 157 2 a3) 157 3 0) 157 4 0) 157 5 0) 157 6 0) 157 7 (N1.1 156 7)).1 q = N1.1 q from (by repeat (first | rfl | refine row_wI' ?_ (by omega) | refine row_rI' ?_ (by omega))))
        have hsn := fun lo hi (hk : 157 < lo ∨ hi < 157) => same_of (lo := lo) (hi := hi) hq (r3.trans rfl) hk
        refine Rel_RN hR1 (by repeat (first | exact same_r | refine same_wI' ?_ (by omega) | refine same_rI' ?_ (by omega))) (by repeat (first | exact same_r | refine same_wI' ?_ (by omega) | refine same_rI' ?_ (by omega))) (hsn _ _ (by omega)) (hq 147 (by omega)) (hsn _ _ (by omega)) (leI (by repeat (first | rfl | refine el_wI' ?_ (by omega) | refine el_rI' ?_ (by omega)))) ⟨NS_fr hS (by repeat (first | rfl | refine row_wI' ?_ (by omega) | refine row_rI' ?_ (by omega))) (hq 156 (by omega)), NJ_fr hJ o0 (by rw [hq 156 (by omega)]) (by repeat (first | exact same_r | refine same_wI' ?_ (by omega) | refine same_rI' ?_ (by omega))) (hsn _ _ (by omega)), NL_fr hL o1 (by rw [hq 156 (by omega)]) (by repeat (first | exact same_r | refine same_wI' ?_ (by omega) | refine same_rI' ?_ (by omega))) (hq 148 (by omega)), NF_fr hF (by repeat (first | rfl | refine row_wI' ?_ (by omega) | refine row_rI' ?_ (by omega))), NA_fr hA (by omega) o2 (by rw [hq 156 (by omega)]) (by repeat (first | exact same_r | refine same_wI' ?_ (by omega) | refine same_rI' ?_ (by omega))) (hsn _ _ (by omega)), NP_fr hP (by rw [hq 156 (by omega)]) (by repeat (first | rfl | refine row_wI' ?_ (by omega) | refine row_rI' ?_ (by omega))) (by repeat (first | rfl | refine row_wI' ?_ (by omega) | refine row_rI' ?_ (by omega))) (hq 153 (by omega)) (hq 154 (by omega)), NW_fr hW (by repeat (first | rfl | refine row_wI' ?_ (by omega) | refine row_rI' ?_ (by omega))) (hq 155 (by omega)), Or.inr ?_⟩
        have v0 : N2.1 157 0 = 1 := by rw [r4 0 (by omega)]; rfl
        have v1 : N2.1 157 1 = a1 := by rw [r4 1 (by omega)]; rfl
        have v2 : N2.1 157 2 = a3 := by rw [r4 2 (by omega)]; rfl
        have v3 : N2.1 157 3 = 0 := by rw [r4 3 (by omega)]; rfl
        have v4 : N2.1 157 4 = 0 := by rw [r4 4 (by omega)]; rfl
        have v5 : N2.1 157 5 = 0 := by rw [r4 5 (by omega)]; rfl
        have v6 : N2.1 157 6 = 0 := by rw [r4 6 (by omega)]; rfl
        have v7 : N2.1 157 7 = N1.1 156 7 := by rw [r4 7 (by omega)]; rfl
        rw [v0, v1, v2, v3, v4, v5, v6, v7, hq 156 (by omega), hq 143 (by omega)]
        refine ⟨rfl, ⟨?_, by omega, by rw [n2]; omega⟩, ⟨?_, ⟨by omega, by omega⟩⟩, ⟨?_, by decide, by simp only [Int32.reduceToInt]; omega⟩, ⟨?_, ⟨by decide, by simp only [Int32.reduceToInt]; omega⟩⟩, ?_, ?_, ?_, fun i hi => ⟨?_, ?_⟩, fun _ => ?_, fun i hi => ?_⟩
        · rfl
        · exact s3
        · rfl
        · rfl
        · rfl
        · rfl
        · exact (show bd (C1.1 20 14) 0 255 by rw [c14]; exact c14b)
        · rw [r5 i (by omega) (by omega)]
          have e : ∀ M : Mem, (rowI M 68 (va_cpy (M.1 120) (M.1 68) 0 0 20)).1 68 i = M.1 120 i := by
            intro M
            rw [rowI_1, if_pos rfl]
            unfold va_cpy
            rw [if_pos (by omega)]
            exact congrArg (M.1 120) (by omega)
          refine Eq.trans ?_ ((e (wI (wI C1 67 0 a1) 67 2 (C1.1 119 2))).trans ((show (wI (wI C1 67 0 a1) 67 2 (C1.1 119 2)).1 120 i = C1.1 120 i from (by repeat (first | rfl | refine el_wI' ?_ (by omega) | refine el_rI' ?_ (by omega)))).trans (s4 i (by omega))))
          rfl
        · rw [r5 i (by omega) (by omega)]
          exact hT.2 i (by omega)
        · exact c14
        · exfalso
          simp only [Int32.reduceToInt] at hi
          omega
