-- law
theorem law_R {c : Nat} {C N C5 N5 : Mem} (h : Rel c C N) {L : Nat} (hL : L < 6) (hC : ∀ q, q ≠ L + 50 → q ≠ 18 → q ≠ 20 → C5.1 q = C.1 q) (hC2 : C5.2 = C.2) (hN : ∀ q, q ≠ 148 → q ≠ 138 → q ≠ 156 → N5.1 q = N.1 q) (hN2 : N5.2 = N.2) (h21 : N5.1 138 21 = N.1 138 21) (z1 : C5.1 18 1 = 0) (z2 : N5.1 138 8 = 0) (s20 : ∀ f, f ≠ 3 → C5.1 20 f = C.1 20 f) (s156 : ∀ f, f ≠ 1 → N5.1 156 f = N.1 156 f) (hNS : NS C5 N5) (hNL : NL C5 N5) : Rel c C5 N5 := by
  obtain ⟨⟨a1, a2, a3, a4, a5, a6, a7, a8⟩, b, d, e, f, g, k⟩ := h
  have sC : ∀ lo hi, (∀ q, lo ≤ q → q ≤ hi → q ≠ L + 50 ∧ q ≠ 18 ∧ q ≠ 20) → same lo hi C C5 := fun lo hi z q x y => ⟨hC q (z q x y).1 (z q x y).2.1 (z q x y).2.2, by rw [hC2]⟩
  have sN : ∀ lo hi, (∀ q, lo ≤ q → q ≤ hi → q ≠ 148 ∧ q ≠ 138 ∧ q ≠ 156) → same lo hi N N5 := fun lo hi z q x y => ⟨hN q (z q x y).1 (z q x y).2.1 (z q x y).2.2, by rw [hN2]⟩
  have u0 := a1.1.2.2
  have u2 := a1.2.2.1.2.2
  refine ⟨⟨hNS, NJ_fr a2 u0 (s156 0 (by omega)) (sC _ _ (by omega)) (sN _ _ (by omega)), hNL, NF_fr a4 (hC 56 (by omega) (by omega) (by omega)), NA_fr a5 (Nat.le_refl c) u2 (s156 2 (by omega)) (sC _ _ (by omega)) (sN _ _ (by omega)), NP_fr a6 (s156 3 (by omega)) (hC 64 (by omega) (by omega) (by omega)) (hC 65 (by omega) (by omega) (by omega)) (hN 153 (by omega) (by omega) (by omega)) (hN 154 (by omega) (by omega) (by omega)), NW_fr a7 (hC 66 (by omega) (by omega) (by omega)) (hN 155 (by omega) (by omega) (by omega)), NV_fr a8 (Nat.le_refl c) (hC 67 (by omega) (by omega) (by omega)) (hC 68 (by omega) (by omega) (by omega)) (hN 157 (by omega) (by omega) (by omega)) (fun j _ => by rw [hN 143 (by omega) (by omega) (by omega)]) (by rw [s156 0 (by omega)]; exact Int.le_refl _) (by rw [s156 2 (by omega)]; exact Int.le_refl _)⟩, RS_fr b (sC _ _ (by omega)) (sN _ _ (by omega)) (s20 1 (by omega)), ⟨by rw [z1, z2], by rw [z2]; exact ⟨by decide, by decide⟩, fun i hi => ?_⟩, RF_fr e (hC 118 (by omega) (by omega) (by omega)) (hN 158 (by omega) (by omega) (by omega)), RX_fr f (hC 128 (by omega) (by omega) (by omega)) (hC 134 (by omega) (by omega) (by omega)), KF_fr g (hC 105 (by omega) (by omega) (by omega)), RI_fr k (by rw [hC 0 (by omega) (by omega) (by omega)]) h21 (sC _ _ (by omega)) (hN 159 (by omega) (by omega) (by omega))⟩
  rw [z2, li_0] at hi
  omega
theorem first_L {L : Nat} (hL : L < 6) {kx : Mem → Option (Int32 × Mem)} : ∀ (n k : Nat), k + n = 9 → ∀ N : Mem, ∀ F1, n < F1 → ∃ N', fm_read_L2 (nI (9 * L)) kx F1 (nI k) N = kx N' ∧ (∀ q, q ≠ 148 → N'.1 q = N.1 q) ∧ N'.2 = N.2 ∧ (∀ i, i < 9 * L + k → N'.1 148 i = N.1 148 i) ∧ ∀ i, k ≤ i → i < 9 → N'.1 148 (9 * L + i) = sv0.getD i 0 := by
  intro n
  induction n with
  | zero =>
    intro k hk N F1 h1
    obtain ⟨F1, rfl⟩ : ∃ m, F1 = m + 1 := ⟨F1 - 1, by omega⟩
    obtain rfl : k = 9 := by omega
    exact ⟨N, by rw [fm_read_L2, if_pos (by decide)], fun _ _ => rfl, rfl, fun _ _ => rfl, fun i x y => by omega⟩
  | succ n ih =>
    intro k hk N F1 h1
    obtain ⟨F1, rfl⟩ : ∃ m, F1 = m + 1 := ⟨F1 - 1, by omega⟩
    have tk := t_nI (show k < 2147483648 by omega)
    have bi : nI (9 * L) + nI k = nI (9 * L + k) := by
      rw [t_eq, t_add (by rw [t_nI (by omega), t_nI (by omega)]; omega) (by rw [t_nI (by omega), t_nI (by omega)]; omega), t_nI (by omega), t_nI (by omega), t_nI (by omega)]
      omega
    obtain ⟨N', r1, r2, r3, r4, r5⟩ := ih (k + 1) (by omega) (wI N 148 (9 * L + k) (sv0.getD k 0)) F1 (by omega)
    refine ⟨N', ?_, fun q hq => by rw [r2 q hq, wI_row _ _ _ _ hq], r3, fun i hi => by rw [r4 i (by omega), mem_fst (by omega)], fun i x y => ?_⟩
    · rw [fm_read_L2, if_neg (by rw [t_le, tk]; simp only [Int32.reduceToInt]; omega), bi, gd_t (b_in (by rw [t_nI (by omega)]; omega) (by rw [t_nI (by omega)]; omega)), mlet_e, nI_1, ix_nI (by omega), first_v k (by omega), r1]
    · by_cases z : i = k
      · rw [z, r4 (9 * L + k) (by omega), wI_s]
      · exact r5 i (by omega) y
theorem lawok_0 {r : Nat → Int32} (h : ∀ i, i < 9 → r i = sv0.getD i 0) : lawok r := by
  unfold lawok
  rw [h 0 (by omega), h 1 (by omega), h 2 (by omega), h 3 (by omega), h 4 (by omega), h 5 (by omega), h 6 (by omega), h 7 (by omega), h 8 (by omega)]
  unfold bd
  decide
theorem op_law {c : Nat} {C N : Mem} (h : Rel c C N) : Sim c (fc_law C) (fm_law N) := by
  obtain ⟨⟨hS, hJ, hL, hF, hA, hP, hW, hV⟩, hRS, hRT, -⟩ := id h
  obtain ⟨⟨e0, b0⟩, ⟨e1, b1⟩, ⟨e2, b2⟩, ⟨e3, b3⟩, ⟨e5, b5⟩, ⟨e6, b6⟩, ⟨e7, b7⟩, ⟨e4, b4⟩, e8⟩ := id hS
  obtain ⟨l1, u1⟩ := id b1
  obtain ⟨l4, u4⟩ := id b4
  have eL := t_ix l1
  have oL := of_ix l1
  generalize ix (N.1 156 1) = L at eL oL
  have t6 : (6 : Int32).toInt = 6 := rfl
  by_cases z : L = 6
  · refine sim_6 h ?_ ?_
    · unfold fc_law
      rw [if_neg (by rw [e1, t_lt]; omega), bind_eta]
    · unfold fm_law
      rw [ix_1, if_pos (by rw [t_eq]; omega), bind_eta]
  have hL6 : L < 6 := by omega
  have tL := t_nI (show L < 2147483648 by omega)
  -- the tape
  have hCH := CH.of hRT
  generalize hZ : ix (N.1 138 8) = Z at hCH
  -- the class begins
  let C1 := wI (cpS C (L + 50) 0 0 9) 18 2 0
  have c1 : ∀ q, q ≠ L + 50 → q ≠ 18 → C1.1 q = C.1 q := fun q x y => by
    show (wI (cpS C (L + 50) 0 0 9) 18 2 0).1 q = _
    rw [wI_row _ _ _ _ y]
    unfold cpS
    rw [rowI_1, if_neg x]
  have c2 : C1.2 = C.2 := rfl
  have c3 : C1.1 18 1 = C.1 18 1 := by
    show (wI (cpS C (L + 50) 0 0 9) 18 2 0).1 18 1 = _
    rw [mem_fst (by omega)]
    unfold cpS
    rw [rowI_1, if_neg (by omega)]
  have c4 : ∀ i, i < 9 → C1.1 (L + 50) i = sv0.getD i 0 := fun i hi => by
    show (wI (cpS C (L + 50) 0 0 9) 18 2 0).1 (L + 50) i = _
    rw [mem_fst (by omega)]
    unfold cpS
    rw [rowI_1, if_pos rfl]
    show va_cpy _ _ 0 0 9 i = _
    unfold va_cpy
    rw [if_pos (by omega)]
    show sv0.getD (0 + (i - 0)) 0 = _
    rw [Nat.sub_zero, Nat.zero_add]
  have c5 : C1.1 18 2 = nI 0 := wI_s
  -- the reference begins
  obtain ⟨N1, n1, n2, n3, n4, n5⟩ := first_L hL6 (kx := fun M3 => (fm_read_L34 (nI (9 * L)) kend FU 0 0 0 M3)) 9 0 (by omega) N FU (by rw [FU_eq]; omega)
  obtain ⟨r, C', N', r0, r1, r2, r3⟩ := read_E hL6 (Z + 1) 0 0 C1 N1 0 (by omega) (by omega) (by omega) (hCH.up c3 (c1 19 (by omega) (by omega)) (by rw [n2 138 (by omega)]) (n2 147 (by omega))) c5 (fun i hi => by rw [c4 i hi, n5 i (by omega) hi]) (lawok_0 c4) FU FU (by have := hCH.2.2.1; rw [FU_eq]; omega) (by have := hCH.2.2.1; rw [FU_eq]; omega)
  obtain ⟨f1, f2, f3, f4, f5, f6, f7, f8⟩ := id r3
  have hc : fTape_readInto C L = some (r, C') := by
    unfold fTape_readInto fLaw_reset
    rw [gd_t (show cpokB 0 0 9 9 9 by decide), mlet_e, Option.bind_some, mlet_e]
    exact r1
  have bi : (9 : Int32) * nI L = nI (9 * L) := by
    rw [t_eq, t_mul (by rw [tL]; simp only [Int32.reduceToInt]; omega) (by rw [tL]; simp only [Int32.reduceToInt]; omega), tL, t_nI (by omega)]
    simp only [Int32.reduceToInt]
    omega
  have hm : fm_read N ((9 : Int32) * nI L) = some (r, N') := by
    unfold fm_read
    rw [bi]
    exact n1.trans r2
  have C20 : C'.1 20 = C.1 20 := (f1 20 (by omega) (by omega)).trans (c1 20 (by omega) (by omega))
  have N156 : N'.1 156 = N.1 156 := (f4 156 (by omega)).trans (n2 156 (by omega))
  have pC : ∀ q, q ≠ L + 50 → q ≠ 18 → C'.1 q = C.1 q := fun q x y => (f1 q x y).trans (c1 q x y)
  have pN : ∀ q, q ≠ 148 → N'.1 q = N.1 q := fun q x => (f4 q x).trans (n2 q x)
  have p148 : ∀ i, i < 9 * L → N'.1 148 i = N.1 148 i := fun i x => (f6 i x).trans (n4 i (by omega))
  have hcl : fc_law C = if r = -1 then some (((wI (wI C' 18 1 0) 20 3 (nI L + 1)).1 20 3) - 1, wI (wI C' 18 1 0) 20 3 (nI L + 1)) else Option.bind (fc_refuse (wI C' 18 1 0) (-2)) (fun u7 => (some ((((-20) : Int32) - r), u7.2))) := by
    unfold fc_law
    rw [e1, oL, if_pos (by rw [t_lt]; omega), gd_t (b_in (by omega) (by omega)), ix_nI (by omega), hc, Option.bind_some, mlet_e, wI_row _ _ _ _ (show 20 ≠ 18 by omega), C20, e1, oL]
    rfl
  have hml : fm_law N = if r < 0 then some (nI L, wI (wI N' 138 8 0) 156 1 (nI L + 1)) else Option.bind (fm_no (wI N' 138 8 0) (-2)) (fun u10 => (some ((((-20) : Int32) - r), u10.2))) := by
    unfold fm_law
    rw [ix_1, oL, if_neg (by rw [t_eq]; omega), hm, Option.bind_some, mlet_e, wI_row _ _ _ _ (show 156 ≠ 138 by omega), N156, oL]
    rfl
  have RNL : ∀ w : Nat, w < L → (∀ i, i < 9 → C'.1 (w + 50) i = N'.1 148 (9 * w + i)) ∧ lawok (fun i => C'.1 (w + 50) i) := fun w hw => by
    rw [pC (w + 50) (by omega) (by omega)]
    obtain ⟨g1, g2⟩ := hL w (by omega)
    exact ⟨fun i hi => by rw [p148 _ (by omega)]; exact g1 i hi, g2⟩
  have tr : (r = -1 ∧ r < 0) ∨ (¬ r = -1 ∧ ¬ r < 0) := by
    rcases r0 with r0 | ⟨q, q1, q2⟩
    · exact Or.inl ⟨r0, by rw [r0]; decide⟩
    · refine Or.inr ⟨by rw [q2]; exact m1_nI q (by omega), ?_⟩
      rw [q2, t_lt, t_nI (by omega), li_0]
      omega
  rw [hcl, hml]
  rcases tr with ⟨x1, x2⟩ | ⟨x1, x2⟩
  · rw [if_pos x1, if_pos x2, wI_s]
    have tL1 : (nI L + 1).toInt = (L : Int) + 1 := by rw [nI_1, t_nI (by omega)]; omega
    have ne : nI L + 1 - 1 = nI L := by
      rw [t_eq, t_sub (by rw [tL1, li_1]; omega) (by rw [tL1, li_1]; omega), tL1, li_1, tL]
      omega
    rw [ne]
    refine ⟨nI L, _, _, rfl, rfl, Rel_next (law_R h hL6 (fun q x y z => ?_) ?_ (fun q x y z => ?_) ?_ ?_ ?_ ?_ (fun f hf => ?_) (fun f hf => ?_) ?_ ?_)⟩
    · rw [wI_row _ _ _ _ z, wI_row _ _ _ _ y]; exact pC q x y
    · exact f2.trans c2
    · rw [wI_row _ _ _ _ z, wI_row _ _ _ _ y]; exact pN q x
    · exact f5.trans n3
    · rw [mem_fst (by omega), mem_fst (by omega), pN 138 (by omega)]
    · rw [mem_fst (by omega), wI_s]
    · rw [mem_fst (by omega), wI_s]
    · rw [mem_fst (by omega), wI_row _ _ _ _ (by omega), C20]
    · rw [mem_fst (by omega), wI_row _ _ _ _ (by omega), N156]
    · unfold NS
      have g1 : ∀ f, f ≠ 3 → (wI (wI C' 18 1 0) 20 3 (nI L + 1)).1 20 f = C.1 20 f := fun f hf => by
        rw [mem_fst (by omega), wI_row _ _ _ _ (by omega), C20]
      have g2 : ∀ f, f ≠ 1 → (wI (wI N' 138 8 0) 156 1 (nI L + 1)).1 156 f = N.1 156 f := fun f hf => by
        rw [mem_fst (by omega), wI_row _ _ _ _ (by omega), N156]
      rw [wI_s, wI_s, g1 1 (by omega), g1 7 (by omega), g1 10 (by omega), g1 12 (by omega), g1 13 (by omega), g1 14 (by omega), g1 4 (by omega), g1 15 (by omega), g2 0 (by omega), g2 2 (by omega), g2 3 (by omega), g2 5 (by omega), g2 6 (by omega), g2 7 (by omega), g2 4 (by omega), g2 8 (by omega)]
      exact ⟨⟨e0, b0⟩, ⟨rfl, by unfold bd; omega⟩, ⟨e2, b2⟩, ⟨e3, b3⟩, ⟨e5, b5⟩, ⟨e6, b6⟩, ⟨e7, b7⟩, ⟨e4, l4, by omega⟩, e8⟩
    · intro w hw
      rw [wI_s, tL1] at hw
      rw [wI_row _ _ _ _ (show w + 50 ≠ 20 by omega), wI_row _ _ _ _ (show w + 50 ≠ 18 by omega), wI_row _ _ _ _ (show 148 ≠ 156 by omega), wI_row _ _ _ _ (show 148 ≠ 138 by omega)]
      by_cases y : w = L
      · rw [y]
        exact ⟨f7, f8⟩
      · exact RNL w (by omega)
  · rw [if_neg x1, if_neg x2]
    have hR : Rel c (wI C' 18 1 0) (wI N' 138 8 0) := by
      refine law_R h hL6 (fun q x y z => ?_) ?_ (fun q x y z => ?_) ?_ ?_ ?_ ?_ (fun f hf => ?_) (fun f hf => ?_) ?_ ?_
      · rw [wI_row _ _ _ _ y]; exact pC q x y
      · exact f2.trans c2
      · rw [wI_row _ _ _ _ y]; exact pN q x
      · exact f5.trans n3
      · rw [mem_fst (by omega), pN 138 (by omega)]
      · rw [wI_s]
      · rw [wI_s]
      · rw [wI_row _ _ _ _ (by omega), C20]
      · rw [wI_row _ _ _ _ (by omega), N156]
      · exact NS_fr hS (by rw [wI_row _ _ _ _ (by omega), C20]) (by rw [wI_row _ _ _ _ (by omega), N156])
      · intro w hw
        rw [wI_row _ _ _ _ (by omega), N156] at hw
        rw [wI_row _ _ _ _ (show w + 50 ≠ 18 by omega), wI_row _ _ _ _ (show 148 ≠ 138 by omega)]
        exact RNL w (by omega)
    rw [bad_2, no_2, Option.bind_some, Option.bind_some]
    exact ⟨_, _, _, rfl, rfl, Rel_ref hR (k := 0) (by omega)⟩
