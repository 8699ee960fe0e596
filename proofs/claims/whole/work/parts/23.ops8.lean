-- changes that cost no call
theorem Rel_RN0 {c : Nat} {C N C' N' : Mem} (h : Rel c C N) (h0 : same 0 19 C C') (h1 : same 69 137 C C') (h2 : same 138 141 N N') (h3 : N'.1 147 = N.1 147) (h4 : same 158 164 N N') (hj : (C.1 20 1).toInt ≤ (C'.1 20 1).toInt) (hR : RN c C' N') : Rel c C' N' := by
  obtain ⟨a, b, d, e, f, g, k⟩ := h
  have z := Rel_RN (c := c) ⟨a, b, d, e, f, g, k⟩ h0 h1 h2 h3 h4 hj (RN_up hR (Nat.le_succ c))
  have hr0 := fun k (y : k ≤ 19) => (h0 k (Nat.zero_le _) y).1
  have n138 := (h2 138 (by omega) (by omega)).1
  have hn := fun k (x : 158 ≤ k) (y : k ≤ 164) => (h4 k x y).1
  exact ⟨hR, z.2.1, z.2.2.1, z.2.2.2.1, z.2.2.2.2.1, z.2.2.2.2.2.1, RI_fr k (by rw [hr0 0 (by omega)]) (by rw [n138]) (same_s h1 (by omega) (by omega)) (hn 159 (by omega) (by omega))⟩
theorem Rel_RT {c : Nat} {C N C' N' : Mem} (h : Rel c C N) (h0 : same 0 17 C C') (h1 : same 20 137 C C') (h2 : same 139 146 N N') (h3 : same 148 164 N N') (h4 : N'.1 138 21 = N.1 138 21) (hR : RT C' N') : Rel c C' N' := by
  obtain ⟨a, b, d, e, f, g, k⟩ := h
  have hr := fun k (x : 20 ≤ k) (y : k ≤ 137) => (h1 k x y).1
  have hn := fun k (x : 148 ≤ k) (y : k ≤ 164) => (h3 k x y).1
  refine ⟨RN_fr a (same_s h1 (by omega) (by omega)) (same_s h2 (by omega) (by omega)) (same_s h3 (by omega) (by omega)), ?_, hR, RF_fr e (hr 118 (by omega) (by omega)) (hn 158 (by omega) (by omega)), RX_fr f (hr 128 (by omega) (by omega)) (hr 134 (by omega) (by omega)), KF_fr g (hr 105 (by omega) (by omega)), RI_fr k (by rw [(h0 0 (by omega) (by omega)).1]) h4 (same_s h1 (by omega) (by omega)) (hn 159 (by omega) (by omega))⟩
  intro s hs
  have e1 := (h0 (s + 2) (Nat.zero_le _) (by omega)).1
  have e2 := (h0 (s + 10) (Nat.zero_le _) (by omega)).2
  have g1 := (h2 139 (by omega) (by omega)).1
  have g2 := (h2 140 (by omega) (by omega)).1
  have g3 := (h2 141 (by omega) (by omega)).2
  have g4 := hr 20 (by omega) (by omega)
  have := b s hs
  unfold RS1 at this ⊢
  simp only [e1, e2, g1, g2, g3, g4]
  exact this
theorem wind_w {c : Nat} {C N : Mem} (h : Rel c C N) {i : Nat} (hi : i < 12) {v : Int32} (hv : bd v 0 9) : Rel c (wI C 66 i v) (wI N 155 i v) := by
  obtain ⟨⟨hS, hJ, hL, hF, hA, hP, hW, hV⟩, -⟩ := id h
  obtain ⟨⟨e0, b0⟩, ⟨e1, b1⟩, ⟨e2, b2⟩, ⟨e3, b3⟩, ⟨e5, b5⟩, ⟨e6, b6⟩, ⟨e7, b7⟩, ⟨e4, b4⟩, e8⟩ := id hS
  obtain ⟨l0, u0⟩ := id b0
  obtain ⟨l1, u1⟩ := id b1
  obtain ⟨l2, u2⟩ := id b2
  obtain ⟨l3, u3⟩ := id b3
  obtain ⟨l5, u5⟩ := id b5
  obtain ⟨l6, u6⟩ := id b6
  obtain ⟨l7, u7⟩ := id b7
  obtain ⟨l4, u4⟩ := id b4
  refine Rel_RN0 h (by repeat (first | exact same_r | refine same_wI' ?_ (by omega))) (by repeat (first | exact same_r | refine same_wI' ?_ (by omega))) (by repeat (first | exact same_r | refine same_wI' ?_ (by omega))) (by repeat (first | rfl | refine row_wI' ?_ (by omega))) (by repeat (first | exact same_r | refine same_wI' ?_ (by omega))) (leI (by repeat (first | rfl | refine el_wI' ?_ (by omega)))) ⟨NS_fr hS (by repeat (first | rfl | refine row_wI' ?_ (by omega))) (by repeat (first | rfl | refine row_wI' ?_ (by omega))), NJ_fr hJ u0 (by repeat (first | rfl | refine el_wI' ?_ (by omega))) (by repeat (first | exact same_r | refine same_wI' ?_ (by omega))) (by repeat (first | exact same_r | refine same_wI' ?_ (by omega))), NL_fr hL u1 (by repeat (first | rfl | refine el_wI' ?_ (by omega))) (by repeat (first | exact same_r | refine same_wI' ?_ (by omega))) (by repeat (first | rfl | refine row_wI' ?_ (by omega))), NF_fr hF (by repeat (first | rfl | refine row_wI' ?_ (by omega))), NA_fr hA (Nat.le_refl c) u2 (by repeat (first | rfl | refine el_wI' ?_ (by omega))) (by repeat (first | exact same_r | refine same_wI' ?_ (by omega))) (by repeat (first | exact same_r | refine same_wI' ?_ (by omega))), NP_fr hP (by repeat (first | rfl | refine el_wI' ?_ (by omega))) (by repeat (first | rfl | refine row_wI' ?_ (by omega))) (by repeat (first | rfl | refine row_wI' ?_ (by omega))) (by repeat (first | rfl | refine row_wI' ?_ (by omega))) (by repeat (first | rfl | refine row_wI' ?_ (by omega))), ?_, NV_fr hV (Nat.le_refl c) (by repeat (first | rfl | refine row_wI' ?_ (by omega))) (by repeat (first | rfl | refine row_wI' ?_ (by omega))) (by repeat (first | rfl | refine row_wI' ?_ (by omega))) (fun j _ => (by repeat (first | rfl | refine el_wI' ?_ (by omega)))) (leI (by repeat (first | rfl | refine el_wI' ?_ (by omega)))) (leI (by repeat (first | rfl | refine el_wI' ?_ (by omega))))⟩
  intro q hq
  by_cases e : q = i
  · subst e; rw [wI_s, wI_s]; exact ⟨rfl, hv⟩
  · rw [mem_fst (by omega), mem_fst (by omega)]; exact hW q hq
-- longs
theorem lgc_p {x y : Int64} : 0 < lg_cmp x y ↔ y.toInt < x.toInt := by
  unfold lg_cmp
  simp only [gt_iff_lt, Int64.lt_iff_toInt_lt, ← Int64.toInt_inj]
  by_cases h : y.toInt < x.toInt
  · rw [if_pos h]; exact ⟨fun _ => h, fun _ => by decide⟩
  · rw [if_neg h]
    by_cases h2 : x.toInt = y.toInt
    · rw [if_pos h2]; exact ⟨fun q => absurd q (by decide), fun q => absurd q h⟩
    · rw [if_neg h2]; exact ⟨fun q => absurd q (by decide), fun q => absurd q h⟩
theorem lgc_l {x y : Int64} : lg_cmp x y ≤ 0 ↔ x.toInt ≤ y.toInt := by
  have := lgc_p (x := x) (y := y)
  rw [t_lt] at this
  rw [t_le]
  omega
theorem lgc_n {x y : Int64} : lg_cmp x y < 0 ↔ x.toInt < y.toInt := by
  unfold lg_cmp
  simp only [gt_iff_lt, Int64.lt_iff_toInt_lt, ← Int64.toInt_inj]
  by_cases h : y.toInt < x.toInt
  · rw [if_pos h]; exact ⟨fun q => absurd q (by decide), fun q => by omega⟩
  · rw [if_neg h]
    by_cases h2 : x.toInt = y.toInt
    · rw [if_pos h2]; exact ⟨fun q => absurd q (by decide), fun q => by omega⟩
    · rw [if_neg h2]; exact ⟨fun q => by omega, fun q => by decide⟩
theorem l_add {a b : Int32} : (Int32.toInt64 a + Int32.toInt64 b).toInt = a.toInt + b.toInt := by
  have h1 := Int32.toInt_lt a
  have h2 := Int32.toInt_lt b
  have h3 := Int32.le_toInt a
  have h4 := Int32.le_toInt b
  rw [Int64.toInt_add, Int32.toInt_toInt64, Int32.toInt_toInt64]
  exact Int.bmod_eq_of_le (by omega) (by omega)
theorem l_i {x : Int64} (h1 : -2147483648 ≤ x.toInt) (h2 : x.toInt < 2147483648) : (Int64.toInt32 x).toInt = x.toInt := by
  rw [Int64.toInt_toInt32]
  exact Int.bmod_eq_of_le (by omega) (by omega)
-- winds
theorem winds_L {a1 : Int32} (h3 : 0 ≤ a1.toInt) (h4 : a1.toInt < 8) {v3 : Int32} : ∀ (n k : Nat), k + n = 12 → ∀ (c : Nat) (C N : Mem), Rel c C N → C.1 (ix a1 + 2) 1 = N.1 140 (ix a1) → bd (N.1 140 (ix a1)) 0 40 → (∀ i, i < 40 → C.2 (ix a1 + 10) i = N.2 141 (40 * ix a1 + i)) → v3.toInt = (if (N.1 140 (ix a1)).toInt < 12 then (N.1 140 (ix a1)).toInt else 12) → (k : Int) ≤ v3.toInt → ∀ F1 F2, n < F1 → n < F2 → ∃ r C' N', fc_winds_L35 a1 v3 F1 (nI k) C = some (r, C') ∧ fm_winds_L18 a1 (fun w7 M8 => (some (w7, M8))) F2 (nI k) N = some (r, N') ∧ Rel c C' N' := by
  have hi := t_ix h3
  have hin : inb a1 8 := b_in h3 h4
  intro n
  induction n with
  | zero =>
    intro k hk c C N h e4 e5 e6 hv hkv F1 F2 h1 h2
    obtain ⟨F1, rfl⟩ : ∃ m, F1 = m + 1 := ⟨F1 - 1, by omega⟩
    obtain ⟨F2, rfl⟩ : ∃ m, F2 = m + 1 := ⟨F2 - 1, by omega⟩
    have hk : k = 12 := by omega
    subst hk
    have hq : v3 = nI 12 := t_eq.mpr (by rw [t_nI (by omega)]; split at hv <;> omega)
    refine ⟨v3, C, N, ?_, ?_, h⟩
    · rw [fc_winds_L35, if_pos (by rw [hq]; decide)]
    · rw [fm_winds_L18, if_pos (by decide), hq]
  | succ n ih =>
    intro k hk c C N h e4 e5 e6 hv hkv F1 F2 h1 h2
    obtain ⟨F1, rfl⟩ : ∃ m, F1 = m + 1 := ⟨F1 - 1, by omega⟩
    obtain ⟨F2, rfl⟩ : ∃ m, F2 = m + 1 := ⟨F2 - 1, by omega⟩
    have tk := t_nI (show k < 2147483648 by omega)
    have xk := ix_nI (show k < 2147483648 by omega)
    rw [fc_winds_L35, fm_winds_L18, if_neg (show ¬ (12 : Int32) ≤ nI k by rw [t_le, tk]; simp only [Int32.reduceToInt]; omega)]
    simp only [gd_t hin]
    by_cases q : (N.1 140 (ix a1)).toInt ≤ k
    · have hq : v3 = nI k := t_eq.mpr (by rw [tk]; split at hv <;> omega)
      rw [if_pos (show v3 ≤ nI k by rw [hq, t_le]; omega), if_pos (show N.1 140 (ix a1) ≤ nI k by rw [t_le, tk]; omega), hq]
      exact ⟨_, _, _, rfl, rfl, h⟩
    · obtain ⟨g1, g2, g3, g4⟩ := at_eq (C := C) (N := N) (s := ix a1) (by omega) (a1 := a1) (a2 := nI k) (by omega) rfl e4 e5 e6 (by omega) (by omega)
      rw [if_neg (show ¬ v3 ≤ nI k by rw [t_le, tk]; split at hv <;> omega), if_neg (show ¬ N.1 140 (ix a1) ≤ nI k by rw [t_le, tk]; omega), g1, gd_t g3, g2]
      simp only [Option.bind_some, llet_e, lgc_n, lgc_l]
      by_cases z : (N.2 141 (40 * ix a1 + ix (nI k))).toInt < (0 : Int64).toInt
      · rw [if_pos z, if_pos z]
        exact ⟨_, _, _, rfl, rfl, h⟩
      · rw [if_neg z, if_neg z]
        by_cases z2 : (N.2 141 (40 * ix a1 + ix (nI k))).toInt ≤ (9 : Int64).toInt
        · have z0 : (0 : Int64).toInt = 0 := rfl
          have z9 : (9 : Int64).toInt = 9 := rfl
          have hin2 : inb (nI k) 12 := b_in (by omega) (by omega)
          rw [if_pos z2, if_pos z2, gd_t hin2, gd_t hin2, mlet_e, mlet_e, nI_1, xk]
          rw [xk] at z z2
          have zz := l_i (x := N.2 141 (40 * ix a1 + k)) (by omega) (by omega)
          refine ih (k + 1) (by omega) c _ _ (wind_w h (by omega) ⟨by omega, by omega⟩) ?_ e5 e6 hv (by split at hv <;> omega) F1 F2 (by omega) (by omega)
          rw [mem_fst (by omega), mem_fst (by omega)]; exact e4
        · rw [if_neg z2, if_neg z2]
          exact ⟨_, _, _, rfl, rfl, h⟩
theorem op_winds {c : Nat} {C N : Mem} (h : Rel c C N) (a1 : Int32) : Sim c (fc_winds C a1) (fm_winds N a1) := by
  unfold fc_winds fm_winds
  rcases rowTs h a1 with ⟨r, hr, h1, h2⟩ | ⟨h1, h2, h3, h4, t, ht, e1, e2, e3, e4, e5, e6⟩
  · rw [h1, h2]
    simp only [Option.bind_some, bind_eta]
    rw [if_neg (by rcases hr with rfl | rfl | rfl <;> decide), if_neg (by rcases hr with rfl | rfl | rfl <;> decide)]
    exact sim_r h hr rfl rfl
  · rw [h1, h2]
    simp only [Option.bind_some]
    have hi := t_ix h3
    have hin : inb a1 8 := b_in h3 h4
    rw [if_pos trivial, if_pos (show (0 : Int32) ≤ 0 by decide), gd_t hin, ilet_e, e4]
    have e5' := e5
    obtain ⟨y1, y2⟩ := e5'
    have hv : (if N.1 140 (ix a1) < (12 : Int32) then N.1 140 (ix a1) else 12).toInt = (if (N.1 140 (ix a1)).toInt < 12 then (N.1 140 (ix a1)).toInt else 12) := by
      simp only [t_lt, Int32.reduceToInt]
      split <;> rfl
    obtain ⟨r, C', N', r1, r2, r3⟩ := winds_L h3 h4 12 0 (by omega) c C N h e4 e5 e6 hv (by rw [hv]; split <;> omega) FU FU (by rw [FU_eq]; omega) (by rw [FU_eq]; omega)
    exact sim_i r1 r2 (Rel_next r3)
-- feed
theorem and255 (x : Int32) : (x &&& 255).toInt8 = x.toInt8 := by
  rw [Int32.toInt8_and]
  show x.toInt8 &&& (-1) = _
  exact Int8.and_neg_one
theorem and255b (x : Int32) : bd (x &&& 255) 0 255 := by
  have h1 : (x &&& 255).toBitVec.toNat ≤ 255 := by
    rw [Int32.toBitVec_and, BitVec.toNat_and]
    exact Nat.and_le_right
  have h2 : (x &&& 255).toInt = ((x &&& 255).toBitVec.toNat : Int) := by
    show (x &&& 255).toBitVec.toInt = _
    exact BitVec.toInt_eq_toNat_of_lt (by omega)
  unfold bd
  omega
theorem tape_w {c : Nat} {C N : Mem} (h : Rel c C N) {n : Nat} (hn : (N.1 138 8).toInt = n) (hs : n < 160) (x : Int32) : Rel c (wI (wI C 19 n (Int8.toInt32 (Int32.toInt8 x))) 18 1 (C.1 18 1 + 1)) (wI (wI N 138 8 (N.1 138 8 + 1)) 147 n (x &&& 255)) := by
  obtain ⟨t1, t2, t3⟩ := h.2.2.1
  have ta : (N.1 138 8 + 1).toInt = (N.1 138 8).toInt + 1 := by rw [t_add] <;> simp only [Int32.reduceToInt] <;> omega
  refine Rel_RT h (by repeat (first | exact same_r | refine same_wI' ?_ (by omega))) (by repeat (first | exact same_r | refine same_wI' ?_ (by omega))) (by repeat (first | exact same_r | refine same_wI' ?_ (by omega))) (by repeat (first | exact same_r | refine same_wI' ?_ (by omega))) (by repeat (first | rfl | refine el_wI' ?_ (by omega))) ?_
  unfold RT
  rw [wI_s, show (wI (wI N 138 8 (N.1 138 8 + 1)) 147 n (x &&& 255)).1 138 8 = N.1 138 8 + 1 from by rw [mem_fst (by omega), wI_s], t1]
  refine ⟨rfl, ⟨by rw [ta]; omega, by rw [ta]; omega⟩, fun i hi => ?_⟩
  rw [ta] at hi
  rw [show (wI (wI C 19 n (Int8.toInt32 (Int32.toInt8 x))) 18 1 (N.1 138 8 + 1)).1 19 i = (wI C 19 n (Int8.toInt32 (Int32.toInt8 x))).1 19 i from mem_fst (by omega)]
  by_cases e : i = n
  · subst e
    rw [wI_s, wI_s, and255]
    exact ⟨rfl, and255b x⟩
  · rw [mem_fst (by omega), mem_fst (by omega), mem_fst (by omega)]
    exact t3 i (by omega)
theorem feed_L (b : Int32) : ∀ (n : Nat) (x : Int32), x.toInt + 1 = n → ∀ (c : Nat) (C N : Mem), Rel c C N → (N.1 138 8).toInt + n ≤ 160 → ∀ F1 F2, n < F1 → n < F2 → ∃ C' N', fTape_append_L4 b F1 x C = some C' ∧ fm_feed_L40 b (fun M7 => (some ((M7.1 138 8), M7))) F2 x N = some (N'.1 138 8, N') ∧ Rel c C' N' := by
  intro n
  induction n with
  | zero =>
    intro x hx c C N h hs F1 F2 h1 h2
    obtain ⟨F1, rfl⟩ : ∃ m, F1 = m + 1 := ⟨F1 - 1, by omega⟩
    obtain ⟨F2, rfl⟩ : ∃ m, F2 = m + 1 := ⟨F2 - 1, by omega⟩
    have z : x < 0 := by rw [t_lt]; simp only [Int32.reduceToInt]; omega
    rw [fTape_append_L4, fm_feed_L40, if_pos z, if_pos z]
    exact ⟨_, _, rfl, rfl, h⟩
  | succ n ih =>
    intro x hx c C N h hs F1 F2 h1 h2
    obtain ⟨F1, rfl⟩ : ∃ m, F1 = m + 1 := ⟨F1 - 1, by omega⟩
    obtain ⟨F2, rfl⟩ : ∃ m, F2 = m + 1 := ⟨F2 - 1, by omega⟩
    obtain ⟨t1, ⟨t2, t2'⟩, t3⟩ := h.2.2.1
    have z : ¬ x < 0 := by rw [t_lt]; simp only [Int32.reduceToInt]; omega
    have hi := t_ix t2
    have hin : inb (N.1 138 8) 160 := b_in t2 (by omega)
    have tx : (x + -1).toInt = x.toInt - 1 := by rw [t_add] <;> simp only [Int32.reduceToInt] <;> omega
    have ta : (N.1 138 8 + 1).toInt = (N.1 138 8).toInt + 1 := by rw [t_add] <;> simp only [Int32.reduceToInt] <;> omega
    rw [fTape_append_L4, fm_feed_L40, if_neg z, if_neg z, if_neg (by rw [t1, t_le]; simp only [Int32.reduceToInt]; omega)]
    simp only [mlet_e]
    rw [gd_t hin, t1, gd_t hin]
    have w := tape_w h (n := ix (N.1 138 8)) (by omega) (by omega) (b >>> (8 * x &&& 31))
    rw [t1] at w
    rw [show (wI C 19 (ix (N.1 138 8)) (Int8.toInt32 (Int32.toInt8 (b >>> (8 * x &&& 31))))).1 18 1 = N.1 138 8 from by rw [mem_fst (by omega), t1]]
    refine ih (x + -1) (by omega) c _ _ w ?_ F1 F2 (by omega) (by omega)
    rw [mem_fst (by omega), wI_s, ta]; omega
theorem op_feed {c : Nat} {C N : Mem} (h : Rel c C N) (a1 a2 : Int32) : Sim c (fc_feed C a1 a2) (fm_feed N a1 a2) := by
  obtain ⟨t1, ⟨t2, t2'⟩, t3⟩ := h.2.2.1
  by_cases hb : a2.toInt < 1 ∨ 4 < a2.toInt
  · refine sim_2 h ?_ ?_
    · unfold fc_feed; rw [if_pos (by rw [within_0]; simp only [Int32.reduceToInt]; omega), bind_eta]
    · unfold fm_feed
      by_cases q : a2.toInt < 1
      · rw [if_pos (by rw [t_lt]; exact q), bind_eta]
      · rw [if_neg (by rw [t_lt]; exact q), if_neg (by rw [t_le]; simp only [Int32.reduceToInt]; omega), bind_eta]
  · have s1 : ((160 : Int32) - C.1 18 1).toInt = 160 - (N.1 138 8).toInt := by rw [t1, t_sub] <;> simp only [Int32.reduceToInt] <;> omega
    have s2 : (N.1 138 8 + a2).toInt = (N.1 138 8).toInt + a2.toInt := by rw [t_add] <;> omega
    have s3 : (a2 - 1).toInt = a2.toInt - 1 := by rw [t_sub] <;> simp only [Int32.reduceToInt] <;> omega
    unfold fc_feed fm_feed
    rw [if_neg (show ¬ fc_isWithinT C a2 1 4 = 0 by rw [within_0]; simp only [Int32.reduceToInt]; omega), if_neg (show ¬ a2 < 1 by rw [t_lt]; simp only [Int32.reduceToInt]; omega), if_pos (show a2 ≤ 4 by rw [t_le]; simp only [Int32.reduceToInt]; omega)]
    by_cases q : (N.1 138 8).toInt + a2.toInt ≤ 160
    · rw [if_pos (show a2 ≤ (160 : Int32) - C.1 18 1 by rw [t_le, s1]; omega), if_pos (show N.1 138 8 + a2 ≤ 160 by rw [t_le, s2]; simp only [Int32.reduceToInt]; omega)]
      obtain ⟨C', N', r1, r2, r3⟩ := feed_L a1 (ix a2) (a2 - 1) (by have := t_ix (a := a2) (by omega); omega) c C N h (by have := t_ix (a := a2) (by omega); omega) FU FU (by have := t_ix (a := a2) (by omega); rw [FU_eq]; omega) (by have := t_ix (a := a2) (by omega); rw [FU_eq]; omega)
      unfold fTape_append
      simp only [ilet_e]
      rw [r1, r2]
      exact sim_i rfl (by rw [r3.2.2.1.1]) (Rel_next r3)
    · rw [if_neg (show ¬ a2 ≤ (160 : Int32) - C.1 18 1 by rw [t_le, s1]; omega), if_neg (show ¬ N.1 138 8 + a2 ≤ 160 by rw [t_le, s2]; simp only [Int32.reduceToInt]; omega), bind_eta, bind_eta]
      exact sim_6 h rfl rfl
