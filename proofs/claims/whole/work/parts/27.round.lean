def hrx (v : Int32) : Int32 := if v < 660 then v / 60 else 11
theorem hr_m (M : Mem) (v : Int32) : fm_hourOfT M v = hrx v := rfl
theorem hr_c (M : Mem) {v : Int32} (h : 0 ≤ v.toInt) : fc_hourOfT M v = hrx v := by
  have d : (v / 60).toInt = v.toInt / 60 := t_div h (by decide)
  unfold fc_hourOfT hrx
  simp only [t_lt, d, Int32.reduceToInt]
  by_cases q : v.toInt < 660
  · rw [if_pos q, if_pos (by omega)]
  · rw [if_neg q, if_neg (by omega)]
theorem hr_b {v : Int32} (h : 0 ≤ v.toInt) : 0 ≤ (hrx v).toInt ∧ (hrx v).toInt < 12 := by
  have d : (v / 60).toInt = v.toInt / 60 := t_div h (by decide)
  unfold hrx
  simp only [t_lt, Int32.reduceToInt]
  split
  · rw [d]; omega
  · decide
theorem spx_b {C N : Mem} (L : LeapOK C N) {m : Nat} (hT : TP N m) {i : Nat} (hi : i ≤ m) : bd (spx N i) 0 255 := by
  unfold spx
  split
  · exact L.1.2.2.2.2.2.2.1.2
  · obtain ⟨y1, y2⟩ := hT.2 (i - 1) (by omega)
    have := t_ix y1
    exact (L.2.1 (ix (N.1 160 (i - 1))) (by omega)).2.1.2
theorem lgt_b {C N : Mem} (L : LeapOK C N) {m : Nat} (hT : TP N m) {s : Int32} (hs : bd s 1 9) {i : Nat} (hi : i < m) : bd (lgx N (spx N i) (spx N (i + 1)) s) 0 270 := lg_b L.lb (spx_b L hT (by omega)) (spx_b L hT (by omega)) hs
theorem bd_add {a b : Int32} {x y z w u v : Int} (h1 : bd a x y) (h2 : bd b z w) (hu : u ≤ x + z) (hv : y + w ≤ v) (g1 : -2147483648 ≤ x + z) (g2 : y + w < 2147483648) : bd (a + b) u v := by
  obtain ⟨p, q⟩ := h1
  obtain ⟨r, s⟩ := h2
  unfold bd
  rw [t_add (by omega) (by omega)]
  omega
theorem bd_1 : bd 1 1 1 := ⟨by decide, by decide⟩
theorem bd_3s {s : Int32} (hs : bd s 1 9) : bd (3 * s) 0 27 := by
  obtain ⟨p, q⟩ := hs
  unfold bd
  rw [t_mul] <;> simp only [Int32.reduceToInt] <;> omega
theorem dpx_b {C N : Mem} (L : LeapOK C N) {m : Nat} (hT : TP N m) {s : Int32} (hs : bd s 1 9) (b : Int32) : ∀ i, i ≤ m → bd (dpx N s b i) 0 (300 * i) := by
  have hm := hT.1
  intro i
  induction i with
  | zero => intro _; exact (show bd (0 : Int32) 0 (300 * ((0 : Nat) : Int)) from ⟨by decide, by decide⟩)
  | succ i ih =>
    intro hi
    have e := bd_add (bd_add (ih (by omega)) (lgt_b L hT hs (show i < m by omega)) (u := 0) (v := 300 * i + 270) (by omega) (by omega) (by omega) (by omega)) bd_1 (u := 0) (v := 300 * i + 271) (by omega) (by omega) (by omega) (by omega)
    rw [dpx]
    split
    · exact bd_add e (bd_3s hs) (by omega) (by omega) (by omega) (by omega)
    · exact ⟨e.1, by have := e.2; omega⟩
theorem cmx_b {C N : Mem} (L : LeapOK C N) {m : Nat} (hT : TP N m) {s : Int32} (hs : bd s 1 9) (b : Int32) {i : Nat} (hi : i < m) : bd (cmx N s b i) 0 6300 := by
  have hm := hT.1
  exact bd_add (dpx_b L hT hs b i (by omega)) (lgt_b L hT hs hi) (by omega) (by omega) (by omega) (by omega)
theorem m1_nI (i : Nat) (h : i < 2147483648) : ¬ nI i = -1 := nI_ne_m1 h
theorem dp_s (N : Mem) (s : Int32) {i : Nat} (h : i < 20) : dpx N s (-1) (i + 1) = dpx N s (-1) i + lgx N (spx N i) (spx N (i + 1)) s + 1 := by
  rw [dpx, if_neg (nI_ne_m1 (by omega))]
/-- the end of the first k leaps -/
def edx (N : Mem) (s : Int32) (k : Nat) : Int32 := if k = 0 then 0 else cmx N s (-1) (k - 1)
theorem ed_s (N : Mem) (s : Int32) {k : Nat} (h : k < 20) {z : Int32} (hz : z = if k = 0 then 0 else 1) : edx N s k + (lgx N (spx N k) (spx N (k + 1)) s + z) = cmx N s (-1) k := by
  unfold edx
  rw [hz]
  split
  · subst_vars
    unfold cmx
    rw [dpx, Int32.add_zero]
  · obtain ⟨j, rfl⟩ : ∃ j, k = j + 1 := ⟨k - 1, by omega⟩
    rw [Nat.add_sub_cancel]
    unfold cmx
    rw [dp_s N s (show j < 20 by omega)]
    ac_rfl
theorem ed_n (N : Mem) (s : Int32) (k : Nat) : edx N s (k + 1) = cmx N s (-1) k := by
  unfold edx
  rw [if_neg (by omega), Nat.add_sub_cancel]
-- the class's tours
def TC (C N : Mem) (m : Nat) (s b : Int32) : Prop := C.1 119 2 = nI m ∧ (∀ i, i < m → C.1 120 i = N.1 160 i) ∧ ∀ i, i < m → C.1 121 i = cmx N s b i
theorem end_c {C N : Mem} {m : Nat} {s b : Int32} (hT : TP N m) (hC : TC C N m s b) : fTour_end C = some (if m = 0 then 0 else cmx N s b (m - 1)) := by
  obtain ⟨hm, -⟩ := hT
  obtain ⟨e1, -, e3⟩ := hC
  have tm := t_nI (show m < 2147483648 by omega)
  unfold fTour_end
  rw [e1]
  by_cases q : m = 0
  · rw [if_pos q, if_neg (by rw [t_le, tm]; simp only [Int32.reduceToInt]; omega)]
  · have t1 : (nI m - 1).toInt = (m - 1 : Nat) := by rw [t_sub] <;> rw [tm] <;> simp only [Int32.reduceToInt] <;> omega
    have t2 := t_ix (a := nI m - 1) (by omega)
    rw [if_neg q, if_pos (by rw [t_le, tm]; simp only [Int32.reduceToInt]; omega), gd_t (b_in (by omega) (by omega)), show ix (nI m - 1) = m - 1 by omega, e3 _ (by omega)]
theorem end_m {c : Nat} {C N : Mem} (h : Rel c C N) {m : Nat} (hT : TP N m) : ∀ (n k : Nat), k + n = m → ∀ F1, n < F1 → fm_endOfTour_L13 N (nI m) F1 (edx N (lwv N 1) k) (spx N k) (nI k) = some (edx N (lwv N 1) m) := by
  have L := LeapOK.of h
  have u0 := L.u0
  have hm := hT.1
  have tm := t_nI (show m < 2147483648 by omega)
  intro n
  induction n with
  | zero =>
    intro k hk F1 h1
    obtain ⟨F1, rfl⟩ : ∃ m, F1 = m + 1 := ⟨F1 - 1, by omega⟩
    have tk := t_nI (show k < 2147483648 by omega)
    rw [fm_endOfTour_L13, if_pos (by rw [t_le, tk, tm]; omega), show k = m by omega]
  | succ n ih =>
    intro k hk F1 h1
    obtain ⟨F1, rfl⟩ : ∃ m, F1 = m + 1 := ⟨F1 - 1, by omega⟩
    have tk := t_nI (show k < 2147483648 by omega)
    have xk := ix_nI (show k < 2147483648 by omega)
    obtain ⟨y1, y2⟩ := hT.2 k (by omega)
    have hin : inb (nI k) 20 := b_in (by omega) (by omega)
    have hin2 : inb (N.1 160 k) 20 := b_in (by omega) (by omega)
    rw [fm_endOfTour_L13, if_neg (by rw [t_le, tk, tm]; omega)]
    simp only [gd_t hin, xk, gd_t hin2, L.gm1, Option.bind_some, jlet_e, ilet_e, nI_1]
    rw [← spx_s N k]
    have hz : ∀ z : Int32, z = (if k = 0 then 0 else 1) → fm_endOfTour_L13 N (nI m) F1 (edx N (lwv N 1) k + (lgx N (spx N k) (spx N (k + 1)) (lwv N 1) + z)) (spx N (k + 1)) (nI (k + 1)) = some (edx N (lwv N 1) m) := by
      intro z hz
      rw [ed_s N _ (by omega) hz, ← ed_n]
      exact ih (k + 1) (by omega) F1 (by omega)
    by_cases q : k = 0
    · rw [if_pos (by rw [t_le, tk]; simp only [Int32.reduceToInt]; omega)]
      exact hz 0 (by rw [if_pos q])
    · rw [if_neg (by rw [t_le, tk]; simp only [Int32.reduceToInt]; omega)]
      exact hz 1 (by rw [if_neg q])
theorem risk_L {c : Nat} {C N : Mem} (h : Rel c C N) {m : Nat} (hT : TP N m) (hC : TC C N m (lwv N 1) (-1)) {a : Int32} (a1 : 0 ≤ a.toInt) (a2 : a.toInt < (N.1 156 2).toInt) : ∀ (n k : Nat) (x : Int32), k + n = m → ∀ F1 F2, n < F1 → n < F2 → ∃ r, fTour_riskBy_L5 C a F1 x (nI k) = some r ∧ fm_riskOfTour_L17 N a (nI m) F2 x (dpx N (lwv N 1) (-1) k) (spx N k) (nI k) = some r := by
  have L := LeapOK.of h
  have u0 := L.u0
  have hm := hT.1
  have tm := t_nI (show m < 2147483648 by omega)
  obtain ⟨c1, c2, c3⟩ := id hC
  intro n
  induction n with
  | zero =>
    intro k x hk F1 F2 h1 h2
    obtain ⟨F1, rfl⟩ : ∃ m, F1 = m + 1 := ⟨F1 - 1, by omega⟩
    obtain ⟨F2, rfl⟩ : ∃ m, F2 = m + 1 := ⟨F2 - 1, by omega⟩
    have tk := t_nI (show k < 2147483648 by omega)
    rw [fTour_riskBy_L5, fm_riskOfTour_L17, if_pos (show C.1 119 2 ≤ nI k by rw [c1, t_le, tk, tm]; omega), if_pos (show nI m ≤ nI k by rw [t_le, tk, tm]; omega)]
    exact ⟨x, rfl, rfl⟩
  | succ n ih =>
    intro k x hk F1 F2 h1 h2
    obtain ⟨F1, rfl⟩ : ∃ m, F1 = m + 1 := ⟨F1 - 1, by omega⟩
    obtain ⟨F2, rfl⟩ : ∃ m, F2 = m + 1 := ⟨F2 - 1, by omega⟩
    have tk := t_nI (show k < 2147483648 by omega)
    have xk := ix_nI (show k < 2147483648 by omega)
    obtain ⟨y1, y2⟩ := hT.2 k (by omega)
    have hin : inb (nI k) 20 := b_in (by omega) (by omega)
    have hin2 : inb (N.1 160 k) 20 := b_in (by omega) (by omega)
    have hcb := cmx_b L hT L.lb.2.1 (-1) (show k < m by omega)
    have hhb := hr_b hcb.1
    rw [fTour_riskBy_L5, fm_riskOfTour_L17, if_neg (show ¬ C.1 119 2 ≤ nI k by rw [c1, t_le, tk, tm]; omega), if_neg (show ¬ nI m ≤ nI k by rw [t_le, tk, tm]; omega)]
    simp only [gd_t hin, xk, gd_t hin2, L.gm1, Option.bind_some, jlet_e, ilet_e, nI_1, c2 k (by omega), c3 k (by omega), hr_m, hr_c C hcb.1]
    rw [← spx_s N k, show dpx N (lwv N 1) (-1) k + lgx N (spx N k) (spx N (k + 1)) (lwv N 1) = cmx N (lwv N 1) (-1) k from rfl, risk_c h a1 a2 y1 y2 hhb.1 hhb.2, risk_m h a1 a2 y1 y2 hhb.1 hhb.2]
    simp only [Option.bind_some]
    rw [show cmx N (lwv N 1) (-1) k + 1 = dpx N (lwv N 1) (-1) (k + 1) from (dp_s N _ (by omega)).symm]
    exact ih (k + 1) _ (by omega) F1 F2 (by omega) (by omega)
theorem hope_L {c : Nat} {C N : Mem} (h : Rel c C N) {m : Nat} (hT : TP N m) (c1 : C.1 119 2 = nI m) (c2 : ∀ i, i < m → C.1 120 i = N.1 160 i) : ∀ (n k : Nat) (x : Int32), k + n = m → ∀ F1 F2, n < F1 → n < F2 → ∃ r, fTour_hopeless_L4 C F1 x (nI k) = some r ∧ fm_round_L94 N (nI m) F2 x (nI k) = some (r, N) := by
  have L := LeapOK.of h
  have u0 := L.u0
  have hm := hT.1
  have tm := t_nI (show m < 2147483648 by omega)
  intro n
  induction n with
  | zero =>
    intro k x hk F1 F2 h1 h2
    obtain ⟨F1, rfl⟩ : ∃ m, F1 = m + 1 := ⟨F1 - 1, by omega⟩
    obtain ⟨F2, rfl⟩ : ∃ m, F2 = m + 1 := ⟨F2 - 1, by omega⟩
    have tk := t_nI (show k < 2147483648 by omega)
    rw [fTour_hopeless_L4, fm_round_L94, if_pos (show C.1 119 2 ≤ nI k by rw [c1, t_le, tk, tm]; omega), if_pos (show nI m ≤ nI k by rw [t_le, tk, tm]; omega)]
    exact ⟨x, rfl, rfl⟩
  | succ n ih =>
    intro k x hk F1 F2 h1 h2
    obtain ⟨F1, rfl⟩ : ∃ m, F1 = m + 1 := ⟨F1 - 1, by omega⟩
    obtain ⟨F2, rfl⟩ : ∃ m, F2 = m + 1 := ⟨F2 - 1, by omega⟩
    have tk := t_nI (show k < 2147483648 by omega)
    have xk := ix_nI (show k < 2147483648 by omega)
    obtain ⟨y1, y2⟩ := hT.2 k (by omega)
    have yi := t_ix y1
    have hin : inb (nI k) 20 := b_in (by omega) (by omega)
    have hin2 : inb (N.1 160 k) 20 := b_in (by omega) (by omega)
    rw [fTour_hopeless_L4, fm_round_L94, if_neg (show ¬ C.1 119 2 ≤ nI k by rw [c1, t_le, tk, tm]; omega), if_neg (show ¬ nI m ≤ nI k by rw [t_le, tk, tm]; omega)]
    simp only [gd_t hin, xk, c2 k (by omega), gd_t hin2, ix_5, Option.bind_some, jlet_e, ilet_e, nI_1, L.hc (show ((ix (N.1 160 k) : Nat) : Int) < (N.1 156 0).toInt by omega), L.om y1 y2 L.lv, L.tm1 y1 y2]
    unfold hpx
    by_cases q : outx N (ix (N.1 160 k)) (N.1 156 5) = 0
    · rw [if_pos q, if_pos q]
      by_cases q2 : tmx N (ix (N.1 160 k)) (lwv N 1) = 0
      · rw [if_pos q2, if_pos q2, num_t]
        exact ih (k + 1) _ (by omega) F1 F2 (by omega) (by omega)
      · rw [if_neg q2, if_neg q2, num_f, Int32.add_zero]
        exact ih (k + 1) _ (by omega) F1 F2 (by omega) (by omega)
    · rw [if_neg q, if_neg q, num_t]
      exact ih (k + 1) _ (by omega) F1 F2 (by omega) (by omega)
theorem sail_R {c : Nat} {C C' N : Mem} (h : Rel c C N) (r2 : ∀ q, q ≠ 121 → C'.1 q = C.1 q) (r3 : C'.2 = C.2) : Rel c C' N := Rel_same0 h (same_of r2 r3 (by omega)) (r2 128 (by omega)) (r2 134 (by omega)) same_r
theorem op_round {c : Nat} {C N : Mem} (h : Rel c C N) (a1 a2 a3 a4 : Int32) : Sim c (fc_round C a1 a2 a3 a4) (fm_round N a1 a2 a3 a4) := by
  obtain ⟨⟨hS, hJ, hL, hF, hA, hP, hW, hV⟩, -⟩ := id h
  obtain ⟨⟨e0, b0⟩, ⟨e1, b1⟩, ⟨e2, b2⟩, ⟨e3, b3⟩, ⟨e5, b5⟩, ⟨e6, b6⟩, ⟨e7, b7⟩, ⟨e4, b4⟩, e8⟩ := id hS
  obtain ⟨l0, u0⟩ := id b0
  obtain ⟨l1, u1⟩ := id b1
  obtain ⟨l2, u2⟩ := id b2
  obtain ⟨l3, u3⟩ := id b3
  obtain ⟨l5, u5⟩ := id b5
  obtain ⟨l6, u6⟩ := id b6
  obtain ⟨l7, u7⟩ := id b7
  obtain ⟨l4, u4⟩ := id b4
  have L := LeapOK.of h
  unfold fc_round fm_round
  by_cases hb : (a1.toInt < 0 ∨ (N.1 156 2).toInt ≤ a1.toInt) ∨ (a3.toInt < 0 ∨ 20 < a3.toInt) ∨ (a4.toInt < 0 ∨ 2 < a4.toInt)
  · refine sim_2 h ?_ ?_
    · by_cases q : a1.toInt < 0 ∨ (N.1 156 2).toInt ≤ a1.toInt
      · rw [if_pos (by rw [leaper_0, e2]; exact q), bind_eta]
      · rw [if_neg (by rw [leaper_0, e2]; exact q)]
        by_cases q2 : a4.toInt < 0 ∨ 2 < a4.toInt
        · rw [if_pos (by rw [within_0]; simp only [Int32.reduceToInt]; omega), bind_eta]
        · rw [if_neg (by rw [within_0]; simp only [Int32.reduceToInt]; omega)]
          unfold fc_roundTrouble
          rw [if_pos (by rw [within_0]; simp only [Int32.reduceToInt]; omega)]
          simp only [Option.bind_some, bind_eta]
          rw [if_neg (by decide)]
    · simp only [mleaper_0, mshelf_0, t_lt, t_le, Int32.reduceToInt, bind_eta]
      repeat' split
      all_goals first | rfl | (exfalso; omega)
  · rw [if_neg (show ¬ fc_isLeaperT C a1 = 0 by rw [leaper_0, e2]; omega), if_neg (show ¬ fc_isWithinT C a4 0 2 = 0 by rw [within_0]; simp only [Int32.reduceToInt]; omega), if_neg (show ¬ fm_isLeaperT N a1 = 0 by rw [mleaper_0]; omega)]
    rw [if_neg (show ¬ a3 < 0 by rw [t_lt]; simp only [Int32.reduceToInt]; omega), if_neg (show ¬ (20 : Int32) < a3 by rw [t_lt]; simp only [Int32.reduceToInt]; omega), if_neg (show ¬ a4 < 0 by rw [t_lt]; simp only [Int32.reduceToInt]; omega), if_pos (show a4 ≤ 2 by rw [t_le]; simp only [Int32.reduceToInt]; omega)]
    have i3 := t_ix (a := a3) (by omega)
    have w3 : nI (ix a3) = a3 := (of_ix (by omega)).symm
    rcases tour_t h (a1 := a2) (a2 := a3) (by omega) (by omega) with ⟨r, N', hr, t1, t2, hR⟩ | ⟨t1, N', t2, hR, hT, hN, hc⟩
    · by_cases hs : a2.toInt < 0 ∨ 8 ≤ a2.toInt
      · rw [if_pos (by rw [mshelf_0]; exact hs), t1]
        simp only [Option.bind_some, bind_eta]
        have hr2 : r = -2 := by
          unfold fc_roundTrouble at t1
          rw [if_neg (by rw [within_0]; simp only [Int32.reduceToInt]; omega), rowTb (N := N) (Or.inl hs)] at t1
          simp only [Option.bind_some] at t1
          rw [if_neg (by decide)] at t1
          exact (Option.some.inj t1).symm
        rw [hr2, if_neg (by decide)]
        exact sim_2 h rfl rfl
      · rw [if_neg (by rw [mshelf_0]; exact hs), t1, t2]
        simp only [Option.bind_some, bind_eta]
        rw [if_neg (by rcases hr with rfl | rfl | rfl <;> decide), if_neg (by rcases hr with rfl | rfl | rfl <;> decide)]
        exact sim_r hR hr rfl rfl
    · have hs : ¬ (a2.toInt < 0 ∨ 8 ≤ a2.toInt) := fun hs => by
        unfold fc_roundTrouble at t1
        rw [if_neg (by rw [within_0]; simp only [Int32.reduceToInt]; omega), rowTb (N := N) (Or.inl hs)] at t1
        simp only [Option.bind_some] at t1
        rw [if_neg (by decide)] at t1
        exact absurd (Option.some.inj t1) (by decide)
      obtain ⟨⟨C1, s1, hR1, s3, s4, s5, s6⟩, -⟩ := hc C hR rfl rfl
      have L1 := LeapOK.of hR1
      have n2 : N'.1 156 2 = N.1 156 2 := by rw [(hN 156 (by omega) (by omega)).1]
      rw [if_neg (by rw [mshelf_0]; exact hs), t1, t2]
      simp only [Option.bind_some, if_true]
      rw [if_pos (show (0 : Int32) ≤ 0 by decide), s1]
      simp only [Option.bind_some]
      rw [← w3] at s3
      by_cases q2 : a4 = 2
      · obtain ⟨r, r1, r2⟩ := hope_L hR1 hT s3 s4 (ix a3) 0 0 (by omega) FU FU (by rw [FU_eq]; omega) (by rw [FU_eq]; omega)
        rw [if_pos q2, if_neg (by rw [q2]; decide), if_neg (by rw [q2]; decide), show fTour_hopeless C1 = some r from r1]
        rw [w3] at r2
        exact sim_i rfl r2 (Rel_next hR1)
      · rw [if_neg q2, L1.sp]
        simp only [Option.bind_some]
        obtain ⟨C2, u1, u2, u3, u4⟩ := sail_c hR1 (b := -1) L1.lb.2.1.1 hT s3 s4
        have hC : TC C2 N' (ix a3) (lwv N' 1) (-1) := ⟨by rw [u2 119 (by omega)]; exact s3, fun i hi => by rw [u2 120 (by omega)]; exact s4 i hi, u4⟩
        have hR2 := sail_R hR1 u2 u3
        rw [u1]
        simp only [Option.bind_some]
        by_cases q0 : a4 = 0
        · obtain ⟨r, r1, r2⟩ := risk_L hR2 hT hC (a := a1) (by omega) (by rw [n2]; omega) (ix a3) 0 0 (by omega) FU FU (by rw [FU_eq]; omega) (by rw [FU_eq]; omega)
          rw [w3] at r2
          rw [if_pos q0, if_pos q0, show fTour_riskBy C2 a1 = some r from r1, show fm_riskOfTour N' a1 a3 = some r from r2]
          exact sim_i rfl rfl (Rel_next hR2)
        · have q1 : a4 = 1 := by
            rcases o3 (x := a4) (by omega) (by omega) with e | e | e
            · exact absurd e q0
            · exact e
            · exact absurd e q2
          have r2 := end_m hR2 hT (ix a3) 0 (by omega) FU (by rw [FU_eq]; omega)
          rw [w3] at r2
          rw [if_neg q0, if_neg q0, if_pos q1, end_c hT hC, show fm_endOfTour N' a3 = some (edx N' (lwv N' 1) (ix a3)) from r2]
          exact sim_i rfl rfl (Rel_next hR2)
