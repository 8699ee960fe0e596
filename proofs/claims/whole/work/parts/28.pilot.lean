/-- a tour, or the refusal, with the shelf's number looked at first -/
theorem tour_u {c : Nat} {C N : Mem} (h : Rel c C N) {a1 a2 : Int32} (ha1 : 0 ≤ a2.toInt) (ha2 : a2.toInt ≤ 20) :
    (∃ r, (r = -2 ∨ r = -3 ∨ r = -4) ∧ fc_roundTrouble C a1 a2 = some r ∧ ((fm_isShelfT N a1 = 0 ∧ r = -2) ∨ (¬ fm_isShelfT N a1 = 0 ∧ ∃ N', fm_take N a1 a2 = some (r, N') ∧ Rel c C N'))) ∨
    (fc_roundTrouble C a1 a2 = some 0 ∧ ¬ fm_isShelfT N a1 = 0 ∧ 0 ≤ a1.toInt ∧ a1.toInt < 8 ∧ ∃ N', fm_take N a1 a2 = some (0, N') ∧ Rel c C N' ∧ TP N' (ix a2) ∧ same 138 159 N N' ∧ ∀ C1, Rel c C1 N' → C1.1 (ix a1 + 2) = C.1 (ix a1 + 2) → C1.2 = C.2 →
      (∃ C', fc_readTour C1 a1 a2 = some C' ∧ Rel c C' N' ∧ C'.1 119 2 = a2 ∧ (∀ i, i < ix a2 → C'.1 120 i = N'.1 160 i) ∧ C'.2 = C1.2 ∧ ∀ q, q ≠ 119 → q ≠ 120 → C'.1 q = C1.1 q) ∧
      (∃ C', fc_readTour_2 C1 a1 a2 = some C' ∧ Rel c C' N' ∧ C'.1 122 2 = a2 ∧ (∀ i, i < ix a2 → C'.1 123 i = N'.1 160 i) ∧ C'.2 = C1.2 ∧ ∀ q, q ≠ 122 → q ≠ 123 → C'.1 q = C1.1 q)) := by
  have hsh : (a1.toInt < 0 ∨ 8 ≤ a1.toInt) → fc_roundTrouble C a1 a2 = some (-2) := fun hs => by
    unfold fc_roundTrouble
    rw [if_neg (by rw [within_0]; simp only [Int32.reduceToInt]; omega), rowTb (N := N) (Or.inl hs)]
    simp only [Option.bind_some]
    rw [if_neg (by decide)]
  rcases tour_t h (a1 := a1) (a2 := a2) ha1 ha2 with ⟨r, N', hr, t1, t2, hR⟩ | ⟨t1, N', t2, hR, hT, hN, hc⟩
  · refine Or.inl ⟨r, hr, t1, ?_⟩
    by_cases hs : a1.toInt < 0 ∨ 8 ≤ a1.toInt
    · rw [hsh hs] at t1
      exact Or.inl ⟨by rw [mshelf_0]; exact hs, (Option.some.inj t1).symm⟩
    · exact Or.inr ⟨by rw [mshelf_0]; exact hs, N', t2, hR⟩
  · have hs : ¬ (a1.toInt < 0 ∨ 8 ≤ a1.toInt) := fun hs => by
      rw [hsh hs] at t1
      exact absurd (Option.some.inj t1) (by decide)
    exact Or.inr ⟨t1, by rw [mshelf_0]; exact hs, by omega, by omega, N', t2, hR, hT, hN, hc⟩
theorem rt_bad {C : Mem} {a1 a2 : Int32} (h : a2.toInt < 0 ∨ 20 < a2.toInt) : fc_roundTrouble C a1 a2 = some (-2) := by
  unfold fc_roundTrouble
  rw [if_pos (by rw [within_0]; simp only [Int32.reduceToInt]; omega)]
theorem r_ne0 {r : Int32} (hr : r = -2 ∨ r = -3 ∨ r = -4) : ¬ r = 0 := by rcases hr with rfl | rfl | rfl <;> decide
theorem r_nle {r : Int32} (hr : r = -2 ∨ r = -3 ∨ r = -4) : ¬ 0 ≤ r := by rcases hr with rfl | rfl | rfl <;> decide
-- pilot
def lsx (N : Mem) (s : Int32) : Nat → Int32
  | 0 => 0
  | i + 1 => lsx N s i + lgx N (spx N i) (spx N (i + 1)) s
theorem ls_dp (N : Mem) (s : Int32) : ∀ i, i ≤ 20 → dpx N s (-1) i = lsx N s i + nI i := by
  intro i
  induction i with
  | zero => intro _; rfl
  | succ i ih =>
    intro hi
    rw [dp_s N s (by omega), ih (by omega), lsx, ← nI_1]
    ac_rfl
theorem ls_e (N : Mem) (s : Int32) {m : Nat} (hm : m ≤ 20) {z : Int32} (hz : z = if m = 0 then 0 else nI (m - 1)) : z + lsx N s m = if m = 0 then 0 else cmx N s (-1) (m - 1) := by
  rw [hz]
  split
  · subst_vars; rfl
  · obtain ⟨j, rfl⟩ : ∃ j, m = j + 1 := ⟨m - 1, by omega⟩
    rw [Nat.add_sub_cancel, lsx]
    unfold cmx
    rw [ls_dp N s j (by omega)]
    ac_rfl
theorem pil_i {c : Nat} {C N : Mem} (h : Rel c C N) {m : Nat} (hT : TP N m) {b3 s : Int32} (hs : 1 ≤ s.toInt) {K : Int32 → Option (Int32 × Mem)} (z : Int32) : ∀ (n k : Nat), k + n = m → ∀ F1, n < F1 → fm_pilot_L91 N (nI m) b3 s K F1 (z + lsx N s k) (spx N k) (nI k) = K (z + lsx N s m) := by
  have L := LeapOK.of h
  have u0 := L.u0
  have hm := hT.1
  have tm := t_nI (show m < 2147483648 by omega)
  intro n
  induction n with
  | zero =>
    intro k hk F1 h1
    obtain ⟨F1, rfl⟩ : ∃ m, F1 = m + 1 := ⟨F1 - 1, by omega⟩
    have tk := t_nI (show k < 2147483648 by omega)
    rw [fm_pilot_L91, if_pos (by rw [t_le, tk, tm]; omega), show k = m by omega]
  | succ n ih =>
    intro k hk F1 h1
    obtain ⟨F1, rfl⟩ : ∃ m, F1 = m + 1 := ⟨F1 - 1, by omega⟩
    have tk := t_nI (show k < 2147483648 by omega)
    have xk := ix_nI (show k < 2147483648 by omega)
    obtain ⟨y1, y2⟩ := hT.2 k (by omega)
    have hin : inb (nI k) 20 := b_in (by omega) (by omega)
    have hin2 : inb (N.1 160 k) 20 := b_in (by omega) (by omega)
    rw [fm_pilot_L91, if_neg (by rw [t_le, tk, tm]; omega)]
    simp only [gd_t hin, xk, gd_t hin2, L.gm _ _ hs, Option.bind_some, jlet_e, ilet_e, nI_1]
    rw [← spx_s N k, Int32.add_assoc]
    exact ih (k + 1) (by omega) F1 (by omega)
theorem pil_L {c : Nat} {N : Mem} {m : Nat} (hT : TP N m) {b3 : Int32} : ∀ (n k : Nat), k + n = 10 → 1 ≤ k → ∀ C, Rel c C N → C.1 119 2 = nI m → (∀ i, i < m → C.1 120 i = N.1 160 i) → ∀ F1 F2, n < F1 → n < F2 → ∃ r C', fc_pilot_L51 b3 F1 (nI k) C = some (r, C') ∧ fm_pilot_L59 N (nI m) b3 F2 (nI k) = some (r, N) ∧ Rel c C' N := by
  have hm := hT.1
  have tm := t_nI (show m < 2147483648 by omega)
  intro n
  induction n with
  | zero =>
    intro k hk hk1 C h c1 c2 F1 F2 h1 h2
    obtain ⟨F1, rfl⟩ : ∃ m, F1 = m + 1 := ⟨F1 - 1, by omega⟩
    obtain ⟨F2, rfl⟩ : ∃ m, F2 = m + 1 := ⟨F2 - 1, by omega⟩
    have hk : k = 10 := by omega
    subst hk
    refine ⟨-1, C, ?_, ?_, h⟩
    · rw [fc_pilot_L51, if_pos (by decide)]
    · rw [fm_pilot_L59, if_pos (by decide)]
  | succ n ih =>
    intro k hk hk1 C h c1 c2 F1 F2 h1 h2
    obtain ⟨F1, rfl⟩ : ∃ m, F1 = m + 1 := ⟨F1 - 1, by omega⟩
    obtain ⟨F2, rfl⟩ : ∃ m, F2 = m + 1 := ⟨F2 - 1, by omega⟩
    have tk := t_nI (show k < 2147483648 by omega)
    obtain ⟨C2, u1, u2, u3, u4⟩ := sail_c h (s := nI k) (b := -1) (by omega) hT c1 c2
    have hC : TC C2 N m (nI k) (-1) := ⟨by rw [u2 119 (by omega)]; exact c1, fun i hi => by rw [u2 120 (by omega)]; exact c2 i hi, u4⟩
    have hR2 := sail_R h u2 u3
    rw [fc_pilot_L51, fm_pilot_L59, if_neg (show ¬ (9 : Int32) < nI k by rw [t_lt, tk]; simp only [Int32.reduceToInt]; omega), if_neg (show ¬ (10 : Int32) ≤ nI k by rw [t_le, tk]; simp only [Int32.reduceToInt]; omega), u1]
    simp only [Option.bind_some]
    rw [end_c hT hC]
    simp only [Option.bind_some, jlet_e, ilet_e, nI_1, ix_7]
    have hz : ∀ z : Int32, z = (if m = 0 then 0 else nI (m - 1)) → fm_pilot_L91 N (nI m) b3 (nI k) (fun w20 => (if b3 < w20 then (fm_pilot_L59 N (nI m) b3 F2 (nI (k + 1))) else (some (nI k, N)))) FU z (N.1 156 7) 0 = (if b3 < (if m = 0 then 0 else cmx N (nI k) (-1) (m - 1)) then (fm_pilot_L59 N (nI m) b3 F2 (nI (k + 1))) else (some (nI k, N))) := by
      intro z hz
      have e := pil_i h hT (b3 := b3) (s := nI k) (by omega) (K := fun w20 => (if b3 < w20 then (fm_pilot_L59 N (nI m) b3 F2 (nI (k + 1))) else (some (nI k, N)))) z m 0 (by omega) FU (by rw [FU_eq]; omega)
      rw [ls_e N _ hm hz] at e
      rw [lsx, Int32.add_zero] at e
      exact e
    have fin : ∃ r C', (if b3 < (if m = 0 then 0 else cmx N (nI k) (-1) (m - 1)) then fc_pilot_L51 b3 F1 (nI (k + 1)) C2 else some (nI k, C2)) = some (r, C') ∧ (if b3 < (if m = 0 then 0 else cmx N (nI k) (-1) (m - 1)) then (fm_pilot_L59 N (nI m) b3 F2 (nI (k + 1))) else (some (nI k, N))) = some (r, N) ∧ Rel c C' N := by
      by_cases q : b3 < (if m = 0 then 0 else cmx N (nI k) (-1) (m - 1))
      · rw [if_pos q, if_pos q]
        exact ih (k + 1) (by omega) (by omega) C2 hR2 hC.1 hC.2.1 F1 F2 (by omega) (by omega)
      · rw [if_neg q, if_neg q]
        exact ⟨_, _, rfl, rfl, hR2⟩
    by_cases q : m = 0
    · rw [if_pos (show nI m ≤ 0 by rw [t_le, tm]; simp only [Int32.reduceToInt]; omega), hz 0 (by rw [if_pos q])]
      exact fin
    · rw [if_neg (show ¬ nI m ≤ 0 by rw [t_le, tm]; simp only [Int32.reduceToInt]; omega), hz (nI m - 1) (by rw [if_neg q, t_eq, t_sub (by rw [tm]; simp only [Int32.reduceToInt]; omega) (by rw [tm]; simp only [Int32.reduceToInt]; omega), tm, t_nI (by omega)]; simp only [Int32.reduceToInt]; omega)]
      exact fin
theorem op_pilot {c : Nat} {C N : Mem} (h : Rel c C N) (a1 a2 a3 : Int32) : Sim c (fc_pilot C a1 a2 a3) (fm_pilot N a1 a2 a3) := by
  obtain ⟨⟨hS, hJ, hL, hF, hA, hP, hW, hV⟩, -⟩ := id h
  obtain ⟨⟨e0, b0⟩, ⟨e1, b1⟩, ⟨e2, b2⟩, ⟨e3, b3⟩, ⟨e5, b5⟩, ⟨e6, b6⟩, ⟨e7, b7⟩, ⟨e4, b4⟩, e8⟩ := id hS
  obtain ⟨l0, u0⟩ := id b0
  obtain ⟨l1, u1⟩ := id b1
  obtain ⟨l2, u2⟩ := id b2
  obtain ⟨l3, u3⟩ := id b3
  obtain ⟨l5, u5⟩ := id b5
  obtain ⟨l6, u6⟩ := id b6
  obtain ⟨l7, u7⟩ := id b7
  obtain ⟨l4, u4⟩ := id b4
  have L := LeapOK.of h
  unfold fc_pilot fm_pilot
  by_cases hb : (a2.toInt < 0 ∨ 20 < a2.toInt) ∨ (a3.toInt < 0 ∨ 999 < a3.toInt)
  · refine sim_2 h ?_ ?_
    · by_cases q : a3.toInt < 0 ∨ 999 < a3.toInt
      · rw [if_pos (by rw [within_0]; simp only [Int32.reduceToInt]; omega), bind_eta]
      · rw [if_neg (by rw [within_0]; simp only [Int32.reduceToInt]; omega), rt_bad (by omega)]
        simp only [Option.bind_some, bind_eta]
        rw [if_neg (by decide)]
    · simp only [mshelf_0, t_lt, t_le, Int32.reduceToInt, bind_eta]
      repeat' split
      all_goals first | rfl | (exfalso; omega)
  · rw [if_neg (show ¬ fc_isWithinT C a3 0 999 = 0 by rw [within_0]; simp only [Int32.reduceToInt]; omega)]
    rw [if_neg (show ¬ a2 < 0 by rw [t_lt]; simp only [Int32.reduceToInt]; omega), if_neg (show ¬ (20 : Int32) < a2 by rw [t_lt]; simp only [Int32.reduceToInt]; omega), if_neg (show ¬ a3 < 0 by rw [t_lt]; simp only [Int32.reduceToInt]; omega), if_pos (show a3 ≤ 999 by rw [t_le]; simp only [Int32.reduceToInt]; omega)]
    have i2 := t_ix (a := a2) (by omega)
    have w2 : nI (ix a2) = a2 := (of_ix (by omega)).symm
    rcases tour_u h (a1 := a1) (a2 := a2) (by omega) (by omega) with ⟨r, hr, t1, ⟨t2, hr2⟩ | ⟨t2, N', t3, hR⟩⟩ | ⟨t1, t2, -, -, N', t3, hR, hT, hN, hc⟩
    · rw [if_pos t2, t1]
      simp only [Option.bind_some, bind_eta]
      rw [if_neg (r_ne0 hr), hr2]
      exact sim_2 h rfl rfl
    · rw [if_neg t2, t1, t3]
      simp only [Option.bind_some, bind_eta]
      rw [if_neg (r_ne0 hr), if_neg (r_nle hr)]
      exact sim_r hR hr rfl rfl
    · obtain ⟨⟨C1, s1, hR1, s3, s4, s5, s6⟩, -⟩ := hc C hR rfl rfl
      rw [if_neg t2, t1, t3]
      simp only [Option.bind_some, if_true]
      rw [if_pos (show (0 : Int32) ≤ 0 by decide), s1]
      simp only [Option.bind_some]
      rw [← w2] at s3
      obtain ⟨r, C', r1, r2, r3⟩ := pil_L hT (b3 := a3) 9 1 (by omega) (by omega) C1 hR1 s3 s4 FU FU (by rw [FU_eq]; omega) (by rw [FU_eq]; omega)
      rw [w2] at r2
      exact sim_i r1 r2 (Rel_next r3)
-- still
def nox (N : Mem) (s : Int32) : Nat → Nat → Int32
  | 0, _ => 1
  | n + 1, k => if tmx N (ix (N.1 160 k)) s = 0 then 0 else nox N s n (k + 1)
theorem sti_c {c : Nat} {C N : Mem} (h : Rel c C N) {m : Nat} (hT : TP N m) (c1 : C.1 119 2 = nI m) (c2 : ∀ i, i < m → C.1 120 i = N.1 160 i) {s : Int32} (hs : 1 ≤ s.toInt) : ∀ (n k : Nat), k + n = m → ∀ F1, n < F1 → fTour_hasTimeEverywhere_L2 C s F1 (nI k) = some (nox N s n k) := by
  have L := LeapOK.of h
  have u0 := L.u0
  have hm := hT.1
  have tm := t_nI (show m < 2147483648 by omega)
  intro n
  induction n with
  | zero =>
    intro k hk F1 h1
    obtain ⟨F1, rfl⟩ : ∃ m, F1 = m + 1 := ⟨F1 - 1, by omega⟩
    have tk := t_nI (show k < 2147483648 by omega)
    rw [fTour_hasTimeEverywhere_L2, if_pos (by rw [c1, t_le, tk, tm]; omega), nox]
  | succ n ih =>
    intro k hk F1 h1
    obtain ⟨F1, rfl⟩ : ∃ m, F1 = m + 1 := ⟨F1 - 1, by omega⟩
    have tk := t_nI (show k < 2147483648 by omega)
    have xk := ix_nI (show k < 2147483648 by omega)
    obtain ⟨y1, y2⟩ := hT.2 k (by omega)
    have yi := t_ix y1
    have hin : inb (nI k) 20 := b_in (by omega) (by omega)
    have hin2 : inb (N.1 160 k) 20 := b_in (by omega) (by omega)
    rw [fTour_hasTimeEverywhere_L2, if_neg (by rw [c1, t_le, tk, tm]; omega)]
    simp only [gd_t hin, xk, c2 k (by omega), gd_t hin2, Option.bind_some, nI_1, L.tc (show ((ix (N.1 160 k) : Nat) : Int) < (N.1 156 0).toInt by omega) hs]
    by_cases q : tmx N (ix (N.1 160 k)) s = 0
    · rw [if_pos q, nox, if_pos q]
    · rw [if_neg q, ih (k + 1) (by omega) F1 (by omega), nox, if_neg q]
theorem sti_m {c : Nat} {C N : Mem} (h : Rel c C N) {m : Nat} (hT : TP N m) {s : Int32} (hs : 1 ≤ s.toInt) {K : Int32 → Option (Int32 × Mem)} : ∀ (n k : Nat) (x : Int32), k + n = m → ∀ F1, n < F1 → fm_still_L57 N (nI m) s K F1 x (nI k) = K (if nox N s n k = 0 then 0 else x) := by
  have L := LeapOK.of h
  have u0 := L.u0
  have hm := hT.1
  have tm := t_nI (show m < 2147483648 by omega)
  intro n
  induction n with
  | zero =>
    intro k x hk F1 h1
    obtain ⟨F1, rfl⟩ : ∃ m, F1 = m + 1 := ⟨F1 - 1, by omega⟩
    have tk := t_nI (show k < 2147483648 by omega)
    rw [fm_still_L57, if_pos (by rw [t_le, tk, tm]; omega), nox, if_neg (by decide)]
  | succ n ih =>
    intro k x hk F1 h1
    obtain ⟨F1, rfl⟩ : ∃ m, F1 = m + 1 := ⟨F1 - 1, by omega⟩
    have tk := t_nI (show k < 2147483648 by omega)
    have xk := ix_nI (show k < 2147483648 by omega)
    obtain ⟨y1, y2⟩ := hT.2 k (by omega)
    have hin : inb (nI k) 20 := b_in (by omega) (by omega)
    rw [fm_still_L57, if_neg (by rw [t_le, tk, tm]; omega)]
    simp only [gd_t hin, xk, Option.bind_some, jlet_e, nI_1, L.tm y1 y2 hs]
    by_cases q : tmx N (ix (N.1 160 k)) s = 0
    · rw [if_pos q, ih (k + 1) 0 (by omega) F1 (by omega), nox, if_pos q, if_pos rfl]
      split <;> rfl
    · rw [if_neg q, ih (k + 1) x (by omega) F1 (by omega), nox, if_neg q]
theorem sti_L {c : Nat} {C N : Mem} (h : Rel c C N) {m : Nat} (hT : TP N m) (c1 : C.1 119 2 = nI m) (c2 : ∀ i, i < m → C.1 120 i = N.1 160 i) : ∀ (n : Nat), n ≤ 9 → ∀ F1 F2, n < F1 → n < F2 → ∃ r, fc_still_L31 C F1 (nI n) = some (r, C) ∧ fm_still_L46 N (nI m) F2 (nI n) = some (r, N) := by
  have hm := hT.1
  intro n
  induction n with
  | zero =>
    intro hn F1 F2 h1 h2
    obtain ⟨F1, rfl⟩ : ∃ m, F1 = m + 1 := ⟨F1 - 1, by omega⟩
    obtain ⟨F2, rfl⟩ : ∃ m, F2 = m + 1 := ⟨F2 - 1, by omega⟩
    refine ⟨-1, ?_, ?_⟩
    · rw [fc_still_L31, if_pos (by decide)]
    · rw [fm_still_L46, if_pos (by decide)]
  | succ n ih =>
    intro hn F1 F2 h1 h2
    obtain ⟨F1, rfl⟩ : ∃ m, F1 = m + 1 := ⟨F1 - 1, by omega⟩
    obtain ⟨F2, rfl⟩ : ∃ m, F2 = m + 1 := ⟨F2 - 1, by omega⟩
    have tk := t_nI (show n + 1 < 2147483648 by omega)
    rw [fc_still_L31, fm_still_L46, if_neg (show ¬ nI (n + 1) < 1 by rw [t_lt, tk]; simp only [Int32.reduceToInt]; omega), if_neg (show ¬ nI (n + 1) ≤ 0 by rw [t_le, tk]; simp only [Int32.reduceToInt]; omega), show fTour_hasTimeEverywhere C (nI (n + 1)) = _ from sti_c h hT c1 c2 (s := nI (n + 1)) (by omega) m 0 (by omega) FU (by rw [FU_eq]; omega), show (0 : Int32) = nI 0 from rfl, sti_m h hT (s := nI (n + 1)) (by omega) m 0 1 (by omega) FU (by rw [FU_eq]; omega)]
    simp only [Option.bind_some]
    rw [show nI (n + 1) + -1 = nI n from t_eq.mpr (by have e := dec_t (n := n + 1) (x := nI (n + 1)) (by rw [tk]; omega) (by omega); rw [t_nI (by omega)]; omega)]
    have e : (nI 0 : Int32) = 0 := rfl
    rw [e]
    by_cases g : nox N (nI (n + 1)) m 0 = 0
    · rw [if_pos g, if_pos g, if_pos rfl]
      exact ih (by omega) F1 F2 (by omega) (by omega)
    · rw [if_neg g, if_neg g, if_neg (by decide)]
      exact ⟨_, rfl, rfl⟩
theorem op_still {c : Nat} {C N : Mem} (h : Rel c C N) (a1 a2 : Int32) : Sim c (fc_still C a1 a2) (fm_still N a1 a2) := by
  obtain ⟨⟨hS, hJ, hL, hF, hA, hP, hW, hV⟩, -⟩ := id h
  obtain ⟨⟨e0, b0⟩, ⟨e1, b1⟩, ⟨e2, b2⟩, ⟨e3, b3⟩, ⟨e5, b5⟩, ⟨e6, b6⟩, ⟨e7, b7⟩, ⟨e4, b4⟩, e8⟩ := id hS
  obtain ⟨l0, u0⟩ := id b0
  obtain ⟨l1, u1⟩ := id b1
  obtain ⟨l2, u2⟩ := id b2
  obtain ⟨l3, u3⟩ := id b3
  obtain ⟨l5, u5⟩ := id b5
  obtain ⟨l6, u6⟩ := id b6
  obtain ⟨l7, u7⟩ := id b7
  obtain ⟨l4, u4⟩ := id b4
  have L := LeapOK.of h
  unfold fc_still fm_still
  by_cases hb : a2.toInt < 0 ∨ 20 < a2.toInt
  · refine sim_2 h ?_ ?_
    · rw [rt_bad (by omega)]
      simp only [Option.bind_some, bind_eta]
      rw [if_neg (by decide)]
    · simp only [mshelf_0, t_lt, t_le, Int32.reduceToInt, bind_eta]
      repeat' split
      all_goals first | rfl | (exfalso; omega)
  · rw [if_neg (show ¬ a2 < 0 by rw [t_lt]; simp only [Int32.reduceToInt]; omega), if_pos (show a2 ≤ (20 : Int32) by rw [t_le]; simp only [Int32.reduceToInt]; omega)]
    have i2 := t_ix (a := a2) (by omega)
    have w2 : nI (ix a2) = a2 := (of_ix (by omega)).symm
    rcases tour_u h (a1 := a1) (a2 := a2) (by omega) (by omega) with ⟨r, hr, t1, ⟨t2, hr2⟩ | ⟨t2, N', t3, hR⟩⟩ | ⟨t1, t2, -, -, N', t3, hR, hT, hN, hc⟩
    · rw [if_pos t2, t1]
      simp only [Option.bind_some, bind_eta]
      rw [if_neg (r_ne0 hr), hr2]
      exact sim_2 h rfl rfl
    · rw [if_neg t2, t1, t3]
      simp only [Option.bind_some, bind_eta]
      rw [if_neg (r_ne0 hr), if_neg (r_nle hr)]
      exact sim_r hR hr rfl rfl
    · obtain ⟨⟨C1, s1, hR1, s3, s4, s5, s6⟩, -⟩ := hc C hR rfl rfl
      rw [if_neg t2, t1, t3]
      simp only [Option.bind_some, if_true]
      rw [if_pos (show (0 : Int32) ≤ 0 by decide), s1]
      simp only [Option.bind_some]
      rw [← w2] at s3
      obtain ⟨r, r1, r2⟩ := sti_L hR1 hT s3 s4 9 (by omega) FU FU (by rw [FU_eq]; omega) (by rw [FU_eq]; omega)
      rw [w2] at r2
      exact sim_i r1 r2 (Rel_next hR1)
