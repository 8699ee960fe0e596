-- the risks of a team
def rk2 (N : Mem) (js : Nat → Nat) (q : Nat) (p x : Nat) : Int32 := rkx N x (js p) q
theorem rr29_L {c : Nat} {C0 N : Mem} (hR : RN c C0 N) {q : Int32} (q1 : 0 ≤ q.toInt) (q2 : q.toInt < 12) {js : Nat → Nat} {P n p : Nat} (hP : P ≤ 6) (hPn : (P : Int) = (N.1 156 2).toInt) (hn : n ≤ 6) (hp : p < n) (hj : (js p : Int) < (N.1 156 0).toInt) {kx : Int32 → Mem → Option Mem} : ∀ (m k : Nat), k + m = P → ∀ (M : Mem) (w : Int32), same 0 117 C0 M → M.1 130 1 = nI P → M.1 131 p = nI (js p) → 0 ≤ w.toInt → ∀ F, m < F → ∃ w' M', fTeamSearch_readRisks_L29 q (nI p) kx F w (nI k) M = kx w' M' ∧ (∀ z, z ≠ 132 → M'.1 z = M.1 z) ∧ M'.2 = M.2 ∧ (∀ i, (i < p * 6 + k ∨ p * 6 + P ≤ i) → M'.1 132 i = M.1 132 i) ∧ (∀ x, k ≤ x → x < P → M'.1 132 (p * 6 + x) = rk2 N js (ix q) p x ∧ w'.toInt ≤ (rk2 N js (ix q) p x).toInt) ∧ 0 ≤ w'.toInt ∧ w'.toInt ≤ w.toInt := by
  intro m
  have tP := t_nI (show P < 2147483648 by omega)
  have tp := t_nI (show p < 2147483648 by omega)
  induction m with
  | zero =>
    intro k hk M w hs h1 h2 hw F hF
    obtain ⟨F, rfl⟩ : ∃ m, F = m + 1 := ⟨F - 1, by omega⟩
    have tk := t_nI (show k < 2147483648 by omega)
    exact ⟨w, M, by rw [fTeamSearch_readRisks_L29, if_pos (by rw [h1, t_le]; omega)], fun _ _ => rfl, rfl, fun _ _ => rfl, fun x y z => by omega, hw, Int.le_refl _⟩
  | succ m ih =>
    intro k hk M w hs h1 h2 hw F hF
    obtain ⟨F, rfl⟩ : ∃ m, F = m + 1 := ⟨F - 1, by omega⟩
    have tk := t_nI (show k < 2147483648 by omega)
    have hRM : RN c M N := RN_fr hR (same_s hs (by omega) (by omega)) same_r same_r
    have u0 : (N.1 156 0).toInt ≤ 20 := hR.1.1.2.2
    have bi : nI p * 6 + nI k = nI (p * 6 + k) := by
      rw [t_eq, t_add, t_mul, tp, tk, t_nI (by omega)] <;> (try rw [t_mul]) <;> (try rw [tp]) <;> (try rw [tk]) <;> simp only [Int32.reduceToInt] <;> omega
    have rk := risk_n hRM (a := nI k) (j := nI (js p)) (q := q) (by omega) (by omega) (by rw [t_nI (by omega)]; omega) (by rw [t_nI (by omega)]; omega) q1 q2
    rw [ix_nI (by omega), ix_nI (by omega)] at rk
    obtain ⟨kb1, kb2⟩ := rkx_b N k (js p) (ix q)
    obtain ⟨r, hr⟩ : ∃ r, r = rkx N k (js p) (ix q) := ⟨_, rfl⟩
    rw [← hr] at rk kb1 kb2
    obtain ⟨w', M', g1, g2, g3, g4, g5, g6, g7⟩ := ih (k + 1) (by omega) (wI M 132 (p * 6 + k) r) (if r < w then r else w) (same_t hs (same_wI (by omega))) ((mem_fst (by omega)).trans h1) ((mem_fst (by omega)).trans h2) (by split <;> omega) F (by omega)
    have g7' : w'.toInt ≤ w.toInt ∧ w'.toInt ≤ r.toInt := by
      by_cases z : r < w
      · rw [if_pos z] at g7
        rw [t_lt] at z
        omega
      · rw [if_neg z] at g7
        rw [t_lt] at z
        omega
    refine ⟨w', M', ?_, fun z hz => (g2 z hz).trans (wI_row _ _ _ _ hz), g3, fun i hi => by rw [g4 i (by omega), mem_fst (by omega)], fun x y z => ?_, g6, g7'.1⟩
    · rw [fTeamSearch_readRisks_L29, if_neg (by rw [h1, t_le]; omega), gd_t (b_in (by omega) (by omega)), ix_nI (by omega), h2, rk, Option.bind_some, bi, gd_t (b_in (by rw [t_nI (by omega)]; omega) (by rw [t_nI (by omega)]; omega)), ix_nI (by omega), mlet_e, ilet_e, nI_1, g1]
    · by_cases e : x = k
      · rw [e, g4 (p * 6 + k) (by omega), wI_s]
        exact ⟨hr, by show w'.toInt ≤ (rkx N k (js p) (ix q)).toInt; rw [← hr]; exact g7'.2⟩
      · exact g5 x (by omega) z
theorem dec_t' {m : Nat} (h : (nI m).toInt = (m : Int)) : (nI m + (-1)).toInt + 1 = (m : Int) := by
  have z : (-1 : Int32).toInt = -1 := rfl
  rw [t_add (by rw [z, h]; omega) (by rw [z, h]; have := Int32.toInt_lt (nI m); omega), z, h]
  omega
theorem rr17_L {c : Nat} {C0 N : Mem} (hR : RN c C0 N) {q : Int32} (q1 : 0 ≤ q.toInt) (q2 : q.toInt < 12) {js : Nat → Nat} {P n : Nat} (hP : P ≤ 6) (hPn : (P : Int) = (N.1 156 2).toInt) (hn : n ≤ 6) (hj : ∀ p, p < n → (js p : Int) < (N.1 156 0).toInt) : ∀ (m : Nat), m ≤ n → ∀ (M : Mem) (x : Int32), x.toInt + 1 = (m : Int) → same 0 117 C0 M → M.1 130 1 = nI P → (∀ p, p < n → M.1 131 p = nI (js p)) → 0 ≤ (M.1 133 m).toInt → (M.1 133 m).toInt ≤ 1000 * ((n : Int) - m) → ∀ F, m < F → ∃ M', fTeamSearch_readRisks_L17 q F x M = some M' ∧ (∀ z, z ≠ 132 → z ≠ 133 → M'.1 z = M.1 z) ∧ M'.2 = M.2 ∧ (∀ i, m * 6 ≤ i → M'.1 132 i = M.1 132 i) ∧ (∀ i, m ≤ i → M'.1 133 i = M.1 133 i) ∧ (∀ p x, p < m → x < P → M'.1 132 (p * 6 + x) = rk2 N js (ix q) p x ∧ (M'.1 133 p).toInt ≤ (rk2 N js (ix q) p x).toInt + (M'.1 133 (p + 1)).toInt) ∧ ∀ p, p < m → 0 ≤ (M'.1 133 p).toInt ∧ (M'.1 133 p).toInt ≤ 1000 * ((n : Int) - p) := by
  intro m
  induction m with
  | zero =>
    intro hm M x hx hs h1 h2 h3 h4 F hF
    obtain ⟨F, rfl⟩ : ∃ m, F = m + 1 := ⟨F - 1, by omega⟩
    exact ⟨M, by rw [fTeamSearch_readRisks_L17, if_pos (by rw [t_lt, li_0]; omega)], fun _ _ _ => rfl, rfl, fun _ _ => rfl, fun _ _ => rfl, fun p x hp => by omega, fun p hp => by omega⟩
  | succ m ih =>
    intro hm M x hx hs h1 h2 h3 h4 F hF
    obtain ⟨F, rfl⟩ : ∃ m, F = m + 1 := ⟨F - 1, by omega⟩
    have tm := t_nI (show m < 2147483648 by omega)
    have tm1 := t_nI (show m + 1 < 2147483648 by omega)
    obtain rfl : x = nI m := by rw [t_eq]; omega
    obtain ⟨w, M1, g1, g2, g3, g4, g5, g6, g7⟩ := rr29_L hR q1 q2 hP hPn hn (show m < n by omega) (hj m (by omega)) (kx := (fun w9 M10 => (gd (inb (nI m + 1) 7) (gd (inb (nI m) 7) (mlet (wI M10 133 (ix (nI m)) ((M10.1 133 (ix (nI m + 1))) + w9)) (fun M13 => (fTeamSearch_readRisks_L17 q F (nI m + (-1)) M13))))))) P 0 (by omega) M 1000 hs h1 (h2 m (by omega)) (by decide) FU (by rw [FU_eq]; omega)
    have t1000 : (1000 : Int32).toInt = 1000 := rfl
    have e133 : M1.1 133 = M.1 133 := g2 133 (by omega)
    have ts : (M.1 133 (m + 1) + w).toInt = (M.1 133 (m + 1)).toInt + w.toInt := t_add (by omega) (by omega)
    obtain ⟨M', v1, v2, v3, v4, v5, v6, v7⟩ := ih (by omega) (wI M1 133 m (M.1 133 (m + 1) + w)) (nI m + (-1)) (dec_t' tm) (same_t (same_t hs (same_of g2 g3 (by omega))) (same_wI (by omega))) (by rw [mem_fst (by omega), g2 130 (by omega)]; exact h1) (fun p hp => by rw [mem_fst (by omega), g2 131 (by omega)]; exact h2 p hp) (by rw [wI_s, ts]; omega) (by rw [wI_s, ts]; omega) F (by omega)
    have a1 : M'.1 133 m = M.1 133 (m + 1) + w := by rw [v5 m (by omega), wI_s]
    have a2 : M'.1 133 (m + 1) = M.1 133 (m + 1) := by rw [v5 (m + 1) (by omega), mem_fst (by omega), e133]
    refine ⟨M', ?_, fun z x y => (v2 z x y).trans ((wI_row _ _ _ _ y).trans (g2 z x)), v3.trans g3, fun i hi => by rw [v4 i (by omega), mem_fst (by omega), g4 i (by omega)], fun i hi => by rw [v5 i (by omega), mem_fst (by omega), e133], fun p x hp hxP => ?_, fun p hp => ?_⟩
    · rw [fTeamSearch_readRisks_L17, if_neg (by rw [t_lt, li_0]; omega)]
      refine g1.trans ?_
      rw [nI_1, gd_t (b_in (by omega) (by omega)), gd_t (b_in (by omega) (by omega)), mlet_e, ix_nI (by omega), ix_nI (by omega), e133]
      exact v1
    · by_cases e : p = m
      · subst e
        obtain ⟨k1, k2⟩ := g5 x (by omega) hxP
        rw [v4 (p * 6 + x) (by omega), mem_fst (by omega), a1, a2, ts]
        exact ⟨k1, by omega⟩
      · exact v6 p x (by omega) hxP
    · by_cases e : p = m
      · rw [e, a1, ts]
        omega
      · exact v7 p (by omega)
theorem tfind_e {c : Nat} {C N : Mem} (h : Rel c C N) {a1 a2 a3 : Int32} {cap P n : Nat} (hc : a2 = nI cap) (hcap : cap ≤ 6) (q1 : 0 ≤ a3.toInt) (q2 : a3.toInt < 12) (hP : P ≤ 6) (hPn : N.1 156 2 = nI P) {js : Nat → Nat} (hn : n ≤ 6) (hz : n = 0 ∨ 0 < P) (hj : ∀ i, i < n → (js i : Int) < (N.1 156 0).toInt) (hs : ∀ C1 : Mem, ∃ C', fc_readSet_2 C1 a1 = some (nI n, C') ∧ (∀ q, q ≠ 131 → C'.1 q = C1.1 q) ∧ C'.2 = C1.2 ∧ ∀ i, i < n → C'.1 131 i = nI (js i)) : ∃ C', fTeamSearch_find C a1 a2 a3 = some C' ∧ Rel c C' N ∧ C'.1 130 3 = nI n ∧ (∀ i, i < n → C'.1 131 i = nI (js i)) ∧ TBs (rk2 N js (ix a3)) n C' (foN (rk2 N js (ix a3)) P cap n none 0 (P ^ n)) := by
  have tn := t_nI (show n < 2147483648 by omega)
  have tP := t_nI (show P < 2147483648 by omega)
  obtain ⟨C1, r1, r2, r3, r4⟩ := hs (wI (wI C 130 2 a2) 130 1 ((wI C 130 2 a2).1 20 7))
  have e207 : (wI C 130 2 a2).1 20 7 = nI P := by
    rw [mem_fst (by omega)]
    exact h.1.1.2.2.1.1.trans hPn
  rw [e207] at r1 r2 r3
  obtain ⟨C2, hC2⟩ : ∃ M, M = wI C1 130 3 (nI n) := ⟨_, rfl⟩
  obtain ⟨C3, hC3⟩ : ∃ M, M = wI C2 133 n 0 := ⟨_, rfl⟩
  have s3 : same 0 118 C C3 := by
    rw [hC3, hC2]
    exact same_t (same_t (same_t (same_t (same_wI (by omega)) (same_wI (by omega))) (same_of r2 r3 (by omega))) (same_wI (by omega))) (same_wI (by omega))
  have c1 : ∀ i, i ≠ 3 → C3.1 130 i = (wI (wI C 130 2 a2) 130 1 (nI P)).1 130 i := fun i hi => by
    rw [hC3, mem_fst (by omega), hC2, mem_fst (by omega), r2 130 (by omega)]
  have k1 : C3.1 130 1 = nI P := by rw [c1 1 (by omega), wI_s]
  have k2 : C3.1 130 2 = nI cap := by rw [c1 2 (by omega), mem_fst (by omega), wI_s, hc]
  have k3 : C3.1 130 3 = nI n := by rw [hC3, mem_fst (by omega), hC2, wI_s]
  have k4 : ∀ p, p < n → C3.1 131 p = nI (js p) := fun p hp => by
    rw [hC3, mem_fst (by omega), hC2, mem_fst (by omega)]; exact r4 p hp
  have k5 : C3.1 133 n = 0 := by rw [hC3, wI_s]
  have k6 : C3.1 134 = C.1 134 := by
    rw [hC3, wI_row _ _ _ _ (by omega), hC2, wI_row _ _ _ _ (by omega), r2 134 (by omega), wI_row _ _ _ _ (by omega), wI_row _ _ _ _ (by omega)]
  have k7 : C3.1 128 = C.1 128 := by
    rw [hC3, wI_row _ _ _ _ (by omega), hC2, wI_row _ _ _ _ (by omega), r2 128 (by omega), wI_row _ _ _ _ (by omega), wI_row _ _ _ _ (by omega)]
  have td : (nI n - 1).toInt + 1 = (n : Int) := by
    rw [t_sub (by rw [li_1]; omega) (by rw [li_1]; omega), li_1]
    omega
  obtain ⟨C4, g1, g2, g3, g4, g5, g6, g7⟩ := rr17_L (c := c) h.1 q1 q2 hP (by rw [hPn]; omega) hn hj n (Nat.le_refl n) C3 (nI n - 1) td (same_s s3 (by omega) (by omega)) k1 k4 (by rw [k5, li_0]; omega) (by rw [k5, li_0]; omega) FU (by rw [FU_eq]; omega)
  have k8 : C4.1 133 n = 0 := by rw [g5 n (by omega)]; exact k5
  obtain ⟨C5, hC5⟩ : ∃ M, M = wI C4 130 0 1000000 := ⟨_, rfl⟩
  have f1 : ∀ q, q ≠ 130 → C5.1 q = C4.1 q := fun q hq => by rw [hC5]; exact wI_row _ _ _ _ hq
  have f2 : ∀ i, i ≠ 0 → C5.1 130 i = C3.1 130 i := fun i hi => by rw [hC5, mem_fst (by omega), g2 130 (by omega) (by omega)]
  have s5 : same 0 118 C C5 := by
    rw [hC5]
    exact same_t (same_t s3 (fun q x y => ⟨g2 q (by omega) (by omega), by rw [g3]⟩)) (same_wI (by omega))
  have hB : LBH (rk2 N js (ix a3)) (C4.1 133) P n := by
    refine ⟨k8, fun p hp => ?_, fun p x hp hx => (g6 p x hp hx).2, fun p x => rkx_b N x (js p) (ix a3)⟩
    by_cases e : p = n
    · rw [e, k8, li_0]; omega
    · have := g7 p (by omega)
      omega
  have hX := h.2.2.2.2.1
  have hS : TST C (rk2 N js (ix a3)) (C4.1 133) P cap n [] none C5 := by
    refine ⟨same_s s5 (by omega) (by omega), ?_, ?_, ?_, fun p x hp hx => ?_, fun p hp => ?_, fun x hx => ?_, fun p hp => ?_, ?_⟩
    · rw [f2 1 (by omega)]; exact k1
    · rw [f2 2 (by omega)]; exact k2
    · rw [f2 3 (by omega)]; exact k3
    · rw [f1 132 (by omega)]; exact (g6 p x hp hx).1
    · rw [f1 133 (by omega)]
    · rw [f1 134 (by omega), g2 134 (by omega) (by omega), k6, hX.2 x (by omega)]
      rfl
    · simp at hp
    · show C5.1 130 0 = 1000000
      rw [hC5, wI_s]
  obtain ⟨C6, v1, v2, v3, v4⟩ := asg_c hn hP hcap hB n 8 [] none C5 (by simp) (by omega) (by simp) (feas_e.mpr (fun x _ => by simp)) hS (fun e => by
    rw [sT, if_pos ⟨feas_e.mpr (fun x _ => by simp), rfl⟩])
  obtain ⟨w1, w2, w3, w4, w5, w6, w7, w8, w9⟩ := v2
  refine ⟨C6, ?_, Rel_same0 h (fun q x y => ⟨(v3 q (by omega) (by omega) (by omega)).trans (s5 q x y).1, by rw [v4]; exact (s5 q x y).2⟩) ?_ ?_ same_r, w4, fun i hi => ?_, ?_⟩
  · unfold fTeamSearch_find
    rw [mlet_e, mlet_e, e207, r1, Option.bind_some, mlet_e]
    dsimp only
    rw [← hC2]
    unfold fTeamSearch_readRisks
    have h3 : C2.1 130 3 = nI n := by rw [hC2, wI_s]
    rw [h3, gd_t (b_in (by omega) (by omega)), mlet_e, ilet_e, ix_nI (show n < 2147483648 by omega), ← hC3, k3, g1, Option.bind_some, mlet_e, ← hC5]
    have v1' : fTeamSearch_assign 8 0 0 C5 = some C6 := v1
    rw [v1', Option.bind_some]
  · rw [v3 128 (by omega) (by omega) (by omega), f1 128 (by omega), g2 128 (by omega) (by omega), k7]
  · rw [v3 134 (by omega) (by omega) (by omega), f1 134 (by omega), g2 134 (by omega) (by omega), k6]
  · rw [v3 131 (by omega) (by omega) (by omega), f1 131 (by omega), g2 131 (by omega) (by omega)]
    exact k4 i hi
  · have e0 : vl P [] * P ^ n = 0 := by rw [vl, Nat.zero_mul]
    rw [e0] at w9
    exact w9
