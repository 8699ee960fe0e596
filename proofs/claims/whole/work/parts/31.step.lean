-- step
theorem NS_seed {C N C' N' : Mem} (h : NS C N) (hC : ∀ f, f ≠ 15 → C'.1 20 f = C.1 20 f) (hN : ∀ i, i ≠ 8 → N'.1 156 i = N.1 156 i) (h8 : C'.1 20 15 = N'.1 156 8) : NS C' N' := by
  unfold NS at h ⊢
  rw [hC 1 (by omega), hC 3 (by omega), hC 7 (by omega), hC 10 (by omega), hC 12 (by omega), hC 13 (by omega), hC 14 (by omega), hC 4 (by omega), hN 0 (by omega), hN 1 (by omega), hN 2 (by omega), hN 3 (by omega), hN 4 (by omega), hN 5 (by omega), hN 6 (by omega), hN 7 (by omega)]
  exact ⟨h.1, h.2.1, h.2.2.1, h.2.2.2.1, h.2.2.2.2.1, h.2.2.2.2.2.1, h.2.2.2.2.2.2.1, h.2.2.2.2.2.2.2.1, h8⟩
theorem step_A {c a : Nat} {C N C' N' : Mem} (hc : c < 64) (h : NA c C N) (h2 : N'.1 156 2 = N.1 156 2) (u2 : (N.1 156 2).toInt ≤ 6) (ha : (a : Int) < (N.1 156 2).toInt) (hC : ∀ q, q < 6 → q ≠ a → C'.1 (q + 58) = C.1 (q + 58)) (hN : ∀ q, q ≠ a → N'.1 150 q = N.1 150 q ∧ N'.1 151 q = N.1 151 q) (h149 : N'.1 149 = N.1 149) {d : Int32} (hd : d = 0 ∨ d = 1) (g0 : C'.1 (a + 58) 0 = C.1 (a + 58) 0) (g1 : C'.1 (a + 58) 1 = C.1 (a + 58) 1 + 1) (g2 : C'.1 (a + 58) 2 = C.1 (a + 58) 2 + d) (k1 : N'.1 150 a = N.1 150 a + 1) (k2 : N'.1 151 a = N.1 151 a + d) : NA (c + 1) C' N' := by
  intro q hq
  rw [h2] at hq
  rw [h149]
  by_cases e : q = a
  · subst e
    obtain ⟨⟨x0, y0⟩, ⟨x1, y1, z1⟩, x2, y2, z2⟩ := h q hq
    have t1 : (N.1 150 q + 1).toInt = (N.1 150 q).toInt + 1 := by rw [t_add] <;> simp only [Int32.reduceToInt] <;> omega
    rw [g0, g1, g2, k1, k2, x0, x1, x2]
    refine ⟨⟨rfl, y0⟩, ⟨rfl, by unfold bd; rw [t1]; omega⟩, rfl, ?_⟩
    rcases hd with rfl | rfl
    · rw [Int32.add_zero, t1]; omega
    · have t2 : (N.1 151 q + 1).toInt = (N.1 151 q).toInt + 1 := by rw [t_add] <;> simp only [Int32.reduceToInt] <;> omega
      rw [t1, t2]; omega
  · obtain ⟨k3, k4⟩ := hN q e
    rw [hC q (by omega) e, k3, k4]
    obtain ⟨h1, h2, h3⟩ := h q hq
    exact ⟨h1, ⟨h2.1, h2.2.1, by have := h2.2.2; omega⟩, h3⟩
theorem step_V {c : Nat} {C N C' N' : Mem} {m : Nat} {t1 d1 d2 : Int32} (h0 : N.1 157 0 = 1) (hl : C.1 67 0 = N.1 157 1 ∧ 0 ≤ (N.1 157 1).toInt ∧ (N.1 157 1).toInt < (N.1 156 2).toInt) (hn : C.1 67 2 = N.1 157 2 ∧ bd (N.1 157 2) 0 20) (hm : (N.1 157 3).toInt = m) (hd : C.1 67 5 = N.1 157 3) (hlt : (m : Int) < (N.1 157 2).toInt) (ht : bd t1 0 (1000 * (c + 1 : Nat))) (hj : ∀ i : Nat, (i : Int) < (N.1 157 2).toInt → C.1 68 i = N.1 157 (i + 8) ∧ 0 ≤ (N.1 157 (i + 8)).toInt ∧ (N.1 157 (i + 8)).toInt < (N.1 156 0).toInt)
    (p0 : N'.1 156 0 = N.1 156 0) (p2 : N'.1 156 2 = N.1 156 2) (p143 : N'.1 143 = N.1 143) (p68 : C'.1 68 = C.1 68) (r0 : C'.1 67 0 = C.1 67 0) (r2 : C'.1 67 2 = C.1 67 2) (q0 : N'.1 157 0 = N.1 157 0) (q1 : N'.1 157 1 = N.1 157 1) (q2 : N'.1 157 2 = N.1 157 2) (q8 : ∀ i, N'.1 157 (i + 8) = N.1 157 (i + 8)) (r5 : C'.1 67 5 = C.1 67 5 + 1) (q3 : N'.1 157 3 = N.1 157 3 + 1) (r4 : C'.1 67 4 = t1) (q4 : N'.1 157 4 = t1) (r6 : C'.1 67 6 = d1) (q5 : N'.1 157 5 = d1) (r7 : C'.1 67 7 = d2) (q6 : N'.1 157 6 = d2) (r3 : C'.1 67 3 = N.1 143 (ix (N.1 157 (m + 8)))) (b3 : bd (N.1 143 (ix (N.1 157 (m + 8)))) 0 255) : NV (c + 1) C' N' := by
  have hn2 := hn.2.2
  have e3 : (N.1 157 3 + 1).toInt = (m : Int) + 1 := by rw [t_add] <;> rw [hm] <;> simp only [Int32.reduceToInt] <;> omega
  refine Or.inr ⟨q0.trans h0, ?_, ?_, ?_, ?_, ?_, ?_, ?_, ?_, ?_, ?_⟩
  · rw [r0, q1, p2]; exact hl
  · rw [r2, q2]; exact hn
  · rw [r5, q3, q2, e3, hd]; exact ⟨rfl, by omega, by omega⟩
  · rw [r4, q4]; exact ⟨rfl, ht⟩
  · rw [r6, q5]
  · rw [r7, q6]
  · rw [r3]; exact b3
  · intro i hi
    rw [q2] at hi
    rw [p68, q8, p0]
    exact hj i hi
  · intro z
    rw [q3] at z
    have := t_eq.mp z
    rw [e3] at this
    simp only [Int32.reduceToInt] at this
    omega
  · intro i hi
    rw [q3, e3] at hi
    rw [r3, p143, q8, show i = m by omega]
theorem draw_e (C N : Mem) (e8 : C.1 20 15 = N.1 156 8) : ∃ u sd : Int32, fLake_drawBelow C 1000 = some (u, wI C 20 15 sd) ∧ fm_draw N 1000 = some (u, wI N 156 8 sd) := by
  refine ⟨_, _, ?_, rfl⟩
  unfold fLake_drawBelow
  rw [mlet_e, ilet_e, if_pos (by decide), gd_t (by decide), e8]
  rfl
def mid (C1 : Mem) (v4 t : Int32) : Mem := wI (wI (wI C1 67 3 v4) 67 4 t) 67 5 ((wI (wI C1 67 3 v4) 67 4 t).1 67 5 + 1)
def cnt (M : Mem) (a : Nat) (d : Int32) : Mem := wI (wI M (a + 58) 1 (M.1 (a + 58) 1 + 1)) (a + 58) 2 ((wI M (a + 58) 1 (M.1 (a + 58) 1 + 1)).1 (a + 58) 2 + d)
theorem leap_c {C C1 : Mem} {s g r u : Int32} (h5 : inb (C.1 67 5) 20) (hj : inb (C.1 68 (ix (C.1 67 5))) 20) (hs : fLake_speed C = some s) (hg : fLake_legMinutes C (C.1 67 3) (C.1 (ix (C.1 68 (ix (C.1 67 5))) + 22) 1) s = some g) (hr : fLake_riskOf C (C.1 67 0) (C.1 68 (ix (C.1 67 5))) (fc_hourOfT C (C.1 67 4 + g)) = some r) (hu : fLake_drawBelow C 1000 = some (u, C1)) (ha : inb ((mid C1 (C.1 (ix (C.1 68 (ix (C.1 67 5))) + 22) 1) (C.1 67 4 + g + 1)).1 67 0) 6) (hs2 : fLake_speed (mid C1 (C.1 (ix (C.1 68 (ix (C.1 67 5))) + 22) 1) (C.1 67 4 + g + 1)) = some s) {M : Mem} (hM : M = mid C1 (C.1 (ix (C.1 68 (ix (C.1 67 5))) + 22) 1) (C.1 67 4 + g + 1)) :
    fLake_leapNext C = if r / 10 ≤ u then (if r ≤ u then some (0, cnt M (ix (M.1 67 0)) 0) else some (1, cnt (wI M 67 6 (M.1 67 6 + 1)) (ix (M.1 67 0)) 1)) else some (2, cnt (wI (wI M 67 4 (M.1 67 4 + 3 * s)) 67 7 ((wI M 67 4 (M.1 67 4 + 3 * s)).1 67 7 + 1)) (ix (M.1 67 0)) 1) := by
  subst hM
  unfold fLake_leapNext
  rw [gd_t h5, ilet_e, gd_t hj, ilet_e, hs, Option.bind_some, hg, Option.bind_some, ilet_e, hr, Option.bind_some, hu, Option.bind_some, mlet_e, mlet_e, mlet_e]
  show gd (inb ((mid C1 (C.1 (ix (C.1 68 (ix (C.1 67 5))) + 22) 1) (C.1 67 4 + g + 1)).1 67 0) 6) _ = _
  rw [gd_t ha]
  split
  · split <;> rfl
  · show Option.bind (fLake_speed (mid C1 (C.1 (ix (C.1 68 (ix (C.1 67 5))) + 22) 1) (C.1 67 4 + g + 1))) _ = _
    rw [hs2]
    rfl
def fin1 (M : Mem) (a : Nat) : Mem := wI (wI M 150 a (M.1 150 a + 1)) 151 a ((wI M 150 a (M.1 150 a + 1)).1 151 a + 1)
theorem leap_m {N N1 : Mem} {p g r u s v : Int32} (h0 : ¬ N.1 157 (ix 0) = 0) (h3 : ¬ N.1 157 (ix 3) = N.1 157 (ix 2)) (i8 : inb ((8 : Int32) + N.1 157 (ix 3)) 28) (hv : N.1 157 (ix ((8 : Int32) + N.1 157 (ix 3))) = v) (hsp : (N.1 157 (ix 3) = 0 ∧ p = N.1 157 (ix 7)) ∨ (¬ N.1 157 (ix 3) = 0 ∧ inb ((7 : Int32) + N.1 157 (ix 3)) 28 ∧ inb (N.1 157 (ix ((7 : Int32) + N.1 157 (ix 3)))) 20 ∧ p = N.1 143 (ix (N.1 157 (ix ((7 : Int32) + N.1 157 (ix 3))))))) (ij : inb v 20) (hg : fm_legOf N p (N.1 143 (ix v)) = some g) (hr : fm_riskOf N (N.1 157 (ix 1)) v (fm_hourOfT N (N.1 157 (ix 4) + g)) = some r) (hu : fm_draw N 1000 = some (u, N1)) (ia : inb (N.1 157 (ix 1)) 6) {M : Mem} (hM : wI N1 157 (ix 3) (N1.1 157 (ix 3) + 1) = M) (hs2 : fm_says1 M 1 = some s) :
    fm_step N = if r / 10 ≤ u then (if r ≤ u then some (0, wI (wI M 157 (ix 4) (N.1 157 (ix 4) + g + 1 + 0)) 150 (ix (N.1 157 (ix 1))) ((wI M 157 (ix 4) (N.1 157 (ix 4) + g + 1 + 0)).1 150 (ix (N.1 157 (ix 1))) + 1)) else some (1, fin1 (wI (wI M 157 (ix 4) (N.1 157 (ix 4) + g + 1 + 0)) 157 (ix 5) ((wI M 157 (ix 4) (N.1 157 (ix 4) + g + 1 + 0)).1 157 (ix 5) + 1)) (ix (N.1 157 (ix 1))))) else some (2, fin1 (wI (wI M 157 (ix 4) (N.1 157 (ix 4) + g + 1 + 3 * s)) 157 (ix 6) ((wI M 157 (ix 4) (N.1 157 (ix 4) + g + 1 + 3 * s)).1 157 (ix 6) + 1)) (ix (N.1 157 (ix 1)))) := by
  unfold fm_step
  rw [if_neg h0, if_neg h3, ilet_e, ilet_e, gd_t i8, ilet_e, jlet_e, hv]
  rcases hsp with ⟨z, hp⟩ | ⟨z, z1, z2, hp⟩
  · rw [if_pos z, ← hp]
    dsimp only
    rw [gd_t ij, hg, Option.bind_some, ilet_e, hr, Option.bind_some, hu, Option.bind_some, jlet_e]
    by_cases q1 : r / 10 ≤ u
    · rw [if_pos q1, if_pos q1]
      by_cases q2 : r ≤ u
      · rw [if_pos q2, if_pos q2]
        dsimp only
        rw [mlet_e, hM]
        simp only [mlet_e, jlet_e, gd_t ia]
        rfl
      · rw [if_neg q2, if_neg q2]
        dsimp only
        rw [mlet_e, hM]
        simp only [mlet_e, jlet_e, gd_t ia]
        rfl
    · rw [if_neg q1, if_neg q1]
      dsimp only
      rw [mlet_e, hM]
      simp only [mlet_e, jlet_e, gd_t ia, hs2, Option.bind_some]
      rfl
  · rw [if_neg z, gd_t z1, gd_t z2, ← hp]
    dsimp only
    rw [gd_t ij, hg, Option.bind_some, ilet_e, hr, Option.bind_some, hu, Option.bind_some, jlet_e]
    by_cases q1 : r / 10 ≤ u
    · rw [if_pos q1, if_pos q1]
      by_cases q2 : r ≤ u
      · rw [if_pos q2, if_pos q2]
        dsimp only
        rw [mlet_e, hM]
        simp only [mlet_e, jlet_e, gd_t ia]
        rfl
      · rw [if_neg q2, if_neg q2]
        dsimp only
        rw [mlet_e, hM]
        simp only [mlet_e, jlet_e, gd_t ia]
        rfl
    · rw [if_neg q1, if_neg q1]
      dsimp only
      rw [mlet_e, hM]
      simp only [mlet_e, jlet_e, gd_t ia, hs2, Option.bind_some]
      rfl
