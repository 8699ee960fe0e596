-- the next order
def nx4 (l : List Nat) : Nat → Nat
  | 0 => 0
  | k + 1 => if l.getD k 0 ≤ l.getD (k + 1) 0 then k + 1 else nx4 l k
def nx5 (l : List Nat) (b : Nat) : Nat → Nat
  | 0 => 0
  | x + 1 => if l.getD b 0 ≤ l.getD (x + 1) 0 then x + 1 else nx5 l b x
def swp (l : List Nat) (i j : Nat) : List Nat := (l.set i (l.getD j 0)).set j (l.getD i 0)
def rvs : Nat → Nat → Nat → List Nat → List Nat
  | 0, _, _, l => l
  | f + 1, lo, hi, l => if hi ≤ lo then l else rvs f (lo + 1) (hi - 1) (swp l lo hi)
def nxt (n : Nat) (l : List Nat) : Option (List Nat) :=
  match nx4 l (n - 1) with
  | 0 => none
  | b + 1 => some (rvs 6 (b + 1) (n - 1) (swp l b (nx5 l b (n - 1))))
def chn (n : Nat) : List (List Nat) → Bool
  | [] => true
  | r :: t => (match t with | [] => (nxt n r.reverse).isNone | s :: _ => nxt n r.reverse == some s.reverse) && chn n t
theorem chn_6 : ∀ n, n < 7 → chn n (ext n n []) = true ∧ ((ext n n []).head? = some (List.range n).reverse) := by decide +kernel
theorem getD_set (l : List Nat) (i j a : Nat) (hi : i < l.length) : (l.set i a).getD j 0 = if j = i then a else l.getD j 0 := by
  rw [List.getD_eq_getElem?_getD, List.getD_eq_getElem?_getD, List.getElem?_set]
  by_cases h : j = i
  · subst h
    rw [if_pos rfl, if_pos hi, if_pos rfl]
    rfl
  · rw [if_neg (fun z => h z.symm), if_neg h]
theorem swp_len (l : List Nat) (i j : Nat) : (swp l i j).length = l.length := by
  unfold swp
  rw [List.length_set, List.length_set]
theorem swp_at (l : List Nat) {i j : Nat} (hi : i < l.length) (hj : j < l.length) (p : Nat) : (swp l i j).getD p 0 = if p = j then l.getD i 0 else if p = i then l.getD j 0 else l.getD p 0 := by
  unfold swp
  rw [getD_set _ _ _ _ (by rw [List.length_set]; exact hj), getD_set _ _ _ _ hi]
def RW (n : Nat) (l : List Nat) (N : Mem) : Prop := l.length = n ∧ (∀ i, i < n → l.getD i 0 < 6) ∧ ∀ i, i < n → N.1 161 i = nI (l.getD i 0)
theorem RW.swp {n : Nat} {l : List Nat} {N : Mem} (h : RW n l N) {i j : Nat} (hi : i < n) (hj : j < n) : RW n (swp l i j) (wI (wI N 161 i (N.1 161 j)) 161 j (N.1 161 i)) := by
  obtain ⟨h1, h2, h3⟩ := h
  refine ⟨by rw [swp_len]; exact h1, fun p hp => ?_, fun p hp => ?_⟩
  · rw [swp_at l (by omega) (by omega)]
    split
    · exact h2 i hi
    · split
      · exact h2 j hj
      · exact h2 p hp
  · rw [swp_at l (by omega) (by omega)]
    by_cases z : p = j
    · rw [z, wI_s, if_pos rfl, h3 i hi]
    · rw [mem_fst (by omega), if_neg z]
      by_cases y : p = i
      · rw [y, wI_s, if_pos rfl, h3 j hj]
      · rw [mem_fst (by omega), if_neg y, h3 p hp]
theorem RW.le {n : Nat} {l : List Nat} {N : Mem} (h : RW n l N) {i j : Nat} (hi : i < n) (hj : j < n) : N.1 161 i ≤ N.1 161 j ↔ l.getD i 0 ≤ l.getD j 0 := by
  obtain ⟨h1, h2, h3⟩ := h
  have a := h2 i hi
  have b := h2 j hj
  rw [h3 i hi, h3 j hj, t_le, t_nI (by omega), t_nI (by omega)]
  omega
theorem n4_L {n : Nat} {l : List Nat} {N : Mem} (hn : n ≤ 6) (h : RW n l N) {b1 : Int32} {kx : Int32 → Option (Int32 × Mem)} : ∀ (k : Nat), k + 1 ≤ n → ∀ (x : Int32), x.toInt + 1 = (k : Int) → ∀ F, k < F → ∃ w, w.toInt + 1 = (nx4 l k : Int) ∧ fm_nextOrder_L4 N b1 kx F x = kx w := by
  intro k
  induction k with
  | zero =>
    intro hk x hx F hF
    obtain ⟨F, rfl⟩ : ∃ m, F = m + 1 := ⟨F - 1, by omega⟩
    exact ⟨x, hx, by rw [fm_nextOrder_L4, if_pos (by rw [t_lt, li_0]; omega)]⟩
  | succ k ih =>
    intro hk x hx F hF
    obtain ⟨F, rfl⟩ : ∃ m, F = m + 1 := ⟨F - 1, by omega⟩
    have tk := t_nI (show k < 2147483648 by omega)
    obtain rfl : x = nI k := by rw [t_eq]; omega
    have tk1 := t_nI (show k + 1 < 2147483648 by omega)
    rw [fm_nextOrder_L4, if_neg (by rw [t_lt, li_0]; omega), gd_t (b_in (by omega) (by omega)), nI_1, gd_t (b_in (by omega) (by omega)), ix_nI (by omega), ix_nI (by omega), nx4]
    by_cases q : l.getD k 0 ≤ l.getD (k + 1) 0
    · rw [if_pos ((h.le (by omega) (by omega)).mpr q), if_pos q]
      exact ⟨nI k, by omega, rfl⟩
    · rw [if_neg (fun z => q ((h.le (by omega) (by omega)).mp z)), if_neg q]
      exact ih (by omega) _ (dec_t (by omega) (by omega)) F (by omega)
theorem dec_e (x : Nat) : nI (x + 1) + -1 = nI x := by
  rw [← nI_1, Int32.add_assoc, show (1 : Int32) + -1 = 0 from rfl, Int32.add_zero]
theorem n5_L {n : Nat} {l : List Nat} {N : Mem} (hn : n ≤ 6) (h : RW n l N) {b1 : Int32} {b : Nat} (hb : l.getD b 0 ≤ l.getD (b + 1) 0) {kx : Int32 → Option (Int32 × Mem)} : ∀ (x : Nat), b < x → x < n → ∀ F, x < F → b < nx5 l b x ∧ nx5 l b x ≤ x ∧ fm_nextOrder_L41 N b1 (nI b) kx F (nI x) = kx (nI (nx5 l b x)) := by
  intro x
  induction x with
  | zero => intro h1; omega
  | succ x ih =>
    intro h1 h2 F hF
    obtain ⟨F, rfl⟩ : ∃ m, F = m + 1 := ⟨F - 1, by omega⟩
    have tb := t_nI (show b < 2147483648 by omega)
    have tx := t_nI (show x + 1 < 2147483648 by omega)
    have tx0 := t_nI (show x < 2147483648 by omega)
    rw [fm_nextOrder_L41, gd_t (b_in (by omega) (by omega)), gd_t (b_in (by omega) (by omega)), ix_nI (by omega), ix_nI (by omega), nx5]
    by_cases q : l.getD b 0 ≤ l.getD (x + 1) 0
    · rw [if_pos ((h.le (by omega) (by omega)).mpr q), if_pos q]
      exact ⟨h1, Nat.le_refl _, rfl⟩
    · rw [if_neg (fun z => q ((h.le (by omega) (by omega)).mp z)), if_neg q]
      have hne : b ≠ x := fun z => q (by rw [← z]; exact hb)
      have e : nI (x + 1) + -1 = nI x := dec_e x
      obtain ⟨r1, r2, r3⟩ := ih (by omega) (by omega) F (by omega)
      rw [e]
      exact ⟨r1, by omega, r3⟩
theorem rv_L {n : Nat} (hn : n ≤ 6) : ∀ (f lo hi : Nat), 1 ≤ lo → lo ≤ 20 → hi < n → hi < lo + 2 * f → ∀ (l : List Nat) (N : Mem), RW n l N → ∀ F, f < F → ∃ N', fm_nextOrder_L100 F (nI lo) (nI hi) N = some (1, N') ∧ (∀ q, q ≠ 161 → N'.1 q = N.1 q) ∧ N'.2 = N.2 ∧ RW n (rvs f lo hi l) N' := by
  intro f
  induction f with
  | zero =>
    intro lo hi h0 h00 h1 h2 l N h F hF
    obtain ⟨F, rfl⟩ : ∃ m, F = m + 1 := ⟨F - 1, by omega⟩
    by_cases hl : lo < 2147483648
    · exact ⟨N, by rw [fm_nextOrder_L100, if_pos (by rw [t_le, t_nI (by omega), t_nI hl]; omega)], fun _ _ => rfl, rfl, h⟩
    · omega
  | succ f ih =>
    intro lo hi h0 h00 h1 h2 l N h F hF
    obtain ⟨F, rfl⟩ : ∃ m, F = m + 1 := ⟨F - 1, by omega⟩
    rw [rvs]
    by_cases q : hi ≤ lo
    · by_cases hl : lo < 2147483648
      · rw [if_pos q]
        exact ⟨N, by rw [fm_nextOrder_L100, if_pos (by rw [t_le, t_nI (by omega), t_nI hl]; omega)], fun _ _ => rfl, rfl, h⟩
      · omega
    · have tl := t_nI (show lo < 2147483648 by omega)
      have th := t_nI (show hi < 2147483648 by omega)
      have th1 := t_nI (show hi - 1 < 2147483648 by omega)
      have il : inb (nI lo) 6 := b_in (by omega) (by omega)
      have ih' : inb (nI hi) 6 := b_in (by omega) (by omega)
      have e : nI hi + -1 = nI (hi - 1) := by
        have := dec_e (hi - 1)
        rw [show hi - 1 + 1 = hi by omega] at this
        exact this
      rw [if_neg q, fm_nextOrder_L100, if_neg (by rw [t_le]; omega)]
      simp only [gd_t il, gd_t ih', ilet_e, mlet_e, ix_nI (show lo < 2147483648 by omega), ix_nI (show hi < 2147483648 by omega), nI_1, e]
      obtain ⟨N', r1, r2, r3, r4⟩ := ih (lo + 1) (hi - 1) (by omega) (by omega) (by omega) (by omega) _ _ (h.swp (i := lo) (j := hi) (by omega) (by omega)) F (by omega)
      exact ⟨N', r1, fun q hq => (r2 q hq).trans ((wI_row _ _ _ _ hq).trans (wI_row _ _ _ _ hq)), r3, r4⟩
theorem nx4_b (l : List Nat) : ∀ k, nx4 l k ≤ k ∧ ∀ b, nx4 l k = b + 1 → l.getD b 0 ≤ l.getD (b + 1) 0 := by
  intro k
  induction k with
  | zero => exact ⟨Nat.le_refl _, fun b hb => by rw [nx4] at hb; omega⟩
  | succ k ih =>
    rw [nx4]
    by_cases q : l.getD k 0 ≤ l.getD (k + 1) 0
    · rw [if_pos q]
      refine ⟨Nat.le_refl _, fun b hb => ?_⟩
      obtain rfl : k = b := by omega
      exact q
    · rw [if_neg q]
      exact ⟨by omega, ih.2⟩
theorem next_e {n : Nat} {l : List Nat} {N : Mem} (hn : n ≤ 6) (h : RW n l N) : (nxt n l = none ∧ fm_nextOrder N (nI n) = some (0, N)) ∨ (∃ l' N', nxt n l = some l' ∧ fm_nextOrder N (nI n) = some (1, N') ∧ (∀ q, q ≠ 161 → N'.1 q = N.1 q) ∧ N'.2 = N.2 ∧ RW n l' N') := by
  have tn := t_nI (show n < 2147483648 by omega)
  have t2 : (nI n - 2).toInt = (n : Int) - 2 := by rw [t_sub, tn] <;> simp only [Int32.reduceToInt] <;> omega
  have t1 : (nI n - 1).toInt = (n : Int) - 1 := by rw [t_sub, tn] <;> simp only [Int32.reduceToInt] <;> omega
  by_cases hz : n = 0
  · refine Or.inl ⟨?_, ?_⟩
    · unfold nxt
      rw [hz]
      rfl
    · unfold fm_nextOrder
      obtain ⟨f, hf⟩ := FU_10
      rw [ilet_e, hf, fm_nextOrder_L4, if_pos (by rw [t_lt, li_0]; omega), if_neg (by rw [t_le, li_0]; omega)]
  have e1 : nI n - 1 = nI (n - 1) := by rw [t_eq, t_nI (by omega)]; omega
  unfold fm_nextOrder
  rw [ilet_e]
  obtain ⟨w, w1, w2⟩ := n4_L hn h (b1 := nI n) (kx := (fun w4 => (if 0 ≤ w4 then (ilet (nI n - 1) (fun v5 => (fm_nextOrder_L41 N (nI n) w4 (fun w8 => (gd (inb w4 6) (ilet (N.1 161 (ix w4)) (fun v10 => (gd (inb w8 6) (gd (inb w4 6) (mlet (wI N 161 (ix w4) (N.1 161 (ix w8))) (fun M13 => (gd (inb w8 6) (mlet (wI M13 161 (ix w8) v10) (fun M15 => (ilet (w4 + 1) (fun v16 => (ilet (nI n - 1) (fun v17 => (fm_nextOrder_L100 FU v16 v17 M15)))))))))))))))) FU v5))) else (some (0, N))))) (n - 1) (by omega) (nI n - 2) (by omega) FU (by rw [FU_eq]; omega)
  rw [w2]
  clear w2
  obtain ⟨x1, x2⟩ := nx4_b l (n - 1)
  unfold nxt
  generalize nx4 l (n - 1) = k at w1 x1 x2
  cases k with
  | zero => exact Or.inl ⟨rfl, by rw [if_neg (by rw [t_le, li_0]; omega)]⟩
  | succ b =>
    have tb := t_nI (show b < 2147483648 by omega)
    obtain rfl : w = nI b := by rw [t_eq]; omega
    have hb := x2 b rfl
    refine Or.inr ?_
    dsimp only
    rw [if_pos (by rw [t_le, li_0]; omega), ilet_e, e1]
    obtain ⟨y1, y2, y3⟩ := n5_L hn h (b1 := nI n) hb (kx := (fun w8 => (gd (inb (nI b) 6) (ilet (N.1 161 (ix (nI b))) (fun v10 => (gd (inb w8 6) (gd (inb (nI b) 6) (mlet (wI N 161 (ix (nI b)) (N.1 161 (ix w8))) (fun M13 => (gd (inb w8 6) (mlet (wI M13 161 (ix w8) v10) (fun M15 => (ilet (nI b + 1) (fun v16 => (ilet (nI (n - 1)) (fun v17 => (fm_nextOrder_L100 FU v16 v17 M15))))))))))))))))) (n - 1) (by omega) (by omega) FU (by rw [FU_eq]; omega)
    rw [y3]
    clear y3
    generalize nx5 l b (n - 1) = w at y1 y2 ⊢
    have tw := t_nI (show w < 2147483648 by omega)
    have ib : inb (nI b) 6 := b_in (by omega) (by omega)
    have iw : inb (nI w) 6 := b_in (by omega) (by omega)
    rw [gd_t ib, ilet_e, gd_t iw, gd_t ib, mlet_e, gd_t iw, mlet_e, ilet_e, ilet_e, ix_nI (show b < 2147483648 by omega), ix_nI (show w < 2147483648 by omega), nI_1]
    obtain ⟨N', r1, r2, r3, r4⟩ := rv_L hn 6 (b + 1) (n - 1) (by omega) (by omega) (by omega) (by omega) _ _ (h.swp (i := b) (j := w) (by omega) (by omega)) FU (by rw [FU_eq]; omega)
    exact ⟨_, N', rfl, r1, fun q hq => (r2 q hq).trans ((wI_row _ _ _ _ hq).trans (wI_row _ _ _ _ hq)), r3, r4⟩
