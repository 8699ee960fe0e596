/-- a shelf, as both tell it -/
theorem shf {C N : Mem} (h : RS C N) (hj : (C.1 20 1).toInt ≤ 20) {a : Int32} (h1 : 0 ≤ a.toInt) (h2 : a.toInt < 8) :
    (¬ C.1 (ix a + 2) 2 = -1 ∧ fm_holdsJetty N a = some 1 ∧ 0 ≤ (N.1 139 (ix a)).toInt ∧ (N.1 139 (ix a)).toInt < 20) ∨
    (C.1 (ix a + 2) 2 = -1 ∧ ¬ fShelf_isEmptyT C (ix a) = 0 ∧ fm_holdsJetty N a = some 0 ∧ N.1 139 (ix a) = -1 ∧ fm_isRow N a = some 0) ∨
    (C.1 (ix a + 2) 2 = -1 ∧ fShelf_isEmptyT C (ix a) = 0 ∧ fm_holdsJetty N a = some 0 ∧ fm_isRow N a = some 1 ∧ ∃ t : Nat, t < 5 ∧ N.1 139 (ix a) = nI (100 + t) ∧ C.1 (ix a + 2) 0 = nI t ∧ C.1 (ix a + 2) 1 = N.1 140 (ix a) ∧ bd (N.1 140 (ix a)) 0 40 ∧ ∀ i, i < 40 → C.2 (ix a + 10) i = N.2 141 (40 * ix a + i)) := by
  have hi := t_ix h1
  have hin : inb a 8 := b_in h1 h2
  unfold fm_holdsJetty fm_isRow fShelf_isEmptyT
  simp only [gd_t hin]
  rcases h (ix a) (by omega) with ⟨e1, e2, e3, e4⟩ | ⟨t, ht, e1, e2, e3, e4, e5, e6⟩ | ⟨e1, e2, e3, e4, e5⟩
  · refine Or.inr (Or.inl ⟨e4, ?_, ?_, e1, ?_⟩)
    · rw [if_pos e2, if_pos e4]; decide
    · rw [e1, if_pos (by decide)]
    · rw [e1, if_pos (by decide)]
  · have q := t_nI (show 100 + t < 2147483648 by omega)
    refine Or.inr (Or.inr ⟨e3, ?_, ?_, ?_, t, ht, e1, e2, e4, e5, e6⟩)
    · rw [e2, if_neg (nI_ne_m1 (by omega))]
    · rw [e1, if_neg (by rw [t_lt, q]; simp only [Int32.reduceToInt]; omega), if_pos (by rw [t_le, q]; simp only [Int32.reduceToInt]; omega)]
    · rw [e1, if_neg (by rw [t_lt, q]; simp only [Int32.reduceToInt]; omega)]
  · refine Or.inl ⟨?_, ?_, e4, by omega⟩
    · rw [e3]; exact m1_ne e4
    · rw [if_neg (by rw [t_lt]; simp only [Int32.reduceToInt]; omega), if_neg (by rw [t_le]; simp only [Int32.reduceToInt]; omega)]
theorem part_0 {C : Mem} {s : Nat} {a b z : Int32} (hz : C.1 (s + 2) 1 = z) (h1 : 0 ≤ z.toInt) (h2 : z.toInt ≤ 40) : fShelf_hasPartT C s a b = 0 ↔ a.toInt < 0 ∨ b.toInt < 0 ∨ z.toInt < a.toInt + b.toInt := by
  have u := Int32.toInt_lt a
  unfold fShelf_hasPartT
  rw [hz]
  simp only [t_lt, Int32.reduceToInt]
  by_cases q1 : a.toInt < 0
  · rw [if_pos q1]; exact ⟨fun _ => Or.inl q1, fun _ => rfl⟩
  · rw [if_neg q1]
    by_cases q2 : b.toInt < 0
    · rw [if_pos q2]; exact ⟨fun _ => Or.inr (Or.inl q2), fun _ => rfl⟩
    · rw [if_neg q2]
      by_cases q3 : z.toInt < a.toInt
      · rw [if_pos q3]; exact ⟨fun _ => by omega, fun _ => rfl⟩
      · have e : (z - a).toInt = z.toInt - a.toInt := by rw [t_sub] <;> omega
        rw [if_neg q3, e]
        by_cases q4 : z.toInt - a.toInt < b.toInt
        · rw [if_pos q4]; exact ⟨fun _ => by omega, fun _ => rfl⟩
        · rw [if_neg q4]; exact ⟨fun q => absurd q (by decide), fun _ => by omega⟩
theorem ix3 {a b x : Int32} (h1 : 0 ≤ a.toInt) (h2 : a.toInt < 8) (h3 : 0 ≤ b.toInt) (h4 : 0 ≤ x.toInt) (h5 : b.toInt + x.toInt < 40) : ix (((40 : Int32) * a + b) + x) = 40 * ix a + ix b + ix x ∧ inb (((40 : Int32) * a + b) + x) 320 := by
  have e := t_lin (x := 0) (y := 0) (a := a) (b := b) h1 h2 h3 (by omega)
  have t : (((40 : Int32) * a + b) + x).toInt = 40 * a.toInt + b.toInt + x.toInt := by rw [t_add (by rw [e]; omega) (by rw [e]; omega), e]
  have i1 := t_ix h1
  have i3 := t_ix h3
  have i4 := t_ix h4
  have i5 := t_ix (a := ((40 : Int32) * a + b) + x) (by omega)
  exact ⟨by omega, b_in (by omega) (by omega)⟩
theorem rowL_wL {N : Mem} {f : Nat → Int64} {i : Nat} {v : Int64} : wL (rowL N 141 f) 141 i v = rowL N 141 (fun j => if j = i then v else f j) := by
  unfold wL rowL
  refine Prod.ext rfl ?_
  funext a
  simp only []
  by_cases e : a = 141
  · rw [if_pos e, if_pos e]; simp only [if_true]; rfl
  · rw [if_neg e, if_neg e, if_neg e]
theorem rowL_same (N : Mem) (k : Nat) : rowL N k (N.2 k) = N := by
  unfold rowL
  refine Prod.ext rfl ?_
  funext a
  simp only []
  split
  · subst_vars; rfl
  · rfl
theorem rowL_at (N : Mem) (k : Nat) (f : Nat → Int64) : (rowL N k f).2 k = f := by rw [rowL_2, if_pos rfl]
theorem cp_fs (f : Nat → Int64) {S D k : Nat} (h : S + k < D ∨ D ≤ S) : (fun j => if j = D + k then va_cpy f f S D k (S + k) else va_cpy f f S D k j) = va_cpy f f S D (k + 1) := by
  funext j
  unfold va_cpy
  by_cases e : j = D + k
  · rw [if_pos e, if_neg (by omega), if_pos (by omega)]
    congr 1
    omega
  · rw [if_neg e]
    by_cases g : D ≤ j ∧ j < D + k
    · rw [if_pos g, if_pos (by omega)]
    · rw [if_neg g, if_neg (by omega)]
def bcp (f : Nat → Int64) (S D K n : Nat) : Nat → Int64 := fun i => if D + n ≤ i ∧ i < D + K then f (S + (i - D)) else f i
theorem cp_bs (f : Nat → Int64) {S D K n : Nat} (h : S < D) (hn : n < K) : (fun j => if j = D + n then bcp f S D K (n + 1) (S + n) else bcp f S D K (n + 1) j) = bcp f S D K n := by
  funext j
  unfold bcp
  by_cases e : j = D + n
  · rw [if_pos e, if_neg (by omega), if_pos (by omega)]
    congr 1
    omega
  · rw [if_neg e]
    by_cases g : D + (n + 1) ≤ j ∧ j < D + K
    · rw [if_pos g, if_pos (by omega)]
    · rw [if_neg g, if_neg (by omega)]
theorem bcp_0 (f : Nat → Int64) (S D K : Nat) : bcp f S D K 0 = va_cpy f f S D K := by
  funext j
  unfold bcp va_cpy
  rfl
theorem bcp_K (f : Nat → Int64) (S D K : Nat) : bcp f S D K K = f := by
  funext j
  unfold bcp
  rw [if_neg (by omega)]
theorem cp_f {N : Mem} {a1 a2 a3 a4 a5 : Int32} (p1 : 0 ≤ a1.toInt) (q1 : a1.toInt < 8) (p2 : 0 ≤ a2.toInt) (q2 : a2.toInt < 8) (p3 : 0 ≤ a3.toInt) (p4 : 0 ≤ a4.toInt) (p5 : 0 ≤ a5.toInt) (q3 : a3.toInt + a5.toInt ≤ 40) (q4 : a4.toInt + a5.toInt ≤ 40) (hd : 40 * ix a1 + ix a3 + ix a5 ≤ 40 * ix a2 + ix a4 ∨ 40 * ix a2 + ix a4 ≤ 40 * ix a1 + ix a3) : ∀ (n k : Nat), k + n = ix a5 → ∀ F1, n < F1 → fm_copy_L221 a1 a2 a3 a4 a5 F1 (nI k) (rowL N 141 (va_cpy (N.2 141) (N.2 141) (40 * ix a1 + ix a3) (40 * ix a2 + ix a4) k)) = some (a5, rowL N 141 (va_cpy (N.2 141) (N.2 141) (40 * ix a1 + ix a3) (40 * ix a2 + ix a4) (ix a5))) := by
  have i5 := t_ix p5
  intro n
  induction n with
  | zero =>
    intro k hk F1 h1
    obtain ⟨F1, rfl⟩ : ∃ m, F1 = m + 1 := ⟨F1 - 1, by omega⟩
    have tk := t_nI (show k < 2147483648 by omega)
    rw [fm_copy_L221, if_pos (by rw [t_le, tk]; omega), show k = ix a5 by omega]
  | succ n ih =>
    intro k hk F1 h1
    obtain ⟨F1, rfl⟩ : ∃ m, F1 = m + 1 := ⟨F1 - 1, by omega⟩
    have tk := t_nI (show k < 2147483648 by omega)
    have xk := ix_nI (show k < 2147483648 by omega)
    obtain ⟨s1, s2⟩ := ix3 (x := nI k) p1 q1 p3 (by omega) (by omega)
    obtain ⟨d1, d2⟩ := ix3 (x := nI k) p2 q2 p4 (by omega) (by omega)
    rw [fm_copy_L221, if_neg (by rw [t_le, tk]; omega), gd_t s2, gd_t d2, mlet_e, s1, d1, xk, nI_1, rowL_wL, rowL_at, cp_fs _ (by omega)]
    exact ih (k + 1) (by omega) F1 (by omega)
theorem dec_t {x : Int32} {n : Nat} (h : x.toInt + 1 = ((n + 1 : Nat) : Int)) (hn : n < 2000000000) : (x + -1).toInt + 1 = (n : Int) := by
  rw [t_add] <;> simp only [Int32.reduceToInt] <;> omega
theorem cp_b {N : Mem} {a1 a2 a3 a4 a5 : Int32} (p1 : 0 ≤ a1.toInt) (q1 : a1.toInt < 8) (p2 : 0 ≤ a2.toInt) (q2 : a2.toInt < 8) (p3 : 0 ≤ a3.toInt) (p4 : 0 ≤ a4.toInt) (p5 : 0 ≤ a5.toInt) (q3 : a3.toInt + a5.toInt ≤ 40) (q4 : a4.toInt + a5.toInt ≤ 40) (hd : 40 * ix a1 + ix a3 < 40 * ix a2 + ix a4) {kx : Mem → Option (Int32 × Mem)} : ∀ (n : Nat) (x : Int32), x.toInt + 1 = n → n ≤ ix a5 → ∀ F1, n < F1 → fm_copy_L175 a1 a2 a3 a4 a5 kx F1 x (rowL N 141 (bcp (N.2 141) (40 * ix a1 + ix a3) (40 * ix a2 + ix a4) (ix a5) n)) = kx (rowL N 141 (va_cpy (N.2 141) (N.2 141) (40 * ix a1 + ix a3) (40 * ix a2 + ix a4) (ix a5))) := by
  have i5 := t_ix p5
  intro n
  induction n with
  | zero =>
    intro x hx hn F1 h1
    obtain ⟨F1, rfl⟩ : ∃ m, F1 = m + 1 := ⟨F1 - 1, by omega⟩
    rw [fm_copy_L175, if_pos (by rw [t_lt]; simp only [Int32.reduceToInt]; omega), bcp_0]
  | succ n ih =>
    intro x hx hn F1 h1
    obtain ⟨F1, rfl⟩ : ∃ m, F1 = m + 1 := ⟨F1 - 1, by omega⟩
    have xk := t_ix (a := x) (by omega)
    obtain ⟨s1, s2⟩ := ix3 (x := x) p1 q1 p3 (by omega) (by omega)
    obtain ⟨d1, d2⟩ := ix3 (x := x) p2 q2 p4 (by omega) (by omega)
    rw [fm_copy_L175, if_neg (by rw [t_lt]; simp only [Int32.reduceToInt]; omega), gd_t s2, gd_t d2, mlet_e, s1, d1, rowL_wL, rowL_at]
    have hxn : ix x = n := by omega
    have hst := cp_bs (N.2 141) (S := 40 * ix a1 + ix a3) (D := 40 * ix a2 + ix a4) (K := ix a5) (n := n) hd (by omega)
    rw [hxn, hst]
    exact ih (x + -1) (dec_t hx (by omega)) (by omega) F1 (by omega)
