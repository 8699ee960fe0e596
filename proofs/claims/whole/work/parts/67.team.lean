-- teams: what the best of them is
def tR (rk : Nat → Nat → Int32) : List Nat → Int32
  | [] => 0
  | i :: r => tR rk r + rk r.length i
def feasB (P cap : Nat) (r : List Nat) : Bool := decide (∀ x, x < P → r.count x ≤ cap)
theorem feas_e {P cap : Nat} {r : List Nat} : feasB P cap r = true ↔ ∀ x, x < P → r.count x ≤ cap := by
  unfold feasB
  rw [decide_eq_true_eq]
def btB (rk : Nat → Nat → Int32) : Option (List Nat) → List Nat → Bool
  | none, _ => true
  | some s, r => decide (tR rk r < tR rk s)
def sT (rk : Nat → Nat → Int32) (P cap : Nat) (b : Option (List Nat)) (r : List Nat) : Option (List Nat) := if feasB P cap r = true ∧ btB rk b r = true then some r else b
def dg (P : Nat) : Nat → Nat → List Nat
  | 0, _ => []
  | n + 1, x => (x % P) :: dg P n (x / P)
def foN (rk : Nat → Nat → Int32) (P cap n : Nat) (b : Option (List Nat)) (x : Nat) : Nat → Option (List Nat)
  | 0 => b
  | m + 1 => foN rk P cap n (sT rk P cap b (dg P n x)) (x + 1) m
def vl (P : Nat) : List Nat → Nat
  | [] => 0
  | i :: r => vl P r * P + i
theorem foN_add {rk : Nat → Nat → Int32} {P cap n : Nat} : ∀ (m1 m2 : Nat) (b : Option (List Nat)) (x : Nat), foN rk P cap n b x (m1 + m2) = foN rk P cap n (foN rk P cap n b x m1) (x + m1) m2 := by
  intro m1
  induction m1 with
  | zero => intro m2 b x; rw [Nat.zero_add]; rfl
  | succ m ih =>
    intro m2 b x
    rw [Nat.add_right_comm, foN, ih, foN, Nat.add_right_comm, Nat.add_assoc]
theorem foN_skip {rk : Nat → Nat → Int32} {P cap n : Nat} : ∀ (m : Nat) (b : Option (List Nat)) (x : Nat), (∀ y, y < m → ¬ (feasB P cap (dg P n (x + y)) = true ∧ btB rk b (dg P n (x + y)) = true)) → foN rk P cap n b x m = b := by
  intro m
  induction m with
  | zero => intro b x _; rfl
  | succ m ih =>
    intro b x h
    have h0 := h 0 (by omega)
    rw [Nat.add_zero] at h0
    rw [foN, sT, if_neg h0]
    refine ih b (x + 1) (fun y hy => ?_)
    have := h (y + 1) (by omega)
    rw [show x + 1 + y = x + (y + 1) by omega]
    exact this
theorem dg_len (P : Nat) : ∀ n x, (dg P n x).length = n := by
  intro n
  induction n with
  | zero => intro x; rfl
  | succ n ih => intro x; rw [dg, List.length_cons, ih]
theorem dg_in {P : Nat} (hP : 0 < P) : ∀ n x i, i ∈ dg P n x → i < P := by
  intro n
  induction n with
  | zero => intro x i h; simp [dg] at h
  | succ n ih =>
    intro x i h
    rw [dg] at h
    rcases List.mem_cons.mp h with z | z
    · rw [z]; exact Nat.mod_lt _ hP
    · exact ih _ i z
theorem dg_vl {P : Nat} : ∀ r : List Nat, (∀ i, i ∈ r → i < P) → dg P r.length (vl P r) = r := by
  intro r
  induction r with
  | nil => intro _; rfl
  | cons i t ih =>
    intro h
    have hi := h i (List.mem_cons_self ..)
    rw [List.length_cons, vl, dg, Nat.mul_comm, Nat.mul_add_mod, Nat.mod_eq_of_lt hi, Nat.mul_add_div (by omega), Nat.div_eq_of_lt hi, Nat.add_zero, ih (fun j hj => h j (List.mem_cons_of_mem _ hj))]
theorem dg_split {P : Nat} {r : List Nat} (hr : ∀ i, i ∈ r → i < P) : ∀ (d y : Nat), y < P ^ d → dg P (r.length + d) (vl P r * P ^ d + y) = dg P d y ++ r := by
  intro d
  induction d with
  | zero =>
    intro y hy
    rw [Nat.pow_zero] at hy
    obtain rfl : y = 0 := by omega
    rw [Nat.pow_zero, Nat.mul_one, Nat.add_zero, Nat.add_zero, dg_vl r hr]
    rfl
  | succ d ih =>
    intro y hy
    rw [Nat.pow_succ] at hy
    have hP : 0 < P := by
      rcases Nat.eq_zero_or_pos P with z | z
      · rw [z, Nat.mul_zero] at hy; omega
      · exact z
    have e : vl P r * P ^ (d + 1) + y = P * (vl P r * P ^ d) + y := by
      rw [Nat.pow_succ, ← Nat.mul_assoc, Nat.mul_comm (vl P r * P ^ d) P]
    rw [e, ← Nat.add_assoc, dg, dg, Nat.mul_add_mod, Nat.mul_add_div hP, ih (y / P) (Nat.div_lt_of_lt_mul (by rw [Nat.mul_comm]; exact hy))]
    rfl
/-- what a bound of the rest must keep -/
def LBH (rk : Nat → Nat → Int32) (lb : Nat → Int32) (P n : Nat) : Prop := lb n = 0 ∧ (∀ p, p ≤ n → 0 ≤ (lb p).toInt ∧ (lb p).toInt ≤ 6000) ∧ (∀ p x, p < n → x < P → (lb p).toInt ≤ (rk p x).toInt + (lb (p + 1)).toInt) ∧ ∀ p x, 0 ≤ (rk p x).toInt ∧ (rk p x).toInt ≤ 1000
theorem tR_b {rk : Nat → Nat → Int32} (h : ∀ p x, 0 ≤ (rk p x).toInt ∧ (rk p x).toInt ≤ 1000) : ∀ r : List Nat, r.length ≤ 6 → 0 ≤ (tR rk r).toInt ∧ (tR rk r).toInt ≤ 1000 * (r.length : Int) := by
  intro r
  induction r with
  | nil => intro _; exact ⟨by rw [tR, li_0]; omega, by rw [tR, li_0]; simp⟩
  | cons i t ih =>
    intro hl
    rw [List.length_cons] at hl ⊢
    obtain ⟨a, b⟩ := ih (by omega)
    obtain ⟨c, d⟩ := h t.length i
    rw [tR, t_add (by omega) (by omega)]
    omega
theorem tR_s {rk : Nat → Nat → Int32} (h : ∀ p x, 0 ≤ (rk p x).toInt ∧ (rk p x).toInt ≤ 1000) (i : Nat) (r : List Nat) (hl : r.length < 6) : (tR rk (i :: r)).toInt = (tR rk r).toInt + (rk r.length i).toInt := by
  obtain ⟨a, b⟩ := tR_b h r (by omega)
  obtain ⟨c, d⟩ := h r.length i
  rw [tR, t_add (by omega) (by omega)]
theorem tR_up {rk : Nat → Nat → Int32} {lb : Nat → Int32} {P n : Nat} (hn : n ≤ 6) (h : LBH rk lb P n) : ∀ (t u : List Nat), (t ++ u).length ≤ n → (∀ i, i ∈ t → i < P) → (tR rk u).toInt + (lb u.length).toInt ≤ (tR rk (t ++ u)).toInt + (lb (t ++ u).length).toInt := by
  obtain ⟨h1, h2, h3, h4⟩ := h
  intro t
  induction t with
  | nil => intro u _ _; exact Int.le_refl _
  | cons i t ih =>
    intro u hl hi
    rw [List.cons_append, List.length_cons] at hl ⊢
    have a := ih u (by omega) (fun j hj => hi j (List.mem_cons_of_mem _ hj))
    have b := h3 (t ++ u).length i (by omega) (hi i (List.mem_cons_self ..))
    rw [tR_s h4 i (t ++ u) (by omega)]
    omega
/-- nothing in the block of r is good -/
theorem blk_skip {rk : Nat → Nat → Int32} {lb : Nat → Int32} {P n cap : Nat} (hn : n ≤ 6) (hP : 0 < P) (h : LBH rk lb P n) {r : List Nat} {d : Nat} (hd : r.length + d = n) (hr : ∀ i, i ∈ r → i < P) {b : Option (List Nat)} (hs : (∃ x, x < P ∧ cap < r.count x) ∨ (∃ s, b = some s ∧ (tR rk s).toInt ≤ (tR rk r).toInt + (lb r.length).toInt)) : foN rk P cap n b (vl P r * P ^ d) (P ^ d) = b := by
  refine foN_skip _ _ _ (fun y hy z => ?_)
  obtain ⟨z1, z2⟩ := z
  have e : dg P n (vl P r * P ^ d + y) = dg P d y ++ r := by
    rw [← hd]; exact dg_split hr d y hy
  rw [e] at z1 z2
  have hl : (dg P d y ++ r).length = n := by rw [List.length_append, dg_len]; omega
  rcases hs with ⟨x, x1, x2⟩ | ⟨s, s1, s2⟩
  · have := feas_e.mp z1 x x1
    rw [List.count_append] at this
    omega
  · rw [s1] at z2
    simp only [btB, decide_eq_true_eq, t_lt] at z2
    have := tR_up hn h (dg P d y) r (by omega) (dg_in hP d y)
    rw [hl, h.1, li_0] at this
    omega
def TBs (rk : Nat → Nat → Int32) (n : Nat) (M : Mem) : Option (List Nat) → Prop
  | none => M.1 130 0 = 1000000
  | some s => M.1 130 0 = tR rk s ∧ (∀ p, p < n → M.1 136 p = nI (atR s p)) ∧ s.length = n
def TST (C0 : Mem) (rk : Nat → Nat → Int32) (lb : Nat → Int32) (P cap n : Nat) (r : List Nat) (b : Option (List Nat)) (M : Mem) : Prop := same 0 117 C0 M ∧ M.1 130 1 = nI P ∧ M.1 130 2 = nI cap ∧ M.1 130 3 = nI n ∧ (∀ p x, p < n → x < P → M.1 132 (p * 6 + x) = rk p x) ∧ (∀ p, p ≤ n → M.1 133 p = lb p) ∧ (∀ x, x < P → M.1 134 x = nI (r.count x)) ∧ (∀ p, p < r.length → M.1 135 p = nI (atR r p)) ∧ TBs rk n M b
def FRT (M M' : Mem) : Prop := (∀ q, q ≠ 130 → q ≠ 135 → q ≠ 136 → M'.1 q = M.1 q) ∧ M'.2 = M.2
theorem FRT.tr {A B D : Mem} (h : FRT A B) (g : FRT B D) : FRT A D := ⟨fun q x y z => (g.1 q x y z).trans (h.1 q x y z), g.2.trans h.2⟩
theorem TBs_fr {rk : Nat → Nat → Int32} {n : Nat} {M M' : Mem} {b : Option (List Nat)} (h : TBs rk n M b) (h1 : M'.1 130 = M.1 130) (h2 : M'.1 136 = M.1 136) : TBs rk n M' b := by
  cases b with
  | none => unfold TBs at h ⊢; rw [h1]; exact h
  | some s => unfold TBs at h ⊢; rw [h1, h2]; exact h
theorem cnt_c (k x : Nat) (r : List Nat) : (k :: r).count x = r.count x + if x = k then 1 else 0 := by
  rw [List.count_cons]
  by_cases h : x = k
  · rw [if_pos h, if_pos (by rw [h]; simp)]
  · rw [if_neg h, if_neg (by simp; exact fun z => h z.symm)]
theorem TST_in {C0 : Mem} {rk : Nat → Nat → Int32} {lb : Nat → Int32} {P cap n k : Nat} {r : List Nat} {b : Option (List Nat)} {M : Mem} (hk : k < P) (h : TST C0 rk lb P cap n r b M) : TST C0 rk lb P cap n (k :: r) b (wI (wI M 134 k (M.1 134 k + 1)) 135 r.length (nI k)) := by
  obtain ⟨h1, h2, h3, h4, h5, h6, h7, h8, h9⟩ := h
  have e : ∀ q, q ≠ 134 → q ≠ 135 → (wI (wI M 134 k (M.1 134 k + 1)) 135 r.length (nI k)).1 q = M.1 q := fun q x y => (wI_row _ _ _ _ y).trans (wI_row _ _ _ _ x)
  refine ⟨same_t h1 (same_t (same_wI (by omega)) (same_wI (by omega))), ?_, ?_, ?_, ?_, ?_, ?_, ?_, TBs_fr h9 (e 130 (by omega) (by omega)) (e 136 (by omega) (by omega))⟩
  · rw [e 130 (by omega) (by omega)]; exact h2
  · rw [e 130 (by omega) (by omega)]; exact h3
  · rw [e 130 (by omega) (by omega)]; exact h4
  · rw [e 132 (by omega) (by omega)]; exact h5
  · rw [e 133 (by omega) (by omega)]; exact h6
  · intro x hx
    rw [mem_fst (by omega), cnt_c]
    by_cases z : x = k
    · rw [z, wI_s, if_pos rfl, h7 k hk, nI_1]
    · rw [mem_fst (by omega), if_neg z]; exact h7 x hx
  · intro p hp
    rw [List.length_cons] at hp
    rw [atR]
    by_cases z : p = r.length
    · rw [z, wI_s, if_pos rfl]
    · rw [mem_fst (by omega), mem_fst (by omega), if_neg z]
      exact h8 p (by omega)
theorem TST_out {C0 : Mem} {rk : Nat → Nat → Int32} {lb : Nat → Int32} {P cap n k : Nat} {r : List Nat} {b : Option (List Nat)} {M M' : Mem} (h0 : TST C0 rk lb P cap n r b M) {b' : Option (List Nat)} (h : TST C0 rk lb P cap n (k :: r) b' M') (hf : FRT (wI (wI M 134 k (M.1 134 k + 1)) 135 r.length (nI k)) M') : TST C0 rk lb P cap n r b' (wI M' 134 k (M'.1 134 k - 1)) ∧ FRT M (wI M' 134 k (M'.1 134 k - 1)) := by
  obtain ⟨h1, h2, h3, h4, h5, h6, h7, h8, h9⟩ := h
  obtain ⟨g1, g2, g3, g4, g5, g6, g7, g8, g9⟩ := h0
  obtain ⟨f1, f2⟩ := hf
  have e : ∀ q, q ≠ 134 → (wI M' 134 k (M'.1 134 k - 1)).1 q = M'.1 q := fun q x => wI_row _ _ _ _ x
  have r8 : (wI M' 134 k (M'.1 134 k - 1)).1 134 = M.1 134 := by
    funext i
    by_cases z : i = k
    · rw [z, wI_s, f1 134 (by omega) (by omega) (by omega), mem_fst (by omega), wI_s, Int32.add_sub_cancel]
    · rw [mem_fst (by omega), f1 134 (by omega) (by omega) (by omega), mem_fst (by omega), mem_fst (by omega)]
  refine ⟨⟨same_t h1 (same_wI (by omega)), ?_, ?_, ?_, ?_, ?_, ?_, ?_, TBs_fr h9 (e 130 (by omega)) (e 136 (by omega))⟩, fun q x y z => ?_, ?_⟩
  · rw [e 130 (by omega)]; exact h2
  · rw [e 130 (by omega)]; exact h3
  · rw [e 130 (by omega)]; exact h4
  · rw [e 132 (by omega)]; exact h5
  · rw [e 133 (by omega)]; exact h6
  · rw [r8]; exact g7
  · intro p hp
    rw [e 135 (by omega), h8 p (by rw [List.length_cons]; omega), atR, if_neg (by omega)]
  · by_cases w : q = 134
    · rw [w]; exact r8
    · rw [e q w, f1 q x y z, wI_row _ _ _ _ y, wI_row _ _ _ _ w]
  · exact f2
theorem cnt_le (x : Nat) (r : List Nat) : r.count x ≤ r.length := List.count_le_length
theorem asg_L {C0 : Mem} {rk : Nat → Nat → Int32} {lb : Nat → Int32} {P cap n d : Nat} {r : List Nat} (hn : n ≤ 6) (hP : P ≤ 6) (hcap : cap ≤ 6) (hB : LBH rk lb P n) (hd : r.length + (d + 1) = n) (hr : ∀ i, i ∈ r → i < P) (hfe : feasB P cap r = true) {rec : Int32 → Int32 → Mem → Option Mem} (IH : ∀ k b M, k < P → TST C0 rk lb P cap n (k :: r) b M → feasB P cap (k :: r) = true → (d = 0 → sT rk P cap b (k :: r) = some (k :: r)) → ∃ M', rec (nI (r.length + 1)) (tR rk (k :: r)) M = some M' ∧ TST C0 rk lb P cap n (k :: r) (foN rk P cap n b (vl P (k :: r) * P ^ d) (P ^ d)) M' ∧ FRT M M') : ∀ (m k : Nat), k + m = P → ∀ b M, TST C0 rk lb P cap n r b M → ∀ F, m < F → ∃ M', fTeamSearch_assign_L33 rec (nI r.length) (tR rk r) F (nI k) M = some M' ∧ TST C0 rk lb P cap n r (foN rk P cap n b ((vl P r * P + k) * P ^ d) (m * P ^ d)) M' ∧ FRT M M' := by
  intro m
  have tP := t_nI (show P < 2147483648 by omega)
  induction m with
  | zero =>
    intro k hk b M hS F hF
    obtain ⟨F, rfl⟩ : ∃ m, F = m + 1 := ⟨F - 1, by omega⟩
    have tk := t_nI (show k < 2147483648 by omega)
    refine ⟨M, ?_, ?_, fun _ _ _ _ => rfl, rfl⟩
    · rw [fTeamSearch_assign_L33, if_pos (by rw [hS.2.1, t_le]; omega)]
    · rw [Nat.zero_mul]; exact hS
  | succ m ih =>
    intro k hk b M hS F hF
    obtain ⟨F, rfl⟩ : ∃ m, F = m + 1 := ⟨F - 1, by omega⟩
    have tk := t_nI (show k < 2147483648 by omega)
    have xk := ix_nI (show k < 2147483648 by omega)
    have tr := t_nI (show r.length < 2147483648 by omega)
    have ik : inb (nI k) 6 := b_in (by omega) (by omega)
    obtain ⟨h1, h2, h3, h4, h5, h6, h7, h8, h9⟩ := id hS
    have hB' := hB
    obtain ⟨B1, B2, B3, B4⟩ := hB'
    have bi : nI r.length * 6 + nI k = nI (r.length * 6 + k) := by
      rw [t_eq, t_add, t_mul, tr, tk, t_nI (by omega)] <;> (try rw [t_mul]) <;> (try rw [tr]) <;> (try rw [tk]) <;> simp only [Int32.reduceToInt] <;> omega
    have hkr : ∀ j, j ∈ k :: r → j < P := fun j hj => by
      rcases List.mem_cons.mp hj with z | z
      · omega
      · exact hr j z
    have hcl := cnt_le k r
    have tc := t_nI (show r.count k < 2147483648 by omega)
    have tcap := t_nI (show cap < 2147483648 by omega)
    have hbl : (vl P r * P + k) * P ^ d = vl P (k :: r) * P ^ d := rfl
    have hsp : foN rk P cap n b ((vl P r * P + k) * P ^ d) ((m + 1) * P ^ d) = foN rk P cap n (foN rk P cap n b (vl P (k :: r) * P ^ d) (P ^ d)) ((vl P r * P + (k + 1)) * P ^ d) (m * P ^ d) := by
      rw [show (m + 1) * P ^ d = P ^ d + m * P ^ d by rw [Nat.add_mul, Nat.one_mul, Nat.add_comm], foN_add, hbl, show vl P (k :: r) * P ^ d + P ^ d = (vl P r * P + (k + 1)) * P ^ d by rw [← Nat.add_assoc, Nat.add_mul, Nat.one_mul]; rfl]
    rw [hsp, fTeamSearch_assign_L33, if_neg (by rw [h2, t_le]; omega), bi, gd_t (b_in (by rw [t_nI (by omega)]; omega) (by rw [t_nI (by omega)]; omega)), ix_nI (by omega), h5 _ _ (by omega) (by omega), ilet_e, gd_t ik, jlet_e, xk, h7 k (by omega), h3, nI_1, show tR rk r + rk r.length k = tR rk (k :: r) from rfl]
    have skip : ((∃ x, x < P ∧ cap < (k :: r).count x) ∨ (∃ s, b = some s ∧ (tR rk s).toInt ≤ (tR rk (k :: r)).toInt + (lb (k :: r).length).toInt)) → ∃ M', fTeamSearch_assign_L33 rec (nI r.length) (tR rk r) F (nI (k + 1)) M = some M' ∧ TST C0 rk lb P cap n r (foN rk P cap n (foN rk P cap n b (vl P (k :: r) * P ^ d) (P ^ d)) ((vl P r * P + (k + 1)) * P ^ d) (m * P ^ d)) M' ∧ FRT M M' := fun z => by
      rw [blk_skip hn (by omega) hB (by rw [List.length_cons]; omega) hkr z]
      exact ih (k + 1) (by omega) b M hS F (by omega)
    by_cases q1 : nI cap ≤ nI (r.count k)
    · rw [if_pos q1]
      refine skip (Or.inl ⟨k, by omega, ?_⟩)
      rw [t_le] at q1
      rw [cnt_c, if_pos rfl]
      omega
    rw [if_neg q1, nI_1, gd_t (b_in (by rw [t_nI (by omega)]; omega) (by rw [t_nI (by omega)]; omega)), ix_nI (show r.length + 1 < 2147483648 by omega), h6 _ (by omega)]
    have hts := tR_s B4 k r (by omega)
    obtain ⟨tb1, tb2⟩ := tR_b B4 r (by omega)
    obtain ⟨b41, b42⟩ := B4 r.length k
    obtain ⟨b21, b22⟩ := B2 (r.length + 1) (by omega)
    have tsum : (tR rk (k :: r) + lb (r.length + 1)).toInt = (tR rk (k :: r)).toInt + (lb (r.length + 1)).toInt := t_add (by omega) (by omega)
    by_cases q2 : M.1 130 0 ≤ tR rk (k :: r) + lb (r.length + 1)
    · rw [if_pos q2]
      rw [t_le, tsum] at q2
      refine skip (Or.inr ?_)
      cases b with
      | none =>
        rw [show M.1 130 0 = 1000000 from h9] at q2
        simp only [Int32.reduceToInt] at q2
        omega
      | some s =>
        rw [h9.1] at q2
        exact ⟨s, rfl, by rw [List.length_cons]; exact q2⟩
    rw [t_le] at q1
    rw [t_le, tsum] at q2
    have fe : feasB P cap (k :: r) = true := by
      refine feas_e.mpr (fun x hx => ?_)
      have := feas_e.mp hfe x hx
      rw [cnt_c]
      by_cases z : x = k
      · rw [if_pos z, z]; omega
      · rw [if_neg z]; omega
    have bt : btB rk b (k :: r) = true := by
      cases b with
      | none => rfl
      | some s =>
        rw [h9.1] at q2
        simp only [btB, decide_eq_true_eq, t_lt]
        omega
    obtain ⟨M1, r1, r2, r3⟩ := IH k b _ (by omega) (TST_in (by omega) hS) fe (fun _ => by rw [sT, if_pos ⟨fe, bt⟩])
    obtain ⟨o1, o2⟩ := TST_out hS r2 r3
    obtain ⟨M2, v1, v2, v3⟩ := ih (k + 1) (by omega) _ _ o1 F (by omega)
    refine ⟨M2, ?_, v2, o2.tr v3⟩
    rw [h7 k (by omega)] at r1
    rw [if_neg (show ¬ M.1 130 0 ≤ tR rk (k :: r) + lb (r.length + 1) by rw [t_le, tsum]; exact q2), gd_t ik, gd_t ik, mlet_e, gd_t (b_in (by omega) (by omega)), ix_nI (show r.length < 2147483648 by omega), mlet_e, r1, Option.bind_some, gd_t ik, gd_t ik, mlet_e]
    exact v1
theorem asg_c {C0 : Mem} {rk : Nat → Nat → Int32} {lb : Nat → Int32} {P cap n : Nat} (hn : n ≤ 6) (hP : P ≤ 6) (hcap : cap ≤ 6) (hB : LBH rk lb P n) : ∀ (d D : Nat) (r : List Nat) (b : Option (List Nat)) (M : Mem), r.length + d = n → d < D → (∀ i, i ∈ r → i < P) → feasB P cap r = true → TST C0 rk lb P cap n r b M → (d = 0 → sT rk P cap b r = some r) → ∃ M', fTeamSearch_assign D (nI r.length) (tR rk r) M = some M' ∧ TST C0 rk lb P cap n r (foN rk P cap n b (vl P r * P ^ d) (P ^ d)) M' ∧ FRT M M' := by
  have tn := t_nI (show n < 2147483648 by omega)
  intro d
  induction d with
  | zero =>
    intro D r b M hd hD hr hfe hS h0
    obtain ⟨D, rfl⟩ : ∃ m, D = m + 1 := ⟨D - 1, by omega⟩
    obtain ⟨h1, h2, h3, h4, h5, h6, h7, h8, h9⟩ := id hS
    have hl : r.length = n := by omega
    obtain ⟨M', k2⟩ : ∃ M', M' = cpI (wI M 130 0 (tR rk r)) 135 136 0 0 (nI n) := ⟨_, rfl⟩
    have e : ∀ q, q ≠ 130 → q ≠ 136 → M'.1 q = M.1 q := fun q x y => by
      rw [k2]
      exact row_cp' (wI_row _ _ _ _ x) y
    have e5 : ∀ i, i ≠ 0 → M'.1 130 i = M.1 130 i := fun i x => by
      rw [k2]
      exact el_cp' (mem_fst (by omega)) (by omega)
    refine ⟨M', ?_, ⟨?_, ?_, ?_, ?_, ?_, ?_, ?_, ?_, ?_⟩, fun q x y z => e q x z, by rw [k2]; rfl⟩
    · rw [fTeamSearch_assign, h4, hl, if_neg (by rw [t_lt]; omega), mlet_e, mem_fst (show 130 ≠ 130 ∨ 3 ≠ 0 by omega), h4, gd_t (show cpokB 0 0 (nI n) 6 6 from decide_eq_true ⟨⟨by decide, by decide, by rw [t_lt, tn, li_0]; omega⟩, by rw [ix_0, ix_nI (by omega)]; omega, by rw [ix_0, ix_nI (by omega)]; omega⟩), mlet_e, k2]
    · exact fun q x y => ⟨(e q (by omega) (by omega)).trans (h1 q x y).1, by rw [k2]; exact (h1 q x y).2⟩
    · rw [e5 1 (by omega)]; exact h2
    · rw [e5 2 (by omega)]; exact h3
    · rw [e5 3 (by omega)]; exact h4
    · rw [e 132 (by omega) (by omega)]; exact h5
    · rw [e 133 (by omega) (by omega)]; exact h6
    · rw [e 134 (by omega) (by omega)]; exact h7
    · rw [e 135 (by omega) (by omega)]; exact h8
    · have hv : dg P n (vl P r) = r := by rw [← hl]; exact dg_vl r hr
      rw [Nat.pow_zero, Nat.mul_one, foN, foN, hv, h0 rfl]
      refine ⟨?_, fun p hp => ?_, hl⟩
      · rw [k2]; exact el_cp' wI_s (by omega)
      · rw [k2, cp_at (by rw [ix_nI (by omega)]; exact hp), mem_fst (by omega)]
        exact h8 p (by omega)
  | succ d ih =>
    intro D r b M hd hD hr hfe hS h0
    obtain ⟨D, rfl⟩ : ∃ m, D = m + 1 := ⟨D - 1, by omega⟩
    rw [fTeamSearch_assign, hS.2.2.2.1, if_pos (by rw [t_lt, tn, t_nI (by omega)]; omega)]
    have := asg_L (rec := fTeamSearch_assign D) hn hP hcap hB hd hr hfe (fun k b M hk hS' fe h0' => ih D (k :: r) b M (by rw [List.length_cons]; omega) (by omega) (fun j hj => by
      rcases List.mem_cons.mp hj with z | z
      · omega
      · exact hr j z) fe hS' h0') P 0 (by omega) b M hS FU (by rw [FU_eq]; omega)
    rw [Nat.add_zero, Nat.mul_assoc, Nat.mul_comm P (P ^ d), ← Nat.pow_succ] at this
    exact this
