-- the reference's walk over all orders
theorem lw_s {N N' : Mem} (h : same 138 159 N N') : lwv N' = lwv N := by
  funext i
  unfold lwv
  rw [(h 156 (by omega) (by omega)).1, (h 148 (by omega) (by omega)).1]
theorem lg_s {N N' : Mem} (h : same 138 159 N N') (p q s : Int32) : lgx N' p q s = lgx N p q s := by
  unfold lgx
  rw [lw_s h]
theorem rk_s {N N' : Mem} (h : same 138 159 N N') (a j q : Nat) : rkx N' a j q = rkx N a j q := by
  unfold rkx outx tmx dkx
  rw [lw_s h, (h 156 (by omega) (by omega)).1, (h 142 (by omega) (by omega)).1, (h 144 (by omega) (by omega)).1, (h 145 (by omega) (by omega)).1, (h 146 (by omega) (by omega)).1, (h 149 (by omega) (by omega)).1, (h 155 (by omega) (by omega)).1]
def pr (f : Nat → Nat) : Nat → List Nat
  | 0 => []
  | k + 1 => f k :: pr f k
theorem pr_c {f g : Nat → Nat} : ∀ k, (∀ i, i < k → f i = g i) → pr f k = pr g k := by
  intro k
  induction k with
  | zero => intro _; rfl
  | succ k ih => intro h; rw [pr, pr, ih (fun i hi => h i (by omega)), h k (by omega)]
theorem pr_at : ∀ r : List Nat, pr (atR r) r.length = r := by
  intro r
  induction r with
  | nil => rfl
  | cons i t ih =>
    rw [List.length_cons, pr, atR, if_pos rfl, pr_c (g := atR t) t.length (fun p hp => by rw [atR, if_neg (by omega)]), ih]
theorem at_rev : ∀ (r : List Nat) (p : Nat), p < r.length → r.reverse.getD p 0 = atR r p := by
  intro r
  induction r with
  | nil => intro p hp; simp at hp
  | cons i t ih =>
    intro p hp
    rw [List.length_cons] at hp
    rw [List.reverse_cons, atR, List.getD_eq_getElem?_getD]
    by_cases z : p = t.length
    · rw [if_pos z, z, List.getElem?_append_right (by rw [List.length_reverse]; omega), List.length_reverse, Nat.sub_self]
      rfl
    · rw [if_neg z, List.getElem?_append_left (by rw [List.length_reverse]; omega), ← ih p (by omega), List.getD_eq_getElem?_getD]
theorem at_in : ∀ (r : List Nat) (p : Nat), p < r.length → atR r p ∈ r := by
  intro r
  induction r with
  | nil => intro p hp; simp at hp
  | cons i t ih =>
    intro p hp
    rw [List.length_cons] at hp
    rw [atR]
    by_cases z : p = t.length
    · rw [if_pos z]; exact List.mem_cons_self ..
    · rw [if_neg z]; exact List.mem_cons_of_mem _ (ih p (by omega))
theorem sp_pr {N N1 : Mem} (h : same 138 159 N N1) {js f : Nat → Nat} {m : Nat} (hb : ∀ p, p < m → js (f p) < 2147483648) (hr : ∀ p, p < m → N1.1 160 p = nI (js (f p))) : ∀ k, k ≤ m → spx N1 k = spR N js (pr f k) := by
  intro k hk
  cases k with
  | zero =>
    show N1.1 156 7 = N.1 156 7
    rw [(h 156 (by omega) (by omega)).1]
  | succ k =>
    rw [spx_s, hr k (by omega), ix_nI (hb k (by omega)), (h 143 (by omega) (by omega)).1]
    rfl
theorem dp_pr {N N1 : Mem} (h : same 138 159 N N1) {js f : Nat → Nat} {m : Nat} (hm : m ≤ 20) (hb : ∀ p, p < m → js (f p) < 2147483648) (hr : ∀ p, p < m → N1.1 160 p = nI (js (f p))) : ∀ k, k ≤ m → dpx N1 (lwv N1 1) (-1) k = dpR N js (pr f k) := by
  intro k
  induction k with
  | zero => intro _; rfl
  | succ k ih =>
    intro hk
    rw [dp_s N1 _ (by omega), ih (by omega), sp_pr h hb hr k (by omega), sp_pr h hb hr (k + 1) hk, lg_s h, lw_s h]
    rfl
theorem cm_pr {N N1 : Mem} (h : same 138 159 N N1) {js f : Nat → Nat} {m : Nat} (hm : m ≤ 20) (hb : ∀ p, p < m → js (f p) < 2147483648) (hr : ∀ p, p < m → N1.1 160 p = nI (js (f p))) {k : Nat} (hk : k < m) : cmx N1 (lwv N1 1) (-1) k = arR N js (f k) (pr f k) := by
  unfold cmx
  rw [dp_pr h hm hb hr k (by omega), sp_pr h hb hr k (by omega), sp_pr h hb hr (k + 1) (by omega), lg_s h, lw_s h]
  rfl
theorem ed_pr {N N1 : Mem} (h : same 138 159 N N1) {js f : Nat → Nat} {m : Nat} (hm : m ≤ 20) (hb : ∀ p, p < m → js (f p) < 2147483648) (hr : ∀ p, p < m → N1.1 160 p = nI (js (f p))) : edx N1 (lwv N1 1) m = enR N js (pr f m) := by
  cases m with
  | zero => rfl
  | succ k =>
    rw [ed_n, cm_pr h hm hb hr (by omega)]
    rfl
theorem rt_L {c : Nat} {C N N1 : Mem} (hR : Rel c C N1) (h : same 138 159 N N1) {js f : Nat → Nat} {m : Nat} (hm : m ≤ 20) (hT : TP N1 m) (hb : ∀ p, p < m → js (f p) < 2147483648) (hr : ∀ p, p < m → N1.1 160 p = nI (js (f p))) {a : Int32} (a1 : 0 ≤ a.toInt) (a2 : a.toInt < (N1.1 156 2).toInt) : ∀ (n k : Nat), k + n = m → ∀ F, n < F → fm_riskOfTour_L17 N1 a (nI m) F (rkR N (ix a) js (pr f k)) (dpx N1 (lwv N1 1) (-1) k) (spx N1 k) (nI k) = some (rkR N (ix a) js (pr f m)) := by
  have L := LeapOK.of hR
  have u0 := L.u0
  have tm := t_nI (show m < 2147483648 by omega)
  intro n
  induction n with
  | zero =>
    intro k hk F hF
    obtain ⟨F, rfl⟩ : ∃ m, F = m + 1 := ⟨F - 1, by omega⟩
    obtain rfl : k = m := by omega
    rw [fm_riskOfTour_L17, if_pos (by rw [t_le]; omega)]
  | succ n ih =>
    intro k hk F hF
    obtain ⟨F, rfl⟩ : ∃ m, F = m + 1 := ⟨F - 1, by omega⟩
    have tk := t_nI (show k < 2147483648 by omega)
    have xk := ix_nI (show k < 2147483648 by omega)
    obtain ⟨y1, y2⟩ := hT.2 k (by omega)
    have hin : inb (nI k) 20 := b_in (by omega) (by omega)
    have hin2 : inb (N1.1 160 k) 20 := b_in (by omega) (by omega)
    have hcb := cmx_b L hT L.lb.2.1 (-1) (show k < m by omega)
    have hhb := hr_b hcb.1
    have rm := risk_m hR a1 a2 y1 y2 hhb.1 hhb.2
    rw [fm_riskOfTour_L17, if_neg (by rw [t_le]; omega)]
    simp only [gd_t hin, xk, gd_t hin2, L.gm1, Option.bind_some, ilet_e, nI_1, hr_m]
    rw [← spx_s N1 k, show dpx N1 (lwv N1 1) (-1) k + lgx N1 (spx N1 k) (spx N1 (k + 1)) (lwv N1 1) = cmx N1 (lwv N1 1) (-1) k from rfl, rm, Option.bind_some, show cmx N1 (lwv N1 1) (-1) k + 1 = dpx N1 (lwv N1 1) (-1) (k + 1) from (dp_s N1 _ (by omega)).symm, rk_s h, cm_pr h hm hb hr (by omega), hr k (by omega), ix_nI (hb k (by omega)), rkR_e]
    exact ih (k + 1) (by omega) F (by omega)
theorem b115_L {b1 b3 b4 b6 b7 : Int32} {kx : Mem → Option (Int32 × Mem)} {n : Nat} (hn : n ≤ 6) {js f : Nat → Nat} (hf : ∀ i, i < n → f i < n) : ∀ (m k : Nat), k + m = n → ∀ N : Mem, (∀ i, i < n → N.1 161 i = nI (f i)) → (∀ i, i < n → N.1 162 i = nI (js i)) → ∀ F, m < F → ∃ N', fm_best_L115 b1 b3 b4 (nI n) b6 b7 kx F (nI k) N = kx N' ∧ (∀ q, q ≠ 160 → N'.1 q = N.1 q) ∧ N'.2 = N.2 ∧ (∀ i, i < k → N'.1 160 i = N.1 160 i) ∧ ∀ i, k ≤ i → i < n → N'.1 160 i = nI (js (f i)) := by
  intro m
  have tn := t_nI (show n < 2147483648 by omega)
  induction m with
  | zero =>
    intro k hk N h1 h2 F hF
    obtain ⟨F, rfl⟩ : ∃ m, F = m + 1 := ⟨F - 1, by omega⟩
    have tk := t_nI (show k < 2147483648 by omega)
    exact ⟨N, by rw [fm_best_L115, if_pos (by rw [t_le]; omega)], fun _ _ => rfl, rfl, fun _ _ => rfl, fun i x y => by omega⟩
  | succ m ih =>
    intro k hk N h1 h2 F hF
    obtain ⟨F, rfl⟩ : ∃ m, F = m + 1 := ⟨F - 1, by omega⟩
    have tk := t_nI (show k < 2147483648 by omega)
    have xk := ix_nI (show k < 2147483648 by omega)
    have fk := hf k (by omega)
    obtain ⟨N', r1, r2, r3, r4, r5⟩ := ih (k + 1) (by omega) (wI N 160 k (nI (js (f k)))) (fun i hi => by rw [mem_fst (by omega)]; exact h1 i hi) (fun i hi => by rw [mem_fst (by omega)]; exact h2 i hi) F (by omega)
    refine ⟨N', ?_, fun q hq => (r2 q hq).trans (wI_row _ _ _ _ hq), r3, fun i hi => (r4 i (by omega)).trans (mem_fst (by omega)), fun i x y => ?_⟩
    · rw [fm_best_L115, if_neg (by rw [t_le]; omega), gd_t (b_in (by omega) (by omega)), xk, h1 k (by omega), gd_t (b_in (by rw [t_nI (by omega)]; omega) (by rw [t_nI (by omega)]; omega)), gd_t (b_in (by omega) (by omega)), mlet_e, ix_nI (by omega), h2 _ fk, nI_1, r1]
    · by_cases e : i = k
      · rw [e, r4 k (by omega), wI_s]
      · exact r5 i (by omega) y
theorem b207_L {b1 b3 b4 b6 b7 : Int32} {kx : Mem → Option (Int32 × Mem)} {n : Nat} (hn : n ≤ 6) : ∀ (m k : Nat), k + m = n → ∀ N : Mem, ∀ F, m < F → ∃ N', fm_best_L207 b1 b3 b4 (nI n) b6 b7 kx F (nI k) N = kx N' ∧ (∀ q, q ≠ 163 → N'.1 q = N.1 q) ∧ N'.2 = N.2 ∧ (∀ i, i < k → N'.1 163 i = N.1 163 i) ∧ ∀ i, k ≤ i → i < n → N'.1 163 i = N.1 160 i := by
  intro m
  have tn := t_nI (show n < 2147483648 by omega)
  induction m with
  | zero =>
    intro k hk N F hF
    obtain ⟨F, rfl⟩ : ∃ m, F = m + 1 := ⟨F - 1, by omega⟩
    have tk := t_nI (show k < 2147483648 by omega)
    exact ⟨N, by rw [fm_best_L207, if_pos (by rw [t_le]; omega)], fun _ _ => rfl, rfl, fun _ _ => rfl, fun i x y => by omega⟩
  | succ m ih =>
    intro k hk N F hF
    obtain ⟨F, rfl⟩ : ∃ m, F = m + 1 := ⟨F - 1, by omega⟩
    have tk := t_nI (show k < 2147483648 by omega)
    have xk := ix_nI (show k < 2147483648 by omega)
    obtain ⟨N', r1, r2, r3, r4, r5⟩ := ih (k + 1) (by omega) (wI N 163 k (N.1 160 k)) F (by omega)
    refine ⟨N', ?_, fun q hq => (r2 q hq).trans (wI_row _ _ _ _ hq), r3, fun i hi => (r4 i (by omega)).trans (mem_fst (by omega)), fun i x y => ?_⟩
    · rw [fm_best_L207, if_neg (by rw [t_le]; omega), gd_t (b_in (by omega) (by omega)), gd_t (b_in (by omega) (by omega)), mlet_e, xk, nI_1, r1]
    · by_cases e : i = k
      · rw [e, r4 k (by omega), wI_s]
      · rw [r5 i (by omega) y, mem_fst (by omega)]
theorem b82_L {b1 b3 b4 : Int32} {kx : Mem → Option (Int32 × Mem)} {n : Nat} (hn : n ≤ 6) : ∀ (m k : Nat), k + m = n → ∀ N : Mem, ∀ F, m < F → ∃ N', fm_best_L82 b1 b3 b4 (nI n) kx F (nI k) N = kx N' ∧ (∀ q, q ≠ 161 → N'.1 q = N.1 q) ∧ N'.2 = N.2 ∧ (∀ i, i < k → N'.1 161 i = N.1 161 i) ∧ ∀ i, k ≤ i → i < n → N'.1 161 i = nI i := by
  intro m
  have tn := t_nI (show n < 2147483648 by omega)
  induction m with
  | zero =>
    intro k hk N F hF
    obtain ⟨F, rfl⟩ : ∃ m, F = m + 1 := ⟨F - 1, by omega⟩
    have tk := t_nI (show k < 2147483648 by omega)
    exact ⟨N, by rw [fm_best_L82, if_pos (by rw [t_le]; omega)], fun _ _ => rfl, rfl, fun _ _ => rfl, fun i x y => by omega⟩
  | succ m ih =>
    intro k hk N F hF
    obtain ⟨F, rfl⟩ : ∃ m, F = m + 1 := ⟨F - 1, by omega⟩
    have tk := t_nI (show k < 2147483648 by omega)
    have xk := ix_nI (show k < 2147483648 by omega)
    obtain ⟨N', r1, r2, r3, r4, r5⟩ := ih (k + 1) (by omega) (wI N 161 k (nI k)) F (by omega)
    refine ⟨N', ?_, fun q hq => (r2 q hq).trans (wI_row _ _ _ _ hq), r3, fun i hi => (r4 i (by omega)).trans (mem_fst (by omega)), fun i x y => ?_⟩
    · rw [fm_best_L82, if_neg (by rw [t_le]; omega), gd_t (b_in (by omega) (by omega)), mlet_e, xk, nI_1, r1]
    · by_cases e : i = k
      · rw [e, r4 k (by omega), wI_s]
      · exact r5 i (by omega) y
def MB (N : Mem) (a : Nat) (js : Nat → Nat) (n : Nat) (x6 x7 : Int32) (M : Mem) : Option (List Nat) → Prop
  | none => x6 = -1
  | some s => x6 = rkR N a js s ∧ x7 = enR N js s ∧ (∀ p, p < n → M.1 163 p = nI (js (atR s p))) ∧ s.length = n ∧ ∀ i, i ∈ s → i < n
theorem MB_fr {N : Mem} {a : Nat} {js : Nat → Nat} {n : Nat} {x6 x7 : Int32} {M M' : Mem} {b : Option (List Nat)} (h : MB N a js n x6 x7 M b) (h1 : M'.1 163 = M.1 163) : MB N a js n x6 x7 M' b := by
  cases b with
  | none => exact h
  | some s => unfold MB at h ⊢; rw [h1]; exact h
theorem one_o {c : Nat} {C N0 : Mem} (hR : Rel c C N0) {av lim b4 : Int32} (a1 : 0 ≤ av.toInt) (a2 : av.toInt < (N0.1 156 2).toInt) {js : Nat → Nat} {n : Nat} (hn : n ≤ 6) (hj : ∀ i, i < n → (js i : Int) < (N0.1 156 0).toInt) {kx : Int32 → Int32 → Mem → Option (Int32 × Mem)} {r : List Nat} (hl : r.length = n) (hi : ∀ i, i ∈ r → i < n) {b : Option (List Nat)} {x6 x7 : Int32} {N : Mem} (hs : same 138 159 N0 N) (h2 : ∀ i, i < n → N.1 162 i = nI (js i)) (hw : RW n r.reverse N) (hb : MB N0 (ix av) js n x6 x7 N b) (F : Nat) : ∃ x6' x7' N', fm_best_L107 av lim b4 (nI n) kx (F + 1) x6 x7 1 N = Option.bind (fm_nextOrder N' (nI n)) (fun u19 => (fm_best_L107 av lim b4 (nI n) kx F x6' x7' u19.1 u19.2)) ∧ same 138 159 N0 N' ∧ N'.1 161 = N.1 161 ∧ N'.1 162 = N.1 162 ∧ MB N0 (ix av) js n x6' x7' N' (stp N0 (ix av) js lim b r) := by
  have L := LeapOK.of hR
  have u0 := L.u0
  have fr : ∀ i, i < n → atR r i < n := fun i h => hi _ (at_in r i (by omega))
  obtain ⟨N1, r1, r2, r3, -, r5⟩ := b115_L (b1 := av) (b3 := lim) (b4 := b4) (b6 := x6) (b7 := x7) (kx := (fun M16 => (Option.bind (fm_endOfTour M16 (nI n)) (fun r17 => (jlet (fun z234 : Int32 × Int32 × Mem => (Option.bind (fm_nextOrder (z234.2.2) (nI n)) (fun u19 => (fm_best_L107 av lim b4 (nI n) kx F (z234.1) (z234.2.1) u19.1 u19.2)))) (fun J234 => (if lim < r17 then (J234 (x6, x7, M16)) else (Option.bind (fm_riskOfTour M16 av (nI n)) (fun r20 => (jlet (fun z196 : Unit => (fm_best_L207 av lim b4 (nI n) r20 r17 (fun M24 => (J234 (r20, r17, M24))) FU 0 M16)) (fun J196 => (if x6 < 0 then (J196 ()) else (if r20 < x6 then (J196 ()) else (if r20 = x6 then (if x7 ≤ r17 then (J234 (x6, x7, M16)) else (J196 ())) else (J234 (x6, x7, M16)))))))))))))))) hn (js := js) fr n 0 (by omega) N (fun i h => by rw [hw.2.2 i h, at_rev r i (by omega)]) h2 FU (by rw [FU_eq]; omega)
  have s1 : same 138 159 N0 N1 := same_t hs (same_of r2 r3 (by omega))
  have hR1 : Rel c C N1 := Rel_same0 hR same_r rfl rfl s1
  have hrow : ∀ p, p < n → N1.1 160 p = nI (js (atR r p)) := fun p hp => r5 p (by omega) hp
  have hjb : ∀ p, p < n → js (atR r p) < 2147483648 := fun p hp => by have := hj _ (fr p hp); omega
  have hT : TP N1 n := ⟨by omega, fun i h => by
    have := hj _ (fr i h)
    rw [hrow i h, t_nI (hjb i h), (s1 156 (by omega) (by omega)).1]
    omega⟩
  have en : fm_endOfTour N1 (nI n) = some (enR N0 js r) := by
    unfold fm_endOfTour
    have := end_m hR1 hT n 0 (by omega) FU (by rw [FU_eq]; omega)
    rw [ed_pr s1 (by omega) hjb hrow, show n = r.length from hl.symm, pr_at] at this
    rw [← hl, ilet_e]
    exact this
  have rk : fm_riskOfTour N1 av (nI n) = some (rkR N0 (ix av) js r) := by
    unfold fm_riskOfTour
    have := rt_L hR1 s1 (by omega) hT hjb hrow a1 (by rw [(s1 156 (by omega) (by omega)).1]; exact a2) n 0 (by omega) FU (by rw [FU_eq]; omega)
    rw [show n = r.length from hl.symm, pr_at] at this
    rw [← hl, ilet_e]
    exact this
  rw [fm_best_L107, if_neg (show ¬ (1 : Int32) = 0 by decide)]
  rw [show nI 0 = 0 from rfl] at r1
  rw [r1, en, Option.bind_some, jlet_e]
  have e161 : N1.1 161 = N.1 161 := r2 161 (by omega)
  have e162 : N1.1 162 = N.1 162 := r2 162 (by omega)
  have hb1 : MB N0 (ix av) js n x6 x7 N1 b := MB_fr hb (r2 163 (by omega))
  obtain ⟨N2, g1, g2, g3, -, g5⟩ := b207_L (b1 := av) (b3 := lim) (b4 := b4) (b6 := rkR N0 (ix av) js r) (b7 := enR N0 js r) (kx := fun M24 => (Option.bind (fm_nextOrder M24 (nI n)) (fun u19 => (fm_best_L107 av lim b4 (nI n) kx F (rkR N0 (ix av) js r) (enR N0 js r) u19.1 u19.2)))) hn n 0 (by omega) N1 FU (by rw [FU_eq]; omega)
  rw [show nI 0 = 0 from rfl] at g1
  by_cases q1 : lim < enR N0 js r
  · rw [if_pos q1, stp, if_neg (by intro z; have z1 := z.1; rw [t_le] at z1; rw [t_lt] at q1; omega)]
    exact ⟨x6, x7, N1, rfl, s1, e161, e162, hb1⟩
  have q1' : enR N0 js r ≤ lim := by rw [t_lt] at q1; rw [t_le]; omega
  rw [if_neg q1, rk, Option.bind_some, jlet_e]
  have yes : betB N0 (ix av) js b r = true → ∃ x6' x7' N', fm_best_L207 av lim b4 (nI n) (rkR N0 (ix av) js r) (enR N0 js r) (fun M24 => (Option.bind (fm_nextOrder M24 (nI n)) (fun u19 => (fm_best_L107 av lim b4 (nI n) kx F (rkR N0 (ix av) js r) (enR N0 js r) u19.1 u19.2)))) FU 0 N1 = Option.bind (fm_nextOrder N' (nI n)) (fun u19 => (fm_best_L107 av lim b4 (nI n) kx F x6' x7' u19.1 u19.2)) ∧ same 138 159 N0 N' ∧ N'.1 161 = N.1 161 ∧ N'.1 162 = N.1 162 ∧ MB N0 (ix av) js n x6' x7' N' (stp N0 (ix av) js lim b r) := fun z => by
    rw [stp, if_pos ⟨q1', z⟩]
    exact ⟨_, _, N2, g1, same_t s1 (same_of g2 g3 (by omega)), (g2 161 (by omega)).trans e161, (g2 162 (by omega)).trans e162, rfl, rfl, fun p hp => by rw [g5 p (by omega) hp]; exact hrow p hp, hl, hi⟩
  have no : ¬ betB N0 (ix av) js b r = true → ∃ x6' x7' N', Option.bind (fm_nextOrder N1 (nI n)) (fun u19 => (fm_best_L107 av lim b4 (nI n) kx F x6 x7 u19.1 u19.2)) = Option.bind (fm_nextOrder N' (nI n)) (fun u19 => (fm_best_L107 av lim b4 (nI n) kx F x6' x7' u19.1 u19.2)) ∧ same 138 159 N0 N' ∧ N'.1 161 = N.1 161 ∧ N'.1 162 = N.1 162 ∧ MB N0 (ix av) js n x6' x7' N' (stp N0 (ix av) js lim b r) := fun z => by
    rw [stp, if_neg (fun y => z y.2)]
    exact ⟨x6, x7, N1, rfl, s1, e161, e162, hb1⟩
  cases b with
  | none =>
    rw [if_pos (show x6 < 0 by rw [show x6 = -1 from hb]; decide)]
    exact yes rfl
  | some s =>
    obtain ⟨k1, k2, -, k4, k5⟩ := id hb
    have kb := (OB.of L (ix av) hj s (by omega) k5).2.1
    have bt : betB N0 (ix av) js (some s) r = true ↔ (rkR N0 (ix av) js r < x6 ∨ (rkR N0 (ix av) js r = x6 ∧ enR N0 js r < x7)) := by
      simp only [betB, Bool.or_eq_true, Bool.and_eq_true, decide_eq_true_eq, k1, k2]
    rw [if_neg (show ¬ x6 < 0 by rw [t_lt, k1, li_0]; have := kb.1; omega)]
    by_cases w1 : rkR N0 (ix av) js r < x6
    · rw [if_pos w1]
      exact yes (bt.mpr (Or.inl w1))
    rw [if_neg w1]
    by_cases w2 : rkR N0 (ix av) js r = x6
    · rw [if_pos w2]
      by_cases w3 : x7 ≤ enR N0 js r
      · rw [if_pos w3]
        refine no (fun z => ?_)
        rcases bt.mp z with z | z
        · exact w1 z
        · have z2 := z.2
          rw [t_lt] at z2
          rw [t_le] at w3
          omega
      · rw [if_neg w3]
        refine yes (bt.mpr (Or.inr ⟨w2, ?_⟩))
        rw [t_le] at w3
        rw [t_lt]
        omega
    · rw [if_neg w2]
      refine no (fun z => ?_)
      rcases bt.mp z with z | z
      · exact w1 z
      · exact w2 z.1
theorem perm_L {c : Nat} {C N0 : Mem} (hR : Rel c C N0) {av lim b4 : Int32} (a1 : 0 ≤ av.toInt) (a2 : av.toInt < (N0.1 156 2).toInt) {js : Nat → Nat} {n : Nat} (hn : n ≤ 6) (hj : ∀ i, i < n → (js i : Int) < (N0.1 156 0).toInt) {kx : Int32 → Int32 → Mem → Option (Int32 × Mem)} : ∀ (L : List (List Nat)) (r : List Nat), chn n (r :: L) = true → (∀ p, p ∈ r :: L → p.length = n ∧ ∀ i, i ∈ p → i < n) → ∀ (b : Option (List Nat)) (x6 x7 : Int32) (N : Mem), same 138 159 N0 N → (∀ i, i < n → N.1 162 i = nI (js i)) → RW n r.reverse N → MB N0 (ix av) js n x6 x7 N b → ∀ F, L.length + 1 < F → ∃ x6' x7' N', fm_best_L107 av lim b4 (nI n) kx F x6 x7 1 N = kx x6' x7' N' ∧ same 138 159 N0 N' ∧ MB N0 (ix av) js n x6' x7' N' (fo N0 (ix av) js lim b (r :: L)) := by
  intro L
  induction L with
  | nil =>
    intro r hc hp b x6 x7 N hs h2 hw hb F hF
    obtain ⟨F, rfl⟩ : ∃ m, F = m + 1 + 1 := ⟨F - 2, by simp only [List.length_nil] at hF; omega⟩
    obtain ⟨l1, l2⟩ := hp r (List.mem_cons_self ..)
    obtain ⟨y6, y7, N1, r1, r2, r3, r4, r5⟩ := one_o hR (lim := lim) (b4 := b4) a1 a2 hn hj (kx := kx) l1 l2 hs h2 hw hb (F + 1)
    have hw1 : RW n r.reverse N1 := ⟨hw.1, hw.2.1, by rw [r3]; exact hw.2.2⟩
    rw [r1]
    rcases next_e hn hw1 with ⟨z1, z2⟩ | ⟨l', N', z1, -⟩
    · rw [z2, Option.bind_some]
      exact ⟨y6, y7, N1, by rw [fm_best_L107, if_pos rfl], r2, r5⟩
    · simp [chn, z1] at hc
  | cons s t ih =>
    intro r hc hp b x6 x7 N hs h2 hw hb F hF
    rw [List.length_cons] at hF
    obtain ⟨F, rfl⟩ : ∃ m, F = m + 1 := ⟨F - 1, by omega⟩
    obtain ⟨l1, l2⟩ := hp r (List.mem_cons_self ..)
    obtain ⟨y6, y7, N1, r1, r2, r3, r4, r5⟩ := one_o hR (lim := lim) (b4 := b4) a1 a2 hn hj (kx := kx) l1 l2 hs h2 hw hb F
    have hw1 : RW n r.reverse N1 := ⟨hw.1, hw.2.1, by rw [r3]; exact hw.2.2⟩
    rw [chn, Bool.and_eq_true] at hc
    obtain ⟨hc1, hc2⟩ := hc
    have hc3 : nxt n r.reverse = some s.reverse := by simpa using hc1
    rw [r1]
    rcases next_e hn hw1 with ⟨z1, z2⟩ | ⟨l', N', z1, z2, z3, z4, z5⟩
    · rw [z1] at hc3; exact absurd hc3 (by simp)
    · rw [z1, Option.some.injEq] at hc3
      rw [hc3] at z5
      rw [z2, Option.bind_some]
      exact ih s hc2 (fun p hq => hp p (List.mem_cons_of_mem _ hq)) _ y6 y7 N' (same_t r2 (same_of z3 z4 (by omega))) (fun i h => by rw [z3 162 (by omega), r4]; exact h2 i h) z5 (MB_fr r5 (z3 163 (by omega))) F (by omega)
