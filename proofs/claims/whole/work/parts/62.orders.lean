-- orders: what the best of them is
def spR (N : Mem) (js : Nat → Nat) : List Nat → Int32
  | [] => N.1 156 7
  | i :: _ => N.1 143 (js i)
def dpR (N : Mem) (js : Nat → Nat) : List Nat → Int32
  | [] => 0
  | i :: r => dpR N js r + lgx N (spR N js r) (N.1 143 (js i)) (lwv N 1) + 1
def arR (N : Mem) (js : Nat → Nat) (i : Nat) (r : List Nat) : Int32 := dpR N js r + lgx N (spR N js r) (N.1 143 (js i)) (lwv N 1)
def rkR (N : Mem) (a : Nat) (js : Nat → Nat) : List Nat → Int32
  | [] => 0
  | i :: r => rkR N a js r + rkx N a (js i) (ix (hrx (arR N js i r)))
def enR (N : Mem) (js : Nat → Nat) : List Nat → Int32
  | [] => 0
  | i :: r => arR N js i r
def atR : List Nat → Nat → Nat
  | [], _ => 0
  | i :: r, p => if p = r.length then i else atR r p
def exL (f : Nat → List (List Nat)) (r : List Nat) : Nat → Nat → List (List Nat)
  | 0, _ => []
  | m + 1, k => (if k ∈ r then [] else f k) ++ exL f r m (k + 1)
/-- all orders of n that begin with r (told backwards), d being left -/
def ext (n : Nat) : Nat → List Nat → List (List Nat)
  | 0, r => [r]
  | d + 1, r => exL (fun i => ext n d (i :: r)) r n 0
def betB (N : Mem) (a : Nat) (js : Nat → Nat) : Option (List Nat) → List Nat → Bool
  | none, _ => true
  | some s, r => decide (rkR N a js r < rkR N a js s) || (decide (rkR N a js r = rkR N a js s) && decide (enR N js r < enR N js s))
def stp (N : Mem) (a : Nat) (js : Nat → Nat) (lim : Int32) (b : Option (List Nat)) (r : List Nat) : Option (List Nat) := if enR N js r ≤ lim ∧ betB N a js b r = true then some r else b
def fo (N : Mem) (a : Nat) (js : Nat → Nat) (lim : Int32) : Option (List Nat) → List (List Nat) → Option (List Nat)
  | b, [] => b
  | b, r :: t => fo N a js lim (stp N a js lim b r) t
theorem fo_app {N : Mem} {a : Nat} {js : Nat → Nat} {lim : Int32} : ∀ (x y : List (List Nat)) (b : Option (List Nat)), fo N a js lim b (x ++ y) = fo N a js lim (fo N a js lim b x) y := by
  intro x
  induction x with
  | nil => intro y b; rfl
  | cons r t ih => intro y b; exact ih y _
theorem fo_skip {N : Mem} {a : Nat} {js : Nat → Nat} {lim : Int32} : ∀ (x : List (List Nat)) (b : Option (List Nat)), (∀ p, p ∈ x → ¬ (enR N js p ≤ lim ∧ betB N a js b p = true)) → fo N a js lim b x = b := by
  intro x
  induction x with
  | nil => intro b _; rfl
  | cons r t ih =>
    intro b h
    have h1 := h r (List.mem_cons_self ..)
    rw [fo, stp, if_neg h1]
    exact ih b (fun p hp => h p (List.mem_cons_of_mem _ hp))
/-- the bounds that the order's numbers keep -/
def OB (N : Mem) (a : Nat) (js : Nat → Nat) (n : Nat) : Prop := ∀ r : List Nat, r.length ≤ 6 → (∀ i, i ∈ r → i < n) → bd (dpR N js r) 0 (271 * r.length) ∧ bd (rkR N a js r) 0 (1000 * r.length) ∧ bd (spR N js r) 0 255
theorem OB.of {C N : Mem} (L : LeapOK C N) (a : Nat) {js : Nat → Nat} {n : Nat} (hj : ∀ i, i < n → (js i : Int) < (N.1 156 0).toInt) : OB N a js n := by
  intro r
  induction r with
  | nil =>
    intro _ _
    have z : bd (0 : Int32) 0 0 := ⟨by decide, by decide⟩
    exact ⟨z, z, L.1.2.2.2.2.2.2.1.2⟩
  | cons i r ih =>
    intro h1 h2
    rw [List.length_cons] at h1
    obtain ⟨a1, a2, a3⟩ := ih (by omega) (fun j hj => h2 j (List.mem_cons_of_mem _ hj))
    have b1 := (L.2.1 (js i) (hj i (h2 i (List.mem_cons_self ..)))).2.1.2
    have b2 := lg_b L.lb a3 b1 L.lb.2.1
    have b3 := rkx_b N a (js i) (ix (hrx (arR N js i r)))
    rw [List.length_cons]
    refine ⟨?_, ?_, b1⟩
    · rw [dpR]
      exact bd_add (bd_add a1 b2 (u := 0) (v := 271 * r.length + 270) (by omega) (by omega) (by omega) (by omega)) bd_1 (by omega) (by omega) (by omega) (by omega)
    · rw [rkR]
      exact bd_add a2 b3 (by omega) (by omega) (by omega) (by omega)
theorem OB.st {C N : Mem} (L : LeapOK C N) {a : Nat} {js : Nat → Nat} {n : Nat} (hj : ∀ i, i < n → (js i : Int) < (N.1 156 0).toInt) {i : Nat} {r : List Nat} (h1 : r.length < 6) (h2 : ∀ j, j ∈ i :: r → j < n) : (dpR N js r).toInt ≤ (arR N js i r).toInt ∧ (arR N js i r).toInt ≤ 2000 ∧ (dpR N js (i :: r)).toInt = (arR N js i r).toInt + 1 ∧ (rkR N a js r).toInt ≤ (rkR N a js (i :: r)).toInt ∧ (rkR N a js (i :: r)).toInt ≤ 6000 ∧ 0 ≤ (dpR N js r).toInt ∧ 0 ≤ (rkR N a js r).toInt := by
  obtain ⟨a1, a2, a3⟩ := OB.of L a hj r (by omega) (fun j hj => h2 j (List.mem_cons_of_mem _ hj))
  have b1 := (L.2.1 (js i) (hj i (h2 i (List.mem_cons_self ..)))).2.1.2
  obtain ⟨b2, b3⟩ := lg_b L.lb a3 b1 L.lb.2.1
  obtain ⟨b4, b5⟩ := rkx_b N a (js i) (ix (hrx (arR N js i r)))
  obtain ⟨c1, c2⟩ := a1
  obtain ⟨c3, c4⟩ := a2
  have e1 : (arR N js i r).toInt = (dpR N js r).toInt + (lgx N (spR N js r) (N.1 143 (js i)) (lwv N 1)).toInt := t_add (by omega) (by omega)
  have e2 : (rkR N a js (i :: r)).toInt = (rkR N a js r).toInt + (rkx N a (js i) (ix (hrx (arR N js i r)))).toInt := t_add (by omega) (by omega)
  have e3 : (dpR N js (i :: r)).toInt = (arR N js i r).toInt + 1 := by
    show (arR N js i r + 1).toInt = _
    rw [t_add (by rw [li_1]; omega) (by rw [li_1]; omega), li_1]
  exact ⟨by omega, by omega, e3, by omega, by omega, c1, c3⟩
theorem exL_mem {f : Nat → List (List Nat)} {r p : List Nat} : ∀ (m k : Nat), p ∈ exL f r m k → ∃ i, k ≤ i ∧ i < k + m ∧ i ∉ r ∧ p ∈ f i := by
  intro m
  induction m with
  | zero => intro k h; simp [exL] at h
  | succ m ih =>
    intro k h
    rw [exL, List.mem_append] at h
    rcases h with h | h
    · by_cases z : k ∈ r
      · rw [if_pos z] at h; simp at h
      · rw [if_neg z] at h
        exact ⟨k, by omega, by omega, z, h⟩
    · obtain ⟨i, h1, h2, h3, h4⟩ := ih (k + 1) h
      exact ⟨i, by omega, by omega, h3, h4⟩
theorem ext_mono {C N : Mem} (L : LeapOK C N) {a : Nat} {js : Nat → Nat} {n : Nat} (hj : ∀ i, i < n → (js i : Int) < (N.1 156 0).toInt) : ∀ (d : Nat) (r p : List Nat), r.length + d ≤ 6 → (∀ i, i ∈ r → i < n) → p ∈ ext n d r → (enR N js r).toInt ≤ (enR N js p).toInt ∧ (rkR N a js r).toInt ≤ (rkR N a js p).toInt := by
  intro d
  induction d with
  | zero =>
    intro r p _ _ hp
    rw [ext, List.mem_singleton] at hp
    rw [hp]
    exact ⟨Int.le_refl _, Int.le_refl _⟩
  | succ d ih =>
    intro r p h1 h2 hp
    rw [ext] at hp
    obtain ⟨i, i1, i2, i3, i4⟩ := exL_mem n 0 hp
    have h3 : ∀ j, j ∈ i :: r → j < n := fun j hj => by
      rcases List.mem_cons.mp hj with z | z
      · omega
      · exact h2 j z
    obtain ⟨b1, b2⟩ := ih (i :: r) p (by rw [List.length_cons]; omega) h3 i4
    obtain ⟨s1, -, -, s4, -, s6, -⟩ := OB.st L (a := a) hj (by omega) h3
    refine ⟨?_, by omega⟩
    have s1' : (dpR N js r).toInt ≤ (enR N js (i :: r)).toInt := s1
    clear ih b2 hp i3 i4 s4
    cases r with
    | nil =>
      have y : (enR N js []).toInt = 0 := rfl
      have z : (dpR N js []).toInt = 0 := rfl
      omega
    | cons k t =>
      rw [List.length_cons] at h1
      obtain ⟨-, -, z, -⟩ := OB.st L (a := a) hj (i := k) (r := t) (by omega) h2
      have y : (enR N js (k :: t)).toInt = (arR N js k t).toInt := rfl
      omega
theorem bet_mono {N : Mem} {a : Nat} {js : Nat → Nat} {b : Option (List Nat)} {r p : List Nat} (h1 : (enR N js r).toInt ≤ (enR N js p).toInt) (h2 : (rkR N a js r).toInt ≤ (rkR N a js p).toInt) (h : betB N a js b p = true) : betB N a js b r = true := by
  cases b with
  | none => rfl
  | some s =>
    simp only [betB, Bool.or_eq_true, Bool.and_eq_true, decide_eq_true_eq, t_lt, t_eq] at h ⊢
    omega
theorem fo_cut {C N : Mem} (L : LeapOK C N) {a : Nat} {js : Nat → Nat} {n : Nat} (hj : ∀ i, i < n → (js i : Int) < (N.1 156 0).toInt) {lim : Int32} {b : Option (List Nat)} {d : Nat} {r : List Nat} (h1 : r.length + d ≤ 6) (h2 : ∀ i, i ∈ r → i < n) (h : ¬ (enR N js r ≤ lim ∧ betB N a js b r = true)) : fo N a js lim b (ext n d r) = b := by
  refine fo_skip _ _ (fun p hp z => h ?_)
  obtain ⟨m1, m2⟩ := ext_mono L (a := a) hj d r p h1 h2 hp
  refine ⟨?_, bet_mono m1 m2 z.2⟩
  have := z.1
  rw [t_le] at this ⊢
  omega
theorem ext_len {n : Nat} : ∀ (d : Nat) (r p : List Nat), p ∈ ext n d r → p.length = r.length + d := by
  intro d
  induction d with
  | zero =>
    intro r p hp
    rw [ext, List.mem_singleton] at hp
    rw [hp]
    rfl
  | succ d ih =>
    intro r p hp
    rw [ext] at hp
    obtain ⟨i, i1, i2, i3, i4⟩ := exL_mem n 0 hp
    rw [ih _ p i4, List.length_cons]
    omega
theorem ext_in {n : Nat} : ∀ (d : Nat) (r p : List Nat), (∀ i, i ∈ r → i < n) → p ∈ ext n d r → ∀ i, i ∈ p → i < n := by
  intro d
  induction d with
  | zero =>
    intro r p hr hp
    rw [ext, List.mem_singleton] at hp
    rw [hp]
    exact hr
  | succ d ih =>
    intro r p hr hp
    rw [ext] at hp
    obtain ⟨i, i1, i2, i3, i4⟩ := exL_mem n 0 hp
    exact ih (i :: r) p (fun j hj => by
      rcases List.mem_cons.mp hj with z | z
      · omega
      · exact hr j z) i4
theorem risk_n {c : Nat} {C N : Mem} (h : RN c C N) {a j q : Int32} (a1 : 0 ≤ a.toInt) (a2 : a.toInt < (N.1 156 2).toInt) (j1 : 0 ≤ j.toInt) (j2 : j.toInt < (N.1 156 0).toInt) (q1 : 0 ≤ q.toInt) (q2 : q.toInt < 12) : fLake_riskOf C a j q = some (rkx N (ix a) (ix j) (ix q)) := by
  have L : LeapOK C N := ⟨h.1, h.2.1, h.2.2.1, h.2.2.2.1⟩
  obtain ⟨hS, hJ, hL, hF, hA, hP, hW, hV⟩ := id h
  have u2 : (N.1 156 2).toInt ≤ 6 := hS.2.2.1.2.2
  have u0 := L.u0
  have ia := t_ix a1
  have ij := t_ix j1
  have iq := t_ix q1
  obtain ⟨-, -, -, -, w1, w2⟩ := hJ (ix j) (by omega)
  obtain ⟨⟨s1, -⟩, -⟩ := hA (ix a) (by omega)
  have wn := (hW (ix q) (by omega)).1
  unfold fLake_riskOf rkx
  rw [gd_t (b_in j1 (by omega)), L.hc (by omega), show (4 : Int32) = nI 4 from rfl, show (5 : Int32) = nI 5 from rfl, show (6 : Int32) = nI 6 from rfl, show (7 : Int32) = nI 7 from rfl, L.lc (by omega), L.lc (by omega), L.lc (by omega), L.lc (by omega), rsx_c hJ (by omega), dkx_c hS.2.2.2.2.2.1.1, hS.2.2.2.2.1.1, w1, wn, s1]
  simp only [Option.bind_some, jlet_e, ilet_e, gd_t (b_in q1 (show q.toInt < (12 : Nat) by omega)), gd_t (b_in a1 (show a.toInt < (6 : Nat) by omega)), clx_c]
  unfold hpx
  by_cases o : outx N (ix j) (N.1 156 5) = 0
  · rw [if_pos o, if_pos o]
    by_cases t : tmx N (ix j) (lwv N 1) = 0
    · rw [if_pos t, if_pos t, if_neg (by decide)]
    · rw [if_neg t, if_neg t, if_pos rfl]
      rcases isB_of w2 with z | z
      · rw [if_pos z, z, Int32.mul_zero]
        rfl
      · rw [if_neg (by rw [z]; decide), z, Int32.mul_one]
        rfl
  · rw [if_neg o, if_neg o, if_neg (by decide)]
