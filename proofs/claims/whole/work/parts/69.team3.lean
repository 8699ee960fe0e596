-- the reference's walk over all teams
def lI (n : Nat) : Int64 := Int64.ofNat n
theorem lI_bv (a : Nat) : (lI a).toBitVec = BitVec.ofNat 64 a := rfl
theorem lI_ad (a b : Nat) : lI a + lI b = lI (a + b) := by
  apply Int64.toBitVec_inj.mp
  rw [Int64.toBitVec_add, lI_bv, lI_bv, lI_bv, BitVec.ofNat_add]
theorem sh_l : ∀ v, v < 6 → (1 : Int64) <<< (Int32.toInt64 ((4 : Int32) * nI v) &&& 63) = lI (16 ^ v) := by decide
theorem sh_64 : ∀ v, v < 6 → (Int32.toInt64 ((4 : Int32) * nI v) &&& 63).toBitVec.smod 64 = BitVec.ofNat 64 (4 * v) := by decide
theorem lI_t {a : Nat} (h : a < 9223372036854775808) : (lI a).toInt = a := Int64.toInt_ofNat_of_lt (by omega)
theorem lI_nib {V k : Nat} (hV : V < 9223372036854775808) (hk : k < 6) : ((lI V >>> (Int32.toInt64 ((4 : Int32) * nI k) &&& 63)) &&& 15).toInt = (V / 16 ^ k % 16 : Nat) := by
  have e : lI V >>> (Int32.toInt64 ((4 : Int32) * nI k) &&& 63) = lI (V / 16 ^ k) := by
    apply Int64.toInt_inj.mp
    have hl := Nat.div_le_self V (16 ^ k)
    rw [lI_t (show V / 16 ^ k < 9223372036854775808 by omega)]
    show (lI V >>> (Int32.toInt64 ((4 : Int32) * nI k) &&& 63)).toBitVec.toInt = _
    rw [Int64.toBitVec_shiftRight, sh_64 k hk, BitVec.toInt_sshiftRight', BitVec.toNat_ofNat, Nat.mod_eq_of_lt (a := 4 * k) (by omega)]
    show (lI V).toInt >>> (4 * k) = _
    rw [lI_t hV, Int.shiftRight_eq_div_pow, show (16 : Nat) = 2 ^ 4 from rfl, ← Nat.pow_mul]
    simp
  have e2 : ∀ a, lI a &&& 15 = lI (a % 16) := fun a => by
    apply Int64.toBitVec_inj.mp
    show (lI a &&& lI 15).toBitVec = _
    rw [Int64.toBitVec_and, lI_bv, lI_bv, lI_bv, ← BitVec.ofNat_and]
    have := @Nat.and_two_pow_sub_one_eq_mod a 4
    simp only [Nat.reducePow, Nat.reduceSub] at this
    rw [this]
  rw [e, e2, lI_t]
  have := Nat.mod_lt (V / 16 ^ k) (show 0 < 16 by omega)
  omega
def cw : List Nat → Nat
  | [] => 0
  | i :: r => cw r + 16 ^ i
theorem cw_e : ∀ r : List Nat, (∀ i, i ∈ r → i < 6) → cw r = r.count 0 + 16 * r.count 1 + 256 * r.count 2 + 4096 * r.count 3 + 65536 * r.count 4 + 1048576 * r.count 5 := by
  intro r
  induction r with
  | nil => intro _; rfl
  | cons i t ih =>
    intro h
    have hi := h i (List.mem_cons_self ..)
    rw [cw, ih (fun j hj => h j (List.mem_cons_of_mem _ hj)), cnt_c, cnt_c, cnt_c, cnt_c, cnt_c, cnt_c]
    rcases (show i = 0 ∨ i = 1 ∨ i = 2 ∨ i = 3 ∨ i = 4 ∨ i = 5 by omega) with rfl | rfl | rfl | rfl | rfl | rfl <;> simp <;> omega
theorem cw_n {r : List Nat} (h : ∀ i, i ∈ r → i < 6) (hl : r.length ≤ 6) {x : Nat} (hx : x < 6) : cw r / 16 ^ x % 16 = r.count x ∧ cw r < 100000000 := by
  have c0 : r.count 0 ≤ r.length := List.count_le_length
  have c1 : r.count 1 ≤ r.length := List.count_le_length
  have c2 : r.count 2 ≤ r.length := List.count_le_length
  have c3 : r.count 3 ≤ r.length := List.count_le_length
  have c4 : r.count 4 ≤ r.length := List.count_le_length
  have c5 : r.count 5 ≤ r.length := List.count_le_length
  rw [cw_e r h]
  rcases (show x = 0 ∨ x = 1 ∨ x = 2 ∨ x = 3 ∨ x = 4 ∨ x = 5 by omega) with rfl | rfl | rfl | rfl | rfl | rfl <;> simp only [Nat.reducePow] <;> omega
-- greedy
def gr (cap : Nat) : Nat → List Nat
  | 0 => []
  | k + 1 => (k / cap) :: gr cap k
theorem gr_cnt {cap : Nat} (hc : 0 < cap) (x : Nat) : ∀ k, (gr cap k).count x = min cap (k - x * cap) := by
  intro k
  induction k with
  | zero => simp [gr]
  | succ k ih =>
    rw [gr, cnt_c, ih]
    have hd := Nat.div_add_mod k cap
    have hm := Nat.mod_lt k hc
    by_cases z : x = k / cap
    · rw [if_pos z]
      have e : cap * (k / cap) = x * cap := by rw [← z, Nat.mul_comm]
      generalize x * cap = t at e ⊢
      omega
    · rw [if_neg z]
      by_cases y : x < k / cap
      · have : (x + 1) * cap ≤ k / cap * cap := Nat.mul_le_mul_right cap y
        rw [Nat.mul_comm (k / cap) cap, Nat.add_mul, Nat.one_mul] at this
        generalize x * cap = t at this ⊢
        omega
      · have : (k / cap + 1) * cap ≤ x * cap := Nat.mul_le_mul_right cap (by omega)
        rw [Nat.add_mul, Nat.one_mul, Nat.mul_comm (k / cap) cap] at this
        generalize x * cap = t at this ⊢
        omega
theorem gr_in {cap P : Nat} : ∀ k, k ≤ P * cap → ∀ i, i ∈ gr cap k → i < P := by
  intro k
  induction k with
  | zero => intro _ i h; simp [gr] at h
  | succ k ih =>
    intro hk i h
    rw [gr] at h
    rcases List.mem_cons.mp h with z | z
    · rw [z]; exact Nat.div_lt_of_lt_mul (by rw [Nat.mul_comm]; omega)
    · exact ih (by omega) i z
theorem gr_len (cap : Nat) : ∀ k, (gr cap k).length = k := by
  intro k
  induction k with
  | zero => rfl
  | succ k ih => rw [gr, List.length_cons, ih]
theorem foN_none {rk : Nat → Nat → Int32} {P cap n : Nat} : ∀ (m : Nat) (b : Option (List Nat)) (x : Nat), foN rk P cap n b x m = none → b = none ∧ ∀ y, y < m → ¬ feasB P cap (dg P n (x + y)) = true := by
  intro m
  induction m with
  | zero => intro b x h; exact ⟨h, fun y hy => by omega⟩
  | succ m ih =>
    intro b x h
    rw [foN] at h
    obtain ⟨h1, h2⟩ := ih _ _ h
    rw [sT] at h1
    have hb : b = none := by
      by_cases z : feasB P cap (dg P n x) = true ∧ btB rk b (dg P n x) = true
      · rw [if_pos z] at h1; exact absurd h1 (by simp)
      · rw [if_neg z] at h1; exact h1
    subst hb
    have hf : ¬ feasB P cap (dg P n x) = true := fun z => by
      rw [if_pos ⟨z, rfl⟩] at h1
      exact absurd h1 (by simp)
    refine ⟨rfl, fun y hy => ?_⟩
    cases y with
    | zero => rw [Nat.add_zero]; exact hf
    | succ y =>
      have := h2 y (by omega)
      rw [show x + (y + 1) = x + 1 + y by omega]
      exact this
theorem vl_lt {P : Nat} : ∀ r : List Nat, (∀ i, i ∈ r → i < P) → vl P r < P ^ r.length := by
  intro r
  induction r with
  | nil => intro _; rw [vl, List.length_nil, Nat.pow_zero]; omega
  | cons i t ih =>
    intro h
    have hi := h i (List.mem_cons_self ..)
    have ht := ih (fun j hj => h j (List.mem_cons_of_mem _ hj))
    rw [vl, List.length_cons, Nat.pow_succ]
    have : (vl P t + 1) * P ≤ P ^ t.length * P := Nat.mul_le_mul_right P ht
    rw [Nat.add_mul, Nat.one_mul] at this
    omega
/-- there is a team -/
theorem team_some {rk : Nat → Nat → Int32} {P cap n : Nat} (hc : 0 < cap) (hn : n ≤ P * cap) : ∃ s, foN rk P cap n none 0 (P ^ n) = some s := by
  cases h : foN rk P cap n none 0 (P ^ n) with
  | some s => exact ⟨s, rfl⟩
  | none =>
    exfalso
    obtain ⟨-, h2⟩ := foN_none _ _ _ h
    have hin : ∀ i, i ∈ gr cap n → i < P := gr_in n hn
    have hl := vl_lt (gr cap n) hin
    rw [gr_len] at hl
    have := h2 _ hl
    have e := dg_vl (gr cap n) hin
    rw [gr_len] at e
    rw [Nat.zero_add, e] at this
    refine this (feas_e.mpr (fun x hx => ?_))
    rw [gr_cnt hc]
    exact Nat.min_le_left _ _
theorem t148_L {c : Nat} {C N0 : Mem} (hR : Rel c C N0) {q : Int32} (q1 : 0 ≤ q.toInt) (q2 : q.toInt < 12) {js : Nat → Nat} {P n : Nat} (hP : P ≤ 6) (hPn : N0.1 156 2 = nI P) (hn : n ≤ 6) (hj : ∀ p, p < n → (js p : Int) < (N0.1 156 0).toInt) {b2 b4 b5 b6 b7 b8 : Int32} {kx : Int64 → Int32 → Mem → Option (Int32 × Mem)} : ∀ (m : Nat), m ≤ n → (m = 0 ∨ 0 < P) → ∀ (x a : Nat) (t x13 : Int32) (M : Mem), x < 100000 → x13.toInt + 1 = (m : Int) → same 138 159 N0 M → (∀ p, p < n → M.1 162 p = nI (js p)) → ∀ F, m < F → ∃ M', fm_team_L148 b2 q b4 b5 b6 b7 b8 kx F (nI x) (lI a) t x13 M = kx (lI (a + cw (dg P m x))) (t + tR (rk2 N0 js (ix q)) (dg P m x)) M' ∧ (∀ z, z ≠ 161 → M'.1 z = M.1 z) ∧ M'.2 = M.2 ∧ (∀ p, m ≤ p → M'.1 161 p = M.1 161 p) ∧ ∀ p, p < m → M'.1 161 p = nI (atR (dg P m x) p) := by
  intro m
  have tP := t_nI (show P < 2147483648 by omega)
  have u0 : (N0.1 156 0).toInt ≤ 20 := (LeapOK.of hR).u0
  induction m with
  | zero =>
    intro hm hz x a t x13 M hx h13 hs h2 F hF
    obtain ⟨F, rfl⟩ : ∃ m, F = m + 1 := ⟨F - 1, by omega⟩
    exact ⟨M, by rw [fm_team_L148, if_pos (by rw [t_lt, li_0]; omega), dg, cw, tR, Nat.add_zero, Int32.add_zero], fun _ _ => rfl, rfl, fun _ _ => rfl, fun p hp => by omega⟩
  | succ m ih =>
    intro hm hz x a t x13 M hx h13 hs h2 F hF
    obtain ⟨F, rfl⟩ : ∃ m, F = m + 1 := ⟨F - 1, by omega⟩
    have hP0 : 0 < P := by omega
    have tm := t_nI (show m < 2147483648 by omega)
    obtain rfl : x13 = nI m := by rw [t_eq]; omega
    have tx := t_nI (show x < 2147483648 by omega)
    have hdl := Nat.div_le_self x P
    have hml := Nat.mod_lt x hP0
    have hdm := Nat.div_add_mod x P
    have td := t_nI (show x / P < 2147483648 by omega)
    have ed : nI x / nI P = nI (x / P) := by
      rw [t_eq, t_div (by omega) (by omega), tx, tP, td]
      exact (Int.natCast_ediv x P).symm
    have hpd : x / P * P ≤ x := Nat.div_mul_le_self x P
    have tdm : (nI (x / P) * nI P).toInt = ((x / P * P : Nat) : Int) := by
      rw [t_mul (by rw [td, tP, ← Int.natCast_mul]; omega) (by rw [td, tP, ← Int.natCast_mul]; omega), td, tP, Int.natCast_mul]
    have em : nI x - nI (x / P) * nI P = nI (x % P) := by
      rw [t_eq, t_sub (by rw [tdm]; omega) (by rw [tdm]; omega), tdm, tx, t_nI (by omega)]
      rw [Nat.mul_comm] at hdm
      omega
    have e156 : M.1 156 2 = nI P := by rw [(hs 156 (by omega) (by omega)).1]; exact hPn
    have nz : ¬ nI P = 0 := by rw [t_eq, tP, li_0]; omega
    have s1 : same 138 159 N0 (wI M 161 m (nI (x % P))) := same_t hs (same_wI (by omega))
    have hR1 : Rel c C (wI M 161 m (nI (x % P))) := Rel_same0 hR same_r rfl rfl s1
    have hjm := hj m (by omega)
    have tjm := t_nI (show js m < 2147483648 by omega)
    have rk := risk_m hR1 (a := nI (x % P)) (j := nI (js m)) (q := q) (by rw [t_nI (by omega)]; omega) (by rw [t_nI (by omega), (s1 156 (by omega) (by omega)).1, hPn]; omega) (by omega) (by rw [(s1 156 (by omega) (by omega)).1]; omega) q1 q2
    rw [ix_nI (by omega), ix_nI (by omega), rk_s s1] at rk
    obtain ⟨M', g1, g2, g3, g4, g5⟩ := ih (by omega) (Or.inr hP0) (x / P) (a + 16 ^ (x % P)) (t + rkx N0 (x % P) (js m) (ix q)) (nI m + -1) (wI M 161 m (nI (x % P))) (by omega) (dec_t' tm) s1 (fun p hp => by rw [mem_fst (by omega)]; exact h2 p hp) F (by omega)
    refine ⟨M', ?_, fun z hz => (g2 z hz).trans (wI_row _ _ _ _ hz), g3, fun p hp => by rw [g4 p (by omega), mem_fst (by omega)], fun p hp => ?_⟩
    · rw [fm_team_L148, if_neg (by rw [t_lt, li_0]; omega), ix_2, e156, gd_t nz, ilet_e, gd_t nz, ilet_e, ed, em, gd_t (b_in (by omega) (by omega)), mlet_e, llet_e, gd_t (b_in (by omega) (by omega)), ix_nI (show m < 2147483648 by omega), mem_fst (show 162 ≠ 161 ∨ m ≠ m by omega), h2 m (by omega), rk, Option.bind_some, ilet_e, sh_l _ (by omega), lI_ad, g1, dg, cw, tR, dg_len]
      have e1 : a + 16 ^ (x % P) + cw (dg P m (x / P)) = a + (cw (dg P m (x / P)) + 16 ^ (x % P)) := by omega
      have e2 : t + rkx N0 (x % P) (js m) (ix q) + tR (rk2 N0 js (ix q)) (dg P m (x / P)) = t + (tR (rk2 N0 js (ix q)) (dg P m (x / P)) + rk2 N0 js (ix q) m (x % P)) := by
        rw [Int32.add_assoc, Int32.add_comm (rkx N0 (x % P) (js m) (ix q))]
        rfl
      rw [e1, e2]
    · rw [dg, atR, dg_len]
      by_cases z : p = m
      · rw [z, g4 m (by omega), wI_s, if_pos rfl]
      · rw [if_neg z]
        exact g5 p (by omega)
theorem t242_0 {M : Mem} {b2 b3 b4 b5 b6 b7 b8 b12 : Int32} {b10 : Int64} {kx : Int32 → Option (Int32 × Mem)} (F : Nat) (k : Int32) : fm_team_L242 M b2 b3 b4 b5 b6 b7 b8 b10 b12 kx (F + 1) 0 k = kx 0 := by
  rw [fm_team_L242]
  by_cases y : M.1 156 (ix 2) ≤ k
  · rw [if_pos y]
  · rw [if_neg y, if_pos rfl]
theorem t242_L {M : Mem} {P cap : Nat} (hP : P ≤ 6) (hPn : M.1 156 2 = nI P) (hcap : cap ≤ 6) {r : List Nat} (hr : ∀ i, i ∈ r → i < P) (hl : r.length ≤ 6) {b3 b4 b5 b6 b7 b8 b12 : Int32} {kx : Int32 → Option (Int32 × Mem)} : ∀ (m k : Nat), k + m = P → ∀ F, m < F → ∃ w : Int32, (w = 0 ∨ w = 1) ∧ (w = 1 ↔ ∀ x, k ≤ x → x < P → r.count x ≤ cap) ∧ fm_team_L242 M (nI cap) b3 b4 b5 b6 b7 b8 (lI (cw r)) b12 kx F 1 (nI k) = kx w := by
  intro m
  have tP := t_nI (show P < 2147483648 by omega)
  have tc := t_nI (show cap < 2147483648 by omega)
  have hr6 : ∀ i, i ∈ r → i < 6 := fun i hi => by have := hr i hi; omega
  induction m with
  | zero =>
    intro k hk F hF
    obtain ⟨F, rfl⟩ : ∃ m, F = m + 1 := ⟨F - 1, by omega⟩
    have tk := t_nI (show k < 2147483648 by omega)
    exact ⟨1, Or.inr rfl, ⟨fun _ x y z => by omega, fun _ => rfl⟩, by rw [fm_team_L242, ix_2, hPn, if_pos (by rw [t_le]; omega)]⟩
  | succ m ih =>
    intro k hk F hF
    obtain ⟨F, rfl⟩ : ∃ m, F = m + 1 := ⟨F - 1, by omega⟩
    have tk := t_nI (show k < 2147483648 by omega)
    obtain ⟨w1, w2⟩ := cw_n hr6 hl (x := k) (by omega)
    have hc : lg_cmp ((lI (cw r) >>> (Int32.toInt64 ((4 : Int32) * nI k) &&& 63)) &&& 15) (Int32.toInt64 (nI cap)) ≤ 0 ↔ r.count k ≤ cap := by
      rw [lgc_l, lI_nib (by omega) (by omega), w1, Int32.toInt_toInt64, tc]
      omega
    rw [fm_team_L242, ix_2, hPn, if_neg (by rw [t_le]; omega), if_neg (show ¬ (1 : Int32) = 0 by decide), jlet_e, nI_1]
    by_cases z : r.count k ≤ cap
    · rw [if_pos (hc.mpr z)]
      obtain ⟨w, a1, a2, a3⟩ := ih (k + 1) (by omega) F (by omega)
      refine ⟨w, a1, ?_, a3⟩
      rw [a2]
      constructor
      · intro y x x1 x2
        by_cases e : x = k
        · rw [e]; exact z
        · exact y x (by omega) x2
      · intro y x x1 x2
        exact y x (by omega) x2
    · rw [if_neg (fun y => z (hc.mp y))]
      refine ⟨0, Or.inl rfl, ⟨fun y => absurd y (by decide), fun y => absurd (y k (by omega) (by omega)) z⟩, ?_⟩
      obtain ⟨F, rfl⟩ : ∃ m, F = m + 1 := ⟨F - 1, by omega⟩
      exact t242_0 F _
theorem t299_L {b2 b3 b4 b6 b7 b8 : Int32} {kx : Mem → Option (Int32 × Mem)} {n : Nat} (hn : n ≤ 6) : ∀ (m k : Nat), k + m = n → ∀ N : Mem, ∀ F, m < F → ∃ N', fm_team_L299 b2 b3 b4 (nI n) b6 b7 b8 kx F (nI k) N = kx N' ∧ (∀ q, q ≠ 163 → N'.1 q = N.1 q) ∧ N'.2 = N.2 ∧ (∀ i, i < k → N'.1 163 i = N.1 163 i) ∧ ∀ i, k ≤ i → i < n → N'.1 163 i = N.1 161 i := by
  intro m
  have tn := t_nI (show n < 2147483648 by omega)
  induction m with
  | zero =>
    intro k hk N F hF
    obtain ⟨F, rfl⟩ : ∃ m, F = m + 1 := ⟨F - 1, by omega⟩
    have tk := t_nI (show k < 2147483648 by omega)
    exact ⟨N, by rw [fm_team_L299, if_pos (by rw [t_le]; omega)], fun _ _ => rfl, rfl, fun _ _ => rfl, fun i x y => by omega⟩
  | succ m ih =>
    intro k hk N F hF
    obtain ⟨F, rfl⟩ : ∃ m, F = m + 1 := ⟨F - 1, by omega⟩
    have tk := t_nI (show k < 2147483648 by omega)
    have xk := ix_nI (show k < 2147483648 by omega)
    obtain ⟨N', r1, r2, r3, r4, r5⟩ := ih (k + 1) (by omega) (wI N 163 k (N.1 161 k)) F (by omega)
    refine ⟨N', ?_, fun q hq => (r2 q hq).trans (wI_row _ _ _ _ hq), r3, fun i hi => (r4 i (by omega)).trans (mem_fst (by omega)), fun i x y => ?_⟩
    · rw [fm_team_L299, if_neg (by rw [t_le]; omega), gd_t (b_in (by omega) (by omega)), gd_t (b_in (by omega) (by omega)), mlet_e, xk, nI_1, r1]
    · by_cases e : i = k
      · rw [e, r4 k (by omega), wI_s]
      · rw [r5 i (by omega) y, mem_fst (by omega)]
def MT (rk : Nat → Nat → Int32) (n : Nat) (x7 : Int32) (M : Mem) : Option (List Nat) → Prop
  | none => x7 = -1
  | some s => x7 = tR rk s ∧ (∀ p, p < n → M.1 163 p = nI (atR s p)) ∧ s.length = n
theorem MT_fr {rk : Nat → Nat → Int32} {n : Nat} {x7 : Int32} {M M' : Mem} {b : Option (List Nat)} (h : MT rk n x7 M b) (h1 : M'.1 163 = M.1 163) : MT rk n x7 M' b := by
  cases b with
  | none => exact h
  | some s => unfold MT at h ⊢; rw [h1]; exact h
theorem one_t {c : Nat} {C N0 : Mem} (hR : Rel c C N0) {q : Int32} (q1 : 0 ≤ q.toInt) (q2 : q.toInt < 12) {js : Nat → Nat} {P n cap : Nat} (hP : P ≤ 6) (hPn : N0.1 156 2 = nI P) (hn : n ≤ 6) (hz : n = 0 ∨ 0 < P) (hcap : cap ≤ 6) (hj : ∀ p, p < n → (js p : Int) < (N0.1 156 0).toInt) {b4 b6 : Int32} {kx : Int32 → Mem → Option (Int32 × Mem)} {b : Option (List Nat)} {x7 : Int32} {x : Nat} (hx : x < 100000) {M : Mem} (hs : same 138 159 N0 M) (h2 : ∀ p, p < n → M.1 162 p = nI (js p)) (hb : MT (rk2 N0 js (ix q)) n x7 M b) (h6 : ¬ b6 ≤ nI x) (F : Nat) : ∃ x7' M', fm_team_L125 (nI cap) q b4 (nI n) b6 kx (F + 1) x7 (nI x) M = fm_team_L125 (nI cap) q b4 (nI n) b6 kx F x7' (nI (x + 1)) M' ∧ same 138 159 N0 M' ∧ M'.1 162 = M.1 162 ∧ MT (rk2 N0 js (ix q)) n x7' M' (sT (rk2 N0 js (ix q)) P cap b (dg P n x)) := by
  have tn := t_nI (show n < 2147483648 by omega)
  have td : (nI n - 1).toInt + 1 = (n : Int) := by
    rw [t_sub (by rw [li_1]; omega) (by rw [li_1]; omega), li_1]
    omega
  have hB4 : ∀ p x, 0 ≤ (rk2 N0 js (ix q) p x).toInt ∧ (rk2 N0 js (ix q) p x).toInt ≤ 1000 := fun p x => rkx_b N0 x (js p) (ix q)
  rw [fm_team_L125, if_neg h6, ilet_e, nI_1]
  obtain ⟨M1, g1, g2, g3, -, g5⟩ := t148_L hR q1 q2 hP hPn hn hj (b2 := nI cap) (b4 := b4) (b5 := nI n) (b6 := b6) (b7 := x7) (b8 := nI x) (kx := (fun w24 w25 M26 => (jlet (fun z237 : Int32 => (fm_team_L242 M26 (nI cap) q b4 (nI n) b6 x7 (nI x) w24 w25 (fun w28 => (jlet (fun z326 : Int32 × Mem => (fm_team_L125 (nI cap) q b4 (nI n) b6 kx F (z326.1) (nI (x + 1)) (z326.2))) (fun J326 => (if w28 = 0 then (J326 (x7, M26)) else (fm_team_L299 (nI cap) q b4 (nI n) b6 w25 (nI x) (fun M32 => (J326 (w25, M32))) FU 0 M26))))) FU z237 0)) (fun J237 => (jlet (fun z232 : Unit => (J237 1)) (fun J232 => (if x7 < 0 then (J232 ()) else (if x7 ≤ w25 then (J237 0) else (J232 ()))))))))) n (Nat.le_refl n) hz x 0 0 (nI n - 1) M hx td hs h2 FU (by rw [FU_eq]; omega)
  rw [Nat.zero_add, Int32.zero_add] at g1
  have g1' := g1
  rw [show lI 0 = 0 from rfl] at g1'
  rw [g1', jlet_e, jlet_e]
  clear g1 g1'
  have hl := dg_len P n x
  have hin : ∀ i, i ∈ dg P n x → i < P := by
    rcases hz with z | z
    · rw [z]; intro i hi; simp [dg] at hi
    · exact dg_in z n x
  have s1 : same 138 159 N0 M1 := same_t hs (same_of g2 g3 (by omega))
  have hb1 : MT (rk2 N0 js (ix q)) n x7 M1 b := MT_fr hb (g2 163 (by omega))
  have e162 : M1.1 162 = M.1 162 := g2 162 (by omega)
  have e156 : M1.1 156 2 = nI P := by rw [(s1 156 (by omega) (by omega)).1]; exact hPn
  generalize hr : dg P n x = r at hl hin g5 ⊢
  have flag : (btB (rk2 N0 js (ix q)) b r = true ∧ (x7 < 0 ∨ ¬ x7 ≤ tR (rk2 N0 js (ix q)) r)) ∨ (¬ btB (rk2 N0 js (ix q)) b r = true ∧ ¬ x7 < 0 ∧ x7 ≤ tR (rk2 N0 js (ix q)) r) := by
    cases b with
    | none => exact Or.inl ⟨rfl, Or.inl (by rw [show x7 = -1 from hb]; decide)⟩
    | some s =>
      obtain ⟨k1, -, k3⟩ := hb
      have hs0 := (tR_b hB4 s (by omega)).1
      by_cases z : x7 ≤ tR (rk2 N0 js (ix q)) r
      · refine Or.inr ⟨?_, by rw [t_lt, li_0, k1]; omega, z⟩
        simp only [btB, decide_eq_true_eq, t_lt]
        rw [t_le, k1] at z
        omega
      · refine Or.inl ⟨?_, Or.inr z⟩
        simp only [btB, decide_eq_true_eq, t_lt]
        rw [t_le, k1] at z
        omega
  rcases flag with ⟨f1, f2⟩ | ⟨f1, f2, f3⟩
  · have hg : ∀ (A B : Option (Int32 × Mem)), (if x7 < 0 then A else if x7 ≤ tR (rk2 N0 js (ix q)) r then B else A) = A := fun A B => by
      by_cases y : x7 < 0
      · rw [if_pos y]
      · rw [if_neg y, if_neg (f2.resolve_left y)]
    rw [hg]
    obtain ⟨w, w1, w2, w3⟩ := t242_L (M := M1) hP e156 hcap hin (by omega) (b3 := q) (b4 := b4) (b5 := nI n) (b6 := b6) (b7 := x7) (b8 := nI x) (b12 := tR (rk2 N0 js (ix q)) r) (kx := (fun w28 => (jlet (fun z326 : Int32 × Mem => (fm_team_L125 (nI cap) q b4 (nI n) b6 kx F (z326.1) (nI (x + 1)) (z326.2))) (fun J326 => (if w28 = 0 then (J326 (x7, M1)) else (fm_team_L299 (nI cap) q b4 (nI n) b6 (tR (rk2 N0 js (ix q)) r) (nI x) (fun M32 => (J326 (tR (rk2 N0 js (ix q)) r, M32))) FU 0 M1)))))) P 0 (by omega) FU (by rw [FU_eq]; omega)
    have w3' := w3
    rw [show nI 0 = 0 from rfl] at w3'
    dsimp only
    rw [w3', jlet_e]
    clear w3 w3'
    have w2' : w = 1 ↔ feasB P cap r = true := by
      rw [w2, feas_e]
      exact ⟨fun y x hx => y x (by omega) hx, fun y x _ hx => y x hx⟩
    rcases w1 with w1 | w1
    · rw [if_pos w1, sT, if_neg (fun y => by have := w2'.mpr y.1; rw [w1] at this; exact absurd this (by decide))]
      exact ⟨x7, M1, rfl, s1, e162, hb1⟩
    · rw [if_neg (by rw [w1]; decide), sT, if_pos ⟨w2'.mp w1, f1⟩]
      obtain ⟨M2, v1, v2, v3, -, v5⟩ := t299_L (b2 := nI cap) (b3 := q) (b4 := b4) (b6 := b6) (b7 := tR (rk2 N0 js (ix q)) r) (b8 := nI x) (kx := (fun M32 => (fm_team_L125 (nI cap) q b4 (nI n) b6 kx F (tR (rk2 N0 js (ix q)) r) (nI (x + 1)) M32))) hn n 0 (by omega) M1 FU (by rw [FU_eq]; omega)
      exact ⟨tR (rk2 N0 js (ix q)) r, M2, v1, same_t s1 (same_of v2 v3 (by omega)), (v2 162 (by omega)).trans e162, rfl, fun p hp => by rw [v5 p (by omega) hp]; exact g5 p hp, hl⟩
  · obtain ⟨f, hf⟩ := FU_10
    rw [if_neg f2, if_pos f3]
    dsimp only
    rw [show FU = f + 9 + 1 by rw [hf], t242_0, jlet_e, if_pos rfl, sT, if_neg (fun y => f1 y.2)]
    exact ⟨x7, M1, rfl, s1, e162, hb1⟩
theorem teams_L {c : Nat} {C N0 : Mem} (hR : Rel c C N0) {q : Int32} (q1 : 0 ≤ q.toInt) (q2 : q.toInt < 12) {js : Nat → Nat} {P n cap X : Nat} (hP : P ≤ 6) (hPn : N0.1 156 2 = nI P) (hn : n ≤ 6) (hz : n = 0 ∨ 0 < P) (hcap : cap ≤ 6) (hj : ∀ p, p < n → (js p : Int) < (N0.1 156 0).toInt) (hX : X ≤ 50000) {b4 : Int32} {kx : Int32 → Mem → Option (Int32 × Mem)} : ∀ (m x : Nat), x + m = X → ∀ (b : Option (List Nat)) (x7 : Int32) (M : Mem), same 138 159 N0 M → (∀ p, p < n → M.1 162 p = nI (js p)) → MT (rk2 N0 js (ix q)) n x7 M b → ∀ F, m < F → ∃ x7' M', fm_team_L125 (nI cap) q b4 (nI n) (nI X) kx F x7 (nI x) M = kx x7' M' ∧ same 138 159 N0 M' ∧ M'.1 162 = M.1 162 ∧ MT (rk2 N0 js (ix q)) n x7' M' (foN (rk2 N0 js (ix q)) P cap n b x m) := by
  intro m
  have tX := t_nI (show X < 2147483648 by omega)
  induction m with
  | zero =>
    intro x hx b x7 M hs h2 hb F hF
    obtain ⟨F, rfl⟩ : ∃ m, F = m + 1 := ⟨F - 1, by omega⟩
    have tx := t_nI (show x < 2147483648 by omega)
    exact ⟨x7, M, by rw [fm_team_L125, if_pos (by rw [t_le]; omega)], hs, rfl, hb⟩
  | succ m ih =>
    intro x hx b x7 M hs h2 hb F hF
    obtain ⟨F, rfl⟩ : ∃ m, F = m + 1 := ⟨F - 1, by omega⟩
    have tx := t_nI (show x < 2147483648 by omega)
    obtain ⟨y7, M1, r1, r2, r3, r4⟩ := one_t hR q1 q2 hP hPn hn hz hcap hj (b4 := b4) (b6 := nI X) (kx := kx) (x := x) (by omega) hs h2 hb (by rw [t_le]; omega) F
    obtain ⟨z7, M2, v1, v2, v3, v4⟩ := ih (x + 1) (by omega) _ y7 M1 r2 (by rw [r3]; exact h2) r4 F (by omega)
    exact ⟨z7, M2, r1.trans v1, v2, v3.trans r3, v4⟩
theorem pow_b : ∀ P, P ≤ 6 → ∀ n, n ≤ 6 → P ^ n ≤ 46656 := by decide
theorem t95_L {M : Mem} {P n : Nat} (hP : P ≤ 6) (hPn : M.1 156 2 = nI P) (hn : n ≤ 6) {b2 b3 b4 : Int32} {kx : Int32 → Option (Int32 × Mem)} : ∀ (m k : Nat), k + m = n → ∀ F, m < F → fm_team_L95 M b2 b3 b4 (nI n) kx F (nI (P ^ k)) (nI k) = kx (nI (P ^ n)) := by
  intro m
  have tn := t_nI (show n < 2147483648 by omega)
  have tP := t_nI (show P < 2147483648 by omega)
  induction m with
  | zero =>
    intro k hk F hF
    obtain ⟨F, rfl⟩ : ∃ m, F = m + 1 := ⟨F - 1, by omega⟩
    have tk := t_nI (show k < 2147483648 by omega)
    rw [fm_team_L95, if_pos (by rw [t_le]; omega), show k = n by omega]
  | succ m ih =>
    intro k hk F hF
    obtain ⟨F, rfl⟩ : ∃ m, F = m + 1 := ⟨F - 1, by omega⟩
    have tk := t_nI (show k < 2147483648 by omega)
    have h1 := pow_b P hP k (by omega)
    have h2 := pow_b P hP (k + 1) (by omega)
    have e : nI (P ^ k) * nI P = nI (P ^ (k + 1)) := by
      have hm : ((P ^ k : Nat) : Int) * (P : Int) = ((P ^ (k + 1) : Nat) : Int) := by rw [← Int.natCast_mul, Nat.pow_succ]
      rw [t_eq, t_mul (by rw [t_nI (by omega), tP, hm]; omega) (by rw [t_nI (by omega), tP, hm]; omega), t_nI (by omega), tP, hm, t_nI (by omega)]
    rw [fm_team_L95, if_neg (by rw [t_le]; omega), ix_2, hPn, ilet_e, e, nI_1, ih (k + 1) (by omega) F (by omega)]
theorem who_L {C M : Mem} {js v : Nat → Nat} {n : Nat} (hn : n ≤ 6) {a4 : Int32} (hb : ∀ p, p < n → js p < 20) (ha : ∀ i j, i < j → j < n → js i < js j) (c0 : C.1 130 3 = nI n) (c1 : ∀ p, p < n → C.1 131 p = nI (js p)) (c2 : ∀ p, p < n → C.1 136 p = nI (v p)) (m1 : ∀ p, p < n → M.1 162 p = nI (js p)) (m2 : ∀ p, p < n → M.1 163 p = nI (v p)) : ∀ (m k : Nat), k + m = n → ∀ F1 F2, m < F1 → m < F2 → (∃ p, k ≤ p ∧ p < n ∧ nI (js p) = a4 ∧ fTeamSearch_leaperOfJetty_L2 C a4 (fun w2 => (gd (inb w2 6) (some (C.1 136 (ix w2))))) F1 (nI k) = some (nI (v p)) ∧ ∀ x8, fm_team_L346 M a4 (nI n) F2 x8 (nI k) = some (nI (v p), M)) ∨ ((∀ p, k ≤ p → p < n → ¬ nI (js p) = a4) ∧ fTeamSearch_leaperOfJetty_L2 C a4 (fun w2 => (gd (inb w2 6) (some (C.1 136 (ix w2))))) F1 (nI k) = some (-1) ∧ ∀ x8, fm_team_L346 M a4 (nI n) F2 x8 (nI k) = some (x8, M)) := by
  intro m
  have tn := t_nI (show n < 2147483648 by omega)
  induction m with
  | zero =>
    intro k hk F1 F2 h1 h2
    obtain ⟨F1, rfl⟩ : ∃ m, F1 = m + 1 := ⟨F1 - 1, by omega⟩
    obtain ⟨F2, rfl⟩ : ∃ m, F2 = m + 1 := ⟨F2 - 1, by omega⟩
    have tk := t_nI (show k < 2147483648 by omega)
    refine Or.inr ⟨fun p x y => by omega, ?_, fun x8 => ?_⟩
    · rw [fTeamSearch_leaperOfJetty_L2, c0, if_pos (by rw [t_le]; omega)]
    · rw [fm_team_L346, if_pos (by rw [t_le]; omega)]
  | succ m ih =>
    intro k hk F1 F2 h1 h2
    obtain ⟨F1, rfl⟩ : ∃ m, F1 = m + 1 := ⟨F1 - 1, by omega⟩
    obtain ⟨F2, rfl⟩ : ∃ m, F2 = m + 1 := ⟨F2 - 1, by omega⟩
    have tk := t_nI (show k < 2147483648 by omega)
    have xk := ix_nI (show k < 2147483648 by omega)
    have ik : inb (nI k) 6 := b_in (by omega) (by omega)
    have cs : fTeamSearch_leaperOfJetty_L2 C a4 (fun w2 => (gd (inb w2 6) (some (C.1 136 (ix w2))))) (F1 + 1) (nI k) = if nI (js k) = a4 then some (nI (v k)) else fTeamSearch_leaperOfJetty_L2 C a4 (fun w2 => (gd (inb w2 6) (some (C.1 136 (ix w2))))) F1 (nI (k + 1)) := by
      rw [fTeamSearch_leaperOfJetty_L2, c0, if_neg (by rw [t_le]; omega), gd_t ik, gd_t ik, xk, c1 k (by omega), c2 k (by omega), nI_1]
    have ms : ∀ x8, fm_team_L346 M a4 (nI n) (F2 + 1) x8 (nI k) = if nI (js k) = a4 then fm_team_L346 M a4 (nI n) F2 (nI (v k)) (nI (k + 1)) else fm_team_L346 M a4 (nI n) F2 x8 (nI (k + 1)) := fun x8 => by
      rw [fm_team_L346, if_neg (by rw [t_le]; omega), gd_t ik, jlet_e, gd_t ik, ilet_e, xk, m1 k (by omega), m2 k (by omega), nI_1]
    by_cases z : nI (js k) = a4
    · have ih' := ih (k + 1) (by omega) F1 F2 (by omega) (by omega)
      rcases ih' with ⟨p, p1, p2, p3, -⟩ | ⟨-, -, i3⟩
      · exfalso
        have := ha k p (by omega) p2
        have b1 := hb k (by omega)
        have b2 := hb p p2
        rw [← z, t_eq, t_nI (by omega), t_nI (by omega)] at p3
        omega
      · exact Or.inl ⟨k, by omega, by omega, z, by rw [cs, if_pos z], fun x8 => by rw [ms, if_pos z, i3]⟩
    · rcases ih (k + 1) (by omega) F1 F2 (by omega) (by omega) with ⟨p, p1, p2, p3, p4, p5⟩ | ⟨i1, i2, i3⟩
      · exact Or.inl ⟨p, by omega, p2, p3, by rw [cs, if_neg z]; exact p4, fun x8 => by rw [ms, if_neg z]; exact p5 x8⟩
      · refine Or.inr ⟨fun p x y => ?_, by rw [cs, if_neg z]; exact i2, fun x8 => by rw [ms, if_neg z]; exact i3 x8⟩
        by_cases e : p = k
        · rw [e]; exact z
        · exact i1 p (by omega) y
