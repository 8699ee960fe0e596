-- sets of jetties
/-- the i-th of the first k bits that are set -/
def el (A : Nat) : Nat → Nat → Nat
  | 0, _ => 0
  | k + 1, i => if A / 2 ^ k % 2 = 1 ∧ i = bct A k then k else el A k i
theorem bct_mono (A : Nat) {k k' : Nat} (h : k ≤ k') : bct A k ≤ bct A k' := by
  induction k' with
  | zero =>
    obtain rfl : k = 0 := by omega
    exact Nat.le_refl _
  | succ m ih =>
    by_cases e : k = m + 1
    · rw [e]; exact Nat.le_refl _
    · have := ih (by omega)
      rw [bct_s]
      omega
theorem el_st (A : Nat) {k k' : Nat} (h : k ≤ k') {i : Nat} (hi : i < bct A k) : el A k' i = el A k i := by
  induction k' with
  | zero =>
    obtain rfl : k = 0 := by omega
    rfl
  | succ m ih =>
    by_cases e : k = m + 1
    · rw [e]
    · have := bct_mono A (show k ≤ m by omega)
      rw [el, if_neg (by omega), ih (by omega)]
theorem el_lt (A : Nat) : ∀ k i, i < bct A k → el A k i < k := by
  intro k
  induction k with
  | zero => intro i hi; simp [bct] at hi
  | succ m ih =>
    intro i hi
    rw [el]
    split
    · omega
    · rename_i g
      rw [bct_s] at hi
      have := ih i (by omega)
      omega
theorem el_asc (A : Nat) : ∀ k i j, i < j → j < bct A k → el A k i < el A k j := by
  intro k
  induction k with
  | zero => intro i j h1 h2; simp [bct] at h2
  | succ m ih =>
    intro i j h1 h2
    rw [bct_s] at h2
    rw [el, el]
    by_cases g : A / 2 ^ m % 2 = 1 ∧ j = bct A m
    · rw [if_pos g, if_neg (by omega)]
      exact el_lt A m i (by omega)
    · rw [if_neg g, if_neg (by omega)]
      exact ih i j h1 (by omega)
theorem el_ext {A J : Nat} (hA : A < 2 ^ J) : ∀ k, J ≤ k → bct A k = bct A J ∧ ∀ i, el A k i = el A J i := by
  intro k
  induction k with
  | zero =>
    intro h
    obtain rfl : J = 0 := by omega
    exact ⟨rfl, fun _ => rfl⟩
  | succ m ih =>
    intro h
    by_cases e : J = m + 1
    · rw [e]; exact ⟨rfl, fun _ => rfl⟩
    · obtain ⟨a, b⟩ := ih (by omega)
      have hp : 2 ^ J ≤ 2 ^ m := Nat.pow_le_pow_right (by omega) (by omega)
      have hd : A / 2 ^ m = 0 := Nat.div_eq_of_lt (by omega)
      refine ⟨by rw [bct_s, hd, a]; rfl, fun i => ?_⟩
      rw [el, hd, if_neg (by omega), b]
theorem fc_readSet_L4_e {A : Nat} (hA : A < 1048576) (hz : bct A 20 ≤ 6) : ∀ (n k : Nat), k + n = 20 → ∀ C : Mem, (∀ i, i < bct A k → C.1 127 i = nI (el A k i)) → ∀ F1, n < F1 → ∃ C', fc_readSet_L4 (nI A) F1 (nI (bct A k)) (nI k) C = some (nI (bct A 20), C') ∧ (∀ q, q ≠ 127 → C'.1 q = C.1 q) ∧ C'.2 = C.2 ∧ ∀ i, i < bct A 20 → C'.1 127 i = nI (el A 20 i) := by
  intro n
  induction n with
  | zero =>
    intro k hk C hC F1 h1
    obtain ⟨F1, rfl⟩ : ∃ m, F1 = m + 1 := ⟨F1 - 1, by omega⟩
    obtain rfl : k = 20 := by omega
    exact ⟨C, by rw [fc_readSet_L4, if_pos (by decide)], fun _ _ => rfl, rfl, hC⟩
  | succ n ih =>
    intro k hk C hC F1 h1
    obtain ⟨F1, rfl⟩ : ∃ m, F1 = m + 1 := ⟨F1 - 1, by omega⟩
    have hm := bct_mono A (show k ≤ 20 by omega)
    have tk := t_nI (show k < 2147483648 by omega)
    have tb := t_nI (show bct A k < 2147483648 by omega)
    rw [fc_readSet_L4, if_neg (by rw [t_le, tk]; simp only [Int32.reduceToInt]; omega)]
    by_cases q : bct A k = 6
    · rw [if_pos (by rw [q]; decide)]
      refine ⟨C, by rw [show bct A 20 = bct A k by omega], fun _ _ => rfl, rfl, fun i hi => ?_⟩
      rw [hC i (by omega), el_st A (show k ≤ 20 by omega) (by omega)]
    rw [if_neg (by rw [t_le, tb]; simp only [Int32.reduceToInt]; omega), jlet_e, nI_sar (by omega) (by omega), nI_b1, nI_1, gd_t (b_in (by omega) (by omega)), mlet_e, ix_nI (by omega)]
    by_cases g : A / 2 ^ k % 2 = 1
    · rw [if_pos (by rw [g]; rfl)]
      obtain ⟨C', r1, r2, r3, r4⟩ := ih (k + 1) (by omega) (wI C 127 (bct A k) (nI k)) (fun i hi => by
        rw [el]
        by_cases e : i = bct A k
        · rw [e, wI_s, if_pos ⟨g, rfl⟩]
        · rw [mem_fst (by omega), if_neg (by omega)]
          rw [bct_s, g] at hi
          exact hC i (by omega)) F1 (by omega)
      rw [bct_s, g] at r1
      refine ⟨C', ?_, fun q hq => (r2 q hq).trans (wI_row _ _ _ _ hq), r3, r4⟩
      dsimp only
      rw [nI_1]
      exact r1
    · have g0 : A / 2 ^ k % 2 = 0 := by omega
      rw [if_neg (by rw [g0]; decide)]
      obtain ⟨C', r1, r2, r3, r4⟩ := ih (k + 1) (by omega) C (fun i hi => by
        rw [el, if_neg (by omega)]
        rw [bct_s, g0] at hi
        exact hC i (by omega)) F1 (by omega)
      rw [bct_s, g0] at r1
      exact ⟨C', r1, r2, r3, r4⟩
theorem fc_readSet_2_L4_e {A : Nat} (hA : A < 1048576) (hz : bct A 20 ≤ 6) : ∀ (n k : Nat), k + n = 20 → ∀ C : Mem, (∀ i, i < bct A k → C.1 131 i = nI (el A k i)) → ∀ F1, n < F1 → ∃ C', fc_readSet_2_L4 (nI A) F1 (nI (bct A k)) (nI k) C = some (nI (bct A 20), C') ∧ (∀ q, q ≠ 131 → C'.1 q = C.1 q) ∧ C'.2 = C.2 ∧ ∀ i, i < bct A 20 → C'.1 131 i = nI (el A 20 i) := by
  intro n
  induction n with
  | zero =>
    intro k hk C hC F1 h1
    obtain ⟨F1, rfl⟩ : ∃ m, F1 = m + 1 := ⟨F1 - 1, by omega⟩
    obtain rfl : k = 20 := by omega
    exact ⟨C, by rw [fc_readSet_2_L4, if_pos (by decide)], fun _ _ => rfl, rfl, hC⟩
  | succ n ih =>
    intro k hk C hC F1 h1
    obtain ⟨F1, rfl⟩ : ∃ m, F1 = m + 1 := ⟨F1 - 1, by omega⟩
    have hm := bct_mono A (show k ≤ 20 by omega)
    have tk := t_nI (show k < 2147483648 by omega)
    have tb := t_nI (show bct A k < 2147483648 by omega)
    rw [fc_readSet_2_L4, if_neg (by rw [t_le, tk]; simp only [Int32.reduceToInt]; omega)]
    by_cases q : bct A k = 6
    · rw [if_pos (by rw [q]; decide)]
      refine ⟨C, by rw [show bct A 20 = bct A k by omega], fun _ _ => rfl, rfl, fun i hi => ?_⟩
      rw [hC i (by omega), el_st A (show k ≤ 20 by omega) (by omega)]
    rw [if_neg (by rw [t_le, tb]; simp only [Int32.reduceToInt]; omega), jlet_e, nI_sar (by omega) (by omega), nI_b1, nI_1, gd_t (b_in (by omega) (by omega)), mlet_e, ix_nI (by omega)]
    by_cases g : A / 2 ^ k % 2 = 1
    · rw [if_pos (by rw [g]; rfl)]
      obtain ⟨C', r1, r2, r3, r4⟩ := ih (k + 1) (by omega) (wI C 131 (bct A k) (nI k)) (fun i hi => by
        rw [el]
        by_cases e : i = bct A k
        · rw [e, wI_s, if_pos ⟨g, rfl⟩]
        · rw [mem_fst (by omega), if_neg (by omega)]
          rw [bct_s, g] at hi
          exact hC i (by omega)) F1 (by omega)
      rw [bct_s, g] at r1
      refine ⟨C', ?_, fun q hq => (r2 q hq).trans (wI_row _ _ _ _ hq), r3, r4⟩
      dsimp only
      rw [nI_1]
      exact r1
    · have g0 : A / 2 ^ k % 2 = 0 := by omega
      rw [if_neg (by rw [g0]; decide)]
      obtain ⟨C', r1, r2, r3, r4⟩ := ih (k + 1) (by omega) C (fun i hi => by
        rw [el, if_neg (by omega)]
        rw [bct_s, g0] at hi
        exact hC i (by omega)) F1 (by omega)
      rw [bct_s, g0] at r1
      exact ⟨C', r1, r2, r3, r4⟩
theorem mem_L {A J : Nat} (hA : A < 1048576) (hJ : J ≤ 20) : ∀ (n k : Nat), k + n = J → ∀ N : Mem, N.1 156 0 = nI J → bct A k ≤ 6 → (∀ i, i < bct A k → N.1 162 i = nI (el A k i)) → ∀ F1, n < F1 → ∃ N', (∀ q, q ≠ 162 → N'.1 q = N.1 q) ∧ N'.2 = N.2 ∧ ((bct A J ≤ 6 ∧ fm_membersOf_L21 (nI A) F1 (nI (bct A k)) (nI k) N = some (nI (bct A J), N') ∧ ∀ i, i < bct A J → N'.1 162 i = nI (el A J i)) ∨ (6 < bct A J ∧ fm_membersOf_L21 (nI A) F1 (nI (bct A k)) (nI k) N = some (-1, N'))) := by
  intro n
  have tJ := t_nI (show J < 2147483648 by omega)
  induction n with
  | zero =>
    intro k hk N h0 hb hN F1 h1
    obtain ⟨F1, rfl⟩ : ∃ m, F1 = m + 1 := ⟨F1 - 1, by omega⟩
    obtain rfl : k = J := by omega
    exact ⟨N, fun _ _ => rfl, rfl, Or.inl ⟨hb, by rw [fm_membersOf_L21, ix_0, h0, if_pos (by rw [t_le]; omega)], hN⟩⟩
  | succ n ih =>
    intro k hk N h0 hb hN F1 h1
    obtain ⟨F1, rfl⟩ : ∃ m, F1 = m + 1 := ⟨F1 - 1, by omega⟩
    have hm := bct_mono A (show k + 1 ≤ J by omega)
    rw [bct_s] at hm
    have tk := t_nI (show k < 2147483648 by omega)
    have tb := t_nI (show bct A k < 2147483648 by omega)
    have st : fm_membersOf_L21 (nI A) (F1 + 1) (nI (bct A k)) (nI k) N = if nI (A / 2 ^ k % 2) = 0 then fm_membersOf_L21 (nI A) F1 (nI (bct A k)) (nI (k + 1)) N else (if nI (bct A k) = (6 : Int32) then some (-1, N) else gd (inb (nI (bct A k)) 6) (fm_membersOf_L21 (nI A) F1 (nI (bct A k + 1)) (nI (k + 1)) (wI N 162 (bct A k) (nI k)))) := by
      rw [fm_membersOf_L21, ix_0, h0, if_neg (by rw [t_le]; omega), jlet_e, nI_sar (by omega) (by omega), nI_b1, nI_1, mlet_e, ix_nI (by omega), nI_1]
    rw [st]
    by_cases g : A / 2 ^ k % 2 = 1
    · rw [g, if_neg (by decide)]
      rw [g] at hm
      by_cases q : bct A k = 6
      · rw [if_pos (by rw [q]; decide)]
        exact ⟨N, fun _ _ => rfl, rfl, Or.inr ⟨by omega, rfl⟩⟩
      rw [if_neg (by rw [t_eq, tb]; simp only [Int32.reduceToInt]; omega), gd_t (b_in (by omega) (by omega))]
      have hb' : bct A (k + 1) = bct A k + 1 := by rw [bct_s, g]
      obtain ⟨N', r1, r2, r3⟩ := ih (k + 1) (by omega) (wI N 162 (bct A k) (nI k)) ((mem_fst (by omega)).trans h0) (by omega) (fun i hi => by
        rw [el]
        by_cases e : i = bct A k
        · rw [e, wI_s, if_pos ⟨g, rfl⟩]
        · rw [mem_fst (by omega), if_neg (by omega)]
          exact hN i (by omega)) F1 (by omega)
      rw [hb'] at r3
      exact ⟨N', fun q hq => (r1 q hq).trans (wI_row _ _ _ _ hq), r2, r3⟩
    · have g0 : A / 2 ^ k % 2 = 0 := by omega
      rw [g0, if_pos (show nI 0 = 0 from rfl)]
      have hb' : bct A (k + 1) = bct A k := by rw [bct_s, g0]; rfl
      obtain ⟨N', r1, r2, r3⟩ := ih (k + 1) (by omega) N h0 (by omega) (fun i hi => by
        rw [el, if_neg (by omega)]
        exact hN i (by omega)) F1 (by omega)
      rw [hb'] at r3
      exact ⟨N', r1, r2, r3⟩
-- which ints tell a set
theorem msk_e : ∀ j, j ≤ 20 → ((((1 : Int32) <<< (nI j &&& 31)) - 1) ^^^ (-1)).toBitVec = BitVec.ofNat 32 (4294967296 - 2 ^ j) := by decide
theorem msk_n : ∀ j, j ≤ 20 → (4294967296 - 2 ^ j) % 2 ^ j = 0 ∧ (4294967296 - 2 ^ j) / 2 ^ j = 2 ^ (32 - j) - 1 ∧ 2 ^ j * 2 ^ (32 - j) = 4294967296 ∧ 0 < 2 ^ j ∧ 2 ^ j ≤ 1048576 := by decide
theorem msk_0 {x j : Nat} (hx : x < 4294967296) (hj : j ≤ 20) : x &&& (4294967296 - 2 ^ j) = 0 ↔ x < 2 ^ j := by
  obtain ⟨a, b, d, e, f⟩ := msk_n j hj
  have h1 := @Nat.and_mod_two_pow x (4294967296 - 2 ^ j) j
  have h2 := @Nat.and_div_two_pow x (4294967296 - 2 ^ j) j
  rw [a, Nat.and_zero] at h1
  rw [b, Nat.and_two_pow_sub_one_eq_mod, Nat.mod_eq_of_lt (Nat.div_lt_of_lt_mul (by omega))] at h2
  generalize x &&& (4294967296 - 2 ^ j) = y at h1 h2
  constructor
  · intro z
    rw [z, Nat.zero_div] at h2
    have := Nat.div_add_mod x (2 ^ j)
    rw [← h2, Nat.mul_zero] at this
    have := Nat.mod_lt x e
    omega
  · intro z
    rw [Nat.div_eq_of_lt z] at h2
    have := Nat.div_add_mod y (2 ^ j)
    rw [h1, h2, Nat.mul_zero] at this
    omega
theorem nat_of (a : Int32) : ∃ X, X < 4294967296 ∧ a = nI X := by
  refine ⟨a.toBitVec.toNat, a.toBitVec.isLt, ?_⟩
  apply Int32.toBitVec_inj.mp
  rw [nI_bv, BitVec.ofNat_toNat, BitVec.setWidth_eq]
theorem nI_neg {X : Nat} (h1 : 2147483648 ≤ X) (h2 : X < 4294967296) : (nI X).toInt < 0 := by
  show (nI X).toBitVec.toInt < 0
  rw [nI_bv, BitVec.toInt_eq_toNat_cond, BitVec.toNat_ofNat, Nat.mod_eq_of_lt (by omega), if_neg (by omega)]
  omega
theorem isSet_e {C : Mem} {J X : Nat} (hJ : J ≤ 20) (h0 : C.1 20 1 = nI J) (hX : X < 4294967296) : fc_isSet C (nI X) = if X < 2 ^ J then (if 6 < bct X 20 then some 0 else some 1) else some 0 := by
  unfold fc_isSet
  rw [ilet_e, h0]
  have hc : nI X &&& ((((1 : Int32) <<< (nI J &&& 31)) - 1) ^^^ (-1)) = 0 ↔ X < 2 ^ J := by
    rw [← msk_0 hX hJ, ← Int32.toBitVec_inj, Int32.toBitVec_and, msk_e J hJ, nI_bv, ← BitVec.ofNat_and]
    have := @Nat.and_le_left X (4294967296 - 2 ^ J)
    constructor
    · intro z
      have z2 := congrArg BitVec.toNat z
      rw [BitVec.toNat_ofNat, Nat.mod_eq_of_lt (by omega)] at z2
      exact z2
    · intro z
      rw [z]
      rfl
  by_cases q : X < 2 ^ J
  · obtain ⟨-, -, -, -, f⟩ := msk_n J hJ
    rw [if_pos (hc.mpr q), if_pos q, bits_e (by omega), Option.bind_some]
    have hb : bct X 20 ≤ 20 := by
      have h : ∀ k, bct X k ≤ k := fun k => by
        induction k with
        | zero => exact Nat.le_refl _
        | succ m ih => rw [bct_s]; omega
      exact h 20
    have tb := t_nI (show bct X 20 < 2147483648 by omega)
    by_cases g : 6 < bct X 20
    · rw [if_pos g, if_pos (by rw [t_lt, tb]; simp only [Int32.reduceToInt]; omega)]
    · rw [if_neg g, if_neg (by rw [t_lt, tb]; simp only [Int32.reduceToInt]; omega)]
  · rw [if_neg (fun z => q (hc.mp z)), if_neg q]
theorem mems_e {N : Mem} {J X : Nat} (hJ : J ≤ 20) (h0 : N.1 156 0 = nI J) (hX : X < 4294967296) : fm_membersOf N (nI X) = if X < 2 ^ J then fm_membersOf_L21 (nI X) FU 0 0 N else some (-1, N) := by
  unfold fm_membersOf
  rw [ix_0, h0]
  obtain ⟨-, -, -, e, f⟩ := msk_n J hJ
  by_cases q : X < 2147483648
  · have tX := t_nI q
    rw [if_neg (by rw [t_lt, tX, li_0]; omega), nI_sar q (by omega)]
    have hl := Nat.div_le_self X (2 ^ J)
    by_cases g : X < 2 ^ J
    · rw [if_pos g, Nat.div_eq_of_lt g, if_pos (show nI 0 = 0 from rfl)]
    · have hp : 0 < X / 2 ^ J := Nat.div_pos (by omega) e
      rw [if_neg g, if_neg (by rw [t_eq, t_nI (by omega), li_0]; omega)]
  · rw [if_pos (by rw [t_lt, li_0]; exact nI_neg (by omega) hX), if_neg (by omega)]
/-- a set, as both read it -/
theorem sets_t {c : Nat} {C N : Mem} (h : Rel c C N) (a : Int32) :
    (fc_isSet C a = some 0 ∧ ∃ N', fm_membersOf N a = some (-1, N') ∧ (∀ q, q ≠ 162 → N'.1 q = N.1 q) ∧ N'.2 = N.2) ∨
    (fc_isSet C a = some 1 ∧ ∃ A n, A < 1048576 ∧ a = nI A ∧ n ≤ 6 ∧ n = bct A 20 ∧ (∀ M : Mem, fInteger_bitCount M a = some (nI n)) ∧ (∀ i, i < n → (el A 20 i : Int) < (N.1 156 0).toInt) ∧ (∃ N', fm_membersOf N a = some (nI n, N') ∧ (∀ q, q ≠ 162 → N'.1 q = N.1 q) ∧ N'.2 = N.2 ∧ ∀ i, i < n → N'.1 162 i = nI (el A 20 i)) ∧
      (∀ C1 : Mem, ∃ C', fc_readSet C1 a = some (nI n, C') ∧ (∀ q, q ≠ 127 → C'.1 q = C1.1 q) ∧ C'.2 = C1.2 ∧ ∀ i, i < n → C'.1 127 i = nI (el A 20 i)) ∧
      (∀ C1 : Mem, ∃ C', fc_readSet_2 C1 a = some (nI n, C') ∧ (∀ q, q ≠ 131 → C'.1 q = C1.1 q) ∧ C'.2 = C1.2 ∧ ∀ i, i < n → C'.1 131 i = nI (el A 20 i))) := by
  obtain ⟨e0, l0, u0⟩ := h.1.1.1
  have eJ := t_ix l0
  have oJ := of_ix l0
  generalize ix (N.1 156 0) = J at eJ oJ
  have hJ : J ≤ 20 := by omega
  obtain ⟨X, hX, rfl⟩ := nat_of a
  rw [isSet_e hJ (e0.trans oJ) hX, mems_e hJ oJ hX]
  obtain ⟨-, -, -, e, f⟩ := msk_n J hJ
  by_cases q : X < 2 ^ J
  · rw [if_pos q, if_pos q]
    obtain ⟨x1, x2⟩ := el_ext q 20 hJ
    obtain ⟨N', r1, r2, r3⟩ := mem_L (A := X) (by omega) hJ J 0 (by omega) N oJ (by simp [bct]) (fun i hi => by simp [bct] at hi) FU (by rw [FU_eq]; omega)
    rw [show bct X 0 = 0 from rfl, show nI 0 = 0 from rfl] at r3
    rcases r3 with ⟨a1, a2, a3⟩ | ⟨a1, a2⟩
    · refine Or.inr ⟨by rw [if_neg (by omega)], X, bct X 20, by omega, rfl, by omega, rfl, fun M => bits_e (by omega), fun i hi => ?_, ⟨N', by rw [x1]; exact a2, r1, r2, fun i hi => by rw [x2]; exact a3 i (by omega)⟩, fun C1 => ?_, fun C1 => ?_⟩
      · rw [x2]
        have := el_lt X J i (by omega)
        omega
      · exact fc_readSet_L4_e (by omega) (by omega) 20 0 (by omega) C1 (fun i hi => by simp [bct] at hi) FU (by rw [FU_eq]; omega)
      · exact fc_readSet_2_L4_e (by omega) (by omega) 20 0 (by omega) C1 (fun i hi => by simp [bct] at hi) FU (by rw [FU_eq]; omega)
    · exact Or.inl ⟨by rw [if_pos (by omega)], N', a2, r1, r2⟩
  · rw [if_neg q, if_neg q]
    exact Or.inl ⟨rfl, N, rfl, fun _ _ => rfl, rfl⟩
