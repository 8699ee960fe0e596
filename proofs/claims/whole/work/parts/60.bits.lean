-- bits
theorem nI_bv (a : Nat) : (nI a).toBitVec = BitVec.ofNat 32 a := rfl
theorem nI_and (a b : Nat) : nI a &&& nI b = nI (a &&& b) := by
  apply Int32.toBitVec_inj.mp
  rw [Int32.toBitVec_and, nI_bv, nI_bv, nI_bv, BitVec.ofNat_and]
theorem nI_ad (a b : Nat) : nI a + nI b = nI (a + b) := by
  apply Int32.toBitVec_inj.mp
  rw [Int32.toBitVec_add, nI_bv, nI_bv, nI_bv, BitVec.ofNat_add]
theorem nI_sub {a b : Nat} (h : b ≤ a) : nI a - nI b = nI (a - b) := by
  have := nI_ad (a - b) b
  rw [Nat.sub_add_cancel h] at this
  rw [← this, Int32.add_sub_cancel]
theorem sh_m : ∀ j, j < 32 → ((BitVec.ofNat 32 j &&& 31#32) % 32#32) = BitVec.ofNat 32 j := by decide
theorem sh_s : ∀ j, j < 32 → (nI j &&& 31).toBitVec.smod 32 = BitVec.ofNat 32 j := by decide
theorem nI_shr {a s : Nat} (ha : a < 4294967296) (hs : s < 32) : ushr (nI a) (nI s) = nI (a / 2 ^ s) := by
  apply Int32.toBitVec_inj.mp
  unfold ushr
  show ((nI a).toUInt32 >>> ((nI s).toUInt32 &&& 31)).toBitVec = _
  rw [UInt32.toBitVec_shiftRight]
  show BitVec.ofNat 32 a >>> ((BitVec.ofNat 32 s &&& 31#32) % 32#32) = BitVec.ofNat 32 _
  rw [sh_m s hs]
  apply BitVec.eq_of_toNat_eq
  rw [BitVec.ushiftRight_eq', BitVec.toNat_ushiftRight, BitVec.toNat_ofNat, BitVec.toNat_ofNat, BitVec.toNat_ofNat, Nat.mod_eq_of_lt (a := s) (by omega), Nat.mod_eq_of_lt (a := a) (by omega), Nat.shiftRight_eq_div_pow]
  have := Nat.div_le_self a (2 ^ s)
  exact (Nat.mod_eq_of_lt (by omega)).symm
theorem nI_t {a : Nat} (h : a < 2147483648) : (nI a).toInt = a := by
  show (Int32.ofNat a).toInt = _
  exact Int32.toInt_ofNat_of_lt (by omega)
theorem nI_sar {a j : Nat} (ha : a < 2147483648) (hs : j < 32) : nI a >>> (nI j &&& 31) = nI (a / 2 ^ j) := by
  apply Int32.toInt_inj.mp
  have := Nat.div_le_self a (2 ^ j)
  rw [nI_t (show a / 2 ^ j < 2147483648 by omega)]
  show (nI a >>> (nI j &&& 31)).toBitVec.toInt = _
  rw [Int32.toBitVec_shiftRight, sh_s j hs, BitVec.toInt_sshiftRight', BitVec.toNat_ofNat, Nat.mod_eq_of_lt (a := j) (by omega)]
  show (nI a).toInt >>> j = _
  rw [nI_t ha, Int.shiftRight_eq_div_pow]
  simp
theorem nI_b1 (a : Nat) : nI a &&& 1 = nI (a % 2) := by
  show nI a &&& nI 1 = _
  rw [nI_and, Nat.and_one_is_mod]
-- bytes
def bv1 (b : Nat) : Nat := b - (b / 2 &&& 85)
def bv2 (b : Nat) : Nat := (bv1 b &&& 51) + (bv1 b / 4 &&& 51)
def bv3 (b : Nat) : Nat := (bv2 b + bv2 b / 16) &&& 15
theorem land3 (y m : Nat) : y &&& m = (y % 256 &&& m % 256) + 256 * ((y / 256 % 256 &&& m / 256 % 256) + 256 * (y / 65536 &&& m / 65536)) := by
  have h1 := @Nat.and_mod_two_pow y m 8
  have h2 := @Nat.and_div_two_pow y m 8
  have h3 := @Nat.and_mod_two_pow (y / 256) (m / 256) 8
  have h4 := @Nat.and_div_two_pow (y / 256) (m / 256) 8
  simp only [Nat.reducePow, Nat.div_div_eq_div_mul, Nat.reduceMul] at h1 h2 h3 h4
  omega
theorem by_1 : ∀ x, x < 256 → (∀ b, b < 2 → (x / 2 + 128 * b) &&& 85 = (x / 2 &&& 85)) ∧ (x / 2 &&& 85) ≤ x ∧ bv1 x < 256 := by decide +kernel
theorem by_2 : ∀ x, x < 256 → (∀ b, b < 4 → (bv1 x / 4 + 64 * b) &&& 51 = (bv1 x / 4 &&& 51)) ∧ bv2 x < 256 := by decide +kernel
theorem by_3 : ∀ x, x < 256 → (∀ b, b < 16 → (bv2 x + bv2 x / 16 + 16 * b) &&& 15 = bv3 x) ∧ bv2 x + bv2 x / 16 + 240 < 512 := by decide +kernel
theorem by_c : ∀ x, x < 256 → bv3 x = x % 2 + x / 2 % 2 + x / 4 % 2 + x / 8 % 2 + x / 16 % 2 + x / 32 % 2 + x / 64 % 2 + x / 128 % 2 := by decide +kernel
theorem by_4 : ∀ x, x < 16 → (x / 2 &&& 21845) = (x / 2 &&& 85) ∧ bv1 x < 16 ∧ (bv1 x &&& 13107) = (bv1 x &&& 51) ∧ (bv1 x / 4 &&& 13107) = (bv1 x / 4 &&& 51) ∧ bv2 x < 16 ∧ ((bv2 x + bv2 x / 16) &&& 3855) = bv3 x := by decide +kernel
theorem by_5 : ∀ x, x < 256 → bv2 x ≤ 68 ∧ bv2 x % 16 ≤ 4 ∧ bv3 x ≤ 8 := by decide +kernel
theorem v1_e {x0 x1 x2 : Nat} (h0 : x0 < 256) (h1 : x1 < 256) (h2 : x2 < 16) {A : Nat} (hA : A = x0 + 256 * (x1 + 256 * x2)) : (A / 2 &&& 1431655765) ≤ A ∧ A - (A / 2 &&& 1431655765) = bv1 x0 + 256 * (bv1 x1 + 256 * bv1 x2) := by
  rw [land3 (A / 2), show A / 2 % 256 = x0 / 2 + 128 * (x1 % 2) by omega, show A / 2 / 256 % 256 = x1 / 2 + 128 * (x2 % 2) by omega, show A / 2 / 65536 = x2 / 2 by omega, show 1431655765 % 256 = 85 from rfl, show 1431655765 / 65536 = 21845 from rfl, (by_1 x0 h0).1 _ (by omega), (by_1 x1 h1).1 _ (by omega), (by_4 x2 h2).1]
  have a0 := (by_1 x0 h0).2.1
  have a1 := (by_1 x1 h1).2.1
  have a2 := (by_1 x2 (by omega)).2.1
  unfold bv1
  omega
theorem v2_e {x0 x1 x2 : Nat} (h0 : x0 < 256) (h1 : x1 < 256) (h2 : x2 < 16) {B : Nat} (hB : B = bv1 x0 + 256 * (bv1 x1 + 256 * bv1 x2)) : (B &&& 858993459) + (B / 4 &&& 858993459) = bv2 x0 + 256 * (bv2 x1 + 256 * bv2 x2) := by
  have a0 := (by_1 x0 h0).2.2
  have a1 := (by_1 x1 h1).2.2
  obtain ⟨-, a2, a3, a4, -⟩ := by_4 x2 h2
  rw [land3 B, land3 (B / 4), show B % 256 = bv1 x0 by omega, show B / 256 % 256 = bv1 x1 by omega, show B / 65536 = bv1 x2 by omega, show B / 4 % 256 = bv1 x0 / 4 + 64 * (bv1 x1 % 4) by omega, show B / 4 / 256 % 256 = bv1 x1 / 4 + 64 * (bv1 x2 % 4) by omega, show B / 4 / 65536 = bv1 x2 / 4 by omega, show 858993459 % 256 = 51 from rfl, show 858993459 / 65536 = 13107 from rfl, (by_2 x0 h0).1 _ (by omega), (by_2 x1 h1).1 _ (by omega), a3, a4]
  unfold bv2
  omega
theorem v3_e {x0 x1 x2 : Nat} (h0 : x0 < 256) (h1 : x1 < 256) (h2 : x2 < 16) {D : Nat} (hD : D = bv2 x0 + 256 * (bv2 x1 + 256 * bv2 x2)) : (D + D / 16) &&& 252645135 = bv3 x0 + 256 * (bv3 x1 + 256 * bv3 x2) := by
  have b0 := by_5 x0 h0
  have b1 := by_5 x1 h1
  have b2 := by_5 x2 (by omega)
  obtain ⟨-, -, -, -, -, a5⟩ := by_4 x2 h2
  have e : D + D / 16 = (bv2 x0 + bv2 x0 / 16 + 16 * (bv2 x1 % 16)) + 256 * ((bv2 x1 + bv2 x1 / 16 + 16 * (bv2 x2 % 16)) + 256 * (bv2 x2 + bv2 x2 / 16)) := by omega
  rw [e]
  have c0 : bv2 x0 + bv2 x0 / 16 + 16 * (bv2 x1 % 16) < 256 := by omega
  have c1 : bv2 x1 + bv2 x1 / 16 + 16 * (bv2 x2 % 16) < 256 := by omega
  have d0 := (by_3 x0 h0).1 (bv2 x1 % 16) (by omega)
  have d1 := (by_3 x1 h1).1 (bv2 x2 % 16) (by omega)
  generalize bv2 x0 + bv2 x0 / 16 + 16 * (bv2 x1 % 16) = p0 at c0 d0 ⊢
  generalize bv2 x1 + bv2 x1 / 16 + 16 * (bv2 x2 % 16) = p1 at c1 d1 ⊢
  generalize bv2 x2 + bv2 x2 / 16 = p2 at a5 ⊢
  rw [land3 (p0 + 256 * (p1 + 256 * p2)), show (p0 + 256 * (p1 + 256 * p2)) % 256 = p0 by omega, show (p0 + 256 * (p1 + 256 * p2)) / 256 % 256 = p1 by omega, show (p0 + 256 * (p1 + 256 * p2)) / 65536 = p2 by omega, show 252645135 % 256 = 15 from rfl, show 252645135 / 65536 = 3855 from rfl, d0, d1, a5]
/-- how many of the first k bits are set -/
def bct (A : Nat) : Nat → Nat
  | 0 => 0
  | k + 1 => bct A k + A / 2 ^ k % 2
theorem bct_s (A k : Nat) : bct A (k + 1) = bct A k + A / 2 ^ k % 2 := rfl
theorem bit_0 {x0 x1 x2 A : Nat} (h0 : x0 < 256) (h1 : x1 < 256) (h2 : x2 < 16) (hA : A = x0 + 256 * (x1 + 256 * x2)) : A / 2 ^ 0 % 2 = x0 % 2 := by simp only [Nat.reducePow]; omega
theorem bit_1 {x0 x1 x2 A : Nat} (h0 : x0 < 256) (h1 : x1 < 256) (h2 : x2 < 16) (hA : A = x0 + 256 * (x1 + 256 * x2)) : A / 2 ^ 1 % 2 = x0 / 2 % 2 := by simp only [Nat.reducePow]; omega
theorem bit_2 {x0 x1 x2 A : Nat} (h0 : x0 < 256) (h1 : x1 < 256) (h2 : x2 < 16) (hA : A = x0 + 256 * (x1 + 256 * x2)) : A / 2 ^ 2 % 2 = x0 / 4 % 2 := by simp only [Nat.reducePow]; omega
theorem bit_3 {x0 x1 x2 A : Nat} (h0 : x0 < 256) (h1 : x1 < 256) (h2 : x2 < 16) (hA : A = x0 + 256 * (x1 + 256 * x2)) : A / 2 ^ 3 % 2 = x0 / 8 % 2 := by simp only [Nat.reducePow]; omega
theorem bit_4 {x0 x1 x2 A : Nat} (h0 : x0 < 256) (h1 : x1 < 256) (h2 : x2 < 16) (hA : A = x0 + 256 * (x1 + 256 * x2)) : A / 2 ^ 4 % 2 = x0 / 16 % 2 := by simp only [Nat.reducePow]; omega
theorem bit_5 {x0 x1 x2 A : Nat} (h0 : x0 < 256) (h1 : x1 < 256) (h2 : x2 < 16) (hA : A = x0 + 256 * (x1 + 256 * x2)) : A / 2 ^ 5 % 2 = x0 / 32 % 2 := by simp only [Nat.reducePow]; omega
theorem bit_6 {x0 x1 x2 A : Nat} (h0 : x0 < 256) (h1 : x1 < 256) (h2 : x2 < 16) (hA : A = x0 + 256 * (x1 + 256 * x2)) : A / 2 ^ 6 % 2 = x0 / 64 % 2 := by simp only [Nat.reducePow]; omega
theorem bit_7 {x0 x1 x2 A : Nat} (h0 : x0 < 256) (h1 : x1 < 256) (h2 : x2 < 16) (hA : A = x0 + 256 * (x1 + 256 * x2)) : A / 2 ^ 7 % 2 = x0 / 128 % 2 := by simp only [Nat.reducePow]; omega
theorem bit_8 {x0 x1 x2 A : Nat} (h0 : x0 < 256) (h1 : x1 < 256) (h2 : x2 < 16) (hA : A = x0 + 256 * (x1 + 256 * x2)) : A / 2 ^ 8 % 2 = x1 % 2 := by simp only [Nat.reducePow]; omega
theorem bit_9 {x0 x1 x2 A : Nat} (h0 : x0 < 256) (h1 : x1 < 256) (h2 : x2 < 16) (hA : A = x0 + 256 * (x1 + 256 * x2)) : A / 2 ^ 9 % 2 = x1 / 2 % 2 := by simp only [Nat.reducePow]; omega
theorem bit_10 {x0 x1 x2 A : Nat} (h0 : x0 < 256) (h1 : x1 < 256) (h2 : x2 < 16) (hA : A = x0 + 256 * (x1 + 256 * x2)) : A / 2 ^ 10 % 2 = x1 / 4 % 2 := by simp only [Nat.reducePow]; omega
theorem bit_11 {x0 x1 x2 A : Nat} (h0 : x0 < 256) (h1 : x1 < 256) (h2 : x2 < 16) (hA : A = x0 + 256 * (x1 + 256 * x2)) : A / 2 ^ 11 % 2 = x1 / 8 % 2 := by simp only [Nat.reducePow]; omega
theorem bit_12 {x0 x1 x2 A : Nat} (h0 : x0 < 256) (h1 : x1 < 256) (h2 : x2 < 16) (hA : A = x0 + 256 * (x1 + 256 * x2)) : A / 2 ^ 12 % 2 = x1 / 16 % 2 := by simp only [Nat.reducePow]; omega
theorem bit_13 {x0 x1 x2 A : Nat} (h0 : x0 < 256) (h1 : x1 < 256) (h2 : x2 < 16) (hA : A = x0 + 256 * (x1 + 256 * x2)) : A / 2 ^ 13 % 2 = x1 / 32 % 2 := by simp only [Nat.reducePow]; omega
theorem bit_14 {x0 x1 x2 A : Nat} (h0 : x0 < 256) (h1 : x1 < 256) (h2 : x2 < 16) (hA : A = x0 + 256 * (x1 + 256 * x2)) : A / 2 ^ 14 % 2 = x1 / 64 % 2 := by simp only [Nat.reducePow]; omega
theorem bit_15 {x0 x1 x2 A : Nat} (h0 : x0 < 256) (h1 : x1 < 256) (h2 : x2 < 16) (hA : A = x0 + 256 * (x1 + 256 * x2)) : A / 2 ^ 15 % 2 = x1 / 128 % 2 := by simp only [Nat.reducePow]; omega
theorem bit_16 {x0 x1 x2 A : Nat} (h0 : x0 < 256) (h1 : x1 < 256) (h2 : x2 < 16) (hA : A = x0 + 256 * (x1 + 256 * x2)) : A / 2 ^ 16 % 2 = x2 % 2 := by simp only [Nat.reducePow]; omega
theorem bit_17 {x0 x1 x2 A : Nat} (h0 : x0 < 256) (h1 : x1 < 256) (h2 : x2 < 16) (hA : A = x0 + 256 * (x1 + 256 * x2)) : A / 2 ^ 17 % 2 = x2 / 2 % 2 := by simp only [Nat.reducePow]; omega
theorem bit_18 {x0 x1 x2 A : Nat} (h0 : x0 < 256) (h1 : x1 < 256) (h2 : x2 < 16) (hA : A = x0 + 256 * (x1 + 256 * x2)) : A / 2 ^ 18 % 2 = x2 / 4 % 2 := by simp only [Nat.reducePow]; omega
theorem bit_19 {x0 x1 x2 A : Nat} (h0 : x0 < 256) (h1 : x1 < 256) (h2 : x2 < 16) (hA : A = x0 + 256 * (x1 + 256 * x2)) : A / 2 ^ 19 % 2 = x2 / 8 % 2 := by simp only [Nat.reducePow]; omega
theorem bct_20 {x0 x1 x2 : Nat} (h0 : x0 < 256) (h1 : x1 < 256) (h2 : x2 < 16) {A : Nat} (hA : A = x0 + 256 * (x1 + 256 * x2)) : bct A 20 = bv3 x0 + bv3 x1 + bv3 x2 := by
  have z4 : x2 / 16 % 2 = 0 := by omega
  have z5 : x2 / 32 % 2 = 0 := by omega
  have z6 : x2 / 64 % 2 = 0 := by omega
  have z7 : x2 / 128 % 2 = 0 := by omega
  rw [by_c x0 h0, by_c x1 h1, by_c x2 (by omega), bct_s A 19, bct_s A 18, bct_s A 17, bct_s A 16, bct_s A 15, bct_s A 14, bct_s A 13, bct_s A 12, bct_s A 11, bct_s A 10, bct_s A 9, bct_s A 8, bct_s A 7, bct_s A 6, bct_s A 5, bct_s A 4, bct_s A 3, bct_s A 2, bct_s A 1, bct_s A 0, bct, bit_0 h0 h1 h2 hA, bit_1 h0 h1 h2 hA, bit_2 h0 h1 h2 hA, bit_3 h0 h1 h2 hA, bit_4 h0 h1 h2 hA, bit_5 h0 h1 h2 hA, bit_6 h0 h1 h2 hA, bit_7 h0 h1 h2 hA, bit_8 h0 h1 h2 hA, bit_9 h0 h1 h2 hA, bit_10 h0 h1 h2 hA, bit_11 h0 h1 h2 hA, bit_12 h0 h1 h2 hA, bit_13 h0 h1 h2 hA, bit_14 h0 h1 h2 hA, bit_15 h0 h1 h2 hA, bit_16 h0 h1 h2 hA, bit_17 h0 h1 h2 hA, bit_18 h0 h1 h2 hA, bit_19 h0 h1 h2 hA, z4, z5, z6, z7]
  simp only [Nat.zero_add, Nat.add_zero, Nat.add_assoc]
theorem bits_e {M : Mem} {A : Nat} (hA : A < 1048576) : fInteger_bitCount M (nI A) = some (nI (bct A 20)) := by
  obtain ⟨x0, hx0⟩ : ∃ x, x = A % 256 := ⟨_, rfl⟩
  obtain ⟨x1, hx1⟩ : ∃ x, x = A / 256 % 256 := ⟨_, rfl⟩
  obtain ⟨x2, hx2⟩ : ∃ x, x = A / 65536 := ⟨_, rfl⟩
  have h0 : x0 < 256 := by omega
  have h1 : x1 < 256 := by omega
  have h2 : x2 < 16 := by omega
  have e : A = x0 + 256 * (x1 + 256 * x2) := by omega
  obtain ⟨l1, q1⟩ := v1_e h0 h1 h2 e
  have q2 := v2_e h0 h1 h2 q1
  have q3 := v3_e h0 h1 h2 q2
  have b0 := by_5 x0 h0
  have b1 := by_5 x1 h1
  have b2 := by_5 x2 (by omega)
  have c := bct_20 h0 h1 h2 e
  have w0 := (by_1 x0 h0).2.2
  have w1 := (by_1 x1 h1).2.2
  have w2 := (by_1 x2 (by omega)).2.2
  unfold fInteger_bitCount ilet
  dsimp only
  rw [show (1 : Int32) = nI 1 from rfl, show (2 : Int32) = nI 2 from rfl, show (4 : Int32) = nI 4 from rfl, show (8 : Int32) = nI 8 from rfl, show (16 : Int32) = nI 16 from rfl, show (1431655765 : Int32) = nI 1431655765 from rfl, show (858993459 : Int32) = nI 858993459 from rfl, show (252645135 : Int32) = nI 252645135 from rfl, show (63 : Int32) = nI 63 from rfl]
  rw [nI_shr (a := A) (s := 1) (by omega) (by omega), nI_and, show A / 2 ^ 1 = A / 2 from rfl, nI_sub l1]
  generalize A - (A / 2 &&& 1431655765) = B at q1 q2 q3 ⊢
  rw [nI_shr (a := B) (s := 2) (by omega) (by omega), nI_and, nI_and, show B / 2 ^ 2 = B / 4 from rfl, nI_ad]
  generalize (B &&& 858993459) + (B / 4 &&& 858993459) = D at q2 q3 ⊢
  rw [nI_shr (a := D) (s := 4) (by omega) (by omega), nI_ad, nI_and, show D / 2 ^ 4 = D / 16 from rfl]
  generalize (D + D / 16) &&& 252645135 = E at q3 ⊢
  rw [nI_shr (a := E) (s := 8) (by omega) (by omega), nI_ad, nI_shr (a := E + E / 2 ^ 8) (s := 16) (by omega) (by omega), nI_ad, nI_and]
  have := @Nat.and_two_pow_sub_one_eq_mod (E + E / 2 ^ 8 + (E + E / 2 ^ 8) / 2 ^ 16) 6
  simp only [Nat.reducePow, Nat.reduceSub] at this ⊢
  have e1 : E / 256 = bv3 x1 + 256 * bv3 x2 := by omega
  have e2 : (E + E / 256) / 65536 = bv3 x2 := by omega
  rw [this, c, e2, e1]
  congr 2
  omega
