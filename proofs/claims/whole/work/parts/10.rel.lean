/-- bounds of an int -/
def bd (x : Int32) (lo hi : Int) : Prop := lo ≤ x.toInt ∧ x.toInt ≤ hi
/-- a law's nine numbers -/
def lawok (v : Nat → Int32) : Prop := bd (v 0) 1 99 ∧ bd (v 1) 1 9 ∧ bd (v 2) 1 9 ∧ bd (v 3) 0 99 ∧ bd (v 4) 0 9 ∧ bd (v 5) 0 99 ∧ bd (v 6) 0 99 ∧ bd (v 7) 0 9 ∧ bd (v 8) 1 9
def NS (C N : Mem) : Prop :=
  (C.1 20 1 = N.1 156 0 ∧ bd (N.1 156 0) (0) 20) ∧ (C.1 20 3 = N.1 156 1 ∧ bd (N.1 156 1) (0) 6) ∧ (C.1 20 7 = N.1 156 2 ∧ bd (N.1 156 2) (0) 6) ∧ (C.1 20 10 = N.1 156 3 ∧ bd (N.1 156 3) (0) 10) ∧ (C.1 20 12 = N.1 156 5 ∧ bd (N.1 156 5) (-50) 50) ∧ (C.1 20 13 = N.1 156 6 ∧ bd (N.1 156 6) (0) 60) ∧ (C.1 20 14 = N.1 156 7 ∧ bd (N.1 156 7) (0) 255) ∧
  (C.1 20 4 = N.1 156 4 ∧ -1 ≤ (N.1 156 4).toInt ∧ (N.1 156 4).toInt < (N.1 156 1).toInt) ∧ C.1 20 15 = N.1 156 8
def NJ (C N : Mem) : Prop := ∀ j : Nat, (j : Int) < (N.1 156 0).toInt → (C.1 (j + 22) 0 = N.1 142 j ∧ bd (N.1 142 j) 0 5) ∧ (C.1 (j + 22) 1 = N.1 143 j ∧ bd (N.1 143 j) 0 255) ∧ (C.1 (j + 22) 2 = N.1 144 j ∧ bd (N.1 144 j) 1 30) ∧ (C.1 (j + 22) 3 = N.1 145 j ∧ bd (N.1 145 j) 0 99) ∧ (C.1 (j + 22) 4 = N.1 146 j ∧ bd (N.1 146 j) 0 1)
def NL (C N : Mem) : Prop := ∀ w : Nat, (w : Int) < (N.1 156 1).toInt → (∀ i, i < 9 → C.1 (w + 50) i = N.1 148 (9 * w + i)) ∧ lawok (fun i => C.1 (w + 50) i)
def NF (C : Mem) : Prop := ∀ i, i < 9 → C.1 56 i = sv0.getD i 0
def NA (c : Nat) (C N : Mem) : Prop := ∀ a : Nat, (a : Int) < (N.1 156 2).toInt → (C.1 (a + 58) 0 = N.1 149 a ∧ bd (N.1 149 a) 0 99) ∧ (C.1 (a + 58) 1 = N.1 150 a ∧ bd (N.1 150 a) 0 (99 * c)) ∧ (C.1 (a + 58) 2 = N.1 151 a ∧ 0 ≤ (N.1 151 a).toInt ∧ (N.1 151 a).toInt ≤ (N.1 150 a).toInt)
def NP (C N : Mem) : Prop := ∀ q : Nat, (q : Int) < (N.1 156 3).toInt → (C.1 64 q = N.1 153 q ∧ bd (N.1 153 q) 1 60) ∧ (C.1 65 q = N.1 154 q ∧ bd (N.1 154 q) 1 99)
def NW (C N : Mem) : Prop := ∀ h : Nat, h < 12 → C.1 66 h = N.1 155 h ∧ bd (N.1 155 h) 0 9
def NV (c : Nat) (C N : Mem) : Prop := (C.1 67 0 = -1 ∧ N.1 157 0 = 0) ∨ (N.1 157 0 = 1 ∧ (C.1 67 0 = N.1 157 1 ∧ 0 ≤ (N.1 157 1).toInt ∧ (N.1 157 1).toInt < (N.1 156 2).toInt) ∧ (C.1 67 2 = N.1 157 2 ∧ bd (N.1 157 2) 0 20) ∧ (C.1 67 5 = N.1 157 3 ∧ 0 ≤ (N.1 157 3).toInt ∧ (N.1 157 3).toInt ≤ (N.1 157 2).toInt) ∧ (C.1 67 4 = N.1 157 4 ∧ bd (N.1 157 4) 0 (1000 * c)) ∧ C.1 67 6 = N.1 157 5 ∧ C.1 67 7 = N.1 157 6 ∧ bd (C.1 67 3) 0 255 ∧ (∀ i : Nat, (i : Int) < (N.1 157 2).toInt → C.1 68 i = N.1 157 (i + 8) ∧ 0 ≤ (N.1 157 (i + 8)).toInt ∧ (N.1 157 (i + 8)).toInt < (N.1 156 0).toInt) ∧ (N.1 157 3 = 0 → C.1 67 3 = N.1 157 7) ∧ ∀ i : Nat, (i : Int) + 1 = (N.1 157 3).toInt → C.1 67 3 = N.1 143 (ix (N.1 157 (i + 8))))
def KS (C N : Mem) : Prop :=
  (C.1 69 1 = N.1 159 0 ∧ bd (N.1 159 0) (0) 20) ∧ (C.1 69 3 = N.1 159 1 ∧ bd (N.1 159 1) (0) 6) ∧ (C.1 69 7 = N.1 159 2 ∧ bd (N.1 159 2) (0) 6) ∧ (C.1 69 10 = N.1 159 3 ∧ bd (N.1 159 3) (0) 10) ∧ (C.1 69 12 = N.1 159 5 ∧ bd (N.1 159 5) (-50) 50) ∧ (C.1 69 13 = N.1 159 6 ∧ bd (N.1 159 6) (0) 60) ∧ (C.1 69 14 = N.1 159 7 ∧ bd (N.1 159 7) (0) 255) ∧
  (C.1 69 4 = N.1 159 4 ∧ -1 ≤ (N.1 159 4).toInt ∧ (N.1 159 4).toInt < (N.1 159 1).toInt) ∧ C.1 69 15 = N.1 159 8
def KJ (C N : Mem) : Prop := ∀ j : Nat, (j : Int) < (N.1 159 0).toInt → (C.1 (j + 71) 0 = N.1 159 (j + 49) ∧ bd (N.1 159 (j + 49)) 0 5) ∧ (C.1 (j + 71) 1 = N.1 159 (j + 69) ∧ bd (N.1 159 (j + 69)) 0 255) ∧ (C.1 (j + 71) 2 = N.1 159 (j + 89) ∧ bd (N.1 159 (j + 89)) 1 30) ∧ (C.1 (j + 71) 3 = N.1 159 (j + 109) ∧ bd (N.1 159 (j + 109)) 0 99) ∧ (C.1 (j + 71) 4 = N.1 159 (j + 129) ∧ bd (N.1 159 (j + 129)) 0 1)
def KL (C N : Mem) : Prop := ∀ w : Nat, (w : Int) < (N.1 159 1).toInt → (∀ i, i < 9 → C.1 (w + 99) i = N.1 159 (9 * w + i + 149)) ∧ lawok (fun i => C.1 (w + 99) i)
def KF (C : Mem) : Prop := ∀ i, i < 9 → C.1 105 i = sv0.getD i 0
def KA (c : Nat) (C N : Mem) : Prop := ∀ a : Nat, (a : Int) < (N.1 159 2).toInt → (C.1 (a + 107) 0 = N.1 159 (a + 203) ∧ bd (N.1 159 (a + 203)) 0 99) ∧ (C.1 (a + 107) 1 = N.1 159 (a + 209) ∧ bd (N.1 159 (a + 209)) 0 (99 * c)) ∧ (C.1 (a + 107) 2 = N.1 159 (a + 215) ∧ 0 ≤ (N.1 159 (a + 215)).toInt ∧ (N.1 159 (a + 215)).toInt ≤ (N.1 159 (a + 209)).toInt)
def KP (C N : Mem) : Prop := ∀ q : Nat, (q : Int) < (N.1 159 3).toInt → (C.1 113 q = N.1 159 (q + 231) ∧ bd (N.1 159 (q + 231)) 1 60) ∧ (C.1 114 q = N.1 159 (q + 241) ∧ bd (N.1 159 (q + 241)) 1 99)
def KW (C N : Mem) : Prop := ∀ h : Nat, h < 12 → C.1 115 h = N.1 159 (h + 37) ∧ bd (N.1 159 (h + 37)) 0 9
def KV (c : Nat) (C N : Mem) : Prop := (C.1 116 0 = -1 ∧ N.1 159 9 = 0) ∨ (N.1 159 9 = 1 ∧ (C.1 116 0 = N.1 159 10 ∧ 0 ≤ (N.1 159 10).toInt ∧ (N.1 159 10).toInt < (N.1 159 2).toInt) ∧ (C.1 116 2 = N.1 159 11 ∧ bd (N.1 159 11) 0 20) ∧ (C.1 116 5 = N.1 159 12 ∧ 0 ≤ (N.1 159 12).toInt ∧ (N.1 159 12).toInt ≤ (N.1 159 11).toInt) ∧ (C.1 116 4 = N.1 159 13 ∧ bd (N.1 159 13) 0 (1000 * c)) ∧ C.1 116 6 = N.1 159 14 ∧ C.1 116 7 = N.1 159 15 ∧ bd (C.1 116 3) 0 255 ∧ (∀ i : Nat, (i : Int) < (N.1 159 11).toInt → C.1 117 i = N.1 159 (i + 17) ∧ 0 ≤ (N.1 159 (i + 17)).toInt ∧ (N.1 159 (i + 17)).toInt < (N.1 159 0).toInt) ∧ (N.1 159 12 = 0 → C.1 116 3 = N.1 159 16) ∧ ∀ i : Nat, (i : Int) + 1 = (N.1 159 12).toInt → C.1 116 3 = N.1 159 (ix (N.1 159 (i + 17)) + 69))
/-- a shelf: nothing, a row, or a jetty -/
def RS1 (C N : Mem) (s : Nat) : Prop :=
  (N.1 139 s = -1 ∧ C.1 (s + 2) 0 = -1 ∧ C.1 (s + 2) 1 = 0 ∧ C.1 (s + 2) 2 = -1) ∨
  (∃ t : Nat, t < 5 ∧ N.1 139 s = nI (100 + t) ∧ C.1 (s + 2) 0 = nI t ∧ C.1 (s + 2) 2 = -1 ∧ C.1 (s + 2) 1 = N.1 140 s ∧ bd (N.1 140 s) 0 40 ∧ ∀ i, i < 40 → C.2 (s + 10) i = N.2 141 (40 * s + i)) ∨
  (C.1 (s + 2) 0 = -1 ∧ C.1 (s + 2) 1 = 0 ∧ C.1 (s + 2) 2 = N.1 139 s ∧ 0 ≤ (N.1 139 s).toInt ∧ (N.1 139 s).toInt < (C.1 20 1).toInt)
def RS (C N : Mem) : Prop := ∀ s : Nat, s < 8 → RS1 C N s
def RT (C N : Mem) : Prop := C.1 18 1 = N.1 138 8 ∧ bd (N.1 138 8) 0 160 ∧ ∀ i : Nat, (i : Int) < (N.1 138 8).toInt → C.1 19 i = (N.1 147 i).toInt8.toInt32 ∧ bd (N.1 147 i) 0 255
def RF (C N : Mem) : Prop := C.1 118 0 = N.1 158 2 ∧ C.1 118 1 = N.1 158 3 ∧ C.1 118 2 = N.1 158 4 ∧ C.1 118 3 = N.1 158 5 ∧ C.1 118 4 = N.1 158 6
/-- what the searches leave as they found it -/
def RX (C : Mem) : Prop := (∀ i, i < 6 → C.1 128 i = 0) ∧ ∀ i, i < 6 → C.1 134 i = 0
def RN (c : Nat) (C N : Mem) : Prop := NS C N ∧ NJ C N ∧ NL C N ∧ NF C ∧ NA c C N ∧ NP C N ∧ NW C N ∧ NV c C N
def RK (c : Nat) (C N : Mem) : Prop := KS C N ∧ KJ C N ∧ KL C N ∧ KF C ∧ KA c C N ∧ KP C N ∧ KW C N ∧ KV c C N
/-- the class's memory C and the reference's N tell the same, after c calls -/
def Rel (c : Nat) (C N : Mem) : Prop := RN c C N ∧ RS C N ∧ RT C N ∧ RF C N ∧ RX C ∧ KF C ∧ ((C.1 0 4 = 0 ∧ N.1 138 21 = 0) ∨ (C.1 0 4 = 1 ∧ N.1 138 21 = 1 ∧ RK c C N))
-- numbers
theorem t_add {a b : Int32} (h : -2147483648 ≤ a.toInt + b.toInt) (h2 : a.toInt + b.toInt < 2147483648) : (a + b).toInt = a.toInt + b.toInt := by
  rw [Int32.toInt_add]
  exact Int.bmod_eq_of_le (by omega) (by omega)
theorem t_sub {a b : Int32} (h : -2147483648 ≤ a.toInt - b.toInt) (h2 : a.toInt - b.toInt < 2147483648) : (a - b).toInt = a.toInt - b.toInt := by
  rw [Int32.toInt_sub]
  exact Int.bmod_eq_of_le (by omega) (by omega)
theorem t_mul {a b : Int32} (h : -2147483648 ≤ a.toInt * b.toInt) (h2 : a.toInt * b.toInt < 2147483648) : (a * b).toInt = a.toInt * b.toInt := by
  rw [Int32.toInt_mul]
  exact Int.bmod_eq_of_le (by omega) (by omega)
theorem t_neg {a : Int32} (h : -2147483648 < a.toInt) : (-a).toInt = -a.toInt := by
  have h3 := Int32.toInt_lt a
  rw [Int32.toInt_neg]
  exact Int.bmod_eq_of_le (by omega) (by omega)
theorem t_lt {a b : Int32} : a < b ↔ a.toInt < b.toInt := Int32.lt_iff_toInt_lt
theorem t_le {a b : Int32} : a ≤ b ↔ a.toInt ≤ b.toInt := Int32.le_iff_toInt_le
theorem t_eq {a b : Int32} : a = b ↔ a.toInt = b.toInt := Int32.toInt_inj.symm
theorem t_ix {a : Int32} (h : 0 ≤ a.toInt) : ((ix a : Nat) : Int) = a.toInt := by
  have h1 : ¬ a < 0 := fun q => by
    have := t_lt.mp q
    have h0 : (0 : Int32).toInt = 0 := by decide
    omega
  obtain ⟨j, h2, rfl⟩ := nI_of h1
  show (((nI j).toNatClampNeg : Nat) : Int) = _
  rw [nI_clamp h2, nI_toInt h2]
theorem t_nI {n : Nat} (h : n < 2147483648) : (nI n).toInt = (n : Int) := nI_toInt (by omega)
theorem ix_nI {n : Nat} (h : n < 2147483648) : ix (nI n) = n := nI_clamp (by omega)
theorem t_inb {a : Int32} {n : Nat} : inb a n ↔ 0 ≤ a.toInt ∧ a.toInt < n := ⟨fun h => vp_in_iff.mp (inb_vp h), fun h => inb_of (vp_in_iff.mpr h)⟩
theorem of_ix {a : Int32} (h : 0 ≤ a.toInt) : a = nI (ix a) := by
  have h3 := Int32.toInt_lt a
  rw [t_eq, t_nI (by have := t_ix h; omega), t_ix h]
-- memory
theorem wI_1 (M : Mem) (k i : Nat) (v : Int32) (a b : Nat) : (wI M k i v).1 a b = if a = k ∧ b = i then v else M.1 a b := by
  simp only [wI, rowI, upd]
  by_cases h : a = k
  · subst h; by_cases h2 : b = i <;> simp [upd, vp_updL, h2]
  · simp [h]
theorem wI_2 (M : Mem) (k i : Nat) (v : Int32) : (wI M k i v).2 = M.2 := rfl
theorem wL_1 (M : Mem) (k i : Nat) (v : Int64) : (wL M k i v).1 = M.1 := rfl
theorem wL_2 (M : Mem) (k i : Nat) (v : Int64) (a b : Nat) : (wL M k i v).2 a b = if a = k ∧ b = i then v else M.2 a b := by
  simp only [wL, rowL, vp_updL]
  by_cases h : a = k
  · subst h; by_cases h2 : b = i <;> simp [upd, vp_updL, h2]
  · simp [h]
theorem wI_row (M : Mem) (k i : Nat) (v : Int32) {a : Nat} (h : a ≠ k) : (wI M k i v).1 a = M.1 a := by simp [wI, rowI, h]
theorem wL_row (M : Mem) (k i : Nat) (v : Int64) {a : Nat} (h : a ≠ k) : (wL M k i v).2 a = M.2 a := by simp [wL, rowL, h]
theorem gd_t {α : Type} {c : Prop} [Decidable c] {x : Option α} (h : c) : gd c x = x := if_pos h
theorem ilet_e {α : Type} (v : Int32) (f : Int32 → Option α) : ilet v f = f v := rfl
theorem llet_e {α : Type} (v : Int64) (f : Int64 → Option α) : llet v f = f v := rfl
theorem mlet_e {α : Type} (v : Mem) (f : Mem → Option α) : mlet v f = f v := rfl
theorem jlet_e {α β : Type} (t : β → Option α) (b : (β → Option α) → Option α) : jlet t b = b t := rfl
/-- rows lo to hi are the same -/
def same (lo hi : Nat) (M M' : Mem) : Prop := ∀ k, lo ≤ k → k ≤ hi → M'.1 k = M.1 k ∧ M'.2 k = M.2 k
