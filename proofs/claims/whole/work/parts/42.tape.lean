-- the tape's letters
theorem byte_c {x : Int32} (h : bd x 0 255) : (x.toInt ≤ 127 ∧ x.toInt8.toInt32 = x) ∨ (128 ≤ x.toInt ∧ x.toInt8.toInt32.toInt < 0) := by
  obtain ⟨h1, h2⟩ := h
  have e : x.toInt8.toInt32.toInt = x.toInt.bmod 256 := by rw [Int8.toInt_toInt32, Int32.toInt_toInt8]
  by_cases q : x.toInt ≤ 127
  · refine Or.inl ⟨q, t_eq.mpr ?_⟩
    rw [e]
    exact Int.bmod_eq_of_le (by omega) (by omega)
  · refine Or.inr ⟨by omega, ?_⟩
    rw [e]
    have : x.toInt.bmod 256 = x.toInt - 256 := by
      rw [Int.bmod_def]
      rw [Int.emod_eq_of_lt (by omega) (by omega), if_neg (by omega)]
      rfl
    omega
def CH (C N : Mem) (Z : Nat) : Prop := C.1 18 1 = nI Z ∧ N.1 138 8 = nI Z ∧ Z ≤ 160 ∧ ∀ i, i < Z → bd (N.1 147 i) 0 255 ∧ (((N.1 147 i).toInt ≤ 127 ∧ C.1 19 i = N.1 147 i) ∨ (128 ≤ (N.1 147 i).toInt ∧ (C.1 19 i).toInt < 0))
theorem CH.of {C N : Mem} (h : RT C N) : CH C N (ix (N.1 138 8)) := by
  obtain ⟨h1, ⟨h2, h3⟩, h4⟩ := h
  have e := t_ix h2
  refine ⟨h1.trans (of_ix h2), of_ix h2, by omega, fun i hi => ?_⟩
  obtain ⟨g1, g2⟩ := h4 i (by omega)
  refine ⟨g2, ?_⟩
  rw [g1]
  exact byte_c g2
