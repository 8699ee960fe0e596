theorem NJ_fr {C N C' N' : Mem} (h : NJ C N) (hb : (N.1 156 0).toInt ≤ 20) (h0 : N'.1 156 0 = N.1 156 0) (hC : same 22 41 C C') (hN : same 142 146 N N') : NJ C' N' := by
  intro j hj
  rw [h0] at hj
  rw [(hC (j + 22) (by omega) (by omega)).1, (hN 142 (by omega) (by omega)).1, (hN 143 (by omega) (by omega)).1, (hN 144 (by omega) (by omega)).1, (hN 145 (by omega) (by omega)).1, (hN 146 (by omega) (by omega)).1]
  exact h j hj
theorem NL_fr {C N C' N' : Mem} (h : NL C N) (hb : (N.1 156 1).toInt ≤ 6) (h0 : N'.1 156 1 = N.1 156 1) (hC : same 50 55 C C') (hN : N'.1 148 = N.1 148) : NL C' N' := by
  intro w hw
  rw [h0] at hw
  rw [(hC (w + 50) (by omega) (by omega)).1, hN]
  exact h w hw
theorem NF_fr {C C' : Mem} (h : NF C) (hC : C'.1 56 = C.1 56) : NF C' := by
  intro i hi
  rw [hC]
  exact h i hi
theorem NA_fr {c c' : Nat} {C N C' N' : Mem} (h : NA c C N) (hc : c ≤ c') (hb : (N.1 156 2).toInt ≤ 6) (h0 : N'.1 156 2 = N.1 156 2) (hC : same 58 63 C C') (hN : same 149 151 N N') : NA c' C' N' := by
  intro a ha
  rw [h0] at ha
  rw [(hC (a + 58) (by omega) (by omega)).1, (hN 149 (by omega) (by omega)).1, (hN 150 (by omega) (by omega)).1, (hN 151 (by omega) (by omega)).1]
  obtain ⟨h1, h2, h3⟩ := h a ha
  exact ⟨h1, ⟨h2.1, h2.2.1, by have := h2.2.2; omega⟩, h3⟩
theorem NP_fr {C N C' N' : Mem} (h : NP C N) (h0 : N'.1 156 3 = N.1 156 3) (h1 : C'.1 64 = C.1 64) (h2 : C'.1 65 = C.1 65) (h3 : N'.1 153 = N.1 153) (h4 : N'.1 154 = N.1 154) : NP C' N' := by
  intro q hq
  rw [h0] at hq
  rw [h1, h2, h3, h4]
  exact h q hq
theorem NW_fr {C N C' N' : Mem} (h : NW C N) (h1 : C'.1 66 = C.1 66) (h2 : N'.1 155 = N.1 155) : NW C' N' := by
  intro q hq
  rw [h1, h2]
  exact h q hq
theorem NV_fr {c c' : Nat} {C N C' N' : Mem} (h : NV c C N) (hc : c ≤ c') (h1 : C'.1 67 = C.1 67) (h2 : C'.1 68 = C.1 68) (h3 : N'.1 157 = N.1 157) (h4 : ∀ j : Nat, (j : Int) < (N.1 156 0).toInt → N'.1 143 j = N.1 143 j) (h5 : (N.1 156 0).toInt ≤ (N'.1 156 0).toInt) (h6 : (N.1 156 2).toInt ≤ (N'.1 156 2).toInt) : NV c' C' N' := by
  unfold NV at h ⊢
  rw [h1, h2, h3]
  rcases h with h | ⟨a1, a2, a3, a4, a5, a6, a7, a8, a9, a10, a11⟩
  · exact Or.inl h
  · refine Or.inr ⟨a1, ⟨a2.1, a2.2.1, by have := a2.2.2; omega⟩, a3, a4, ⟨a5.1, a5.2.1, by have := a5.2.2; omega⟩, a6, a7, a8, fun i hi => ?_, a10, fun i hi => ?_⟩
    · obtain ⟨b1, b2, b3⟩ := a9 i hi
      exact ⟨b1, b2, by omega⟩
    · rw [a11 i hi, h4]
      have hd := a4.2.2
      obtain ⟨b1, b2, b3⟩ := a9 i (by omega)
      have := t_ix b2
      omega
/-- the lake that is now alone changes -/
theorem Rel_RN {c : Nat} {C N C' N' : Mem} (h : Rel c C N) (h0 : same 0 19 C C') (h1 : same 69 137 C C') (h2 : same 138 141 N N') (h3 : N'.1 147 = N.1 147) (h4 : same 158 164 N N') (hj : (C.1 20 1).toInt ≤ (C'.1 20 1).toInt) (hR : RN (c + 1) C' N') : Rel (c + 1) C' N' := by
  obtain ⟨a, b, d, e, f, g, k⟩ := h
  have hr0 := fun k (y : k ≤ 19) => (h0 k (Nat.zero_le _) y).1
  have hr := fun k (x : 69 ≤ k) (y : k ≤ 137) => (h1 k x y).1
  have n138 := (h2 138 (by omega) (by omega)).1
  have hn := fun k (x : 158 ≤ k) (y : k ≤ 164) => (h4 k x y).1
  refine ⟨hR, ?_, RT_fr d (by rw [hr0 18 (by omega)]) (hr0 19 (by omega)) (by rw [n138]) h3, RF_fr e (hr 118 (by omega) (by omega)) (hn 158 (by omega) (by omega)), RX_fr f (hr 128 (by omega) (by omega)) (hr 134 (by omega) (by omega)), KF_fr g (hr 105 (by omega) (by omega)), RI_up (RI_fr k (by rw [hr0 0 (by omega)]) (by rw [n138]) (same_s h1 (by omega) (by omega)) (hn 159 (by omega) (by omega))) (Nat.le_succ c)⟩
  intro s hs
  have e1 := hr0 (s + 2) (by omega)
  have e2 := (h0 (s + 10) (Nat.zero_le _) (by omega)).2
  have g1 := (h2 139 (by omega) (by omega)).1
  have g2 := (h2 140 (by omega) (by omega)).1
  have g3 := (h2 141 (by omega) (by omega)).2
  have := b s hs
  unfold RS1 at this ⊢
  simp only [e1, e2, g1, g2, g3]
  rcases this with h | h | ⟨x1, x2, x3, x4, x5⟩
  · exact Or.inl h
  · exact Or.inr (Or.inl h)
  · exact Or.inr (Or.inr ⟨x1, x2, x3, x4, by omega⟩)
theorem mem_fst {M : Mem} {k i : Nat} {v : Int32} {a b : Nat} (h : a ≠ k ∨ b ≠ i) : (wI M k i v).1 a b = M.1 a b := by
  rw [wI_1, if_neg (by omega)]
