set_option maxHeartbeats 1000000 in
theorem RN_fr {c : Nat} {C N C' N' : Mem} (h : RN c C N) (hC : same 20 68 C C') (h1 : same 142 146 N N') (h2 : same 148 157 N N') : RN c C' N' := by
  obtain ⟨hS, hJ, hL, hF, hA, hP, hW, hV⟩ := h
  have e : ∀ k, 20 ≤ k → k ≤ 68 → C'.1 k = C.1 k := fun k a b => (hC k a b).1
  have g142 : N'.1 142 = N.1 142 := (h1 142 (by omega) (by omega)).1
  have g143 : N'.1 143 = N.1 143 := (h1 143 (by omega) (by omega)).1
  have g144 : N'.1 144 = N.1 144 := (h1 144 (by omega) (by omega)).1
  have g145 : N'.1 145 = N.1 145 := (h1 145 (by omega) (by omega)).1
  have g146 : N'.1 146 = N.1 146 := (h1 146 (by omega) (by omega)).1
  have g148 : N'.1 148 = N.1 148 := (h2 148 (by omega) (by omega)).1
  have g149 : N'.1 149 = N.1 149 := (h2 149 (by omega) (by omega)).1
  have g150 : N'.1 150 = N.1 150 := (h2 150 (by omega) (by omega)).1
  have g151 : N'.1 151 = N.1 151 := (h2 151 (by omega) (by omega)).1
  have g152 : N'.1 152 = N.1 152 := (h2 152 (by omega) (by omega)).1
  have g153 : N'.1 153 = N.1 153 := (h2 153 (by omega) (by omega)).1
  have g154 : N'.1 154 = N.1 154 := (h2 154 (by omega) (by omega)).1
  have g155 : N'.1 155 = N.1 155 := (h2 155 (by omega) (by omega)).1
  have g156 : N'.1 156 = N.1 156 := (h2 156 (by omega) (by omega)).1
  have g157 : N'.1 157 = N.1 157 := (h2 157 (by omega) (by omega)).1
  have e20 := e 20 (by omega) (by omega)
  have e56 := e 56 (by omega) (by omega)
  have e64 := e 64 (by omega) (by omega)
  have e65 := e 65 (by omega) (by omega)
  have e66 := e 66 (by omega) (by omega)
  have e67 := e 67 (by omega) (by omega)
  have e68 := e 68 (by omega) (by omega)
  have bj := hS.1.2.2
  have bl := hS.2.1.2.2
  have ba := hS.2.2.1.2.2
  refine ⟨?_, ?_, ?_, ?_, ?_, ?_, ?_, ?_⟩
  · unfold NS at hS ⊢; simp only [e20, e56, e64, e65, e66, e67, e68, g142, g143, g144, g145, g146, g148, g149, g150, g151, g152, g153, g154, g155, g156, g157]; exact hS
  · intro j hj; simp only [e20, e56, e64, e65, e66, e67, e68, g142, g143, g144, g145, g146, g148, g149, g150, g151, g152, g153, g154, g155, g156, g157] at hj ⊢; rw [e (j + 22) (by omega) (by omega)]; exact hJ j hj
  · intro w hw; simp only [e20, e56, e64, e65, e66, e67, e68, g142, g143, g144, g145, g146, g148, g149, g150, g151, g152, g153, g154, g155, g156, g157] at hw ⊢; rw [e (w + 50) (by omega) (by omega)]; exact hL w hw
  · intro i hi; simp only [e20, e56, e64, e65, e66, e67, e68, g142, g143, g144, g145, g146, g148, g149, g150, g151, g152, g153, g154, g155, g156, g157]; exact hF i hi
  · intro a ha; simp only [e20, e56, e64, e65, e66, e67, e68, g142, g143, g144, g145, g146, g148, g149, g150, g151, g152, g153, g154, g155, g156, g157] at ha ⊢; rw [e (a + 58) (by omega) (by omega)]; exact hA a ha
  · intro q hq; simp only [e20, e56, e64, e65, e66, e67, e68, g142, g143, g144, g145, g146, g148, g149, g150, g151, g152, g153, g154, g155, g156, g157] at hq ⊢; exact hP q hq
  · intro q hq; simp only [e20, e56, e64, e65, e66, e67, e68, g142, g143, g144, g145, g146, g148, g149, g150, g151, g152, g153, g154, g155, g156, g157]; exact hW q hq
  · unfold NV at hV ⊢; simp only [e20, e56, e64, e65, e66, e67, e68, g142, g143, g144, g145, g146, g148, g149, g150, g151, g152, g153, g154, g155, g156, g157]; exact hV
set_option maxHeartbeats 1000000 in
theorem RK_fr {c : Nat} {C N C' N' : Mem} (h : RK c C N) (hC : same 69 117 C C') (hN : N'.1 159 = N.1 159) : RK c C' N' := by
  obtain ⟨hS, hJ, hL, hF, hA, hP, hW, hV⟩ := h
  have e : ∀ k, 69 ≤ k → k ≤ 117 → C'.1 k = C.1 k := fun k a b => (hC k a b).1
  have g := hN
  have e69 := e 69 (by omega) (by omega)
  have e105 := e 105 (by omega) (by omega)
  have e113 := e 113 (by omega) (by omega)
  have e114 := e 114 (by omega) (by omega)
  have e115 := e 115 (by omega) (by omega)
  have e116 := e 116 (by omega) (by omega)
  have e117 := e 117 (by omega) (by omega)
  have bj := hS.1.2.2
  have bl := hS.2.1.2.2
  have ba := hS.2.2.1.2.2
  refine ⟨?_, ?_, ?_, ?_, ?_, ?_, ?_, ?_⟩
  · unfold KS at hS ⊢; simp only [e69, e105, e113, e114, e115, e116, e117, g]; exact hS
  · intro j hj; simp only [e69, e105, e113, e114, e115, e116, e117, g] at hj ⊢; rw [e (j + 71) (by omega) (by omega)]; exact hJ j hj
  · intro w hw; simp only [e69, e105, e113, e114, e115, e116, e117, g] at hw ⊢; rw [e (w + 99) (by omega) (by omega)]; exact hL w hw
  · intro i hi; simp only [e69, e105, e113, e114, e115, e116, e117, g]; exact hF i hi
  · intro a ha; simp only [e69, e105, e113, e114, e115, e116, e117, g] at ha ⊢; rw [e (a + 107) (by omega) (by omega)]; exact hA a ha
  · intro q hq; simp only [e69, e105, e113, e114, e115, e116, e117, g] at hq ⊢; exact hP q hq
  · intro q hq; simp only [e69, e105, e113, e114, e115, e116, e117, g]; exact hW q hq
  · unfold KV at hV ⊢; simp only [e69, e105, e113, e114, e115, e116, e117, g]; exact hV
theorem RN_up {c c' : Nat} {C N : Mem} (h : RN c C N) (hc : c ≤ c') : RN c' C N := by
  obtain ⟨hS, hJ, hL, hF, hA, hP, hW, hV⟩ := h
  refine ⟨hS, hJ, hL, hF, ?_, hP, hW, ?_⟩
  · intro a ha
    obtain ⟨h1, h2, h3⟩ := hA a ha
    exact ⟨h1, ⟨h2.1, h2.2.1, by have := h2.2.2; omega⟩, h3⟩
  · rcases hV with h | ⟨h1, h2, h3, h4, h5, h6⟩
    · exact Or.inl h
    · exact Or.inr ⟨h1, h2, h3, h4, ⟨h5.1, h5.2.1, by have := h5.2.2; omega⟩, h6⟩
theorem RK_up {c c' : Nat} {C N : Mem} (h : RK c C N) (hc : c ≤ c') : RK c' C N := by
  obtain ⟨hS, hJ, hL, hF, hA, hP, hW, hV⟩ := h
  refine ⟨hS, hJ, hL, hF, ?_, hP, hW, ?_⟩
  · intro a ha
    obtain ⟨h1, h2, h3⟩ := hA a ha
    exact ⟨h1, ⟨h2.1, h2.2.1, by have := h2.2.2; omega⟩, h3⟩
  · rcases hV with h | ⟨h1, h2, h3, h4, h5, h6⟩
    · exact Or.inl h
    · exact Or.inr ⟨h1, h2, h3, h4, ⟨h5.1, h5.2.1, by have := h5.2.2; omega⟩, h6⟩
theorem RS_fr {C N C' N' : Mem} (h : RS C N) (hC : same 2 17 C C') (hN : same 139 141 N N') (hj : C'.1 20 1 = C.1 20 1) : RS C' N' := by
  intro s hs
  have e1 := (hC (s + 2) (by omega) (by omega)).1
  have e2 := (hC (s + 10) (by omega) (by omega)).2
  have g1 := (hN 139 (by omega) (by omega)).1
  have g2 := (hN 140 (by omega) (by omega)).1
  have g3 := (hN 141 (by omega) (by omega)).2
  have := h s hs
  unfold RS1 at this ⊢
  simp only [e1, e2, g1, g2, g3, hj]
  exact this
theorem RT_fr {C N C' N' : Mem} (h : RT C N) (h1 : C'.1 18 1 = C.1 18 1) (h2 : C'.1 19 = C.1 19) (h3 : N'.1 138 8 = N.1 138 8) (h4 : N'.1 147 = N.1 147) : RT C' N' := by
  unfold RT at h ⊢
  simp only [h1, h2, h3, h4]
  exact h
theorem RF_fr {C N C' N' : Mem} (h : RF C N) (h1 : C'.1 118 = C.1 118) (h2 : N'.1 158 = N.1 158) : RF C' N' := by
  unfold RF at h ⊢
  simp only [h1, h2]
  exact h
theorem RX_fr {C C' : Mem} (h : RX C) (h1 : C'.1 128 = C.1 128) (h2 : C'.1 134 = C.1 134) : RX C' := by
  unfold RX at h ⊢
  simp only [h1, h2]
  exact h
theorem KF_fr {C C' : Mem} (h : KF C) (h1 : C'.1 105 = C.1 105) : KF C' := by
  unfold KF at h ⊢
  simp only [h1]
  exact h
/-- the kept part -/
def RI (c : Nat) (C N : Mem) : Prop := (C.1 0 4 = 0 ∧ N.1 138 21 = 0) ∨ (C.1 0 4 = 1 ∧ N.1 138 21 = 1 ∧ RK c C N)
theorem RI_fr {c : Nat} {C N C' N' : Mem} (h : RI c C N) (h0 : C'.1 0 4 = C.1 0 4) (h1 : N'.1 138 21 = N.1 138 21) (hC : same 69 117 C C') (hN : N'.1 159 = N.1 159) : RI c C' N' := by
  unfold RI at h ⊢
  rw [h0, h1]
  rcases h with h | ⟨a, b, h⟩
  · exact Or.inl h
  · exact Or.inr ⟨a, b, RK_fr h hC hN⟩
theorem RI_up {c c' : Nat} {C N : Mem} (h : RI c C N) (hc : c ≤ c') : RI c' C N := by
  rcases h with h | ⟨a, b, h⟩
  · exact Or.inl h
  · exact Or.inr ⟨a, b, RK_up h hc⟩
theorem Rel_up {c c' : Nat} {C N : Mem} (h : Rel c C N) (hc : c ≤ c') : Rel c' C N := ⟨RN_up h.1 hc, h.2.1, h.2.2.1, h.2.2.2.1, h.2.2.2.2.1, h.2.2.2.2.2.1, RI_up h.2.2.2.2.2.2 hc⟩
theorem same_wI {M : Mem} {k i lo hi : Nat} {v : Int32} (h : k < lo ∨ hi < k) : same lo hi M (wI M k i v) := fun q h1 h2 => ⟨wI_row M k i v (by omega), rfl⟩
theorem same_wL {M : Mem} {k i lo hi : Nat} {v : Int64} (h : k < lo ∨ hi < k) : same lo hi M (wL M k i v) := fun q h1 h2 => ⟨rfl, wL_row M k i v (by omega)⟩
theorem same_t {M M1 M2 : Mem} {lo hi : Nat} (h : same lo hi M M1) (h2 : same lo hi M1 M2) : same lo hi M M2 := fun q a b => ⟨(h2 q a b).1.trans (h q a b).1, (h2 q a b).2.trans (h q a b).2⟩
theorem same_r {M : Mem} {lo hi : Nat} : same lo hi M M := fun _ _ _ => ⟨rfl, rfl⟩
theorem same_s {M M' : Mem} {lo hi lo' hi' : Nat} (h : same lo hi M M') (h1 : lo ≤ lo') (h2 : hi' ≤ hi) : same lo' hi' M M' := fun q a b => h q (by omega) (by omega)
/-- a change of one shelf -/
theorem RS_upd {C N C' N' : Mem} (h : RS C N) (s : Nat) (off : ∀ q, q < 8 → q ≠ s → C'.1 (q + 2) = C.1 (q + 2) ∧ C'.2 (q + 10) = C.2 (q + 10) ∧ N'.1 139 q = N.1 139 q ∧ N'.1 140 q = N.1 140 q ∧ ∀ i, i < 40 → N'.2 141 (40 * q + i) = N.2 141 (40 * q + i)) (hj : C'.1 20 1 = C.1 20 1) (new : RS1 C' N' s) : RS C' N' := by
  intro q hq
  by_cases e : q = s
  · rw [e]; exact new
  · obtain ⟨a1, a2, a3, a4, a5⟩ := off q hq e
    have := h q hq
    unfold RS1 at this ⊢
    rw [a1, a2, a3, a4, hj]
    rcases this with h | ⟨t, h1, h2, h3, h4, h5, h6, h7⟩ | h
    · exact Or.inl h
    · exact Or.inr (Or.inl ⟨t, h1, h2, h3, h4, h5, h6, fun i hi => by rw [a5 i hi]; exact h7 i hi⟩)
    · exact Or.inr (Or.inr h)
/-- shelves alone change -/
theorem Rel_RS {c : Nat} {C N C' N' : Mem} (h : Rel c C N) (h0 : same 0 1 C C') (h1 : same 18 137 C C') (h2 : same 138 138 N N') (h3 : same 142 164 N N') (hS : RS C' N') : Rel (c + 1) C' N' := by
  obtain ⟨a, b, d, e, f, g, k⟩ := h
  have hr := fun k (x : 18 ≤ k) (y : k ≤ 137) => (h1 k x y).1
  have n138 := (h2 138 (by omega) (by omega)).1
  have hn := fun k (x : 142 ≤ k) (y : k ≤ 164) => (h3 k x y).1
  refine ⟨RN_up (RN_fr a (same_s h1 (by omega) (by omega)) (same_s h3 (by omega) (by omega)) (same_s h3 (by omega) (by omega))) (Nat.le_succ c), hS, RT_fr d (by rw [hr 18 (by omega) (by omega)]) (hr 19 (by omega) (by omega)) (by rw [n138]) (hn 147 (by omega) (by omega)), RF_fr e (hr 118 (by omega) (by omega)) (hn 158 (by omega) (by omega)), RX_fr f (hr 128 (by omega) (by omega)) (hr 134 (by omega) (by omega)), KF_fr g (hr 105 (by omega) (by omega)), RI_up (RI_fr k (by rw [(h0 0 (by omega) (by omega)).1]) (by rw [n138]) (same_s h1 (by omega) (by omega)) (hn 159 (by omega) (by omega))) (Nat.le_succ c)⟩
theorem same_rL {M : Mem} {k lo hi : Nat} {f : Nat → Int64} (h : k < lo ∨ hi < k) : same lo hi M (rowL M k f) := fun q h1 h2 => ⟨rfl, by simp [rowL]; omega⟩
theorem same_rI {M : Mem} {k lo hi : Nat} {f : Nat → Int32} (h : k < lo ∨ hi < k) : same lo hi M (rowI M k f) := fun q h1 h2 => ⟨by simp [rowI]; omega, rfl⟩
theorem rowL_1 (M : Mem) (k : Nat) (f : Nat → Int64) : (rowL M k f).1 = M.1 := rfl
theorem rowL_2 (M : Mem) (k : Nat) (f : Nat → Int64) (a : Nat) : (rowL M k f).2 a = if a = k then f else M.2 a := rfl
theorem rowI_2 (M : Mem) (k : Nat) (f : Nat → Int32) : (rowI M k f).2 = M.2 := rfl
theorem rowI_1 (M : Mem) (k : Nat) (f : Nat → Int32) (a : Nat) : (rowI M k f).1 a = if a = k then f else M.1 a := rfl
