-- the start, as both sides tell it
theorem arrV_ext {cA : ClassId} {n : Nat} {f g : Nat → Value} (h : ∀ j, j < n → f j = g j) : arrV cA n f = arrV cA n g := by
  unfold arrV
  congr 1
  congr 1
  funext j
  exact h j.val j.isLt
theorem ceq_at {D : va_G} {x y : va_E} {a : Nat} {H : Heap} (h : ceq x y) (hx : va_at D vwCl (a, x) H) : va_at D vwCl (a, y) H := by
  rcases h with h | ⟨cA, n, f, g, h1, h2, h3⟩
  · rw [← h]; exact hx
  · rw [h2]
    rw [h1] at hx
    have e1 : H[a]? = some (vp_cell cA (n, .inr (.inr (.inr (.inr f))))) := hx
    show H[a]? = some (vp_cell cA (n, .inr (.inr (.inr (.inr g)))))
    rw [e1, vp_cell_q, vp_cell_q, arrV_ext (fun j hj => by rw [h3 j hj])]
theorem start_P {D : va_G} {cy : Nat → ClassId} {h0 : Nat} {sa : Nat → Nat} {H : Heap} (hP : va_P D vwCl (gw h0 161 (Ed cy h0)) H) : va_P D vwCl (wd cy (adf h0 sa) (cmb C0 N0)) H := by
  intro j q hq
  rw [wd_at] at hq
  cases e : pls[j]? with
  | none =>
    rw [e] at hq
    cases hq
  | some k =>
    rw [e] at hq
    cases hq
    have hk := (pls_in e).1
    have h1 := hP (piL.getD k 0) _ (gw_get (pi_lt hk))
    have h2 := ceq_at (pk_all cy h0 sa k hk) h1
    rw [← adf_lt (sa := sa) hk.1] at h2
    exact h2
theorem lawrow_e {i : Nat} (h : i < 9) : lawrow i = sv0.getD i 0 := by
  unfold lawrow va_cpy
  rw [if_pos (by omega), Nat.sub_zero, Nat.zero_add]
theorem bd0 (a b : Int) (h1 : a ≤ 0) (h2 : 0 ≤ b) : bd (0 : Int32) a b := ⟨by rw [li_0]; exact h1, by rw [li_0]; exact h2⟩
theorem Rel_0 : Rel 0 C0 N0 := by
  have z0 : (N0.1 156 0).toInt = 0 := rfl
  have z1 : (N0.1 156 1).toInt = 0 := rfl
  have z2 : (N0.1 156 2).toInt = 0 := rfl
  have z3 : (N0.1 156 3).toInt = 0 := rfl
  have zt : (N0.1 138 8).toInt = 0 := rfl
  refine ⟨⟨?_, ?_, ?_, ?_, ?_, ?_, ?_, ?_⟩, ?_, ?_, ?_, ?_, ?_, ?_⟩
  · exact ⟨⟨rfl, bd0 _ _ (by decide) (by decide)⟩, ⟨rfl, bd0 _ _ (by decide) (by decide)⟩, ⟨rfl, bd0 _ _ (by decide) (by decide)⟩, ⟨rfl, bd0 _ _ (by decide) (by decide)⟩, ⟨rfl, bd0 _ _ (by decide) (by decide)⟩, ⟨rfl, bd0 _ _ (by decide) (by decide)⟩, ⟨rfl, bd0 _ _ (by decide) (by decide)⟩, ⟨rfl, by show (-1 : Int) ≤ (-1 : Int32).toInt; decide, by rw [z1]; show (-1 : Int32).toInt < 0; decide⟩, rfl⟩
  · intro j hj; omega
  · intro w hw; omega
  · intro i hi
    show lawrow i = _
    exact lawrow_e hi
  · intro a ha; omega
  · intro q hq; omega
  · intro h hh
    exact ⟨rfl, bd0 _ _ (by decide) (by decide)⟩
  · exact Or.inl ⟨rfl, rfl⟩
  · intro s hs
    refine Or.inl ?_
    rcases (show s = 0 ∨ s = 1 ∨ s = 2 ∨ s = 3 ∨ s = 4 ∨ s = 5 ∨ s = 6 ∨ s = 7 by omega) with rfl | rfl | rfl | rfl | rfl | rfl | rfl | rfl <;> exact ⟨rfl, rfl, rfl, rfl⟩
  · exact ⟨rfl, bd0 _ _ (by decide) (by decide), fun i hi => by omega⟩
  · exact ⟨rfl, rfl, rfl, rfl, rfl⟩
  · exact ⟨fun i _ => rfl, fun i _ => rfl⟩
  · intro i hi
    show lawrow i = _
    exact lawrow_e hi
  · exact Or.inl ⟨rfl, rfl⟩
