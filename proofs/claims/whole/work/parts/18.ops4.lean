theorem m1_ne {x : Int32} (h : 0 ≤ x.toInt) : ¬ x = -1 := fun q => by
  have := t_eq.mp q
  simp only [Int32.reduceToInt] at this
  omega
-- holds
theorem op_holds {c : Nat} {C N : Mem} (h : Rel c C N) (a1 : Int32) : ∃ r, fc_holds C a1 = some r ∧ fm_holds N a1 = some r := by
  have hj := nsc h
  by_cases hb : a1.toInt < 0 ∨ 8 ≤ a1.toInt
  · refine ⟨-1, ?_, ?_⟩
    · unfold fc_holds; rw [if_pos (by rw [shelf_0]; exact hb)]
    · unfold fm_holds; rw [if_pos (by rw [mshelf_0]; exact hb)]
  · have hi := t_ix (a := a1) (by omega)
    have hin : inb a1 8 := b_in (by omega) (by omega)
    unfold fc_holds fm_holds fm_isRow
    have s1 : ¬ fc_isShelfT C a1 = 0 := by rw [shelf_0]; exact hb
    have s2 : ¬ fm_isShelfT N a1 = 0 := by rw [mshelf_0]; exact hb
    simp only [if_neg s1, if_neg s2, gd_t hin]
    rcases h.2.1 (ix a1) (by omega) with ⟨e1, e2, e3, e4⟩ | ⟨t, ht, e1, e2, e3, e4, e5, e6⟩ | ⟨e1, e2, e3, e4, e5⟩
    · refine ⟨-1, ?_, ?_⟩
      · rw [if_pos e4, e2]
      · rw [e1, if_neg (by decide)]
    · have q := t_nI (show 100 + t < 2147483648 by omega)
      have q2 := t_nI (show t < 2147483648 by omega)
      refine ⟨nI t, ?_, ?_⟩
      · rw [if_pos e3, e2]
      · rw [e1, if_pos (by rw [t_le, q]; simp only [Int32.reduceToInt]; omega), if_neg (by rw [t_lt, q]; simp only [Int32.reduceToInt]; omega)]
        simp only [Option.bind_some]
        rw [if_neg (by decide)]
        congr 1
        rw [t_eq, t_sub] <;> rw [q] <;> simp only [Int32.reduceToInt] <;> omega
    · refine ⟨10 + N.1 139 (ix a1), ?_, ?_⟩
      · rw [e3, if_neg (m1_ne e4)]
      · rw [if_pos (by rw [t_le]; simp only [Int32.reduceToInt]; omega), if_pos (by rw [t_lt]; simp only [Int32.reduceToInt]; omega)]
        simp only [Option.bind_some]
        rw [if_pos trivial]
-- element
theorem at_eq {C N : Mem} {s : Nat} (hs : s < 8) {a1 a2 : Int32} (ha : a1.toInt = s) (hi : ix a1 = s) (e4 : C.1 (s + 2) 1 = N.1 140 s) (e5 : bd (N.1 140 s) 0 40) (e6 : ∀ i, i < 40 → C.2 (s + 10) i = N.2 141 (40 * s + i)) (h1 : 0 ≤ a2.toInt) (h2 : a2.toInt < (N.1 140 s).toInt) : fShelf_at C s a2 = some (N.2 141 (40 * s + ix a2)) ∧ ix ((40 : Int32) * a1 + a2) = 40 * s + ix a2 ∧ inb ((40 : Int32) * a1 + a2) 320 ∧ ix a2 < 40 := by
  have hu := e5.2
  have hi2 := t_ix h1
  have e := t_lin (x := 0) (y := 0) (a := a1) (b := a2) (by omega) (by omega) h1 (by omega)
  have g := ix_lin (a := a1) (b := a2) (by omega) (by omega) h1 (by omega)
  rw [hi] at g
  refine ⟨?_, g, b_in (by omega) (by omega), by omega⟩
  unfold fShelf_at
  rw [if_neg (by rw [below_0, e4]; omega), gd_t (b_in (by omega) (by omega)), e6 _ (by omega)]
theorem op_element {c : Nat} {C N : Mem} (h : Rel c C N) (a1 a2 : Int32) : ∃ r, fc_element C a1 a2 = some r ∧ fm_element N a1 a2 = some r := by
  have hj := nsc h
  by_cases hb : a1.toInt < 0 ∨ 8 ≤ a1.toInt
  · refine ⟨0, ?_, ?_⟩
    · unfold fc_element; rw [if_pos (by rw [shelf_0]; exact hb)]
    · unfold fm_element; rw [if_pos (by rw [mshelf_0]; exact hb)]
  · have hi := t_ix (a := a1) (by omega)
    have hin : inb a1 8 := b_in (by omega) (by omega)
    unfold fc_element fm_element fm_isRow
    have s1 : ¬ fc_isShelfT C a1 = 0 := by rw [shelf_0]; exact hb
    have s2 : ¬ fm_isShelfT N a1 = 0 := by rw [mshelf_0]; exact hb
    simp only [if_neg s1, if_neg s2, gd_t hin]
    rcases h.2.1 (ix a1) (by omega) with ⟨e1, e2, e3, e4⟩ | ⟨t, ht, e1, e2, e3, e4, e5, e6⟩ | ⟨e1, e2, e3, e4, e5⟩
    · refine ⟨0, ?_, ?_⟩
      · unfold fShelf_at
        rw [if_pos (by rw [below_0, e3]; simp only [Int32.reduceToInt]; omega)]
        rfl
      · rw [e1]; rfl
    · have q := t_nI (show 100 + t < 2147483648 by omega)
      by_cases hr : a2.toInt < 0 ∨ (N.1 140 (ix a1)).toInt ≤ a2.toInt
      · refine ⟨0, ?_, ?_⟩
        · unfold fShelf_at
          rw [if_pos (by rw [below_0, e4]; exact hr)]
          rfl
        · rw [e1, if_neg (by rw [t_lt, q]; simp only [Int32.reduceToInt]; omega)]
          simp only [Option.bind_some]
          rw [if_neg (by decide)]
          by_cases h0 : a2 < 0
          · rw [if_pos h0]
          · rw [if_neg h0, if_neg]
            rw [t_lt] at h0 ⊢
            simp only [Int32.reduceToInt] at h0
            omega
      · obtain ⟨g1, g2, g3, g4⟩ := at_eq (C := C) (N := N) (s := ix a1) (by omega) (a1 := a1) (a2 := a2) (by omega) rfl e4 e5 e6 (by omega) (by omega)
        refine ⟨_, by rw [g1]; rfl, ?_⟩
        rw [e1, if_neg (by rw [t_lt, q]; simp only [Int32.reduceToInt]; omega)]
        simp only [Option.bind_some]
        rw [if_neg (by decide), if_neg (by rw [t_lt]; simp only [Int32.reduceToInt]; omega), if_pos (by rw [t_lt]; omega), gd_t g3, g2]
    · refine ⟨0, ?_, ?_⟩
      · unfold fShelf_at
        rw [if_pos (by rw [below_0, e2]; simp only [Int32.reduceToInt]; omega)]
        rfl
      · rw [if_pos (by rw [t_lt]; simp only [Int32.reduceToInt]; omega)]; rfl
-- show
theorem RS_show {c : Nat} {C N : Mem} (h : Rel c C N) {s : Nat} (hs : s < 8) {v : Int32} (hv : v = -1 ∨ (0 ≤ v.toInt ∧ v.toInt < (C.1 20 1).toInt)) : Rel (c + 1) (wI (wI (wI C (s + 2) 0 (-1)) (s + 2) 1 0) (s + 2) 2 v) (wI N 139 s v) := by
  refine Rel_RS h (by repeat (first | exact same_r | refine same_wI' ?_ (by omega))) (by repeat (first | exact same_r | refine same_wI' ?_ (by omega))) (by repeat (first | exact same_r | refine same_wI' ?_ (by omega))) (by repeat (first | exact same_r | refine same_wI' ?_ (by omega))) ?_
  refine RS_upd h.2.1 s ?_ (by repeat (first | rfl | refine el_wI' ?_ (by omega))) ?_
  · intro q hq hne
    exact ⟨(by repeat (first | rfl | refine row_wI' ?_ (by omega))), rfl, (by repeat (first | rfl | refine el_wI' ?_ (by omega))), (by repeat (first | rfl | refine el_wI' ?_ (by omega))), fun i _ => rfl⟩
  · unfold RS1
    simp [wI_1]
    rcases hv with rfl | hv
    · exact Or.inl rfl
    · refine Or.inr (Or.inr ⟨hv.1, ?_⟩)
      rw [if_neg (by omega)]
      exact hv.2
theorem op_show {c : Nat} {C N : Mem} (h : Rel c C N) (a1 a2 : Int32) : Sim c (fc_show C a1 a2) (fm_show N a1 a2) := by
  obtain ⟨⟨hS, hJ, hL, hF, hA, hP, hW, hV⟩, -⟩ := id h
  obtain ⟨⟨e0, b0⟩, ⟨e1, b1⟩, ⟨e2, b2⟩, ⟨e3, b3⟩, ⟨e5, b5⟩, ⟨e6, b6⟩, ⟨e7, b7⟩, ⟨e4, b4⟩, e8⟩ := id hS
  obtain ⟨l0, u0⟩ := id b0
  obtain ⟨l1, u1⟩ := id b1
  obtain ⟨l2, u2⟩ := id b2
  obtain ⟨l3, u3⟩ := id b3
  obtain ⟨l5, u5⟩ := id b5
  obtain ⟨l6, u6⟩ := id b6
  obtain ⟨l7, u7⟩ := id b7
  obtain ⟨l4, u4⟩ := id b4
  by_cases hb : (a1.toInt < 0 ∨ 8 ≤ a1.toInt) ∨ (a2 ≠ -1 ∧ (a2.toInt < 0 ∨ (N.1 156 0).toInt ≤ a2.toInt))
  · refine sim_2 h ?_ ?_
    · unfold fc_show
      by_cases q : a1.toInt < 0 ∨ 8 ≤ a1.toInt
      · rw [if_pos (by rw [shelf_0]; exact q), bind_eta]
      · rcases hb with hb | ⟨hb1, hb2⟩
        · exact absurd hb q
        · rw [if_neg (by rw [shelf_0]; exact q), if_neg hb1, if_pos (by rw [jetty_0, e0]; exact hb2), bind_eta]
    · unfold fm_show
      by_cases q : a1.toInt < 0 ∨ 8 ≤ a1.toInt
      · rw [if_pos (by rw [mshelf_0]; exact q), bind_eta]
      · rcases hb with hb | ⟨hb1, hb2⟩
        · exact absurd hb q
        · rw [if_neg (by rw [mshelf_0]; exact q), if_neg hb1, if_pos (by rw [mjetty_0]; exact hb2), bind_eta]
  · have q : ¬ (a1.toInt < 0 ∨ 8 ≤ a1.toInt) := fun z => hb (Or.inl z)
    have hi := t_ix (a := a1) (by omega)
    have hin : inb a1 8 := b_in (by omega) (by omega)
    by_cases hm : a2 = -1
    · apply sim_i (r := 1) (C' := wI (wI (wI C (ix a1 + 2) 0 (-1)) (ix a1 + 2) 1 0) (ix a1 + 2) 2 a2) (N' := wI N 139 (ix a1) a2)
      · unfold fc_show
        rw [if_neg (by rw [shelf_0]; exact q), if_pos hm, gd_t hin]; rfl
      · unfold fm_show
        rw [if_neg (by rw [mshelf_0]; exact q), if_pos hm, gd_t hin]; rfl
      · exact RS_show h (by omega) (Or.inl hm)
    · have q2 : ¬ (a2.toInt < 0 ∨ (N.1 156 0).toInt ≤ a2.toInt) := fun z => hb (Or.inr ⟨hm, z⟩)
      apply sim_i (r := 1) (C' := wI (wI (wI C (ix a1 + 2) 0 (-1)) (ix a1 + 2) 1 0) (ix a1 + 2) 2 a2) (N' := wI N 139 (ix a1) a2)
      · unfold fc_show
        rw [if_neg (by rw [shelf_0]; exact q), if_neg hm, if_neg (by rw [jetty_0, e0]; exact q2), gd_t hin]; rfl
      · unfold fm_show
        rw [if_neg (by rw [mshelf_0]; exact q), if_neg hm, if_neg (by rw [mjetty_0]; exact q2), gd_t hin]; rfl
      · exact RS_show h (by omega) (Or.inr (by rw [e0]; omega))
-- set
theorem sim_r {c : Nat} {C N : Mem} {x y : Option (Int32 × Mem)} (h : Rel c C N) {r : Int32} (hr : r = -2 ∨ r = -3 ∨ r = -4) (hx : x = fc_refuse C r) (hy : y = fm_no N r) : Sim c x y := by
  rcases hr with rfl | rfl | rfl
  · exact sim_2 h hx hy
  · exact sim_3 h hx hy
  · exact sim_4 h hx hy
/-- the row of a shelf, as both tell it; or the refusal -/
theorem rowTs {c : Nat} {C N : Mem} (h : Rel c C N) (a1 : Int32) :
    (∃ r, (r = -2 ∨ r = -3 ∨ r = -4) ∧ fc_rowTrouble C a1 a1 = some r ∧ fm_noRow N a1 = some r) ∨
    (fc_rowTrouble C a1 a1 = some 0 ∧ fm_noRow N a1 = some 0 ∧ 0 ≤ a1.toInt ∧ a1.toInt < 8 ∧ ∃ t : Nat, t < 5 ∧ N.1 139 (ix a1) = nI (100 + t) ∧ C.1 (ix a1 + 2) 0 = nI t ∧ C.1 (ix a1 + 2) 2 = -1 ∧ C.1 (ix a1 + 2) 1 = N.1 140 (ix a1) ∧ bd (N.1 140 (ix a1)) 0 40 ∧ ∀ i, i < 40 → C.2 (ix a1 + 10) i = N.2 141 (40 * ix a1 + i)) := by
  by_cases hb : a1.toInt < 0 ∨ 8 ≤ a1.toInt
  · exact Or.inl ⟨-2, Or.inl rfl, rowTb (N := N) (Or.inl hb), noRowb hb⟩
  · rcases rowT h.2.1 (nsc h).1 (a1 := a1) (by omega) (by omega) with ⟨p, q⟩ | ⟨p, q, r⟩ | ⟨p, q⟩
    · exact Or.inl ⟨-4, Or.inr (Or.inr rfl), p, q⟩
    · exact Or.inr ⟨p, q, by omega, by omega, r⟩
    · exact Or.inl ⟨-3, Or.inr (Or.inl rfl), p, q⟩
def lowb (t : Nat) (v : Int64) : Int64 := if t = 0 then Int32.toInt64 (Int8.toInt32 (Int32.toInt8 (Int64.toInt32 v))) else if t = 1 then Int32.toInt64 (Int16.toInt32 (Int32.toInt16 (Int64.toInt32 v))) else if t = 2 then Int32.toInt64 (Int64.toInt32 v) else if t = 3 then v else if lg_cmp v 0 = 0 then 0 else 1
theorem op_set {c : Nat} {C N : Mem} (h : Rel c C N) (a1 a2 : Int32) (a3 : Int64) : Sim c (fc_set C a1 a2 a3) (fm_set N a1 a2 a3) := by
  unfold fc_set fm_set
  rcases rowTs h a1 with ⟨r, hr, h1, h2⟩ | ⟨h1, h2, h3, h4, t, ht, e1, e2, e3, e4, e5, e6⟩
  · rw [h1, h2]
    simp only [Option.bind_some, bind_eta]
    rw [if_neg (by rcases hr with rfl | rfl | rfl <;> decide), if_neg (by rcases hr with rfl | rfl | rfl <;> decide)]
    exact sim_r h hr rfl rfl
  · rw [h1, h2]
    simp only [Option.bind_some, bind_eta]
    have hi := t_ix h3
    have hin : inb a1 8 := b_in h3 h4
    rw [if_pos trivial, if_pos (show (0 : Int32) ≤ 0 by decide)]
    simp only [gd_t hin, e4]
    by_cases hb : a2.toInt < 0 ∨ (N.1 140 (ix a1)).toInt ≤ a2.toInt
    · refine sim_2 h (if_pos (by rw [below_0]; exact hb)) ?_
      by_cases h0 : a2 < 0
      · rw [if_pos h0]
      · rw [if_neg h0, if_neg]
        rw [t_lt] at h0 ⊢
        simp only [Int32.reduceToInt] at h0
        omega
    · obtain ⟨g1, g2, g3, g4⟩ := at_eq (C := C) (N := N) (s := ix a1) (by omega) (a1 := a1) (a2 := a2) (by omega) rfl e4 e5 e6 (by omega) (by omega)
      apply sim_i (r := 1) (C' := wL C (ix a1 + 10) (ix a2) (lowb t a3)) (N' := wL N 141 (40 * ix a1 + ix a2) (lowb t a3))
      · rw [if_neg (by rw [below_0]; exact hb)]
        unfold fShelf_put fShelf_lowestBits
        rw [if_neg (by rw [below_0, e4]; exact hb), e2]
        rcases (show t = 0 ∨ t = 1 ∨ t = 2 ∨ t = 3 ∨ t = 4 by omega) with rfl | rfl | rfl | rfl | rfl
        · simp [gd_t (b_in (show 0 ≤ a2.toInt by omega) (show a2.toInt < (40 : Nat) by have := e5.2; omega)), lowb, mlet_e, nI]
        · simp [gd_t (b_in (show 0 ≤ a2.toInt by omega) (show a2.toInt < (40 : Nat) by have := e5.2; omega)), lowb, mlet_e, nI]
        · simp [gd_t (b_in (show 0 ≤ a2.toInt by omega) (show a2.toInt < (40 : Nat) by have := e5.2; omega)), lowb, mlet_e, nI]
        · simp [gd_t (b_in (show 0 ≤ a2.toInt by omega) (show a2.toInt < (40 : Nat) by have := e5.2; omega)), lowb, mlet_e, nI]
        · by_cases z : lg_cmp a3 0 = 0
          · simp [gd_t (b_in (show 0 ≤ a2.toInt by omega) (show a2.toInt < (40 : Nat) by have := e5.2; omega)), lowb, mlet_e, nI, z]
          · simp [gd_t (b_in (show 0 ≤ a2.toInt by omega) (show a2.toInt < (40 : Nat) by have := e5.2; omega)), lowb, mlet_e, nI, z]
      · have x0 : ¬ a2 < 0 := by rw [t_lt]; simp only [Int32.reduceToInt]; omega
        have x1 : a2 < N.1 140 (ix a1) := by rw [t_lt]; omega
        rw [if_neg x0, if_pos x1, e1]
        have v6 : nI (100 + t) - 100 = nI t := by
          rw [t_eq, t_sub] <;> rw [t_nI (by omega)] <;> simp only [Int32.reduceToInt] <;> (try rw [t_nI (by omega)]) <;> omega
        simp only [ilet_e, jlet_e, llet_e, v6, gd_t g3, g2, mlet_e]
        rcases (show t = 0 ∨ t = 1 ∨ t = 2 ∨ t = 3 ∨ t = 4 by omega) with rfl | rfl | rfl | rfl | rfl
        · simp [lowb, nI]
        · simp [lowb, nI]
        · simp [lowb, nI]
        · simp [lowb, nI]
        · by_cases z : lg_cmp a3 0 = 0
          · simp [lowb, nI, z]
          · simp [lowb, nI, z]
      · refine Rel_RS h (same_wL (by omega)) (same_wL (by omega)) (same_wL (by omega)) (same_wL (by omega)) (RS_upd h.2.1 (ix a1) ?_ rfl ?_)
        · intro q hq hne
          refine ⟨rfl, wL_row _ _ _ _ (by omega), rfl, rfl, fun i hi => ?_⟩
          rw [wL_2, if_neg (by omega)]
        · refine Or.inr (Or.inl ⟨t, ht, e1, e2, e3, e4, e5, fun i hi => ?_⟩)
          rw [wL_2, wL_2]
          by_cases e : i = ix a2
          · rw [if_pos ⟨rfl, e⟩, if_pos ⟨rfl, by omega⟩]
          · rw [if_neg (by omega), if_neg (by omega), e6 i hi]
