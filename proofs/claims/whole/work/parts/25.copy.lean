theorem op_copy {c : Nat} {C N : Mem} (h : Rel c C N) (a1 a2 a3 a4 a5 : Int32) : Sim c (fc_copy C a1 a2 a3 a4 a5) (fm_copy N a1 a2 a3 a4 a5) := by
  have hj := nsc h
  by_cases hb : (a1.toInt < 0 ∨ 8 ≤ a1.toInt) ∨ (a2.toInt < 0 ∨ 8 ≤ a2.toInt)
  · refine sim_2 h ?_ ?_
    · unfold fc_copy
      rw [rowTb (N := N) hb]
      simp only [Option.bind_some, bind_eta]
      rw [if_neg (by decide)]
    · unfold fm_copy
      by_cases q : a1.toInt < 0 ∨ 8 ≤ a1.toInt
      · rw [if_pos (by rw [mshelf_0]; exact q), bind_eta]
      · rw [if_neg (by rw [mshelf_0]; exact q), if_pos (by rw [mshelf_0]; omega), bind_eta]
  · have s1 : ¬ fc_isShelfT C a1 = 0 := by rw [shelf_0]; omega
    have s2 : ¬ fc_isShelfT C a2 = 0 := by rw [shelf_0]; omega
    have s3 : ¬ fm_isShelfT N a1 = 0 := by rw [mshelf_0]; omega
    have s4 : ¬ fm_isShelfT N a2 = 0 := by rw [mshelf_0]; omega
    have i1 := t_ix (a := a1) (by omega)
    have i2 := t_ix (a := a2) (by omega)
    have in1 : inb a1 8 := b_in (by omega) (by omega)
    have in2 : inb a2 8 := b_in (by omega) (by omega)
    have m1 : (-1 : Int32) < 0 := by decide
    have m2 : ¬ (0 : Int32) ≤ -1 := by decide
    have m3 : ¬ (1 : Int32) = 0 := by decide
    have m4 : ¬ (-3 : Int32) = 0 := by decide
    have m5 : ¬ (-4 : Int32) = 0 := by decide
    unfold fc_copy fm_copy fc_rowTrouble
    simp only [jlet_e, gd_t in1, gd_t in2]
    rw [if_neg s1, if_neg s2, if_neg s3, if_neg s4]
    rcases shf h.2.1 hj.1 (a := a1) (by omega) (by omega) with ⟨x1, x2, -⟩ | ⟨x1, x2, x3, x4, x5⟩ | ⟨x1, x2, x3, x4, t, ht, x5, x6, x7, x8, x9⟩
    · rw [if_neg x1, x2]
      simp only [Option.bind_some, bind_eta, m3, m4, if_false]
      exact sim_3 h rfl rfl
    · rcases shf h.2.1 hj.1 (a := a2) (by omega) (by omega) with ⟨y1, y2, -⟩ | ⟨y1, y2, y3, y4, y5⟩ | ⟨y1, y2, y3, y4, t', ht', y5, y6, y7, y8, y9⟩
      · rw [if_pos x1, if_neg y1, x3, y2]
        simp only [Option.bind_some, bind_eta, m3, m4, if_false, if_true]
        exact sim_3 h rfl rfl
      · rw [if_pos x1, if_pos y1, if_neg x2, x3, y3, x5]
        simp only [Option.bind_some, bind_eta, m5, if_false, if_true, x4, m1]
        exact sim_4 h rfl rfl
      · rw [if_pos x1, if_pos y1, if_neg x2, x3, y3, x5]
        simp only [Option.bind_some, bind_eta, m5, if_false, if_true, x4, m1]
        exact sim_4 h rfl rfl
    · have tt := t_nI (show 100 + t < 2147483648 by omega)
      have n1 : ¬ N.1 139 (ix a1) < 0 := by rw [x5, t_lt, tt]; simp only [Int32.reduceToInt]; omega
      rcases shf h.2.1 hj.1 (a := a2) (by omega) (by omega) with ⟨y1, y2, -⟩ | ⟨y1, y2, y3, y4, y5⟩ | ⟨y1, y2, y3, y4, t', ht', y5, y6, y7, y8, y9⟩
      · rw [if_pos x1, if_neg y1, x3, y2]
        simp only [Option.bind_some, bind_eta, m3, m4, if_false, if_true]
        exact sim_3 h rfl rfl
      · rw [if_pos x1, if_pos y1, if_pos x2, if_neg y2, x3, y3, x4, y5]
        simp only [Option.bind_some, bind_eta, m3, m5, if_false, if_true, n1, y4, m2]
        exact sim_4 h rfl rfl
      · have tt' := t_nI (show 100 + t' < 2147483648 by omega)
        rw [if_pos x1, if_pos y1, if_pos x2, if_pos y2, x3, y3, x4, y4]
        simp only [Option.bind_some, bind_eta, m3, if_false, if_true]
        by_cases ek : t = t'
        · have k1 : C.1 (ix a1 + 2) 0 = C.1 (ix a2 + 2) 0 := by rw [x6, y6, ek]
          have k2 : N.1 139 (ix a1) = N.1 139 (ix a2) := by rw [x5, y5, ek]
          have n2 : (0 : Int32) ≤ N.1 139 (ix a2) := by rw [y5, t_le, tt']; simp only [Int32.reduceToInt]; omega
          rw [if_pos k1, if_pos k2, if_neg n1, if_pos n2]
          have w1 := part_0 (a := a3) (b := a5) x7 x8.1 x8.2
          have w2 := part_0 (a := a4) (b := a5) y7 y8.1 y8.2
          have x8' := x8.2
          have y8' := y8.2
          simp only [lgc_p, lgc_l, l_add, Int32.toInt_toInt64, mlet_e, ilet_e]
          simp only [t_lt, Int32.reduceToInt]
          by_cases hp : a3.toInt < 0 ∨ a4.toInt < 0 ∨ a5.toInt < 0 ∨ (N.1 140 (ix a1)).toInt < a3.toInt + a5.toInt ∨ (N.1 140 (ix a2)).toInt < a4.toInt + a5.toInt
          · refine sim_2 h ?_ ?_
            · by_cases g : fShelf_hasPartT C (ix a1) a3 a5 = 0
              · rw [if_pos g]
              · rw [if_neg g, if_pos (w2.mpr (by rw [w1] at g; omega))]
            · by_cases g1 : a5.toInt < 0
              · rw [if_pos g1]
              · rw [if_neg g1]
                by_cases g2 : a3.toInt < 0
                · rw [if_pos g2]
                · rw [if_neg g2]
                  by_cases g3 : a4.toInt < 0
                  · rw [if_pos g3]
                  · rw [if_neg g3]
                    by_cases g4 : (N.1 140 (ix a1)).toInt < a3.toInt + a5.toInt
                    · rw [if_pos g4]
                    · rw [if_neg g4, if_neg (by omega)]
          · have i3 := t_ix (a := a3) (by omega)
            have i4 := t_ix (a := a4) (by omega)
            have i5 := t_ix (a := a5) (by omega)
            rw [if_neg (show ¬ fShelf_hasPartT C (ix a1) a3 a5 = 0 by rw [w1]; omega), if_neg (show ¬ fShelf_hasPartT C (ix a2) a4 a5 = 0 by rw [w2]; omega), gd_t (show cpokB a3 a4 a5 40 40 from decide_eq_true ⟨⟨by rw [t_lt]; simp only [Int32.reduceToInt]; omega, by rw [t_lt]; simp only [Int32.reduceToInt]; omega, by rw [t_lt]; simp only [Int32.reduceToInt]; omega⟩, by omega, by omega⟩), if_neg (show ¬ a5.toInt < 0 by omega), if_neg (show ¬ a3.toInt < 0 by omega), if_neg (show ¬ a4.toInt < 0 by omega), if_neg (show ¬ (N.1 140 (ix a1)).toInt < a3.toInt + a5.toInt by omega), if_pos (show a4.toInt + a5.toInt ≤ (N.1 140 (ix a2)).toInt by omega)]
            have hf := fun hd => cp_f (N := N) (a1 := a1) (a2 := a2) (a3 := a3) (a4 := a4) (a5 := a5) (by omega) (by omega) (by omega) (by omega) (by omega) (by omega) (by omega) (by omega) (by omega) hd (ix a5) 0 (by omega) FU (by rw [FU_eq]; omega)
            rw [show va_cpy (N.2 141) (N.2 141) (40 * ix a1 + ix a3) (40 * ix a2 + ix a4) 0 = N.2 141 from by funext j; unfold va_cpy; rw [if_neg (by omega)], rowL_same] at hf
            refine sim_i (r := a5) (N' := rowL N 141 (va_cpy (N.2 141) (N.2 141) (40 * ix a1 + ix a3) (40 * ix a2 + ix a4) (ix a5))) rfl ?_ ?_
            · by_cases ea : a1 = a2
              · rw [if_pos ea]
                by_cases eb : a4.toInt ≤ a3.toInt
                · rw [if_pos (by rw [t_le]; exact eb)]
                  exact hf (Or.inr (by rw [ea]; omega))
                · rw [if_neg (by rw [t_le]; exact eb)]
                  have hbk := cp_b (N := N) (a1 := a1) (a2 := a2) (a3 := a3) (a4 := a4) (a5 := a5) (by omega) (by omega) (by omega) (by omega) (by omega) (by omega) (by omega) (by omega) (by omega) (by rw [ea]; omega) (kx := fun M31 => some (a5, M31)) (ix a5) (a5 - 1) (by rw [t_sub] <;> simp only [Int32.reduceToInt] <;> omega) (by omega) FU (by rw [FU_eq]; omega)
                  rw [bcp_K, rowL_same] at hbk
                  exact hbk
              · rw [if_neg ea]
                have : ix a1 ≠ ix a2 := fun q => ea (t_eq.mpr (by omega))
                exact hf (by omega)
            · unfold cpL
              refine Rel_RS h (same_rL (by omega)) (same_rL (by omega)) (same_rL (by omega)) (same_rL (by omega)) (RS_upd h.2.1 (ix a2) ?_ rfl ?_)
              · intro q hq hne
                refine ⟨rfl, by rw [rowL_2, if_neg (by omega)], rfl, rfl, fun i hi => ?_⟩
                rw [rowL_2, if_pos rfl]
                unfold va_cpy
                rw [if_neg (by omega)]
              · refine Or.inr (Or.inl ⟨t', ht', y5, y6, y1, y7, y8, fun i hi => ?_⟩)
                rw [rowL_2, rowL_2, if_pos rfl, if_pos rfl]
                unfold va_cpy
                by_cases g : ix a4 ≤ i ∧ i < ix a4 + ix a5
                · rw [if_pos g, if_pos (by omega), x9 _ (by omega)]
                  exact congrArg (N.2 141) (by omega)
                · rw [if_neg g, if_neg (by omega), y9 i hi]
        · rw [if_neg (by rw [x6, y6]; intro q; have := t_eq.mp q; rw [t_nI (by omega), t_nI (by omega)] at this; omega), if_neg (by rw [x5, y5]; intro q; have := t_eq.mp q; rw [tt, tt'] at this; omega)]
          exact sim_3 h rfl rfl
