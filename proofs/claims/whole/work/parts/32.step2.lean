theorem cnt_r {M : Mem} {a : Nat} {d : Int32} {q : Nat} (h : q ≠ a + 58) : (cnt M a d).1 q = M.1 q := by
  unfold cnt
  rw [wI_row _ _ _ _ h, wI_row _ _ _ _ h]
theorem cnt_0 {M : Mem} {a : Nat} {d : Int32} : (cnt M a d).1 (a + 58) 0 = M.1 (a + 58) 0 := by
  unfold cnt
  rw [mem_fst (by omega), mem_fst (by omega)]
theorem cnt_1 {M : Mem} {a : Nat} {d : Int32} : (cnt M a d).1 (a + 58) 1 = M.1 (a + 58) 1 + 1 := by
  unfold cnt
  rw [mem_fst (by omega), wI_s]
theorem cnt_2 {M : Mem} {a : Nat} {d : Int32} : (cnt M a d).1 (a + 58) 2 = M.1 (a + 58) 2 + d := by
  unfold cnt
  rw [wI_s, mem_fst (by omega)]
theorem step_R {c a : Nat} {C N C' N' : Mem} (hc : c < 64) (h : Rel c C N) {sd d : Int32} (ha : (a : Int) < (N.1 156 2).toInt) (hd : d = 0 ∨ d = 1)
    (hCr : ∀ q, q ≠ 20 → q ≠ 67 → q ≠ a + 58 → C'.1 q = C.1 q) (hC2 : C'.2 = C.2) (hC20 : ∀ f, f ≠ 15 → C'.1 20 f = C.1 20 f) (hCs : C'.1 20 15 = sd)
    (hNr : ∀ q, q ≠ 156 → q ≠ 157 → q ≠ 150 → q ≠ 151 → N'.1 q = N.1 q) (hN2 : N'.2 = N.2) (hN156 : ∀ f, f ≠ 8 → N'.1 156 f = N.1 156 f) (hNs : N'.1 156 8 = sd)
    (hNa : ∀ q, q ≠ a → N'.1 150 q = N.1 150 q ∧ N'.1 151 q = N.1 151 q) (g0 : C'.1 (a + 58) 0 = C.1 (a + 58) 0) (g1 : C'.1 (a + 58) 1 = C.1 (a + 58) 1 + 1) (g2 : C'.1 (a + 58) 2 = C.1 (a + 58) 2 + d) (k1 : N'.1 150 a = N.1 150 a + 1) (k2 : N'.1 151 a = N.1 151 a + d)
    (hV : NV (c + 1) C' N') : Rel (c + 1) C' N' := by
  obtain ⟨⟨hS, hJ, hL, hF, hA, hP, hW, hV0⟩, -⟩ := id h
  obtain ⟨⟨e0, b0⟩, ⟨e1, b1⟩, ⟨e2, b2⟩, ⟨e3, b3⟩, ⟨e5, b5⟩, ⟨e6, b6⟩, ⟨e7, b7⟩, ⟨e4, b4⟩, e8⟩ := id hS
  obtain ⟨l0, u0⟩ := id b0
  obtain ⟨l1, u1⟩ := id b1
  obtain ⟨l2, u2⟩ := id b2
  obtain ⟨l3, u3⟩ := id b3
  obtain ⟨l5, u5⟩ := id b5
  obtain ⟨l6, u6⟩ := id b6
  obtain ⟨l7, u7⟩ := id b7
  obtain ⟨l4, u4⟩ := id b4
  have sC := fun lo hi (z : ∀ q, lo ≤ q → q ≤ hi → q ≠ 20 ∧ q ≠ 67 ∧ q ≠ a + 58) => (fun q x y => ⟨hCr q (z q x y).1 (z q x y).2.1 (z q x y).2.2, by rw [hC2]⟩ : same lo hi C C')
  have sN := fun lo hi (z : ∀ q, lo ≤ q → q ≤ hi → q ≠ 156 ∧ q ≠ 157 ∧ q ≠ 150 ∧ q ≠ 151) => (fun q x y => ⟨hNr q (z q x y).1 (z q x y).2.1 (z q x y).2.2.1 (z q x y).2.2.2, by rw [hN2]⟩ : same lo hi N N')
  refine Rel_RN h (sC _ _ (fun q x y => by omega)) (sC _ _ (fun q x y => by omega)) (sN _ _ (fun q x y => by omega)) (hNr 147 (by omega) (by omega) (by omega) (by omega)) (sN _ _ (fun q x y => by omega)) (leI (hC20 1 (by omega))) ⟨NS_seed hS hC20 hN156 (hCs.trans hNs.symm), NJ_fr hJ u0 (hN156 0 (by omega)) (sC _ _ (fun q x y => by omega)) (sN _ _ (fun q x y => by omega)), NL_fr hL u1 (hN156 1 (by omega)) (sC _ _ (fun q x y => by omega)) (hNr 148 (by omega) (by omega) (by omega) (by omega)), NF_fr hF (hCr 56 (by omega) (by omega) (by omega)), step_A hc hA (hN156 2 (by omega)) u2 ha (fun q x y => hCr _ (by omega) (by omega) (by omega)) hNa (hNr 149 (by omega) (by omega) (by omega) (by omega)) hd g0 g1 g2 k1 k2, NP_fr hP (hN156 3 (by omega)) (hCr 64 (by omega) (by omega) (by omega)) (hCr 65 (by omega) (by omega) (by omega)) (hNr 153 (by omega) (by omega) (by omega) (by omega)) (hNr 154 (by omega) (by omega) (by omega) (by omega)), NW_fr hW (hCr 66 (by omega) (by omega) (by omega)) (hNr 155 (by omega) (by omega) (by omega) (by omega)), hV⟩
theorem op_step {c : Nat} {C N : Mem} (hc : c < 64) (h : Rel c C N) : Sim c (fc_step C) (fm_step N) := by
  obtain ⟨⟨hS, hJ, hL, hF, hA, hP, hW, hV⟩, -⟩ := id h
  obtain ⟨⟨e0, b0⟩, ⟨e1, b1⟩, ⟨e2, b2⟩, ⟨e3, b3⟩, ⟨e5, b5⟩, ⟨e6, b6⟩, ⟨e7, b7⟩, ⟨e4, b4⟩, e8⟩ := id hS
  obtain ⟨l0, u0⟩ := id b0
  obtain ⟨l1, u1⟩ := id b1
  obtain ⟨l2, u2⟩ := id b2
  obtain ⟨l3, u3⟩ := id b3
  obtain ⟨l5, u5⟩ := id b5
  obtain ⟨l6, u6⟩ := id b6
  obtain ⟨l7, u7⟩ := id b7
  obtain ⟨l4, u4⟩ := id b4
  have L := LeapOK.of h
  unfold fc_step fVoyage_isUnderWayT
  rcases id hV with ⟨v0, w0⟩ | ⟨w0, ⟨x0, y0, z0⟩, ⟨x2, y2⟩, ⟨x5, y5, z5⟩, ⟨x4, y4⟩, x6, x7, b3, hj, hf, hg⟩
  · rw [if_pos v0, if_pos rfl, bind_eta]
    refine sim_5 h rfl ?_
    unfold fm_step
    rw [if_pos (show N.1 157 (ix 0) = 0 from w0), bind_eta]
  · have y22 := y2.2
    rw [if_neg (show ¬ C.1 67 0 = -1 by rw [x0]; exact m1_ne y0)]
    have nw0 : ¬ N.1 157 (ix 0) = 0 := fun q => absurd (w0.symm.trans q) (by decide)
    by_cases hd : N.1 157 3 = N.1 157 2
    · rw [if_pos (show C.1 67 2 ≤ C.1 67 5 by rw [x2, x5, t_le, hd]; omega), if_pos rfl, bind_eta]
      refine sim_5 h rfl ?_
      unfold fm_step
      rw [if_neg nw0, if_pos (show N.1 157 (ix 3) = N.1 157 (ix 2) from hd), bind_eta]
    · have hlt : (N.1 157 3).toInt < (N.1 157 2).toInt := by
        have : (N.1 157 3).toInt ≠ (N.1 157 2).toInt := fun q => hd (t_eq.mpr q)
        omega
      rw [if_neg (show ¬ C.1 67 2 ≤ C.1 67 5 by rw [x2, x5, t_le]; omega), if_neg (show ¬ (1 : Int32) = 0 by decide), bind_eta]
      obtain ⟨m, hm⟩ : ∃ m : Nat, (N.1 157 3).toInt = m := ⟨ix (N.1 157 3), (t_ix y5).symm⟩
      obtain ⟨a, ha⟩ : ∃ a : Nat, (N.1 157 1).toInt = a := ⟨ix (N.1 157 1), (t_ix y0).symm⟩
      have hm' : N.1 157 3 = nI m := t_eq.mpr (by rw [hm, t_nI (by omega)])
      have ha' : N.1 157 1 = nI a := t_eq.mpr (by rw [ha, t_nI (by omega)])
      have xm := ix_nI (show m < 2147483648 by omega)
      have xa := ix_nI (show a < 2147483648 by omega)
      have ta := t_nI (show a < 2147483648 by omega)
      have tmm := t_nI (show m < 2147483648 by omega)
      obtain ⟨j1, j2, j3⟩ := hj m (by omega)
      have ij := t_ix j2
      obtain ⟨-, ⟨q1, p1⟩, -⟩ := hJ (ix (N.1 157 (m + 8))) (by omega)
      obtain ⟨t81, t82⟩ := t_8 (k := m) (by omega)
      have inj : inb (N.1 157 (m + 8)) 20 := b_in j2 (by omega)
      have ina : inb (nI a) 6 := b_in (by omega) (by omega)
      obtain ⟨u, sd, dr1, dr2⟩ := draw_e C N e8
      generalize hgv : lgx N (C.1 67 3) (N.1 143 (ix (N.1 157 (m + 8)))) (lwv N 1) = g
      have lgb := lg_b (s := lwv N 1) L.lb b3 p1 L.lb.2.1
      rw [hgv] at lgb
      have y41 := y4.1
      have y42 := y4.2
      have lg1 := lgb.1
      have lg2 := lgb.2
      have t7 : (N.1 157 4 + g).toInt = (N.1 157 4).toInt + g.toInt := by rw [t_add] <;> omega
      have t7a : (N.1 157 4 + g + 1).toInt = (N.1 157 4).toInt + g.toInt + 1 := by rw [t_add] <;> rw [t7] <;> simp only [Int32.reduceToInt] <;> omega
      have hhb := hr_b (v := N.1 157 4 + g) (by omega)
      have rc := risk_c h (a := nI a) (j := N.1 157 (m + 8)) (by omega) (by omega) j2 j3 hhb.1 hhb.2
      have rm := risk_m h (a := nI a) (j := N.1 157 (m + 8)) (by omega) (by omega) j2 j3 hhb.1 hhb.2
      have gc := L.gc (C.1 67 3) (N.1 143 (ix (N.1 157 (m + 8)))) L.lb.2.1.1
      have gm := L.gm1 (C.1 67 3) (N.1 143 (ix (N.1 157 (m + 8))))
      rw [hgv] at gc gm
      have s3b := bd_3s L.lb.2.1
      have s31 := s3b.1
      have s32 := s3b.2
      generalize hr : rkx N (ix (nI a)) (ix (N.1 157 (m + 8))) (ix (hrx (N.1 157 4 + g))) = r at rc rm
      generalize hv4 : N.1 143 (ix (N.1 157 (m + 8))) = v4 at gc gm q1 p1
      have l4 : LeapOK (wI (wI (wI (wI C 20 15 sd) 67 3 v4) 67 4 (N.1 157 4 + g + 1)) 67 5 (C.1 67 5 + 1)) (wI (wI N 156 8 sd) 157 3 (N.1 157 3 + 1)) := by
        refine ⟨NS_seed hS (fun f hf => (by first | rfl | (repeat (first | exact wI_s | rfl | refine el_wI' ?_ (by omega))))) (fun f hf => (by first | rfl | (repeat (first | exact wI_s | rfl | refine el_wI' ?_ (by omega))))) ?_, NJ_fr hJ u0 (by first | rfl | (repeat (first | exact wI_s | rfl | refine el_wI' ?_ (by omega)))) (by repeat (first | exact same_r | refine same_wI' ?_ (by omega))) (by repeat (first | exact same_r | refine same_wI' ?_ (by omega))), NL_fr hL u1 (by first | rfl | (repeat (first | exact wI_s | rfl | refine el_wI' ?_ (by omega)))) (by repeat (first | exact same_r | refine same_wI' ?_ (by omega))) (by repeat (first | rfl | refine row_wI' ?_ (by omega))), NF_fr hF (by repeat (first | rfl | refine row_wI' ?_ (by omega)))⟩
        exact (show (wI (wI (wI (wI C 20 15 sd) 67 3 v4) 67 4 (N.1 157 4 + g + 1)) 67 5 (C.1 67 5 + 1)).1 20 15 = sd from (by first | rfl | (repeat (first | exact wI_s | rfl | refine el_wI' ?_ (by omega))))).trans (show sd = (wI (wI N 156 8 sd) 157 3 (N.1 157 3 + 1)).1 156 8 from (show (wI (wI N 156 8 sd) 157 3 (N.1 157 3 + 1)).1 156 8 = sd from (by first | rfl | (repeat (first | exact wI_s | rfl | refine el_wI' ?_ (by omega))))).symm)
      have lw4 : lwv (wI (wI N 156 8 sd) 157 3 (N.1 157 3 + 1)) 1 = lwv N 1 := rfl
      have cl := leap_c (C := C) (C1 := wI C 20 15 sd) (s := lwv N 1) (g := g) (r := r) (u := u) (M := wI (wI (wI (wI C 20 15 sd) 67 3 v4) 67 4 (N.1 157 4 + g + 1)) 67 5 (C.1 67 5 + 1)) (by rw [x5, hm']; exact b_in (by omega) (by omega)) (by rw [x5, hm', xm, j1]; exact inj) L.sp (by rw [x5, hm', xm, j1, q1]; exact gc) (by rw [x5, hm', xm, j1, x0, ha', x4, hr_c C (by omega)]; exact rc) dr1 (by rw [show (mid (wI C 20 15 sd) (C.1 (ix (C.1 68 (ix (C.1 67 5))) + 22) 1) (C.1 67 4 + g + 1)).1 67 0 = C.1 67 0 from rfl, x0, ha']; exact ina) (by rw [x5, hm', xm, j1, q1, x4]; exact l4.sp) (by rw [x5, hm', xm, j1, q1, x4, ← hm', ← x5]; rfl)
      have hsp : (N.1 157 (ix 3) = 0 ∧ C.1 67 3 = N.1 157 (ix 7)) ∨ (¬ N.1 157 (ix 3) = 0 ∧ inb ((7 : Int32) + N.1 157 (ix 3)) 28 ∧ inb (N.1 157 (ix ((7 : Int32) + N.1 157 (ix 3)))) 20 ∧ C.1 67 3 = N.1 143 (ix (N.1 157 (ix ((7 : Int32) + N.1 157 (ix 3)))))) := by
        rw [ix_3, ix_7]
        by_cases z : m = 0
        · have e : N.1 157 3 = 0 := by rw [hm', z]; rfl
          exact Or.inl ⟨e, hf e⟩
        · have e : ((7 : Int32) + nI m).toInt = 7 + (m : Int) := by rw [t_add] <;> rw [tmm] <;> simp only [Int32.reduceToInt] <;> omega
          have i := t_ix (a := (7 : Int32) + nI m) (by omega)
          have ei : ix ((7 : Int32) + nI m) = (m - 1) + 8 := by omega
          obtain ⟨-, k2, k3⟩ := hj (m - 1) (by omega)
          have e9 := hg (m - 1) (by omega)
          rw [hm', ei]
          exact Or.inr ⟨fun q => z (by have := t_eq.mp q; rw [tmm] at this; simp only [Int32.reduceToInt] at this; omega), b_in (by omega) (by omega), b_in k2 (by omega), e9⟩
      have ml := leap_m (N := N) (N1 := wI N 156 8 sd) (p := C.1 67 3) (g := g) (r := r) (u := u) (s := lwv N 1) (v := N.1 157 (m + 8)) (M := wI (wI N 156 8 sd) 157 3 (N.1 157 3 + 1)) nw0 hd (by rw [ix_3, hm']; exact b_in (by omega) (by omega)) (by rw [ix_3, hm', t82]) hsp inj (by rw [hv4]; exact gm) (by rw [ix_1, ix_4, ha', hr_m]; exact rm) dr2 (by rw [ix_1, ha']; exact ina) rfl (l4.lm (i := 1) (by omega))
      rw [ix_1, ha', xa, ix_4, ix_5, ix_6] at ml
      rw [show ix ((wI (wI (wI (wI C 20 15 sd) 67 3 v4) 67 4 (N.1 157 4 + g + 1)) 67 5 (C.1 67 5 + 1)).1 67 0) = a from by rw [show (wI (wI (wI (wI C 20 15 sd) 67 3 v4) 67 4 (N.1 157 4 + g + 1)) 67 5 (C.1 67 5 + 1)).1 67 0 = C.1 67 0 from rfl, x0, ha', xa]] at cl
      rw [Int32.add_zero] at ml
      rw [cl, ml]
      by_cases qa : r / 10 ≤ u
      · rw [if_pos qa, if_pos qa]
        by_cases qb : r ≤ u
        · rw [if_pos qb, if_pos qb]
          have hrow : (wI (wI (wI (wI C 20 15 sd) 67 3 v4) 67 4 (N.1 157 4 + g + 1)) 67 5 (C.1 67 5 + 1)).1 (a + 58) = C.1 (a + 58) := (by repeat (first | rfl | refine row_wI' ?_ (by omega)))
          have c67 : ∀ f, (cnt (wI (wI (wI (wI C 20 15 sd) 67 3 v4) 67 4 (N.1 157 4 + g + 1)) 67 5 (C.1 67 5 + 1)) a 0).1 67 f = (wI (wI (wI (wI C 20 15 sd) 67 3 v4) 67 4 (N.1 157 4 + g + 1)) 67 5 (C.1 67 5 + 1)).1 67 f := fun f => by rw [cnt_r (by omega)]
          refine sim_i rfl rfl (step_R hc h (a := a) (sd := sd) (d := 0) (by omega) (Or.inl rfl) (fun q x y z => by rw [cnt_r z]; exact (by repeat (first | rfl | refine row_wI' ?_ (by omega)))) rfl (fun f hf => by rw [cnt_r (by omega)]; exact (by first | rfl | (repeat (first | exact wI_s | rfl | refine el_wI' ?_ (by omega))))) (by rw [cnt_r (by omega)]; exact (by first | rfl | (repeat (first | exact wI_s | rfl | refine el_wI' ?_ (by omega))))) (fun q x y z w => (by repeat (first | rfl | refine row_wI' ?_ (by omega)))) rfl (fun f hf => (by first | rfl | (repeat (first | exact wI_s | rfl | refine el_wI' ?_ (by omega))))) (by first | rfl | (repeat (first | exact wI_s | rfl | refine el_wI' ?_ (by omega)))) (fun q x => ⟨(by first | rfl | (repeat (first | exact wI_s | rfl | refine el_wI' ?_ (by omega)))), (by first | rfl | (repeat (first | exact wI_s | rfl | refine el_wI' ?_ (by omega))))⟩) (by rw [cnt_0, hrow]) (by rw [cnt_1, hrow]) (by rw [cnt_2, hrow]) (by first | rfl | (repeat (first | exact wI_s | rfl | refine el_wI' ?_ (by omega)))) (Eq.trans (by first | rfl | (repeat (first | exact wI_s | rfl | refine el_wI' ?_ (by omega)))) (Int32.add_zero _).symm) ?_)
          exact step_V (m := m) (t1 := N.1 157 4 + g + 1) (d1 := C.1 67 6) (d2 := C.1 67 7) w0 ⟨x0, y0, z0⟩ ⟨x2, y2⟩ hm x5 (by omega) (by unfold bd; rw [t7a]; omega) hj (by first | rfl | (repeat (first | exact wI_s | rfl | refine el_wI' ?_ (by omega)))) (by first | rfl | (repeat (first | exact wI_s | rfl | refine el_wI' ?_ (by omega)))) (by repeat (first | rfl | refine row_wI' ?_ (by omega))) (by rw [cnt_r (by omega)]; exact (by repeat (first | rfl | refine row_wI' ?_ (by omega)))) ((c67 0).trans (by first | rfl | (repeat (first | exact wI_s | rfl | refine el_wI' ?_ (by omega))))) ((c67 2).trans (by first | rfl | (repeat (first | exact wI_s | rfl | refine el_wI' ?_ (by omega))))) (by first | rfl | (repeat (first | exact wI_s | rfl | refine el_wI' ?_ (by omega)))) (by first | rfl | (repeat (first | exact wI_s | rfl | refine el_wI' ?_ (by omega)))) (by first | rfl | (repeat (first | exact wI_s | rfl | refine el_wI' ?_ (by omega)))) (fun i => (by first | rfl | (repeat (first | exact wI_s | rfl | refine el_wI' ?_ (by omega))))) ((c67 5).trans (by first | rfl | (repeat (first | exact wI_s | rfl | refine el_wI' ?_ (by omega))))) (by first | rfl | (repeat (first | exact wI_s | rfl | refine el_wI' ?_ (by omega)))) ((c67 4).trans (by first | rfl | (repeat (first | exact wI_s | rfl | refine el_wI' ?_ (by omega))))) (by first | rfl | (repeat (first | exact wI_s | rfl | refine el_wI' ?_ (by omega)))) ((c67 6).trans (by first | rfl | (repeat (first | exact wI_s | rfl | refine el_wI' ?_ (by omega))))) (Eq.trans (by first | rfl | (repeat (first | exact wI_s | rfl | refine el_wI' ?_ (by omega)))) x6.symm) ((c67 7).trans (by first | rfl | (repeat (first | exact wI_s | rfl | refine el_wI' ?_ (by omega))))) (Eq.trans (by first | rfl | (repeat (first | exact wI_s | rfl | refine el_wI' ?_ (by omega)))) x7.symm) (((c67 3).trans (by first | rfl | (repeat (first | exact wI_s | rfl | refine el_wI' ?_ (by omega))))).trans hv4.symm) (by rw [hv4]; exact p1)
        · rw [if_neg qb, if_neg qb]
          unfold fin1
          have hrow : (wI (wI (wI (wI (wI C 20 15 sd) 67 3 v4) 67 4 (N.1 157 4 + g + 1)) 67 5 (C.1 67 5 + 1)) 67 6 ((wI (wI (wI (wI C 20 15 sd) 67 3 v4) 67 4 (N.1 157 4 + g + 1)) 67 5 (C.1 67 5 + 1)).1 67 6 + 1)).1 (a + 58) = C.1 (a + 58) := (by repeat (first | rfl | refine row_wI' ?_ (by omega)))
          have c67 : ∀ f, (cnt (wI (wI (wI (wI (wI C 20 15 sd) 67 3 v4) 67 4 (N.1 157 4 + g + 1)) 67 5 (C.1 67 5 + 1)) 67 6 ((wI (wI (wI (wI C 20 15 sd) 67 3 v4) 67 4 (N.1 157 4 + g + 1)) 67 5 (C.1 67 5 + 1)).1 67 6 + 1)) a 1).1 67 f = (wI (wI (wI (wI (wI C 20 15 sd) 67 3 v4) 67 4 (N.1 157 4 + g + 1)) 67 5 (C.1 67 5 + 1)) 67 6 ((wI (wI (wI (wI C 20 15 sd) 67 3 v4) 67 4 (N.1 157 4 + g + 1)) 67 5 (C.1 67 5 + 1)).1 67 6 + 1)).1 67 f := fun f => by rw [cnt_r (by omega)]
          refine sim_i rfl rfl (step_R hc h (a := a) (sd := sd) (d := 1) (by omega) (Or.inr rfl) (fun q x y z => by rw [cnt_r z]; exact (by repeat (first | rfl | refine row_wI' ?_ (by omega)))) rfl (fun f hf => by rw [cnt_r (by omega)]; exact (by first | rfl | (repeat (first | exact wI_s | rfl | refine el_wI' ?_ (by omega))))) (by rw [cnt_r (by omega)]; exact (by first | rfl | (repeat (first | exact wI_s | rfl | refine el_wI' ?_ (by omega))))) (fun q x y z w => (by repeat (first | rfl | refine row_wI' ?_ (by omega)))) rfl (fun f hf => (by first | rfl | (repeat (first | exact wI_s | rfl | refine el_wI' ?_ (by omega))))) (by first | rfl | (repeat (first | exact wI_s | rfl | refine el_wI' ?_ (by omega)))) (fun q x => ⟨(by first | rfl | (repeat (first | exact wI_s | rfl | refine el_wI' ?_ (by omega)))), (by first | rfl | (repeat (first | exact wI_s | rfl | refine el_wI' ?_ (by omega))))⟩) (by rw [cnt_0, hrow]) (by rw [cnt_1, hrow]) (by rw [cnt_2, hrow]) (by first | rfl | (repeat (first | exact wI_s | rfl | refine el_wI' ?_ (by omega)))) (by first | rfl | (repeat (first | exact wI_s | rfl | refine el_wI' ?_ (by omega)))) ?_)
          exact step_V (m := m) (t1 := N.1 157 4 + g + 1) (d1 := C.1 67 6 + 1) (d2 := C.1 67 7) w0 ⟨x0, y0, z0⟩ ⟨x2, y2⟩ hm x5 (by omega) (by unfold bd; rw [t7a]; omega) hj (by first | rfl | (repeat (first | exact wI_s | rfl | refine el_wI' ?_ (by omega)))) (by first | rfl | (repeat (first | exact wI_s | rfl | refine el_wI' ?_ (by omega)))) (by repeat (first | rfl | refine row_wI' ?_ (by omega))) (by rw [cnt_r (by omega)]; exact (by repeat (first | rfl | refine row_wI' ?_ (by omega)))) ((c67 0).trans (by first | rfl | (repeat (first | exact wI_s | rfl | refine el_wI' ?_ (by omega))))) ((c67 2).trans (by first | rfl | (repeat (first | exact wI_s | rfl | refine el_wI' ?_ (by omega))))) (by first | rfl | (repeat (first | exact wI_s | rfl | refine el_wI' ?_ (by omega)))) (by first | rfl | (repeat (first | exact wI_s | rfl | refine el_wI' ?_ (by omega)))) (by first | rfl | (repeat (first | exact wI_s | rfl | refine el_wI' ?_ (by omega)))) (fun i => (by first | rfl | (repeat (first | exact wI_s | rfl | refine el_wI' ?_ (by omega))))) ((c67 5).trans (by first | rfl | (repeat (first | exact wI_s | rfl | refine el_wI' ?_ (by omega))))) (by first | rfl | (repeat (first | exact wI_s | rfl | refine el_wI' ?_ (by omega)))) ((c67 4).trans (by first | rfl | (repeat (first | exact wI_s | rfl | refine el_wI' ?_ (by omega))))) (by first | rfl | (repeat (first | exact wI_s | rfl | refine el_wI' ?_ (by omega)))) ((c67 6).trans (by first | rfl | (repeat (first | exact wI_s | rfl | refine el_wI' ?_ (by omega))))) (Eq.trans (b := N.1 157 5 + 1) (by first | rfl | (repeat (first | exact wI_s | rfl | refine el_wI' ?_ (by omega)))) (by rw [x6])) ((c67 7).trans (by first | rfl | (repeat (first | exact wI_s | rfl | refine el_wI' ?_ (by omega))))) (Eq.trans (by first | rfl | (repeat (first | exact wI_s | rfl | refine el_wI' ?_ (by omega)))) x7.symm) (((c67 3).trans (by first | rfl | (repeat (first | exact wI_s | rfl | refine el_wI' ?_ (by omega))))).trans hv4.symm) (by rw [hv4]; exact p1)
      · rw [if_neg qa, if_neg qa]
        unfold fin1
        have t7b : (N.1 157 4 + g + 1 + 3 * lwv N 1).toInt = (N.1 157 4).toInt + g.toInt + 1 + (3 * lwv N 1).toInt := by rw [t_add] <;> rw [t7a] <;> omega
        have hrow : (wI (wI (wI (wI (wI (wI C 20 15 sd) 67 3 v4) 67 4 (N.1 157 4 + g + 1)) 67 5 (C.1 67 5 + 1)) 67 4 ((wI (wI (wI (wI C 20 15 sd) 67 3 v4) 67 4 (N.1 157 4 + g + 1)) 67 5 (C.1 67 5 + 1)).1 67 4 + 3 * lwv N 1)) 67 7 ((wI (wI (wI (wI (wI C 20 15 sd) 67 3 v4) 67 4 (N.1 157 4 + g + 1)) 67 5 (C.1 67 5 + 1)) 67 4 ((wI (wI (wI (wI C 20 15 sd) 67 3 v4) 67 4 (N.1 157 4 + g + 1)) 67 5 (C.1 67 5 + 1)).1 67 4 + 3 * lwv N 1)).1 67 7 + 1)).1 (a + 58) = C.1 (a + 58) := (by repeat (first | rfl | refine row_wI' ?_ (by omega)))
        have c67 : ∀ f, (cnt (wI (wI (wI (wI (wI (wI C 20 15 sd) 67 3 v4) 67 4 (N.1 157 4 + g + 1)) 67 5 (C.1 67 5 + 1)) 67 4 ((wI (wI (wI (wI C 20 15 sd) 67 3 v4) 67 4 (N.1 157 4 + g + 1)) 67 5 (C.1 67 5 + 1)).1 67 4 + 3 * lwv N 1)) 67 7 ((wI (wI (wI (wI (wI C 20 15 sd) 67 3 v4) 67 4 (N.1 157 4 + g + 1)) 67 5 (C.1 67 5 + 1)) 67 4 ((wI (wI (wI (wI C 20 15 sd) 67 3 v4) 67 4 (N.1 157 4 + g + 1)) 67 5 (C.1 67 5 + 1)).1 67 4 + 3 * lwv N 1)).1 67 7 + 1)) a 1).1 67 f = (wI (wI (wI (wI (wI (wI C 20 15 sd) 67 3 v4) 67 4 (N.1 157 4 + g + 1)) 67 5 (C.1 67 5 + 1)) 67 4 ((wI (wI (wI (wI C 20 15 sd) 67 3 v4) 67 4 (N.1 157 4 + g + 1)) 67 5 (C.1 67 5 + 1)).1 67 4 + 3 * lwv N 1)) 67 7 ((wI (wI (wI (wI (wI C 20 15 sd) 67 3 v4) 67 4 (N.1 157 4 + g + 1)) 67 5 (C.1 67 5 + 1)) 67 4 ((wI (wI (wI (wI C 20 15 sd) 67 3 v4) 67 4 (N.1 157 4 + g + 1)) 67 5 (C.1 67 5 + 1)).1 67 4 + 3 * lwv N 1)).1 67 7 + 1)).1 67 f := fun f => by rw [cnt_r (by omega)]
        refine sim_i rfl rfl (step_R hc h (a := a) (sd := sd) (d := 1) (by omega) (Or.inr rfl) (fun q x y z => by rw [cnt_r z]; exact (by repeat (first | rfl | refine row_wI' ?_ (by omega)))) rfl (fun f hf => by rw [cnt_r (by omega)]; exact (by first | rfl | (repeat (first | exact wI_s | rfl | refine el_wI' ?_ (by omega))))) (by rw [cnt_r (by omega)]; exact (by first | rfl | (repeat (first | exact wI_s | rfl | refine el_wI' ?_ (by omega))))) (fun q x y z w => (by repeat (first | rfl | refine row_wI' ?_ (by omega)))) rfl (fun f hf => (by first | rfl | (repeat (first | exact wI_s | rfl | refine el_wI' ?_ (by omega))))) (by first | rfl | (repeat (first | exact wI_s | rfl | refine el_wI' ?_ (by omega)))) (fun q x => ⟨(by first | rfl | (repeat (first | exact wI_s | rfl | refine el_wI' ?_ (by omega)))), (by first | rfl | (repeat (first | exact wI_s | rfl | refine el_wI' ?_ (by omega))))⟩) (by rw [cnt_0, hrow]) (by rw [cnt_1, hrow]) (by rw [cnt_2, hrow]) (by first | rfl | (repeat (first | exact wI_s | rfl | refine el_wI' ?_ (by omega)))) (by first | rfl | (repeat (first | exact wI_s | rfl | refine el_wI' ?_ (by omega)))) ?_)
        exact step_V (m := m) (t1 := N.1 157 4 + g + 1 + 3 * lwv N 1) (d1 := C.1 67 6) (d2 := C.1 67 7 + 1) w0 ⟨x0, y0, z0⟩ ⟨x2, y2⟩ hm x5 (by omega) (by unfold bd; rw [t7b]; omega) hj (by first | rfl | (repeat (first | exact wI_s | rfl | refine el_wI' ?_ (by omega)))) (by first | rfl | (repeat (first | exact wI_s | rfl | refine el_wI' ?_ (by omega)))) (by repeat (first | rfl | refine row_wI' ?_ (by omega))) (by rw [cnt_r (by omega)]; exact (by repeat (first | rfl | refine row_wI' ?_ (by omega)))) ((c67 0).trans (by first | rfl | (repeat (first | exact wI_s | rfl | refine el_wI' ?_ (by omega))))) ((c67 2).trans (by first | rfl | (repeat (first | exact wI_s | rfl | refine el_wI' ?_ (by omega))))) (by first | rfl | (repeat (first | exact wI_s | rfl | refine el_wI' ?_ (by omega)))) (by first | rfl | (repeat (first | exact wI_s | rfl | refine el_wI' ?_ (by omega)))) (by first | rfl | (repeat (first | exact wI_s | rfl | refine el_wI' ?_ (by omega)))) (fun i => (by first | rfl | (repeat (first | exact wI_s | rfl | refine el_wI' ?_ (by omega))))) ((c67 5).trans (by first | rfl | (repeat (first | exact wI_s | rfl | refine el_wI' ?_ (by omega))))) (by first | rfl | (repeat (first | exact wI_s | rfl | refine el_wI' ?_ (by omega)))) ((c67 4).trans (by first | rfl | (repeat (first | exact wI_s | rfl | refine el_wI' ?_ (by omega))))) (by first | rfl | (repeat (first | exact wI_s | rfl | refine el_wI' ?_ (by omega)))) ((c67 6).trans (by first | rfl | (repeat (first | exact wI_s | rfl | refine el_wI' ?_ (by omega))))) (Eq.trans (by first | rfl | (repeat (first | exact wI_s | rfl | refine el_wI' ?_ (by omega)))) x6.symm) ((c67 7).trans (by first | rfl | (repeat (first | exact wI_s | rfl | refine el_wI' ?_ (by omega))))) (Eq.trans (b := N.1 157 6 + 1) (by first | rfl | (repeat (first | exact wI_s | rfl | refine el_wI' ?_ (by omega)))) (by rw [x7])) (((c67 3).trans (by first | rfl | (repeat (first | exact wI_s | rfl | refine el_wI' ?_ (by omega))))).trans hv4.symm) (by rw [hv4]; exact p1)
