-- best
theorem ext_720 : ∀ n, n < 7 → (ext n n []).length ≤ 720 := by decide +kernel
theorem range_at : ∀ n, n < 7 → ∀ i, i < n → (List.range n).getD i 0 = i := by decide
theorem find_e {c : Nat} {C N : Mem} (h : Rel c C N) {a1 a2 a3 : Int32} (l1 : 0 ≤ a1.toInt) (l2 : a1.toInt < (N.1 156 2).toInt) (l3 : 0 ≤ a3.toInt) {js : Nat → Nat} {n : Nat} (hn : n ≤ 6) (hj : ∀ i, i < n → (js i : Int) < (N.1 156 0).toInt) (hs : ∀ C1 : Mem, ∃ C', fc_readSet C1 a2 = some (nI n, C') ∧ (∀ q, q ≠ 127 → C'.1 q = C1.1 q) ∧ C'.2 = C1.2 ∧ ∀ i, i < n → C'.1 127 i = nI (js i)) : ∃ C', fOrderSearch_find C a1 a2 a3 = some (if C'.1 125 1 = 1000000 then 0 else 1, C') ∧ Rel c C' N ∧ BST N (ix a1) js n C' (fo N (ix a1) js a3 none (ext n n [])) := by
  obtain ⟨C1, r1, r2, r3, r4⟩ := hs (wI (wI (wI C 125 3 1) 125 4 a1) 125 5 a3)
  let C2 := wI (wI (wI C1 125 6 (nI n)) 125 1 1000000) 125 2 1000000
  have e : ∀ q, q ≠ 125 → C2.1 q = C1.1 q := fun q hq => (wI_row _ _ _ _ hq).trans ((wI_row _ _ _ _ hq).trans (wI_row _ _ _ _ hq))
  have e1 : ∀ q, q ≠ 125 → q ≠ 127 → C2.1 q = C.1 q := fun q hq hq2 => (e q hq).trans ((r2 q hq2).trans ((wI_row _ _ _ _ hq).trans ((wI_row _ _ _ _ hq).trans (wI_row _ _ _ _ hq))))
  have e2 : C2.2 = C.2 := r3
  have f : ∀ i, i ≠ 1 → i ≠ 2 → i ≠ 6 → C2.1 125 i = (wI (wI (wI C 125 3 1) 125 4 a1) 125 5 a3).1 125 i := fun i x y z => by
    rw [← r2 125 (by omega)]
    exact (mem_fst (by omega)).trans ((mem_fst (by omega)).trans (mem_fst (by omega)))
  have f6 : C2.1 125 6 = nI n := (mem_fst (by omega)).trans ((mem_fst (by omega)).trans wI_s)
  have f1 : C2.1 125 1 = 1000000 := (mem_fst (by omega)).trans wI_s
  have f2 : C2.1 125 2 = 1000000 := wI_s
  have f3 : C2.1 125 3 = 1 := (f 3 (by omega) (by omega) (by omega)).trans ((mem_fst (by omega)).trans ((mem_fst (by omega)).trans wI_s))
  have f4 : C2.1 125 4 = a1 := (f 4 (by omega) (by omega) (by omega)).trans ((mem_fst (by omega)).trans wI_s)
  have f5 : C2.1 125 5 = a3 := (f 5 (by omega) (by omega) (by omega)).trans wI_s
  have sm : same 0 118 C C2 := fun q x y => ⟨e1 q (by omega) (by omega), by rw [e2]⟩
  have hX := h.2.2.2.2.1
  have hS : SST C N a1 js a3 n [] none C2 := by
    refine ⟨same_s sm (by omega) (by omega), f3, f4, f5, f6, fun i hi => ?_, fun i hi => ?_, fun p hp => ?_, f1, f2⟩
    · rw [e 127 (by omega)]; exact r4 i hi
    · rw [e1 128 (by omega) (by omega), hX.1 i (by omega), if_neg (by simp)]
    · simp at hp
  obtain ⟨C3, v1, v2, v3⟩ := ext_c (c := c) (C0 := C) ⟨h.1, l1, l2, l3, hn, hj⟩ n 8 [] none C2 (by simp) (by omega) (by simp) hS (fun hz => by
    rw [stp, if_pos ⟨show (0 : Int32) ≤ a3 by rw [t_le, li_0]; exact l3, rfl⟩])
  obtain ⟨w1, w2⟩ := v3
  refine ⟨C3, ?_, Rel_same0 h (fun q x y => ⟨(w1 q (by omega) (by omega) (by omega)).trans (sm q x y).1, by rw [w2]; exact (sm q x y).2⟩) ((w1 128 (by omega) (by omega) (by omega)).trans (e1 128 (by omega) (by omega))) ((w1 134 (by omega) (by omega) (by omega)).trans (e1 134 (by omega) (by omega))) same_r, v2.2.2.2.2.2.2.2.2⟩
  have sp : C2.1 20 14 = spR N js [] := by
    rw [e1 20 (by omega) (by omega)]
    exact h.1.1.2.2.2.2.2.2.1.1
  have go : fOrderSearch_extend 8 0 (C2.1 20 14) 0 0 C2 = some C3 := by
    rw [sp]
    exact v1
  unfold fOrderSearch_find
  rw [mlet_e, mlet_e, mlet_e, r1, Option.bind_some, mlet_e, mlet_e, mlet_e]
  show gd (¬ C2.1 125 3 = 0) (Option.bind (fOrderSearch_extend 8 0 (C2.1 20 14) 0 0 C2) _) = _
  rw [gd_t (by rw [f3]; decide), go, Option.bind_some]
  by_cases z : C3.1 125 1 = 1000000
  · rw [if_pos z, if_pos z]
  · rw [if_neg z, if_neg z]
theorem mbest_e {c : Nat} {C N : Mem} (h : Rel c C N) {a1 a3 a4 : Int32} (l1 : 0 ≤ a1.toInt) (l2 : a1.toInt < (N.1 156 2).toInt) {js : Nat → Nat} {n : Nat} (hn : n ≤ 6) (hj : ∀ i, i < n → (js i : Int) < (N.1 156 0).toInt) (h2 : ∀ i, i < n → N.1 162 i = nI (js i)) (kx : Int32 → Int32 → Mem → Option (Int32 × Mem)) : ∃ x6 x7 N', fm_best_L82 a1 a3 a4 (nI n) (fun M11 => fm_best_L107 a1 a3 a4 (nI n) kx FU (-1) 0 1 M11) FU 0 N = kx x6 x7 N' ∧ same 138 159 N N' ∧ MB N (ix a1) js n x6 x7 N' (fo N (ix a1) js a3 none (ext n n [])) := by
  obtain ⟨N1, r1, r2, r3, -, r5⟩ := b82_L (b1 := a1) (b3 := a3) (b4 := a4) (kx := fun M11 => fm_best_L107 a1 a3 a4 (nI n) kx FU (-1) 0 1 M11) hn n 0 (by omega) N FU (by rw [FU_eq]; omega)
  obtain ⟨c1, c2⟩ := chn_6 n (by omega)
  have hlen := ext_720 n (by omega)
  have hall : ∀ p, p ∈ ext n n [] → p.length = n ∧ ∀ i, i ∈ p → i < n := fun p hp => ⟨by rw [ext_len n [] p hp, List.length_nil, Nat.zero_add], ext_in n [] p (by simp) hp⟩
  generalize ext n n [] = X at c1 c2 hlen hall ⊢
  cases X with
  | nil => simp at c2
  | cons r L =>
    have hr : r = (List.range n).reverse := by simpa using c2
    have hw : RW n r.reverse N1 := by
      rw [hr, List.reverse_reverse]
      refine ⟨List.length_range, fun i hi => ?_, fun i hi => ?_⟩
      · rw [range_at n (by omega) i hi]; omega
      · rw [range_at n (by omega) i hi]; exact r5 i (by omega) hi
    have s1 : same 138 159 N N1 := same_of r2 r3 (by omega)
    rw [List.length_cons] at hlen
    obtain ⟨x6, x7, N2, v1, v2, v3⟩ := perm_L h (lim := a3) (b4 := a4) l1 l2 hn hj (kx := kx) L r c1 hall none (-1) 0 N1 s1 (fun i hi => by rw [r2 162 (by omega)]; exact h2 i hi) hw rfl FU (by rw [FU_eq]; omega)
    rw [show nI 0 = 0 from rfl] at r1
    exact ⟨x6, x7, N2, r1.trans v1, v2, v3⟩
theorem best_go {c : Nat} {C N : Mem} (h : Rel c C N) {a1 a2 a3 a4 : Int32} (l1 : 0 ≤ a1.toInt) (l2 : a1.toInt < (N.1 156 2).toInt) (l3 : 0 ≤ a3.toInt) {js : Nat → Nat} {n : Nat} (hn : n ≤ 6) (hj : ∀ i, i < n → (js i : Int) < (N.1 156 0).toInt) (hs : ∀ C1 : Mem, ∃ C', fc_readSet C1 a2 = some (nI n, C') ∧ (∀ q, q ≠ 127 → C'.1 q = C1.1 q) ∧ C'.2 = C1.2 ∧ ∀ i, i < n → C'.1 127 i = nI (js i)) (h2 : ∀ i, i < n → N.1 162 i = nI (js i)) (hk : a4 = 0 ∨ a4 = 1 ∨ ∃ k, k < n ∧ a4 - 10 = nI k ∧ ¬ a4 = 0 ∧ ¬ a4 = 1) {x y : Option (Int32 × Mem)} (hx : ∀ r C', fOrderSearch_find C a1 a2 a3 = some (r, C') → x = if r = 0 then fc_refuse C' (-5) else (if a4 = 0 then some (C'.1 125 1, C') else if a4 = 1 then some (C'.1 125 2, C') else gd (inb (a4 - 10) 6) (some (C'.1 126 (ix (a4 - 10)), C')))) (hy : y = fm_best_L82 a1 a3 a4 (nI n) (fun M11 => fm_best_L107 a1 a3 a4 (nI n) (fun w25 w26 M27 => (if 0 ≤ w25 then (if a4 = 0 then (some (w25, M27)) else (if a4 = (1 : Int32) then (some (w26, M27)) else (gd (inb (a4 - 10) 6) (some ((M27.1 163 (ix (a4 - 10))), M27))))) else (fm_no M27 (-5)))) FU (-1) 0 1 M11) FU 0 N) : Sim c x y := by
  obtain ⟨C', f1, f2, f3⟩ := find_e h l1 l2 l3 hn hj hs
  obtain ⟨x6, x7, N', g1, g2, g3⟩ := mbest_e (a3 := a3) (a4 := a4) h l1 l2 hn hj h2 (fun w25 w26 M27 => (if 0 ≤ w25 then (if a4 = 0 then (some (w25, M27)) else (if a4 = (1 : Int32) then (some (w26, M27)) else (gd (inb (a4 - 10) 6) (some ((M27.1 163 (ix (a4 - 10))), M27))))) else (fm_no M27 (-5))))
  have hR : Rel c C' N' := Rel_same0 f2 same_r rfl rfl g2
  have hx' := hx _ _ f1
  have hy' := hy.trans g1
  have L := LeapOK.of h
  cases hb : fo N (ix a1) js a3 none (ext n n []) with
  | none =>
    rw [hb] at f3 g3
    have f31 : C'.1 125 1 = 1000000 := f3.1
    have g31 : x6 = -1 := g3
    rw [f31, if_pos rfl, if_pos rfl] at hx'
    rw [g31, if_neg (by decide)] at hy'
    exact sim_5 hR hx' hy'
  | some s =>
    rw [hb] at f3 g3
    obtain ⟨f31, f32, f33, f34, f35⟩ := f3
    obtain ⟨g31, g32, g33, -, -⟩ := g3
    obtain ⟨k1, k2⟩ := (OB.of L (ix a1) hj s (by omega) f35).2.1
    have hne : ¬ C'.1 125 1 = 1000000 := by
      rw [f31, t_eq]
      simp only [Int32.reduceToInt]
      omega
    rw [if_neg hne, if_neg (show ¬ (1 : Int32) = 0 by decide)] at hx'
    rw [if_pos (by rw [g31, t_le, li_0]; exact k1)] at hy'
    rcases hk with z | z | ⟨k, z1, z2, z3, z4⟩
    · rw [if_pos z] at hx' hy'
      exact ⟨x6, C', N', by rw [hx', f31, g31], hy', Rel_next hR⟩
    · have z0 : ¬ a4 = 0 := by rw [z]; decide
      rw [if_neg z0, if_pos z] at hx' hy'
      exact ⟨x7, C', N', by rw [hx', f32, g32], hy', Rel_next hR⟩
    · have ik : inb (nI k) 6 := b_in (by rw [t_nI (by omega)]; omega) (by rw [t_nI (by omega)]; omega)
      rw [if_neg z3, if_neg z4, z2, gd_t ik, ix_nI (by omega)] at hx' hy'
      exact ⟨_, C', N', by rw [hx', f33 k z1], by rw [hy', g33 k z1], Rel_next hR⟩
theorem op_best {c : Nat} {C N : Mem} (h : Rel c C N) (a1 a2 a3 a4 : Int32) : Sim c (fc_best C a1 a2 a3 a4) (fm_best N a1 a2 a3 a4) := by
  have e2 := h.1.1.2.2.1.1
  rcases sets_t h a2 with ⟨s1, N', m1, m2, m3⟩ | ⟨s1, A, n, hA, -, hn, -, hbc, hj, ⟨N', m1, m2, m3, m4⟩, hc1, -⟩
  · have hR' : Rel c C N' := Rel_same0 h same_r rfl rfl (same_of m2 m3 (by omega))
    refine sim_2 hR' ?_ ?_
    · unfold fc_best
      by_cases q : fc_isLeaperT C a1 = 0
      · rw [if_pos q, bind_eta]
      · rw [if_neg q, s1, Option.bind_some, if_pos rfl, bind_eta]
    · unfold fm_best
      rw [m1, Option.bind_some]
      dsimp only
      by_cases q : fm_isLeaperT N' a1 = 0
      · rw [if_pos q, bind_eta]
      · rw [if_neg q, if_pos (by decide), bind_eta]
  have hR' : Rel c C N' := Rel_same0 h same_r rfl rfl (same_of m2 m3 (by omega))
  have N156 : N'.1 156 = N.1 156 := m2 156 (by omega)
  have tn := t_nI (show n < 2147483648 by omega)
  have t10 : (10 : Int32).toInt = 10 := rfl
  have t999 : (999 : Int32).toInt = 999 := rfl
  have tn10 : ((10 : Int32) + nI n).toInt = 10 + (n : Int) := by rw [t_add (by omega) (by omega)]; omega
  by_cases q1 : a1.toInt < 0 ∨ (N.1 156 2).toInt ≤ a1.toInt
  · refine sim_2 hR' ?_ ?_
    · unfold fc_best
      rw [if_pos (by rw [leaper_0, e2]; exact q1), bind_eta]
    · unfold fm_best
      rw [m1, Option.bind_some]
      dsimp only
      rw [if_pos (by rw [mleaper_0, N156]; exact q1), bind_eta]
  have c1 : ¬ fc_isLeaperT C a1 = 0 := by rw [leaper_0, e2]; exact q1
  have c2 : ¬ fm_isLeaperT N' a1 = 0 := by rw [mleaper_0, N156]; exact q1
  have c3 : ¬ nI n < 0 := by rw [t_lt, tn, li_0]; omega
  by_cases q2 : a3.toInt < 0 ∨ 999 < a3.toInt
  · refine sim_2 hR' ?_ ?_
    · unfold fc_best
      rw [if_neg c1, s1, Option.bind_some, if_neg (show ¬ (1 : Int32) = 0 by decide), if_pos (by rw [within_0, li_0, t999]; exact q2), bind_eta]
    · unfold fm_best
      rw [m1, Option.bind_some]
      dsimp only
      rw [if_neg c2, if_neg c3]
      by_cases w : a3 < 0
      · rw [if_pos w, bind_eta]
      · rw [if_neg w, if_neg (by rw [t_le, t999]; rw [t_lt, li_0] at w; omega), bind_eta]
  have c4 : ¬ fc_isWithinT C a3 0 999 = 0 := by rw [within_0, li_0, t999]; exact q2
  have c5 : ¬ a3 < 0 := by rw [t_lt, li_0]; omega
  have c6 : a3 ≤ 999 := by rw [t_le, t999]; omega
  have tv : 10 ≤ a4.toInt → (a4 - 10).toInt = a4.toInt - 10 := fun z => by
    have := Int32.toInt_lt a4
    rw [t_sub (by omega) (by omega), t10]
  by_cases q3 : a4 = 0 ∨ a4 = 1 ∨ (10 ≤ a4.toInt ∧ a4.toInt < 10 + n)
  rotate_left
  · have d0 : ¬ a4 = 0 := fun z => q3 (Or.inl z)
    have d1 : ¬ a4 = 1 := fun z => q3 (Or.inr (Or.inl z))
    have d2 : ¬ (10 ≤ a4.toInt ∧ a4.toInt < 10 + n) := fun z => q3 (Or.inr (Or.inr z))
    refine sim_2 hR' ?_ ?_
    · unfold fc_best
      rw [if_neg c1, s1, Option.bind_some, if_neg (show ¬ (1 : Int32) = 0 by decide), if_neg c4, ilet_e, jlet_e, jlet_e, hbc, Option.bind_some]
      have z62 : (jlet (fun z87 : Unit => (Option.bind (fOrderSearch_find C a1 a2 a3) (fun u8 => (if u8.1 = 0 then (Option.bind (fc_refuse u8.2 (-5)) (fun u11 => (some (u11.1, u11.2)))) else (if (0 : Int32) = 0 then (if a4 = 0 then (some ((u8.2.1 125 1), u8.2)) else (some ((u8.2.1 125 2), u8.2))) else (gd (inb (a4 - 10) 6) (some ((u8.2.1 126 (ix (a4 - 10))), u8.2)))))))) (fun J87 => (if a4 = 0 then (J87 ()) else (if a4 = (1 : Int32) then (J87 ()) else (if (0 : Int32) = 0 then (Option.bind (fc_refuse C (-2)) (fun u13 => (some (u13.1, u13.2)))) else (J87 ())))))) = fc_refuse C (-2) := by
        rw [jlet_e, if_neg d0, if_neg d1, if_pos rfl, bind_eta]
      by_cases w : a4 < 10
      · rw [if_pos w]
        exact z62
      · rw [if_neg w]
        rw [t_lt, t10] at w
        rw [if_pos (by rw [t_le, tn, tv (by omega)]; omega)]
        exact z62
    · unfold fm_best
      rw [m1, Option.bind_some]
      dsimp only
      rw [if_neg c2, if_neg c3, if_neg c5, if_pos c6, jlet_e, if_neg d0, if_neg d1]
      by_cases w : a4 < 10
      · rw [if_pos w, bind_eta]
      · rw [if_neg w]
        rw [t_lt, t10] at w
        rw [if_neg (by rw [t_lt, tn10]; omega), bind_eta]
  have hk : a4 = 0 ∨ a4 = 1 ∨ ∃ k, k < n ∧ a4 - 10 = nI k ∧ ¬ a4 = 0 ∧ ¬ a4 = 1 := by
    rcases q3 with z | z | ⟨z1, z2⟩
    · exact Or.inl z
    · exact Or.inr (Or.inl z)
    · have hv := tv z1
      have hi := t_ix (a := a4 - 10) (by omega)
      refine Or.inr (Or.inr ⟨ix (a4 - 10), by omega, of_ix (by omega), fun y => ?_, fun y => ?_⟩)
      · rw [y, li_0] at z1; omega
      · rw [y, li_1] at z1; omega
  refine best_go hR' (a1 := a1) (a2 := a2) (a3 := a3) (a4 := a4) (by omega) (by rw [N156]; omega) (by omega) hn (js := el A 20) (by rw [N156]; exact hj) hc1 m4 hk (fun r C' hf => ?_) ?_
  · unfold fc_best
    rw [if_neg c1, s1, Option.bind_some, if_neg (show ¬ (1 : Int32) = 0 by decide), if_neg c4, ilet_e, jlet_e, jlet_e, hbc, Option.bind_some, hf]
    rcases hk with z | z | ⟨k, z1, z2, z3, z4⟩
    · rw [if_pos (show a4 < 10 by rw [z]; decide)]
      dsimp only
      rw [jlet_e, if_pos z, Option.bind_some, bind_eta, if_pos rfl, if_pos z, if_pos z]
    · have z0 : ¬ a4 = 0 := by rw [z]; decide
      rw [if_pos (show a4 < 10 by rw [z]; decide)]
      dsimp only
      rw [jlet_e, if_neg z0, if_pos z, Option.bind_some, bind_eta, if_pos rfl, if_neg z0, if_neg z0, if_pos z]
    · have z10 : 10 ≤ a4.toInt := by
        rcases q3 with y | y | y
        · exact absurd y z3
        · exact absurd y z4
        · exact y.1
      have hv := tv z10
      rw [z2, t_nI (by omega)] at hv
      rw [if_neg (show ¬ a4 < 10 by rw [t_lt, t10]; omega), if_neg (show ¬ nI n ≤ a4 - 10 by rw [t_le, z2, tn, t_nI (by omega)]; omega)]
      dsimp only
      rw [jlet_e, if_neg z3, if_neg z4, if_neg (show ¬ (1 : Int32) = 0 by decide), Option.bind_some, bind_eta, if_neg (show ¬ (1 : Int32) = 0 by decide), if_neg z3, if_neg z4]
  · unfold fm_best
    rw [m1, Option.bind_some]
    dsimp only
    rw [if_neg c2, if_neg c3, if_neg c5, if_pos c6, jlet_e]
    simp only [bind_eta]
    rcases q3 with z | z | ⟨z1, z2⟩
    · rw [if_pos z]
    · by_cases w : a4 = 0
      · rw [if_pos w]
      · rw [if_neg w, if_pos z]
    · by_cases w : a4 = 0
      · rw [if_pos w]
      · rw [if_neg w]
        by_cases w2 : a4 = 1
        · rw [if_pos w2]
        · rw [if_neg w2, if_neg (by rw [t_lt, t10]; omega), if_pos (by rw [t_lt, tn10]; omega)]
