-- the loop
section LOOP
variable {p : Program} {l : Launch} {e : Env} {s : State} {m : MethodId} {below : List Frame} {meth : Method} {c0 : Code} {D : va_G} {cy : Nat → ClassId} {ad : Nat → Nat} {cs sl : Nat} {b L c : Nat} {xs : Nat → Int32} {M C N : Mem}
theorem l_end (X : LX p s m #[.ref b] meth c0 D cy ad (fun q => s.heap.size ≤ q) cs sl b L xs) (hr : meth.sig.returnType = ret) : LG p l e s m #[.ref b] below meth c0 D cy ad (fun q => s.heap.size ≤ q) cs sl (lw_Z below #[.ref b] s) b c 1860 [] M := fun H locs ls hl hP hS => by
  refine va_forget hS.2.2 ?_
  refine lv_iconst (v := 1) X.1.1 X.1.2.1 dL_law_1860 (by decide) ?_
  exact W.widen X.2.2.2.2.1 X.2.2.2.2.2 (lw_ret X.1.1 X.1.2.1 hr X.1.2.2.2.2 dL_law_1861)
theorem l_next (X : LX p s m #[.ref b] meth c0 D cy ad (fun q => s.heap.size ≤ q) cs sl b L xs) (hc : c < 64) {Q : State → Prop} (K : LG p l e s m #[.ref b] below meth c0 D cy ad (fun q => s.heap.size ≤ q) cs sl Q b (c + 1) 18 [] M) : LG p l e s m #[.ref b] below meth c0 D cy ad (fun q => s.heap.size ≤ q) cs sl Q b c 1854 [] M := fun H locs ls hl hP hS => by
  have hv : nI (6 * c) + Int32.ofInt 6 = nI (6 * (c + 1)) := by
    show nI (6 * c) + nI 6 = _
    rw [nI_ad]
    rfl
  refine lv_iinc X.1.1 X.1.2.1 dL_law_1854 hl (k := 3) rfl hv (by omega) rfl (fun ls1 hl1 => ?_)
  refine lv_goto X.1.1 X.1.2.1 dL_law_1857 (tgt := 18) (by decide) ?_
  exact K H locs ls1 (lv_sub hl1 [1, 2, 3, 0] rfl) hP hS
theorem and63 (x : Int32) : bd (x &&& 63) 0 63 := by
  obtain ⟨X, hX, rfl⟩ := nat_of x
  have h := @Nat.and_two_pow_sub_one_eq_mod X 6
  simp only [Nat.reducePow, Nat.reduceSub] at h
  have e : nI X &&& 63 = nI (X % 64) := by
    show nI X &&& nI 63 = _
    rw [nI_and, h]
  have := Nat.mod_lt X (show 0 < 64 by omega)
  rw [e]
  unfold bd
  rw [t_nI (by omega)]
  omega
theorem l_tab (X : LX p s m #[.ref b] meth c0 D cy ad (fun q => s.heap.size ≤ q) cs sl b L xs) {Q : State → Prop} {x : Int32} (k tgt : Nat) {off : Int} (hk : k < 47) (hx : x = nI k) (ho : (#[203, 246, 319, 382, 416, 439, 472, 505, 558, 591, 640, 673, 706, 739, 762, 795, 808, 821, 854, 877, 900, 933, 976, 999, 1022, 1065, 1098, 1131, 1184, 1237, 1290, 1323, 1386, 1429, 1462, 1485, 1538, 1581, 1604, 1637, 1670, 1693, 1736, 1749, 1772, 1785, 1798] : Array Int)[k]? = some off) (ht : (33 : Int) + off = (tgt : Int)) (K : LG p l e s m #[.ref b] below meth c0 D cy ad (fun q => s.heap.size ≤ q) cs sl Q b c tgt [] M) : LG p l e s m #[.ref b] below meth c0 D cy ad (fun q => s.heap.size ≤ q) cs sl Q b c 33 [.int x] M := fun H locs ls hl hP hS => by
  have tk := t_nI (show k < 2147483648 by omega)
  have e1 : (x.toInt - 0).toNat = k := by rw [hx, tk]; omega
  exact lv_tableIn X.1.1 X.1.2.1 dL_law_33 (by rw [hx, tk]; omega) (by rw [hx, tk]; omega) (by rw [e1]; exact ho) ht (K H locs ls hl hP hS)
theorem l_out (X : LX p s m #[.ref b] meth c0 D cy ad (fun q => s.heap.size ≤ q) cs sl b L xs) {Q : State → Prop} {x : Int32} (hx : 47 ≤ x.toInt) (K : LG p l e s m #[.ref b] below meth c0 D cy ad (fun q => s.heap.size ≤ q) cs sl Q b c 1854 [] M) : LG p l e s m #[.ref b] below meth c0 D cy ad (fun q => s.heap.size ≤ q) cs sl Q b c 33 [.int x] M := fun H locs ls hl hP hS =>
  lv_tableOut X.1.1 X.1.2.1 dL_law_33 (Or.inr (by omega)) (tgt := 1854) (by decide) (K H locs ls hl hP hS)
theorem l_len (X : LX p s m #[.ref b] meth c0 D cy ad (fun q => s.heap.size ≤ q) cs sl b L xs) {Q : State → Prop} {st : List Value} (K : LG p l e s m #[.ref b] below meth c0 D cy ad (fun q => s.heap.size ≤ q) cs sl Q b c 21 (.int (nI L) :: st) M) : LG p l e s m #[.ref b] below meth c0 D cy ad (fun q => s.heap.size ≤ q) cs sl Q b c 20 (.ref b :: st) M := fun H locs ls hl hP hS =>
  va_slen X.1.1 X.1.2.1 X.2.2.2.1.1 X.2.2.2.1.2.1 X.2.2.2.1.2.2.1 hS dL_law_20 (K H locs ls hl hP hS)
theorem l_gt (X : LX p s m #[.ref b] meth c0 D cy ad (fun q => s.heap.size ≤ q) cs sl b L xs) {Q : State → Prop} {x y : Int32} (K1 : y < x → LG p l e s m #[.ref b] below meth c0 D cy ad (fun q => s.heap.size ≤ q) cs sl Q b c 1860 [] M) (K2 : ¬ y < x → LG p l e s m #[.ref b] below meth c0 D cy ad (fun q => s.heap.size ≤ q) cs sl Q b c 27 [] M) : LG p l e s m #[.ref b] below meth c0 D cy ad (fun q => s.heap.size ≤ q) cs sl Q b c 24 [.int y, .int x] M := fun H locs ls hl hP hS =>
  lv_icmp_gt X.1.1 X.1.2.1 dL_law_24 (tgt := 1860) (by decide) (fun q => K1 q H locs ls hl hP hS) (fun q => K2 q H locs ls hl hP hS)
set_option maxRecDepth 100000 in
set_option maxHeartbeats 4000000 in
theorem law_loop (X : LX p s m #[.ref b] meth c0 D cy ad (fun q => s.heap.size ≤ q) cs sl b L xs) (hr : meth.sig.returnType = ret) : ∀ (n c : Nat) (C N : Mem), c + n = 64 → Rel c C N → LG p l e s m #[.ref b] below meth c0 D cy ad (fun q => s.heap.size ≤ q) cs sl (lw_Z below #[.ref b] s) b c 18 [] (wfC N C) := by
  intro n
  have hL := X.2.2.2.1.2.2.2
  have tL := t_nI (show L < 2147483648 by omega)
  have t6 : (6 : Int32).toInt = 6 := rfl
  have tL6 : (nI L - 6).toInt = (L : Int) - 6 := by rw [t_sub (by rw [t6]; omega) (by rw [t6]; omega), t6, tL]
  induction n with
  | zero =>
    intro c C N hc h
    have tc := t_nI (show 6 * c < 2147483648 by omega)
    refine l_i3 X dL_law_18 (l_a0 X dL_law_19 (l_len X (l_bi X (v := 6) (by decide) dL_law_21 (l_sub X dL_law_23 (l_gt X (fun _ => l_end X hr) (fun q => ?_))))))
    rw [t_lt] at q
    omega
  | succ n ih =>
    intro c C N hc h
    have tc := t_nI (show 6 * c < 2147483648 by omega)
    refine l_i3 X dL_law_18 (l_a0 X dL_law_19 (l_len X (l_bi X (v := 6) (by decide) dL_law_21 (l_sub X dL_law_23 (l_gt X (fun _ => l_end X hr) (fun q => ?_))))))
    rw [t_lt] at q
    have hi : 6 * c + 6 ≤ L := by omega
    have K : ∀ C1 N1, Rel (c + 1) C1 N1 → LG p l e s m #[.ref b] below meth c0 D cy ad (fun q => s.heap.size ≤ q) cs sl (lw_Z below #[.ref b] s) b c 1854 [] (wfC N1 C1) := fun C1 N1 h1 => l_next X (by omega) (ih (c + 1) C1 N1 (by omega) h1)
    refine l_a0 X dL_law_27 (l_i3 X dL_law_28 ?_)
    have ld := l_ld (l := l) (e := e) (below := below) (Q := lw_Z below #[.ref b] s) (pc := 29) (st := []) (M := wfC N C) X hi (j := 0) (by omega) dL_law_29
    rw [Nat.add_zero] at ld
    refine ld (l_bi X (v := 63) (by decide) dL_law_30 (l_and X dL_law_32 ?_))
    obtain ⟨b1, b2⟩ := and63 (xs (6 * c))
    generalize xs (6 * c) &&& 63 = v at b1 b2
    have ov := of_ix b1
    have iv := t_ix b1
    generalize ix v = k at ov iv
    have hk : k = 0 ∨ k = 1 ∨ k = 2 ∨ k = 3 ∨ k = 4 ∨ k = 5 ∨ k = 6 ∨ k = 7 ∨ k = 8 ∨ k = 9 ∨ k = 10 ∨ k = 11 ∨ k = 12 ∨ k = 13 ∨ k = 14 ∨ k = 15 ∨ k = 16 ∨ k = 17 ∨ k = 18 ∨ k = 19 ∨ k = 20 ∨ k = 21 ∨ k = 22 ∨ k = 23 ∨ k = 24 ∨ k = 25 ∨ k = 26 ∨ k = 27 ∨ k = 28 ∨ k = 29 ∨ k = 30 ∨ k = 31 ∨ k = 32 ∨ k = 33 ∨ k = 34 ∨ k = 35 ∨ k = 36 ∨ k = 37 ∨ k = 38 ∨ k = 39 ∨ k = 40 ∨ k = 41 ∨ k = 42 ∨ k = 43 ∨ k = 44 ∨ k = 45 ∨ k = 46 ∨ 47 ≤ k := by omega
    rcases hk with rfl | rfl | rfl | rfl | rfl | rfl | rfl | rfl | rfl | rfl | rfl | rfl | rfl | rfl | rfl | rfl | rfl | rfl | rfl | rfl | rfl | rfl | rfl | rfl | rfl | rfl | rfl | rfl | rfl | rfl | rfl | rfl | rfl | rfl | rfl | rfl | rfl | rfl | rfl | rfl | rfl | rfl | rfl | rfl | rfl | rfl | rfl | hk
    · exact l_tab X 0 236 (by omega) ov rfl (by decide) (lwc_0 X (by omega) hi h K)
    · exact l_tab X 1 279 (by omega) ov rfl (by decide) (lwc_1 X (by omega) hi h K)
    · exact l_tab X 2 352 (by omega) ov rfl (by decide) (lwc_2 X (by omega) hi h K)
    · exact l_tab X 3 415 (by omega) ov rfl (by decide) (lwc_3 X (by omega) hi h K)
    · exact l_tab X 4 449 (by omega) ov rfl (by decide) (lwc_4 X (by omega) hi h K)
    · exact l_tab X 5 472 (by omega) ov rfl (by decide) (lwc_5 X (by omega) hi h K)
    · exact l_tab X 6 505 (by omega) ov rfl (by decide) (lwc_6 X (by omega) hi h K)
    · exact l_tab X 7 538 (by omega) ov rfl (by decide) (lwc_7 X (by omega) hi h K)
    · exact l_tab X 8 591 (by omega) ov rfl (by decide) (lwc_8 X (by omega) hi h K)
    · exact l_tab X 9 624 (by omega) ov rfl (by decide) (lwc_9 X (by omega) hi h K)
    · exact l_tab X 10 673 (by omega) ov rfl (by decide) (lwc_10 X (by omega) hi h K)
    · exact l_tab X 11 706 (by omega) ov rfl (by decide) (lwc_11 X (by omega) hi h K)
    · exact l_tab X 12 739 (by omega) ov rfl (by decide) (lwc_12 X (by omega) hi h K)
    · exact l_tab X 13 772 (by omega) ov rfl (by decide) (lwc_13 X (by omega) hi h K)
    · exact l_tab X 14 795 (by omega) ov rfl (by decide) (lwc_14 X (by omega) hi h K)
    · exact l_tab X 15 828 (by omega) ov rfl (by decide) (lwc_15 X (by omega) hi h K)
    · exact l_tab X 16 841 (by omega) ov rfl (by decide) (lwc_16 X (by omega) hi h K)
    · exact l_tab X 17 854 (by omega) ov rfl (by decide) (lwc_17 X (by omega) hi h K)
    · exact l_tab X 18 887 (by omega) ov rfl (by decide) (lwc_18 X (by omega) hi h K)
    · exact l_tab X 19 910 (by omega) ov rfl (by decide) (lwc_19 X (by omega) hi h K)
    · exact l_tab X 20 933 (by omega) ov rfl (by decide) (lwc_20 X (by omega) hi h K)
    · exact l_tab X 21 966 (by omega) ov rfl (by decide) (lwc_21 X (by omega) hi h K)
    · exact l_tab X 22 1009 (by omega) ov rfl (by decide) (lwc_22 X (by omega) hi h K)
    · exact l_tab X 23 1032 (by omega) ov rfl (by decide) (lwc_23 X (by omega) hi h K)
    · exact l_tab X 24 1055 (by omega) ov rfl (by decide) (lwc_24 X (by omega) hi h K)
    · exact l_tab X 25 1098 (by omega) ov rfl (by decide) (lwc_25 X (by omega) hi h K)
    · exact l_tab X 26 1131 (by omega) ov rfl (by decide) (lwc_26 X (by omega) hi h K)
    · exact l_tab X 27 1164 (by omega) ov rfl (by decide) (lwc_27 X (by omega) hi h K)
    · exact l_tab X 28 1217 (by omega) ov rfl (by decide) (lwc_28 X (by omega) hi h K)
    · exact l_tab X 29 1270 (by omega) ov rfl (by decide) (lwc_29 X (by omega) hi h K)
    · exact l_tab X 30 1323 (by omega) ov rfl (by decide) (lwc_30 X (by omega) hi h K)
    · exact l_tab X 31 1356 (by omega) ov rfl (by decide) (lwc_31 X (by omega) hi h K)
    · exact l_tab X 32 1419 (by omega) ov rfl (by decide) (lwc_32 X (by omega) hi h K)
    · exact l_tab X 33 1462 (by omega) ov rfl (by decide) (lwc_33 X (by omega) hi h K)
    · exact l_tab X 34 1495 (by omega) ov rfl (by decide) (lwc_34 X (by omega) hi h K)
    · exact l_tab X 35 1518 (by omega) ov rfl (by decide) (lwc_35 X (by omega) hi h K)
    · exact l_tab X 36 1571 (by omega) ov rfl (by decide) (lwc_36 X (by omega) hi h K)
    · exact l_tab X 37 1614 (by omega) ov rfl (by decide) (lwc_37 X (by omega) hi h K)
    · exact l_tab X 38 1637 (by omega) ov rfl (by decide) (lwc_38 X (by omega) hi h K)
    · exact l_tab X 39 1670 (by omega) ov rfl (by decide) (lwc_39 X (by omega) hi h K)
    · exact l_tab X 40 1703 (by omega) ov rfl (by decide) (lwc_40 X (by omega) hi h K)
    · exact l_tab X 41 1726 (by omega) ov rfl (by decide) (lwc_41 X (by omega) hi h K)
    · exact l_tab X 42 1769 (by omega) ov rfl (by decide) (lwc_42 X (by omega) hi h K)
    · exact l_tab X 43 1782 (by omega) ov rfl (by decide) (lwc_43 X (by omega) hi h K)
    · exact l_tab X 44 1805 (by omega) ov rfl (by decide) (lwc_44 X (by omega) hi h K)
    · exact l_tab X 45 1818 (by omega) ov rfl (by decide) (lwc_45 X (by omega) hi h K)
    · exact l_tab X 46 1831 (by omega) ov rfl (by decide) (lwc_46 X (by omega) hi h K)
    · exact l_out X (by omega) (K C N (Rel_next h))
end LOOP
