-- the search for the best order
theorem arR_e (N : Mem) (js : Nat → Nat) (i : Nat) (r : List Nat) : dpR N js r + lgx N (spR N js r) (N.1 143 (js i)) (lwv N 1) = arR N js i r := rfl
theorem rkR_e (N : Mem) (a : Nat) (js : Nat → Nat) (i : Nat) (r : List Nat) : rkR N a js r + rkx N a (js i) (ix (hrx (arR N js i r))) = rkR N a js (i :: r) := rfl
theorem dpR_e (N : Mem) (js : Nat → Nat) (i : Nat) (r : List Nat) : arR N js i r + 1 = dpR N js (i :: r) := rfl
def BST (N : Mem) (a : Nat) (js : Nat → Nat) (n : Nat) (M : Mem) : Option (List Nat) → Prop
  | none => M.1 125 1 = 1000000 ∧ M.1 125 2 = 1000000
  | some s => M.1 125 1 = rkR N a js s ∧ M.1 125 2 = enR N js s ∧ (∀ p, p < n → M.1 126 p = nI (js (atR s p))) ∧ s.length = n ∧ ∀ i, i ∈ s → i < n
def SST (C0 N : Mem) (av : Int32) (js : Nat → Nat) (lim : Int32) (n : Nat) (r : List Nat) (b : Option (List Nat)) (M : Mem) : Prop := same 0 117 C0 M ∧ M.1 125 3 = 1 ∧ M.1 125 4 = av ∧ M.1 125 5 = lim ∧ M.1 125 6 = nI n ∧ (∀ i, i < n → M.1 127 i = nI (js i)) ∧ (∀ i, i < n → M.1 128 i = if i ∈ r then 1 else 0) ∧ (∀ p, p < r.length → M.1 129 p = nI (js (atR r p))) ∧ BST N (ix av) js n M b
def FRS (M M' : Mem) : Prop := (∀ q, q ≠ 125 → q ≠ 126 → q ≠ 129 → M'.1 q = M.1 q) ∧ M'.2 = M.2
theorem FRS.tr {A B D : Mem} (h : FRS A B) (g : FRS B D) : FRS A D := ⟨fun q x y z => (g.1 q x y z).trans (h.1 q x y z), g.2.trans h.2⟩
/-- what the search stands on -/
def SK (c : Nat) (C0 N : Mem) (av : Int32) (js : Nat → Nat) (lim : Int32) (n : Nat) : Prop := RN c C0 N ∧ 0 ≤ av.toInt ∧ av.toInt < (N.1 156 2).toInt ∧ 0 ≤ lim.toInt ∧ n ≤ 6 ∧ ∀ i, i < n → (js i : Int) < (N.1 156 0).toInt
theorem bet_c {C N : Mem} (L : LeapOK C N) {a : Nat} {js : Nat → Nat} {n : Nat} (hj : ∀ i, i < n → (js i : Int) < (N.1 156 0).toInt) {M : Mem} {b : Option (List Nat)} (hb : BST N a js n M b) {i : Nat} {r : List Nat} (h1 : r.length < 6) (h2 : ∀ j, j ∈ i :: r → j < n) : fOrderSearch_isBetterT M (rkR N a js (i :: r)) (arR N js i r) = 0 ↔ ¬ betB N a js b (i :: r) = true := by
  obtain ⟨s1, s2, s3, s4, s5, s6, s7⟩ := OB.st L (a := a) hj h1 h2
  unfold fOrderSearch_isBetterT
  cases b with
  | none =>
    obtain ⟨g1, g2⟩ := hb
    rw [g1, if_pos (by rw [t_lt]; simp only [Int32.reduceToInt]; omega)]
    simp [betB]
  | some s =>
    obtain ⟨g1, g2, -⟩ := hb
    rw [g1, g2]
    have en : enR N js (i :: r) = arR N js i r := rfl
    simp only [betB, Bool.or_eq_true, Bool.and_eq_true, decide_eq_true_eq, en]
    by_cases q1 : rkR N a js (i :: r) < rkR N a js s
    · rw [if_pos q1]
      constructor
      · intro z; exact absurd z (by decide)
      · intro z; exact absurd (Or.inl q1) z
    rw [if_neg q1]
    by_cases q2 : rkR N a js (i :: r) = rkR N a js s
    · rw [if_pos q2]
      by_cases q3 : enR N js s ≤ arR N js i r
      · rw [if_pos q3]
        refine ⟨fun _ z => ?_, fun _ => rfl⟩
        rw [t_le] at q3
        rcases z with z | ⟨-, z⟩
        · exact q1 z
        · rw [t_lt] at z; omega
      · rw [if_neg q3]
        constructor
        · intro z; exact absurd z (by decide)
        · intro z
          refine absurd (Or.inr ⟨q2, ?_⟩) z
          rw [t_le] at q3
          rw [t_lt]
          omega
    · rw [if_neg q2]
      refine ⟨fun _ z => ?_, fun _ => rfl⟩
      rcases z with z | ⟨z, -⟩
      · exact q1 z
      · exact q2 z
theorem BST_fr {N : Mem} {a : Nat} {js : Nat → Nat} {n : Nat} {M M' : Mem} {b : Option (List Nat)} (h : BST N a js n M b) (h1 : M'.1 125 = M.1 125) (h2 : M'.1 126 = M.1 126) : BST N a js n M' b := by
  cases b with
  | none => unfold BST at h ⊢; rw [h1]; exact h
  | some s => unfold BST at h ⊢; rw [h1, h2]; exact h
theorem SST_in {C0 N : Mem} {av lim : Int32} {js : Nat → Nat} {n k : Nat} {r : List Nat} {b : Option (List Nat)} {M : Mem} (h : SST C0 N av js lim n r b M) : SST C0 N av js lim n (k :: r) b (wI (wI M 128 k 1) 129 r.length (nI (js k))) := by
  obtain ⟨h1, h2, h3, h4, h5, h6, h7, h8, h9⟩ := h
  have e : ∀ q, q ≠ 128 → q ≠ 129 → (wI (wI M 128 k 1) 129 r.length (nI (js k))).1 q = M.1 q := fun q x y => (wI_row _ _ _ _ y).trans (wI_row _ _ _ _ x)
  refine ⟨same_t h1 (same_t (same_wI (by omega)) (same_wI (by omega))), ?_, ?_, ?_, ?_, ?_, ?_, ?_, BST_fr h9 (e 125 (by omega) (by omega)) (e 126 (by omega) (by omega))⟩
  · rw [e 125 (by omega) (by omega)]; exact h2
  · rw [e 125 (by omega) (by omega)]; exact h3
  · rw [e 125 (by omega) (by omega)]; exact h4
  · rw [e 125 (by omega) (by omega)]; exact h5
  · rw [e 127 (by omega) (by omega)]; exact h6
  · intro i hi
    rw [mem_fst (by omega)]
    by_cases z : i = k
    · rw [z, wI_s, if_pos (List.mem_cons_self ..)]
    · rw [mem_fst (by omega), h7 i hi]
      by_cases y : i ∈ r
      · rw [if_pos y, if_pos (List.mem_cons_of_mem _ y)]
      · rw [if_neg y, if_neg (fun w => by rcases List.mem_cons.mp w with w | w; exact z w; exact y w)]
  · intro p hp
    rw [List.length_cons] at hp
    rw [atR]
    by_cases z : p = r.length
    · rw [z, wI_s, if_pos rfl]
    · rw [mem_fst (by omega), mem_fst (by omega), if_neg z]
      exact h8 p (by omega)
theorem SST_out {C0 N : Mem} {av lim : Int32} {js : Nat → Nat} {n k : Nat} {r : List Nat} {b : Option (List Nat)} {M M' : Mem} (hk : k < n) (hr : k ∉ r) (h0 : SST C0 N av js lim n r b M) {b' : Option (List Nat)} (h : SST C0 N av js lim n (k :: r) b' M') (hf : FRS (wI (wI M 128 k 1) 129 r.length (nI (js k))) M') : SST C0 N av js lim n r b' (wI M' 128 k 0) ∧ FRS M (wI M' 128 k 0) := by
  obtain ⟨h1, h2, h3, h4, h5, h6, h7, h8, h9⟩ := h
  obtain ⟨g1, g2, g3, g4, g5, g6, g7, g8, g9⟩ := h0
  obtain ⟨f1, f2⟩ := hf
  have e : ∀ q, q ≠ 128 → (wI M' 128 k 0).1 q = M'.1 q := fun q x => wI_row _ _ _ _ x
  have r8 : (wI M' 128 k 0).1 128 = M.1 128 := by
    funext i
    by_cases z : i = k
    · rw [z, wI_s, g7 k hk, if_neg hr]
    · rw [mem_fst (by omega), f1 128 (by omega) (by omega) (by omega), mem_fst (by omega), mem_fst (by omega)]
  refine ⟨⟨same_t h1 (same_wI (by omega)), ?_, ?_, ?_, ?_, ?_, ?_, ?_, BST_fr h9 (e 125 (by omega)) (e 126 (by omega))⟩, fun q x y z => ?_, ?_⟩
  · rw [e 125 (by omega)]; exact h2
  · rw [e 125 (by omega)]; exact h3
  · rw [e 125 (by omega)]; exact h4
  · rw [e 125 (by omega)]; exact h5
  · rw [e 127 (by omega)]; exact h6
  · rw [r8]; exact g7
  · intro p hp
    rw [e 129 (by omega), h8 p (by rw [List.length_cons]; omega), atR, if_neg (by omega)]
  · by_cases w : q = 128
    · rw [w]; exact r8
    · rw [e q w, f1 q x y z, wI_row _ _ _ _ z, wI_row _ _ _ _ w]
  · exact f2
theorem ext_L {c : Nat} {C0 N : Mem} {av lim : Int32} {js : Nat → Nat} {n d : Nat} {r : List Nat} (hK : SK c C0 N av js lim n) (hd : r.length + (d + 1) = n) (hr : ∀ i, i ∈ r → i < n) {rec : Int32 → Int32 → Int32 → Int32 → Mem → Option Mem} (IH : ∀ k b M, k < n → k ∉ r → SST C0 N av js lim n (k :: r) b M → (d = 0 → stp N (ix av) js lim b (k :: r) = some (k :: r)) → ∃ M', rec (nI (r.length + 1)) (spR N js (k :: r)) (dpR N js (k :: r)) (rkR N (ix av) js (k :: r)) M = some M' ∧ SST C0 N av js lim n (k :: r) (fo N (ix av) js lim b (ext n d (k :: r))) M' ∧ FRS M M') : ∀ (m k : Nat), k + m = n → ∀ b M, SST C0 N av js lim n r b M → ∀ F, m < F → ∃ M', fOrderSearch_extend_L25 rec (nI r.length) (spR N js r) (dpR N js r) (rkR N (ix av) js r) F (nI k) M = some M' ∧ SST C0 N av js lim n r (fo N (ix av) js lim b (exL (fun i => ext n d (i :: r)) r m k)) M' ∧ FRS M M' := by
  obtain ⟨hR, a1, a2, hlm, hn, hj⟩ := hK
  intro m
  have tn := t_nI (show n < 2147483648 by omega)
  induction m with
  | zero =>
    intro k hk b M hS F hF
    obtain ⟨F, rfl⟩ : ∃ m, F = m + 1 := ⟨F - 1, by omega⟩
    have tk := t_nI (show k < 2147483648 by omega)
    refine ⟨M, ?_, hS, fun _ _ _ _ => rfl, rfl⟩
    rw [fOrderSearch_extend_L25, if_pos (by rw [hS.2.2.2.2.1, t_le]; omega)]
  | succ m ih =>
    intro k hk b M hS F hF
    obtain ⟨F, rfl⟩ : ∃ m, F = m + 1 := ⟨F - 1, by omega⟩
    have tk := t_nI (show k < 2147483648 by omega)
    have xk := ix_nI (show k < 2147483648 by omega)
    have ik : inb (nI k) 6 := b_in (by omega) (by omega)
    obtain ⟨h1, h2, h3, h4, h5, h6, h7, h8, h9⟩ := id hS
    rw [fOrderSearch_extend_L25, if_neg (by rw [h5, t_le]; omega), jlet_e, gd_t ik, xk, exL, fo_app]
    by_cases kr : k ∈ r
    · rw [h7 k (by omega), if_pos kr, if_neg (by decide), if_pos kr, nI_1]
      exact ih (k + 1) (by omega) b M hS F (by omega)
    rw [h7 k (by omega), if_neg kr, if_pos rfl, if_neg kr, h6 k (by omega), h2, h3, h4]
    have hjk := hj k (by omega)
    have hRM : RN c M N := RN_fr hR (same_s h1 (by omega) (by omega)) same_r same_r
    have L : LeapOK M N := ⟨hRM.1, hRM.2.1, hRM.2.2.1, hRM.2.2.2.1⟩
    have u0 := L.u0
    have tj := t_nI (show js k < 2147483648 by omega)
    have xj := ix_nI (show js k < 2147483648 by omega)
    have ij : inb (nI (js k)) 20 := b_in (by omega) (by omega)
    have hkr : ∀ j, j ∈ k :: r → j < n := fun j hj => by
      rcases List.mem_cons.mp hj with z | z
      · omega
      · exact hr j z
    obtain ⟨s1, s2, s3, s4, s5, s6, s7⟩ := OB.st L (a := ix av) hj (by omega) hkr
    have hh := hr_b (v := arR N js k r) (by omega)
    have n1 : ¬ (1 : Int32) = 0 := by decide
    have spot : M.1 (js k + 22) 1 = N.1 143 (js k) := (L.2.1 (js k) (by omega)).2.1.1
    have rk := risk_n hRM a1 a2 (j := nI (js k)) (by omega) (by omega) hh.1 hh.2
    rw [xj] at rk
    have g := L.gc (spR N js r) (N.1 143 (js k)) (s := lwv N 1) (by have := L.lb.2.1.1; omega)
    rw [gd_t n1, gd_t ik, gd_t ij, xj, ilet_e, spot, gd_t n1, gd_t n1, L.sp, Option.bind_some, g, Option.bind_some, ilet_e, arR_e, gd_t n1, gd_t ik, hr_c M (by omega), rk, Option.bind_some, ilet_e, rkR_e, nI_1]
    have bc := bet_c L hj h9 (by omega) hkr
    have skip : ¬ (enR N js (k :: r) ≤ lim ∧ betB N (ix av) js b (k :: r) = true) → ∃ M', fOrderSearch_extend_L25 rec (nI r.length) (spR N js r) (dpR N js r) (rkR N (ix av) js r) F (nI (k + 1)) M = some M' ∧ SST C0 N av js lim n r (fo N (ix av) js lim (fo N (ix av) js lim b (ext n d (k :: r))) (exL (fun i => ext n d (i :: r)) r m (k + 1))) M' ∧ FRS M M' := fun z => by
      rw [fo_cut L hj (by rw [List.length_cons]; omega) hkr z]
      exact ih (k + 1) (by omega) b M hS F (by omega)
    by_cases q1 : lim < arR N js k r
    · rw [if_pos q1]
      refine skip (fun z => ?_)
      have z1 : arR N js k r ≤ lim := z.1
      rw [t_le] at z1
      rw [t_lt] at q1
      omega
    rw [if_neg q1]
    by_cases q2 : fOrderSearch_isBetterT M (rkR N (ix av) js (k :: r)) (arR N js k r) = 0
    · rw [if_pos q2]
      exact skip (fun z => bc.mp q2 z.2)
    have q3 : betB N (ix av) js b (k :: r) = true := Decidable.byContradiction (fun z => q2 (bc.mpr z))
    have q4 : enR N js (k :: r) ≤ lim := by
      show arR N js k r ≤ lim
      rw [t_lt] at q1
      rw [t_le]
      omega
    rw [if_neg q2, gd_t ik, mlet_e, gd_t ik, gd_t (b_in (by rw [t_nI (by omega)]; omega) (by rw [t_nI (by omega)]; omega)), wI_row _ _ _ _ (show 127 ≠ 128 by omega), h6 k (by omega), ix_nI (show r.length < 2147483648 by omega), mlet_e, dpR_e, nI_1]
    obtain ⟨M1, r1, r2, r3⟩ := IH k b _ (by omega) kr (SST_in hS) (fun _ => by rw [stp, if_pos ⟨q4, q3⟩])
    obtain ⟨o1, o2⟩ := SST_out (by omega) kr hS r2 r3
    obtain ⟨M2, v1, v2, v3⟩ := ih (k + 1) (by omega) _ _ o1 F (by omega)
    refine ⟨M2, ?_, v2, o2.tr v3⟩
    rw [show N.1 143 (js k) = spR N js (k :: r) from rfl, r1, Option.bind_some, gd_t ik, mlet_e]
    exact v1
theorem ext_c {c : Nat} {C0 N : Mem} {av lim : Int32} {js : Nat → Nat} {n : Nat} (hK : SK c C0 N av js lim n) : ∀ (d D : Nat) (r : List Nat) (b : Option (List Nat)) (M : Mem), r.length + d = n → d < D → (∀ i, i ∈ r → i < n) → SST C0 N av js lim n r b M → (d = 0 → stp N (ix av) js lim b r = some r) → ∃ M', fOrderSearch_extend D (nI r.length) (spR N js r) (dpR N js r) (rkR N (ix av) js r) M = some M' ∧ SST C0 N av js lim n r (fo N (ix av) js lim b (ext n d r)) M' ∧ FRS M M' := by
  have hn := hK.2.2.2.2.1
  have tn := t_nI (show n < 2147483648 by omega)
  intro d
  induction d with
  | zero =>
    intro D r b M hd hD hr hS h0
    obtain ⟨D, rfl⟩ : ∃ m, D = m + 1 := ⟨D - 1, by omega⟩
    obtain ⟨h1, h2, h3, h4, h5, h6, h7, h8, h9⟩ := id hS
    have hl : r.length = n := by omega
    have en : (if (0 : Int32) < dpR N js r - 1 then dpR N js r - 1 else 0) = enR N js r := by
      cases r with
      | nil => rfl
      | cons i t =>
        have hRM : RN c M N := RN_fr hK.1 (same_s h1 (by omega) (by omega)) same_r same_r
        have L : LeapOK M N := ⟨hRM.1, hRM.2.1, hRM.2.2.1, hRM.2.2.2.1⟩
        rw [List.length_cons] at hl
        obtain ⟨s1, s2, s3, s4, s5, s6, s7⟩ := OB.st L (a := ix av) hK.2.2.2.2.2 (by omega) hr
        have e1 : dpR N js (i :: t) - 1 = arR N js i t := by
          rw [t_eq, t_sub (by rw [li_1]; omega) (by rw [li_1]; omega), li_1]
          omega
        rw [e1]
        show _ = arR N js i t
        by_cases z : (0 : Int32) < arR N js i t
        · rw [if_pos z]
        · rw [if_neg z]
          rw [t_lt, li_0] at z
          rw [t_eq, li_0]
          omega
    have ex : ∃ M', fOrderSearch_keep M (rkR N (ix av) js r) (enR N js r) = some M' ∧ M' = cpI (wI (wI M 125 1 (rkR N (ix av) js r)) 125 2 (enR N js r)) 129 126 0 0 (nI n) := by
      refine ⟨_, ?_, rfl⟩
      unfold fOrderSearch_keep
      rw [mlet_e, mlet_e, mem_fst (show 125 ≠ 125 ∨ 6 ≠ 2 by omega), mem_fst (show 125 ≠ 125 ∨ 6 ≠ 1 by omega), h5, gd_t (show cpokB 0 0 (nI n) 6 6 from decide_eq_true ⟨⟨by decide, by decide, by rw [t_lt, tn, li_0]; omega⟩, by rw [ix_0, ix_nI (by omega)]; omega, by rw [ix_0, ix_nI (by omega)]; omega⟩), mlet_e]
    obtain ⟨M', k1, k2⟩ := ex
    have e : ∀ q, q ≠ 125 → q ≠ 126 → M'.1 q = M.1 q := fun q x y => by
      rw [k2]
      exact row_cp' ((wI_row _ _ _ _ x).trans (wI_row _ _ _ _ x)) y
    have e5 : ∀ i, i ≠ 1 → i ≠ 2 → M'.1 125 i = M.1 125 i := fun i x y => by
      rw [k2]
      exact el_cp' ((mem_fst (by omega)).trans (mem_fst (by omega))) (by omega)
    refine ⟨M', ?_, ⟨?_, ?_, ?_, ?_, ?_, ?_, ?_, ?_, ?_⟩, fun q x y z => e q x y, by rw [k2]; rfl⟩
    · rw [fOrderSearch_extend, h5, hl, if_neg (by rw [t_lt]; omega), en, k1, Option.bind_some]
    · exact fun q x y => ⟨(e q (by omega) (by omega)).trans (h1 q x y).1, by rw [k2]; exact (h1 q x y).2⟩
    · rw [e5 3 (by omega) (by omega)]; exact h2
    · rw [e5 4 (by omega) (by omega)]; exact h3
    · rw [e5 5 (by omega) (by omega)]; exact h4
    · rw [e5 6 (by omega) (by omega)]; exact h5
    · rw [e 127 (by omega) (by omega)]; exact h6
    · rw [e 128 (by omega) (by omega)]; exact h7
    · rw [e 129 (by omega) (by omega)]; exact h8
    · rw [ext, fo, fo, h0 rfl]
      refine ⟨?_, ?_, fun p hp => ?_, hl, hr⟩
      · rw [k2]; exact el_cp' ((mem_fst (by omega)).trans wI_s) (by omega)
      · rw [k2]; exact el_cp' wI_s (by omega)
      · rw [k2, cp_at (by rw [ix_nI (by omega)]; exact hp), mem_fst (by omega), mem_fst (by omega)]
        exact h8 p (by omega)
  | succ d ih =>
    intro D r b M hd hD hr hS h0
    obtain ⟨D, rfl⟩ : ∃ m, D = m + 1 := ⟨D - 1, by omega⟩
    rw [fOrderSearch_extend, hS.2.2.2.2.1, if_pos (by rw [t_lt, tn, t_nI (by omega)]; omega), ext]
    refine ext_L hK hd hr (fun k b M hk kr hS' h0' => ?_) n 0 (by omega) b M hS FU (by rw [FU_eq]; omega)
    exact ih D (k :: r) b M (by rw [List.length_cons]; omega) (by omega) (fun j hj => by
      rcases List.mem_cons.mp hj with z | z
      · omega
      · exact hr j z) hS' h0'
