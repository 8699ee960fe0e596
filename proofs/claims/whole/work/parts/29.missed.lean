-- missed
theorem nI_iff {a b : Nat} (ha : a < 2147483648) (hb : b < 2147483648) : nI a = nI b ↔ a = b := by
  constructor
  · intro q
    have := t_eq.mp q
    rw [t_nI ha, t_nI hb] at this
    omega
  · intro q; rw [q]
theorem dl_d (N : Mem) (s : Int32) {B : Nat} (hB : B < 20) : ∀ k, k ≤ 20 → dpx N s (nI B) k = dpx N s (-1) k + (if B < k then 3 * s else 0) := by
  intro k
  induction k with
  | zero => intro _; rw [dpx, dpx, if_neg (by omega)]; rfl
  | succ k ih =>
    intro hk
    rw [dpx, dp_s N s (by omega), ih (by omega)]
    by_cases e : k = B
    · subst e
      rw [if_pos rfl, if_neg (by omega), if_pos (by omega), Int32.add_zero]
    · rw [if_neg (by rw [nI_iff (by omega) (by omega)]; exact e)]
      by_cases g : B < k
      · rw [if_pos g, if_pos (by omega)]; ac_rfl
      · rw [if_neg g, if_neg (by omega), Int32.add_zero, Int32.add_zero]
theorem cm_d (N : Mem) (s : Int32) {B : Nat} (hB : B < 20) {k : Nat} (hk : k < 20) : cmx N s (nI B) k = cmx N s (-1) k + (if B < k then 3 * s else 0) := by
  unfold cmx
  rw [dl_d N s hB k (by omega)]
  ac_rfl
def dlx (s : Int32) (m B k : Nat) : Int32 := if B < k ∧ B + 1 < m then 3 * s else 0
theorem dl_c (N : Mem) (s : Int32) {m B k : Nat} (hB : B < 20) (hk : k < m) (hm : m ≤ 20) : cmx N s (-1) k + dlx s m B k = cmx N s (nI B) k := by
  rw [cm_d N s hB (by omega)]
  unfold dlx
  by_cases g : B < k
  · rw [if_pos g, if_pos (by omega)]
  · rw [if_neg g, if_neg (by omega)]
def rsf (N : Mem) (s : Int32) (a : Nat) (b : Int32) : Nat → Nat → Int32 → Int32
  | 0, _, x => x
  | n + 1, k, x => rsf N s a b n (k + 1) (x + rkx N a (ix (N.1 160 k)) (ix (hrx (cmx N s b k))))
def ltf (N : Mem) (s b : Int32) : Nat → Nat → Int32 → Int32
  | 0, _, x => x
  | n + 1, k, x => ltf N s b n (k + 1) (if hrx (cmx N s b k) ≤ hrx (cmx N s (-1) k) then x else x + 1)
theorem mis_r {c : Nat} {C N : Mem} (h : Rel c C N) {m : Nat} (hT : TP N m) {b : Int32} (hC : TC C N m (lwv N 1) b) {a : Int32} (a1 : 0 ≤ a.toInt) (a2 : a.toInt < (N.1 156 2).toInt) : ∀ (n k : Nat) (x : Int32), k + n = m → ∀ F1, n < F1 → fTour_riskBy_L5 C a F1 x (nI k) = some (rsf N (lwv N 1) (ix a) b n k x) := by
  have L := LeapOK.of h
  have u0 := L.u0
  have hm := hT.1
  have tm := t_nI (show m < 2147483648 by omega)
  obtain ⟨c1, c2, c3⟩ := id hC
  intro n
  induction n with
  | zero =>
    intro k x hk F1 h1
    obtain ⟨F1, rfl⟩ : ∃ m, F1 = m + 1 := ⟨F1 - 1, by omega⟩
    have tk := t_nI (show k < 2147483648 by omega)
    rw [fTour_riskBy_L5, if_pos (show C.1 119 2 ≤ nI k by rw [c1, t_le, tk, tm]; omega), rsf]
  | succ n ih =>
    intro k x hk F1 h1
    obtain ⟨F1, rfl⟩ : ∃ m, F1 = m + 1 := ⟨F1 - 1, by omega⟩
    have tk := t_nI (show k < 2147483648 by omega)
    have xk := ix_nI (show k < 2147483648 by omega)
    obtain ⟨y1, y2⟩ := hT.2 k (by omega)
    have hin : inb (nI k) 20 := b_in (by omega) (by omega)
    have hcb := cmx_b L hT L.lb.2.1 b (show k < m by omega)
    have hhb := hr_b hcb.1
    rw [fTour_riskBy_L5, if_neg (show ¬ C.1 119 2 ≤ nI k by rw [c1, t_le, tk, tm]; omega)]
    simp only [gd_t hin, xk, ilet_e, nI_1, c2 k (by omega), c3 k (by omega), hr_c C hcb.1]
    rw [risk_c h a1 a2 y1 y2 hhb.1 hhb.2, rsf]
    simp only [Option.bind_some]
    exact ih (k + 1) _ (by omega) F1 (by omega)
theorem mis_l {c : Nat} {C N : Mem} (h : Rel c C N) {m : Nat} (hT : TP N m) {b : Int32} (hC : TC C N m (lwv N 1) b) (h4 : ∀ i, i < m → C.1 124 i = cmx N (lwv N 1) (-1) i) : ∀ (n k : Nat) (x : Int32), k + n = m → ∀ F1, n < F1 → fTour_laterHoursThan_L4 C F1 x (nI k) = some (ltf N (lwv N 1) b n k x) := by
  have L := LeapOK.of h
  have u0 := L.u0
  have hm := hT.1
  have tm := t_nI (show m < 2147483648 by omega)
  obtain ⟨c1, c2, c3⟩ := id hC
  intro n
  induction n with
  | zero =>
    intro k x hk F1 h1
    obtain ⟨F1, rfl⟩ : ∃ m, F1 = m + 1 := ⟨F1 - 1, by omega⟩
    have tk := t_nI (show k < 2147483648 by omega)
    rw [fTour_laterHoursThan_L4, if_pos (show C.1 119 2 ≤ nI k by rw [c1, t_le, tk, tm]; omega), ltf]
  | succ n ih =>
    intro k x hk F1 h1
    obtain ⟨F1, rfl⟩ : ∃ m, F1 = m + 1 := ⟨F1 - 1, by omega⟩
    have tk := t_nI (show k < 2147483648 by omega)
    have xk := ix_nI (show k < 2147483648 by omega)
    have hin : inb (nI k) 20 := b_in (by omega) (by omega)
    have hcb := cmx_b L hT L.lb.2.1 b (show k < m by omega)
    have hcb2 := cmx_b L hT L.lb.2.1 (-1) (show k < m by omega)
    rw [fTour_laterHoursThan_L4, if_neg (show ¬ C.1 119 2 ≤ nI k by rw [c1, t_le, tk, tm]; omega)]
    simp only [gd_t hin, xk, ilet_e, jlet_e, nI_1, c3 k (by omega), h4 k (by omega), hr_c C hcb.1, hr_c C hcb2.1]
    rw [ltf]
    by_cases q : hrx (cmx N (lwv N 1) b k) ≤ hrx (cmx N (lwv N 1) (-1) k)
    · rw [if_pos q, if_pos q, num_f, Int32.add_zero]
      exact ih (k + 1) _ (by omega) F1 (by omega)
    · rw [if_neg q, if_neg q, num_t]
      exact ih (k + 1) _ (by omega) F1 (by omega)
theorem mis_m {c : Nat} {C N : Mem} (h : Rel c C N) {m B : Nat} (hT : TP N m) (hB : B < m) {a b5 : Int32} (a1 : 0 ≤ a.toInt) (a2 : a.toInt < (N.1 156 2).toInt) {K : Int32 → Int32 → Int32 → Int32 → Option (Int32 × Mem)} : ∀ (n k : Nat) (x y : Int32), k + n = m → ∀ F1, n < F1 → fm_missed_L99 N a (nI m) (nI B) b5 K F1 (edx N (lwv N 1) k) (dlx (lwv N 1) m B k) x y (spx N k) (nI k) = K (edx N (lwv N 1) m) (dlx (lwv N 1) m B m) (rsf N (lwv N 1) (ix a) (nI B) n k x) (ltf N (lwv N 1) (nI B) n k y) := by
  have L := LeapOK.of h
  have u0 := L.u0
  have hm := hT.1
  have tm := t_nI (show m < 2147483648 by omega)
  intro n
  induction n with
  | zero =>
    intro k x y hk F1 h1
    obtain ⟨F1, rfl⟩ : ∃ m, F1 = m + 1 := ⟨F1 - 1, by omega⟩
    have tk := t_nI (show k < 2147483648 by omega)
    rw [fm_missed_L99, if_pos (show nI m ≤ nI k by rw [t_le, tk, tm]; omega), rsf, ltf, show k = m by omega]
  | succ n ih =>
    intro k x y hk F1 h1
    obtain ⟨F1, rfl⟩ : ∃ m, F1 = m + 1 := ⟨F1 - 1, by omega⟩
    have tk := t_nI (show k < 2147483648 by omega)
    have xk := ix_nI (show k < 2147483648 by omega)
    obtain ⟨y1, y2⟩ := hT.2 k (by omega)
    have hin : inb (nI k) 20 := b_in (by omega) (by omega)
    have hin2 : inb (N.1 160 k) 20 := b_in (by omega) (by omega)
    have hcb := cmx_b L hT L.lb.2.1 (nI B) (show k < m by omega)
    have hhb := hr_b hcb.1
    have s1 : fm_says1 N 1 = some (lwv N 1) := L.lm (i := 1) (by omega)
    have tm1 : (nI m - 1).toInt = (m : Int) - 1 := by rw [t_sub] <;> rw [tm] <;> simp only [Int32.reduceToInt] <;> omega
    rw [fm_missed_L99, if_neg (show ¬ nI m ≤ nI k by rw [t_le, tk, tm]; omega)]
    simp only [gd_t hin, xk, gd_t hin2, L.gm1, Option.bind_some, jlet_e, ilet_e, nI_1, hr_m, s1]
    rw [← spx_s N k]
    have hz : ∀ z : Int32, z = (if k = 0 then 0 else 1) → edx N (lwv N 1) k + (lgx N (spx N k) (spx N (k + 1)) (lwv N 1) + z) = cmx N (lwv N 1) (-1) k := fun z hz => ed_s N _ (by omega) hz
    have fin : ∀ v : Int32, v = cmx N (lwv N 1) (-1) k → (Option.bind (fm_riskOf N a (N.1 160 k) (hrx (v + dlx (lwv N 1) m B k))) (fun r28 => if hrx (v + dlx (lwv N 1) m B k) ≤ hrx v then (if nI k = nI B then (if nI m - 1 ≤ nI k then fm_missed_L99 N a (nI m) (nI B) b5 K F1 v (dlx (lwv N 1) m B k) (x + r28) y (spx N (k + 1)) (nI (k + 1)) else fm_missed_L99 N a (nI m) (nI B) b5 K F1 v (3 * lwv N 1) (x + r28) y (spx N (k + 1)) (nI (k + 1))) else fm_missed_L99 N a (nI m) (nI B) b5 K F1 v (dlx (lwv N 1) m B k) (x + r28) y (spx N (k + 1)) (nI (k + 1))) else (if nI k = nI B then (if nI m - 1 ≤ nI k then fm_missed_L99 N a (nI m) (nI B) b5 K F1 v (dlx (lwv N 1) m B k) (x + r28) (y + 1) (spx N (k + 1)) (nI (k + 1)) else fm_missed_L99 N a (nI m) (nI B) b5 K F1 v (3 * lwv N 1) (x + r28) (y + 1) (spx N (k + 1)) (nI (k + 1))) else fm_missed_L99 N a (nI m) (nI B) b5 K F1 v (dlx (lwv N 1) m B k) (x + r28) (y + 1) (spx N (k + 1)) (nI (k + 1))))) = K (edx N (lwv N 1) m) (dlx (lwv N 1) m B m) (rsf N (lwv N 1) (ix a) (nI B) (n + 1) k x) (ltf N (lwv N 1) (nI B) (n + 1) k y) := by
      intro v hv
      rw [hv, dl_c N (lwv N 1) (show B < 20 by omega) (show k < m by omega) hm, risk_m h a1 a2 y1 y2 hhb.1 hhb.2]
      simp only [Option.bind_some]
      have inner : ∀ w u : Int32, (if nI k = nI B then (if nI m - 1 ≤ nI k then fm_missed_L99 N a (nI m) (nI B) b5 K F1 (cmx N (lwv N 1) (-1) k) (dlx (lwv N 1) m B k) w u (spx N (k + 1)) (nI (k + 1)) else fm_missed_L99 N a (nI m) (nI B) b5 K F1 (cmx N (lwv N 1) (-1) k) (3 * lwv N 1) w u (spx N (k + 1)) (nI (k + 1))) else fm_missed_L99 N a (nI m) (nI B) b5 K F1 (cmx N (lwv N 1) (-1) k) (dlx (lwv N 1) m B k) w u (spx N (k + 1)) (nI (k + 1))) = fm_missed_L99 N a (nI m) (nI B) b5 K F1 (edx N (lwv N 1) (k + 1)) (dlx (lwv N 1) m B (k + 1)) w u (spx N (k + 1)) (nI (k + 1)) := by
        intro w u
        rw [ed_n]
        unfold dlx
        by_cases e : k = B
        · rw [if_pos (by rw [e])]
          by_cases g : (m : Int) - 1 ≤ k
          · rw [if_pos (show nI m - 1 ≤ nI k by rw [t_le, tm1, tk]; exact g), if_neg (by omega), if_neg (by omega)]
          · rw [if_neg (show ¬ nI m - 1 ≤ nI k by rw [t_le, tm1, tk]; exact g), if_pos (show B < k + 1 ∧ B + 1 < m by omega)]
        · rw [if_neg (show ¬ nI k = nI B by rw [nI_iff (by omega) (by omega)]; exact e)]
          by_cases g : B < k ∧ B + 1 < m
          · rw [if_pos g, if_pos (show B < k + 1 ∧ B + 1 < m by omega)]
          · rw [if_neg g, if_neg (by omega)]
      rw [inner, inner, rsf, ltf]
      by_cases q : hrx (cmx N (lwv N 1) (nI B) k) ≤ hrx (cmx N (lwv N 1) (-1) k)
      · rw [if_pos q, if_pos q]
        exact ih (k + 1) _ _ (by omega) F1 (by omega)
      · rw [if_neg q, if_neg q]
        exact ih (k + 1) _ _ (by omega) F1 (by omega)
    by_cases q : k = 0
    · rw [if_pos (show nI k ≤ 0 by rw [t_le, tk]; simp only [Int32.reduceToInt]; omega)]
      exact fin _ (hz 0 (by rw [if_pos q]))
    · rw [if_neg (show ¬ nI k ≤ 0 by rw [t_le, tk]; simp only [Int32.reduceToInt]; omega)]
      exact fin _ (hz 1 (by rw [if_neg q]))
theorem sail2_R {c : Nat} {C C' N : Mem} (h : Rel c C N) (r2 : ∀ q, q ≠ 124 → C'.1 q = C.1 q) (r3 : C'.2 = C.2) : Rel c C' N := Rel_same0 h (same_of r2 r3 (by omega)) (r2 128 (by omega)) (r2 134 (by omega)) same_r
theorem op_missed {c : Nat} {C N : Mem} (h : Rel c C N) (a1 a2 a3 a4 a5 : Int32) : Sim c (fc_missed C a1 a2 a3 a4 a5) (fm_missed N a1 a2 a3 a4 a5) := by
  obtain ⟨⟨hS, hJ, hL, hF, hA, hP, hW, hV⟩, -⟩ := id h
  obtain ⟨⟨e0, b0⟩, ⟨e1, b1⟩, ⟨e2, b2⟩, ⟨e3, b3⟩, ⟨e5, b5⟩, ⟨e6, b6⟩, ⟨e7, b7⟩, ⟨e4, b4⟩, e8⟩ := id hS
  obtain ⟨l0, u0⟩ := id b0
  obtain ⟨l1, u1⟩ := id b1
  obtain ⟨l2, u2⟩ := id b2
  obtain ⟨l3, u3⟩ := id b3
  obtain ⟨l5, u5⟩ := id b5
  obtain ⟨l6, u6⟩ := id b6
  obtain ⟨l7, u7⟩ := id b7
  obtain ⟨l4, u4⟩ := id b4
  have L := LeapOK.of h
  unfold fc_missed fm_missed
  by_cases hb : (a1.toInt < 0 ∨ (N.1 156 2).toInt ≤ a1.toInt) ∨ (a3.toInt < 0 ∨ 20 < a3.toInt) ∨ (a4.toInt < 0 ∨ a3.toInt ≤ a4.toInt) ∨ (a5.toInt < 0 ∨ 2 < a5.toInt)
  · refine sim_2 h ?_ ?_
    · by_cases q : a1.toInt < 0 ∨ (N.1 156 2).toInt ≤ a1.toInt
      · rw [if_pos (by rw [leaper_0, e2]; exact q), bind_eta]
      · rw [if_neg (by rw [leaper_0, e2]; exact q)]
        by_cases q1 : a4.toInt < 0 ∨ a3.toInt ≤ a4.toInt
        · rw [if_pos (by rw [below_0]; exact q1), bind_eta]
        · rw [if_neg (by rw [below_0]; exact q1)]
          by_cases q2 : a5.toInt < 0 ∨ 2 < a5.toInt
          · rw [if_pos (by rw [within_0]; simp only [Int32.reduceToInt]; omega), bind_eta]
          · rw [if_neg (by rw [within_0]; simp only [Int32.reduceToInt]; omega), rt_bad (by omega)]
            simp only [Option.bind_some, bind_eta]
            rw [if_neg (by decide)]
    · simp only [mleaper_0, mshelf_0, t_lt, t_le, Int32.reduceToInt, bind_eta]
      repeat' split
      all_goals first | rfl | (exfalso; omega)
  · rw [if_neg (show ¬ fc_isLeaperT C a1 = 0 by rw [leaper_0, e2]; omega), if_neg (show ¬ fc_isBelowT C a4 a3 = 0 by rw [below_0]; omega), if_neg (show ¬ fc_isWithinT C a5 0 2 = 0 by rw [within_0]; simp only [Int32.reduceToInt]; omega), if_neg (show ¬ fm_isLeaperT N a1 = 0 by rw [mleaper_0]; omega)]
    rw [if_neg (show ¬ a3 < 0 by rw [t_lt]; simp only [Int32.reduceToInt]; omega), if_neg (show ¬ (20 : Int32) < a3 by rw [t_lt]; simp only [Int32.reduceToInt]; omega), if_neg (show ¬ a4 < 0 by rw [t_lt]; simp only [Int32.reduceToInt]; omega), if_neg (show ¬ a3 ≤ a4 by rw [t_le]; omega), if_neg (show ¬ a5 < 0 by rw [t_lt]; simp only [Int32.reduceToInt]; omega), if_pos (show a5 ≤ 2 by rw [t_le]; simp only [Int32.reduceToInt]; omega)]
    have i3 := t_ix (a := a3) (by omega)
    have w3 : nI (ix a3) = a3 := (of_ix (by omega)).symm
    have i4 := t_ix (a := a4) (by omega)
    have w4 : nI (ix a4) = a4 := (of_ix (by omega)).symm
    rcases tour_u h (a1 := a2) (a2 := a3) (by omega) (by omega) with ⟨r, hr, t1, ⟨t2, hr2⟩ | ⟨t2, N', t3, hR⟩⟩ | ⟨t1, t2, k1, k2, N', t3, hR, hT, hN, hc⟩
    · rw [if_pos t2, t1]
      simp only [Option.bind_some, bind_eta]
      rw [if_neg (r_ne0 hr), hr2]
      exact sim_2 h rfl rfl
    · rw [if_neg t2, t1, t3]
      simp only [Option.bind_some, bind_eta]
      rw [if_neg (r_ne0 hr), if_neg (r_nle hr)]
      exact sim_r hR hr rfl rfl
    · obtain ⟨⟨C1, s1, hR1, s3, s4, s5, s6⟩, -⟩ := hc C hR rfl rfl
      have L1 := LeapOK.of hR1
      have n2 : N'.1 156 2 = N.1 156 2 := by rw [(hN 156 (by omega) (by omega)).1]
      rw [if_neg t2, t1, t3]
      simp only [Option.bind_some, if_true, ilet_e, ix_7]
      rw [if_pos (show (0 : Int32) ≤ 0 by decide), s1]
      simp only [Option.bind_some]
      rw [← w3] at s3
      rw [L1.sp]
      simp only [Option.bind_some]
      obtain ⟨C2, u1, u2, u3, u4⟩ := sail_c hR1 (b := a4) L1.lb.2.1.1 hT s3 s4
      have hC : TC C2 N' (ix a3) (lwv N' 1) a4 := ⟨by rw [u2 119 (by omega)]; exact s3, fun i hi => by rw [u2 120 (by omega)]; exact s4 i hi, u4⟩
      have hR2 := sail_R hR1 u2 u3
      rw [u1]
      simp only [Option.bind_some]
      have mm := mis_m hR2 hT (B := ix a4) (by omega) (a := a1) (b5 := a5) (by omega) (by rw [n2]; omega) (K := fun w32 w33 w34 w35 => (if a5 = 0 then (some ((w32 + w33), N')) else (if a5 = (1 : Int32) then (some (w34, N')) else (some (w35, N'))))) (ix a3) 0 0 0 (by omega) FU (by rw [FU_eq]; omega)
      rw [w3, w4] at mm
      rw [show fm_missed_L99 N' a1 a3 a4 a5 (fun w32 w33 w34 w35 => (if a5 = 0 then (some ((w32 + w33), N')) else (if a5 = (1 : Int32) then (some (w34, N')) else (some (w35, N'))))) FU 0 0 0 0 (N'.1 156 7) 0 = _ from mm]
      by_cases q0 : a5 = 0
      · rw [if_pos q0, if_pos q0, end_c hT hC]
        refine sim_i rfl ?_ (Rel_next hR2)
        congr 2
        rw [if_neg (by omega)]
        unfold edx
        rw [if_neg (by omega)]
        have e := cm_d N' (lwv N' 1) (B := ix a4) (by omega) (k := ix a3 - 1) (by omega)
        rw [w4] at e
        rw [e]
        unfold dlx
        by_cases g : ix a4 < ix a3 - 1
        · rw [if_pos g, if_pos (by omega)]
        · rw [if_neg g, if_neg (by omega)]
      · rw [if_neg q0, if_neg q0]
        by_cases q1 : a5 = 1
        · rw [if_pos q1, if_pos q1, show fTour_riskBy C2 a1 = _ from mis_r hR2 hT hC (a := a1) (by omega) (by rw [n2]; omega) (ix a3) 0 0 (by omega) FU (by rw [FU_eq]; omega)]
          exact sim_i rfl rfl (Rel_next hR2)
        · rw [if_neg q1, if_neg q1]
          have yC : C2.1 (ix a2 + 2) = C.1 (ix a2 + 2) := by
            have := t_ix k1
            rw [u2 _ (by omega), s6 _ (by omega) (by omega)]
          obtain ⟨-, ⟨C3, x1, hR3, x3, x4, x5, x6⟩⟩ := hc C2 hR2 yC (by rw [u3, s5])
          have L3 := LeapOK.of hR3
          rw [x1]
          simp only [Option.bind_some]
          rw [L3.sp]
          simp only [Option.bind_some]
          rw [← w3] at x3
          obtain ⟨C4, v1, v2, v3, v4⟩ := sail_2_c hR3 (b := -1) L3.lb.2.1.1 hT x3 x4
          have hR4 := sail2_R hR3 v2 v3
          have hC4 : TC C4 N' (ix a3) (lwv N' 1) a4 := ⟨by rw [v2 119 (by omega), x6 119 (by omega) (by omega)]; exact hC.1, fun i hi => by rw [v2 120 (by omega), x6 120 (by omega) (by omega)]; exact hC.2.1 i hi, fun i hi => by rw [v2 121 (by omega), x6 121 (by omega) (by omega)]; exact hC.2.2 i hi⟩
          rw [v1]
          simp only [Option.bind_some]
          rw [show fTour_laterHoursThan C4 = _ from mis_l hR4 hT hC4 v4 (ix a3) 0 0 (by omega) FU (by rw [FU_eq]; omega)]
          exact sim_i rfl rfl (Rel_next hR4)
