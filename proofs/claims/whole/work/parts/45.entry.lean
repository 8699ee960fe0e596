-- one entry of a law's text
theorem mayBe_e {C N : Mem} {k : Nat} {v : Int32} (hk : k < 9) (hv : bd v 0 99) : (fc_isWithinT C v (sv1.getD k 0) (sv2.getD k 0) = 0 ↔ fm_mayBeT N (nI k) v = 0) ∧ (¬ fc_isWithinT C v (sv1.getD k 0) (sv2.getD k 0) = 0 → bd v (sv1.getD k 0).toInt (sv2.getD k 0).toInt) := by
  obtain ⟨v1, v2⟩ := hv
  rw [within_0]
  refine ⟨?_, fun z => ⟨by omega, by omega⟩⟩
  unfold fm_mayBeT
  rcases (show k = 0 ∨ k = 1 ∨ k = 2 ∨ k = 3 ∨ k = 4 ∨ k = 5 ∨ k = 6 ∨ k = 7 ∨ k = 8 by omega) with rfl | rfl | rfl | rfl | rfl | rfl | rfl | rfl | rfl
  · rw [show (sv1.getD 0 0).toInt = 1 from rfl, show (sv2.getD 0 0).toInt = 99 from rfl, show nI 0 = 0 from rfl]
    rw [if_pos rfl]
    repeat' split
    all_goals simp_all [t_lt, Int32.reduceToInt]
    all_goals omega
  · rw [show (sv1.getD 1 0).toInt = 1 from rfl, show (sv2.getD 1 0).toInt = 9 from rfl, show nI 1 = 1 from rfl]
    rw [if_neg (show ¬ (1 : Int32) = 0 by decide), if_pos rfl]
    repeat' split
    all_goals simp_all [t_lt, Int32.reduceToInt]
    all_goals omega
  · rw [show (sv1.getD 2 0).toInt = 1 from rfl, show (sv2.getD 2 0).toInt = 9 from rfl, show nI 2 = 2 from rfl]
    rw [if_neg (show ¬ (2 : Int32) = 0 by decide), if_neg (show ¬ (2 : Int32) = 1 by decide), if_pos rfl]
    repeat' split
    all_goals simp_all [t_lt, Int32.reduceToInt]
    all_goals omega
  · rw [show (sv1.getD 3 0).toInt = 0 from rfl, show (sv2.getD 3 0).toInt = 99 from rfl, show nI 3 = 3 from rfl]
    rw [if_neg (show ¬ (3 : Int32) = 0 by decide), if_neg (show ¬ (3 : Int32) = 1 by decide), if_neg (show ¬ (3 : Int32) = 2 by decide), if_neg (show ¬ (3 : Int32) = 8 by decide), if_neg (show ¬ (3 : Int32) = 4 by decide), if_neg (show ¬ (3 : Int32) = 7 by decide)]
    constructor
    · intro z; omega
    · intro z; exact absurd z (by decide)
  · rw [show (sv1.getD 4 0).toInt = 0 from rfl, show (sv2.getD 4 0).toInt = 9 from rfl, show nI 4 = 4 from rfl]
    rw [if_neg (show ¬ (4 : Int32) = 0 by decide), if_neg (show ¬ (4 : Int32) = 1 by decide), if_neg (show ¬ (4 : Int32) = 2 by decide), if_neg (show ¬ (4 : Int32) = 8 by decide), if_pos rfl]
    repeat' split
    all_goals simp_all [t_lt, Int32.reduceToInt]
    all_goals omega
  · rw [show (sv1.getD 5 0).toInt = 0 from rfl, show (sv2.getD 5 0).toInt = 99 from rfl, show nI 5 = 5 from rfl]
    rw [if_neg (show ¬ (5 : Int32) = 0 by decide), if_neg (show ¬ (5 : Int32) = 1 by decide), if_neg (show ¬ (5 : Int32) = 2 by decide), if_neg (show ¬ (5 : Int32) = 8 by decide), if_neg (show ¬ (5 : Int32) = 4 by decide), if_neg (show ¬ (5 : Int32) = 7 by decide)]
    constructor
    · intro z; omega
    · intro z; exact absurd z (by decide)
  · rw [show (sv1.getD 6 0).toInt = 0 from rfl, show (sv2.getD 6 0).toInt = 99 from rfl, show nI 6 = 6 from rfl]
    rw [if_neg (show ¬ (6 : Int32) = 0 by decide), if_neg (show ¬ (6 : Int32) = 1 by decide), if_neg (show ¬ (6 : Int32) = 2 by decide), if_neg (show ¬ (6 : Int32) = 8 by decide), if_neg (show ¬ (6 : Int32) = 4 by decide), if_neg (show ¬ (6 : Int32) = 7 by decide)]
    constructor
    · intro z; omega
    · intro z; exact absurd z (by decide)
  · rw [show (sv1.getD 7 0).toInt = 0 from rfl, show (sv2.getD 7 0).toInt = 9 from rfl, show nI 7 = 7 from rfl]
    rw [if_neg (show ¬ (7 : Int32) = 0 by decide), if_neg (show ¬ (7 : Int32) = 1 by decide), if_neg (show ¬ (7 : Int32) = 2 by decide), if_neg (show ¬ (7 : Int32) = 8 by decide), if_neg (show ¬ (7 : Int32) = 4 by decide), if_pos rfl]
    repeat' split
    all_goals simp_all [t_lt, Int32.reduceToInt]
    all_goals omega
  · rw [show (sv1.getD 8 0).toInt = 1 from rfl, show (sv2.getD 8 0).toInt = 9 from rfl, show nI 8 = 8 from rfl]
    rw [if_neg (show ¬ (8 : Int32) = 0 by decide), if_neg (show ¬ (8 : Int32) = 1 by decide), if_neg (show ¬ (8 : Int32) = 2 by decide), if_pos rfl]
    repeat' split
    all_goals simp_all [t_lt, Int32.reduceToInt]
    all_goals omega
theorem lawok_up {r r' : Nat → Int32} (h : lawok r) {k : Nat} (hk : k < 9) {v : Int32} (hv : bd v (sv1.getD k 0).toInt (sv2.getD k 0).toInt) (hr : ∀ i, r' i = if i = k then v else r i) : lawok r' := by
  obtain ⟨h0, h1, h2, h3, h4, h5, h6, h7, h8⟩ := h
  unfold lawok
  rw [hr 0, hr 1, hr 2, hr 3, hr 4, hr 5, hr 6, hr 7, hr 8]
  rcases (show k = 0 ∨ k = 1 ∨ k = 2 ∨ k = 3 ∨ k = 4 ∨ k = 5 ∨ k = 6 ∨ k = 7 ∨ k = 8 by omega) with rfl | rfl | rfl | rfl | rfl | rfl | rfl | rfl | rfl
  · exact ⟨hv, h1, h2, h3, h4, h5, h6, h7, h8⟩
  · exact ⟨h0, hv, h2, h3, h4, h5, h6, h7, h8⟩
  · exact ⟨h0, h1, hv, h3, h4, h5, h6, h7, h8⟩
  · exact ⟨h0, h1, h2, hv, h4, h5, h6, h7, h8⟩
  · exact ⟨h0, h1, h2, h3, hv, h5, h6, h7, h8⟩
  · exact ⟨h0, h1, h2, h3, h4, hv, h6, h7, h8⟩
  · exact ⟨h0, h1, h2, h3, h4, h5, hv, h7, h8⟩
  · exact ⟨h0, h1, h2, h3, h4, h5, h6, hv, h8⟩
  · exact ⟨h0, h1, h2, h3, h4, h5, h6, h7, hv⟩
theorem m_end {N : Mem} {Z : Nat} (hz : Z ≤ 160) (h8 : N.1 138 8 = nI Z) {b1 : Int32} {kx : Int32 → Mem → Option (Int32 × Mem)} {F : Nat} {x3 x4 : Int32} : fm_read_L34 b1 kx (F + 1) (nI Z) x3 x4 N = kx x3 N := by
  rw [fm_read_L34, jlet_e, h8, if_pos (t_le.mpr (Int.le_refl _)), if_pos rfl]
theorem m_go {N : Mem} {Z q : Nat} (hz : Z ≤ 160) (h8 : N.1 138 8 = nI Z) (hq : q < Z) (hb : ¬ N.1 147 q = 32) : ¬ N.1 138 8 ≤ nI q ∧ inb (nI q) 160 ∧ ¬ N.1 147 (ix (nI q)) = 32 ∧ ¬ nI q = N.1 138 8 := by
  have tZ := t_nI (show Z < 2147483648 by omega)
  have tq := t_nI (show q < 2147483648 by omega)
  have xq := ix_nI (show q < 2147483648 by omega)
  exact ⟨by rw [h8, t_le]; omega, b_in (by omega) (by omega), by rw [xq]; exact hb, by rw [h8, t_eq]; omega⟩
theorem m_0 {N : Mem} {Z q e : Nat} (hz : Z ≤ 160) (h8 : N.1 138 8 = nI Z) (hq : q < Z) (hb : ¬ N.1 147 q = 32) (he : e ≤ Z) (hqe : q ≤ e) (he2 : e = Z ∨ N.1 147 e < 97 ∨ 122 < N.1 147 e) (hr : ∀ i, q ≤ i → i < e → ¬ N.1 147 i < 97 ∧ ¬ 122 < N.1 147 i) {w : Int32} (hw : fm_wordAt N (nI q) (nI e) = some w) {b1 : Int32} {kx : Int32 → Mem → Option (Int32 × Mem)} {F : Nat} {x4 : Int32} : fm_read_L34 b1 kx (F + 1) (nI q) 0 x4 N = if 0 ≤ w then fm_read_L34 b1 kx F (nI e) 1 w N else some (nI q, N) := by
  obtain ⟨g1, g2, g3, g4⟩ := m_go hz h8 hq hb
  rw [fm_read_L34, jlet_e, if_neg g1, gd_t g2, if_neg g3, if_neg g4, jlet_e, if_pos rfl, mrun_L hz h8 he he2 (e - q) q (by omega) hr FU (by rw [FU_eq]; omega), hw, Option.bind_some]
  rfl
theorem m_1 {N : Mem} {Z q e : Nat} (hz : Z ≤ 160) (h8 : N.1 138 8 = nI Z) (hq : q < Z) (hb : ¬ N.1 147 q = 32) (he : e ≤ Z) (hqe : q ≤ e) (he2 : e = Z ∨ N.1 147 e < 48 ∨ 57 < N.1 147 e) (hr : ∀ i, q ≤ i → i < e → ¬ N.1 147 i < 48 ∧ ¬ 57 < N.1 147 i) {b1 : Int32} {kx : Int32 → Mem → Option (Int32 × Mem)} {F : Nat} {x4 : Int32} (hi : inb (b1 + x4) 54) : fm_read_L34 b1 kx (F + 1) (nI q) 1 x4 N = if e = q then some (nI q, N) else if q + 2 < e then some (nI q, N) else if fm_mayBeT N x4 (num N q (e - q) q 0) = 0 then some (nI q, N) else fm_read_L34 b1 kx F (nI e) 2 x4 (wI N 148 (ix (b1 + x4)) (num N q (e - q) q 0)) := by
  obtain ⟨g1, g2, g3, g4⟩ := m_go hz h8 hq hb
  have tq := t_nI (show q < 2147483648 by omega)
  have te := t_nI (show e < 2147483648 by omega)
  have k1 : nI e = nI q ↔ e = q := by rw [t_eq]; omega
  have k2 : (2 : Int32) < nI e - nI q ↔ q + 2 < e := by
    rw [t_lt, t_sub (by omega) (by omega), tq, te]
    simp only [Int32.reduceToInt]
    omega
  rw [fm_read_L34, jlet_e, if_neg g1, gd_t g2, if_neg g3, if_neg g4, jlet_e, if_neg (show ¬ (1 : Int32) = 0 by decide), if_pos rfl, mdig_L hz h8 he he2 (e - q) q 0 (by omega) (by omega) hr FU (by rw [FU_eq]; omega), gd_t hi, mlet_e]
  by_cases a1 : e = q
  · rw [if_pos (k1.mpr a1), if_pos a1]
  rw [if_neg (fun z => a1 (k1.mp z)), if_neg a1]
  by_cases a2 : q + 2 < e
  · rw [if_pos (k2.mpr a2), if_pos a2]
  rw [if_neg (fun z => a2 (k2.mp z)), if_neg a2]
  rfl
theorem m_2 {N : Mem} {Z q : Nat} (hz : Z ≤ 160) (h8 : N.1 138 8 = nI Z) (hq : q < Z) (hb : ¬ N.1 147 q = 32) {b1 : Int32} {kx : Int32 → Mem → Option (Int32 × Mem)} {F : Nat} {x4 : Int32} : fm_read_L34 b1 kx (F + 1) (nI q) 2 x4 N = if N.1 147 q = 59 then fm_read_L34 b1 kx F (nI (q + 1)) 0 x4 N else some (nI q, N) := by
  obtain ⟨g1, g2, g3, g4⟩ := m_go hz h8 hq hb
  rw [fm_read_L34, jlet_e, if_neg g1, gd_t g2, if_neg g3, if_neg g4, jlet_e, if_neg (show ¬ (2 : Int32) = 0 by decide), if_neg (show ¬ (2 : Int32) = 1 by decide), gd_t g2, ix_nI (by omega), nI_1]
  rfl
theorem c_skip {C N : Mem} {Z p : Nat} (hC : CH C N Z) (hp : p ≤ Z) (hc : C.1 18 2 = nI p) : ∃ q, p ≤ q ∧ q ≤ Z ∧ (q = Z ∨ ¬ N.1 147 q = 32) ∧ fTape_skipBlanks C = some (wI C 18 2 (nI q)) ∧ ∀ F2 b1 kx x3 x4, q - p < F2 → fm_read_L34 b1 kx F2 (nI p) x3 x4 N = fm_read_L34 b1 kx (F2 - (q - p)) (nI q) x3 x4 N := by
  have hz := hC.2.2.1
  obtain ⟨q, q1, q2, q3, q4, q5⟩ := skip_L (Z - p) p (by omega) C hC hc (FU + 1) (by rw [FU_eq]; omega)
  exact ⟨q, q1, q2, q3, by rw [skip_e]; exact q4, q5⟩
/-- the class's word -/
theorem c_word {C N : Mem} {Z q : Nat} (hC : CH C N Z) (hq : q ≤ Z) (hc : C.1 18 2 = nI q) : ∃ e w, q ≤ e ∧ e ≤ Z ∧ (e = Z ∨ N.1 147 e < 97 ∨ 122 < N.1 147 e) ∧ (∀ i, q ≤ i → i < e → ¬ N.1 147 i < 97 ∧ ¬ 122 < N.1 147 i) ∧ fm_wordAt N (nI q) (nI e) = some w ∧ ((w = -1 ∧ fTape_readWord C = some (-1, C)) ∨ ∃ k, k < 9 ∧ w = nI k ∧ q + 3 ≤ e ∧ fTape_readWord C = some (nI k, wI C 18 2 (nI e))) := by
  have hz := hC.2.2.1
  obtain ⟨e, e1, e2, e3, e4, e5⟩ := run_L hC (lo := 97) (hi := 122) ⟨by decide, by decide⟩ ⟨by decide, by decide⟩ (Z - q) q (by omega)
  obtain ⟨w, w1, w2, w3⟩ := word_e hC hc e1 e2 (fun w3 => (mlet (wI C 18 2 (nI e)) (fun M4 => (some (w3, M4)))))
  refine ⟨e, w, e1, e2, e5, fun i x y => (e4 i x y).2, w2, ?_⟩
  have hr : fTape_readWord C = if w = -1 then some (-1, C) else some (w, wI C 18 2 (nI e)) := by
    unfold fTape_readWord fTape_endOfRun
    rw [ilet_e, hc, e3 FU (by rw [FU_eq]; omega), Option.bind_some, w3]
    rfl
  rcases w1 with w1 | ⟨k, k1, k2, k3⟩
  · exact Or.inl ⟨w1, by rw [hr, if_pos w1]⟩
  · have := svN_b k k1
    refine Or.inr ⟨k, k1, k2, by omega, ?_⟩
    rw [hr, k2, if_neg]
    intro z
    rw [t_eq, t_nI (by omega)] at z
    simp only [Int32.reduceToInt] at z
    omega
/-- the class's number -/
theorem c_num {C N : Mem} {Z q : Nat} (hC : CH C N Z) (hq : q ≤ Z) (hc : C.1 18 2 = nI q) : ∃ e, q ≤ e ∧ e ≤ Z ∧ (e = Z ∨ N.1 147 e < 48 ∨ 57 < N.1 147 e) ∧ (∀ i, q ≤ i → i < e → ¬ N.1 147 i < 48 ∧ ¬ 57 < N.1 147 i) ∧ fTape_readNumber C = if e = q then some (-1, C) else if q + 2 < e then some (-1, C) else some (num N q (e - q) q 0, wI C 18 2 (nI e)) := by
  have hz := hC.2.2.1
  obtain ⟨e, e1, e2, e3, e4, e5⟩ := run_L hC (lo := 48) (hi := 57) ⟨by decide, by decide⟩ ⟨by decide, by decide⟩ (Z - q) q (by omega)
  refine ⟨e, e1, e2, e5, fun i x y => (e4 i x y).2, ?_⟩
  have tq := t_nI (show q < 2147483648 by omega)
  have te := t_nI (show e < 2147483648 by omega)
  have td : (nI e - nI q).toInt = (e : Int) - q := by rw [t_sub (by omega) (by omega), tq, te]
  have k1 : (nI e - nI q) < 1 ↔ e = q := by
    rw [t_lt, td]
    simp only [Int32.reduceToInt]
    omega
  have k2 : (nI e - nI q) ≤ 2 ↔ ¬ q + 2 < e := by
    rw [t_le, td]
    simp only [Int32.reduceToInt]
    omega
  unfold fTape_readNumber fTape_endOfRun
  rw [ilet_e, hc, e3 FU (by rw [FU_eq]; omega), Option.bind_some, ilet_e]
  by_cases a1 : e = q
  · rw [if_pos (k1.mpr a1), if_pos a1]
  rw [if_neg (fun z => a1 (k1.mp z)), if_neg a1]
  by_cases a2 : q + 2 < e
  · rw [if_neg (fun z => k2.mp z a2), if_pos a2]
  rw [if_pos (k2.mpr a2), if_neg a2]
  exact cdig_L (N := N) (s := q) (by omega) (by omega) (e - q) q 0 (by omega) C hc (fun i x y => (e4 i x y).1) FU (by rw [FU_eq]; omega)
