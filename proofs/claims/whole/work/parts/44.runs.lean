-- runs of letters and digits
theorem CH.lt {C N : Mem} {Z : Nat} (h : CH C N Z) {i : Nat} (hi : i < Z) {x : Int32} (hx : bd x 0 127) (a : ¬ C.1 19 i < x) : C.1 19 i = N.1 147 i ∧ ¬ N.1 147 i < x := by
  obtain ⟨-, -, -, h4⟩ := h
  obtain ⟨g1, g2⟩ := h4 i hi
  obtain ⟨x1, x2⟩ := hx
  rcases g2 with ⟨p, q⟩ | ⟨p, q⟩
  · exact ⟨q, by rw [← q]; exact a⟩
  · rw [t_lt] at a; omega
theorem CH.lt2 {C N : Mem} {Z : Nat} (h : CH C N Z) {i : Nat} (hi : i < Z) {x y : Int32} (hx : bd x 0 127) (hy : bd y 0 127) (a : C.1 19 i < x) : N.1 147 i < x ∨ y < N.1 147 i := by
  obtain ⟨-, -, -, h4⟩ := h
  obtain ⟨g1, g2⟩ := h4 i hi
  obtain ⟨x1, x2⟩ := hx
  obtain ⟨y1, y2⟩ := hy
  rcases g2 with ⟨p, q⟩ | ⟨p, q⟩
  · exact Or.inl (by rw [← q]; exact a)
  · rw [t_lt, t_lt]; omega
theorem run_L {C N : Mem} {Z : Nat} (hC : CH C N Z) {lo hi : Int32} (hl : bd lo 0 127) (hh : bd hi 0 127) : ∀ (n p : Nat), p + n = Z → ∃ e, p ≤ e ∧ e ≤ Z ∧ (∀ F1, n < F1 → fTape_endOfRun_L5 C lo hi F1 (nI p) = some (nI e)) ∧ (∀ i, p ≤ i → i < e → C.1 19 i = N.1 147 i ∧ ¬ N.1 147 i < lo ∧ ¬ hi < N.1 147 i) ∧ (e = Z ∨ N.1 147 e < lo ∨ hi < N.1 147 e) := by
  intro n
  have hz := hC.2.2.1
  have tZ := t_nI (show Z < 2147483648 by omega)
  induction n with
  | zero =>
    intro p hp
    have tp := t_nI (show p < 2147483648 by omega)
    refine ⟨p, by omega, by omega, fun F1 h1 => ?_, fun i h1 h2 => by omega, Or.inl (by omega)⟩
    obtain ⟨F1, rfl⟩ : ∃ m, F1 = m + 1 := ⟨F1 - 1, by omega⟩
    rw [fTape_endOfRun_L5, if_pos (by rw [hC.1, t_le, tp, tZ]; omega)]
  | succ n ih =>
    intro p hp
    have tp := t_nI (show p < 2147483648 by omega)
    have xp := ix_nI (show p < 2147483648 by omega)
    have hin : inb (nI p) 160 := b_in (by omega) (by omega)
    have c0 : ¬ C.1 18 1 ≤ nI p := by rw [hC.1, t_le, tp, tZ]; omega
    by_cases q : C.1 19 p < lo
    · refine ⟨p, by omega, by omega, fun F1 h1 => ?_, fun i h1 h2 => by omega, Or.inr (hC.lt2 (by omega) hl hh q)⟩
      obtain ⟨F1, rfl⟩ : ∃ m, F1 = m + 1 := ⟨F1 - 1, by omega⟩
      rw [fTape_endOfRun_L5, if_neg c0, gd_t hin, xp, if_pos q]
    · obtain ⟨k1, k2⟩ := hC.lt (by omega) hl q
      by_cases r : hi < C.1 19 p
      · refine ⟨p, by omega, by omega, fun F1 h1 => ?_, fun i h1 h2 => by omega, Or.inr (Or.inr (by rw [← k1]; exact r))⟩
        obtain ⟨F1, rfl⟩ : ∃ m, F1 = m + 1 := ⟨F1 - 1, by omega⟩
        rw [fTape_endOfRun_L5, if_neg c0, gd_t hin, gd_t hin, xp, if_neg q, if_pos r]
      · obtain ⟨e, e1, e2, e3, e4, e5⟩ := ih (p + 1) (by omega)
        refine ⟨e, by omega, e2, fun F1 h1 => ?_, fun i h1 h2 => ?_, e5⟩
        · obtain ⟨F1, rfl⟩ : ∃ m, F1 = m + 1 := ⟨F1 - 1, by omega⟩
          rw [fTape_endOfRun_L5, if_neg c0, gd_t hin, gd_t hin, xp, if_neg q, if_neg r, nI_1, e3 F1 (by omega)]
        · by_cases z : i = p
          · subst z; exact ⟨k1, k2, by rw [← k1]; exact r⟩
          · exact e4 i (by omega) h2
theorem mrun_L {N : Mem} {Z : Nat} (hz : Z ≤ 160) (h8 : N.1 138 8 = nI Z) {b1 b2 : Int32} {kx : Int32 → Option (Int32 × Mem)} {e : Nat} (he : e ≤ Z) (he2 : e = Z ∨ N.1 147 e < 97 ∨ 122 < N.1 147 e) : ∀ (n p : Nat), p + n = e → (∀ i, p ≤ i → i < e → ¬ N.1 147 i < 97 ∧ ¬ 122 < N.1 147 i) → ∀ F1, n < F1 → fm_read_L88 N b1 b2 kx F1 (nI p) = kx (nI e) := by
  intro n
  have tZ := t_nI (show Z < 2147483648 by omega)
  induction n with
  | zero =>
    intro p hp hq F1 h1
    obtain rfl : p = e := by omega
    obtain ⟨F1, rfl⟩ : ∃ m, F1 = m + 1 := ⟨F1 - 1, by omega⟩
    have tp := t_nI (show p < 2147483648 by omega)
    have xp := ix_nI (show p < 2147483648 by omega)
    rw [fm_read_L88]
    by_cases z : p = Z
    · rw [if_pos (by rw [h8, t_le, tp, tZ]; omega)]
    · have hin : inb (nI p) 160 := b_in (by omega) (by omega)
      rw [if_neg (by rw [h8, t_le, tp, tZ]; omega), gd_t hin, gd_t hin, xp]
      rcases he2 with w | w | w
      · exact absurd w z
      · rw [if_pos w]
      · by_cases v : N.1 147 p < 97
        · rw [if_pos v]
        · rw [if_neg v, if_pos w]
  | succ n ih =>
    intro p hp hq F1 h1
    obtain ⟨F1, rfl⟩ : ∃ m, F1 = m + 1 := ⟨F1 - 1, by omega⟩
    have tp := t_nI (show p < 2147483648 by omega)
    have xp := ix_nI (show p < 2147483648 by omega)
    have hin : inb (nI p) 160 := b_in (by omega) (by omega)
    obtain ⟨q1, q2⟩ := hq p (by omega) (by omega)
    rw [fm_read_L88, if_neg (by rw [h8, t_le, tp, tZ]; omega), gd_t hin, gd_t hin, xp, if_neg q1, if_neg q2, nI_1, ih (p + 1) (by omega) (fun i x y => hq i (by omega) y) F1 (by omega)]
/-- the number that the digits tell, the first two alone -/
def num (N : Mem) (s : Nat) : Nat → Nat → Int32 → Int32
  | 0, _, x => x
  | n + 1, q, x => num N s n (q + 1) (if s + 2 ≤ q then x else (((10 : Int32) * x) + (N.1 147 q)) - 48)
theorem mdig_L {N : Mem} {Z s : Nat} (hz : Z ≤ 160) (h8 : N.1 138 8 = nI Z) {b1 b4 : Int32} {kx : Int32 → Int32 → Option (Int32 × Mem)} {e : Nat} (he : e ≤ Z) (he2 : e = Z ∨ N.1 147 e < 48 ∨ 57 < N.1 147 e) : ∀ (n p : Nat) (x : Int32), p + n = e → s ≤ p → (∀ i, p ≤ i → i < e → ¬ N.1 147 i < 48 ∧ ¬ 57 < N.1 147 i) → ∀ F1, n < F1 → fm_read_L156 N b1 (nI s) b4 kx F1 (nI p) x = kx (nI e) (num N s n p x) := by
  intro n
  have tZ := t_nI (show Z < 2147483648 by omega)
  induction n with
  | zero =>
    intro p x hp hs hq F1 h1
    obtain rfl : p = e := by omega
    obtain ⟨F1, rfl⟩ : ∃ m, F1 = m + 1 := ⟨F1 - 1, by omega⟩
    have tp := t_nI (show p < 2147483648 by omega)
    have xp := ix_nI (show p < 2147483648 by omega)
    rw [fm_read_L156, num]
    by_cases z : p = Z
    · rw [if_pos (by rw [h8, t_le, tp, tZ]; omega)]
    · have hin : inb (nI p) 160 := b_in (by omega) (by omega)
      rw [if_neg (by rw [h8, t_le, tp, tZ]; omega), gd_t hin, gd_t hin, xp]
      rcases he2 with w | w | w
      · exact absurd w z
      · rw [if_pos w]
      · by_cases v : N.1 147 p < 48
        · rw [if_pos v]
        · rw [if_neg v, if_pos w]
  | succ n ih =>
    intro p x hp hs hq F1 h1
    obtain ⟨F1, rfl⟩ : ∃ m, F1 = m + 1 := ⟨F1 - 1, by omega⟩
    have tp := t_nI (show p < 2147483648 by omega)
    have ts := t_nI (show s < 2147483648 by omega)
    have xp := ix_nI (show p < 2147483648 by omega)
    have hin : inb (nI p) 160 := b_in (by omega) (by omega)
    obtain ⟨q1, q2⟩ := hq p (by omega) (by omega)
    have hc : (2 : Int32) ≤ nI p - nI s ↔ s + 2 ≤ p := by
      rw [t_le, t_sub (by omega) (by omega), tp, ts]
      simp only [Int32.reduceToInt]
      omega
    rw [fm_read_L156, if_neg (by rw [h8, t_le, tp, tZ]; omega), gd_t hin, gd_t hin, xp, if_neg q1, if_neg q2, jlet_e, gd_t hin, nI_1, num, ilet_e]
    by_cases r : s + 2 ≤ p
    · rw [if_pos (hc.mpr r), if_pos r]
      exact ih (p + 1) _ (by omega) (by omega) (fun i x y => hq i (by omega) y) F1 (by omega)
    · rw [if_neg (fun z => r (hc.mp z)), if_neg r]
      exact ih (p + 1) _ (by omega) (by omega) (fun i x y => hq i (by omega) y) F1 (by omega)
theorem cdig_L {N : Mem} {s : Nat} {e : Nat} (he : e ≤ 160) (hs : e ≤ s + 2) : ∀ (n p : Nat) (x : Int32), p + n = e → ∀ C, C.1 18 2 = nI p → (∀ i, p ≤ i → i < e → C.1 19 i = N.1 147 i) → ∀ F1, n < F1 → fTape_readNumber_L30 (nI e) F1 x C = some (num N s n p x, wI C 18 2 (nI e)) := by
  intro n
  have te := t_nI (show e < 2147483648 by omega)
  induction n with
  | zero =>
    intro p x hp C hc hq F1 h1
    obtain rfl : p = e := by omega
    obtain ⟨F1, rfl⟩ : ∃ m, F1 = m + 1 := ⟨F1 - 1, by omega⟩
    rw [fTape_readNumber_L30, if_pos (by rw [hc, t_le]; omega), num, wI_id hc]
  | succ n ih =>
    intro p x hp C hc hq F1 h1
    obtain ⟨F1, rfl⟩ : ∃ m, F1 = m + 1 := ⟨F1 - 1, by omega⟩
    have tp := t_nI (show p < 2147483648 by omega)
    have xp := ix_nI (show p < 2147483648 by omega)
    have hin : inb (nI p) 160 := b_in (by omega) (by omega)
    rw [fTape_readNumber_L30, if_neg (by rw [hc, t_le]; omega), hc, gd_t hin, xp, ilet_e, mlet_e, nI_1, ih (p + 1) _ (by omega) _ wI_s (fun i y z => by rw [wI_row _ _ _ _ (by omega)]; exact hq i (by omega) z) F1 (by omega), wI_wI, num, if_neg (by omega), hq p (by omega) (by omega)]
theorem numb_b {N : Mem} {s e : Nat} (h1 : s < e) (h2 : e ≤ s + 2) (hd : ∀ i, s ≤ i → i < e → ¬ N.1 147 i < 48 ∧ ¬ 57 < N.1 147 i) : bd (num N s (e - s) s 0) 0 99 := by
  obtain ⟨a1, a2⟩ := hd s (by omega) (by omega)
  rw [t_lt] at a1 a2
  simp only [Int32.reduceToInt] at a1 a2
  have z0 : (10 : Int32) * 0 + N.1 147 s - 48 = N.1 147 s - 48 := by simp
  have z1 : (N.1 147 s - 48).toInt = (N.1 147 s).toInt - 48 := t_sub (by simp only [Int32.reduceToInt]; omega) (by simp only [Int32.reduceToInt]; omega)
  rcases (show e = s + 1 ∨ e = s + 2 by omega) with rfl | rfl
  · rw [show s + 1 - s = 0 + 1 by omega, num, num, if_neg (by omega), z0]
    unfold bd
    omega
  · obtain ⟨b1, b2⟩ := hd (s + 1) (by omega) (by omega)
    rw [t_lt] at b1 b2
    simp only [Int32.reduceToInt] at b1 b2
    rw [show s + 2 - s = 0 + 1 + 1 by omega, num, num, num, if_neg (by omega), if_neg (by omega), z0]
    have w1 : ((10 : Int32) * (N.1 147 s - 48)).toInt = 10 * ((N.1 147 s).toInt - 48) := by
      rw [t_mul (by rw [z1]; simp only [Int32.reduceToInt]; omega) (by rw [z1]; simp only [Int32.reduceToInt]; omega), z1]
      rfl
    have w2 : ((10 : Int32) * (N.1 147 s - 48) + N.1 147 (s + 1)).toInt = 10 * ((N.1 147 s).toInt - 48) + (N.1 147 (s + 1)).toInt := by
      rw [t_add (by omega) (by omega), w1]
    have w3 : ((10 : Int32) * (N.1 147 s - 48) + N.1 147 (s + 1) - 48).toInt = 10 * ((N.1 147 s).toInt - 48) + (N.1 147 (s + 1)).toInt - 48 := by
      rw [t_sub (by simp only [Int32.reduceToInt]; omega) (by simp only [Int32.reduceToInt]; omega), w2]
      rfl
    unfold bd
    omega
-- words
theorem svc_b : ∀ w, w < 9 → ∀ i, i < svN.getD w 0 → bd (svc w i) 0 127 := by
  unfold bd
  decide
theorem svN_b : ∀ w, w < 9 → 3 ≤ svN.getD w 0 ∧ svN.getD w 0 ≤ 5 := by decide
theorem word_L {C N : Mem} {Z p w : Nat} (hC : CH C N Z) (hw : w < 9) (hp : C.1 18 2 = nI p) (hl : p + svN.getD w 0 ≤ Z) : ∀ (n k : Nat), k + n = svN.getD w 0 → ∃ r : Int32, (r = 0 ∨ r = 1) ∧ (∀ F1, n < F1 → fTape_stands_L17 C w F1 (nI k) = some r) ∧ ∀ F1, n < F1 → fm_is_L15 N (nI p) w F1 (nI k) = some r := by
  intro n
  have hz := hC.2.2.1
  have tl := t_nI (show svN.getD w 0 < 2147483648 by omega)
  induction n with
  | zero =>
    intro k hk
    have tk := t_nI (show k < 2147483648 by omega)
    refine ⟨1, Or.inr rfl, fun F1 h1 => ?_, fun F1 h1 => ?_⟩
    · obtain ⟨F1, rfl⟩ : ∃ m, F1 = m + 1 := ⟨F1 - 1, by omega⟩
      rw [fTape_stands_L17, if_pos (by rw [t_le]; omega)]
    · obtain ⟨F1, rfl⟩ : ∃ m, F1 = m + 1 := ⟨F1 - 1, by omega⟩
      rw [fm_is_L15, if_pos (by rw [t_le]; omega)]
  | succ n ih =>
    intro k hk
    have tk := t_nI (show k < 2147483648 by omega)
    have xk := ix_nI (show k < 2147483648 by omega)
    have i1 : inb (nI k) (svN.getD w 0) := b_in (by omega) (by omega)
    have tq := t_nI (show p + k < 2147483648 by omega)
    have xq := ix_nI (show p + k < 2147483648 by omega)
    have tp := t_nI (show p < 2147483648 by omega)
    have i2 : inb (nI (p + k)) 160 := b_in (by omega) (by omega)
    have ea : nI p + nI k = nI (p + k) := by rw [t_eq, t_add (by omega) (by omega)]; omega
    have he := hC.eq (i := p + k) (by omega) (svc_b w hw k (by omega))
    have c0 : ¬ nI (svN.getD w 0) ≤ nI k := by rw [t_le]; omega
    by_cases q : N.1 147 (p + k) = svc w k
    · obtain ⟨r, r0, r1, r2⟩ := ih (k + 1) (by omega)
      refine ⟨r, r0, fun F1 h1 => ?_, fun F1 h1 => ?_⟩
      · obtain ⟨F1, rfl⟩ : ∃ m, F1 = m + 1 := ⟨F1 - 1, by omega⟩
        rw [fTape_stands_L17, if_neg c0, hp, gd_t i1, ea, gd_t i2, xk, xq, if_pos (he.mpr q).symm, nI_1, r1 F1 (by omega)]
      · obtain ⟨F1, rfl⟩ : ∃ m, F1 = m + 1 := ⟨F1 - 1, by omega⟩
        rw [fm_is_L15, if_neg c0, gd_t i1, ea, gd_t i2, xk, xq, if_pos q, nI_1, r2 F1 (by omega)]
    · refine ⟨0, Or.inl rfl, fun F1 h1 => ?_, fun F1 h1 => ?_⟩
      · obtain ⟨F1, rfl⟩ : ∃ m, F1 = m + 1 := ⟨F1 - 1, by omega⟩
        rw [fTape_stands_L17, if_neg c0, hp, gd_t i1, ea, gd_t i2, xk, xq, if_neg (fun z => q (he.mp z.symm))]
      · obtain ⟨F1, rfl⟩ : ∃ m, F1 = m + 1 := ⟨F1 - 1, by omega⟩
        rw [fm_is_L15, if_neg c0, gd_t i1, ea, gd_t i2, xk, xq, if_neg q]
theorem word_1 {C N : Mem} {Z p e w : Nat} (hC : CH C N Z) (hw : w < 9) (hp : C.1 18 2 = nI p) (h1 : p ≤ e) (h2 : e ≤ Z) : ∃ r : Int32, (r = 0 ∨ (r = 1 ∧ e = p + svN.getD w 0)) ∧ fTape_stands C w (nI e) = some r ∧ fm_is N (nI p) (nI e) w = some r := by
  have hz := hC.2.2.1
  have hn := svN_b w hw
  have tl := t_nI (show svN.getD w 0 < 2147483648 by omega)
  have tp := t_nI (show p < 2147483648 by omega)
  have te := t_nI (show e < 2147483648 by omega)
  have hd : (nI e - nI p).toInt = (e : Int) - p := by rw [t_sub (by omega) (by omega), te, tp]
  unfold fTape_stands fm_is
  by_cases q : e = p + svN.getD w 0
  · obtain ⟨r, r0, r1, r2⟩ := word_L hC hw hp (by omega) (svN.getD w 0) 0 (by omega)
    refine ⟨r, ?_, ?_, ?_⟩
    · rcases r0 with r0 | r0
      · exact Or.inl r0
      · exact Or.inr ⟨r0, q⟩
    · rw [hp, if_pos (by rw [t_eq]; omega)]
      exact r1 FU (by rw [FU_eq]; omega)
    · rw [if_pos (by rw [t_eq]; omega)]
      exact r2 FU (by rw [FU_eq]; omega)
  · refine ⟨0, Or.inl rfl, ?_, ?_⟩
    · rw [hp, if_neg (by rw [t_eq]; omega)]
    · rw [if_neg (by rw [t_eq]; omega)]
theorem FU_10 : ∃ n, FU = n + 10 := ⟨99990, FU_eq⟩
theorem word_e {C N : Mem} {Z p e : Nat} (hC : CH C N Z) (hp : C.1 18 2 = nI p) (h1 : p ≤ e) (h2 : e ≤ Z) (kx : Int32 → Option (Int32 × Mem)) : ∃ w : Int32, (w = -1 ∨ ∃ k, k < 9 ∧ w = nI k ∧ e = p + svN.getD k 0) ∧ fm_wordAt N (nI p) (nI e) = some w ∧ fTape_readWord_L11 C (nI e) kx FU 0 = if w = -1 then some (-1, C) else kx w := by
  obtain ⟨f, hf⟩ := FU_10
  rw [hf]
  unfold fm_wordAt
  obtain ⟨r0, a0, b0, d0⟩ := word_1 hC (w := 0) (by omega) hp h1 h2
  rw [fTape_readWord_L11, if_neg (by decide), show fTape_lawWordT C 0 = 0 from rfl, b0, d0, Option.bind_some, Option.bind_some]
  rcases a0 with rfl | ⟨rfl, z0⟩
  rotate_left
  · exact ⟨0, Or.inr ⟨0, by omega, rfl, z0⟩, by rw [if_neg (by decide)], by rw [if_neg (by decide), if_neg (by decide)]⟩
  rw [if_pos rfl, if_pos rfl, show ((0 : Int32) + 1) = 1 from rfl]
  obtain ⟨r1, a1, b1, d1⟩ := word_1 hC (w := 1) (by omega) hp h1 h2
  rw [fTape_readWord_L11, if_neg (by decide), show fTape_lawWordT C 1 = 1 from rfl, b1, d1, Option.bind_some, Option.bind_some]
  rcases a1 with rfl | ⟨rfl, z1⟩
  rotate_left
  · exact ⟨1, Or.inr ⟨1, by omega, rfl, z1⟩, by rw [if_neg (by decide)], by rw [if_neg (by decide), if_neg (by decide)]⟩
  rw [if_pos rfl, if_pos rfl, show ((1 : Int32) + 1) = 2 from rfl]
  obtain ⟨r2, a2, b2, d2⟩ := word_1 hC (w := 2) (by omega) hp h1 h2
  rw [fTape_readWord_L11, if_neg (by decide), show fTape_lawWordT C 2 = 2 from rfl, b2, d2, Option.bind_some, Option.bind_some]
  rcases a2 with rfl | ⟨rfl, z2⟩
  rotate_left
  · exact ⟨2, Or.inr ⟨2, by omega, rfl, z2⟩, by rw [if_neg (by decide)], by rw [if_neg (by decide), if_neg (by decide)]⟩
  rw [if_pos rfl, if_pos rfl, show ((2 : Int32) + 1) = 3 from rfl]
  obtain ⟨r3, a3, b3, d3⟩ := word_1 hC (w := 3) (by omega) hp h1 h2
  rw [fTape_readWord_L11, if_neg (by decide), show fTape_lawWordT C 3 = 3 from rfl, b3, d3, Option.bind_some, Option.bind_some]
  rcases a3 with rfl | ⟨rfl, z3⟩
  rotate_left
  · exact ⟨3, Or.inr ⟨3, by omega, rfl, z3⟩, by rw [if_neg (by decide)], by rw [if_neg (by decide), if_neg (by decide)]⟩
  rw [if_pos rfl, if_pos rfl, show ((3 : Int32) + 1) = 4 from rfl]
  obtain ⟨r4, a4, b4, d4⟩ := word_1 hC (w := 4) (by omega) hp h1 h2
  rw [fTape_readWord_L11, if_neg (by decide), show fTape_lawWordT C 4 = 4 from rfl, b4, d4, Option.bind_some, Option.bind_some]
  rcases a4 with rfl | ⟨rfl, z4⟩
  rotate_left
  · exact ⟨4, Or.inr ⟨4, by omega, rfl, z4⟩, by rw [if_neg (by decide)], by rw [if_neg (by decide), if_neg (by decide)]⟩
  rw [if_pos rfl, if_pos rfl, show ((4 : Int32) + 1) = 5 from rfl]
  obtain ⟨r5, a5, b5, d5⟩ := word_1 hC (w := 5) (by omega) hp h1 h2
  rw [fTape_readWord_L11, if_neg (by decide), show fTape_lawWordT C 5 = 5 from rfl, b5, d5, Option.bind_some, Option.bind_some]
  rcases a5 with rfl | ⟨rfl, z5⟩
  rotate_left
  · exact ⟨5, Or.inr ⟨5, by omega, rfl, z5⟩, by rw [if_neg (by decide)], by rw [if_neg (by decide), if_neg (by decide)]⟩
  rw [if_pos rfl, if_pos rfl, show ((5 : Int32) + 1) = 6 from rfl]
  obtain ⟨r6, a6, b6, d6⟩ := word_1 hC (w := 6) (by omega) hp h1 h2
  rw [fTape_readWord_L11, if_neg (by decide), show fTape_lawWordT C 6 = 6 from rfl, b6, d6, Option.bind_some, Option.bind_some]
  rcases a6 with rfl | ⟨rfl, z6⟩
  rotate_left
  · exact ⟨6, Or.inr ⟨6, by omega, rfl, z6⟩, by rw [if_neg (by decide)], by rw [if_neg (by decide), if_neg (by decide)]⟩
  rw [if_pos rfl, if_pos rfl, show ((6 : Int32) + 1) = 7 from rfl]
  obtain ⟨r7, a7, b7, d7⟩ := word_1 hC (w := 7) (by omega) hp h1 h2
  rw [fTape_readWord_L11, if_neg (by decide), show fTape_lawWordT C 7 = 7 from rfl, b7, d7, Option.bind_some, Option.bind_some]
  rcases a7 with rfl | ⟨rfl, z7⟩
  rotate_left
  · exact ⟨7, Or.inr ⟨7, by omega, rfl, z7⟩, by rw [if_neg (by decide)], by rw [if_neg (by decide), if_neg (by decide)]⟩
  rw [if_pos rfl, if_pos rfl, show ((7 : Int32) + 1) = 8 from rfl]
  obtain ⟨r8, a8, b8, d8⟩ := word_1 hC (w := 8) (by omega) hp h1 h2
  rw [fTape_readWord_L11, if_neg (by decide), show fTape_lawWordT C 8 = 8 from rfl, b8, d8, Option.bind_some, Option.bind_some]
  rcases a8 with rfl | ⟨rfl, z8⟩
  rotate_left
  · exact ⟨8, Or.inr ⟨8, by omega, rfl, z8⟩, by rw [if_neg (by decide)], by rw [if_neg (by decide), if_neg (by decide)]⟩
  rw [if_pos rfl, if_pos rfl, show ((8 : Int32) + 1) = 9 from rfl]
  refine ⟨-1, Or.inl rfl, rfl, ?_⟩
  rw [fTape_readWord_L11, if_pos (by decide), if_pos rfl]
