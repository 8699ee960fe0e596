-- lifts
theorem bagc_L {a1 a2 : Int32} {m : Nat} (h3 : 0 ≤ a1.toInt) (h4 : a1.toInt < 8) (hm : a2.toInt = m) (hm2 : m ≤ 40) {a3 a4 : Int32} {kx : Mem → Option (Int32 × Mem)} {N : Mem} (e5 : bd (N.1 140 (ix a1)) 0 40) (hz : (m : Int) ≤ (N.1 140 (ix a1)).toInt) : ∀ (n k : Nat), k + n = m → ∀ C : Mem, C.1 (ix a1 + 2) 1 = N.1 140 (ix a1) → (∀ i, i < 40 → C.2 (ix a1 + 10) i = N.2 141 (40 * ix a1 + i)) → ∀ F1, n < F1 → ∃ C', fc_lifts_L77 a1 a2 a3 a4 kx F1 (nI k) C = kx C' ∧ (∀ q, q ≠ 137 → C'.1 q = C.1 q) ∧ C'.2 = C.2 ∧ (∀ i, i < k → C'.1 137 i = C.1 137 i) ∧ ∀ i, k ≤ i → i < m → C'.1 137 i = Int64.toInt32 (N.2 141 (40 * ix a1 + i)) := by
  have hi := t_ix h3
  intro n
  induction n with
  | zero =>
    intro k hk C e4 e6 F1 h1
    obtain ⟨F1, rfl⟩ : ∃ m, F1 = m + 1 := ⟨F1 - 1, by omega⟩
    have tk := t_nI (show k < 2147483648 by omega)
    rw [fc_lifts_L77, if_pos (by rw [t_le, tk]; omega)]
    exact ⟨C, rfl, fun _ _ => rfl, rfl, fun _ _ => rfl, fun i x y => by omega⟩
  | succ n ih =>
    intro k hk C e4 e6 F1 h1
    obtain ⟨F1, rfl⟩ : ∃ m, F1 = m + 1 := ⟨F1 - 1, by omega⟩
    have tk := t_nI (show k < 2147483648 by omega)
    have xk := ix_nI (show k < 2147483648 by omega)
    obtain ⟨g1, g2, g3, g4⟩ := at_eq (C := C) (N := N) (s := ix a1) (by omega) (a1 := a1) (a2 := nI k) (by omega) rfl e4 e5 e6 (by omega) (by omega)
    rw [fc_lifts_L77, if_neg (by rw [t_le, tk]; omega), gd_t (b_in h3 h4), g1, Option.bind_some, gd_t (b_in (by omega) (by omega)), mlet_e, xk, nI_1]
    obtain ⟨C', r1, r2, r3, r4, r5⟩ := ih (k + 1) (by omega) (wI C 137 k (Int64.toInt32 (N.2 141 (40 * ix a1 + k)))) ((mem_fst (by omega)).trans e4) e6 F1 (by omega)
    refine ⟨C', r1, fun q hq => (r2 q hq).trans (wI_row _ _ _ _ hq), r3, fun i hi => (r4 i (by omega)).trans (mem_fst (by omega)), fun i x y => ?_⟩
    by_cases e : i = k
    · rw [e, r4 k (by omega), wI_s]
    · exact r5 i (by omega) y
theorem bagm_L {a1 a2 : Int32} {m : Nat} (h3 : 0 ≤ a1.toInt) (h4 : a1.toInt < 8) (hm : a2.toInt = m) (hm2 : m ≤ 40) {a3 a4 : Int32} {kx ky : Mem → Option (Int32 × Mem)} : ∀ (n k : Nat), k + n = m → ∀ N : Mem, ∀ F1, n < F1 → ((∀ i, k ≤ i → i < m → 0 ≤ (N.2 141 (40 * ix a1 + i)).toInt ∧ (N.2 141 (40 * ix a1 + i)).toInt < (N.1 156 0).toInt) → ∃ N', fm_lifts_L113 a1 a2 a3 a4 kx ky F1 (nI k) N = kx N' ∧ (∀ q, q ≠ 164 → N'.1 q = N.1 q) ∧ N'.2 = N.2 ∧ (∀ i, i < k → N'.1 164 i = N.1 164 i) ∧ ∀ i, k ≤ i → i < m → N'.1 164 i = Int64.toInt32 (N.2 141 (40 * ix a1 + i))) ∧ ((∃ i, k ≤ i ∧ i < m ∧ ((N.2 141 (40 * ix a1 + i)).toInt < 0 ∨ (N.1 156 0).toInt ≤ (N.2 141 (40 * ix a1 + i)).toInt)) → ∃ N', fm_lifts_L113 a1 a2 a3 a4 kx ky F1 (nI k) N = ky N' ∧ (∀ q, q ≠ 164 → N'.1 q = N.1 q) ∧ N'.2 = N.2) := by
  have hi := t_ix h3
  intro n
  induction n with
  | zero =>
    intro k hk N F1 h1
    obtain ⟨F1, rfl⟩ : ∃ m, F1 = m + 1 := ⟨F1 - 1, by omega⟩
    have tk := t_nI (show k < 2147483648 by omega)
    refine ⟨fun _ => ?_, fun ⟨i, x, y, z⟩ => by omega⟩
    rw [fm_lifts_L113, if_pos (by rw [t_le, tk]; omega)]
    exact ⟨N, rfl, fun _ _ => rfl, rfl, fun _ _ => rfl, fun i x y => by omega⟩
  | succ n ih =>
    intro k hk N F1 h1
    obtain ⟨F1, rfl⟩ : ∃ m, F1 = m + 1 := ⟨F1 - 1, by omega⟩
    have tk := t_nI (show k < 2147483648 by omega)
    have xk := ix_nI (show k < 2147483648 by omega)
    have z0 : (0 : Int64).toInt = 0 := rfl
    have e := t_lin (x := 0) (y := 0) (a := a1) (b := nI k) h3 h4 (by omega) (by omega)
    have g := ix_lin (a := a1) (b := nI k) h3 h4 (by omega) (by omega)
    rw [xk] at g
    have hin : inb ((40 : Int32) * a1 + nI k) 320 := b_in (by omega) (by omega)
    have hin2 : inb (nI k) 40 := b_in (by omega) (by omega)
    rw [fm_lifts_L113, if_neg (by rw [t_le, tk]; omega), gd_t hin, g, llet_e]
    simp only [lgc_n, Int32.toInt_toInt64, z0, ix_0, gd_t hin2, mlet_e, xk, nI_1]
    obtain ⟨i1, i2⟩ := ih (k + 1) (by omega) (wI N 164 k (Int64.toInt32 (N.2 141 (40 * ix a1 + k)))) F1 (by omega)
    constructor
    · intro hg
      obtain ⟨g1, g2⟩ := hg k (by omega) (by omega)
      rw [if_neg (show ¬ (N.2 141 (40 * ix a1 + k)).toInt < 0 by omega), if_pos g2]
      obtain ⟨N', r1, r2, r3, r4, r5⟩ := i1 (fun i x y => by have := hg i (by omega) y; rw [mem_fst (by omega)]; exact this)
      refine ⟨N', r1, fun q hq => (r2 q hq).trans (wI_row _ _ _ _ hq), r3, fun i hi => (r4 i (by omega)).trans (mem_fst (by omega)), fun i x y => ?_⟩
      by_cases e : i = k
      · rw [e, r4 k (by omega), wI_s]
      · exact r5 i (by omega) y
    · rintro ⟨i, x, y, z⟩
      by_cases q : (N.2 141 (40 * ix a1 + k)).toInt < 0
      · rw [if_pos q]; exact ⟨N, rfl, fun _ _ => rfl, rfl⟩
      · rw [if_neg q]
        by_cases q2 : (N.2 141 (40 * ix a1 + k)).toInt < (N.1 156 0).toInt
        · rw [if_pos q2]
          have hik : i ≠ k := fun e => by rw [e] at z; omega
          obtain ⟨N', r1, r2, r3⟩ := i2 ⟨i, by omega, y, by rw [mem_fst (by omega)]; exact z⟩
          exact ⟨N', r1, fun q hq => (r2 q hq).trans (wI_row _ _ _ _ hq), r3⟩
        · rw [if_neg q2]; exact ⟨N, rfl, fun _ _ => rfl, rfl⟩
/-- two bags alike, and what else stays -/
def BG (X : Nat) (C N C' N' : Mem) : Prop := (∀ q, q ≠ 137 → C'.1 q = C.1 q) ∧ C'.2 = C.2 ∧ (∀ q, q ≠ 164 → N'.1 q = N.1 q) ∧ N'.2 = N.2 ∧ ∀ i, i < X → C'.1 137 i = N'.1 164 i
theorem nI_d1 (x : Int32) (d : Nat) : x + 1 + nI d = x + nI (d + 1) := by
  rw [Int32.add_assoc, Int32.add_comm 1 (nI d), nI_1]
theorem takeA_L {v : Int32} {X b8 : Nat} (hX : X ≤ 40) (h8 : b8 < 20) {b4 : Int32} {kx : Int32 → Int32 → Mem → Option (Int32 × Mem)} : ∀ (n k w : Nat), k + n = X → w ≤ k → ∀ (C N : Mem) (s : Int32), N.1 160 b8 = v → (∀ i, i < X → C.1 137 i = N.1 164 i) → ∀ F1 F2, n < F1 → n < F2 → ∃ w' C' N', w ≤ w' ∧ w' ≤ X ∧ fc_takeLetters_L5 v (nI X) F1 (nI w) (nI k) C = some (nI w', C') ∧ fm_lifts_L222 b4 (nI X) (nI b8) kx F2 s (nI w) 1 (nI k) N = kx (s + nI (w' - w)) (nI w') N' ∧ BG X C N C' N' := by
  intro n
  have tX := t_nI (show X < 2147483648 by omega)
  have x8 := ix_nI (show b8 < 2147483648 by omega)
  have t8 := t_nI (show b8 < 2147483648 by omega)
  have i8 : inb (nI b8) 20 := b_in (by omega) (by omega)
  induction n with
  | zero =>
    intro k w hk hw C N s hv hb F1 F2 h1 h2
    obtain ⟨F1, rfl⟩ : ∃ m, F1 = m + 1 := ⟨F1 - 1, by omega⟩
    obtain ⟨F2, rfl⟩ : ∃ m, F2 = m + 1 := ⟨F2 - 1, by omega⟩
    have tk := t_nI (show k < 2147483648 by omega)
    refine ⟨w, C, N, by omega, by omega, ?_, ?_, fun _ _ => rfl, rfl, fun _ _ => rfl, rfl, hb⟩
    · rw [fc_takeLetters_L5, if_pos (by rw [t_le]; omega)]
    · rw [fm_lifts_L222, if_pos (by rw [t_le]; omega), Nat.sub_self, show nI 0 = 0 from rfl, Int32.add_zero]
  | succ n ih =>
    intro k w hk hw C N s hv hb F1 F2 h1 h2
    obtain ⟨F1, rfl⟩ : ∃ m, F1 = m + 1 := ⟨F1 - 1, by omega⟩
    obtain ⟨F2, rfl⟩ : ∃ m, F2 = m + 1 := ⟨F2 - 1, by omega⟩
    have tk := t_nI (show k < 2147483648 by omega)
    have xk := ix_nI (show k < 2147483648 by omega)
    have tw := t_nI (show w < 2147483648 by omega)
    have xw := ix_nI (show w < 2147483648 by omega)
    have ik : inb (nI k) 40 := b_in (by omega) (by omega)
    have iw : inb (nI w) 40 := b_in (by omega) (by omega)
    have c0 : ¬ nI X ≤ nI k := by rw [t_le]; omega
    have hbk := hb k (by omega)
    rw [fc_takeLetters_L5, fm_lifts_L222, if_neg c0, if_neg c0]
    simp only [gd_t ik, gd_t iw, gd_t i8, jlet_e, xk, xw, x8, hv, nI_1, mlet_e, ← hbk, show ¬ (1 : Int32) = 0 by decide, if_false]
    by_cases q : C.1 137 k = v
    · rw [if_pos q, if_pos q]
      exact ih (k + 1) w (by omega) (by omega) C N s hv hb F1 F2 (by omega) (by omega)
    · rw [if_neg q, if_neg q]
      obtain ⟨w', C', N', a1, a2, a3, a4, a5, a6, a7, a8, a9⟩ := ih (k + 1) (w + 1) (by omega) (by omega) (wI C 137 w (C.1 137 k)) (wI N 164 w (C.1 137 k)) (s + 1) ((mem_fst (by omega)).trans hv) (fun i hi => by
        by_cases e : i = w
        · rw [e, wI_s, wI_s]
        · rw [mem_fst (by omega), mem_fst (by omega)]; exact hb i hi) F1 F2 (by omega) (by omega)
      refine ⟨w', C', N', by omega, a2, a3, ?_, fun q hq => (a5 q hq).trans (wI_row _ _ _ _ hq), a6, fun q hq => (a7 q hq).trans (wI_row _ _ _ _ hq), a8, a9⟩
      rw [a4, nI_d1, show w' - (w + 1) + 1 = w' - w by omega]
theorem takeB_L {v : Int32} {X b8 : Nat} (hX : X ≤ 40) (h8 : b8 < 20) {b4 : Int32} {kx : Int32 → Int32 → Mem → Option (Int32 × Mem)} {C N : Mem} (hv : N.1 160 b8 = v) (hb : ∀ i, i < X → C.1 137 i = N.1 164 i) : ∀ (n k : Nat), k + n = X → ∀ (s : Int32) (F1 F2 F3 : Nat), n < F1 → n < F2 → n < F3 → ∃ low w' C' N', low ≤ w' ∧ w' ≤ X ∧ fc_lowestLetter_L2 C v (nI X) F3 (nI k) = some (nI low) ∧ fc_takeLetters_L5 v (nI X) F1 (nI k) (nI k) C = some (nI w', C') ∧ fm_lifts_L222 b4 (nI X) (nI b8) kx F2 s (nI k) 0 (nI k) N = kx (s + nI (w' - low)) (nI w') N' ∧ BG X C N C' N' := by
  intro n
  have tX := t_nI (show X < 2147483648 by omega)
  have x8 := ix_nI (show b8 < 2147483648 by omega)
  have t8 := t_nI (show b8 < 2147483648 by omega)
  have i8 : inb (nI b8) 20 := b_in (by omega) (by omega)
  induction n with
  | zero =>
    intro k hk s F1 F2 F3 h1 h2 h3
    obtain ⟨F1, rfl⟩ : ∃ m, F1 = m + 1 := ⟨F1 - 1, by omega⟩
    obtain ⟨F2, rfl⟩ : ∃ m, F2 = m + 1 := ⟨F2 - 1, by omega⟩
    obtain ⟨F3, rfl⟩ : ∃ m, F3 = m + 1 := ⟨F3 - 1, by omega⟩
    obtain rfl : k = X := by omega
    refine ⟨k, k, C, N, by omega, by omega, ?_, ?_, ?_, fun _ _ => rfl, rfl, fun _ _ => rfl, rfl, hb⟩
    · rw [fc_lowestLetter_L2, if_pos (by rw [t_le]; omega)]
    · rw [fc_takeLetters_L5, if_pos (by rw [t_le]; omega)]
    · rw [fm_lifts_L222, if_pos (by rw [t_le]; omega), Nat.sub_self, show nI 0 = 0 from rfl, Int32.add_zero]
  | succ n ih =>
    intro k hk s F1 F2 F3 h1 h2 h3
    obtain ⟨F1, rfl⟩ : ∃ m, F1 = m + 1 := ⟨F1 - 1, by omega⟩
    obtain ⟨F2, rfl⟩ : ∃ m, F2 = m + 1 := ⟨F2 - 1, by omega⟩
    obtain ⟨F3, rfl⟩ : ∃ m, F3 = m + 1 := ⟨F3 - 1, by omega⟩
    have tk := t_nI (show k < 2147483648 by omega)
    have xk := ix_nI (show k < 2147483648 by omega)
    have ik : inb (nI k) 40 := b_in (by omega) (by omega)
    have c0 : ¬ nI X ≤ nI k := by rw [t_le]; omega
    have hbk := hb k (by omega)
    rw [fc_takeLetters_L5, fm_lifts_L222, fc_lowestLetter_L2, if_neg c0, if_neg c0, if_neg c0]
    simp only [gd_t ik, gd_t i8, jlet_e, xk, x8, hv, nI_1, mlet_e, ← hbk, if_true]
    by_cases q : C.1 137 k = v
    · rw [if_pos q, if_pos q, if_pos q]
      obtain ⟨w', C', N', a1, a2, a3, a4, a5⟩ := takeA_L hX h8 (b4 := b4) (kx := kx) n (k + 1) k (by omega) (by omega) C N s hv hb F1 F2 (by omega) (by omega)
      exact ⟨k, w', C', N', a1, a2, rfl, a3, a4, a5⟩
    · rw [if_neg q, if_neg q, if_neg q, wI_id rfl, wI_id hbk.symm]
      exact ih (k + 1) (by omega) s F1 F2 F3 (by omega) (by omega) (by omega)
theorem lift_L {a3 a4 : Int32} {m : Nat} (h3 : 0 ≤ a3.toInt) (h4 : a3.toInt < 8) (hm : a4 = nI m) (hm2 : m ≤ 20) : ∀ (n k X : Nat), k + n = m → X ≤ 40 → ∀ (C N : Mem) (s : Int32), (m : Int) ≤ (C.1 (ix a3 + 2) 1).toInt → (C.1 (ix a3 + 2) 1).toInt ≤ 40 → (∀ i, i < m → N.1 160 i = Int64.toInt32 (C.2 (ix a3 + 10) i)) → (∀ i, i < X → C.1 137 i = N.1 164 i) → ∀ F1 F2, n < F1 → n < F2 → ∃ r C' N', fc_lifts_L117 a3 a4 F1 (nI X) s (nI k) C = some (r, C') ∧ fm_lifts_L206 a4 F2 s (nI X) (nI k) N = some (r, N') ∧ BG 0 C N C' N' := by
  have hi := t_ix h3
  have tm := t_nI (show m < 2147483648 by omega)
  subst hm
  intro n
  induction n with
  | zero =>
    intro k X hk hX C N s e1 e2 e3 e4 F1 F2 h1 h2
    obtain ⟨F1, rfl⟩ : ∃ m, F1 = m + 1 := ⟨F1 - 1, by omega⟩
    obtain ⟨F2, rfl⟩ : ∃ m, F2 = m + 1 := ⟨F2 - 1, by omega⟩
    have tk := t_nI (show k < 2147483648 by omega)
    refine ⟨s, C, N, ?_, ?_, fun _ _ => rfl, rfl, fun _ _ => rfl, rfl, fun i hi => by omega⟩
    · rw [fc_lifts_L117, if_pos (by rw [t_le]; omega)]
    · rw [fm_lifts_L206, if_pos (by rw [t_le]; omega)]
  | succ n ih =>
    intro k X hk hX C N s e1 e2 e3 e4 F1 F2 h1 h2
    obtain ⟨F1, rfl⟩ : ∃ m, F1 = m + 1 := ⟨F1 - 1, by omega⟩
    obtain ⟨F2, rfl⟩ : ∃ m, F2 = m + 1 := ⟨F2 - 1, by omega⟩
    have tk := t_nI (show k < 2147483648 by omega)
    have xk := ix_nI (show k < 2147483648 by omega)
    have c0 : ¬ nI m ≤ nI k := by rw [t_le]; omega
    have sa : fShelf_at C (ix a3) (nI k) = some (C.2 (ix a3 + 10) k) := by
      unfold fShelf_at
      rw [if_neg (by rw [below_0]; omega), gd_t (b_in (by omega) (by omega)), xk]
    obtain ⟨low, w', C1, N1, a1, a2, b1, b2, b3, b4, b5, b6, b7, b8⟩ := takeB_L (v := Int64.toInt32 (C.2 (ix a3 + 10) k)) hX (show k < 20 by omega) (b4 := nI m) (kx := fun w33 w34 M35 => (fm_lifts_L206 (nI m) F2 w33 w34 (nI k + 1) M35)) (e3 k (by omega)) e4 X 0 (by omega) s FU FU FU (by rw [FU_eq]; omega) (by rw [FU_eq]; omega) (by rw [FU_eq]; omega)
    have tw := t_nI (show w' < 2147483648 by omega)
    have tl := t_nI (show low < 2147483648 by omega)
    have hd : nI w' - nI low = nI (w' - low) := by
      rw [t_eq, t_sub (by omega) (by omega), tw, tl, t_nI (by omega)]
      omega
    obtain ⟨r, C', N', r1, r2, r3, r4, r5, r6, -⟩ := ih (k + 1) w' (by omega) (by omega) C1 N1 (s + nI (w' - low)) (by rw [b4 _ (by omega)]; exact e1) (by rw [b4 _ (by omega)]; exact e2) (fun i hi => by rw [b6 160 (by omega), b5]; exact e3 i hi) (fun i hi => b8 i (by omega)) F1 F2 (by omega) (by omega)
    refine ⟨r, C', N', ?_, ?_, fun q hq => (r3 q hq).trans (b4 q hq), r4.trans b5, fun q hq => (r5 q hq).trans (b6 q hq), r6.trans b7, fun i hi => by omega⟩
    · rw [fc_lifts_L117, if_neg c0, gd_t (b_in h3 h4), sa, Option.bind_some, ilet_e]
      unfold fc_lowestLetter fc_takeLetters
      rw [show (0 : Int32) = nI 0 from rfl, b1, Option.bind_some, b2, Option.bind_some, ilet_e, nI_1]
      dsimp only
      rw [hd]
      exact r1
    · rw [fm_lifts_L206, if_neg c0]
      refine b3.trans ?_
      rw [nI_1]
      exact r2
noncomputable def kA (a2 a3 a4 : Int32) : Mem → Option (Int32 × Mem) := fun M25 => (Option.bind (fm_take M25 a3 a4) (fun u27 => (if 0 ≤ u27.1 then (fm_lifts_L206 a4 FU 0 a2 0 u27.2) else (fm_no u27.2 u27.1))))
def kB : Mem → Option (Int32 × Mem) := fun M38 => fm_no M38 (-2)
noncomputable def kC (a2 a3 a4 : Int32) : Mem → Option (Int32 × Mem) := fun M12 => fc_lifts_L117 a3 a4 FU a2 0 0 M12
theorem lift_main {c : Nat} {C N : Mem} (h : Rel c C N) {a1 a2 a3 a4 : Int32} (hb : ¬ (a1.toInt < 0 ∨ 8 ≤ a1.toInt ∨ a3.toInt < 0 ∨ 8 ≤ a3.toInt ∨ a2.toInt < 0 ∨ 40 < a2.toInt ∨ a4.toInt < 0 ∨ 20 < a4.toInt)) (x7 : C.1 (ix a1 + 2) 1 = N.1 140 (ix a1)) (x8 : bd (N.1 140 (ix a1)) 0 40) (x9 : ∀ i, i < 40 → C.2 (ix a1 + 10) i = N.2 141 (40 * ix a1 + i)) (y3 : fm_holdsJetty N a3 = some 0) (n2 : (0 : Int32) ≤ N.1 139 (ix a3)) (y7 : C.1 (ix a3 + 2) 1 = N.1 140 (ix a3)) (y8 : bd (N.1 140 (ix a3)) 0 40) (y9 : ∀ i, i < 40 → C.2 (ix a3 + 10) i = N.2 141 (40 * ix a3 + i)) : Sim c (Option.bind (fc_tellsJetties C a1 a2) (fun r4 => if r4 = 0 then fc_refuse C (-2) else Option.bind (fc_tellsJetties C a3 a4) (fun r7 => if r7 = 0 then fc_refuse C (-2) else fc_lifts_L77 a1 a2 a3 a4 (kC a2 a3 a4) FU 0 C))) (if a2 ≤ N.1 140 (ix a1) then fm_lifts_L113 a1 a2 a3 a4 (kA a2 a3 a4) kB FU 0 N else fm_no N (-2)) := by
  have hj := nsc h
  have e0 := h.1.1.1.1
  have in1 : inb a1 8 := b_in (by omega) (by omega)
  have in3 : inb a3 8 := b_in (by omega) (by omega)
  have i1 := t_ix (a := a1) (by omega)
  have i2 := t_ix (a := a2) (by omega)
  have i3 := t_ix (a := a3) (by omega)
  have i4 := t_ix (a := a4) (by omega)
  have tc1 : fc_tellsJetties C a1 a2 = if a2 ≤ N.1 140 (ix a1) then fc_tellsJetties_L20 C a2 (ix a1) FU 0 else some 0 := by
    unfold fc_tellsJetties
    rw [gd_t in1, x7]
  have tc3 : fc_tellsJetties C a3 a4 = if a4 ≤ N.1 140 (ix a3) then fc_tellsJetties_L20 C a4 (ix a3) FU 0 else some 0 := by
    unfold fc_tellsJetties
    rw [gd_t in3, y7]
  rw [tc1, tc3]
  by_cases hz : a2 ≤ N.1 140 (ix a1)
  rotate_left
  · rw [if_neg hz, if_neg hz, Option.bind_some, if_pos rfl]
    exact sim_2 h rfl rfl
  rw [if_pos hz, if_pos hz]
  rw [t_le] at hz
  have bm := bagm_L (m := ix a2) (by omega) (by omega) i2.symm (by omega) (a1 := a1) (a3 := a3) (a4 := a4) (kx := kA a2 a3 a4) (ky := kB) (ix a2) 0 (by omega) N FU (by rw [FU_eq]; omega)
  rw [show nI 0 = 0 from rfl] at bm
  have tl1 := tells_L (C := C) (m := ix a2) (by omega) (by omega) i2.symm (by omega) (a1 := a1) (ix a2) 0 (by omega) N x7 x8 x9 (by omega) e0 FU (by rw [FU_eq]; omega)
  rw [show nI 0 = 0 from rfl] at tl1
  rcases tl1 with ⟨p1, p2⟩ | ⟨p1, p2⟩
  · obtain ⟨N', r1, r2, r3⟩ := bm.2 p2
    rw [p1, r1, Option.bind_some, if_pos rfl]
    exact sim_2 (C := C) (N := N') (Rel_same0 h same_r rfl rfl (same_of r2 r3 (by omega))) rfl rfl
  obtain ⟨N', r1, r2, r3, -, r5⟩ := bm.1 p2
  have hR : Rel c C N' := Rel_same0 h same_r rfl rfl (same_of r2 r3 (by omega))
  rw [p1, r1, Option.bind_some, if_neg (show ¬ (1 : Int32) = 0 by decide)]
  have nr : fm_noRow N' a3 = some 0 := by
    unfold fm_noRow
    rw [if_neg (by rw [mshelf_0]; omega)]
    unfold fm_holdsJetty at y3 ⊢
    rw [gd_t in3, gd_t in3, r2 139 (by omega)]
    rw [gd_t in3, gd_t in3] at y3
    rw [y3, Option.bind_some, if_pos rfl, gd_t in3, if_pos n2]
  have tk : fm_take N' a3 a4 = if a4 ≤ N.1 140 (ix a3) then fm_take_L28 a3 a4 FU 0 N' else some (-2, N') := by
    unfold fm_take
    rw [nr, Option.bind_some, if_pos (show (0 : Int32) ≤ 0 by decide), gd_t in3, r2 140 (by omega)]
  have kAe : ∀ r M, fm_take N' a3 a4 = some (r, M) → kA a2 a3 a4 N' = if 0 ≤ r then (fm_lifts_L206 a4 FU 0 a2 0 M) else (fm_no M r) := fun r M hr => by
    unfold kA
    rw [hr, Option.bind_some]
  by_cases hz2 : a4 ≤ N.1 140 (ix a3)
  rotate_left
  · rw [if_neg hz2] at tk ⊢
    rw [kAe _ _ tk, Option.bind_some, if_pos rfl, if_neg (by decide)]
    exact sim_2 hR rfl rfl
  rw [if_pos hz2] at tk ⊢
  rw [t_le] at hz2
  have tl := take_L (a1 := a3) (m := ix a4) (by omega) (by omega) i4.symm (by omega) (ix a4) 0 (by omega) N' FU (by rw [FU_eq]; omega)
  rw [show nI 0 = 0 from rfl] at tl
  have tl3 := tells_L (C := C) (m := ix a4) (by omega) (by omega) i4.symm (by omega) (a1 := a3) (ix a4) 0 (by omega) N' (by rw [r2 140 (by omega)]; exact y7) (by rw [r2 140 (by omega)]; exact y8) (by rw [r3]; exact y9) (by rw [r2 140 (by omega)]; omega) (by rw [r2 156 (by omega)]; exact e0) FU (by rw [FU_eq]; omega)
  rw [show nI 0 = 0 from rfl] at tl3
  rcases tl3 with ⟨p3, p4⟩ | ⟨p3, p4⟩
  · obtain ⟨N2, v1, v2, v3⟩ := tl.2 p4
    rw [p3, kAe _ _ (tk.trans v1), Option.bind_some, if_pos rfl, if_neg (by decide)]
    exact sim_2 (C := C) (N := N2) (Rel_same0 hR same_r rfl rfl (same_of v2 v3 (by omega))) rfl rfl
  obtain ⟨N2, v1, v2, v3, -, v5⟩ := tl.1 p4
  have hR2 : Rel c C N2 := Rel_same0 hR same_r rfl rfl (same_of v2 v3 (by omega))
  rw [p3, kAe _ _ (tk.trans v1), Option.bind_some, if_neg (show ¬ (1 : Int32) = 0 by decide), if_pos (show (0 : Int32) ≤ 0 by decide)]
  obtain ⟨C1, w1, w2, w3, -, w5⟩ := bagc_L (a1 := a1) (a2 := a2) (m := ix a2) (by omega) (by omega) i2.symm (by omega) (a3 := a3) (a4 := a4) (kx := kC a2 a3 a4) x8 (by omega) (ix a2) 0 (by omega) C x7 x9 FU (by rw [FU_eq]; omega)
  have o2 := of_ix (a := a2) (by omega)
  have o4 := of_ix (a := a4) (by omega)
  obtain ⟨r, C', N3, z1, z2, z3, z4, z5, z6, -⟩ := lift_L (a3 := a3) (a4 := a4) (m := ix a4) (by omega) (by omega) o4 (by omega) (ix a4) 0 (ix a2) (by omega) (by omega) C1 N2 0 (by rw [w2 _ (by omega), y7]; omega) (by rw [w2 _ (by omega), y7]; have := y8.2; omega) (fun i hi => by rw [v5 i (by omega) hi, w3, y9 i (by omega), r3]) (fun i hi => by rw [w5 i (by omega) hi, v2 164 (by omega), r5 i (by omega) hi]) FU FU (by rw [FU_eq]; omega) (by rw [FU_eq]; omega)
  rw [← o2, show nI 0 = 0 from rfl] at z1 z2
  rw [show nI 0 = 0 from rfl] at w1
  rw [w1, z2]
  refine ⟨r, C', N3, ?_, rfl, Rel_same (C := C) (N := N2) hR2 (same_t (same_of w2 w3 (by omega)) (same_of z3 z4 (by omega))) ((z3 128 (by omega)).trans (w2 128 (by omega))) ((z3 134 (by omega)).trans (w2 134 (by omega))) (same_of z5 z6 (by omega))⟩
  unfold kC
  exact z1
theorem lifts_bad {c : Nat} {C N : Mem} (h : Rel c C N) {a1 a2 a3 a4 : Int32} (hb : a1.toInt < 0 ∨ 8 ≤ a1.toInt ∨ a3.toInt < 0 ∨ 8 ≤ a3.toInt ∨ a2.toInt < 0 ∨ 40 < a2.toInt ∨ a4.toInt < 0 ∨ 20 < a4.toInt) : Sim c (fc_lifts C a1 a2 a3 a4) (fm_lifts N a1 a2 a3 a4) := by
  have hj := nsc h
  refine sim_2 h ?_ ?_
  · unfold fc_lifts
    by_cases q1 : fc_isWithinT C a2 0 40 = 0
    · rw [if_pos q1, bind_eta]
    rw [if_neg q1]
    by_cases q2 : fc_isWithinT C a4 0 20 = 0
    · rw [if_pos q2, bind_eta]
    rw [if_neg q2]
    rw [within_0] at q1 q2
    simp only [Int32.reduceToInt] at q1 q2
    unfold fc_rowTrouble
    have m2 : ¬ (-2 : Int32) = 0 := by decide
    by_cases q3 : fc_isShelfT C a1 = 0
    · rw [if_pos q3, Option.bind_some, if_neg m2, bind_eta]
    by_cases q4 : fc_isShelfT C a3 = 0
    · rw [if_neg q3, if_pos q4, Option.bind_some, if_neg m2, bind_eta]
    rw [shelf_0] at q3 q4
    omega
  · unfold fm_lifts
    simp only [bind_eta]
    by_cases q1 : fm_isShelfT N a1 = 0
    · rw [if_pos q1]
    rw [if_neg q1]
    by_cases q2 : fm_isShelfT N a3 = 0
    · rw [if_pos q2]
    rw [if_neg q2]
    rw [mshelf_0] at q1 q2
    by_cases q3 : a2 < 0
    · rw [if_pos q3]
    rw [if_neg q3]
    by_cases q4 : (40 : Int32) < a2
    · rw [if_pos q4]
    rw [if_neg q4]
    by_cases q5 : a4 < 0
    · rw [if_pos q5]
    rw [if_neg q5]
    by_cases q6 : a4 ≤ (20 : Int32)
    · rw [t_lt] at q3 q4 q5
      rw [t_le] at q6
      simp only [Int32.reduceToInt] at q3 q4 q5 q6
      omega
    · rw [if_neg q6]
theorem lifts_good {c : Nat} {C N : Mem} (h : Rel c C N) {a1 a2 a3 a4 : Int32} (hb : ¬ (a1.toInt < 0 ∨ 8 ≤ a1.toInt ∨ a3.toInt < 0 ∨ 8 ≤ a3.toInt ∨ a2.toInt < 0 ∨ 40 < a2.toInt ∨ a4.toInt < 0 ∨ 20 < a4.toInt)) : Sim c (fc_lifts C a1 a2 a3 a4) (fm_lifts N a1 a2 a3 a4) := by
  have hj := nsc h
  have in1 : inb a1 8 := b_in (by omega) (by omega)
  have in3 : inb a3 8 := b_in (by omega) (by omega)
  have i1 := t_ix (a := a1) (by omega)
  have i2 := t_ix (a := a2) (by omega)
  have i3 := t_ix (a := a3) (by omega)
  have i4 := t_ix (a := a4) (by omega)
  have s1 : ¬ fc_isShelfT C a1 = 0 := by rw [shelf_0]; omega
  have s2 : ¬ fc_isShelfT C a3 = 0 := by rw [shelf_0]; omega
  have s3 : ¬ fm_isShelfT N a1 = 0 := by rw [mshelf_0]; omega
  have s4 : ¬ fm_isShelfT N a3 = 0 := by rw [mshelf_0]; omega
  have s5 : ¬ fc_isWithinT C a2 0 40 = 0 := by rw [within_0]; simp only [Int32.reduceToInt]; omega
  have s6 : ¬ fc_isWithinT C a4 0 20 = 0 := by rw [within_0]; simp only [Int32.reduceToInt]; omega
  have s7 : ¬ a2 < 0 := by rw [t_lt]; simp only [Int32.reduceToInt]; omega
  have s8 : ¬ (40 : Int32) < a2 := by rw [t_lt]; simp only [Int32.reduceToInt]; omega
  have s9 : ¬ a4 < 0 := by rw [t_lt]; simp only [Int32.reduceToInt]; omega
  have s10 : a4 ≤ (20 : Int32) := by rw [t_le]; simp only [Int32.reduceToInt]; omega
  have m3 : ¬ (-3 : Int32) = 0 := by decide
  have m4 : ¬ (1 : Int32) = 0 := by decide
  have m5 : ¬ (-4 : Int32) = 0 := by decide
  have m1 : (-1 : Int32) < 0 := by decide
  have m6 : ¬ (0 : Int32) ≤ -1 := by decide
  have cl : ∀ R : Int32, fc_rowTrouble C a1 a3 = some R → ¬ R = 0 → fc_lifts C a1 a2 a3 a4 = fc_refuse C R := fun R hR h0 => by
    unfold fc_lifts
    rw [if_neg s5, if_neg s6, hR, Option.bind_some, if_neg h0, bind_eta]
  rcases shf h.2.1 hj.1 (a := a1) (by omega) (by omega) with ⟨x1, x2, -⟩ | ⟨x1, x2, x3, x4, x5⟩ | ⟨x1, x2, x3, x4, t, ht, x5, x6, x7, x8, x9⟩
  · refine sim_3 h (cl (-3) ?_ m3) ?_
    · unfold fc_rowTrouble
      rw [if_neg s1, if_neg s2, gd_t in1, if_neg x1]
    · unfold fm_lifts
      rw [if_neg s3, if_neg s4, if_neg s7, if_neg s8, if_neg s9, if_pos s10, x2, Option.bind_some, if_neg m4, bind_eta]
  · rcases shf h.2.1 hj.1 (a := a3) (by omega) (by omega) with ⟨y1, y2, -⟩ | ⟨y1, y2, y3, y4, y5⟩ | ⟨y1, y2, y3, y4, t', ht', y5, y6, y7, y8, y9⟩
    · refine sim_3 h (cl (-3) ?_ m3) ?_
      · unfold fc_rowTrouble
        rw [if_neg s1, if_neg s2, gd_t in1, if_pos x1, gd_t in3, if_neg y1]
      · unfold fm_lifts
        rw [if_neg s3, if_neg s4, if_neg s7, if_neg s8, if_neg s9, if_pos s10, x3, Option.bind_some, if_pos rfl, y2, Option.bind_some, if_neg m4, bind_eta]
    · refine sim_4 h (cl (-4) ?_ m5) ?_
      · unfold fc_rowTrouble
        rw [if_neg s1, if_neg s2, gd_t in1, if_pos x1, gd_t in3, if_pos y1, gd_t in1, if_neg x2]
      · unfold fm_lifts
        rw [if_neg s3, if_neg s4, if_neg s7, if_neg s8, if_neg s9, if_pos s10, x3, Option.bind_some, if_pos rfl, y3, Option.bind_some, if_pos rfl, gd_t in1, x4, if_pos m1, bind_eta]
    · refine sim_4 h (cl (-4) ?_ m5) ?_
      · unfold fc_rowTrouble
        rw [if_neg s1, if_neg s2, gd_t in1, if_pos x1, gd_t in3, if_pos y1, gd_t in1, if_neg x2]
      · unfold fm_lifts
        rw [if_neg s3, if_neg s4, if_neg s7, if_neg s8, if_neg s9, if_pos s10, x3, Option.bind_some, if_pos rfl, y3, Option.bind_some, if_pos rfl, gd_t in1, x4, if_pos m1, bind_eta]
  · have tt := t_nI (show 100 + t < 2147483648 by omega)
    have n1 : ¬ N.1 139 (ix a1) < 0 := by rw [x5, t_lt, tt]; simp only [Int32.reduceToInt]; omega
    rcases shf h.2.1 hj.1 (a := a3) (by omega) (by omega) with ⟨y1, y2, -⟩ | ⟨y1, y2, y3, y4, y5⟩ | ⟨y1, y2, y3, y4, t', ht', y5, y6, y7, y8, y9⟩
    · refine sim_3 h (cl (-3) ?_ m3) ?_
      · unfold fc_rowTrouble
        rw [if_neg s1, if_neg s2, gd_t in1, if_pos x1, gd_t in3, if_neg y1]
      · unfold fm_lifts
        rw [if_neg s3, if_neg s4, if_neg s7, if_neg s8, if_neg s9, if_pos s10, x3, Option.bind_some, if_pos rfl, y2, Option.bind_some, if_neg m4, bind_eta]
    · refine sim_4 h (cl (-4) ?_ m5) ?_
      · unfold fc_rowTrouble
        rw [if_neg s1, if_neg s2, gd_t in1, if_pos x1, gd_t in3, if_pos y1, gd_t in1, if_pos x2, gd_t in3, if_neg y2]
      · unfold fm_lifts
        rw [if_neg s3, if_neg s4, if_neg s7, if_neg s8, if_neg s9, if_pos s10, x3, Option.bind_some, if_pos rfl, y3, Option.bind_some, if_pos rfl, gd_t in1, if_neg n1, gd_t in3, y4, if_neg m6, bind_eta]
    · have tt' := t_nI (show 100 + t' < 2147483648 by omega)
      have n2 : (0 : Int32) ≤ N.1 139 (ix a3) := by rw [y5, t_le, tt']; simp only [Int32.reduceToInt]; omega
      have hcl : fc_lifts C a1 a2 a3 a4 = Option.bind (fc_tellsJetties C a1 a2) (fun r4 => if r4 = 0 then fc_refuse C (-2) else Option.bind (fc_tellsJetties C a3 a4) (fun r7 => if r7 = 0 then fc_refuse C (-2) else fc_lifts_L77 a1 a2 a3 a4 (kC a2 a3 a4) FU 0 C)) := by
        have hR : fc_rowTrouble C a1 a3 = some 0 := by
          unfold fc_rowTrouble
          rw [if_neg s1, if_neg s2, gd_t in1, if_pos x1, gd_t in3, if_pos y1, gd_t in1, if_pos x2, gd_t in3, if_pos y2]
        unfold fc_lifts
        rw [if_neg s5, if_neg s6, hR, Option.bind_some, if_pos rfl]
        simp only [bind_eta]
        rfl
      have hml : fm_lifts N a1 a2 a3 a4 = if a2 ≤ N.1 140 (ix a1) then fm_lifts_L113 a1 a2 a3 a4 (kA a2 a3 a4) kB FU 0 N else fm_no N (-2) := by
        unfold fm_lifts
        rw [if_neg s3, if_neg s4, if_neg s7, if_neg s8, if_neg s9, if_pos s10, x3, Option.bind_some, if_pos rfl, y3, Option.bind_some, if_pos rfl, gd_t in1, if_neg n1, gd_t in3, if_pos n2, gd_t in1]
        simp only [bind_eta]
        rfl
      rw [hcl, hml]
      exact lift_main h hb x7 x8 x9 y3 n2 y7 y8 y9
theorem op_lifts {c : Nat} {C N : Mem} (h : Rel c C N) (a1 a2 a3 a4 : Int32) : Sim c (fc_lifts C a1 a2 a3 a4) (fm_lifts N a1 a2 a3 a4) := by
  by_cases hb : a1.toInt < 0 ∨ 8 ≤ a1.toInt ∨ a3.toInt < 0 ∨ 8 ≤ a3.toInt ∨ a2.toInt < 0 ∨ 40 < a2.toInt ∨ a4.toInt < 0 ∨ 20 < a4.toInt
  · exact lifts_bad h hb
  · exact lifts_good h hb
