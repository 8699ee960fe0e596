-- the numbers of leaps
def pcs (k l : Int32) : Int32 := if k = 1 then 2 * l else if k = 2 then 2 * l + 4 else if k = 4 then l + 2 else if k = 5 then 1 else l
def rsx (k h v : Int32) : Int32 := if k = 1 then h - v - 10 else if k = 2 then (if 0 < h - v - 10 then h - v - 10 else 0) else if k = 3 then h else if k = 4 then h / 2 else h - v
def absx (d : Int32) : Int32 := if 0 ≤ d then d else 0 - d
def dkx (N : Mem) : Int32 := 20 - N.1 156 6 / 4
/-- a jetty's number, as both tell it -/
def JX (C N : Mem) (a : Int32) : Prop := 0 ≤ a.toInt ∧ a.toInt < (N.1 156 0).toInt
theorem kinds {x : Int32} (h : bd x 0 5) : x = 0 ∨ x = 1 ∨ x = 2 ∨ x = 3 ∨ x = 4 ∨ x = 5 := by
  obtain ⟨h1, h2⟩ := h
  rcases (show x.toInt = 0 ∨ x.toInt = 1 ∨ x.toInt = 2 ∨ x.toInt = 3 ∨ x.toInt = 4 ∨ x.toInt = 5 by omega) with q | q | q | q | q | q
  · exact Or.inl (t_eq.mpr q)
  · exact Or.inr (Or.inl (t_eq.mpr q))
  · exact Or.inr (Or.inr (Or.inl (t_eq.mpr q)))
  · exact Or.inr (Or.inr (Or.inr (Or.inl (t_eq.mpr q))))
  · exact Or.inr (Or.inr (Or.inr (Or.inr (Or.inl (t_eq.mpr q)))))
  · exact Or.inr (Or.inr (Or.inr (Or.inr (Or.inr (t_eq.mpr q)))))
theorem absx_t {d : Int32} (h : -2147483648 < d.toInt) : (absx d).toInt = if 0 ≤ d.toInt then d.toInt else -d.toInt := by
  have h3 := Int32.toInt_lt d
  unfold absx
  by_cases q : 0 ≤ d
  · rw [if_pos q, if_pos]
    rw [t_le] at q
    exact q
  · have q2 : ¬ 0 ≤ d.toInt := fun z => q (by rw [t_le]; exact z)
    rw [if_neg q, if_neg q2, t_sub] <;> simp only [Int32.reduceToInt] <;> omega
theorem pcs_c {C N : Mem} (hJ : NJ C N) {n : Nat} (h : (n : Int) < (N.1 156 0).toInt) : fJetty_pacesT C n = pcs (N.1 142 n) (N.1 144 n) := by
  obtain ⟨⟨k0, -⟩, -, ⟨k2, -⟩, -⟩ := hJ n h
  unfold fJetty_pacesT pcs
  rw [k0, k2]
theorem pcs_m {C N : Mem} (hJ : NJ C N) (u0 : (N.1 156 0).toInt ≤ 20) {a : Int32} (h1 : 0 ≤ a.toInt) (h2 : a.toInt < (N.1 156 0).toInt) : fm_paces N a = some (pcs (N.1 142 (ix a)) (N.1 144 (ix a))) := by
  have hi := t_ix h1
  have hin : inb a 20 := b_in h1 (by omega)
  obtain ⟨⟨-, k0⟩, -⟩ := hJ (ix a) (by omega)
  unfold fm_paces pcs
  simp only [gd_t hin, ilet_e]
  rcases kinds k0 with q | q | q | q | q | q <;> simp [q]
theorem pcs_b {k l : Int32} (hl : bd l 1 30) : bd (pcs k l) 1 64 := by
  obtain ⟨h1, h2⟩ := hl
  have t1 : ((2 : Int32) * l).toInt = 2 * l.toInt := by rw [t_mul] <;> simp only [Int32.reduceToInt] <;> omega
  have t2 : ((2 : Int32) * l + 4).toInt = 2 * l.toInt + 4 := by rw [t_add] <;> rw [t1] <;> simp only [Int32.reduceToInt] <;> omega
  have t3 : (l + 2).toInt = l.toInt + 2 := by rw [t_add] <;> simp only [Int32.reduceToInt] <;> omega
  unfold pcs bd
  split
  · omega
  · split
    · omega
    · split
      · omega
      · split
        · simp only [Int32.reduceToInt]; omega
        · omega
theorem rsx_c {C N : Mem} (hJ : NJ C N) {n : Nat} (h : (n : Int) < (N.1 156 0).toInt) (v : Int32) : fJetty_riseAtT C n v = rsx (N.1 142 n) (N.1 145 n) v := by
  obtain ⟨⟨k0, -⟩, -, -, ⟨k3, -⟩, -⟩ := hJ n h
  unfold fJetty_riseAtT rsx
  rw [k0, k3]
theorem rsx_m {C N : Mem} (hJ : NJ C N) (u0 : (N.1 156 0).toInt ≤ 20) {a : Int32} (h1 : 0 ≤ a.toInt) (h2 : a.toInt < (N.1 156 0).toInt) (v : Int32) : fm_riseAt N a v = some (rsx (N.1 142 (ix a)) (N.1 145 (ix a)) v) := by
  have hi := t_ix h1
  have hin : inb a 20 := b_in h1 (by omega)
  obtain ⟨⟨-, k0⟩, -⟩ := hJ (ix a) (by omega)
  unfold fm_riseAt rsx
  simp only [gd_t hin, ilet_e]
  rcases kinds k0 with q | q | q | q | q | q <;> simp [q]
  by_cases z : 0 ≤ N.1 145 (ix a) - v - 10
  · rw [if_pos z]
    by_cases z2 : 0 < N.1 145 (ix a) - v - 10
    · rw [if_pos z2]
    · rw [if_neg z2]
      congr 1
      rw [t_eq]
      rw [t_le] at z
      rw [t_lt] at z2
      simp only [Int32.reduceToInt] at z z2 ⊢
      omega
  · rw [if_neg z, if_neg]
    rw [t_le] at z
    rw [t_lt]
    simp only [Int32.reduceToInt] at z ⊢
    omega
theorem rsx_b {k h v : Int32} (hh : bd h 0 99) (hv : bd v (-1000) 1000) : bd (rsx k h v) (-1100) 1100 := by
  obtain ⟨h1, h2⟩ := hh
  obtain ⟨v1, v2⟩ := hv
  have t1 : (h - v).toInt = h.toInt - v.toInt := by rw [t_sub] <;> omega
  have t2 : (h - v - 10).toInt = h.toInt - v.toInt - 10 := by rw [t_sub] <;> rw [t1] <;> simp only [Int32.reduceToInt] <;> omega
  have t3 : (h / 2).toInt = h.toInt / 2 := by rw [t_div] <;> (try simp only [Int32.reduceToInt]) <;> omega
  unfold rsx bd
  split
  · omega
  · split
    · split
      · omega
      · simp only [Int32.reduceToInt]; omega
    · split
      · omega
      · split
        · omega
        · omega
theorem dkx_c {C N : Mem} (e6 : C.1 20 13 = N.1 156 6) : fLake_deckT C = dkx N := by unfold fLake_deckT dkx; rw [e6]
theorem dkx_m (N : Mem) : fm_deckT N = dkx N := rfl
theorem dkx_b {N : Mem} (h : bd (N.1 156 6) 0 60) : bd (dkx N) 5 20 := by
  obtain ⟨h1, h2⟩ := h
  have t3 : (N.1 156 6 / 4).toInt = (N.1 156 6).toInt / 4 := by rw [t_div] <;> (try simp only [Int32.reduceToInt]) <;> omega
  unfold dkx bd
  rw [t_sub] <;> rw [t3] <;> simp only [Int32.reduceToInt] <;> omega
/-- out or not, at a level -/
def outx (N : Mem) (n : Nat) (v : Int32) : Int32 := if absx (rsx (N.1 142 n) (N.1 145 n) v - dkx N) ≤ 60 then 0 else 1
theorem outx_c {C N : Mem} (hJ : NJ C N) (e6 : C.1 20 13 = N.1 156 6) {n : Nat} (h : (n : Int) < (N.1 156 0).toInt) (v : Int32) : fLake_isOutT C n v = outx N n v := by
  unfold fLake_isOutT outx absx
  rw [rsx_c hJ h, dkx_c e6]
theorem outx_m {C N : Mem} (hJ : NJ C N) (u0 : (N.1 156 0).toInt ≤ 20) (b6 : bd (N.1 156 6) 0 60) {a : Int32} (h1 : 0 ≤ a.toInt) (h2 : a.toInt < (N.1 156 0).toInt) {v : Int32} (hv : bd v (-1000) 1000) : fm_isOut N a v = some (outx N (ix a) v) := by
  have hi := t_ix h1
  obtain ⟨-, -, -, ⟨-, k3⟩, -⟩ := hJ (ix a) (by omega)
  unfold fm_isOut outx
  rw [rsx_m hJ u0 h1 h2, dkx_m]
  simp only [Option.bind_some, ilet_e]
  obtain ⟨r1, r2⟩ := rsx_b (k := N.1 142 (ix a)) k3 hv
  obtain ⟨d1, d2⟩ := dkx_b b6
  obtain ⟨d, hd⟩ : ∃ d, d = rsx (N.1 142 (ix a)) (N.1 145 (ix a)) v - dkx N := ⟨_, rfl⟩
  have td : d.toInt = (rsx (N.1 142 (ix a)) (N.1 145 (ix a)) v).toInt - (dkx N).toInt := by rw [hd, t_sub] <;> omega
  rw [← hd]
  have ta := absx_t (d := d) (by omega)
  by_cases q : absx d ≤ 60
  · rw [if_pos q]
    rw [t_le, ta] at q
    simp only [Int32.reduceToInt] at q
    split at q
    · rw [if_neg (by rw [t_lt]; simp only [Int32.reduceToInt]; omega), if_pos (by rw [t_le]; simp only [Int32.reduceToInt]; omega)]
    · rw [if_neg (by rw [t_lt]; simp only [Int32.reduceToInt]; omega), if_pos (by rw [t_le]; simp only [Int32.reduceToInt]; omega)]
  · rw [if_neg q]
    rw [t_le, ta] at q
    simp only [Int32.reduceToInt] at q
    split at q
    · rw [if_pos (by rw [t_lt]; simp only [Int32.reduceToInt]; omega)]
    · rw [if_neg (by rw [t_lt]; simp only [Int32.reduceToInt]; omega), if_neg (by rw [t_le]; simp only [Int32.reduceToInt]; omega)]
-- the law in force
def lwv (N : Mem) (i : Nat) : Int32 := if N.1 156 4 < 0 then sv0.getD i 0 else N.1 148 (9 * ix (N.1 156 4) + i)
theorem lwv_c {C N : Mem} (hL : NL C N) (hF : NF C) (e1 : C.1 20 3 = N.1 156 1) (u1 : (N.1 156 1).toInt ≤ 6) (e4 : C.1 20 4 = N.1 156 4) (b4 : -1 ≤ (N.1 156 4).toInt ∧ (N.1 156 4).toInt < (N.1 156 1).toInt) {i : Nat} (h : i < 9) : fLake_lawValue C (nI i) = some (lwv N i) := by
  have ti := t_nI (show i < 2147483648 by omega)
  have hin : inb (nI i) 9 := b_in (by omega) (by omega)
  unfold fLake_lawValue lwv
  rw [jlet_e, jlet_e, e1, e4]
  by_cases q : N.1 156 4 < 0
  · rw [if_pos q, if_pos q]
    show (if (0 : Int32) = 0 then _ else _) = _
    have _z := hF i h
    rw [if_pos rfl, gd_t hin, ix_nI (by omega)]
  · rw [if_neg q, if_neg q]
    rw [t_lt] at q
    simp only [Int32.reduceToInt] at q
    have hx := t_ix (a := N.1 156 4) (by omega)
    rw [if_neg (show ¬ N.1 156 1 ≤ N.1 156 4 by rw [t_le]; omega)]
    show (if (1 : Int32) = 0 then _ else _) = _
    rw [if_neg (show ¬ (1 : Int32) = 0 by decide), gd_t (b_in (by omega) (by omega)), gd_t hin, ix_nI (by omega), (hL _ (by omega)).1 i h]
theorem first_v : ∀ i, i < 9 → ∀ N : Mem, fm_firstT N (nI i) = sv0.getD i 0 := by
  intro i hi N
  rcases (show i = 0 ∨ i = 1 ∨ i = 2 ∨ i = 3 ∨ i = 4 ∨ i = 5 ∨ i = 6 ∨ i = 7 ∨ i = 8 by omega) with rfl | rfl | rfl | rfl | rfl | rfl | rfl | rfl | rfl <;> rfl
theorem lwv_m {N : Mem} (u1 : (N.1 156 1).toInt ≤ 6) (b4 : -1 ≤ (N.1 156 4).toInt ∧ (N.1 156 4).toInt < (N.1 156 1).toInt) {i : Nat} (h : i < 9) : fm_says1 N (nI i) = some (lwv N i) := by
  have ti := t_nI (show i < 2147483648 by omega)
  unfold fm_says1 lwv
  rw [ix_4]
  by_cases q : N.1 156 4 < 0
  · rw [if_pos q, if_pos q, first_v i h]
  · rw [if_neg q, if_neg q]
    rw [t_lt] at q
    simp only [Int32.reduceToInt] at q
    have hx := t_ix (a := N.1 156 4) (by omega)
    have t1 : ((9 : Int32) * N.1 156 4).toInt = 9 * (N.1 156 4).toInt := by rw [t_mul] <;> simp only [Int32.reduceToInt] <;> omega
    have t2 : ((9 : Int32) * N.1 156 4 + nI i).toInt = 9 * (N.1 156 4).toInt + i := by rw [t_add] <;> rw [t1, ti] <;> omega
    have t3 := t_ix (a := (9 : Int32) * N.1 156 4 + nI i) (by omega)
    rw [gd_t (b_in (by omega) (by omega)), show ix ((9 : Int32) * N.1 156 4 + nI i) = 9 * ix (N.1 156 4) + i by omega]
theorem lwv_b {C N : Mem} (hL : NL C N) (b4 : -1 ≤ (N.1 156 4).toInt ∧ (N.1 156 4).toInt < (N.1 156 1).toInt) : lawok (lwv N) := by
  unfold lwv
  by_cases q : N.1 156 4 < 0
  · simp only [if_pos q]
    exact ⟨⟨by decide, by decide⟩, ⟨by decide, by decide⟩, ⟨by decide, by decide⟩, ⟨by decide, by decide⟩, ⟨by decide, by decide⟩, ⟨by decide, by decide⟩, ⟨by decide, by decide⟩, ⟨by decide, by decide⟩, ⟨by decide, by decide⟩⟩
  · simp only [if_neg q]
    rw [t_lt] at q
    simp only [Int32.reduceToInt] at q
    have hx := t_ix (a := N.1 156 4) (by omega)
    obtain ⟨g, k⟩ := hL (ix (N.1 156 4)) (by omega)
    unfold lawok at k ⊢
    simp only [g 0 (by omega), g 1 (by omega), g 2 (by omega), g 3 (by omega), g 4 (by omega), g 5 (by omega), g 6 (by omega), g 7 (by omega), g 8 (by omega)] at k
    exact k
