theorem cut_v {M : Mem} {a b : Int32} (h : 1 ≤ b.toInt) : fc_cutBy M a b = some (a / b) := by
  unfold fc_cutBy
  rw [if_pos (by rw [t_le]; simp only [Int32.reduceToInt]; omega), gd_t]
  intro q
  have := t_eq.mp q
  simp only [Int32.reduceToInt] at this
  omega
theorem up_v {M : Mem} {a b : Int32} (h : 1 ≤ b.toInt) : fc_roundedUpBy M a b = some ((a + b - 1) / b) := by
  unfold fc_roundedUpBy
  rw [if_pos (by rw [t_le]; simp only [Int32.reduceToInt]; omega), gd_t]
  intro q
  have := t_eq.mp q
  simp only [Int32.reduceToInt] at this
  omega
theorem ne_z {b : Int32} (h : 1 ≤ b.toInt) : ¬ b = 0 := fun q => by
  have := t_eq.mp q
  simp only [Int32.reduceToInt] at this
  omega
/-- the facts that leaps rest on -/
def LeapOK (C N : Mem) : Prop := NS C N ∧ NJ C N ∧ NL C N ∧ NF C
theorem LeapOK.of {c : Nat} {C N : Mem} (h : Rel c C N) : LeapOK C N := ⟨h.1.1, h.1.2.1, h.1.2.2.1, h.1.2.2.2.1⟩
theorem LeapOK.u0 {C N : Mem} (h : LeapOK C N) : (N.1 156 0).toInt ≤ 20 := h.1.1.2.2
theorem LeapOK.lc {C N : Mem} (h : LeapOK C N) {i : Nat} (hi : i < 9) : fLake_lawValue C (nI i) = some (lwv N i) := by
  obtain ⟨hS, hJ, hL, hF⟩ := h
  obtain ⟨⟨e0, b0⟩, ⟨e1, b1⟩, ⟨e2, b2⟩, ⟨e3, b3⟩, ⟨e5, b5⟩, ⟨e6, b6⟩, ⟨e7, b7⟩, ⟨e4, b4⟩, e8⟩ := hS
  exact lwv_c hL hF e1 b1.2 e4 b4 hi
theorem LeapOK.lm {C N : Mem} (h : LeapOK C N) {i : Nat} (hi : i < 9) : fm_says1 N (nI i) = some (lwv N i) := by
  obtain ⟨hS, hJ, hL, hF⟩ := h
  obtain ⟨⟨e0, b0⟩, ⟨e1, b1⟩, ⟨e2, b2⟩, ⟨e3, b3⟩, ⟨e5, b5⟩, ⟨e6, b6⟩, ⟨e7, b7⟩, ⟨e4, b4⟩, e8⟩ := hS
  exact lwv_m b1.2 b4 hi
theorem LeapOK.lb {C N : Mem} (h : LeapOK C N) : lawok (lwv N) := by
  obtain ⟨hS, hJ, hL, hF⟩ := h
  obtain ⟨⟨e0, b0⟩, ⟨e1, b1⟩, ⟨e2, b2⟩, ⟨e3, b3⟩, ⟨e5, b5⟩, ⟨e6, b6⟩, ⟨e7, b7⟩, ⟨e4, b4⟩, e8⟩ := hS
  exact lwv_b hL b4
def tmx (N : Mem) (n : Nat) (s : Int32) : Int32 := if lwv N 0 / s < (2 * pcs (N.1 142 n) (N.1 144 n) + lwv N 2 - 1) / lwv N 2 + lwv N 3 then 0 else 1
theorem LeapOK.tc {C N : Mem} (h : LeapOK C N) {n : Nat} (hn : (n : Int) < (N.1 156 0).toInt) {s : Int32} (hs : 1 ≤ s.toInt) : fLake_hasTime C n s = some (tmx N n s) := by
  have hp := h.lb.2.2.1.1
  unfold fLake_hasTime tmx
  rw [show (2 : Int32) = nI 2 from rfl, show (3 : Int32) = nI 3 from rfl, show (0 : Int32) = nI 0 from rfl, h.lc (by omega), h.lc (by omega), h.lc (by omega), pcs_c h.2.1 hn]
  simp only [Option.bind_some, up_v hp, cut_v hs, ilet_e]
  split <;> rfl
theorem LeapOK.tm {C N : Mem} (h : LeapOK C N) {a : Int32} (h1 : 0 ≤ a.toInt) (h2 : a.toInt < (N.1 156 0).toInt) {s : Int32} (hs : 1 ≤ s.toInt) : fm_isTimeAt N a s = some (tmx N (ix a) s) := by
  have hp := h.lb.2.2.1.1
  unfold fm_isTimeAt tmx
  rw [show (2 : Int32) = nI 2 from rfl, show (3 : Int32) = nI 3 from rfl, show (0 : Int32) = nI 0 from rfl, h.lm (by omega), h.lm (by omega), h.lm (by omega), pcs_m h.2.1 h.u0 h1 h2]
  simp only [Option.bind_some]
  rw [gd_t (show ¬ lwv N 2 = nI 0 from ne_z hp), gd_t (show ¬ s = nI 0 from ne_z hs)]
  split <;> rfl
theorem tmx_B (N : Mem) (n : Nat) (s : Int32) : isB (tmx N n s) := by
  unfold tmx
  split
  · exact Or.inl rfl
  · exact Or.inr rfl
theorem LeapOK.tm1 {C N : Mem} (h : LeapOK C N) {a : Int32} (h1 : 0 ≤ a.toInt) (h2 : a.toInt < (N.1 156 0).toInt) : fm_isTime N a = some (tmx N (ix a) (lwv N 1)) := by
  have hp := h.lb.2.1.1
  have e : fm_says1 N 1 = some (lwv N 1) := h.lm (i := 1) (by omega)
  unfold fm_isTime
  rw [e]
  simp only [Option.bind_some]
  rw [h.tm h1 h2 hp]
  simp only [Option.bind_some]
  rw [gd_t (tmx_B N _ _)]
theorem LeapOK.sp {C N : Mem} (h : LeapOK C N) : fLake_speed C = some (lwv N 1) := by
  unfold fLake_speed
  rw [show (1 : Int32) = nI 1 from rfl, h.lc (by omega)]
  rfl
/-- the lake's level is in bounds -/
theorem LeapOK.lv {C N : Mem} (h : LeapOK C N) : bd (N.1 156 5) (-1000) 1000 := by
  have := h.1.2.2.2.2.1.2
  exact ⟨by have := this.1; omega, by have := this.2; omega⟩
def hpx (N : Mem) (n : Nat) : Int32 := if outx N n (N.1 156 5) = 0 then (if tmx N n (lwv N 1) = 0 then 1 else 0) else 1
theorem LeapOK.hc {C N : Mem} (h : LeapOK C N) {n : Nat} (hn : (n : Int) < (N.1 156 0).toInt) : fLake_isHopeless C n = some (hpx N n) := by
  have hp := h.lb.2.1.1
  unfold fLake_isHopeless hpx
  rw [outx_c h.2.1 h.1.2.2.2.2.2.1.1 hn, h.1.2.2.2.2.1.1, h.sp]
  simp only [Option.bind_some]
  rw [h.tc hn hp]
  simp only [Option.bind_some]
  split
  · split <;> rfl
  · rfl
theorem LeapOK.om {C N : Mem} (h : LeapOK C N) {a : Int32} (h1 : 0 ≤ a.toInt) (h2 : a.toInt < (N.1 156 0).toInt) {v : Int32} (hv : bd v (-1000) 1000) : fm_isOut N a v = some (outx N (ix a) v) := outx_m h.2.1 h.u0 h.1.2.2.2.2.2.1.2 h1 h2 hv
def clx (v : Int32) : Int32 := if 0 ≤ v then (if v ≤ 1000 then v else 1000) else 0
theorem clx_c (v : Int32) : (if (0 : Int32) < (if v < (1000 : Int32) then v else 1000) then (if v < (1000 : Int32) then v else 1000) else 0) = clx v := by
  unfold clx
  by_cases h1 : v < 1000
  · rw [if_pos h1]
    by_cases h2 : 0 < v
    · rw [if_pos h2, if_pos, if_pos]
      · rw [t_le]; rw [t_lt] at h1; omega
      · rw [t_le]; rw [t_lt] at h2; omega
    · rw [if_neg h2]
      by_cases h3 : 0 ≤ v
      · rw [if_pos h3, if_pos]
        · rw [t_eq]; rw [t_lt] at h2; rw [t_le] at h3; omega
        · rw [t_le]; rw [t_lt] at h1; omega
      · rw [if_neg h3]
  · rw [if_neg h1, if_pos (by decide), if_pos]
    · by_cases h3 : v ≤ 1000
      · rw [if_pos h3, t_eq]; rw [t_lt] at h1; rw [t_le] at h3; omega
      · rw [if_neg h3]
    · rw [t_le]; rw [t_lt] at h1; simp only [Int32.reduceToInt] at *; omega
theorem clx_b (v : Int32) : bd (clx v) 0 1000 := by
  unfold clx bd
  split
  · rename_i h
    rw [t_le] at h
    simp only [Int32.reduceToInt] at h
    split
    · rename_i h2
      rw [t_le] at h2
      simp only [Int32.reduceToInt] at h2
      omega
    · simp only [Int32.reduceToInt]; omega
  · simp only [Int32.reduceToInt]; omega
/-- the risk of the leaper a at the jetty n in the hour h -/
def rkx (N : Mem) (a n h : Nat) : Int32 := if outx N n (N.1 156 5) = 0 then (if tmx N n (lwv N 1) = 0 then 1000 else clx (lwv N 4 * absx (rsx (N.1 142 n) (N.1 145 n) (N.1 156 5) - dkx N) + lwv N 5 * N.1 146 n + lwv N 6 * N.1 155 h - lwv N 7 * N.1 149 a)) else 1000
theorem rkx_b (N : Mem) (a n h : Nat) : bd (rkx N a n h) 0 1000 := by
  unfold rkx
  split
  · split
    · exact ⟨by decide, by decide⟩
    · exact clx_b _
  · exact ⟨by decide, by decide⟩
theorem risk_c {c : Nat} {C N : Mem} (h : Rel c C N) {a j q : Int32} (a1 : 0 ≤ a.toInt) (a2 : a.toInt < (N.1 156 2).toInt) (j1 : 0 ≤ j.toInt) (j2 : j.toInt < (N.1 156 0).toInt) (q1 : 0 ≤ q.toInt) (q2 : q.toInt < 12) : fLake_riskOf C a j q = some (rkx N (ix a) (ix j) (ix q)) := by
  have L := LeapOK.of h
  obtain ⟨⟨hS, hJ, hL, hF, hA, hP, hW, hV⟩, -⟩ := id h
  have u2 : (N.1 156 2).toInt ≤ 6 := hS.2.2.1.2.2
  have u0 := L.u0
  have ia := t_ix a1
  have ij := t_ix j1
  have iq := t_ix q1
  obtain ⟨-, -, -, -, w1, w2⟩ := hJ (ix j) (by omega)
  obtain ⟨⟨s1, -⟩, -⟩ := hA (ix a) (by omega)
  have wn := (hW (ix q) (by omega)).1
  unfold fLake_riskOf rkx
  rw [gd_t (b_in j1 (by omega)), L.hc (by omega), show (4 : Int32) = nI 4 from rfl, show (5 : Int32) = nI 5 from rfl, show (6 : Int32) = nI 6 from rfl, show (7 : Int32) = nI 7 from rfl, L.lc (by omega), L.lc (by omega), L.lc (by omega), L.lc (by omega), rsx_c hJ (by omega), dkx_c hS.2.2.2.2.2.1.1, hS.2.2.2.2.1.1, w1, wn, s1]
  simp only [Option.bind_some, jlet_e, ilet_e, gd_t (b_in q1 (show q.toInt < (12 : Nat) by omega)), gd_t (b_in a1 (show a.toInt < (6 : Nat) by omega)), clx_c]
  unfold hpx
  by_cases o : outx N (ix j) (N.1 156 5) = 0
  · rw [if_pos o, if_pos o]
    by_cases t : tmx N (ix j) (lwv N 1) = 0
    · rw [if_pos t, if_pos t, if_neg (by decide)]
    · rw [if_neg t, if_neg t, if_pos rfl]
      rcases isB_of w2 with z | z
      · rw [if_pos z, z, Int32.mul_zero]
        rfl
      · rw [if_neg (by rw [z]; decide), z, Int32.mul_one]
        rfl
  · rw [if_neg o, if_neg o, if_neg (by decide)]
theorem risk_m {c : Nat} {C N : Mem} (h : Rel c C N) {a j q : Int32} (a1 : 0 ≤ a.toInt) (a2 : a.toInt < (N.1 156 2).toInt) (j1 : 0 ≤ j.toInt) (j2 : j.toInt < (N.1 156 0).toInt) (q1 : 0 ≤ q.toInt) (q2 : q.toInt < 12) : fm_riskOf N a j q = some (rkx N (ix a) (ix j) (ix q)) := by
  have L := LeapOK.of h
  obtain ⟨⟨hS, hJ, hL, hF, hA, hP, hW, hV⟩, -⟩ := id h
  have u2 : (N.1 156 2).toInt ≤ 6 := hS.2.2.1.2.2
  have u0 := L.u0
  unfold fm_riskOf rkx
  rw [ix_5, L.om j1 j2 L.lv]
  simp only [Option.bind_some]
  by_cases o : outx N (ix j) (N.1 156 5) = 0
  · rw [if_pos o, if_pos o, L.tm1 j1 j2]
    simp only [Option.bind_some]
    by_cases t : tmx N (ix j) (lwv N 1) = 0
    · rw [if_pos t, if_pos t]
    · rw [if_neg t, if_neg t, rsx_m hJ u0 j1 j2, show (4 : Int32) = nI 4 from rfl, show (5 : Int32) = nI 5 from rfl, show (6 : Int32) = nI 6 from rfl, show (7 : Int32) = nI 7 from rfl, L.lm (by omega), L.lm (by omega), L.lm (by omega), L.lm (by omega), dkx_m]
      simp only [Option.bind_some, jlet_e, ilet_e, gd_t (b_in j1 (show j.toInt < (20 : Nat) by omega)), gd_t (b_in q1 (show q.toInt < (12 : Nat) by omega)), gd_t (b_in a1 (show a.toInt < (6 : Nat) by omega))]
      unfold clx absx
      by_cases z : 0 ≤ rsx (N.1 142 (ix j)) (N.1 145 (ix j)) (N.1 156 5) - dkx N
      · simp only [if_pos z]
        split
        · split <;> rfl
        · rfl
      · simp only [if_neg z, Int32.zero_sub]
        split
        · split <;> rfl
        · rfl
  · rw [if_neg o, if_neg o]
-- legs
def abr (v : Int32) : Int32 := if 0 ≤ v then v else -v
/-- how far two spots are -/
def farx (p q : Int32) : Int32 := absx (p / 16 - q / 16) + absx (p - p / 16 * 16 - (q - q / 16 * 16))
def lgx (N : Mem) (p q s : Int32) : Int32 := (lwv N 8 * farx p q + s - 1) / s
theorem LeapOK.gc {C N : Mem} (h : LeapOK C N) (p q : Int32) {s : Int32} (hs : 1 ≤ s.toInt) : fLake_legMinutes C p q s = some (lgx N p q s) := by
  have e : fLake_lawValue C 8 = some (lwv N 8) := h.lc (i := 8) (by omega)
  unfold fLake_legMinutes
  simp only [ilet_e, e, Option.bind_some, up_v hs]
  rfl
theorem LeapOK.gm {C N : Mem} (h : LeapOK C N) (p q : Int32) {s : Int32} (hs : 1 ≤ s.toInt) : fm_legAt N p q s = some (lgx N p q s) := by
  have e : fm_says1 N 8 = some (lwv N 8) := h.lm (i := 8) (by omega)
  unfold fm_legAt lgx farx absx
  simp only [ilet_e, jlet_e, e, Option.bind_some, gd_t (ne_z hs), Int32.zero_sub]
  split
  · split <;> rfl
  · split <;> rfl
theorem LeapOK.gm1 {C N : Mem} (h : LeapOK C N) (p q : Int32) : fm_legOf N p q = some (lgx N p q (lwv N 1)) := by
  have e : fm_says1 N 1 = some (lwv N 1) := h.lm (i := 1) (by omega)
  unfold fm_legOf
  rw [e]
  simp only [Option.bind_some]
  rw [h.gm p q h.lb.2.1.1]
  rfl
theorem far_b {p q : Int32} (hp : bd p 0 255) (hq : bd q 0 255) : bd (farx p q) 0 30 := by
  obtain ⟨p1, p2⟩ := hp
  obtain ⟨q1, q2⟩ := hq
  have d1 : (p / 16).toInt = p.toInt / 16 := by rw [t_div] <;> (try simp only [Int32.reduceToInt]) <;> omega
  have d2 : (q / 16).toInt = q.toInt / 16 := by rw [t_div] <;> (try simp only [Int32.reduceToInt]) <;> omega
  have m1 : (p / 16 * 16).toInt = p.toInt / 16 * 16 := by rw [t_mul] <;> rw [d1] <;> simp only [Int32.reduceToInt] <;> omega
  have m2 : (q / 16 * 16).toInt = q.toInt / 16 * 16 := by rw [t_mul] <;> rw [d2] <;> simp only [Int32.reduceToInt] <;> omega
  have r1 : (p - p / 16 * 16).toInt = p.toInt - p.toInt / 16 * 16 := by rw [t_sub] <;> rw [m1] <;> omega
  have r2 : (q - q / 16 * 16).toInt = q.toInt - q.toInt / 16 * 16 := by rw [t_sub] <;> rw [m2] <;> omega
  have s1 : (p / 16 - q / 16).toInt = p.toInt / 16 - q.toInt / 16 := by rw [t_sub] <;> rw [d1, d2] <;> omega
  have s2 : (p - p / 16 * 16 - (q - q / 16 * 16)).toInt = (p.toInt - p.toInt / 16 * 16) - (q.toInt - q.toInt / 16 * 16) := by rw [t_sub] <;> rw [r1, r2] <;> omega
  have a1 := absx_t (d := p / 16 - q / 16) (by omega)
  have a2 := absx_t (d := p - p / 16 * 16 - (q - q / 16 * 16)) (by omega)
  unfold farx bd
  rw [t_add]
  · split at a1 <;> split at a2 <;> omega
  · split at a1 <;> split at a2 <;> omega
  · split at a1 <;> split at a2 <;> omega
theorem lg_b {N : Mem} {p q s : Int32} (hl : lawok (lwv N)) (hp : bd p 0 255) (hq : bd q 0 255) (hs : bd s 1 9) : bd (lgx N p q s) 0 270 := by
  obtain ⟨f1, f2⟩ := far_b hp hq
  obtain ⟨l1, l2⟩ := hl.2.2.2.2.2.2.2.2
  obtain ⟨s1, s2⟩ := hs
  have hm : 0 ≤ (lwv N 8).toInt * (farx p q).toInt := Int.mul_nonneg (by omega) f1
  have hm2 : (lwv N 8).toInt * (farx p q).toInt ≤ 9 * 30 := Int.mul_le_mul l2 f2 f1 (by omega)
  have t1 : (lwv N 8 * farx p q).toInt = (lwv N 8).toInt * (farx p q).toInt := by rw [t_mul] <;> omega
  have t2 : (lwv N 8 * farx p q + s).toInt = (lwv N 8).toInt * (farx p q).toInt + s.toInt := by rw [t_add] <;> rw [t1] <;> omega
  have t3 : (lwv N 8 * farx p q + s - 1).toInt = (lwv N 8).toInt * (farx p q).toInt + s.toInt - 1 := by rw [t_sub] <;> rw [t2] <;> simp only [Int32.reduceToInt] <;> omega
  unfold lgx bd
  rw [t_div (by omega) (by omega), t3]
  constructor
  · exact Int.ediv_nonneg (by omega) (by omega)
  · refine Int.ediv_le_of_le_mul (by omega) ?_
    have : 270 * 1 ≤ 270 * s.toInt := by omega
    rcases (show s.toInt = 1 ∨ s.toInt = 2 ∨ s.toInt = 3 ∨ s.toInt = 4 ∨ s.toInt = 5 ∨ s.toInt = 6 ∨ s.toInt = 7 ∨ s.toInt = 8 ∨ s.toInt = 9 by omega) with z | z | z | z | z | z | z | z | z <;> rw [z] <;> omega
