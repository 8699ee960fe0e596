abbrev Mem : Type := (Nat → Nat → Int32) × (Nat → Nat → Int64)
def rowI (M : Mem) (k : Nat) (f : Nat → Int32) : Mem := (fun a => if a = k then f else M.1 a, M.2)
def rowL (M : Mem) (k : Nat) (f : Nat → Int64) : Mem := (M.1, fun a => if a = k then f else M.2 a)
def wI (M : Mem) (k i : Nat) (v : Int32) : Mem := rowI M k (upd (M.1 k) i v)
def wL (M : Mem) (k i : Nat) (v : Int64) : Mem := rowL M k (vp_updL (M.2 k) i v)
/-- two memories side by side: the class's below 138, the reference's from there on -/
def cmb (C N : Mem) : Mem := (fun a => if a < 138 then C.1 a else N.1 a, fun a => if a < 138 then C.2 a else N.2 a)
def ix (i : Int32) : Nat := i.toNatClampNeg
def inbB (i : Int32) (n : Nat) : Bool := decide (¬ (i < 0 ∨ n ≤ i.toNatClampNeg))
abbrev inb (i : Int32) (n : Nat) : Prop := inbB i n = true
theorem inb_vp {i : Int32} {n : Nat} (h : inb i n) : vp_in i n := by
  have h : decide (¬ (i < 0 ∨ n ≤ i.toNatClampNeg)) = true := h
  have h2 : ¬ (i < 0 ∨ n ≤ i.toNatClampNeg) := of_decide_eq_true h
  exact h2
theorem inb_of {i : Int32} {n : Nat} (h : vp_in i n) : inb i n := by
  have h2 : ¬ (i < 0 ∨ n ≤ i.toNatClampNeg) := h
  exact decide_eq_true h2
abbrev isB (x : Int32) : Prop := x = 0 ∨ x = 1
theorem inb_lt {i : Int32} {n : Nat} (h : inb i n) : ix i < n := Nat.not_le.mp fun q => inb_vp h (Or.inr q)
def gd {α : Type} (c : Prop) [Decidable c] (x : Option α) : Option α := if c then x else none
theorem gd_some {α : Type} {c : Prop} [Decidable c] {x : Option α} {y : α} (h : gd c x = some y) : c ∧ x = some y := by
  unfold gd at h
  split at h
  · exact ⟨by assumption, h⟩
  · cases h
/-- the lake that a search holds: none, or the one at the place 20 -/
def lkv (ad : Nat → Nat) (x : Int32) : Value := if x = 0 then .null else .ref (ad 20)
def mk (cy : Nat → ClassId) (ad : Nat → Nat) (d k : Nat) (r : Nat → Int32) (q : Nat → Int64) : va_E :=
  if d = 0 then .inr (0, [.int (r 0), .int (r 1), .int (r 2), .int (r 3), .int (r 4)]) else
  if d = 1 then .inr (1, [.ref (ad (k + 1)), .int (r 1), .ref (ad (k + 22)), .int (r 3), .int (r 4), .ref (ad (k + 37)), .int (r 7), .ref (ad (k + 44)), .ref (ad (k + 45)), .int (r 10), .ref (ad (k + 46)), .int (r 12), .int (r 13), .int (r 14), .int (r 15), .ref (ad (k + 47))]) else
  if d = 2 then .inr (2, [.ref (ad (k + 7))]) else
  if d = 3 then .inr (3, [.int (r 0), .int (r 1), .int (r 2)]) else
  if d = 4 then .inr (4, [.ref (ad (k + 1)), .int (r 1), .int (r 2), lkv ad (r 3), .int (r 4), .int (r 5), .int (r 6), .ref (ad (k + 2)), .ref (ad (k + 3)), .ref (ad (k + 4))]) else
  if d = 5 then .inr (5, [.int (r 0), .int (r 1), .int (r 2), .ref (ad (k + 8))]) else
  if d = 6 then .inr (6, [.ref (ad (k + 1)), .int (r 1), .int (r 2)]) else
  if d = 7 then .inr (7, [.int (r 0), .int (r 1), .int (r 2), .int (r 3), .ref (ad (k + 1)), .ref (ad (k + 2)), .ref (ad (k + 3)), .ref (ad (k + 4)), .ref (ad (k + 5)), .ref (ad (k + 6))]) else
  if d = 8 then .inr (8, [.ref (ad (k + 1)), .ref (ad (k + 2)), .int (r 2)]) else
  if d = 9 then .inr (9, [.int (r 0), .ref (ad (k + 1)), .int (r 2), .int (r 3), .int (r 4), .int (r 5), .int (r 6), .int (r 7)]) else
  if d = 10 then .inr (10, [.ref (ad (k + 1)), .ref (ad (k + 18)), .ref (ad (k + 20)), .ref (ad (k + 69)), .int (r 4), .ref (ad (k + 118)), .ref (ad (k + 119)), .ref (ad (k + 122)), .ref (ad (k + 125)), .ref (ad (k + 130)), .ref (ad (k + 137))]) else
  if d = 11 then .inr (11, [.ref (ad (k + 1)), .ref (ad (k + 2)), .ref (ad (k + 3)), .ref (ad (k + 4)), .ref (ad (k + 5)), .ref (ad (k + 6)), .ref (ad (k + 7)), .ref (ad (k + 8)), .int (r 8), .ref (ad (k + 9)), .ref (ad (k + 10)), .ref (ad (k + 11)), .ref (ad (k + 12)), .ref (ad (k + 13)), .ref (ad (k + 14)), .ref (ad (k + 15)), .ref (ad (k + 16)), .ref (ad (k + 17)), .ref (ad (k + 18)), .ref (ad (k + 19)), .ref (ad (k + 20)), .int (r 21), .ref (ad (k + 21)), .ref (ad (k + 22)), .ref (ad (k + 23)), .ref (ad (k + 24)), .ref (ad (k + 25)), .ref (ad (k + 26))]) else
  if d = 20 then .inl (cy 0, 160, .inl r) else
  if d = 21 then .inl (cy 3, 6, .inl r) else
  if d = 22 then .inl (cy 2, 40, .inr (.inl q)) else
  if d = 23 then .inl (cy 2, 320, .inr (.inl q)) else
  if d = 24 then .inl (cy 4, 20, .inr (.inr (.inr (.inr (fun j => some (ad (j + (k + 1)))))))) else
  if d = 25 then .inl (cy 5, 6, .inr (.inr (.inr (.inr (fun j => some (ad (j + (k + 1)))))))) else
  if d = 26 then .inl (cy 6, 6, .inr (.inr (.inr (.inr (fun j => some (ad (j + (k + 1)))))))) else
  if d = 27 then .inl (cy 7, 8, .inr (.inr (.inr (.inr (fun j => some (ad (j + (k + 1)))))))) else
  .inl (cy 1, d - 100, .inl r)
def kdL : List Nat := [10, 27, 5, 5, 5, 5, 5, 5, 5, 5, 22, 22, 22, 22, 22, 22, 22, 22, 6, 20, 1, 24, 0, 0, 0, 0, 0, 0, 0, 0, 0, 0, 0, 0, 0, 0, 0, 0, 0, 0, 0, 0, 25, 2, 2, 2, 2, 2, 2, 98, 109, 109, 109, 109, 109, 109, 98, 26, 3, 3, 3, 3, 3, 3, 110, 110, 112, 9, 120, 1, 24, 0, 0, 0, 0, 0, 0, 0, 0, 0, 0, 0, 0, 0, 0, 0, 0, 0, 0, 0, 0, 25, 2, 2, 2, 2, 2, 2, 98, 109, 109, 109, 109, 109, 109, 98, 26, 3, 3, 3, 3, 3, 3, 110, 110, 112, 9, 120, 105, 8, 120, 120, 8, 120, 120, 4, 106, 106, 21, 106, 7, 106, 136, 107, 106, 106, 106, 140, 11, 108, 108, 23, 120, 120, 120, 120, 120, 260, 154, 106, 106, 106, 110, 110, 110, 112, 109, 128, 107, 400, 120, 106, 106, 106, 140]
def kd (k : Nat) : Nat := kdL.getD k 99
def ushr (x y : Int32) : Int32 := (x.toUInt32 >>> (y.toUInt32 &&& Int32.toUInt32 31)).toInt32
def sv0 : List Int32 := [40, 4, 5, 3, 3, 40, 20, 4, 2]
def sv1 : List Int32 := [1, 1, 1, 0, 0, 0, 0, 0, 1]
def sv2 : List Int32 := [99, 9, 9, 99, 9, 99, 99, 9, 9]
def sv3 : List Int32 := [-1, 0, 1, 0, 3, 0]
def svT : List String := ["boat", "speed", "pace", "box", "high", "wet", "wind", "skill", "leg"]
def svI : List Nat := [72, 74, 76, 78, 80, 82, 84, 86, 88]
def svJ : List Nat := [163, 169, 171, 173, 175, 177, 179, 181, 183]
def svN : List Nat := [4, 5, 4, 3, 4, 3, 4, 5, 3]
def svB : List (List Int32) := [[98, 111, 97, 116], [115, 112, 101, 101, 100], [112, 97, 99, 101], [98, 111, 120], [104, 105, 103, 104], [119, 101, 116], [119, 105, 110, 100], [115, 107, 105, 108, 108], [108, 101, 103]]
/-- the char at k of the text i -/
def svc (i k : Nat) : Int32 := (svB.getD i []).getD k 0 &&& 255
/-- the constants: static rows at the places 300 on, texts at 400 on (their bytes at 500 on) -/
def SV (ad : Nat → Nat) (A : Nat → Prop) (s : State) : Prop :=
  (va_Z RX10 "LAW_AT_FIRST" "[I" (.ref (ad 300)) A s s.heap ∧ va_X (ad 300) 9 (fun j => sv0.getD j 0) s s.heap ∧ ad 300 < s.heap.size ∧ ¬ A (ad 300) ∧ va_T .int (ad 300) 9 (fun j => .int (sv0.getD j 0)) A s s.heap) ∧
  (va_Z RX10 "LAW_LEAST" "[I" (.ref (ad 301)) A s s.heap ∧ va_T .int (ad 301) 9 (fun j => .int (sv1.getD j 0)) A s s.heap) ∧
  (va_Z RX10 "LAW_MOST" "[I" (.ref (ad 302)) A s s.heap ∧ va_T .int (ad 302) 9 (fun j => .int (sv2.getD j 0)) A s s.heap) ∧
  (va_Z RX10 "KIND_ABOVE" "[I" (.ref (ad 303)) A s s.heap ∧ va_T .int (ad 303) 6 (fun j => .int (sv3.getD j 0)) A s s.heap) ∧
  (va_Z RJ0 "COMPACT_STRINGS" "Z" (.int 1) A s s.heap ∧ va_Zq RJ3 "SIOOBE_FORMATTER" "Ljava/util/function/BiFunction;" A s s.heap) ∧
  (vk_S 9 svN svB (fun i => ad (i + 400)) (fun i => ad (i + 500)) A s s.heap ∧ (∀ i, i < 9 → vk_R RX6 (svI.getD i 0) (svT.getD i "") (ad (i + 400)) s) ∧ ∀ i, i < 9 → vk_R RX11 (svJ.getD i 0) (svT.getD i "") (ad (i + 400)) s)
theorem SV.call {ad : Nat → Nat} {A B : Nat → Prop} {s U : State} {H : Heap} {locs : List Loc} (h : SV ad A s) (hS : va_S A s.heap H locs) (hU : U.heap = H) (hW : s.WarmedH U.vm) (hB : ∀ q, B q → A q) : SV ad B U := by
  obtain ⟨⟨a1, a2, a3, a4, a5⟩, ⟨b1, b2⟩, ⟨c1, c2⟩, ⟨d1, d2⟩, ⟨e1, e2⟩, f1, f2, f3⟩ := h
  unfold SV
  rw [hU]
  have hq := hS.2.1
  exact ⟨⟨((a1.kept hq).moved hW.alike).narrow hB, (a2.kept (hq _ a3 a4)).moved hW.alike, Nat.lt_of_lt_of_le a3 hS.1, fun z => a4 (hB _ z), ((a5.kept hq).moved hW.alike).narrow hB⟩,
    ⟨((b1.kept hq).moved hW.alike).narrow hB, ((b2.kept hq).moved hW.alike).narrow hB⟩,
    ⟨((c1.kept hq).moved hW.alike).narrow hB, ((c2.kept hq).moved hW.alike).narrow hB⟩,
    ⟨((d1.kept hq).moved hW.alike).narrow hB, ((d2.kept hq).moved hW.alike).narrow hB⟩,
    ⟨((e1.kept hq).moved hW.alike).narrow hB, ((e2.kept hq).moved hW.alike).narrow hB⟩,
    ((f1.kept hq).moved hW.alike).narrow hB, fun i hi => (f2 i hi).warm hW, fun i hi => (f3 i hi).warm hW⟩
theorem SV.blind {ad : Nat → Nat} {A : Nat → Prop} {U : State} {g : JFrame} {mk : MethodId} {a : Array Value} (h : SV ad A U) : SV ad A (U.calling g mk a) := by
  obtain ⟨⟨a1, a2, a3, a4, a5⟩, ⟨b1, b2⟩, ⟨c1, c2⟩, ⟨d1, d2⟩, ⟨e1, e2⟩, f1, f2, f3⟩ := h
  have q : U.vm.Alike (U.calling g mk a).vm := Vm.Alike.refl U.vm
  exact ⟨⟨a1.moved q, a2.moved q, a3, a4, a5.moved q⟩, ⟨b1.moved q, b2.moved q⟩, ⟨c1.moved q, c2.moved q⟩, ⟨d1.moved q, d2.moved q⟩, ⟨e1.moved q, e2.moved q⟩, f1.moved q, fun i hi => (f2 i hi).same rfl, fun i hi => (f3 i hi).same rfl⟩
/-- the places that stand, in their order (98: none stands there) -/
def pls : List Nat := (List.range 165).filter (fun k => !(kd k == 98))
def ps (k : Nat) : Nat := if k < 49 then k else if k < 56 then k - 1 else if k < 98 then k - 2 else if k < 105 then k - 3 else k - 4
abbrev isp (k : Nat) : Prop := k < 165 ∧ kd k ≠ 98
theorem pls_len : pls.length = 161 := by decide +kernel
theorem pls_ps0 : ∀ k, k < 165 → kd k ≠ 98 → pls[ps k]? = some k := by decide +kernel
theorem pls_in0 : ∀ j, j < 161 → ∃ k, k < 165 ∧ kd k ≠ 98 ∧ ps k = j ∧ pls[j]? = some k := by
  have h : ∀ j, j < 161 → (pls.getD j 0 < 165 ∧ kd (pls.getD j 0) ≠ 98 ∧ ps (pls.getD j 0) = j ∧ pls[j]? = some (pls.getD j 0)) := by decide +kernel
  exact fun j hj => ⟨_, h j hj⟩
theorem pls_ps {k : Nat} (h : isp k) : pls[ps k]? = some k := pls_ps0 k h.1 h.2
theorem pls_in {j k : Nat} (h : pls[j]? = some k) : isp k ∧ ps k = j := by
  have hj : j < 161 := by
    have := (List.getElem?_eq_some_iff.mp h).1
    rw [pls_len] at this
    exact this
  obtain ⟨k2, h1, h2, h3, h4⟩ := pls_in0 j hj
  rw [h] at h4
  cases h4
  exact ⟨⟨h1, h2⟩, h3⟩
def wd (cy : Nat → ClassId) (ad : Nat → Nat) (M : Mem) : va_W := pls.map (fun k => (ad k, mk cy ad (kd k) k (M.1 k) (M.2 k)))
theorem wd_at {cy : Nat → ClassId} {ad : Nat → Nat} {M : Mem} {j : Nat} : (wd cy ad M)[j]? = pls[j]?.map (fun k => (ad k, mk cy ad (kd k) k (M.1 k) (M.2 k))) := List.getElem?_map
theorem wd_get {cy : Nat → ClassId} {ad : Nat → Nat} {M : Mem} {k : Nat} (h : isp k) : (wd cy ad M)[ps k]? = some (ad k, mk cy ad (kd k) k (M.1 k) (M.2 k)) := by
  rw [wd_at, pls_ps h]
  rfl
theorem wd_len {cy : Nat → ClassId} {ad : Nat → Nat} {M : Mem} : (wd cy ad M).length = 161 := by
  unfold wd
  rw [List.length_map, pls_len]
theorem ps_lt {k : Nat} (h : isp k) : ps k < 161 := by
  have := (List.getElem?_eq_some_iff.mp (pls_ps h)).1
  rw [pls_len] at this
  exact this
theorem wd_set {cy : Nat → ClassId} {ad : Nat → Nat} {M M1 : Mem} {k : Nat} {v : Nat × va_E} (h : isp k) (h1 : v = (ad k, mk cy ad (kd k) k (M1.1 k) (M1.2 k))) (h2 : ∀ a, a ≠ k → M1.1 a = M.1 a ∧ M1.2 a = M.2 a) : (wd cy ad M).set (ps k) v = wd cy ad M1 := by
  apply List.ext_getElem?
  intro j
  by_cases hj : j = ps k
  · subst hj
    rw [List.getElem?_set_self (by rw [wd_len]; exact ps_lt h), wd_get h, h1]
  · rw [List.getElem?_set_ne (Ne.symm hj), wd_at, wd_at]
    cases e : pls[j]? with
    | none => rfl
    | some a =>
      have ha : a ≠ k := fun z => hj (by rw [← z]; exact (pls_in e).2.symm)
      simp only [Option.map_some, (h2 a ha).1, (h2 a ha).2]
theorem wd_setI {cy : Nat → ClassId} {ad : Nat → Nat} {M : Mem} {k : Nat} {f : Nat → Int32} (h : isp k) : (wd cy ad M).set (ps k) (ad k, mk cy ad (kd k) k f (M.2 k)) = wd cy ad (rowI M k f) :=
  wd_set h (by simp only [rowI, if_true]) (fun a ha => ⟨if_neg ha, rfl⟩)
theorem wd_setL {cy : Nat → ClassId} {ad : Nat → Nat} {M : Mem} {k : Nat} {f : Nat → Int64} (h : isp k) : (wd cy ad M).set (ps k) (ad k, mk cy ad (kd k) k (M.1 k) f) = wd cy ad (rowL M k f) :=
  wd_set h (by simp only [rowL, if_true]) (fun a ha => ⟨rfl, if_neg ha⟩)
/-- the addresses of the places are apart -/
def adj (ad : Nat → Nat) : Prop := ∀ i j, i < 165 → j < 165 → ad i = ad j → i = j
def AA (ad : Nat → Nat) : Nat → Prop := fun q => ∃ k, k < 165 ∧ q = ad k
theorem wd_D {cy : Nat → ClassId} {ad : Nat → Nat} {A : Nat → Prop} {M : Mem} (h : adj ad) (hA : ∀ k, k < 165 → A (ad k)) : va_D A (wd cy ad M) := by
  have key : ∀ (j : Nat) (q : Nat × va_E), (wd cy ad M)[j]? = some q → ∃ k, k < 165 ∧ ps k = j ∧ q.1 = ad k := by
    intro j q hq
    rw [wd_at] at hq
    cases e : pls[j]? with
    | none =>
      rw [e] at hq
      cases hq
    | some k =>
      rw [e] at hq
      cases hq
      exact ⟨k, (pls_in e).1.1, (pls_in e).2, rfl⟩
  refine ⟨fun i j p q hi hj e => ?_, fun k q hq => ?_⟩
  · obtain ⟨a, a1, a2, b⟩ := key i p hi
    obtain ⟨c, c1, c2, d⟩ := key j q hj
    rw [← a2, ← c2, h a c a1 c1 (by rw [← b, ← d]; exact e)]
  · obtain ⟨a, a1, -, b⟩ := key k q hq
    rw [b]
    exact hA a a1
abbrev tys (cy : Nat → ClassId) : List (ClassId × FieldType) := [(cy 0, .byte), (cy 1, .int), (cy 2, .long), (cy 3, .boolean), (cy 4, .object RX0), (cy 5, .object RX2), (cy 6, .object RX3), (cy 7, .object RX5)]
/-- a view of the whole memory on the places sd -/
def Lens (wf : Mem → Mem) (sd : Nat → Prop) : Prop := ∀ k, sd k → isp k ∧ ∀ M, (wf M).1 k = M.1 k ∧ (wf M).2 k = M.2 k ∧ (∀ f, rowI (wf M) k f = wf (rowI M k f)) ∧ ∀ f, rowL (wf M) k f = wf (rowL M k f)
def sdC (k : Nat) : Prop := k < 138 ∧ kd k ≠ 98
def sdM (k : Nat) : Prop := 138 ≤ k ∧ k < 165
theorem kd_M : ∀ k, k < 165 → 138 ≤ k → kd k ≠ 98 := by decide +kernel
theorem lensC (N : Mem) : Lens (fun C => cmb C N) sdC := by
  intro k hk
  obtain ⟨hk, hk0⟩ := hk
  refine ⟨⟨by omega, hk0⟩, fun M => ⟨by simp [cmb, hk], by simp [cmb, hk], fun f => ?_, fun f => ?_⟩⟩
  · refine Prod.ext ?_ rfl
    funext a
    simp only [rowI, cmb]
    by_cases h : a = k
    · subst h; simp [hk]
    · simp [h]
  · refine Prod.ext rfl ?_
    funext a
    simp only [rowL, cmb]
    by_cases h : a = k
    · subst h; simp [hk]
    · simp [h]
theorem lensM (C : Mem) : Lens (fun N => cmb C N) sdM := by
  intro k hk
  unfold sdM at hk
  have h2 : ¬ k < 138 := by omega
  refine ⟨⟨hk.2, kd_M k hk.2 hk.1⟩, fun M => ⟨by simp [cmb, h2], by simp [cmb, h2], fun f => ?_, fun f => ?_⟩⟩
  · refine Prod.ext ?_ rfl
    funext a
    simp only [rowI, cmb]
    by_cases h : a = k
    · subst h; simp [h2]
    · simp [h]
  · refine Prod.ext rfl ?_
    funext a
    simp only [rowL, cmb]
    by_cases h : a = k
    · subst h; simp [h2]
    · simp [h]
/-- what stands beside the cells: class numbers, addresses apart, constants -/
def EV (D : va_G) (cy : Nat → ClassId) (ad : Nat → Nat) (A : Nat → Prop) (s : State) : Prop :=
  va_K D vwCl (tys cy) s ∧ adj ad ∧ (∀ k, k < 165 → A (ad k)) ∧ SV ad A s
theorem EV.call {D : va_G} {cy : Nat → ClassId} {ad : Nat → Nat} {A : Nat → Prop} {s U : State} {H : Heap} {locs : List Loc} (h : EV D cy ad A s) (hS : va_S A s.heap H locs) (hU : U.heap = H) (hW : s.WarmedH U.vm) : EV D cy ad (AA ad) U :=
  ⟨va_K.moved hW.alike h.1, h.2.1, fun k hk => ⟨k, hk, rfl⟩, SV.call h.2.2.2 hS hU hW (fun q hq => by obtain ⟨k, hk, rfl⟩ := hq; exact h.2.2.1 k hk)⟩
theorem EV.blind {D : va_G} {cy : Nat → ClassId} {ad : Nat → Nat} {A : Nat → Prop} {U : State} {g : JFrame} {mk : MethodId} {a : Array Value} (h : EV D cy ad A U) : EV D cy ad A (U.calling g mk a) :=
  ⟨va_K.moved (u := U) (U := U.calling g mk a) (Vm.Alike.refl U.vm) h.1, h.2.1, h.2.2.1, SV.blind h.2.2.2⟩
def Rm (k : Nat) : Room := { frames := k, cells := 0, slots := 0, locals := 64 * k }
/-- what a call answers, and the memory behind it -/
def QQ (D : va_G) (cy : Nat → ClassId) (ad : Nat → Nat) (y : Option Value × Mem) : Array Value → State → Outcome → State → Prop := fun _ st oc t => (oc = .returned y.1 ∧ va_P D vwCl (wd cy ad y.2) t.heap) ∧ va_F (AA ad) st t
def Pr (D : va_G) (cy : Nat → ClassId) (ad : Nat → Nat) (As : List Value) (M : Mem) : Array Value → State → Prop := va_Pc As (fun U => va_P D vwCl (wd cy ad M) U.heap ∧ EV D cy ad (AA ad) U)
/-- a method's contract: from the memory M (all of it) to the answer and memory y -/
def Mt (l : Launch) (D : va_G) (cy : Nat → ClassId) (ad : Nat → Nat) (y : MethodName) (cc : ByteArray) (nL : Nat) (ret : Option FieldType) (rk : Nat) (As : List Value) (M : Mem) (z : Option Value × Mem) : Prop :=
  Met l y (.code y cc nL ret :: TB) (Rm rk) (Pr D cy ad As M) (QQ D cy ad z) 0 0 (AA ad)
theorem Pr.blind {D : va_G} {cy : Nat → ClassId} {ad : Nat → Nat} {As : List Value} {M : Mem} : FrameBlind (Pr D cy ad As M) := fun _ _ _ _ q => ⟨q.1, q.2.1, q.2.2.blind⟩
def Cx (p : Program) (s : State) (m : MethodId) (args : Array Value) (meth : Method) (c : Code) (cc : ByteArray) (nL : Nat) (own : String) (D : va_G) (cy : Nat → ClassId) (ad : Nat → Nat) (A : Nat → Prop) (wf : Mem → Mem) (sd : Nat → Prop) : Prop :=
  (p.tables.exec = Jvm.exec ∧ c.code = cc ∧ c.maxLocals = nL ∧ s.vm.findClass own = some m.cls ∧ meth.locks = false) ∧ (∀ w ∈ TB, w.before args s = true) ∧ EV D cy ad A s ∧ Lens wf sd
/-- from pc with the locals lv, the stack st and the memory M the machine comes to Q -/
def G (p : Program) (l : Launch) (e : Env) (R : Room) (s : State) (m : MethodId) (args : Array Value) (below : List Frame) (meth : Method) (c : Code) (nL : Nat) (D : va_G) (cy : Nat → ClassId) (ad : Nat → Nat) (A : Nat → Prop) (cs sl : Nat) (Q : State → Prop) (pc : Nat) (lv : List (Nat × Value)) (st : List Value) (M : Mem) : Prop :=
  ∀ (H : Heap) (locs : List Loc) (ls : Array Slot), lv_has ls nL lv → va_P D vwCl (wd cy ad M) H → va_S A s.heap H locs → W p l e R s m args below meth c H locs cs sl Q (F0 m pc ls st)
/-- .. to what the function F tells -/
def GF {α : Type} (p : Program) (l : Launch) (e : Env) (R : Room) (s : State) (m : MethodId) (args : Array Value) (below : List Frame) (meth : Method) (c : Code) (nL : Nat) (D : va_G) (cy : Nat → ClassId) (ad : Nat → Nat) (A : Nat → Prop) (cs sl : Nat) (wf : Mem → Mem) (QF : Option Value × Mem → State → Prop) (fin : α → Option Value × Mem) (F : Option α) (pc : Nat) (lv : List (Nat × Value)) (st : List Value) (M : Mem) : Prop :=
  ∀ x, F = some x → G p l e R s m args below meth c nL D cy ad A cs sl (QF (fin x)) pc lv st (wf M)
theorem fu_ex : ∃ n : Nat, n = 100000 := ⟨_, rfl⟩
/-- the loops' fuel: a number that nothing unrolls -/
noncomputable def FU : Nat := Classical.choose fu_ex
theorem FU_eq : FU = 100000 := Classical.choose_spec fu_ex
def finI (M : Mem) (r : Int32) : Option Value × Mem := (some (.int r), M)
def finJ (M : Mem) (r : Int64) : Option Value × Mem := (some (.long r), M)
def finS (r : Int32 × Mem) : Option Value × Mem := (some (.int r.1), r.2)
def finV (r : Mem) : Option Value × Mem := (none, r)
def ilet {α : Type} (v : Int32) (f : Int32 → Option α) : Option α := f v
def llet {α : Type} (v : Int64) (f : Int64 → Option α) : Option α := f v
def mlet {α : Type} (v : Mem) (f : Mem → Option α) : Option α := f v
def jlet {α β : Type} (t : β → Option α) (b : (β → Option α) → Option α) : Option α := b t
def wfC (N : Mem) : Mem → Mem := fun C => cmb C N
def wfM (C : Mem) : Mem → Mem := fun N => cmb C N
theorem lC (N : Mem) : Lens (wfC N) sdC := lensC N
theorem lM (C : Mem) : Lens (wfM C) sdM := lensM C
def cpokb (sp dp n : Int32) (n0 n1 : Nat) : Bool := decide ((¬ sp < 0 ∧ ¬ dp < 0 ∧ ¬ n < 0) ∧ ix sp + ix n ≤ n0 ∧ ix dp + ix n ≤ n1)
abbrev cpokB (sp dp n : Int32) (n0 n1 : Nat) : Prop := cpokb sp dp n n0 n1 = true
theorem cpok_of {sp dp n : Int32} {n0 n1 : Nat} (h : cpokB sp dp n n0 n1) : (¬ sp < 0 ∧ ¬ dp < 0 ∧ ¬ n < 0) ∧ ix sp + ix n ≤ n0 ∧ ix dp + ix n ≤ n1 := of_decide_eq_true h
def cpI (M : Mem) (k0 k1 : Nat) (sp dp n : Int32) : Mem := rowI M k1 (va_cpy (M.1 k0) (M.1 k1) (ix sp) (ix dp) (ix n))
def cpL (M : Mem) (k0 k1 : Nat) (sp dp n : Int32) : Mem := rowL M k1 (va_cpy (M.2 k0) (M.2 k1) (ix sp) (ix dp) (ix n))
def cpS (M : Mem) (k1 : Nat) (sp dp n : Int32) : Mem := rowI M k1 (va_cpy (fun j => sv0.getD j 0) (M.1 k1) (ix sp) (ix dp) (ix n))
theorem hRm {rk maxL k : Nat} (h : rk + 1 ≤ k) (h2 : maxL ≤ 45) : rk + 1 ≤ (Rm k).frames ∧ 8 + (maxL + 11) + 64 * rk ≤ (Rm k).locals := by
  constructor
  · exact h
  · show 8 + (maxL + 11) + 64 * rk ≤ 64 * k
    omega
theorem hR1 {k n : Nat} (h : 1 ≤ k) (h2 : n ≤ 8) : 1 ≤ (Rm k).frames ∧ n + 13 ≤ (Rm k).locals := by
  constructor
  · exact h
  · show n + 13 ≤ 64 * k
    omega
theorem hR2 {k n : Nat} (h : 1 ≤ k) (h2 : n ≤ 8) : 1 ≤ (Rm k).frames ∧ n + (nativeFrameWords "java/lang/System" "arraycopy" 5 + 11) ≤ (Rm k).locals := by
  constructor
  · exact h
  · show n + (nativeFrameWords "java/lang/System" "arraycopy" 5 + 11) ≤ 64 * k
    have : nativeFrameWords "java/lang/System" "arraycopy" 5 ≤ 40 := by decide +kernel
    omega
theorem sw_out {x : Int32} {lo hi : Int} (h : ∀ n : Int, lo ≤ n → n ≤ hi → ¬ x = Int32.ofInt n) : x.toInt < lo ∨ hi < x.toInt := by
  rcases Int.lt_or_le x.toInt lo with h1 | h1
  · exact Or.inl h1
  · rcases Int.lt_or_le hi x.toInt with h2 | h2
    · exact Or.inr h2
    · exact absurd (Int32.ofInt_toInt x).symm (h _ h1 h2)
theorem k_0 : kd 0 = 10 := rfl
theorem s_0 : sdC 0 := ⟨by decide, by decide⟩
theorem k_1 : kd 1 = 27 := rfl
theorem s_1 : sdC 1 := ⟨by decide, by decide⟩
theorem k_2 : kd 2 = 5 := rfl
theorem s_2 : sdC 2 := ⟨by decide, by decide⟩
theorem k_3 : kd 3 = 5 := rfl
theorem s_3 : sdC 3 := ⟨by decide, by decide⟩
theorem k_4 : kd 4 = 5 := rfl
theorem s_4 : sdC 4 := ⟨by decide, by decide⟩
theorem k_5 : kd 5 = 5 := rfl
theorem s_5 : sdC 5 := ⟨by decide, by decide⟩
theorem k_6 : kd 6 = 5 := rfl
theorem s_6 : sdC 6 := ⟨by decide, by decide⟩
theorem k_7 : kd 7 = 5 := rfl
theorem s_7 : sdC 7 := ⟨by decide, by decide⟩
theorem k_8 : kd 8 = 5 := rfl
theorem s_8 : sdC 8 := ⟨by decide, by decide⟩
theorem k_9 : kd 9 = 5 := rfl
theorem s_9 : sdC 9 := ⟨by decide, by decide⟩
theorem k_10 : kd 10 = 22 := rfl
theorem s_10 : sdC 10 := ⟨by decide, by decide⟩
theorem k_11 : kd 11 = 22 := rfl
theorem s_11 : sdC 11 := ⟨by decide, by decide⟩
theorem k_12 : kd 12 = 22 := rfl
theorem s_12 : sdC 12 := ⟨by decide, by decide⟩
theorem k_13 : kd 13 = 22 := rfl
theorem s_13 : sdC 13 := ⟨by decide, by decide⟩
theorem k_14 : kd 14 = 22 := rfl
theorem s_14 : sdC 14 := ⟨by decide, by decide⟩
theorem k_15 : kd 15 = 22 := rfl
theorem s_15 : sdC 15 := ⟨by decide, by decide⟩
theorem k_16 : kd 16 = 22 := rfl
theorem s_16 : sdC 16 := ⟨by decide, by decide⟩
theorem k_17 : kd 17 = 22 := rfl
theorem s_17 : sdC 17 := ⟨by decide, by decide⟩
theorem k_18 : kd 18 = 6 := rfl
theorem s_18 : sdC 18 := ⟨by decide, by decide⟩
theorem k_19 : kd 19 = 20 := rfl
theorem s_19 : sdC 19 := ⟨by decide, by decide⟩
theorem k_20 : kd 20 = 1 := rfl
theorem s_20 : sdC 20 := ⟨by decide, by decide⟩
theorem k_21 : kd 21 = 24 := rfl
theorem s_21 : sdC 21 := ⟨by decide, by decide⟩
theorem k_22 : kd 22 = 0 := rfl
theorem s_22 : sdC 22 := ⟨by decide, by decide⟩
theorem k_23 : kd 23 = 0 := rfl
theorem s_23 : sdC 23 := ⟨by decide, by decide⟩
theorem k_24 : kd 24 = 0 := rfl
theorem s_24 : sdC 24 := ⟨by decide, by decide⟩
theorem k_25 : kd 25 = 0 := rfl
theorem s_25 : sdC 25 := ⟨by decide, by decide⟩
theorem k_26 : kd 26 = 0 := rfl
theorem s_26 : sdC 26 := ⟨by decide, by decide⟩
theorem k_27 : kd 27 = 0 := rfl
theorem s_27 : sdC 27 := ⟨by decide, by decide⟩
theorem k_28 : kd 28 = 0 := rfl
theorem s_28 : sdC 28 := ⟨by decide, by decide⟩
theorem k_29 : kd 29 = 0 := rfl
theorem s_29 : sdC 29 := ⟨by decide, by decide⟩
theorem k_30 : kd 30 = 0 := rfl
theorem s_30 : sdC 30 := ⟨by decide, by decide⟩
theorem k_31 : kd 31 = 0 := rfl
theorem s_31 : sdC 31 := ⟨by decide, by decide⟩
theorem k_32 : kd 32 = 0 := rfl
theorem s_32 : sdC 32 := ⟨by decide, by decide⟩
theorem k_33 : kd 33 = 0 := rfl
theorem s_33 : sdC 33 := ⟨by decide, by decide⟩
theorem k_34 : kd 34 = 0 := rfl
theorem s_34 : sdC 34 := ⟨by decide, by decide⟩
theorem k_35 : kd 35 = 0 := rfl
theorem s_35 : sdC 35 := ⟨by decide, by decide⟩
theorem k_36 : kd 36 = 0 := rfl
theorem s_36 : sdC 36 := ⟨by decide, by decide⟩
theorem k_37 : kd 37 = 0 := rfl
theorem s_37 : sdC 37 := ⟨by decide, by decide⟩
theorem k_38 : kd 38 = 0 := rfl
theorem s_38 : sdC 38 := ⟨by decide, by decide⟩
theorem k_39 : kd 39 = 0 := rfl
theorem s_39 : sdC 39 := ⟨by decide, by decide⟩
theorem k_40 : kd 40 = 0 := rfl
theorem s_40 : sdC 40 := ⟨by decide, by decide⟩
theorem k_41 : kd 41 = 0 := rfl
theorem s_41 : sdC 41 := ⟨by decide, by decide⟩
theorem k_42 : kd 42 = 25 := rfl
theorem s_42 : sdC 42 := ⟨by decide, by decide⟩
theorem k_43 : kd 43 = 2 := rfl
theorem s_43 : sdC 43 := ⟨by decide, by decide⟩
theorem k_44 : kd 44 = 2 := rfl
theorem s_44 : sdC 44 := ⟨by decide, by decide⟩
theorem k_45 : kd 45 = 2 := rfl
theorem s_45 : sdC 45 := ⟨by decide, by decide⟩
theorem k_46 : kd 46 = 2 := rfl
theorem s_46 : sdC 46 := ⟨by decide, by decide⟩
theorem k_47 : kd 47 = 2 := rfl
theorem s_47 : sdC 47 := ⟨by decide, by decide⟩
theorem k_48 : kd 48 = 2 := rfl
theorem s_48 : sdC 48 := ⟨by decide, by decide⟩
theorem k_50 : kd 50 = 109 := rfl
theorem s_50 : sdC 50 := ⟨by decide, by decide⟩
theorem k_51 : kd 51 = 109 := rfl
theorem s_51 : sdC 51 := ⟨by decide, by decide⟩
theorem k_52 : kd 52 = 109 := rfl
theorem s_52 : sdC 52 := ⟨by decide, by decide⟩
theorem k_53 : kd 53 = 109 := rfl
theorem s_53 : sdC 53 := ⟨by decide, by decide⟩
theorem k_54 : kd 54 = 109 := rfl
theorem s_54 : sdC 54 := ⟨by decide, by decide⟩
theorem k_55 : kd 55 = 109 := rfl
theorem s_55 : sdC 55 := ⟨by decide, by decide⟩
theorem k_57 : kd 57 = 26 := rfl
theorem s_57 : sdC 57 := ⟨by decide, by decide⟩
theorem k_58 : kd 58 = 3 := rfl
theorem s_58 : sdC 58 := ⟨by decide, by decide⟩
theorem k_59 : kd 59 = 3 := rfl
theorem s_59 : sdC 59 := ⟨by decide, by decide⟩
theorem k_60 : kd 60 = 3 := rfl
theorem s_60 : sdC 60 := ⟨by decide, by decide⟩
theorem k_61 : kd 61 = 3 := rfl
theorem s_61 : sdC 61 := ⟨by decide, by decide⟩
theorem k_62 : kd 62 = 3 := rfl
theorem s_62 : sdC 62 := ⟨by decide, by decide⟩
theorem k_63 : kd 63 = 3 := rfl
theorem s_63 : sdC 63 := ⟨by decide, by decide⟩
theorem k_64 : kd 64 = 110 := rfl
theorem s_64 : sdC 64 := ⟨by decide, by decide⟩
theorem k_65 : kd 65 = 110 := rfl
theorem s_65 : sdC 65 := ⟨by decide, by decide⟩
theorem k_66 : kd 66 = 112 := rfl
theorem s_66 : sdC 66 := ⟨by decide, by decide⟩
theorem k_67 : kd 67 = 9 := rfl
theorem s_67 : sdC 67 := ⟨by decide, by decide⟩
theorem k_68 : kd 68 = 120 := rfl
theorem s_68 : sdC 68 := ⟨by decide, by decide⟩
theorem k_69 : kd 69 = 1 := rfl
theorem s_69 : sdC 69 := ⟨by decide, by decide⟩
theorem k_70 : kd 70 = 24 := rfl
theorem s_70 : sdC 70 := ⟨by decide, by decide⟩
theorem k_71 : kd 71 = 0 := rfl
theorem s_71 : sdC 71 := ⟨by decide, by decide⟩
theorem k_72 : kd 72 = 0 := rfl
theorem s_72 : sdC 72 := ⟨by decide, by decide⟩
theorem k_73 : kd 73 = 0 := rfl
theorem s_73 : sdC 73 := ⟨by decide, by decide⟩
theorem k_74 : kd 74 = 0 := rfl
theorem s_74 : sdC 74 := ⟨by decide, by decide⟩
theorem k_75 : kd 75 = 0 := rfl
theorem s_75 : sdC 75 := ⟨by decide, by decide⟩
theorem k_76 : kd 76 = 0 := rfl
theorem s_76 : sdC 76 := ⟨by decide, by decide⟩
theorem k_77 : kd 77 = 0 := rfl
theorem s_77 : sdC 77 := ⟨by decide, by decide⟩
theorem k_78 : kd 78 = 0 := rfl
theorem s_78 : sdC 78 := ⟨by decide, by decide⟩
theorem k_79 : kd 79 = 0 := rfl
theorem s_79 : sdC 79 := ⟨by decide, by decide⟩
theorem k_80 : kd 80 = 0 := rfl
theorem s_80 : sdC 80 := ⟨by decide, by decide⟩
theorem k_81 : kd 81 = 0 := rfl
theorem s_81 : sdC 81 := ⟨by decide, by decide⟩
theorem k_82 : kd 82 = 0 := rfl
theorem s_82 : sdC 82 := ⟨by decide, by decide⟩
theorem k_83 : kd 83 = 0 := rfl
theorem s_83 : sdC 83 := ⟨by decide, by decide⟩
theorem k_84 : kd 84 = 0 := rfl
theorem s_84 : sdC 84 := ⟨by decide, by decide⟩
theorem k_85 : kd 85 = 0 := rfl
theorem s_85 : sdC 85 := ⟨by decide, by decide⟩
theorem k_86 : kd 86 = 0 := rfl
theorem s_86 : sdC 86 := ⟨by decide, by decide⟩
theorem k_87 : kd 87 = 0 := rfl
theorem s_87 : sdC 87 := ⟨by decide, by decide⟩
theorem k_88 : kd 88 = 0 := rfl
theorem s_88 : sdC 88 := ⟨by decide, by decide⟩
theorem k_89 : kd 89 = 0 := rfl
theorem s_89 : sdC 89 := ⟨by decide, by decide⟩
theorem k_90 : kd 90 = 0 := rfl
theorem s_90 : sdC 90 := ⟨by decide, by decide⟩
theorem k_91 : kd 91 = 25 := rfl
theorem s_91 : sdC 91 := ⟨by decide, by decide⟩
theorem k_92 : kd 92 = 2 := rfl
theorem s_92 : sdC 92 := ⟨by decide, by decide⟩
theorem k_93 : kd 93 = 2 := rfl
theorem s_93 : sdC 93 := ⟨by decide, by decide⟩
theorem k_94 : kd 94 = 2 := rfl
theorem s_94 : sdC 94 := ⟨by decide, by decide⟩
theorem k_95 : kd 95 = 2 := rfl
theorem s_95 : sdC 95 := ⟨by decide, by decide⟩
theorem k_96 : kd 96 = 2 := rfl
theorem s_96 : sdC 96 := ⟨by decide, by decide⟩
theorem k_97 : kd 97 = 2 := rfl
theorem s_97 : sdC 97 := ⟨by decide, by decide⟩
theorem k_99 : kd 99 = 109 := rfl
theorem s_99 : sdC 99 := ⟨by decide, by decide⟩
theorem k_100 : kd 100 = 109 := rfl
theorem s_100 : sdC 100 := ⟨by decide, by decide⟩
theorem k_101 : kd 101 = 109 := rfl
theorem s_101 : sdC 101 := ⟨by decide, by decide⟩
theorem k_102 : kd 102 = 109 := rfl
theorem s_102 : sdC 102 := ⟨by decide, by decide⟩
theorem k_103 : kd 103 = 109 := rfl
theorem s_103 : sdC 103 := ⟨by decide, by decide⟩
theorem k_104 : kd 104 = 109 := rfl
theorem s_104 : sdC 104 := ⟨by decide, by decide⟩
theorem k_106 : kd 106 = 26 := rfl
theorem s_106 : sdC 106 := ⟨by decide, by decide⟩
theorem k_107 : kd 107 = 3 := rfl
theorem s_107 : sdC 107 := ⟨by decide, by decide⟩
theorem k_108 : kd 108 = 3 := rfl
theorem s_108 : sdC 108 := ⟨by decide, by decide⟩
theorem k_109 : kd 109 = 3 := rfl
theorem s_109 : sdC 109 := ⟨by decide, by decide⟩
theorem k_110 : kd 110 = 3 := rfl
theorem s_110 : sdC 110 := ⟨by decide, by decide⟩
theorem k_111 : kd 111 = 3 := rfl
theorem s_111 : sdC 111 := ⟨by decide, by decide⟩
theorem k_112 : kd 112 = 3 := rfl
theorem s_112 : sdC 112 := ⟨by decide, by decide⟩
theorem k_113 : kd 113 = 110 := rfl
theorem s_113 : sdC 113 := ⟨by decide, by decide⟩
theorem k_114 : kd 114 = 110 := rfl
theorem s_114 : sdC 114 := ⟨by decide, by decide⟩
theorem k_115 : kd 115 = 112 := rfl
theorem s_115 : sdC 115 := ⟨by decide, by decide⟩
theorem k_116 : kd 116 = 9 := rfl
theorem s_116 : sdC 116 := ⟨by decide, by decide⟩
theorem k_117 : kd 117 = 120 := rfl
theorem s_117 : sdC 117 := ⟨by decide, by decide⟩
theorem k_118 : kd 118 = 105 := rfl
theorem s_118 : sdC 118 := ⟨by decide, by decide⟩
theorem k_119 : kd 119 = 8 := rfl
theorem s_119 : sdC 119 := ⟨by decide, by decide⟩
theorem k_120 : kd 120 = 120 := rfl
theorem s_120 : sdC 120 := ⟨by decide, by decide⟩
theorem k_121 : kd 121 = 120 := rfl
theorem s_121 : sdC 121 := ⟨by decide, by decide⟩
theorem k_122 : kd 122 = 8 := rfl
theorem s_122 : sdC 122 := ⟨by decide, by decide⟩
theorem k_123 : kd 123 = 120 := rfl
theorem s_123 : sdC 123 := ⟨by decide, by decide⟩
theorem k_124 : kd 124 = 120 := rfl
theorem s_124 : sdC 124 := ⟨by decide, by decide⟩
theorem k_125 : kd 125 = 4 := rfl
theorem s_125 : sdC 125 := ⟨by decide, by decide⟩
theorem k_126 : kd 126 = 106 := rfl
theorem s_126 : sdC 126 := ⟨by decide, by decide⟩
theorem k_127 : kd 127 = 106 := rfl
theorem s_127 : sdC 127 := ⟨by decide, by decide⟩
theorem k_128 : kd 128 = 21 := rfl
theorem s_128 : sdC 128 := ⟨by decide, by decide⟩
theorem k_129 : kd 129 = 106 := rfl
theorem s_129 : sdC 129 := ⟨by decide, by decide⟩
theorem k_130 : kd 130 = 7 := rfl
theorem s_130 : sdC 130 := ⟨by decide, by decide⟩
theorem k_131 : kd 131 = 106 := rfl
theorem s_131 : sdC 131 := ⟨by decide, by decide⟩
theorem k_132 : kd 132 = 136 := rfl
theorem s_132 : sdC 132 := ⟨by decide, by decide⟩
theorem k_133 : kd 133 = 107 := rfl
theorem s_133 : sdC 133 := ⟨by decide, by decide⟩
theorem k_134 : kd 134 = 106 := rfl
theorem s_134 : sdC 134 := ⟨by decide, by decide⟩
theorem k_135 : kd 135 = 106 := rfl
theorem s_135 : sdC 135 := ⟨by decide, by decide⟩
theorem k_136 : kd 136 = 106 := rfl
theorem s_136 : sdC 136 := ⟨by decide, by decide⟩
theorem k_137 : kd 137 = 140 := rfl
theorem s_137 : sdC 137 := ⟨by decide, by decide⟩
theorem k_138 : kd 138 = 11 := rfl
theorem s_138 : sdM 138 := ⟨by decide, by decide⟩
theorem k_139 : kd 139 = 108 := rfl
theorem s_139 : sdM 139 := ⟨by decide, by decide⟩
theorem k_140 : kd 140 = 108 := rfl
theorem s_140 : sdM 140 := ⟨by decide, by decide⟩
theorem k_141 : kd 141 = 23 := rfl
theorem s_141 : sdM 141 := ⟨by decide, by decide⟩
theorem k_142 : kd 142 = 120 := rfl
theorem s_142 : sdM 142 := ⟨by decide, by decide⟩
theorem k_143 : kd 143 = 120 := rfl
theorem s_143 : sdM 143 := ⟨by decide, by decide⟩
theorem k_144 : kd 144 = 120 := rfl
theorem s_144 : sdM 144 := ⟨by decide, by decide⟩
theorem k_145 : kd 145 = 120 := rfl
theorem s_145 : sdM 145 := ⟨by decide, by decide⟩
theorem k_146 : kd 146 = 120 := rfl
theorem s_146 : sdM 146 := ⟨by decide, by decide⟩
theorem k_147 : kd 147 = 260 := rfl
theorem s_147 : sdM 147 := ⟨by decide, by decide⟩
theorem k_148 : kd 148 = 154 := rfl
theorem s_148 : sdM 148 := ⟨by decide, by decide⟩
theorem k_149 : kd 149 = 106 := rfl
theorem s_149 : sdM 149 := ⟨by decide, by decide⟩
theorem k_150 : kd 150 = 106 := rfl
theorem s_150 : sdM 150 := ⟨by decide, by decide⟩
theorem k_151 : kd 151 = 106 := rfl
theorem s_151 : sdM 151 := ⟨by decide, by decide⟩
theorem k_152 : kd 152 = 110 := rfl
theorem s_152 : sdM 152 := ⟨by decide, by decide⟩
theorem k_153 : kd 153 = 110 := rfl
theorem s_153 : sdM 153 := ⟨by decide, by decide⟩
theorem k_154 : kd 154 = 110 := rfl
theorem s_154 : sdM 154 := ⟨by decide, by decide⟩
theorem k_155 : kd 155 = 112 := rfl
theorem s_155 : sdM 155 := ⟨by decide, by decide⟩
theorem k_156 : kd 156 = 109 := rfl
theorem s_156 : sdM 156 := ⟨by decide, by decide⟩
theorem k_157 : kd 157 = 128 := rfl
theorem s_157 : sdM 157 := ⟨by decide, by decide⟩
theorem k_158 : kd 158 = 107 := rfl
theorem s_158 : sdM 158 := ⟨by decide, by decide⟩
theorem k_159 : kd 159 = 400 := rfl
theorem s_159 : sdM 159 := ⟨by decide, by decide⟩
theorem k_160 : kd 160 = 120 := rfl
theorem s_160 : sdM 160 := ⟨by decide, by decide⟩
theorem k_161 : kd 161 = 106 := rfl
theorem s_161 : sdM 161 := ⟨by decide, by decide⟩
theorem k_162 : kd 162 = 106 := rfl
theorem s_162 : sdM 162 := ⟨by decide, by decide⟩
theorem k_163 : kd 163 = 106 := rfl
theorem s_163 : sdM 163 := ⟨by decide, by decide⟩
theorem k_164 : kd 164 = 140 := rfl
theorem s_164 : sdM 164 := ⟨by decide, by decide⟩
theorem kf_2 : ∀ j, j < 8 → kd (j + 2) = 5 := by decide
theorem sf_2 : ∀ j, j < 8 → sdC (j + 2) := fun j h => ⟨by omega, by rw [kf_2 j h]; decide⟩
theorem kf_10 : ∀ j, j < 8 → kd (j + 10) = 22 := by decide
theorem sf_10 : ∀ j, j < 8 → sdC (j + 10) := fun j h => ⟨by omega, by rw [kf_10 j h]; decide⟩
theorem kf_22 : ∀ j, j < 20 → kd (j + 22) = 0 := by decide
theorem sf_22 : ∀ j, j < 20 → sdC (j + 22) := fun j h => ⟨by omega, by rw [kf_22 j h]; decide⟩
theorem kf_43 : ∀ j, j < 6 → kd (j + 43) = 2 := by decide
theorem sf_43 : ∀ j, j < 6 → sdC (j + 43) := fun j h => ⟨by omega, by rw [kf_43 j h]; decide⟩
theorem kf_50 : ∀ j, j < 6 → kd (j + 50) = 109 := by decide
theorem sf_50 : ∀ j, j < 6 → sdC (j + 50) := fun j h => ⟨by omega, by rw [kf_50 j h]; decide⟩
theorem kf_58 : ∀ j, j < 6 → kd (j + 58) = 3 := by decide
theorem sf_58 : ∀ j, j < 6 → sdC (j + 58) := fun j h => ⟨by omega, by rw [kf_58 j h]; decide⟩
theorem kf_71 : ∀ j, j < 20 → kd (j + 71) = 0 := by decide
theorem sf_71 : ∀ j, j < 20 → sdC (j + 71) := fun j h => ⟨by omega, by rw [kf_71 j h]; decide⟩
theorem kf_92 : ∀ j, j < 6 → kd (j + 92) = 2 := by decide
theorem sf_92 : ∀ j, j < 6 → sdC (j + 92) := fun j h => ⟨by omega, by rw [kf_92 j h]; decide⟩
theorem kf_99 : ∀ j, j < 6 → kd (j + 99) = 109 := by decide
theorem sf_99 : ∀ j, j < 6 → sdC (j + 99) := fun j h => ⟨by omega, by rw [kf_99 j h]; decide⟩
theorem kf_107 : ∀ j, j < 6 → kd (j + 107) = 3 := by decide
theorem sf_107 : ∀ j, j < 6 → sdC (j + 107) := fun j h => ⟨by omega, by rw [kf_107 j h]; decide⟩
section LY
variable {p : Program} {l : Launch} {e : Env} {R : Room} {s : State} {m : MethodId} {args : Array Value} {below : List Frame} {meth : Method} {c : Code} {cc : ByteArray} {nL : Nat} {own : String} {D : va_G} {cy : Nat → ClassId} {ad : Nat → Nat} {A : Nat → Prop} {cs sl : Nat} {wf : Mem → Mem} {sd : Nat → Prop} {QF : Option Value × Mem → State → Prop} {α : Type} {fin : α → Option Value × Mem} {F : Option α} {pc : Nat} {lv : List (Nat × Value)} {st : List Value} {M : Mem}
theorem w_ac_n : Cond.native arraycopyName ∈ TB := m_1_147
theorem w_ac_s : Cond.static arraycopyName ∈ TB := m_1_146
theorem w_sys : Cond.initialized "java/lang/System" ∈ TB := m_1_7
theorem w_abs_s : Cond.static Lib.Math.abs.name ∈ TB := m_3_46
theorem w_max_s : Cond.static Lib.Math.max.name ∈ TB := m_3_19
theorem w_min_s : Cond.static Lib.Math.min.name ∈ TB := m_3_92
theorem w_abs_c : Cond.code Lib.Math.abs.name Lib.Math.abs.code 1 (some .int) ∈ TB := m_3_47
theorem w_max_c : Cond.code Lib.Math.max.name Lib.Math.max.code 2 (some .int) ∈ TB := m_3_20
theorem w_min_c : Cond.code Lib.Math.min.name Lib.Math.min.code 2 (some .int) ∈ TB := m_3_93
theorem w_math : Cond.initialized "java/lang/Math" ∈ TB := m_1_14
theorem g_iconst (X : Cx p s m args meth c cc nL own D cy ad A wf sd) {n : Int} {v : Int32}  (hd : decode cc pc = .ok (.iconst n, 1)) (hv : Int32.ofInt n = v) (K : GF p l e R s m args below meth c nL D cy ad A cs sl wf QF fin F (pc + 1) lv (.int v :: st) M) : GF p l e R s m args below meth c nL D cy ad A cs sl wf QF fin F pc lv (st) M := fun x hx H locs ls hl hP hS => lv_iconst X.1.1 X.1.2.1 hd hv (K x hx H locs ls hl hP hS)
theorem g_bipush (X : Cx p s m args meth c cc nL own D cy ad A wf sd) {n : Int} {v : Int32}  (hd : decode cc pc = .ok (.bipush n, 2)) (hv : (Int8.ofInt n).toInt32 = v) (K : GF p l e R s m args below meth c nL D cy ad A cs sl wf QF fin F (pc + 2) lv (.int v :: st) M) : GF p l e R s m args below meth c nL D cy ad A cs sl wf QF fin F pc lv (st) M := fun x hx H locs ls hl hP hS => lv_bipush X.1.1 X.1.2.1 hd hv (K x hx H locs ls hl hP hS)
theorem g_sipush (X : Cx p s m args meth c cc nL own D cy ad A wf sd) {n : Int} {v : Int32}  (hd : decode cc pc = .ok (.sipush n, 3)) (hv : (Int16.ofInt n).toInt32 = v) (K : GF p l e R s m args below meth c nL D cy ad A cs sl wf QF fin F (pc + 3) lv (.int v :: st) M) : GF p l e R s m args below meth c nL D cy ad A cs sl wf QF fin F pc lv (st) M := fun x hx H locs ls hl hP hS => lv_sipush X.1.1 X.1.2.1 hd hv (K x hx H locs ls hl hP hS)
theorem g_lconst (X : Cx p s m args meth c cc nL own D cy ad A wf sd) {n : Fin 2} {v : Int64}  (hd : decode cc pc = .ok (.lconst n, 1)) (hv : Int64.ofNat (n : Nat) = v) (K : GF p l e R s m args below meth c nL D cy ad A cs sl wf QF fin F (pc + 1) lv (.long v :: st) M) : GF p l e R s m args below meth c nL D cy ad A cs sl wf QF fin F pc lv (st) M := fun x hx H locs ls hl hP hS => lv_lconst X.1.1 X.1.2.1 hd hv (K x hx H locs ls hl hP hS)
theorem g_iload_n (X : Cx p s m args meth c cc nL own D cy ad A wf sd) {k : Fin 4} {i : Nat} {x0 : Int32}  (hd : decode cc pc = .ok (.iload_n k, 1)) (j : Nat) (hi : (k : Nat) = i) (hj : lv[j]? = some (i, .int x0)) (K : GF p l e R s m args below meth c nL D cy ad A cs sl wf QF fin F (pc + 1) lv (.int x0 :: st) M) : GF p l e R s m args below meth c nL D cy ad A cs sl wf QF fin F pc lv (st) M := fun x hx H locs ls hl hP hS => lv_iload_n X.1.1 X.1.2.1 hd hi (lv_at hl j hj) (K x hx H locs ls hl hP hS)
theorem g_iload (X : Cx p s m args meth c cc nL own D cy ad A wf sd) {i : Nat} {x0 : Int32}  (hd : decode cc pc = .ok (.iload i, 2)) (j : Nat) (hj : lv[j]? = some (i, .int x0)) (K : GF p l e R s m args below meth c nL D cy ad A cs sl wf QF fin F (pc + 2) lv (.int x0 :: st) M) : GF p l e R s m args below meth c nL D cy ad A cs sl wf QF fin F pc lv (st) M := fun x hx H locs ls hl hP hS => lv_iload X.1.1 X.1.2.1 hd (lv_at hl j hj) (K x hx H locs ls hl hP hS)
theorem g_istore_n (X : Cx p s m args meth c cc nL own D cy ad A wf sd) {i : Nat} {x0 : Int32} {lw lu : List (Nat × Value)} {k : Fin 4} (hd : decode cc pc = .ok (.istore_n k, 1)) (hi : (k : Nat) = i) (hn : i < nL) (hw : (i, Value.int x0) :: lv.filter (fun q => !(q.1 == i) && !(q.1 + 1 == i && q.2.category == 2)) = lw) (ks : List Nat) (hu : lv_pick lw ks = lu) (K : GF p l e R s m args below meth c nL D cy ad A cs sl wf QF fin F (pc + 1) lu st M) : GF p l e R s m args below meth c nL D cy ad A cs sl wf QF fin F pc lv (.int x0 :: st) M := fun x hx H locs ls hl hP hS => lv_istore_n X.1.1 X.1.2.1 hd hi hl hn hw (fun ls hl => K x hx H locs ls (lv_sub hl ks hu) hP hS)
theorem g_istore (X : Cx p s m args meth c cc nL own D cy ad A wf sd) {i : Nat} {x0 : Int32} {lw lu : List (Nat × Value)} (hd : decode cc pc = .ok (.istore i, 2))  (hn : i < nL) (hw : (i, Value.int x0) :: lv.filter (fun q => !(q.1 == i) && !(q.1 + 1 == i && q.2.category == 2)) = lw) (ks : List Nat) (hu : lv_pick lw ks = lu) (K : GF p l e R s m args below meth c nL D cy ad A cs sl wf QF fin F (pc + 2) lu st M) : GF p l e R s m args below meth c nL D cy ad A cs sl wf QF fin F pc lv (.int x0 :: st) M := fun x hx H locs ls hl hP hS => lv_istore X.1.1 X.1.2.1 hd hl hn hw (fun ls hl => K x hx H locs ls (lv_sub hl ks hu) hP hS)
theorem g_lload_n (X : Cx p s m args meth c cc nL own D cy ad A wf sd) {k : Fin 4} {i : Nat} {x0 : Int64}  (hd : decode cc pc = .ok (.lload_n k, 1)) (j : Nat) (hi : (k : Nat) = i) (hj : lv[j]? = some (i, .long x0)) (K : GF p l e R s m args below meth c nL D cy ad A cs sl wf QF fin F (pc + 1) lv (.long x0 :: st) M) : GF p l e R s m args below meth c nL D cy ad A cs sl wf QF fin F pc lv (st) M := fun x hx H locs ls hl hP hS => lv_lload_n X.1.1 X.1.2.1 hd hi (lv_at hl j hj) (K x hx H locs ls hl hP hS)
theorem g_lload (X : Cx p s m args meth c cc nL own D cy ad A wf sd) {i : Nat} {x0 : Int64}  (hd : decode cc pc = .ok (.lload i, 2)) (j : Nat) (hj : lv[j]? = some (i, .long x0)) (K : GF p l e R s m args below meth c nL D cy ad A cs sl wf QF fin F (pc + 2) lv (.long x0 :: st) M) : GF p l e R s m args below meth c nL D cy ad A cs sl wf QF fin F pc lv (st) M := fun x hx H locs ls hl hP hS => lv_lload X.1.1 X.1.2.1 hd (lv_at hl j hj) (K x hx H locs ls hl hP hS)
theorem g_lstore_n (X : Cx p s m args meth c cc nL own D cy ad A wf sd) {i : Nat} {x0 : Int64} {lw lu : List (Nat × Value)} {k : Fin 4} (hd : decode cc pc = .ok (.lstore_n k, 1)) (hi : (k : Nat) = i) (hn : i + 1 < nL) (hw : (i, Value.long x0) :: lv.filter (fun q => !(q.1 == i) && (!(q.1 == i + 1) && !(q.1 + 1 == i && q.2.category == 2))) = lw) (ks : List Nat) (hu : lv_pick lw ks = lu) (K : GF p l e R s m args below meth c nL D cy ad A cs sl wf QF fin F (pc + 1) lu st M) : GF p l e R s m args below meth c nL D cy ad A cs sl wf QF fin F pc lv (.long x0 :: st) M := fun x hx H locs ls hl hP hS => lv_lstore_n X.1.1 X.1.2.1 hd hi hl hn hw (fun ls hl => K x hx H locs ls (lv_sub hl ks hu) hP hS)
theorem g_lstore (X : Cx p s m args meth c cc nL own D cy ad A wf sd) {i : Nat} {x0 : Int64} {lw lu : List (Nat × Value)} (hd : decode cc pc = .ok (.lstore i, 2))  (hn : i + 1 < nL) (hw : (i, Value.long x0) :: lv.filter (fun q => !(q.1 == i) && (!(q.1 == i + 1) && !(q.1 + 1 == i && q.2.category == 2))) = lw) (ks : List Nat) (hu : lv_pick lw ks = lu) (K : GF p l e R s m args below meth c nL D cy ad A cs sl wf QF fin F (pc + 2) lu st M) : GF p l e R s m args below meth c nL D cy ad A cs sl wf QF fin F pc lv (.long x0 :: st) M := fun x hx H locs ls hl hP hS => lv_lstore X.1.1 X.1.2.1 hd hl hn hw (fun ls hl => K x hx H locs ls (lv_sub hl ks hu) hP hS)
theorem g_aload_n (X : Cx p s m args meth c cc nL own D cy ad A wf sd) {k : Fin 4} {i : Nat} {x0 : Nat}  (hd : decode cc pc = .ok (.aload_n k, 1)) (j : Nat) (hi : (k : Nat) = i) (hj : lv[j]? = some (i, .ref x0)) (K : GF p l e R s m args below meth c nL D cy ad A cs sl wf QF fin F (pc + 1) lv (.ref x0 :: st) M) : GF p l e R s m args below meth c nL D cy ad A cs sl wf QF fin F pc lv (st) M := fun x hx H locs ls hl hP hS => lv_aload_n X.1.1 X.1.2.1 hd hi (lv_at hl j hj) (K x hx H locs ls hl hP hS)
theorem g_aload (X : Cx p s m args meth c cc nL own D cy ad A wf sd) {i : Nat} {x0 : Nat}  (hd : decode cc pc = .ok (.aload i, 2)) (j : Nat) (hj : lv[j]? = some (i, .ref x0)) (K : GF p l e R s m args below meth c nL D cy ad A cs sl wf QF fin F (pc + 2) lv (.ref x0 :: st) M) : GF p l e R s m args below meth c nL D cy ad A cs sl wf QF fin F pc lv (st) M := fun x hx H locs ls hl hP hS => lv_aload X.1.1 X.1.2.1 hd (lv_at hl j hj) (K x hx H locs ls hl hP hS)
theorem g_astore_n (X : Cx p s m args meth c cc nL own D cy ad A wf sd) {i : Nat} {x0 : Nat} {lw lu : List (Nat × Value)} {k : Fin 4} (hd : decode cc pc = .ok (.astore_n k, 1)) (hi : (k : Nat) = i) (hn : i < nL) (hw : (i, Value.ref x0) :: lv.filter (fun q => !(q.1 == i) && !(q.1 + 1 == i && q.2.category == 2)) = lw) (ks : List Nat) (hu : lv_pick lw ks = lu) (K : GF p l e R s m args below meth c nL D cy ad A cs sl wf QF fin F (pc + 1) lu st M) : GF p l e R s m args below meth c nL D cy ad A cs sl wf QF fin F pc lv (.ref x0 :: st) M := fun x hx H locs ls hl hP hS => lv_astore_n X.1.1 X.1.2.1 hd hi hl hn hw (fun ls hl => K x hx H locs ls (lv_sub hl ks hu) hP hS)
theorem g_astore (X : Cx p s m args meth c cc nL own D cy ad A wf sd) {i : Nat} {x0 : Nat} {lw lu : List (Nat × Value)} (hd : decode cc pc = .ok (.astore i, 2))  (hn : i < nL) (hw : (i, Value.ref x0) :: lv.filter (fun q => !(q.1 == i) && !(q.1 + 1 == i && q.2.category == 2)) = lw) (ks : List Nat) (hu : lv_pick lw ks = lu) (K : GF p l e R s m args below meth c nL D cy ad A cs sl wf QF fin F (pc + 2) lu st M) : GF p l e R s m args below meth c nL D cy ad A cs sl wf QF fin F pc lv (.ref x0 :: st) M := fun x hx H locs ls hl hP hS => lv_astore X.1.1 X.1.2.1 hd hl hn hw (fun ls hl => K x hx H locs ls (lv_sub hl ks hu) hP hS)
theorem g_iinc (X : Cx p s m args meth c cc nL own D cy ad A wf sd) {i : Nat} {k : Nat} {n : Int} {x0 v : Int32} {lw lu : List (Nat × Value)} (hd : decode cc pc = .ok (.iinc i n, 3)) (hk : lv[k]? = some (i, .int x0)) (hv : x0 + Int32.ofInt n = v) (hn : i < nL) (hw : (i, Value.int v) :: lv.filter (fun q => !(q.1 == i) && !(q.1 + 1 == i && q.2.category == 2)) = lw) (ks : List Nat) (hu : lv_pick lw ks = lu) (K : GF p l e R s m args below meth c nL D cy ad A cs sl wf QF fin F (pc + 3) lu st M) : GF p l e R s m args below meth c nL D cy ad A cs sl wf QF fin F pc lv st M := fun x hx H locs ls hl hP hS => lv_iinc X.1.1 X.1.2.1 hd hl hk hv hn hw (fun ls hl => K x hx H locs ls (lv_sub hl ks hu) hP hS)
theorem g_iadd (X : Cx p s m args meth c cc nL own D cy ad A wf sd) {x0 y0 : Int32} (hd : decode cc pc = .ok (.iadd, 1))  (K : GF p l e R s m args below meth c nL D cy ad A cs sl wf QF fin F (pc + 1) lv (.int (x0 + y0) :: st) M) : GF p l e R s m args below meth c nL D cy ad A cs sl wf QF fin F pc lv (.int y0 :: .int x0 :: st) M := fun x hx H locs ls hl hP hS => lv_iadd X.1.1 X.1.2.1 hd (K x hx H locs ls hl hP hS)
theorem g_isub (X : Cx p s m args meth c cc nL own D cy ad A wf sd) {x0 y0 : Int32} (hd : decode cc pc = .ok (.isub, 1))  (K : GF p l e R s m args below meth c nL D cy ad A cs sl wf QF fin F (pc + 1) lv (.int (x0 - y0) :: st) M) : GF p l e R s m args below meth c nL D cy ad A cs sl wf QF fin F pc lv (.int y0 :: .int x0 :: st) M := fun x hx H locs ls hl hP hS => lv_isub X.1.1 X.1.2.1 hd (K x hx H locs ls hl hP hS)
theorem g_imul (X : Cx p s m args meth c cc nL own D cy ad A wf sd) {x0 y0 : Int32} (hd : decode cc pc = .ok (.imul, 1))  (K : GF p l e R s m args below meth c nL D cy ad A cs sl wf QF fin F (pc + 1) lv (.int (x0 * y0) :: st) M) : GF p l e R s m args below meth c nL D cy ad A cs sl wf QF fin F pc lv (.int y0 :: .int x0 :: st) M := fun x hx H locs ls hl hP hS => lv_imul X.1.1 X.1.2.1 hd (K x hx H locs ls hl hP hS)
theorem g_iand (X : Cx p s m args meth c cc nL own D cy ad A wf sd) {x0 y0 : Int32} (hd : decode cc pc = .ok (.iand, 1))  (K : GF p l e R s m args below meth c nL D cy ad A cs sl wf QF fin F (pc + 1) lv (.int (x0 &&& y0) :: st) M) : GF p l e R s m args below meth c nL D cy ad A cs sl wf QF fin F pc lv (.int y0 :: .int x0 :: st) M := fun x hx H locs ls hl hP hS => lv_iand X.1.1 X.1.2.1 hd (K x hx H locs ls hl hP hS)
theorem g_ior (X : Cx p s m args meth c cc nL own D cy ad A wf sd) {x0 y0 : Int32} (hd : decode cc pc = .ok (.ior, 1))  (K : GF p l e R s m args below meth c nL D cy ad A cs sl wf QF fin F (pc + 1) lv (.int (x0 ||| y0) :: st) M) : GF p l e R s m args below meth c nL D cy ad A cs sl wf QF fin F pc lv (.int y0 :: .int x0 :: st) M := fun x hx H locs ls hl hP hS => lv_ior X.1.1 X.1.2.1 hd (K x hx H locs ls hl hP hS)
theorem g_ixor (X : Cx p s m args meth c cc nL own D cy ad A wf sd) {x0 y0 : Int32} (hd : decode cc pc = .ok (.ixor, 1))  (K : GF p l e R s m args below meth c nL D cy ad A cs sl wf QF fin F (pc + 1) lv (.int (x0 ^^^ y0) :: st) M) : GF p l e R s m args below meth c nL D cy ad A cs sl wf QF fin F pc lv (.int y0 :: .int x0 :: st) M := fun x hx H locs ls hl hP hS => lv_ixor X.1.1 X.1.2.1 hd (K x hx H locs ls hl hP hS)
theorem g_ishl (X : Cx p s m args meth c cc nL own D cy ad A wf sd) {x0 y0 : Int32} (hd : decode cc pc = .ok (.ishl, 1))  (K : GF p l e R s m args below meth c nL D cy ad A cs sl wf QF fin F (pc + 1) lv (.int (x0 <<< (y0 &&& 31)) :: st) M) : GF p l e R s m args below meth c nL D cy ad A cs sl wf QF fin F pc lv (.int y0 :: .int x0 :: st) M := fun x hx H locs ls hl hP hS => lv_ishl X.1.1 X.1.2.1 hd (K x hx H locs ls hl hP hS)
theorem g_ishr (X : Cx p s m args meth c cc nL own D cy ad A wf sd) {x0 y0 : Int32} (hd : decode cc pc = .ok (.ishr, 1))  (K : GF p l e R s m args below meth c nL D cy ad A cs sl wf QF fin F (pc + 1) lv (.int (x0 >>> (y0 &&& 31)) :: st) M) : GF p l e R s m args below meth c nL D cy ad A cs sl wf QF fin F pc lv (.int y0 :: .int x0 :: st) M := fun x hx H locs ls hl hP hS => lv_ishr X.1.1 X.1.2.1 hd (K x hx H locs ls hl hP hS)
theorem g_iushr (X : Cx p s m args meth c cc nL own D cy ad A wf sd) {x0 y0 : Int32} (hd : decode cc pc = .ok (.iushr, 1))  (K : GF p l e R s m args below meth c nL D cy ad A cs sl wf QF fin F (pc + 1) lv (.int (ushr x0 y0) :: st) M) : GF p l e R s m args below meth c nL D cy ad A cs sl wf QF fin F pc lv (.int y0 :: .int x0 :: st) M := fun x hx H locs ls hl hP hS => lv_iushr X.1.1 X.1.2.1 hd rfl (K x hx H locs ls hl hP hS)
theorem g_ineg (X : Cx p s m args meth c cc nL own D cy ad A wf sd) {x0 : Int32} (hd : decode cc pc = .ok (.ineg, 1))  (K : GF p l e R s m args below meth c nL D cy ad A cs sl wf QF fin F (pc + 1) lv (.int (-x0) :: st) M) : GF p l e R s m args below meth c nL D cy ad A cs sl wf QF fin F pc lv (.int x0 :: st) M := fun x hx H locs ls hl hP hS => lv_ineg X.1.1 X.1.2.1 hd (K x hx H locs ls hl hP hS)
theorem g_idivC (X : Cx p s m args meth c cc nL own D cy ad A wf sd) {x0 y0 : Int32}  (hd : decode cc pc = .ok (.idiv, 1)) (hne : ¬ y0 = 0) (K : GF p l e R s m args below meth c nL D cy ad A cs sl wf QF fin F (pc + 1) lv (.int (x0 / y0) :: st) M) : GF p l e R s m args below meth c nL D cy ad A cs sl wf QF fin F pc lv (.int y0 :: .int x0 :: st) M := fun x hx H locs ls hl hP hS => lv_idiv X.1.1 X.1.2.1 hd hne (K x hx H locs ls hl hP hS)
theorem g_idiv (X : Cx p s m args meth c cc nL own D cy ad A wf sd) {x0 y0 : Int32} (hd : decode cc pc = .ok (.idiv, 1)) (K : ¬ y0 = 0 → GF p l e R s m args below meth c nL D cy ad A cs sl wf QF fin F (pc + 1) lv (.int (x0 / y0) :: st) M) : GF p l e R s m args below meth c nL D cy ad A cs sl wf QF fin (gd (¬ y0 = 0) F) pc lv (.int y0 :: .int x0 :: st) M := fun x hx H locs ls hl hP hS => lv_idiv X.1.1 X.1.2.1 hd (gd_some hx).1 (K (gd_some hx).1 x (gd_some hx).2 H locs ls hl hP hS)
theorem g_iremC (X : Cx p s m args meth c cc nL own D cy ad A wf sd) {x0 y0 : Int32}  (hd : decode cc pc = .ok (.irem, 1)) (hne : ¬ y0 = 0) (K : GF p l e R s m args below meth c nL D cy ad A cs sl wf QF fin F (pc + 1) lv (.int (x0 - x0 / y0 * y0) :: st) M) : GF p l e R s m args below meth c nL D cy ad A cs sl wf QF fin F pc lv (.int y0 :: .int x0 :: st) M := fun x hx H locs ls hl hP hS => lv_irem X.1.1 X.1.2.1 hd hne (K x hx H locs ls hl hP hS)
theorem g_irem (X : Cx p s m args meth c cc nL own D cy ad A wf sd) {x0 y0 : Int32} (hd : decode cc pc = .ok (.irem, 1)) (K : ¬ y0 = 0 → GF p l e R s m args below meth c nL D cy ad A cs sl wf QF fin F (pc + 1) lv (.int (x0 - x0 / y0 * y0) :: st) M) : GF p l e R s m args below meth c nL D cy ad A cs sl wf QF fin (gd (¬ y0 = 0) F) pc lv (.int y0 :: .int x0 :: st) M := fun x hx H locs ls hl hP hS => lv_irem X.1.1 X.1.2.1 hd (gd_some hx).1 (K (gd_some hx).1 x (gd_some hx).2 H locs ls hl hP hS)
theorem g_ladd (X : Cx p s m args meth c cc nL own D cy ad A wf sd) {x0 y0 : Int64} (hd : decode cc pc = .ok (.ladd, 1))  (K : GF p l e R s m args below meth c nL D cy ad A cs sl wf QF fin F (pc + 1) lv (.long (x0 + y0) :: st) M) : GF p l e R s m args below meth c nL D cy ad A cs sl wf QF fin F pc lv (.long y0 :: .long x0 :: st) M := fun x hx H locs ls hl hP hS => lv_ladd X.1.1 X.1.2.1 hd (K x hx H locs ls hl hP hS)
theorem g_lor (X : Cx p s m args meth c cc nL own D cy ad A wf sd) {x0 y0 : Int64} (hd : decode cc pc = .ok (.lor, 1))  (K : GF p l e R s m args below meth c nL D cy ad A cs sl wf QF fin F (pc + 1) lv (.long (x0 ||| y0) :: st) M) : GF p l e R s m args below meth c nL D cy ad A cs sl wf QF fin F pc lv (.long y0 :: .long x0 :: st) M := fun x hx H locs ls hl hP hS => lv_lor X.1.1 X.1.2.1 hd (K x hx H locs ls hl hP hS)
theorem g_land (X : Cx p s m args meth c cc nL own D cy ad A wf sd) {x0 y0 : Int64} (hd : decode cc pc = .ok (.land, 1))  (K : GF p l e R s m args below meth c nL D cy ad A cs sl wf QF fin F (pc + 1) lv (.long (x0 &&& y0) :: st) M) : GF p l e R s m args below meth c nL D cy ad A cs sl wf QF fin F pc lv (.long y0 :: .long x0 :: st) M := fun x hx H locs ls hl hP hS => lv_land X.1.1 X.1.2.1 hd (K x hx H locs ls hl hP hS)
theorem g_lshl (X : Cx p s m args meth c cc nL own D cy ad A wf sd) {x0 : Int64} {y0 : Int32} (hd : decode cc pc = .ok (.lshl, 1))  (K : GF p l e R s m args below meth c nL D cy ad A cs sl wf QF fin F (pc + 1) lv (.long (x0 <<< (y0.toInt64 &&& 63)) :: st) M) : GF p l e R s m args below meth c nL D cy ad A cs sl wf QF fin F pc lv (.int y0 :: .long x0 :: st) M := fun x hx H locs ls hl hP hS => lv_lshl X.1.1 X.1.2.1 hd rfl (K x hx H locs ls hl hP hS)
theorem g_lshr (X : Cx p s m args meth c cc nL own D cy ad A wf sd) {x0 : Int64} {y0 : Int32} (hd : decode cc pc = .ok (.lshr, 1))  (K : GF p l e R s m args below meth c nL D cy ad A cs sl wf QF fin F (pc + 1) lv (.long (x0 >>> (y0.toInt64 &&& 63)) :: st) M) : GF p l e R s m args below meth c nL D cy ad A cs sl wf QF fin F pc lv (.int y0 :: .long x0 :: st) M := fun x hx H locs ls hl hP hS => lv_lshr X.1.1 X.1.2.1 hd rfl (K x hx H locs ls hl hP hS)
theorem g_i2l (X : Cx p s m args meth c cc nL own D cy ad A wf sd) {x0 : Int32} (hd : decode cc pc = .ok (.i2l, 1))  (K : GF p l e R s m args below meth c nL D cy ad A cs sl wf QF fin F (pc + 1) lv (.long x0.toInt64 :: st) M) : GF p l e R s m args below meth c nL D cy ad A cs sl wf QF fin F pc lv (.int x0 :: st) M := fun x hx H locs ls hl hP hS => lv_i2l X.1.1 X.1.2.1 hd rfl (K x hx H locs ls hl hP hS)
theorem g_l2i (X : Cx p s m args meth c cc nL own D cy ad A wf sd) {x0 : Int64} (hd : decode cc pc = .ok (.l2i, 1))  (K : GF p l e R s m args below meth c nL D cy ad A cs sl wf QF fin F (pc + 1) lv (.int x0.toInt32 :: st) M) : GF p l e R s m args below meth c nL D cy ad A cs sl wf QF fin F pc lv (.long x0 :: st) M := fun x hx H locs ls hl hP hS => lv_l2i X.1.1 X.1.2.1 hd rfl (K x hx H locs ls hl hP hS)
theorem g_i2b (X : Cx p s m args meth c cc nL own D cy ad A wf sd) {x0 : Int32} (hd : decode cc pc = .ok (.i2b, 1))  (K : GF p l e R s m args below meth c nL D cy ad A cs sl wf QF fin F (pc + 1) lv (.int x0.toInt8.toInt32 :: st) M) : GF p l e R s m args below meth c nL D cy ad A cs sl wf QF fin F pc lv (.int x0 :: st) M := fun x hx H locs ls hl hP hS => lv_i2b X.1.1 X.1.2.1 hd rfl (K x hx H locs ls hl hP hS)
theorem g_i2s (X : Cx p s m args meth c cc nL own D cy ad A wf sd) {x0 : Int32} (hd : decode cc pc = .ok (.i2s, 1))  (K : GF p l e R s m args below meth c nL D cy ad A cs sl wf QF fin F (pc + 1) lv (.int x0.toInt16.toInt32 :: st) M) : GF p l e R s m args below meth c nL D cy ad A cs sl wf QF fin F pc lv (.int x0 :: st) M := fun x hx H locs ls hl hP hS => lv_i2s X.1.1 X.1.2.1 hd rfl (K x hx H locs ls hl hP hS)
theorem g_lcmp (X : Cx p s m args meth c cc nL own D cy ad A wf sd) {x0 y0 : Int64} (hd : decode cc pc = .ok (.lcmp, 1))  (K : GF p l e R s m args below meth c nL D cy ad A cs sl wf QF fin F (pc + 1) lv (.int (lg_cmp x0 y0) :: st) M) : GF p l e R s m args below meth c nL D cy ad A cs sl wf QF fin F pc lv (.long y0 :: .long x0 :: st) M := fun x hx H locs ls hl hP hS => W.lcmp X.1.1 X.1.2.1 hd (K x hx H locs ls hl hP hS)
theorem g_dup (X : Cx p s m args meth c cc nL own D cy ad A wf sd) {va : Value}  (hd : decode cc pc = .ok (.dup, 1)) (hva : va.category = 1) (K : GF p l e R s m args below meth c nL D cy ad A cs sl wf QF fin F (pc + 1) lv (va :: va :: st) M) : GF p l e R s m args below meth c nL D cy ad A cs sl wf QF fin F pc lv (va :: st) M := fun x hx H locs ls hl hP hS => lv_dup X.1.1 X.1.2.1 hd hva (K x hx H locs ls hl hP hS)
theorem g_pop (X : Cx p s m args meth c cc nL own D cy ad A wf sd) {va : Value}  (hd : decode cc pc = .ok (.pop, 1)) (hva : va.category = 1) (K : GF p l e R s m args below meth c nL D cy ad A cs sl wf QF fin F (pc + 1) lv (st) M) : GF p l e R s m args below meth c nL D cy ad A cs sl wf QF fin F pc lv (va :: st) M := fun x hx H locs ls hl hP hS => lv_pop X.1.1 X.1.2.1 hd hva (K x hx H locs ls hl hP hS)
theorem g_dup_x1 (X : Cx p s m args meth c cc nL own D cy ad A wf sd) {va vb : Value}  (hd : decode cc pc = .ok (.dup_x1, 1)) (hva : va.category = 1) (hvb : vb.category = 1) (K : GF p l e R s m args below meth c nL D cy ad A cs sl wf QF fin F (pc + 1) lv (va :: vb :: va :: st) M) : GF p l e R s m args below meth c nL D cy ad A cs sl wf QF fin F pc lv (va :: vb :: st) M := fun x hx H locs ls hl hP hS => lv_dup_x1 X.1.1 X.1.2.1 hd hva hvb (K x hx H locs ls hl hP hS)
theorem g_dup_x2 (X : Cx p s m args meth c cc nL own D cy ad A wf sd) {va vb vd : Value}  (hd : decode cc pc = .ok (.dup_x2, 1)) (hva : va.category = 1) (hvb : vb.category = 1) (hvd : vd.category = 1) (K : GF p l e R s m args below meth c nL D cy ad A cs sl wf QF fin F (pc + 1) lv (va :: vb :: vd :: va :: st) M) : GF p l e R s m args below meth c nL D cy ad A cs sl wf QF fin F pc lv (va :: vb :: vd :: st) M := fun x hx H locs ls hl hP hS => lv_dup_x2 X.1.1 X.1.2.1 hd hva hvb hvd (K x hx H locs ls hl hP hS)
theorem g_dup2 (X : Cx p s m args meth c cc nL own D cy ad A wf sd) {va vb : Value}  (hd : decode cc pc = .ok (.dup2, 1)) (hva : va.category = 1) (hvb : vb.category = 1) (K : GF p l e R s m args below meth c nL D cy ad A cs sl wf QF fin F (pc + 1) lv (va :: vb :: va :: vb :: st) M) : GF p l e R s m args below meth c nL D cy ad A cs sl wf QF fin F pc lv (va :: vb :: st) M := fun x hx H locs ls hl hP hS => lv_dup2_11 X.1.1 X.1.2.1 hd hva hvb (K x hx H locs ls hl hP hS)
theorem g_ldc (X : Cx p s m args meth c cc nL own D cy ad A wf sd) {n : Nat} {v : Int32}  (hd : decode cc pc = .ok (.ldc n, 2)) (hw : Cond.constant own n v ∈ TB) (K : GF p l e R s m args below meth c nL D cy ad A cs sl wf QF fin F (pc + 2) lv (.int v :: st) M) : GF p l e R s m args below meth c nL D cy ad A cs sl wf QF fin F pc lv (st) M := fun x hx H locs ls hl hP hS => lv_ldc X.1.1 X.1.2.1 X.1.2.2.2.1 (X.2.1 _ hw) hd (K x hx H locs ls hl hP hS)
theorem g_ldc2 (X : Cx p s m args meth c cc nL own D cy ad A wf sd) {n : Nat} {v : Int64}  (hd : decode cc pc = .ok (.ldc2_w n, 3)) (hw : Cond.constantLong own n v ∈ TB) (K : GF p l e R s m args below meth c nL D cy ad A cs sl wf QF fin F (pc + 3) lv (.long v :: st) M) : GF p l e R s m args below meth c nL D cy ad A cs sl wf QF fin F pc lv (st) M := fun x hx H locs ls hl hP hS => lv_ldc2 X.1.1 X.1.2.1 X.1.2.2.2.1 (X.2.1 _ hw) hd (K x hx H locs ls hl hP hS)
theorem g_goto (X : Cx p s m args meth c cc nL own D cy ad A wf sd) {off : Int} (tgt : Nat) (ht : (pc : Int) + off = (tgt : Int)) (hd : decode cc pc = .ok (.goto off, 3)) (K : GF p l e R s m args below meth c nL D cy ad A cs sl wf QF fin F tgt lv st M) : GF p l e R s m args below meth c nL D cy ad A cs sl wf QF fin F pc lv st M := fun x hx H locs ls hl hP hS => lv_goto X.1.1 X.1.2.1 hd ht (K x hx H locs ls hl hP hS)
theorem ite_t {α : Type} {c : Prop} [Decidable c] {a b : Option α} {x : α} (h : (if c then a else b) = some x) (hc : c) : a = some x := by rw [if_pos hc] at h; exact h
theorem ite_f {α : Type} {c : Prop} [Decidable c] {a b : Option α} {x : α} (h : (if c then a else b) = some x) (hc : ¬ c) : b = some x := by rw [if_neg hc] at h; exact h
theorem g_if_eq (X : Cx p s m args meth c cc nL own D cy ad A wf sd) {x0 : Int32} {off : Int} (tgt : Nat) {A1 B1 : Option α} (ht : (pc : Int) + off = (tgt : Int)) (hd : decode cc pc = .ok (.ifCond .eq off, 3)) (K1 : x0 = 0 → GF p l e R s m args below meth c nL D cy ad A cs sl wf QF fin A1 tgt lv st M) (K2 : ¬ (x0 = 0) → GF p l e R s m args below meth c nL D cy ad A cs sl wf QF fin B1 (pc + 3) lv st M) : GF p l e R s m args below meth c nL D cy ad A cs sl wf QF fin (if x0 = 0 then A1 else B1) pc lv (.int x0 :: st) M := fun x hx H locs ls hl hP hS => lv_if_eq X.1.1 X.1.2.1 hd ht (fun q => K1 q x (ite_t hx q) H locs ls hl hP hS) (fun q => K2 q x (ite_f hx q) H locs ls hl hP hS)
theorem g_if_eqT (X : Cx p s m args meth c cc nL own D cy ad A wf sd) {x0 : Int32} {off : Int} (tgt : Nat) (q0 : x0 = 0) (ht : (pc : Int) + off = (tgt : Int)) (hd : decode cc pc = .ok (.ifCond .eq off, 3)) (K : GF p l e R s m args below meth c nL D cy ad A cs sl wf QF fin F tgt lv st M) : GF p l e R s m args below meth c nL D cy ad A cs sl wf QF fin F pc lv (.int x0 :: st) M := fun x hx H locs ls hl hP hS => lv_if_eq X.1.1 X.1.2.1 hd ht (fun _ => K x hx H locs ls hl hP hS) (fun q => absurd q0 q)
theorem g_if_eqF (X : Cx p s m args meth c cc nL own D cy ad A wf sd) {x0 : Int32} {off : Int} (tgt : Nat) (q0 : ¬ (x0 = 0)) (ht : (pc : Int) + off = (tgt : Int)) (hd : decode cc pc = .ok (.ifCond .eq off, 3)) (K : GF p l e R s m args below meth c nL D cy ad A cs sl wf QF fin F (pc + 3) lv st M) : GF p l e R s m args below meth c nL D cy ad A cs sl wf QF fin F pc lv (.int x0 :: st) M := fun x hx H locs ls hl hP hS => lv_if_eq X.1.1 X.1.2.1 hd ht (fun q => absurd q q0) (fun _ => K x hx H locs ls hl hP hS)
theorem g_icmp_eq (X : Cx p s m args meth c cc nL own D cy ad A wf sd) {x0 y0 : Int32} {off : Int} (tgt : Nat) {A1 B1 : Option α} (ht : (pc : Int) + off = (tgt : Int)) (hd : decode cc pc = .ok (.if_icmp .eq off, 3)) (K1 : x0 = y0 → GF p l e R s m args below meth c nL D cy ad A cs sl wf QF fin A1 tgt lv st M) (K2 : ¬ (x0 = y0) → GF p l e R s m args below meth c nL D cy ad A cs sl wf QF fin B1 (pc + 3) lv st M) : GF p l e R s m args below meth c nL D cy ad A cs sl wf QF fin (if x0 = y0 then A1 else B1) pc lv (.int y0 :: .int x0 :: st) M := fun x hx H locs ls hl hP hS => lv_icmp_eq X.1.1 X.1.2.1 hd ht (fun q => K1 q x (ite_t hx q) H locs ls hl hP hS) (fun q => K2 q x (ite_f hx q) H locs ls hl hP hS)
theorem g_icmp_eqT (X : Cx p s m args meth c cc nL own D cy ad A wf sd) {x0 y0 : Int32} {off : Int} (tgt : Nat) (q0 : x0 = y0) (ht : (pc : Int) + off = (tgt : Int)) (hd : decode cc pc = .ok (.if_icmp .eq off, 3)) (K : GF p l e R s m args below meth c nL D cy ad A cs sl wf QF fin F tgt lv st M) : GF p l e R s m args below meth c nL D cy ad A cs sl wf QF fin F pc lv (.int y0 :: .int x0 :: st) M := fun x hx H locs ls hl hP hS => lv_icmp_eq X.1.1 X.1.2.1 hd ht (fun _ => K x hx H locs ls hl hP hS) (fun q => absurd q0 q)
theorem g_icmp_eqF (X : Cx p s m args meth c cc nL own D cy ad A wf sd) {x0 y0 : Int32} {off : Int} (tgt : Nat) (q0 : ¬ (x0 = y0)) (ht : (pc : Int) + off = (tgt : Int)) (hd : decode cc pc = .ok (.if_icmp .eq off, 3)) (K : GF p l e R s m args below meth c nL D cy ad A cs sl wf QF fin F (pc + 3) lv st M) : GF p l e R s m args below meth c nL D cy ad A cs sl wf QF fin F pc lv (.int y0 :: .int x0 :: st) M := fun x hx H locs ls hl hP hS => lv_icmp_eq X.1.1 X.1.2.1 hd ht (fun q => absurd q q0) (fun _ => K x hx H locs ls hl hP hS)
theorem g_if_ne (X : Cx p s m args meth c cc nL own D cy ad A wf sd) {x0 : Int32} {off : Int} (tgt : Nat) {A1 B1 : Option α} (ht : (pc : Int) + off = (tgt : Int)) (hd : decode cc pc = .ok (.ifCond .ne off, 3)) (K1 : ¬ (x0 = 0) → GF p l e R s m args below meth c nL D cy ad A cs sl wf QF fin A1 tgt lv st M) (K2 : x0 = 0 → GF p l e R s m args below meth c nL D cy ad A cs sl wf QF fin B1 (pc + 3) lv st M) : GF p l e R s m args below meth c nL D cy ad A cs sl wf QF fin (if x0 = 0 then B1 else A1) pc lv (.int x0 :: st) M := fun x hx H locs ls hl hP hS => lv_if_ne X.1.1 X.1.2.1 hd ht (fun q => K1 q x (ite_f hx q) H locs ls hl hP hS) (fun q => K2 q x (ite_t hx q) H locs ls hl hP hS)
theorem g_if_neT (X : Cx p s m args meth c cc nL own D cy ad A wf sd) {x0 : Int32} {off : Int} (tgt : Nat) (q0 : ¬ (x0 = 0)) (ht : (pc : Int) + off = (tgt : Int)) (hd : decode cc pc = .ok (.ifCond .ne off, 3)) (K : GF p l e R s m args below meth c nL D cy ad A cs sl wf QF fin F tgt lv st M) : GF p l e R s m args below meth c nL D cy ad A cs sl wf QF fin F pc lv (.int x0 :: st) M := fun x hx H locs ls hl hP hS => lv_if_ne X.1.1 X.1.2.1 hd ht (fun _ => K x hx H locs ls hl hP hS) (fun q => absurd q q0)
theorem g_if_neF (X : Cx p s m args meth c cc nL own D cy ad A wf sd) {x0 : Int32} {off : Int} (tgt : Nat) (q0 : x0 = 0) (ht : (pc : Int) + off = (tgt : Int)) (hd : decode cc pc = .ok (.ifCond .ne off, 3)) (K : GF p l e R s m args below meth c nL D cy ad A cs sl wf QF fin F (pc + 3) lv st M) : GF p l e R s m args below meth c nL D cy ad A cs sl wf QF fin F pc lv (.int x0 :: st) M := fun x hx H locs ls hl hP hS => lv_if_ne X.1.1 X.1.2.1 hd ht (fun q => absurd q0 q) (fun _ => K x hx H locs ls hl hP hS)
theorem g_icmp_ne (X : Cx p s m args meth c cc nL own D cy ad A wf sd) {x0 y0 : Int32} {off : Int} (tgt : Nat) {A1 B1 : Option α} (ht : (pc : Int) + off = (tgt : Int)) (hd : decode cc pc = .ok (.if_icmp .ne off, 3)) (K1 : ¬ (x0 = y0) → GF p l e R s m args below meth c nL D cy ad A cs sl wf QF fin A1 tgt lv st M) (K2 : x0 = y0 → GF p l e R s m args below meth c nL D cy ad A cs sl wf QF fin B1 (pc + 3) lv st M) : GF p l e R s m args below meth c nL D cy ad A cs sl wf QF fin (if x0 = y0 then B1 else A1) pc lv (.int y0 :: .int x0 :: st) M := fun x hx H locs ls hl hP hS => lv_icmp_ne X.1.1 X.1.2.1 hd ht (fun q => K1 q x (ite_f hx q) H locs ls hl hP hS) (fun q => K2 q x (ite_t hx q) H locs ls hl hP hS)
theorem g_icmp_neT (X : Cx p s m args meth c cc nL own D cy ad A wf sd) {x0 y0 : Int32} {off : Int} (tgt : Nat) (q0 : ¬ (x0 = y0)) (ht : (pc : Int) + off = (tgt : Int)) (hd : decode cc pc = .ok (.if_icmp .ne off, 3)) (K : GF p l e R s m args below meth c nL D cy ad A cs sl wf QF fin F tgt lv st M) : GF p l e R s m args below meth c nL D cy ad A cs sl wf QF fin F pc lv (.int y0 :: .int x0 :: st) M := fun x hx H locs ls hl hP hS => lv_icmp_ne X.1.1 X.1.2.1 hd ht (fun _ => K x hx H locs ls hl hP hS) (fun q => absurd q q0)
theorem g_icmp_neF (X : Cx p s m args meth c cc nL own D cy ad A wf sd) {x0 y0 : Int32} {off : Int} (tgt : Nat) (q0 : x0 = y0) (ht : (pc : Int) + off = (tgt : Int)) (hd : decode cc pc = .ok (.if_icmp .ne off, 3)) (K : GF p l e R s m args below meth c nL D cy ad A cs sl wf QF fin F (pc + 3) lv st M) : GF p l e R s m args below meth c nL D cy ad A cs sl wf QF fin F pc lv (.int y0 :: .int x0 :: st) M := fun x hx H locs ls hl hP hS => lv_icmp_ne X.1.1 X.1.2.1 hd ht (fun q => absurd q0 q) (fun _ => K x hx H locs ls hl hP hS)
theorem g_if_lt (X : Cx p s m args meth c cc nL own D cy ad A wf sd) {x0 : Int32} {off : Int} (tgt : Nat) {A1 B1 : Option α} (ht : (pc : Int) + off = (tgt : Int)) (hd : decode cc pc = .ok (.ifCond .lt off, 3)) (K1 : x0 < 0 → GF p l e R s m args below meth c nL D cy ad A cs sl wf QF fin A1 tgt lv st M) (K2 : ¬ (x0 < 0) → GF p l e R s m args below meth c nL D cy ad A cs sl wf QF fin B1 (pc + 3) lv st M) : GF p l e R s m args below meth c nL D cy ad A cs sl wf QF fin (if x0 < 0 then A1 else B1) pc lv (.int x0 :: st) M := fun x hx H locs ls hl hP hS => lv_if_lt X.1.1 X.1.2.1 hd ht (fun q => K1 q x (ite_t hx q) H locs ls hl hP hS) (fun q => K2 q x (ite_f hx q) H locs ls hl hP hS)
theorem g_if_ltT (X : Cx p s m args meth c cc nL own D cy ad A wf sd) {x0 : Int32} {off : Int} (tgt : Nat) (q0 : x0 < 0) (ht : (pc : Int) + off = (tgt : Int)) (hd : decode cc pc = .ok (.ifCond .lt off, 3)) (K : GF p l e R s m args below meth c nL D cy ad A cs sl wf QF fin F tgt lv st M) : GF p l e R s m args below meth c nL D cy ad A cs sl wf QF fin F pc lv (.int x0 :: st) M := fun x hx H locs ls hl hP hS => lv_if_lt X.1.1 X.1.2.1 hd ht (fun _ => K x hx H locs ls hl hP hS) (fun q => absurd q0 q)
theorem g_if_ltF (X : Cx p s m args meth c cc nL own D cy ad A wf sd) {x0 : Int32} {off : Int} (tgt : Nat) (q0 : ¬ (x0 < 0)) (ht : (pc : Int) + off = (tgt : Int)) (hd : decode cc pc = .ok (.ifCond .lt off, 3)) (K : GF p l e R s m args below meth c nL D cy ad A cs sl wf QF fin F (pc + 3) lv st M) : GF p l e R s m args below meth c nL D cy ad A cs sl wf QF fin F pc lv (.int x0 :: st) M := fun x hx H locs ls hl hP hS => lv_if_lt X.1.1 X.1.2.1 hd ht (fun q => absurd q q0) (fun _ => K x hx H locs ls hl hP hS)
theorem g_icmp_lt (X : Cx p s m args meth c cc nL own D cy ad A wf sd) {x0 y0 : Int32} {off : Int} (tgt : Nat) {A1 B1 : Option α} (ht : (pc : Int) + off = (tgt : Int)) (hd : decode cc pc = .ok (.if_icmp .lt off, 3)) (K1 : x0 < y0 → GF p l e R s m args below meth c nL D cy ad A cs sl wf QF fin A1 tgt lv st M) (K2 : ¬ (x0 < y0) → GF p l e R s m args below meth c nL D cy ad A cs sl wf QF fin B1 (pc + 3) lv st M) : GF p l e R s m args below meth c nL D cy ad A cs sl wf QF fin (if x0 < y0 then A1 else B1) pc lv (.int y0 :: .int x0 :: st) M := fun x hx H locs ls hl hP hS => lv_icmp_lt X.1.1 X.1.2.1 hd ht (fun q => K1 q x (ite_t hx q) H locs ls hl hP hS) (fun q => K2 q x (ite_f hx q) H locs ls hl hP hS)
theorem g_icmp_ltT (X : Cx p s m args meth c cc nL own D cy ad A wf sd) {x0 y0 : Int32} {off : Int} (tgt : Nat) (q0 : x0 < y0) (ht : (pc : Int) + off = (tgt : Int)) (hd : decode cc pc = .ok (.if_icmp .lt off, 3)) (K : GF p l e R s m args below meth c nL D cy ad A cs sl wf QF fin F tgt lv st M) : GF p l e R s m args below meth c nL D cy ad A cs sl wf QF fin F pc lv (.int y0 :: .int x0 :: st) M := fun x hx H locs ls hl hP hS => lv_icmp_lt X.1.1 X.1.2.1 hd ht (fun _ => K x hx H locs ls hl hP hS) (fun q => absurd q0 q)
theorem g_icmp_ltF (X : Cx p s m args meth c cc nL own D cy ad A wf sd) {x0 y0 : Int32} {off : Int} (tgt : Nat) (q0 : ¬ (x0 < y0)) (ht : (pc : Int) + off = (tgt : Int)) (hd : decode cc pc = .ok (.if_icmp .lt off, 3)) (K : GF p l e R s m args below meth c nL D cy ad A cs sl wf QF fin F (pc + 3) lv st M) : GF p l e R s m args below meth c nL D cy ad A cs sl wf QF fin F pc lv (.int y0 :: .int x0 :: st) M := fun x hx H locs ls hl hP hS => lv_icmp_lt X.1.1 X.1.2.1 hd ht (fun q => absurd q q0) (fun _ => K x hx H locs ls hl hP hS)
theorem g_if_ge (X : Cx p s m args meth c cc nL own D cy ad A wf sd) {x0 : Int32} {off : Int} (tgt : Nat) {A1 B1 : Option α} (ht : (pc : Int) + off = (tgt : Int)) (hd : decode cc pc = .ok (.ifCond .ge off, 3)) (K1 : 0 ≤ x0 → GF p l e R s m args below meth c nL D cy ad A cs sl wf QF fin A1 tgt lv st M) (K2 : ¬ (0 ≤ x0) → GF p l e R s m args below meth c nL D cy ad A cs sl wf QF fin B1 (pc + 3) lv st M) : GF p l e R s m args below meth c nL D cy ad A cs sl wf QF fin (if 0 ≤ x0 then A1 else B1) pc lv (.int x0 :: st) M := fun x hx H locs ls hl hP hS => lv_if_ge X.1.1 X.1.2.1 hd ht (fun q => K1 q x (ite_t hx q) H locs ls hl hP hS) (fun q => K2 q x (ite_f hx q) H locs ls hl hP hS)
theorem g_if_geT (X : Cx p s m args meth c cc nL own D cy ad A wf sd) {x0 : Int32} {off : Int} (tgt : Nat) (q0 : 0 ≤ x0) (ht : (pc : Int) + off = (tgt : Int)) (hd : decode cc pc = .ok (.ifCond .ge off, 3)) (K : GF p l e R s m args below meth c nL D cy ad A cs sl wf QF fin F tgt lv st M) : GF p l e R s m args below meth c nL D cy ad A cs sl wf QF fin F pc lv (.int x0 :: st) M := fun x hx H locs ls hl hP hS => lv_if_ge X.1.1 X.1.2.1 hd ht (fun _ => K x hx H locs ls hl hP hS) (fun q => absurd q0 q)
theorem g_if_geF (X : Cx p s m args meth c cc nL own D cy ad A wf sd) {x0 : Int32} {off : Int} (tgt : Nat) (q0 : ¬ (0 ≤ x0)) (ht : (pc : Int) + off = (tgt : Int)) (hd : decode cc pc = .ok (.ifCond .ge off, 3)) (K : GF p l e R s m args below meth c nL D cy ad A cs sl wf QF fin F (pc + 3) lv st M) : GF p l e R s m args below meth c nL D cy ad A cs sl wf QF fin F pc lv (.int x0 :: st) M := fun x hx H locs ls hl hP hS => lv_if_ge X.1.1 X.1.2.1 hd ht (fun q => absurd q q0) (fun _ => K x hx H locs ls hl hP hS)
theorem g_icmp_ge (X : Cx p s m args meth c cc nL own D cy ad A wf sd) {x0 y0 : Int32} {off : Int} (tgt : Nat) {A1 B1 : Option α} (ht : (pc : Int) + off = (tgt : Int)) (hd : decode cc pc = .ok (.if_icmp .ge off, 3)) (K1 : y0 ≤ x0 → GF p l e R s m args below meth c nL D cy ad A cs sl wf QF fin A1 tgt lv st M) (K2 : ¬ (y0 ≤ x0) → GF p l e R s m args below meth c nL D cy ad A cs sl wf QF fin B1 (pc + 3) lv st M) : GF p l e R s m args below meth c nL D cy ad A cs sl wf QF fin (if y0 ≤ x0 then A1 else B1) pc lv (.int y0 :: .int x0 :: st) M := fun x hx H locs ls hl hP hS => lv_icmp_ge X.1.1 X.1.2.1 hd ht (fun q => K1 q x (ite_t hx q) H locs ls hl hP hS) (fun q => K2 q x (ite_f hx q) H locs ls hl hP hS)
theorem g_icmp_geT (X : Cx p s m args meth c cc nL own D cy ad A wf sd) {x0 y0 : Int32} {off : Int} (tgt : Nat) (q0 : y0 ≤ x0) (ht : (pc : Int) + off = (tgt : Int)) (hd : decode cc pc = .ok (.if_icmp .ge off, 3)) (K : GF p l e R s m args below meth c nL D cy ad A cs sl wf QF fin F tgt lv st M) : GF p l e R s m args below meth c nL D cy ad A cs sl wf QF fin F pc lv (.int y0 :: .int x0 :: st) M := fun x hx H locs ls hl hP hS => lv_icmp_ge X.1.1 X.1.2.1 hd ht (fun _ => K x hx H locs ls hl hP hS) (fun q => absurd q0 q)
theorem g_icmp_geF (X : Cx p s m args meth c cc nL own D cy ad A wf sd) {x0 y0 : Int32} {off : Int} (tgt : Nat) (q0 : ¬ (y0 ≤ x0)) (ht : (pc : Int) + off = (tgt : Int)) (hd : decode cc pc = .ok (.if_icmp .ge off, 3)) (K : GF p l e R s m args below meth c nL D cy ad A cs sl wf QF fin F (pc + 3) lv st M) : GF p l e R s m args below meth c nL D cy ad A cs sl wf QF fin F pc lv (.int y0 :: .int x0 :: st) M := fun x hx H locs ls hl hP hS => lv_icmp_ge X.1.1 X.1.2.1 hd ht (fun q => absurd q q0) (fun _ => K x hx H locs ls hl hP hS)
theorem g_if_gt (X : Cx p s m args meth c cc nL own D cy ad A wf sd) {x0 : Int32} {off : Int} (tgt : Nat) {A1 B1 : Option α} (ht : (pc : Int) + off = (tgt : Int)) (hd : decode cc pc = .ok (.ifCond .gt off, 3)) (K1 : 0 < x0 → GF p l e R s m args below meth c nL D cy ad A cs sl wf QF fin A1 tgt lv st M) (K2 : ¬ (0 < x0) → GF p l e R s m args below meth c nL D cy ad A cs sl wf QF fin B1 (pc + 3) lv st M) : GF p l e R s m args below meth c nL D cy ad A cs sl wf QF fin (if 0 < x0 then A1 else B1) pc lv (.int x0 :: st) M := fun x hx H locs ls hl hP hS => lv_if_gt X.1.1 X.1.2.1 hd ht (fun q => K1 q x (ite_t hx q) H locs ls hl hP hS) (fun q => K2 q x (ite_f hx q) H locs ls hl hP hS)
theorem g_if_gtT (X : Cx p s m args meth c cc nL own D cy ad A wf sd) {x0 : Int32} {off : Int} (tgt : Nat) (q0 : 0 < x0) (ht : (pc : Int) + off = (tgt : Int)) (hd : decode cc pc = .ok (.ifCond .gt off, 3)) (K : GF p l e R s m args below meth c nL D cy ad A cs sl wf QF fin F tgt lv st M) : GF p l e R s m args below meth c nL D cy ad A cs sl wf QF fin F pc lv (.int x0 :: st) M := fun x hx H locs ls hl hP hS => lv_if_gt X.1.1 X.1.2.1 hd ht (fun _ => K x hx H locs ls hl hP hS) (fun q => absurd q0 q)
theorem g_if_gtF (X : Cx p s m args meth c cc nL own D cy ad A wf sd) {x0 : Int32} {off : Int} (tgt : Nat) (q0 : ¬ (0 < x0)) (ht : (pc : Int) + off = (tgt : Int)) (hd : decode cc pc = .ok (.ifCond .gt off, 3)) (K : GF p l e R s m args below meth c nL D cy ad A cs sl wf QF fin F (pc + 3) lv st M) : GF p l e R s m args below meth c nL D cy ad A cs sl wf QF fin F pc lv (.int x0 :: st) M := fun x hx H locs ls hl hP hS => lv_if_gt X.1.1 X.1.2.1 hd ht (fun q => absurd q q0) (fun _ => K x hx H locs ls hl hP hS)
theorem g_icmp_gt (X : Cx p s m args meth c cc nL own D cy ad A wf sd) {x0 y0 : Int32} {off : Int} (tgt : Nat) {A1 B1 : Option α} (ht : (pc : Int) + off = (tgt : Int)) (hd : decode cc pc = .ok (.if_icmp .gt off, 3)) (K1 : y0 < x0 → GF p l e R s m args below meth c nL D cy ad A cs sl wf QF fin A1 tgt lv st M) (K2 : ¬ (y0 < x0) → GF p l e R s m args below meth c nL D cy ad A cs sl wf QF fin B1 (pc + 3) lv st M) : GF p l e R s m args below meth c nL D cy ad A cs sl wf QF fin (if y0 < x0 then A1 else B1) pc lv (.int y0 :: .int x0 :: st) M := fun x hx H locs ls hl hP hS => lv_icmp_gt X.1.1 X.1.2.1 hd ht (fun q => K1 q x (ite_t hx q) H locs ls hl hP hS) (fun q => K2 q x (ite_f hx q) H locs ls hl hP hS)
theorem g_icmp_gtT (X : Cx p s m args meth c cc nL own D cy ad A wf sd) {x0 y0 : Int32} {off : Int} (tgt : Nat) (q0 : y0 < x0) (ht : (pc : Int) + off = (tgt : Int)) (hd : decode cc pc = .ok (.if_icmp .gt off, 3)) (K : GF p l e R s m args below meth c nL D cy ad A cs sl wf QF fin F tgt lv st M) : GF p l e R s m args below meth c nL D cy ad A cs sl wf QF fin F pc lv (.int y0 :: .int x0 :: st) M := fun x hx H locs ls hl hP hS => lv_icmp_gt X.1.1 X.1.2.1 hd ht (fun _ => K x hx H locs ls hl hP hS) (fun q => absurd q0 q)
theorem g_icmp_gtF (X : Cx p s m args meth c cc nL own D cy ad A wf sd) {x0 y0 : Int32} {off : Int} (tgt : Nat) (q0 : ¬ (y0 < x0)) (ht : (pc : Int) + off = (tgt : Int)) (hd : decode cc pc = .ok (.if_icmp .gt off, 3)) (K : GF p l e R s m args below meth c nL D cy ad A cs sl wf QF fin F (pc + 3) lv st M) : GF p l e R s m args below meth c nL D cy ad A cs sl wf QF fin F pc lv (.int y0 :: .int x0 :: st) M := fun x hx H locs ls hl hP hS => lv_icmp_gt X.1.1 X.1.2.1 hd ht (fun q => absurd q q0) (fun _ => K x hx H locs ls hl hP hS)
theorem g_if_le (X : Cx p s m args meth c cc nL own D cy ad A wf sd) {x0 : Int32} {off : Int} (tgt : Nat) {A1 B1 : Option α} (ht : (pc : Int) + off = (tgt : Int)) (hd : decode cc pc = .ok (.ifCond .le off, 3)) (K1 : x0 ≤ 0 → GF p l e R s m args below meth c nL D cy ad A cs sl wf QF fin A1 tgt lv st M) (K2 : ¬ (x0 ≤ 0) → GF p l e R s m args below meth c nL D cy ad A cs sl wf QF fin B1 (pc + 3) lv st M) : GF p l e R s m args below meth c nL D cy ad A cs sl wf QF fin (if x0 ≤ 0 then A1 else B1) pc lv (.int x0 :: st) M := fun x hx H locs ls hl hP hS => lv_if_le X.1.1 X.1.2.1 hd ht (fun q => K1 q x (ite_t hx q) H locs ls hl hP hS) (fun q => K2 q x (ite_f hx q) H locs ls hl hP hS)
theorem g_if_leT (X : Cx p s m args meth c cc nL own D cy ad A wf sd) {x0 : Int32} {off : Int} (tgt : Nat) (q0 : x0 ≤ 0) (ht : (pc : Int) + off = (tgt : Int)) (hd : decode cc pc = .ok (.ifCond .le off, 3)) (K : GF p l e R s m args below meth c nL D cy ad A cs sl wf QF fin F tgt lv st M) : GF p l e R s m args below meth c nL D cy ad A cs sl wf QF fin F pc lv (.int x0 :: st) M := fun x hx H locs ls hl hP hS => lv_if_le X.1.1 X.1.2.1 hd ht (fun _ => K x hx H locs ls hl hP hS) (fun q => absurd q0 q)
theorem g_if_leF (X : Cx p s m args meth c cc nL own D cy ad A wf sd) {x0 : Int32} {off : Int} (tgt : Nat) (q0 : ¬ (x0 ≤ 0)) (ht : (pc : Int) + off = (tgt : Int)) (hd : decode cc pc = .ok (.ifCond .le off, 3)) (K : GF p l e R s m args below meth c nL D cy ad A cs sl wf QF fin F (pc + 3) lv st M) : GF p l e R s m args below meth c nL D cy ad A cs sl wf QF fin F pc lv (.int x0 :: st) M := fun x hx H locs ls hl hP hS => lv_if_le X.1.1 X.1.2.1 hd ht (fun q => absurd q q0) (fun _ => K x hx H locs ls hl hP hS)
theorem g_icmp_le (X : Cx p s m args meth c cc nL own D cy ad A wf sd) {x0 y0 : Int32} {off : Int} (tgt : Nat) {A1 B1 : Option α} (ht : (pc : Int) + off = (tgt : Int)) (hd : decode cc pc = .ok (.if_icmp .le off, 3)) (K1 : x0 ≤ y0 → GF p l e R s m args below meth c nL D cy ad A cs sl wf QF fin A1 tgt lv st M) (K2 : ¬ (x0 ≤ y0) → GF p l e R s m args below meth c nL D cy ad A cs sl wf QF fin B1 (pc + 3) lv st M) : GF p l e R s m args below meth c nL D cy ad A cs sl wf QF fin (if x0 ≤ y0 then A1 else B1) pc lv (.int y0 :: .int x0 :: st) M := fun x hx H locs ls hl hP hS => lv_icmp_le X.1.1 X.1.2.1 hd ht (fun q => K1 q x (ite_t hx q) H locs ls hl hP hS) (fun q => K2 q x (ite_f hx q) H locs ls hl hP hS)
theorem g_icmp_leT (X : Cx p s m args meth c cc nL own D cy ad A wf sd) {x0 y0 : Int32} {off : Int} (tgt : Nat) (q0 : x0 ≤ y0) (ht : (pc : Int) + off = (tgt : Int)) (hd : decode cc pc = .ok (.if_icmp .le off, 3)) (K : GF p l e R s m args below meth c nL D cy ad A cs sl wf QF fin F tgt lv st M) : GF p l e R s m args below meth c nL D cy ad A cs sl wf QF fin F pc lv (.int y0 :: .int x0 :: st) M := fun x hx H locs ls hl hP hS => lv_icmp_le X.1.1 X.1.2.1 hd ht (fun _ => K x hx H locs ls hl hP hS) (fun q => absurd q0 q)
theorem g_icmp_leF (X : Cx p s m args meth c cc nL own D cy ad A wf sd) {x0 y0 : Int32} {off : Int} (tgt : Nat) (q0 : ¬ (x0 ≤ y0)) (ht : (pc : Int) + off = (tgt : Int)) (hd : decode cc pc = .ok (.if_icmp .le off, 3)) (K : GF p l e R s m args below meth c nL D cy ad A cs sl wf QF fin F (pc + 3) lv st M) : GF p l e R s m args below meth c nL D cy ad A cs sl wf QF fin F pc lv (.int y0 :: .int x0 :: st) M := fun x hx H locs ls hl hP hS => lv_icmp_le X.1.1 X.1.2.1 hd ht (fun q => absurd q q0) (fun _ => K x hx H locs ls hl hP hS)
theorem g_get (X : Cx p s m args meth c cc nL own D cy ad A wf sd) {k ci i N idx : Nat} {C : String} {T : u_T} {fs : List Value} {v : Value} (hk : sd k) (hm : mk cy ad (kd k) k (M.1 k) (M.2 k) = .inr (ci, fs)) (hc : vwCl[ci]? = some (C, T, N)) (hin : ∀ w ∈ u_ws C T N, w ∈ TB) (hi : i < N) (hT : (T i).1 = C) (hl : Cond.fieldLink own idx C (T i).2.1 (T i).2.2.1 ∈ TB) (hv : fs[i]? = some v) (hd : decode cc pc = .ok (.getfield idx, 3)) (K : GF p l e R s m args below meth c nL D cy ad A cs sl wf QF fin F (pc + 3) lv (v :: st) M) : GF p l e R s m args below meth c nL D cy ad A cs sl wf QF fin F pc lv (.ref (ad k) :: st) M := by
  intro x hx H locs ls hl0 hP hS
  obtain ⟨hk1, hk2⟩ := X.2.2.2 k hk
  obtain ⟨e1, e2, -, -⟩ := hk2 M
  refine va_get (ws := wd cy ad (wf M)) (fs := fs) (ref := C) (C := C) (T := T) (N := N) X.1.1 X.1.2.1 X.2.1 hin X.1.2.2.2.1 X.2.2.1.1 hP (ps k) (by rw [wd_get hk1, e1, e2, hm]) hc i hi (X.2.1 _ hl) (by rw [hT]; exact fun _ h => h) hv hd (K x hx H locs ls hl0 hP hS)
theorem g_put (X : Cx p s m args meth c cc nL own D cy ad A wf sd) {k ci i N idx : Nat} {C : String} {T : u_T} {fs : List Value} {v : Value} {ty : FieldType} {f : Nat → Int32} (hk : sd k) (hm : mk cy ad (kd k) k (M.1 k) (M.2 k) = .inr (ci, fs)) (hm2 : mk cy ad (kd k) k f (M.2 k) = .inr (ci, fs.set i v)) (hc : vwCl[ci]? = some (C, T, N)) (hin : ∀ w ∈ u_ws C T N, w ∈ TB) (ty0 : Nat → FieldType) (hty : ∀ k, k < N → parseFieldDescriptor (T k).2.2.1 = some (ty0 k)) (hnm : ∀ a, a < N → ∀ b, b < N → a ≠ b → (T a).2.1 ≠ (T b).2.1) (hi : i < N) (hT : (T i).1 = C) (hfin : (T i).2.2.2 = false) (hty1 : parseFieldDescriptor (T i).2.2.1 = some ty) (hn : narrow ty v = v) (hfit : fits ty v = true) (hlen : i < fs.length) (hl : Cond.fieldLink own idx C (T i).2.1 (T i).2.2.1 ∈ TB) (hd : decode cc pc = .ok (.putfield idx, 3)) (K : GF p l e R s m args below meth c nL D cy ad A cs sl wf QF fin F (pc + 3) lv st (rowI M k f)) : GF p l e R s m args below meth c nL D cy ad A cs sl wf QF fin F pc lv (v :: .ref (ad k) :: st) M := by
  intro x hx H locs ls hl0 hP hS
  obtain ⟨hk1, hk2⟩ := X.2.2.2 k hk
  obtain ⟨e1, e2, e3, -⟩ := hk2 M
  refine va_put (ws := wd cy ad (wf M)) (fs := fs) (ref := C) (C := C) (T := T) (N := N) (ty := ty) X.1.1 X.1.2.1 X.2.1 hin ty0 hty hnm X.1.2.2.2.1 X.2.2.1.1 hP (wd_D X.2.2.1.2.1 X.2.2.1.2.2.1) hS (ps k) (by rw [wd_get hk1, e1, e2, hm]) hc i hi (X.2.1 _ hl) (by rw [hT]; exact fun _ h => h) hfin hty1 hn hfit hlen hd (fun H1 locs1 hP1 hD1 hS1 => K x hx H1 locs1 ls hl0 ?_ hS1)
  rw [← hm2, ← e2, wd_setI hk1, e3] at hP1
  exact hP1
theorem mk_0 {cy : Nat → ClassId} {ad : Nat → Nat} {k : Nat} {r : Nat → Int32} {q : Nat → Int64} : mk cy ad 0 k r q = .inr (0, [.int (r 0), .int (r 1), .int (r 2), .int (r 3), .int (r 4)]) := rfl
theorem mk_1 {cy : Nat → ClassId} {ad : Nat → Nat} {k : Nat} {r : Nat → Int32} {q : Nat → Int64} : mk cy ad 1 k r q = .inr (1, [.ref (ad (k + 1)), .int (r 1), .ref (ad (k + 22)), .int (r 3), .int (r 4), .ref (ad (k + 37)), .int (r 7), .ref (ad (k + 44)), .ref (ad (k + 45)), .int (r 10), .ref (ad (k + 46)), .int (r 12), .int (r 13), .int (r 14), .int (r 15), .ref (ad (k + 47))]) := rfl
theorem mk_2 {cy : Nat → ClassId} {ad : Nat → Nat} {k : Nat} {r : Nat → Int32} {q : Nat → Int64} : mk cy ad 2 k r q = .inr (2, [.ref (ad (k + 7))]) := rfl
theorem mk_3 {cy : Nat → ClassId} {ad : Nat → Nat} {k : Nat} {r : Nat → Int32} {q : Nat → Int64} : mk cy ad 3 k r q = .inr (3, [.int (r 0), .int (r 1), .int (r 2)]) := rfl
theorem mk_4 {cy : Nat → ClassId} {ad : Nat → Nat} {k : Nat} {r : Nat → Int32} {q : Nat → Int64} : mk cy ad 4 k r q = .inr (4, [.ref (ad (k + 1)), .int (r 1), .int (r 2), lkv ad (r 3), .int (r 4), .int (r 5), .int (r 6), .ref (ad (k + 2)), .ref (ad (k + 3)), .ref (ad (k + 4))]) := rfl
theorem mk_5 {cy : Nat → ClassId} {ad : Nat → Nat} {k : Nat} {r : Nat → Int32} {q : Nat → Int64} : mk cy ad 5 k r q = .inr (5, [.int (r 0), .int (r 1), .int (r 2), .ref (ad (k + 8))]) := rfl
theorem mk_6 {cy : Nat → ClassId} {ad : Nat → Nat} {k : Nat} {r : Nat → Int32} {q : Nat → Int64} : mk cy ad 6 k r q = .inr (6, [.ref (ad (k + 1)), .int (r 1), .int (r 2)]) := rfl
theorem mk_7 {cy : Nat → ClassId} {ad : Nat → Nat} {k : Nat} {r : Nat → Int32} {q : Nat → Int64} : mk cy ad 7 k r q = .inr (7, [.int (r 0), .int (r 1), .int (r 2), .int (r 3), .ref (ad (k + 1)), .ref (ad (k + 2)), .ref (ad (k + 3)), .ref (ad (k + 4)), .ref (ad (k + 5)), .ref (ad (k + 6))]) := rfl
theorem mk_8 {cy : Nat → ClassId} {ad : Nat → Nat} {k : Nat} {r : Nat → Int32} {q : Nat → Int64} : mk cy ad 8 k r q = .inr (8, [.ref (ad (k + 1)), .ref (ad (k + 2)), .int (r 2)]) := rfl
theorem mk_9 {cy : Nat → ClassId} {ad : Nat → Nat} {k : Nat} {r : Nat → Int32} {q : Nat → Int64} : mk cy ad 9 k r q = .inr (9, [.int (r 0), .ref (ad (k + 1)), .int (r 2), .int (r 3), .int (r 4), .int (r 5), .int (r 6), .int (r 7)]) := rfl
theorem mk_10 {cy : Nat → ClassId} {ad : Nat → Nat} {k : Nat} {r : Nat → Int32} {q : Nat → Int64} : mk cy ad 10 k r q = .inr (10, [.ref (ad (k + 1)), .ref (ad (k + 18)), .ref (ad (k + 20)), .ref (ad (k + 69)), .int (r 4), .ref (ad (k + 118)), .ref (ad (k + 119)), .ref (ad (k + 122)), .ref (ad (k + 125)), .ref (ad (k + 130)), .ref (ad (k + 137))]) := rfl
theorem mk_11 {cy : Nat → ClassId} {ad : Nat → Nat} {k : Nat} {r : Nat → Int32} {q : Nat → Int64} : mk cy ad 11 k r q = .inr (11, [.ref (ad (k + 1)), .ref (ad (k + 2)), .ref (ad (k + 3)), .ref (ad (k + 4)), .ref (ad (k + 5)), .ref (ad (k + 6)), .ref (ad (k + 7)), .ref (ad (k + 8)), .int (r 8), .ref (ad (k + 9)), .ref (ad (k + 10)), .ref (ad (k + 11)), .ref (ad (k + 12)), .ref (ad (k + 13)), .ref (ad (k + 14)), .ref (ad (k + 15)), .ref (ad (k + 16)), .ref (ad (k + 17)), .ref (ad (k + 18)), .ref (ad (k + 19)), .ref (ad (k + 20)), .int (r 21), .ref (ad (k + 21)), .ref (ad (k + 22)), .ref (ad (k + 23)), .ref (ad (k + 24)), .ref (ad (k + 25)), .ref (ad (k + 26))]) := rfl
theorem get_0_0 (X : Cx p s m args meth c cc nL own D cy ad A wf sd) {k idx : Nat} (hk : kd k = 0) (hs : sd k) (hl : Cond.fieldLink own idx RX0 "kind" "I" ∈ TB) (hd : decode cc pc = .ok (.getfield idx, 3)) (K : GF p l e R s m args below meth c nL D cy ad A cs sl wf QF fin F (pc + 3) lv (.int (M.1 k 0) :: st) M) : GF p l e R s m args below meth c nL D cy ad A cs sl wf QF fin F pc lv (.ref (ad k) :: st) M := g_get X (C := RX0) (T := TX0) (N := 5) (i := 0) hs (by rw [hk]; exact mk_0) rfl inX0 (by decide) rfl hl rfl hd K
theorem put_0_0 (X : Cx p s m args meth c cc nL own D cy ad A wf sd) {k idx : Nat} {y0 : Int32} (hk : kd k = 0) (hs : sd k) (hl : Cond.fieldLink own idx RX0 "kind" "I" ∈ TB) (hd : decode cc pc = .ok (.putfield idx, 3)) (K : GF p l e R s m args below meth c nL D cy ad A cs sl wf QF fin F (pc + 3) lv st (wI M k 0 y0)) : GF p l e R s m args below meth c nL D cy ad A cs sl wf QF fin F pc lv (.int y0 :: .ref (ad k) :: st) M := g_put X (C := RX0) (T := TX0) (N := 5) (i := 0) (ty := .int) (f := upd (M.1 k) 0 y0) hs (by rw [hk]; exact mk_0) (by rw [hk]; exact mk_0) rfl inX0 tyX0 tyX0_ok nmX0 (by decide) rfl rfl (by decide +kernel) rfl rfl (by simp) hl hd K
theorem get_0_1 (X : Cx p s m args meth c cc nL own D cy ad A wf sd) {k idx : Nat} (hk : kd k = 0) (hs : sd k) (hl : Cond.fieldLink own idx RX0 "spot" "I" ∈ TB) (hd : decode cc pc = .ok (.getfield idx, 3)) (K : GF p l e R s m args below meth c nL D cy ad A cs sl wf QF fin F (pc + 3) lv (.int (M.1 k 1) :: st) M) : GF p l e R s m args below meth c nL D cy ad A cs sl wf QF fin F pc lv (.ref (ad k) :: st) M := g_get X (C := RX0) (T := TX0) (N := 5) (i := 1) hs (by rw [hk]; exact mk_0) rfl inX0 (by decide) rfl hl rfl hd K
theorem put_0_1 (X : Cx p s m args meth c cc nL own D cy ad A wf sd) {k idx : Nat} {y0 : Int32} (hk : kd k = 0) (hs : sd k) (hl : Cond.fieldLink own idx RX0 "spot" "I" ∈ TB) (hd : decode cc pc = .ok (.putfield idx, 3)) (K : GF p l e R s m args below meth c nL D cy ad A cs sl wf QF fin F (pc + 3) lv st (wI M k 1 y0)) : GF p l e R s m args below meth c nL D cy ad A cs sl wf QF fin F pc lv (.int y0 :: .ref (ad k) :: st) M := g_put X (C := RX0) (T := TX0) (N := 5) (i := 1) (ty := .int) (f := upd (M.1 k) 1 y0) hs (by rw [hk]; exact mk_0) (by rw [hk]; exact mk_0) rfl inX0 tyX0 tyX0_ok nmX0 (by decide) rfl rfl (by decide +kernel) rfl rfl (by simp) hl hd K
theorem get_0_2 (X : Cx p s m args meth c cc nL own D cy ad A wf sd) {k idx : Nat} (hk : kd k = 0) (hs : sd k) (hl : Cond.fieldLink own idx RX0 "length" "I" ∈ TB) (hd : decode cc pc = .ok (.getfield idx, 3)) (K : GF p l e R s m args below meth c nL D cy ad A cs sl wf QF fin F (pc + 3) lv (.int (M.1 k 2) :: st) M) : GF p l e R s m args below meth c nL D cy ad A cs sl wf QF fin F pc lv (.ref (ad k) :: st) M := g_get X (C := RX0) (T := TX0) (N := 5) (i := 2) hs (by rw [hk]; exact mk_0) rfl inX0 (by decide) rfl hl rfl hd K
theorem put_0_2 (X : Cx p s m args meth c cc nL own D cy ad A wf sd) {k idx : Nat} {y0 : Int32} (hk : kd k = 0) (hs : sd k) (hl : Cond.fieldLink own idx RX0 "length" "I" ∈ TB) (hd : decode cc pc = .ok (.putfield idx, 3)) (K : GF p l e R s m args below meth c nL D cy ad A cs sl wf QF fin F (pc + 3) lv st (wI M k 2 y0)) : GF p l e R s m args below meth c nL D cy ad A cs sl wf QF fin F pc lv (.int y0 :: .ref (ad k) :: st) M := g_put X (C := RX0) (T := TX0) (N := 5) (i := 2) (ty := .int) (f := upd (M.1 k) 2 y0) hs (by rw [hk]; exact mk_0) (by rw [hk]; exact mk_0) rfl inX0 tyX0 tyX0_ok nmX0 (by decide) rfl rfl (by decide +kernel) rfl rfl (by simp) hl hd K
theorem get_0_3 (X : Cx p s m args meth c cc nL own D cy ad A wf sd) {k idx : Nat} (hk : kd k = 0) (hs : sd k) (hl : Cond.fieldLink own idx RX0 "height" "I" ∈ TB) (hd : decode cc pc = .ok (.getfield idx, 3)) (K : GF p l e R s m args below meth c nL D cy ad A cs sl wf QF fin F (pc + 3) lv (.int (M.1 k 3) :: st) M) : GF p l e R s m args below meth c nL D cy ad A cs sl wf QF fin F pc lv (.ref (ad k) :: st) M := g_get X (C := RX0) (T := TX0) (N := 5) (i := 3) hs (by rw [hk]; exact mk_0) rfl inX0 (by decide) rfl hl rfl hd K
theorem put_0_3 (X : Cx p s m args meth c cc nL own D cy ad A wf sd) {k idx : Nat} {y0 : Int32} (hk : kd k = 0) (hs : sd k) (hl : Cond.fieldLink own idx RX0 "height" "I" ∈ TB) (hd : decode cc pc = .ok (.putfield idx, 3)) (K : GF p l e R s m args below meth c nL D cy ad A cs sl wf QF fin F (pc + 3) lv st (wI M k 3 y0)) : GF p l e R s m args below meth c nL D cy ad A cs sl wf QF fin F pc lv (.int y0 :: .ref (ad k) :: st) M := g_put X (C := RX0) (T := TX0) (N := 5) (i := 3) (ty := .int) (f := upd (M.1 k) 3 y0) hs (by rw [hk]; exact mk_0) (by rw [hk]; exact mk_0) rfl inX0 tyX0 tyX0_ok nmX0 (by decide) rfl rfl (by decide +kernel) rfl rfl (by simp) hl hd K
theorem get_0_4 (X : Cx p s m args meth c cc nL own D cy ad A wf sd) {k idx : Nat} (hk : kd k = 0) (hs : sd k) (hl : Cond.fieldLink own idx RX0 "isWet" "Z" ∈ TB) (hd : decode cc pc = .ok (.getfield idx, 3)) (K : GF p l e R s m args below meth c nL D cy ad A cs sl wf QF fin F (pc + 3) lv (.int (M.1 k 4) :: st) M) : GF p l e R s m args below meth c nL D cy ad A cs sl wf QF fin F pc lv (.ref (ad k) :: st) M := g_get X (C := RX0) (T := TX0) (N := 5) (i := 4) hs (by rw [hk]; exact mk_0) rfl inX0 (by decide) rfl hl rfl hd K
theorem put_0_4 (X : Cx p s m args meth c cc nL own D cy ad A wf sd) {k idx : Nat} {y0 : Int32} (hb : isB y0) (hk : kd k = 0) (hs : sd k) (hl : Cond.fieldLink own idx RX0 "isWet" "Z" ∈ TB) (hd : decode cc pc = .ok (.putfield idx, 3)) (K : GF p l e R s m args below meth c nL D cy ad A cs sl wf QF fin F (pc + 3) lv st (wI M k 4 y0)) : GF p l e R s m args below meth c nL D cy ad A cs sl wf QF fin F pc lv (.int y0 :: .ref (ad k) :: st) M := g_put X (C := RX0) (T := TX0) (N := 5) (i := 4) (ty := .boolean) (f := upd (M.1 k) 4 y0) hs (by rw [hk]; exact mk_0) (by rw [hk]; exact mk_0) rfl inX0 tyX0 tyX0_ok nmX0 (by decide) rfl rfl (by decide +kernel) (by rcases hb with rfl | rfl <;> rfl) (by rcases hb with rfl | rfl <;> rfl) (by simp) hl hd K
theorem get_1_0 (X : Cx p s m args meth c cc nL own D cy ad A wf sd) {k idx : Nat} (hk : kd k = 1) (hs : sd k) (hl : Cond.fieldLink own idx RX1 "jetties" "[LLettersLeaping$Jetty;" ∈ TB) (hd : decode cc pc = .ok (.getfield idx, 3)) (K : GF p l e R s m args below meth c nL D cy ad A cs sl wf QF fin F (pc + 3) lv (.ref (ad (k + 1)) :: st) M) : GF p l e R s m args below meth c nL D cy ad A cs sl wf QF fin F pc lv (.ref (ad k) :: st) M := g_get X (C := RX1) (T := TX1) (N := 16) (i := 0) hs (by rw [hk]; exact mk_1) rfl inX1 (by decide) rfl hl rfl hd K
theorem get_1_1 (X : Cx p s m args meth c cc nL own D cy ad A wf sd) {k idx : Nat} (hk : kd k = 1) (hs : sd k) (hl : Cond.fieldLink own idx RX1 "jettyCount" "I" ∈ TB) (hd : decode cc pc = .ok (.getfield idx, 3)) (K : GF p l e R s m args below meth c nL D cy ad A cs sl wf QF fin F (pc + 3) lv (.int (M.1 k 1) :: st) M) : GF p l e R s m args below meth c nL D cy ad A cs sl wf QF fin F pc lv (.ref (ad k) :: st) M := g_get X (C := RX1) (T := TX1) (N := 16) (i := 1) hs (by rw [hk]; exact mk_1) rfl inX1 (by decide) rfl hl rfl hd K
theorem put_1_1 (X : Cx p s m args meth c cc nL own D cy ad A wf sd) {k idx : Nat} {y0 : Int32} (hk : kd k = 1) (hs : sd k) (hl : Cond.fieldLink own idx RX1 "jettyCount" "I" ∈ TB) (hd : decode cc pc = .ok (.putfield idx, 3)) (K : GF p l e R s m args below meth c nL D cy ad A cs sl wf QF fin F (pc + 3) lv st (wI M k 1 y0)) : GF p l e R s m args below meth c nL D cy ad A cs sl wf QF fin F pc lv (.int y0 :: .ref (ad k) :: st) M := g_put X (C := RX1) (T := TX1) (N := 16) (i := 1) (ty := .int) (f := upd (M.1 k) 1 y0) hs (by rw [hk]; exact mk_1) (by rw [hk]; exact mk_1) rfl inX1 tyX1 tyX1_ok nmX1 (by decide) rfl rfl (by decide +kernel) rfl rfl (by simp) hl hd K
theorem get_1_2 (X : Cx p s m args meth c cc nL own D cy ad A wf sd) {k idx : Nat} (hk : kd k = 1) (hs : sd k) (hl : Cond.fieldLink own idx RX1 "laws" "[LLettersLeaping$Law;" ∈ TB) (hd : decode cc pc = .ok (.getfield idx, 3)) (K : GF p l e R s m args below meth c nL D cy ad A cs sl wf QF fin F (pc + 3) lv (.ref (ad (k + 22)) :: st) M) : GF p l e R s m args below meth c nL D cy ad A cs sl wf QF fin F pc lv (.ref (ad k) :: st) M := g_get X (C := RX1) (T := TX1) (N := 16) (i := 2) hs (by rw [hk]; exact mk_1) rfl inX1 (by decide) rfl hl rfl hd K
theorem get_1_3 (X : Cx p s m args meth c cc nL own D cy ad A wf sd) {k idx : Nat} (hk : kd k = 1) (hs : sd k) (hl : Cond.fieldLink own idx RX1 "lawCount" "I" ∈ TB) (hd : decode cc pc = .ok (.getfield idx, 3)) (K : GF p l e R s m args below meth c nL D cy ad A cs sl wf QF fin F (pc + 3) lv (.int (M.1 k 3) :: st) M) : GF p l e R s m args below meth c nL D cy ad A cs sl wf QF fin F pc lv (.ref (ad k) :: st) M := g_get X (C := RX1) (T := TX1) (N := 16) (i := 3) hs (by rw [hk]; exact mk_1) rfl inX1 (by decide) rfl hl rfl hd K
theorem put_1_3 (X : Cx p s m args meth c cc nL own D cy ad A wf sd) {k idx : Nat} {y0 : Int32} (hk : kd k = 1) (hs : sd k) (hl : Cond.fieldLink own idx RX1 "lawCount" "I" ∈ TB) (hd : decode cc pc = .ok (.putfield idx, 3)) (K : GF p l e R s m args below meth c nL D cy ad A cs sl wf QF fin F (pc + 3) lv st (wI M k 3 y0)) : GF p l e R s m args below meth c nL D cy ad A cs sl wf QF fin F pc lv (.int y0 :: .ref (ad k) :: st) M := g_put X (C := RX1) (T := TX1) (N := 16) (i := 3) (ty := .int) (f := upd (M.1 k) 3 y0) hs (by rw [hk]; exact mk_1) (by rw [hk]; exact mk_1) rfl inX1 tyX1 tyX1_ok nmX1 (by decide) rfl rfl (by decide +kernel) rfl rfl (by simp) hl hd K
theorem get_1_4 (X : Cx p s m args meth c cc nL own D cy ad A wf sd) {k idx : Nat} (hk : kd k = 1) (hs : sd k) (hl : Cond.fieldLink own idx RX1 "lawInForce" "I" ∈ TB) (hd : decode cc pc = .ok (.getfield idx, 3)) (K : GF p l e R s m args below meth c nL D cy ad A cs sl wf QF fin F (pc + 3) lv (.int (M.1 k 4) :: st) M) : GF p l e R s m args below meth c nL D cy ad A cs sl wf QF fin F pc lv (.ref (ad k) :: st) M := g_get X (C := RX1) (T := TX1) (N := 16) (i := 4) hs (by rw [hk]; exact mk_1) rfl inX1 (by decide) rfl hl rfl hd K
theorem put_1_4 (X : Cx p s m args meth c cc nL own D cy ad A wf sd) {k idx : Nat} {y0 : Int32} (hk : kd k = 1) (hs : sd k) (hl : Cond.fieldLink own idx RX1 "lawInForce" "I" ∈ TB) (hd : decode cc pc = .ok (.putfield idx, 3)) (K : GF p l e R s m args below meth c nL D cy ad A cs sl wf QF fin F (pc + 3) lv st (wI M k 4 y0)) : GF p l e R s m args below meth c nL D cy ad A cs sl wf QF fin F pc lv (.int y0 :: .ref (ad k) :: st) M := g_put X (C := RX1) (T := TX1) (N := 16) (i := 4) (ty := .int) (f := upd (M.1 k) 4 y0) hs (by rw [hk]; exact mk_1) (by rw [hk]; exact mk_1) rfl inX1 tyX1 tyX1_ok nmX1 (by decide) rfl rfl (by decide +kernel) rfl rfl (by simp) hl hd K
theorem get_1_5 (X : Cx p s m args meth c cc nL own D cy ad A wf sd) {k idx : Nat} (hk : kd k = 1) (hs : sd k) (hl : Cond.fieldLink own idx RX1 "leapers" "[LLettersLeaping$Leaper;" ∈ TB) (hd : decode cc pc = .ok (.getfield idx, 3)) (K : GF p l e R s m args below meth c nL D cy ad A cs sl wf QF fin F (pc + 3) lv (.ref (ad (k + 37)) :: st) M) : GF p l e R s m args below meth c nL D cy ad A cs sl wf QF fin F pc lv (.ref (ad k) :: st) M := g_get X (C := RX1) (T := TX1) (N := 16) (i := 5) hs (by rw [hk]; exact mk_1) rfl inX1 (by decide) rfl hl rfl hd K
theorem get_1_6 (X : Cx p s m args meth c cc nL own D cy ad A wf sd) {k idx : Nat} (hk : kd k = 1) (hs : sd k) (hl : Cond.fieldLink own idx RX1 "leaperCount" "I" ∈ TB) (hd : decode cc pc = .ok (.getfield idx, 3)) (K : GF p l e R s m args below meth c nL D cy ad A cs sl wf QF fin F (pc + 3) lv (.int (M.1 k 7) :: st) M) : GF p l e R s m args below meth c nL D cy ad A cs sl wf QF fin F pc lv (.ref (ad k) :: st) M := g_get X (C := RX1) (T := TX1) (N := 16) (i := 6) hs (by rw [hk]; exact mk_1) rfl inX1 (by decide) rfl hl rfl hd K
theorem put_1_6 (X : Cx p s m args meth c cc nL own D cy ad A wf sd) {k idx : Nat} {y0 : Int32} (hk : kd k = 1) (hs : sd k) (hl : Cond.fieldLink own idx RX1 "leaperCount" "I" ∈ TB) (hd : decode cc pc = .ok (.putfield idx, 3)) (K : GF p l e R s m args below meth c nL D cy ad A cs sl wf QF fin F (pc + 3) lv st (wI M k 7 y0)) : GF p l e R s m args below meth c nL D cy ad A cs sl wf QF fin F pc lv (.int y0 :: .ref (ad k) :: st) M := g_put X (C := RX1) (T := TX1) (N := 16) (i := 6) (ty := .int) (f := upd (M.1 k) 7 y0) hs (by rw [hk]; exact mk_1) (by rw [hk]; exact mk_1) rfl inX1 tyX1 tyX1_ok nmX1 (by decide) rfl rfl (by decide +kernel) rfl rfl (by simp) hl hd K
theorem get_1_7 (X : Cx p s m args meth c cc nL own D cy ad A wf sd) {k idx : Nat} (hk : kd k = 1) (hs : sd k) (hl : Cond.fieldLink own idx RX1 "parcelMinutes" "[I" ∈ TB) (hd : decode cc pc = .ok (.getfield idx, 3)) (K : GF p l e R s m args below meth c nL D cy ad A cs sl wf QF fin F (pc + 3) lv (.ref (ad (k + 44)) :: st) M) : GF p l e R s m args below meth c nL D cy ad A cs sl wf QF fin F pc lv (.ref (ad k) :: st) M := g_get X (C := RX1) (T := TX1) (N := 16) (i := 7) hs (by rw [hk]; exact mk_1) rfl inX1 (by decide) rfl hl rfl hd K
theorem get_1_8 (X : Cx p s m args meth c cc nL own D cy ad A wf sd) {k idx : Nat} (hk : kd k = 1) (hs : sd k) (hl : Cond.fieldLink own idx RX1 "parcelWorths" "[I" ∈ TB) (hd : decode cc pc = .ok (.getfield idx, 3)) (K : GF p l e R s m args below meth c nL D cy ad A cs sl wf QF fin F (pc + 3) lv (.ref (ad (k + 45)) :: st) M) : GF p l e R s m args below meth c nL D cy ad A cs sl wf QF fin F pc lv (.ref (ad k) :: st) M := g_get X (C := RX1) (T := TX1) (N := 16) (i := 8) hs (by rw [hk]; exact mk_1) rfl inX1 (by decide) rfl hl rfl hd K
theorem get_1_9 (X : Cx p s m args meth c cc nL own D cy ad A wf sd) {k idx : Nat} (hk : kd k = 1) (hs : sd k) (hl : Cond.fieldLink own idx RX1 "parcelCount" "I" ∈ TB) (hd : decode cc pc = .ok (.getfield idx, 3)) (K : GF p l e R s m args below meth c nL D cy ad A cs sl wf QF fin F (pc + 3) lv (.int (M.1 k 10) :: st) M) : GF p l e R s m args below meth c nL D cy ad A cs sl wf QF fin F pc lv (.ref (ad k) :: st) M := g_get X (C := RX1) (T := TX1) (N := 16) (i := 9) hs (by rw [hk]; exact mk_1) rfl inX1 (by decide) rfl hl rfl hd K
theorem put_1_9 (X : Cx p s m args meth c cc nL own D cy ad A wf sd) {k idx : Nat} {y0 : Int32} (hk : kd k = 1) (hs : sd k) (hl : Cond.fieldLink own idx RX1 "parcelCount" "I" ∈ TB) (hd : decode cc pc = .ok (.putfield idx, 3)) (K : GF p l e R s m args below meth c nL D cy ad A cs sl wf QF fin F (pc + 3) lv st (wI M k 10 y0)) : GF p l e R s m args below meth c nL D cy ad A cs sl wf QF fin F pc lv (.int y0 :: .ref (ad k) :: st) M := g_put X (C := RX1) (T := TX1) (N := 16) (i := 9) (ty := .int) (f := upd (M.1 k) 10 y0) hs (by rw [hk]; exact mk_1) (by rw [hk]; exact mk_1) rfl inX1 tyX1 tyX1_ok nmX1 (by decide) rfl rfl (by decide +kernel) rfl rfl (by simp) hl hd K
theorem get_1_10 (X : Cx p s m args meth c cc nL own D cy ad A wf sd) {k idx : Nat} (hk : kd k = 1) (hs : sd k) (hl : Cond.fieldLink own idx RX1 "winds" "[I" ∈ TB) (hd : decode cc pc = .ok (.getfield idx, 3)) (K : GF p l e R s m args below meth c nL D cy ad A cs sl wf QF fin F (pc + 3) lv (.ref (ad (k + 46)) :: st) M) : GF p l e R s m args below meth c nL D cy ad A cs sl wf QF fin F pc lv (.ref (ad k) :: st) M := g_get X (C := RX1) (T := TX1) (N := 16) (i := 10) hs (by rw [hk]; exact mk_1) rfl inX1 (by decide) rfl hl rfl hd K
theorem get_1_11 (X : Cx p s m args meth c cc nL own D cy ad A wf sd) {k idx : Nat} (hk : kd k = 1) (hs : sd k) (hl : Cond.fieldLink own idx RX1 "level" "I" ∈ TB) (hd : decode cc pc = .ok (.getfield idx, 3)) (K : GF p l e R s m args below meth c nL D cy ad A cs sl wf QF fin F (pc + 3) lv (.int (M.1 k 12) :: st) M) : GF p l e R s m args below meth c nL D cy ad A cs sl wf QF fin F pc lv (.ref (ad k) :: st) M := g_get X (C := RX1) (T := TX1) (N := 16) (i := 11) hs (by rw [hk]; exact mk_1) rfl inX1 (by decide) rfl hl rfl hd K
theorem put_1_11 (X : Cx p s m args meth c cc nL own D cy ad A wf sd) {k idx : Nat} {y0 : Int32} (hk : kd k = 1) (hs : sd k) (hl : Cond.fieldLink own idx RX1 "level" "I" ∈ TB) (hd : decode cc pc = .ok (.putfield idx, 3)) (K : GF p l e R s m args below meth c nL D cy ad A cs sl wf QF fin F (pc + 3) lv st (wI M k 12 y0)) : GF p l e R s m args below meth c nL D cy ad A cs sl wf QF fin F pc lv (.int y0 :: .ref (ad k) :: st) M := g_put X (C := RX1) (T := TX1) (N := 16) (i := 11) (ty := .int) (f := upd (M.1 k) 12 y0) hs (by rw [hk]; exact mk_1) (by rw [hk]; exact mk_1) rfl inX1 tyX1 tyX1_ok nmX1 (by decide) rfl rfl (by decide +kernel) rfl rfl (by simp) hl hd K
theorem get_1_12 (X : Cx p s m args meth c cc nL own D cy ad A wf sd) {k idx : Nat} (hk : kd k = 1) (hs : sd k) (hl : Cond.fieldLink own idx RX1 "guests" "I" ∈ TB) (hd : decode cc pc = .ok (.getfield idx, 3)) (K : GF p l e R s m args below meth c nL D cy ad A cs sl wf QF fin F (pc + 3) lv (.int (M.1 k 13) :: st) M) : GF p l e R s m args below meth c nL D cy ad A cs sl wf QF fin F pc lv (.ref (ad k) :: st) M := g_get X (C := RX1) (T := TX1) (N := 16) (i := 12) hs (by rw [hk]; exact mk_1) rfl inX1 (by decide) rfl hl rfl hd K
theorem put_1_12 (X : Cx p s m args meth c cc nL own D cy ad A wf sd) {k idx : Nat} {y0 : Int32} (hk : kd k = 1) (hs : sd k) (hl : Cond.fieldLink own idx RX1 "guests" "I" ∈ TB) (hd : decode cc pc = .ok (.putfield idx, 3)) (K : GF p l e R s m args below meth c nL D cy ad A cs sl wf QF fin F (pc + 3) lv st (wI M k 13 y0)) : GF p l e R s m args below meth c nL D cy ad A cs sl wf QF fin F pc lv (.int y0 :: .ref (ad k) :: st) M := g_put X (C := RX1) (T := TX1) (N := 16) (i := 12) (ty := .int) (f := upd (M.1 k) 13 y0) hs (by rw [hk]; exact mk_1) (by rw [hk]; exact mk_1) rfl inX1 tyX1 tyX1_ok nmX1 (by decide) rfl rfl (by decide +kernel) rfl rfl (by simp) hl hd K
theorem get_1_13 (X : Cx p s m args meth c cc nL own D cy ad A wf sd) {k idx : Nat} (hk : kd k = 1) (hs : sd k) (hl : Cond.fieldLink own idx RX1 "harbour" "I" ∈ TB) (hd : decode cc pc = .ok (.getfield idx, 3)) (K : GF p l e R s m args below meth c nL D cy ad A cs sl wf QF fin F (pc + 3) lv (.int (M.1 k 14) :: st) M) : GF p l e R s m args below meth c nL D cy ad A cs sl wf QF fin F pc lv (.ref (ad k) :: st) M := g_get X (C := RX1) (T := TX1) (N := 16) (i := 13) hs (by rw [hk]; exact mk_1) rfl inX1 (by decide) rfl hl rfl hd K
theorem put_1_13 (X : Cx p s m args meth c cc nL own D cy ad A wf sd) {k idx : Nat} {y0 : Int32} (hk : kd k = 1) (hs : sd k) (hl : Cond.fieldLink own idx RX1 "harbour" "I" ∈ TB) (hd : decode cc pc = .ok (.putfield idx, 3)) (K : GF p l e R s m args below meth c nL D cy ad A cs sl wf QF fin F (pc + 3) lv st (wI M k 14 y0)) : GF p l e R s m args below meth c nL D cy ad A cs sl wf QF fin F pc lv (.int y0 :: .ref (ad k) :: st) M := g_put X (C := RX1) (T := TX1) (N := 16) (i := 13) (ty := .int) (f := upd (M.1 k) 14 y0) hs (by rw [hk]; exact mk_1) (by rw [hk]; exact mk_1) rfl inX1 tyX1 tyX1_ok nmX1 (by decide) rfl rfl (by decide +kernel) rfl rfl (by simp) hl hd K
theorem get_1_14 (X : Cx p s m args meth c cc nL own D cy ad A wf sd) {k idx : Nat} (hk : kd k = 1) (hs : sd k) (hl : Cond.fieldLink own idx RX1 "seed" "I" ∈ TB) (hd : decode cc pc = .ok (.getfield idx, 3)) (K : GF p l e R s m args below meth c nL D cy ad A cs sl wf QF fin F (pc + 3) lv (.int (M.1 k 15) :: st) M) : GF p l e R s m args below meth c nL D cy ad A cs sl wf QF fin F pc lv (.ref (ad k) :: st) M := g_get X (C := RX1) (T := TX1) (N := 16) (i := 14) hs (by rw [hk]; exact mk_1) rfl inX1 (by decide) rfl hl rfl hd K
theorem put_1_14 (X : Cx p s m args meth c cc nL own D cy ad A wf sd) {k idx : Nat} {y0 : Int32} (hk : kd k = 1) (hs : sd k) (hl : Cond.fieldLink own idx RX1 "seed" "I" ∈ TB) (hd : decode cc pc = .ok (.putfield idx, 3)) (K : GF p l e R s m args below meth c nL D cy ad A cs sl wf QF fin F (pc + 3) lv st (wI M k 15 y0)) : GF p l e R s m args below meth c nL D cy ad A cs sl wf QF fin F pc lv (.int y0 :: .ref (ad k) :: st) M := g_put X (C := RX1) (T := TX1) (N := 16) (i := 14) (ty := .int) (f := upd (M.1 k) 15 y0) hs (by rw [hk]; exact mk_1) (by rw [hk]; exact mk_1) rfl inX1 tyX1 tyX1_ok nmX1 (by decide) rfl rfl (by decide +kernel) rfl rfl (by simp) hl hd K
theorem get_1_15 (X : Cx p s m args meth c cc nL own D cy ad A wf sd) {k idx : Nat} (hk : kd k = 1) (hs : sd k) (hl : Cond.fieldLink own idx RX1 "voyage" "LLettersLeaping$Voyage;" ∈ TB) (hd : decode cc pc = .ok (.getfield idx, 3)) (K : GF p l e R s m args below meth c nL D cy ad A cs sl wf QF fin F (pc + 3) lv (.ref (ad (k + 47)) :: st) M) : GF p l e R s m args below meth c nL D cy ad A cs sl wf QF fin F pc lv (.ref (ad k) :: st) M := g_get X (C := RX1) (T := TX1) (N := 16) (i := 15) hs (by rw [hk]; exact mk_1) rfl inX1 (by decide) rfl hl rfl hd K
theorem get_2_0 (X : Cx p s m args meth c cc nL own D cy ad A wf sd) {k idx : Nat} (hk : kd k = 2) (hs : sd k) (hl : Cond.fieldLink own idx RX2 "values" "[I" ∈ TB) (hd : decode cc pc = .ok (.getfield idx, 3)) (K : GF p l e R s m args below meth c nL D cy ad A cs sl wf QF fin F (pc + 3) lv (.ref (ad (k + 7)) :: st) M) : GF p l e R s m args below meth c nL D cy ad A cs sl wf QF fin F pc lv (.ref (ad k) :: st) M := g_get X (C := RX2) (T := TX2) (N := 1) (i := 0) hs (by rw [hk]; exact mk_2) rfl inX2 (by decide) rfl hl rfl hd K
theorem get_3_0 (X : Cx p s m args meth c cc nL own D cy ad A wf sd) {k idx : Nat} (hk : kd k = 3) (hs : sd k) (hl : Cond.fieldLink own idx RX3 "skill" "I" ∈ TB) (hd : decode cc pc = .ok (.getfield idx, 3)) (K : GF p l e R s m args below meth c nL D cy ad A cs sl wf QF fin F (pc + 3) lv (.int (M.1 k 0) :: st) M) : GF p l e R s m args below meth c nL D cy ad A cs sl wf QF fin F pc lv (.ref (ad k) :: st) M := g_get X (C := RX3) (T := TX3) (N := 3) (i := 0) hs (by rw [hk]; exact mk_3) rfl inX3 (by decide) rfl hl rfl hd K
theorem put_3_0 (X : Cx p s m args meth c cc nL own D cy ad A wf sd) {k idx : Nat} {y0 : Int32} (hk : kd k = 3) (hs : sd k) (hl : Cond.fieldLink own idx RX3 "skill" "I" ∈ TB) (hd : decode cc pc = .ok (.putfield idx, 3)) (K : GF p l e R s m args below meth c nL D cy ad A cs sl wf QF fin F (pc + 3) lv st (wI M k 0 y0)) : GF p l e R s m args below meth c nL D cy ad A cs sl wf QF fin F pc lv (.int y0 :: .ref (ad k) :: st) M := g_put X (C := RX3) (T := TX3) (N := 3) (i := 0) (ty := .int) (f := upd (M.1 k) 0 y0) hs (by rw [hk]; exact mk_3) (by rw [hk]; exact mk_3) rfl inX3 tyX3 tyX3_ok nmX3 (by decide) rfl rfl (by decide +kernel) rfl rfl (by simp) hl hd K
theorem get_3_1 (X : Cx p s m args meth c cc nL own D cy ad A wf sd) {k idx : Nat} (hk : kd k = 3) (hs : sd k) (hl : Cond.fieldLink own idx RX3 "leaps" "I" ∈ TB) (hd : decode cc pc = .ok (.getfield idx, 3)) (K : GF p l e R s m args below meth c nL D cy ad A cs sl wf QF fin F (pc + 3) lv (.int (M.1 k 1) :: st) M) : GF p l e R s m args below meth c nL D cy ad A cs sl wf QF fin F pc lv (.ref (ad k) :: st) M := g_get X (C := RX3) (T := TX3) (N := 3) (i := 1) hs (by rw [hk]; exact mk_3) rfl inX3 (by decide) rfl hl rfl hd K
theorem put_3_1 (X : Cx p s m args meth c cc nL own D cy ad A wf sd) {k idx : Nat} {y0 : Int32} (hk : kd k = 3) (hs : sd k) (hl : Cond.fieldLink own idx RX3 "leaps" "I" ∈ TB) (hd : decode cc pc = .ok (.putfield idx, 3)) (K : GF p l e R s m args below meth c nL D cy ad A cs sl wf QF fin F (pc + 3) lv st (wI M k 1 y0)) : GF p l e R s m args below meth c nL D cy ad A cs sl wf QF fin F pc lv (.int y0 :: .ref (ad k) :: st) M := g_put X (C := RX3) (T := TX3) (N := 3) (i := 1) (ty := .int) (f := upd (M.1 k) 1 y0) hs (by rw [hk]; exact mk_3) (by rw [hk]; exact mk_3) rfl inX3 tyX3 tyX3_ok nmX3 (by decide) rfl rfl (by decide +kernel) rfl rfl (by simp) hl hd K
theorem get_3_2 (X : Cx p s m args meth c cc nL own D cy ad A wf sd) {k idx : Nat} (hk : kd k = 3) (hs : sd k) (hl : Cond.fieldLink own idx RX3 "drops" "I" ∈ TB) (hd : decode cc pc = .ok (.getfield idx, 3)) (K : GF p l e R s m args below meth c nL D cy ad A cs sl wf QF fin F (pc + 3) lv (.int (M.1 k 2) :: st) M) : GF p l e R s m args below meth c nL D cy ad A cs sl wf QF fin F pc lv (.ref (ad k) :: st) M := g_get X (C := RX3) (T := TX3) (N := 3) (i := 2) hs (by rw [hk]; exact mk_3) rfl inX3 (by decide) rfl hl rfl hd K
theorem put_3_2 (X : Cx p s m args meth c cc nL own D cy ad A wf sd) {k idx : Nat} {y0 : Int32} (hk : kd k = 3) (hs : sd k) (hl : Cond.fieldLink own idx RX3 "drops" "I" ∈ TB) (hd : decode cc pc = .ok (.putfield idx, 3)) (K : GF p l e R s m args below meth c nL D cy ad A cs sl wf QF fin F (pc + 3) lv st (wI M k 2 y0)) : GF p l e R s m args below meth c nL D cy ad A cs sl wf QF fin F pc lv (.int y0 :: .ref (ad k) :: st) M := g_put X (C := RX3) (T := TX3) (N := 3) (i := 2) (ty := .int) (f := upd (M.1 k) 2 y0) hs (by rw [hk]; exact mk_3) (by rw [hk]; exact mk_3) rfl inX3 tyX3 tyX3_ok nmX3 (by decide) rfl rfl (by decide +kernel) rfl rfl (by simp) hl hd K
theorem get_4_0 (X : Cx p s m args meth c cc nL own D cy ad A wf sd) {k idx : Nat} (hk : kd k = 4) (hs : sd k) (hl : Cond.fieldLink own idx RX4 "bestOrder" "[I" ∈ TB) (hd : decode cc pc = .ok (.getfield idx, 3)) (K : GF p l e R s m args below meth c nL D cy ad A cs sl wf QF fin F (pc + 3) lv (.ref (ad (k + 1)) :: st) M) : GF p l e R s m args below meth c nL D cy ad A cs sl wf QF fin F pc lv (.ref (ad k) :: st) M := g_get X (C := RX4) (T := TX4) (N := 10) (i := 0) hs (by rw [hk]; exact mk_4) rfl inX4 (by decide) rfl hl rfl hd K
theorem get_4_1 (X : Cx p s m args meth c cc nL own D cy ad A wf sd) {k idx : Nat} (hk : kd k = 4) (hs : sd k) (hl : Cond.fieldLink own idx RX4 "bestRisk" "I" ∈ TB) (hd : decode cc pc = .ok (.getfield idx, 3)) (K : GF p l e R s m args below meth c nL D cy ad A cs sl wf QF fin F (pc + 3) lv (.int (M.1 k 1) :: st) M) : GF p l e R s m args below meth c nL D cy ad A cs sl wf QF fin F pc lv (.ref (ad k) :: st) M := g_get X (C := RX4) (T := TX4) (N := 10) (i := 1) hs (by rw [hk]; exact mk_4) rfl inX4 (by decide) rfl hl rfl hd K
theorem put_4_1 (X : Cx p s m args meth c cc nL own D cy ad A wf sd) {k idx : Nat} {y0 : Int32} (hk : kd k = 4) (hs : sd k) (hl : Cond.fieldLink own idx RX4 "bestRisk" "I" ∈ TB) (hd : decode cc pc = .ok (.putfield idx, 3)) (K : GF p l e R s m args below meth c nL D cy ad A cs sl wf QF fin F (pc + 3) lv st (wI M k 1 y0)) : GF p l e R s m args below meth c nL D cy ad A cs sl wf QF fin F pc lv (.int y0 :: .ref (ad k) :: st) M := g_put X (C := RX4) (T := TX4) (N := 10) (i := 1) (ty := .int) (f := upd (M.1 k) 1 y0) hs (by rw [hk]; exact mk_4) (by rw [hk]; exact mk_4) rfl inX4 tyX4 tyX4_ok nmX4 (by decide) rfl rfl (by decide +kernel) rfl rfl (by simp) hl hd K
theorem get_4_2 (X : Cx p s m args meth c cc nL own D cy ad A wf sd) {k idx : Nat} (hk : kd k = 4) (hs : sd k) (hl : Cond.fieldLink own idx RX4 "bestEnd" "I" ∈ TB) (hd : decode cc pc = .ok (.getfield idx, 3)) (K : GF p l e R s m args below meth c nL D cy ad A cs sl wf QF fin F (pc + 3) lv (.int (M.1 k 2) :: st) M) : GF p l e R s m args below meth c nL D cy ad A cs sl wf QF fin F pc lv (.ref (ad k) :: st) M := g_get X (C := RX4) (T := TX4) (N := 10) (i := 2) hs (by rw [hk]; exact mk_4) rfl inX4 (by decide) rfl hl rfl hd K
theorem put_4_2 (X : Cx p s m args meth c cc nL own D cy ad A wf sd) {k idx : Nat} {y0 : Int32} (hk : kd k = 4) (hs : sd k) (hl : Cond.fieldLink own idx RX4 "bestEnd" "I" ∈ TB) (hd : decode cc pc = .ok (.putfield idx, 3)) (K : GF p l e R s m args below meth c nL D cy ad A cs sl wf QF fin F (pc + 3) lv st (wI M k 2 y0)) : GF p l e R s m args below meth c nL D cy ad A cs sl wf QF fin F pc lv (.int y0 :: .ref (ad k) :: st) M := g_put X (C := RX4) (T := TX4) (N := 10) (i := 2) (ty := .int) (f := upd (M.1 k) 2 y0) hs (by rw [hk]; exact mk_4) (by rw [hk]; exact mk_4) rfl inX4 tyX4 tyX4_ok nmX4 (by decide) rfl rfl (by decide +kernel) rfl rfl (by simp) hl hd K
theorem get_4_3 (X : Cx p s m args meth c cc nL own D cy ad A wf sd) {k idx : Nat} (hk : kd k = 4) (hs : sd k) (hl : Cond.fieldLink own idx RX4 "lake" "LLettersLeaping$Lake;" ∈ TB) (hd : decode cc pc = .ok (.getfield idx, 3)) (K : GF p l e R s m args below meth c nL D cy ad A cs sl wf QF fin F (pc + 3) lv (lkv ad (M.1 k 3) :: st) M) : GF p l e R s m args below meth c nL D cy ad A cs sl wf QF fin F pc lv (.ref (ad k) :: st) M := g_get X (C := RX4) (T := TX4) (N := 10) (i := 3) hs (by rw [hk]; exact mk_4) rfl inX4 (by decide) rfl hl rfl hd K
theorem put_4_3 (X : Cx p s m args meth c cc nL own D cy ad A wf sd) {k idx : Nat} (hk : kd k = 4) (hs : sd k) (hl : Cond.fieldLink own idx RX4 "lake" "LLettersLeaping$Lake;" ∈ TB) (hd : decode cc pc = .ok (.putfield idx, 3)) (K : GF p l e R s m args below meth c nL D cy ad A cs sl wf QF fin F (pc + 3) lv st (wI M k 3 1)) : GF p l e R s m args below meth c nL D cy ad A cs sl wf QF fin F pc lv (.ref (ad 20) :: .ref (ad k) :: st) M := g_put X (C := RX4) (T := TX4) (N := 10) (i := 3) (ty := .object RX1) (f := upd (M.1 k) 3 1) hs (by rw [hk]; exact mk_4) (by rw [hk]; exact mk_4) rfl inX4 tyX4 tyX4_ok nmX4 (by decide) rfl rfl (by decide +kernel) rfl rfl (by simp) hl hd K
theorem get_4_4 (X : Cx p s m args meth c cc nL own D cy ad A wf sd) {k idx : Nat} (hk : kd k = 4) (hs : sd k) (hl : Cond.fieldLink own idx RX4 "leaper" "I" ∈ TB) (hd : decode cc pc = .ok (.getfield idx, 3)) (K : GF p l e R s m args below meth c nL D cy ad A cs sl wf QF fin F (pc + 3) lv (.int (M.1 k 4) :: st) M) : GF p l e R s m args below meth c nL D cy ad A cs sl wf QF fin F pc lv (.ref (ad k) :: st) M := g_get X (C := RX4) (T := TX4) (N := 10) (i := 4) hs (by rw [hk]; exact mk_4) rfl inX4 (by decide) rfl hl rfl hd K
theorem put_4_4 (X : Cx p s m args meth c cc nL own D cy ad A wf sd) {k idx : Nat} {y0 : Int32} (hk : kd k = 4) (hs : sd k) (hl : Cond.fieldLink own idx RX4 "leaper" "I" ∈ TB) (hd : decode cc pc = .ok (.putfield idx, 3)) (K : GF p l e R s m args below meth c nL D cy ad A cs sl wf QF fin F (pc + 3) lv st (wI M k 4 y0)) : GF p l e R s m args below meth c nL D cy ad A cs sl wf QF fin F pc lv (.int y0 :: .ref (ad k) :: st) M := g_put X (C := RX4) (T := TX4) (N := 10) (i := 4) (ty := .int) (f := upd (M.1 k) 4 y0) hs (by rw [hk]; exact mk_4) (by rw [hk]; exact mk_4) rfl inX4 tyX4 tyX4_ok nmX4 (by decide) rfl rfl (by decide +kernel) rfl rfl (by simp) hl hd K
theorem get_4_5 (X : Cx p s m args meth c cc nL own D cy ad A wf sd) {k idx : Nat} (hk : kd k = 4) (hs : sd k) (hl : Cond.fieldLink own idx RX4 "latest" "I" ∈ TB) (hd : decode cc pc = .ok (.getfield idx, 3)) (K : GF p l e R s m args below meth c nL D cy ad A cs sl wf QF fin F (pc + 3) lv (.int (M.1 k 5) :: st) M) : GF p l e R s m args below meth c nL D cy ad A cs sl wf QF fin F pc lv (.ref (ad k) :: st) M := g_get X (C := RX4) (T := TX4) (N := 10) (i := 5) hs (by rw [hk]; exact mk_4) rfl inX4 (by decide) rfl hl rfl hd K
theorem put_4_5 (X : Cx p s m args meth c cc nL own D cy ad A wf sd) {k idx : Nat} {y0 : Int32} (hk : kd k = 4) (hs : sd k) (hl : Cond.fieldLink own idx RX4 "latest" "I" ∈ TB) (hd : decode cc pc = .ok (.putfield idx, 3)) (K : GF p l e R s m args below meth c nL D cy ad A cs sl wf QF fin F (pc + 3) lv st (wI M k 5 y0)) : GF p l e R s m args below meth c nL D cy ad A cs sl wf QF fin F pc lv (.int y0 :: .ref (ad k) :: st) M := g_put X (C := RX4) (T := TX4) (N := 10) (i := 5) (ty := .int) (f := upd (M.1 k) 5 y0) hs (by rw [hk]; exact mk_4) (by rw [hk]; exact mk_4) rfl inX4 tyX4 tyX4_ok nmX4 (by decide) rfl rfl (by decide +kernel) rfl rfl (by simp) hl hd K
theorem get_4_6 (X : Cx p s m args meth c cc nL own D cy ad A wf sd) {k idx : Nat} (hk : kd k = 4) (hs : sd k) (hl : Cond.fieldLink own idx RX4 "count" "I" ∈ TB) (hd : decode cc pc = .ok (.getfield idx, 3)) (K : GF p l e R s m args below meth c nL D cy ad A cs sl wf QF fin F (pc + 3) lv (.int (M.1 k 6) :: st) M) : GF p l e R s m args below meth c nL D cy ad A cs sl wf QF fin F pc lv (.ref (ad k) :: st) M := g_get X (C := RX4) (T := TX4) (N := 10) (i := 6) hs (by rw [hk]; exact mk_4) rfl inX4 (by decide) rfl hl rfl hd K
theorem put_4_6 (X : Cx p s m args meth c cc nL own D cy ad A wf sd) {k idx : Nat} {y0 : Int32} (hk : kd k = 4) (hs : sd k) (hl : Cond.fieldLink own idx RX4 "count" "I" ∈ TB) (hd : decode cc pc = .ok (.putfield idx, 3)) (K : GF p l e R s m args below meth c nL D cy ad A cs sl wf QF fin F (pc + 3) lv st (wI M k 6 y0)) : GF p l e R s m args below meth c nL D cy ad A cs sl wf QF fin F pc lv (.int y0 :: .ref (ad k) :: st) M := g_put X (C := RX4) (T := TX4) (N := 10) (i := 6) (ty := .int) (f := upd (M.1 k) 6 y0) hs (by rw [hk]; exact mk_4) (by rw [hk]; exact mk_4) rfl inX4 tyX4 tyX4_ok nmX4 (by decide) rfl rfl (by decide +kernel) rfl rfl (by simp) hl hd K
theorem get_4_7 (X : Cx p s m args meth c cc nL own D cy ad A wf sd) {k idx : Nat} (hk : kd k = 4) (hs : sd k) (hl : Cond.fieldLink own idx RX4 "jetties" "[I" ∈ TB) (hd : decode cc pc = .ok (.getfield idx, 3)) (K : GF p l e R s m args below meth c nL D cy ad A cs sl wf QF fin F (pc + 3) lv (.ref (ad (k + 2)) :: st) M) : GF p l e R s m args below meth c nL D cy ad A cs sl wf QF fin F pc lv (.ref (ad k) :: st) M := g_get X (C := RX4) (T := TX4) (N := 10) (i := 7) hs (by rw [hk]; exact mk_4) rfl inX4 (by decide) rfl hl rfl hd K
theorem get_4_8 (X : Cx p s m args meth c cc nL own D cy ad A wf sd) {k idx : Nat} (hk : kd k = 4) (hs : sd k) (hl : Cond.fieldLink own idx RX4 "isUsed" "[Z" ∈ TB) (hd : decode cc pc = .ok (.getfield idx, 3)) (K : GF p l e R s m args below meth c nL D cy ad A cs sl wf QF fin F (pc + 3) lv (.ref (ad (k + 3)) :: st) M) : GF p l e R s m args below meth c nL D cy ad A cs sl wf QF fin F pc lv (.ref (ad k) :: st) M := g_get X (C := RX4) (T := TX4) (N := 10) (i := 8) hs (by rw [hk]; exact mk_4) rfl inX4 (by decide) rfl hl rfl hd K
theorem get_4_9 (X : Cx p s m args meth c cc nL own D cy ad A wf sd) {k idx : Nat} (hk : kd k = 4) (hs : sd k) (hl : Cond.fieldLink own idx RX4 "order" "[I" ∈ TB) (hd : decode cc pc = .ok (.getfield idx, 3)) (K : GF p l e R s m args below meth c nL D cy ad A cs sl wf QF fin F (pc + 3) lv (.ref (ad (k + 4)) :: st) M) : GF p l e R s m args below meth c nL D cy ad A cs sl wf QF fin F pc lv (.ref (ad k) :: st) M := g_get X (C := RX4) (T := TX4) (N := 10) (i := 9) hs (by rw [hk]; exact mk_4) rfl inX4 (by decide) rfl hl rfl hd K
theorem get_5_0 (X : Cx p s m args meth c cc nL own D cy ad A wf sd) {k idx : Nat} (hk : kd k = 5) (hs : sd k) (hl : Cond.fieldLink own idx RX5 "sort" "I" ∈ TB) (hd : decode cc pc = .ok (.getfield idx, 3)) (K : GF p l e R s m args below meth c nL D cy ad A cs sl wf QF fin F (pc + 3) lv (.int (M.1 k 0) :: st) M) : GF p l e R s m args below meth c nL D cy ad A cs sl wf QF fin F pc lv (.ref (ad k) :: st) M := g_get X (C := RX5) (T := TX5) (N := 4) (i := 0) hs (by rw [hk]; exact mk_5) rfl inX5 (by decide) rfl hl rfl hd K
theorem put_5_0 (X : Cx p s m args meth c cc nL own D cy ad A wf sd) {k idx : Nat} {y0 : Int32} (hk : kd k = 5) (hs : sd k) (hl : Cond.fieldLink own idx RX5 "sort" "I" ∈ TB) (hd : decode cc pc = .ok (.putfield idx, 3)) (K : GF p l e R s m args below meth c nL D cy ad A cs sl wf QF fin F (pc + 3) lv st (wI M k 0 y0)) : GF p l e R s m args below meth c nL D cy ad A cs sl wf QF fin F pc lv (.int y0 :: .ref (ad k) :: st) M := g_put X (C := RX5) (T := TX5) (N := 4) (i := 0) (ty := .int) (f := upd (M.1 k) 0 y0) hs (by rw [hk]; exact mk_5) (by rw [hk]; exact mk_5) rfl inX5 tyX5 tyX5_ok nmX5 (by decide) rfl rfl (by decide +kernel) rfl rfl (by simp) hl hd K
theorem get_5_1 (X : Cx p s m args meth c cc nL own D cy ad A wf sd) {k idx : Nat} (hk : kd k = 5) (hs : sd k) (hl : Cond.fieldLink own idx RX5 "size" "I" ∈ TB) (hd : decode cc pc = .ok (.getfield idx, 3)) (K : GF p l e R s m args below meth c nL D cy ad A cs sl wf QF fin F (pc + 3) lv (.int (M.1 k 1) :: st) M) : GF p l e R s m args below meth c nL D cy ad A cs sl wf QF fin F pc lv (.ref (ad k) :: st) M := g_get X (C := RX5) (T := TX5) (N := 4) (i := 1) hs (by rw [hk]; exact mk_5) rfl inX5 (by decide) rfl hl rfl hd K
theorem put_5_1 (X : Cx p s m args meth c cc nL own D cy ad A wf sd) {k idx : Nat} {y0 : Int32} (hk : kd k = 5) (hs : sd k) (hl : Cond.fieldLink own idx RX5 "size" "I" ∈ TB) (hd : decode cc pc = .ok (.putfield idx, 3)) (K : GF p l e R s m args below meth c nL D cy ad A cs sl wf QF fin F (pc + 3) lv st (wI M k 1 y0)) : GF p l e R s m args below meth c nL D cy ad A cs sl wf QF fin F pc lv (.int y0 :: .ref (ad k) :: st) M := g_put X (C := RX5) (T := TX5) (N := 4) (i := 1) (ty := .int) (f := upd (M.1 k) 1 y0) hs (by rw [hk]; exact mk_5) (by rw [hk]; exact mk_5) rfl inX5 tyX5 tyX5_ok nmX5 (by decide) rfl rfl (by decide +kernel) rfl rfl (by simp) hl hd K
theorem get_5_2 (X : Cx p s m args meth c cc nL own D cy ad A wf sd) {k idx : Nat} (hk : kd k = 5) (hs : sd k) (hl : Cond.fieldLink own idx RX5 "jetty" "I" ∈ TB) (hd : decode cc pc = .ok (.getfield idx, 3)) (K : GF p l e R s m args below meth c nL D cy ad A cs sl wf QF fin F (pc + 3) lv (.int (M.1 k 2) :: st) M) : GF p l e R s m args below meth c nL D cy ad A cs sl wf QF fin F pc lv (.ref (ad k) :: st) M := g_get X (C := RX5) (T := TX5) (N := 4) (i := 2) hs (by rw [hk]; exact mk_5) rfl inX5 (by decide) rfl hl rfl hd K
theorem put_5_2 (X : Cx p s m args meth c cc nL own D cy ad A wf sd) {k idx : Nat} {y0 : Int32} (hk : kd k = 5) (hs : sd k) (hl : Cond.fieldLink own idx RX5 "jetty" "I" ∈ TB) (hd : decode cc pc = .ok (.putfield idx, 3)) (K : GF p l e R s m args below meth c nL D cy ad A cs sl wf QF fin F (pc + 3) lv st (wI M k 2 y0)) : GF p l e R s m args below meth c nL D cy ad A cs sl wf QF fin F pc lv (.int y0 :: .ref (ad k) :: st) M := g_put X (C := RX5) (T := TX5) (N := 4) (i := 2) (ty := .int) (f := upd (M.1 k) 2 y0) hs (by rw [hk]; exact mk_5) (by rw [hk]; exact mk_5) rfl inX5 tyX5 tyX5_ok nmX5 (by decide) rfl rfl (by decide +kernel) rfl rfl (by simp) hl hd K
theorem get_5_3 (X : Cx p s m args meth c cc nL own D cy ad A wf sd) {k idx : Nat} (hk : kd k = 5) (hs : sd k) (hl : Cond.fieldLink own idx RX5 "elements" "[J" ∈ TB) (hd : decode cc pc = .ok (.getfield idx, 3)) (K : GF p l e R s m args below meth c nL D cy ad A cs sl wf QF fin F (pc + 3) lv (.ref (ad (k + 8)) :: st) M) : GF p l e R s m args below meth c nL D cy ad A cs sl wf QF fin F pc lv (.ref (ad k) :: st) M := g_get X (C := RX5) (T := TX5) (N := 4) (i := 3) hs (by rw [hk]; exact mk_5) rfl inX5 (by decide) rfl hl rfl hd K
theorem get_6_0 (X : Cx p s m args meth c cc nL own D cy ad A wf sd) {k idx : Nat} (hk : kd k = 6) (hs : sd k) (hl : Cond.fieldLink own idx RX6 "bytes" "[B" ∈ TB) (hd : decode cc pc = .ok (.getfield idx, 3)) (K : GF p l e R s m args below meth c nL D cy ad A cs sl wf QF fin F (pc + 3) lv (.ref (ad (k + 1)) :: st) M) : GF p l e R s m args below meth c nL D cy ad A cs sl wf QF fin F pc lv (.ref (ad k) :: st) M := g_get X (C := RX6) (T := TX6) (N := 3) (i := 0) hs (by rw [hk]; exact mk_6) rfl inX6 (by decide) rfl hl rfl hd K
theorem get_6_1 (X : Cx p s m args meth c cc nL own D cy ad A wf sd) {k idx : Nat} (hk : kd k = 6) (hs : sd k) (hl : Cond.fieldLink own idx RX6 "size" "I" ∈ TB) (hd : decode cc pc = .ok (.getfield idx, 3)) (K : GF p l e R s m args below meth c nL D cy ad A cs sl wf QF fin F (pc + 3) lv (.int (M.1 k 1) :: st) M) : GF p l e R s m args below meth c nL D cy ad A cs sl wf QF fin F pc lv (.ref (ad k) :: st) M := g_get X (C := RX6) (T := TX6) (N := 3) (i := 1) hs (by rw [hk]; exact mk_6) rfl inX6 (by decide) rfl hl rfl hd K
theorem put_6_1 (X : Cx p s m args meth c cc nL own D cy ad A wf sd) {k idx : Nat} {y0 : Int32} (hk : kd k = 6) (hs : sd k) (hl : Cond.fieldLink own idx RX6 "size" "I" ∈ TB) (hd : decode cc pc = .ok (.putfield idx, 3)) (K : GF p l e R s m args below meth c nL D cy ad A cs sl wf QF fin F (pc + 3) lv st (wI M k 1 y0)) : GF p l e R s m args below meth c nL D cy ad A cs sl wf QF fin F pc lv (.int y0 :: .ref (ad k) :: st) M := g_put X (C := RX6) (T := TX6) (N := 3) (i := 1) (ty := .int) (f := upd (M.1 k) 1 y0) hs (by rw [hk]; exact mk_6) (by rw [hk]; exact mk_6) rfl inX6 tyX6 tyX6_ok nmX6 (by decide) rfl rfl (by decide +kernel) rfl rfl (by simp) hl hd K
theorem get_6_2 (X : Cx p s m args meth c cc nL own D cy ad A wf sd) {k idx : Nat} (hk : kd k = 6) (hs : sd k) (hl : Cond.fieldLink own idx RX6 "place" "I" ∈ TB) (hd : decode cc pc = .ok (.getfield idx, 3)) (K : GF p l e R s m args below meth c nL D cy ad A cs sl wf QF fin F (pc + 3) lv (.int (M.1 k 2) :: st) M) : GF p l e R s m args below meth c nL D cy ad A cs sl wf QF fin F pc lv (.ref (ad k) :: st) M := g_get X (C := RX6) (T := TX6) (N := 3) (i := 2) hs (by rw [hk]; exact mk_6) rfl inX6 (by decide) rfl hl rfl hd K
theorem put_6_2 (X : Cx p s m args meth c cc nL own D cy ad A wf sd) {k idx : Nat} {y0 : Int32} (hk : kd k = 6) (hs : sd k) (hl : Cond.fieldLink own idx RX6 "place" "I" ∈ TB) (hd : decode cc pc = .ok (.putfield idx, 3)) (K : GF p l e R s m args below meth c nL D cy ad A cs sl wf QF fin F (pc + 3) lv st (wI M k 2 y0)) : GF p l e R s m args below meth c nL D cy ad A cs sl wf QF fin F pc lv (.int y0 :: .ref (ad k) :: st) M := g_put X (C := RX6) (T := TX6) (N := 3) (i := 2) (ty := .int) (f := upd (M.1 k) 2 y0) hs (by rw [hk]; exact mk_6) (by rw [hk]; exact mk_6) rfl inX6 tyX6 tyX6_ok nmX6 (by decide) rfl rfl (by decide +kernel) rfl rfl (by simp) hl hd K
theorem get_7_0 (X : Cx p s m args meth c cc nL own D cy ad A wf sd) {k idx : Nat} (hk : kd k = 7) (hs : sd k) (hl : Cond.fieldLink own idx RX7 "bestSum" "I" ∈ TB) (hd : decode cc pc = .ok (.getfield idx, 3)) (K : GF p l e R s m args below meth c nL D cy ad A cs sl wf QF fin F (pc + 3) lv (.int (M.1 k 0) :: st) M) : GF p l e R s m args below meth c nL D cy ad A cs sl wf QF fin F pc lv (.ref (ad k) :: st) M := g_get X (C := RX7) (T := TX7) (N := 10) (i := 0) hs (by rw [hk]; exact mk_7) rfl inX7 (by decide) rfl hl rfl hd K
theorem put_7_0 (X : Cx p s m args meth c cc nL own D cy ad A wf sd) {k idx : Nat} {y0 : Int32} (hk : kd k = 7) (hs : sd k) (hl : Cond.fieldLink own idx RX7 "bestSum" "I" ∈ TB) (hd : decode cc pc = .ok (.putfield idx, 3)) (K : GF p l e R s m args below meth c nL D cy ad A cs sl wf QF fin F (pc + 3) lv st (wI M k 0 y0)) : GF p l e R s m args below meth c nL D cy ad A cs sl wf QF fin F pc lv (.int y0 :: .ref (ad k) :: st) M := g_put X (C := RX7) (T := TX7) (N := 10) (i := 0) (ty := .int) (f := upd (M.1 k) 0 y0) hs (by rw [hk]; exact mk_7) (by rw [hk]; exact mk_7) rfl inX7 tyX7 tyX7_ok nmX7 (by decide) rfl rfl (by decide +kernel) rfl rfl (by simp) hl hd K
theorem get_7_1 (X : Cx p s m args meth c cc nL own D cy ad A wf sd) {k idx : Nat} (hk : kd k = 7) (hs : sd k) (hl : Cond.fieldLink own idx RX7 "leaperCount" "I" ∈ TB) (hd : decode cc pc = .ok (.getfield idx, 3)) (K : GF p l e R s m args below meth c nL D cy ad A cs sl wf QF fin F (pc + 3) lv (.int (M.1 k 1) :: st) M) : GF p l e R s m args below meth c nL D cy ad A cs sl wf QF fin F pc lv (.ref (ad k) :: st) M := g_get X (C := RX7) (T := TX7) (N := 10) (i := 1) hs (by rw [hk]; exact mk_7) rfl inX7 (by decide) rfl hl rfl hd K
theorem put_7_1 (X : Cx p s m args meth c cc nL own D cy ad A wf sd) {k idx : Nat} {y0 : Int32} (hk : kd k = 7) (hs : sd k) (hl : Cond.fieldLink own idx RX7 "leaperCount" "I" ∈ TB) (hd : decode cc pc = .ok (.putfield idx, 3)) (K : GF p l e R s m args below meth c nL D cy ad A cs sl wf QF fin F (pc + 3) lv st (wI M k 1 y0)) : GF p l e R s m args below meth c nL D cy ad A cs sl wf QF fin F pc lv (.int y0 :: .ref (ad k) :: st) M := g_put X (C := RX7) (T := TX7) (N := 10) (i := 1) (ty := .int) (f := upd (M.1 k) 1 y0) hs (by rw [hk]; exact mk_7) (by rw [hk]; exact mk_7) rfl inX7 tyX7 tyX7_ok nmX7 (by decide) rfl rfl (by decide +kernel) rfl rfl (by simp) hl hd K
theorem get_7_2 (X : Cx p s m args meth c cc nL own D cy ad A wf sd) {k idx : Nat} (hk : kd k = 7) (hs : sd k) (hl : Cond.fieldLink own idx RX7 "most" "I" ∈ TB) (hd : decode cc pc = .ok (.getfield idx, 3)) (K : GF p l e R s m args below meth c nL D cy ad A cs sl wf QF fin F (pc + 3) lv (.int (M.1 k 2) :: st) M) : GF p l e R s m args below meth c nL D cy ad A cs sl wf QF fin F pc lv (.ref (ad k) :: st) M := g_get X (C := RX7) (T := TX7) (N := 10) (i := 2) hs (by rw [hk]; exact mk_7) rfl inX7 (by decide) rfl hl rfl hd K
theorem put_7_2 (X : Cx p s m args meth c cc nL own D cy ad A wf sd) {k idx : Nat} {y0 : Int32} (hk : kd k = 7) (hs : sd k) (hl : Cond.fieldLink own idx RX7 "most" "I" ∈ TB) (hd : decode cc pc = .ok (.putfield idx, 3)) (K : GF p l e R s m args below meth c nL D cy ad A cs sl wf QF fin F (pc + 3) lv st (wI M k 2 y0)) : GF p l e R s m args below meth c nL D cy ad A cs sl wf QF fin F pc lv (.int y0 :: .ref (ad k) :: st) M := g_put X (C := RX7) (T := TX7) (N := 10) (i := 2) (ty := .int) (f := upd (M.1 k) 2 y0) hs (by rw [hk]; exact mk_7) (by rw [hk]; exact mk_7) rfl inX7 tyX7 tyX7_ok nmX7 (by decide) rfl rfl (by decide +kernel) rfl rfl (by simp) hl hd K
theorem get_7_3 (X : Cx p s m args meth c cc nL own D cy ad A wf sd) {k idx : Nat} (hk : kd k = 7) (hs : sd k) (hl : Cond.fieldLink own idx RX7 "count" "I" ∈ TB) (hd : decode cc pc = .ok (.getfield idx, 3)) (K : GF p l e R s m args below meth c nL D cy ad A cs sl wf QF fin F (pc + 3) lv (.int (M.1 k 3) :: st) M) : GF p l e R s m args below meth c nL D cy ad A cs sl wf QF fin F pc lv (.ref (ad k) :: st) M := g_get X (C := RX7) (T := TX7) (N := 10) (i := 3) hs (by rw [hk]; exact mk_7) rfl inX7 (by decide) rfl hl rfl hd K
theorem put_7_3 (X : Cx p s m args meth c cc nL own D cy ad A wf sd) {k idx : Nat} {y0 : Int32} (hk : kd k = 7) (hs : sd k) (hl : Cond.fieldLink own idx RX7 "count" "I" ∈ TB) (hd : decode cc pc = .ok (.putfield idx, 3)) (K : GF p l e R s m args below meth c nL D cy ad A cs sl wf QF fin F (pc + 3) lv st (wI M k 3 y0)) : GF p l e R s m args below meth c nL D cy ad A cs sl wf QF fin F pc lv (.int y0 :: .ref (ad k) :: st) M := g_put X (C := RX7) (T := TX7) (N := 10) (i := 3) (ty := .int) (f := upd (M.1 k) 3 y0) hs (by rw [hk]; exact mk_7) (by rw [hk]; exact mk_7) rfl inX7 tyX7 tyX7_ok nmX7 (by decide) rfl rfl (by decide +kernel) rfl rfl (by simp) hl hd K
theorem get_7_4 (X : Cx p s m args meth c cc nL own D cy ad A wf sd) {k idx : Nat} (hk : kd k = 7) (hs : sd k) (hl : Cond.fieldLink own idx RX7 "jetties" "[I" ∈ TB) (hd : decode cc pc = .ok (.getfield idx, 3)) (K : GF p l e R s m args below meth c nL D cy ad A cs sl wf QF fin F (pc + 3) lv (.ref (ad (k + 1)) :: st) M) : GF p l e R s m args below meth c nL D cy ad A cs sl wf QF fin F pc lv (.ref (ad k) :: st) M := g_get X (C := RX7) (T := TX7) (N := 10) (i := 4) hs (by rw [hk]; exact mk_7) rfl inX7 (by decide) rfl hl rfl hd K
theorem get_7_5 (X : Cx p s m args meth c cc nL own D cy ad A wf sd) {k idx : Nat} (hk : kd k = 7) (hs : sd k) (hl : Cond.fieldLink own idx RX7 "risks" "[I" ∈ TB) (hd : decode cc pc = .ok (.getfield idx, 3)) (K : GF p l e R s m args below meth c nL D cy ad A cs sl wf QF fin F (pc + 3) lv (.ref (ad (k + 2)) :: st) M) : GF p l e R s m args below meth c nL D cy ad A cs sl wf QF fin F pc lv (.ref (ad k) :: st) M := g_get X (C := RX7) (T := TX7) (N := 10) (i := 5) hs (by rw [hk]; exact mk_7) rfl inX7 (by decide) rfl hl rfl hd K
theorem get_7_6 (X : Cx p s m args meth c cc nL own D cy ad A wf sd) {k idx : Nat} (hk : kd k = 7) (hs : sd k) (hl : Cond.fieldLink own idx RX7 "leastFrom" "[I" ∈ TB) (hd : decode cc pc = .ok (.getfield idx, 3)) (K : GF p l e R s m args below meth c nL D cy ad A cs sl wf QF fin F (pc + 3) lv (.ref (ad (k + 3)) :: st) M) : GF p l e R s m args below meth c nL D cy ad A cs sl wf QF fin F pc lv (.ref (ad k) :: st) M := g_get X (C := RX7) (T := TX7) (N := 10) (i := 6) hs (by rw [hk]; exact mk_7) rfl inX7 (by decide) rfl hl rfl hd K
theorem get_7_7 (X : Cx p s m args meth c cc nL own D cy ad A wf sd) {k idx : Nat} (hk : kd k = 7) (hs : sd k) (hl : Cond.fieldLink own idx RX7 "loads" "[I" ∈ TB) (hd : decode cc pc = .ok (.getfield idx, 3)) (K : GF p l e R s m args below meth c nL D cy ad A cs sl wf QF fin F (pc + 3) lv (.ref (ad (k + 4)) :: st) M) : GF p l e R s m args below meth c nL D cy ad A cs sl wf QF fin F pc lv (.ref (ad k) :: st) M := g_get X (C := RX7) (T := TX7) (N := 10) (i := 7) hs (by rw [hk]; exact mk_7) rfl inX7 (by decide) rfl hl rfl hd K
theorem get_7_8 (X : Cx p s m args meth c cc nL own D cy ad A wf sd) {k idx : Nat} (hk : kd k = 7) (hs : sd k) (hl : Cond.fieldLink own idx RX7 "chosen" "[I" ∈ TB) (hd : decode cc pc = .ok (.getfield idx, 3)) (K : GF p l e R s m args below meth c nL D cy ad A cs sl wf QF fin F (pc + 3) lv (.ref (ad (k + 5)) :: st) M) : GF p l e R s m args below meth c nL D cy ad A cs sl wf QF fin F pc lv (.ref (ad k) :: st) M := g_get X (C := RX7) (T := TX7) (N := 10) (i := 8) hs (by rw [hk]; exact mk_7) rfl inX7 (by decide) rfl hl rfl hd K
theorem get_7_9 (X : Cx p s m args meth c cc nL own D cy ad A wf sd) {k idx : Nat} (hk : kd k = 7) (hs : sd k) (hl : Cond.fieldLink own idx RX7 "bestChosen" "[I" ∈ TB) (hd : decode cc pc = .ok (.getfield idx, 3)) (K : GF p l e R s m args below meth c nL D cy ad A cs sl wf QF fin F (pc + 3) lv (.ref (ad (k + 6)) :: st) M) : GF p l e R s m args below meth c nL D cy ad A cs sl wf QF fin F pc lv (.ref (ad k) :: st) M := g_get X (C := RX7) (T := TX7) (N := 10) (i := 9) hs (by rw [hk]; exact mk_7) rfl inX7 (by decide) rfl hl rfl hd K
theorem get_8_0 (X : Cx p s m args meth c cc nL own D cy ad A wf sd) {k idx : Nat} (hk : kd k = 8) (hs : sd k) (hl : Cond.fieldLink own idx RX8 "jetties" "[I" ∈ TB) (hd : decode cc pc = .ok (.getfield idx, 3)) (K : GF p l e R s m args below meth c nL D cy ad A cs sl wf QF fin F (pc + 3) lv (.ref (ad (k + 1)) :: st) M) : GF p l e R s m args below meth c nL D cy ad A cs sl wf QF fin F pc lv (.ref (ad k) :: st) M := g_get X (C := RX8) (T := TX8) (N := 3) (i := 0) hs (by rw [hk]; exact mk_8) rfl inX8 (by decide) rfl hl rfl hd K
theorem get_8_1 (X : Cx p s m args meth c cc nL own D cy ad A wf sd) {k idx : Nat} (hk : kd k = 8) (hs : sd k) (hl : Cond.fieldLink own idx RX8 "comes" "[I" ∈ TB) (hd : decode cc pc = .ok (.getfield idx, 3)) (K : GF p l e R s m args below meth c nL D cy ad A cs sl wf QF fin F (pc + 3) lv (.ref (ad (k + 2)) :: st) M) : GF p l e R s m args below meth c nL D cy ad A cs sl wf QF fin F pc lv (.ref (ad k) :: st) M := g_get X (C := RX8) (T := TX8) (N := 3) (i := 1) hs (by rw [hk]; exact mk_8) rfl inX8 (by decide) rfl hl rfl hd K
theorem get_8_2 (X : Cx p s m args meth c cc nL own D cy ad A wf sd) {k idx : Nat} (hk : kd k = 8) (hs : sd k) (hl : Cond.fieldLink own idx RX8 "count" "I" ∈ TB) (hd : decode cc pc = .ok (.getfield idx, 3)) (K : GF p l e R s m args below meth c nL D cy ad A cs sl wf QF fin F (pc + 3) lv (.int (M.1 k 2) :: st) M) : GF p l e R s m args below meth c nL D cy ad A cs sl wf QF fin F pc lv (.ref (ad k) :: st) M := g_get X (C := RX8) (T := TX8) (N := 3) (i := 2) hs (by rw [hk]; exact mk_8) rfl inX8 (by decide) rfl hl rfl hd K
theorem put_8_2 (X : Cx p s m args meth c cc nL own D cy ad A wf sd) {k idx : Nat} {y0 : Int32} (hk : kd k = 8) (hs : sd k) (hl : Cond.fieldLink own idx RX8 "count" "I" ∈ TB) (hd : decode cc pc = .ok (.putfield idx, 3)) (K : GF p l e R s m args below meth c nL D cy ad A cs sl wf QF fin F (pc + 3) lv st (wI M k 2 y0)) : GF p l e R s m args below meth c nL D cy ad A cs sl wf QF fin F pc lv (.int y0 :: .ref (ad k) :: st) M := g_put X (C := RX8) (T := TX8) (N := 3) (i := 2) (ty := .int) (f := upd (M.1 k) 2 y0) hs (by rw [hk]; exact mk_8) (by rw [hk]; exact mk_8) rfl inX8 tyX8 tyX8_ok nmX8 (by decide) rfl rfl (by decide +kernel) rfl rfl (by simp) hl hd K
theorem get_9_0 (X : Cx p s m args meth c cc nL own D cy ad A wf sd) {k idx : Nat} (hk : kd k = 9) (hs : sd k) (hl : Cond.fieldLink own idx RX9 "leaper" "I" ∈ TB) (hd : decode cc pc = .ok (.getfield idx, 3)) (K : GF p l e R s m args below meth c nL D cy ad A cs sl wf QF fin F (pc + 3) lv (.int (M.1 k 0) :: st) M) : GF p l e R s m args below meth c nL D cy ad A cs sl wf QF fin F pc lv (.ref (ad k) :: st) M := g_get X (C := RX9) (T := TX9) (N := 8) (i := 0) hs (by rw [hk]; exact mk_9) rfl inX9 (by decide) rfl hl rfl hd K
theorem put_9_0 (X : Cx p s m args meth c cc nL own D cy ad A wf sd) {k idx : Nat} {y0 : Int32} (hk : kd k = 9) (hs : sd k) (hl : Cond.fieldLink own idx RX9 "leaper" "I" ∈ TB) (hd : decode cc pc = .ok (.putfield idx, 3)) (K : GF p l e R s m args below meth c nL D cy ad A cs sl wf QF fin F (pc + 3) lv st (wI M k 0 y0)) : GF p l e R s m args below meth c nL D cy ad A cs sl wf QF fin F pc lv (.int y0 :: .ref (ad k) :: st) M := g_put X (C := RX9) (T := TX9) (N := 8) (i := 0) (ty := .int) (f := upd (M.1 k) 0 y0) hs (by rw [hk]; exact mk_9) (by rw [hk]; exact mk_9) rfl inX9 tyX9 tyX9_ok nmX9 (by decide) rfl rfl (by decide +kernel) rfl rfl (by simp) hl hd K
theorem get_9_1 (X : Cx p s m args meth c cc nL own D cy ad A wf sd) {k idx : Nat} (hk : kd k = 9) (hs : sd k) (hl : Cond.fieldLink own idx RX9 "jetties" "[I" ∈ TB) (hd : decode cc pc = .ok (.getfield idx, 3)) (K : GF p l e R s m args below meth c nL D cy ad A cs sl wf QF fin F (pc + 3) lv (.ref (ad (k + 1)) :: st) M) : GF p l e R s m args below meth c nL D cy ad A cs sl wf QF fin F pc lv (.ref (ad k) :: st) M := g_get X (C := RX9) (T := TX9) (N := 8) (i := 1) hs (by rw [hk]; exact mk_9) rfl inX9 (by decide) rfl hl rfl hd K
theorem get_9_2 (X : Cx p s m args meth c cc nL own D cy ad A wf sd) {k idx : Nat} (hk : kd k = 9) (hs : sd k) (hl : Cond.fieldLink own idx RX9 "count" "I" ∈ TB) (hd : decode cc pc = .ok (.getfield idx, 3)) (K : GF p l e R s m args below meth c nL D cy ad A cs sl wf QF fin F (pc + 3) lv (.int (M.1 k 2) :: st) M) : GF p l e R s m args below meth c nL D cy ad A cs sl wf QF fin F pc lv (.ref (ad k) :: st) M := g_get X (C := RX9) (T := TX9) (N := 8) (i := 2) hs (by rw [hk]; exact mk_9) rfl inX9 (by decide) rfl hl rfl hd K
theorem put_9_2 (X : Cx p s m args meth c cc nL own D cy ad A wf sd) {k idx : Nat} {y0 : Int32} (hk : kd k = 9) (hs : sd k) (hl : Cond.fieldLink own idx RX9 "count" "I" ∈ TB) (hd : decode cc pc = .ok (.putfield idx, 3)) (K : GF p l e R s m args below meth c nL D cy ad A cs sl wf QF fin F (pc + 3) lv st (wI M k 2 y0)) : GF p l e R s m args below meth c nL D cy ad A cs sl wf QF fin F pc lv (.int y0 :: .ref (ad k) :: st) M := g_put X (C := RX9) (T := TX9) (N := 8) (i := 2) (ty := .int) (f := upd (M.1 k) 2 y0) hs (by rw [hk]; exact mk_9) (by rw [hk]; exact mk_9) rfl inX9 tyX9 tyX9_ok nmX9 (by decide) rfl rfl (by decide +kernel) rfl rfl (by simp) hl hd K
theorem get_9_3 (X : Cx p s m args meth c cc nL own D cy ad A wf sd) {k idx : Nat} (hk : kd k = 9) (hs : sd k) (hl : Cond.fieldLink own idx RX9 "spot" "I" ∈ TB) (hd : decode cc pc = .ok (.getfield idx, 3)) (K : GF p l e R s m args below meth c nL D cy ad A cs sl wf QF fin F (pc + 3) lv (.int (M.1 k 3) :: st) M) : GF p l e R s m args below meth c nL D cy ad A cs sl wf QF fin F pc lv (.ref (ad k) :: st) M := g_get X (C := RX9) (T := TX9) (N := 8) (i := 3) hs (by rw [hk]; exact mk_9) rfl inX9 (by decide) rfl hl rfl hd K
theorem put_9_3 (X : Cx p s m args meth c cc nL own D cy ad A wf sd) {k idx : Nat} {y0 : Int32} (hk : kd k = 9) (hs : sd k) (hl : Cond.fieldLink own idx RX9 "spot" "I" ∈ TB) (hd : decode cc pc = .ok (.putfield idx, 3)) (K : GF p l e R s m args below meth c nL D cy ad A cs sl wf QF fin F (pc + 3) lv st (wI M k 3 y0)) : GF p l e R s m args below meth c nL D cy ad A cs sl wf QF fin F pc lv (.int y0 :: .ref (ad k) :: st) M := g_put X (C := RX9) (T := TX9) (N := 8) (i := 3) (ty := .int) (f := upd (M.1 k) 3 y0) hs (by rw [hk]; exact mk_9) (by rw [hk]; exact mk_9) rfl inX9 tyX9 tyX9_ok nmX9 (by decide) rfl rfl (by decide +kernel) rfl rfl (by simp) hl hd K
theorem get_9_4 (X : Cx p s m args meth c cc nL own D cy ad A wf sd) {k idx : Nat} (hk : kd k = 9) (hs : sd k) (hl : Cond.fieldLink own idx RX9 "goesOn" "I" ∈ TB) (hd : decode cc pc = .ok (.getfield idx, 3)) (K : GF p l e R s m args below meth c nL D cy ad A cs sl wf QF fin F (pc + 3) lv (.int (M.1 k 4) :: st) M) : GF p l e R s m args below meth c nL D cy ad A cs sl wf QF fin F pc lv (.ref (ad k) :: st) M := g_get X (C := RX9) (T := TX9) (N := 8) (i := 4) hs (by rw [hk]; exact mk_9) rfl inX9 (by decide) rfl hl rfl hd K
theorem put_9_4 (X : Cx p s m args meth c cc nL own D cy ad A wf sd) {k idx : Nat} {y0 : Int32} (hk : kd k = 9) (hs : sd k) (hl : Cond.fieldLink own idx RX9 "goesOn" "I" ∈ TB) (hd : decode cc pc = .ok (.putfield idx, 3)) (K : GF p l e R s m args below meth c nL D cy ad A cs sl wf QF fin F (pc + 3) lv st (wI M k 4 y0)) : GF p l e R s m args below meth c nL D cy ad A cs sl wf QF fin F pc lv (.int y0 :: .ref (ad k) :: st) M := g_put X (C := RX9) (T := TX9) (N := 8) (i := 4) (ty := .int) (f := upd (M.1 k) 4 y0) hs (by rw [hk]; exact mk_9) (by rw [hk]; exact mk_9) rfl inX9 tyX9 tyX9_ok nmX9 (by decide) rfl rfl (by decide +kernel) rfl rfl (by simp) hl hd K
theorem get_9_5 (X : Cx p s m args meth c cc nL own D cy ad A wf sd) {k idx : Nat} (hk : kd k = 9) (hs : sd k) (hl : Cond.fieldLink own idx RX9 "done" "I" ∈ TB) (hd : decode cc pc = .ok (.getfield idx, 3)) (K : GF p l e R s m args below meth c nL D cy ad A cs sl wf QF fin F (pc + 3) lv (.int (M.1 k 5) :: st) M) : GF p l e R s m args below meth c nL D cy ad A cs sl wf QF fin F pc lv (.ref (ad k) :: st) M := g_get X (C := RX9) (T := TX9) (N := 8) (i := 5) hs (by rw [hk]; exact mk_9) rfl inX9 (by decide) rfl hl rfl hd K
theorem put_9_5 (X : Cx p s m args meth c cc nL own D cy ad A wf sd) {k idx : Nat} {y0 : Int32} (hk : kd k = 9) (hs : sd k) (hl : Cond.fieldLink own idx RX9 "done" "I" ∈ TB) (hd : decode cc pc = .ok (.putfield idx, 3)) (K : GF p l e R s m args below meth c nL D cy ad A cs sl wf QF fin F (pc + 3) lv st (wI M k 5 y0)) : GF p l e R s m args below meth c nL D cy ad A cs sl wf QF fin F pc lv (.int y0 :: .ref (ad k) :: st) M := g_put X (C := RX9) (T := TX9) (N := 8) (i := 5) (ty := .int) (f := upd (M.1 k) 5 y0) hs (by rw [hk]; exact mk_9) (by rw [hk]; exact mk_9) rfl inX9 tyX9 tyX9_ok nmX9 (by decide) rfl rfl (by decide +kernel) rfl rfl (by simp) hl hd K
theorem get_9_6 (X : Cx p s m args meth c cc nL own D cy ad A wf sd) {k idx : Nat} (hk : kd k = 9) (hs : sd k) (hl : Cond.fieldLink own idx RX9 "drops" "I" ∈ TB) (hd : decode cc pc = .ok (.getfield idx, 3)) (K : GF p l e R s m args below meth c nL D cy ad A cs sl wf QF fin F (pc + 3) lv (.int (M.1 k 6) :: st) M) : GF p l e R s m args below meth c nL D cy ad A cs sl wf QF fin F pc lv (.ref (ad k) :: st) M := g_get X (C := RX9) (T := TX9) (N := 8) (i := 6) hs (by rw [hk]; exact mk_9) rfl inX9 (by decide) rfl hl rfl hd K
theorem put_9_6 (X : Cx p s m args meth c cc nL own D cy ad A wf sd) {k idx : Nat} {y0 : Int32} (hk : kd k = 9) (hs : sd k) (hl : Cond.fieldLink own idx RX9 "drops" "I" ∈ TB) (hd : decode cc pc = .ok (.putfield idx, 3)) (K : GF p l e R s m args below meth c nL D cy ad A cs sl wf QF fin F (pc + 3) lv st (wI M k 6 y0)) : GF p l e R s m args below meth c nL D cy ad A cs sl wf QF fin F pc lv (.int y0 :: .ref (ad k) :: st) M := g_put X (C := RX9) (T := TX9) (N := 8) (i := 6) (ty := .int) (f := upd (M.1 k) 6 y0) hs (by rw [hk]; exact mk_9) (by rw [hk]; exact mk_9) rfl inX9 tyX9 tyX9_ok nmX9 (by decide) rfl rfl (by decide +kernel) rfl rfl (by simp) hl hd K
theorem get_9_7 (X : Cx p s m args meth c cc nL own D cy ad A wf sd) {k idx : Nat} (hk : kd k = 9) (hs : sd k) (hl : Cond.fieldLink own idx RX9 "misses" "I" ∈ TB) (hd : decode cc pc = .ok (.getfield idx, 3)) (K : GF p l e R s m args below meth c nL D cy ad A cs sl wf QF fin F (pc + 3) lv (.int (M.1 k 7) :: st) M) : GF p l e R s m args below meth c nL D cy ad A cs sl wf QF fin F pc lv (.ref (ad k) :: st) M := g_get X (C := RX9) (T := TX9) (N := 8) (i := 7) hs (by rw [hk]; exact mk_9) rfl inX9 (by decide) rfl hl rfl hd K
theorem put_9_7 (X : Cx p s m args meth c cc nL own D cy ad A wf sd) {k idx : Nat} {y0 : Int32} (hk : kd k = 9) (hs : sd k) (hl : Cond.fieldLink own idx RX9 "misses" "I" ∈ TB) (hd : decode cc pc = .ok (.putfield idx, 3)) (K : GF p l e R s m args below meth c nL D cy ad A cs sl wf QF fin F (pc + 3) lv st (wI M k 7 y0)) : GF p l e R s m args below meth c nL D cy ad A cs sl wf QF fin F pc lv (.int y0 :: .ref (ad k) :: st) M := g_put X (C := RX9) (T := TX9) (N := 8) (i := 7) (ty := .int) (f := upd (M.1 k) 7 y0) hs (by rw [hk]; exact mk_9) (by rw [hk]; exact mk_9) rfl inX9 tyX9 tyX9_ok nmX9 (by decide) rfl rfl (by decide +kernel) rfl rfl (by simp) hl hd K
theorem get_10_0 (X : Cx p s m args meth c cc nL own D cy ad A wf sd) {k idx : Nat} (hk : kd k = 10) (hs : sd k) (hl : Cond.fieldLink own idx RX10 "shelves" "[LLettersLeaping$Shelf;" ∈ TB) (hd : decode cc pc = .ok (.getfield idx, 3)) (K : GF p l e R s m args below meth c nL D cy ad A cs sl wf QF fin F (pc + 3) lv (.ref (ad (k + 1)) :: st) M) : GF p l e R s m args below meth c nL D cy ad A cs sl wf QF fin F pc lv (.ref (ad k) :: st) M := g_get X (C := RX10) (T := TX10) (N := 11) (i := 0) hs (by rw [hk]; exact mk_10) rfl inX10 (by decide) rfl hl rfl hd K
theorem get_10_1 (X : Cx p s m args meth c cc nL own D cy ad A wf sd) {k idx : Nat} (hk : kd k = 10) (hs : sd k) (hl : Cond.fieldLink own idx RX10 "tape" "LLettersLeaping$Tape;" ∈ TB) (hd : decode cc pc = .ok (.getfield idx, 3)) (K : GF p l e R s m args below meth c nL D cy ad A cs sl wf QF fin F (pc + 3) lv (.ref (ad (k + 18)) :: st) M) : GF p l e R s m args below meth c nL D cy ad A cs sl wf QF fin F pc lv (.ref (ad k) :: st) M := g_get X (C := RX10) (T := TX10) (N := 11) (i := 1) hs (by rw [hk]; exact mk_10) rfl inX10 (by decide) rfl hl rfl hd K
theorem get_10_2 (X : Cx p s m args meth c cc nL own D cy ad A wf sd) {k idx : Nat} (hk : kd k = 10) (hs : sd k) (hl : Cond.fieldLink own idx RX10 "now" "LLettersLeaping$Lake;" ∈ TB) (hd : decode cc pc = .ok (.getfield idx, 3)) (K : GF p l e R s m args below meth c nL D cy ad A cs sl wf QF fin F (pc + 3) lv (.ref (ad (k + 20)) :: st) M) : GF p l e R s m args below meth c nL D cy ad A cs sl wf QF fin F pc lv (.ref (ad k) :: st) M := g_get X (C := RX10) (T := TX10) (N := 11) (i := 2) hs (by rw [hk]; exact mk_10) rfl inX10 (by decide) rfl hl rfl hd K
theorem get_10_3 (X : Cx p s m args meth c cc nL own D cy ad A wf sd) {k idx : Nat} (hk : kd k = 10) (hs : sd k) (hl : Cond.fieldLink own idx RX10 "kept" "LLettersLeaping$Lake;" ∈ TB) (hd : decode cc pc = .ok (.getfield idx, 3)) (K : GF p l e R s m args below meth c nL D cy ad A cs sl wf QF fin F (pc + 3) lv (.ref (ad (k + 69)) :: st) M) : GF p l e R s m args below meth c nL D cy ad A cs sl wf QF fin F pc lv (.ref (ad k) :: st) M := g_get X (C := RX10) (T := TX10) (N := 11) (i := 3) hs (by rw [hk]; exact mk_10) rfl inX10 (by decide) rfl hl rfl hd K
theorem get_10_4 (X : Cx p s m args meth c cc nL own D cy ad A wf sd) {k idx : Nat} (hk : kd k = 10) (hs : sd k) (hl : Cond.fieldLink own idx RX10 "isKept" "Z" ∈ TB) (hd : decode cc pc = .ok (.getfield idx, 3)) (K : GF p l e R s m args below meth c nL D cy ad A cs sl wf QF fin F (pc + 3) lv (.int (M.1 k 4) :: st) M) : GF p l e R s m args below meth c nL D cy ad A cs sl wf QF fin F pc lv (.ref (ad k) :: st) M := g_get X (C := RX10) (T := TX10) (N := 11) (i := 4) hs (by rw [hk]; exact mk_10) rfl inX10 (by decide) rfl hl rfl hd K
theorem put_10_4 (X : Cx p s m args meth c cc nL own D cy ad A wf sd) {k idx : Nat} {y0 : Int32} (hb : isB y0) (hk : kd k = 10) (hs : sd k) (hl : Cond.fieldLink own idx RX10 "isKept" "Z" ∈ TB) (hd : decode cc pc = .ok (.putfield idx, 3)) (K : GF p l e R s m args below meth c nL D cy ad A cs sl wf QF fin F (pc + 3) lv st (wI M k 4 y0)) : GF p l e R s m args below meth c nL D cy ad A cs sl wf QF fin F pc lv (.int y0 :: .ref (ad k) :: st) M := g_put X (C := RX10) (T := TX10) (N := 11) (i := 4) (ty := .boolean) (f := upd (M.1 k) 4 y0) hs (by rw [hk]; exact mk_10) (by rw [hk]; exact mk_10) rfl inX10 tyX10 tyX10_ok nmX10 (by decide) rfl rfl (by decide +kernel) (by rcases hb with rfl | rfl <;> rfl) (by rcases hb with rfl | rfl <;> rfl) (by simp) hl hd K
theorem get_10_5 (X : Cx p s m args meth c cc nL own D cy ad A wf sd) {k idx : Nat} (hk : kd k = 10) (hs : sd k) (hl : Cond.fieldLink own idx RX10 "refusals" "[I" ∈ TB) (hd : decode cc pc = .ok (.getfield idx, 3)) (K : GF p l e R s m args below meth c nL D cy ad A cs sl wf QF fin F (pc + 3) lv (.ref (ad (k + 118)) :: st) M) : GF p l e R s m args below meth c nL D cy ad A cs sl wf QF fin F pc lv (.ref (ad k) :: st) M := g_get X (C := RX10) (T := TX10) (N := 11) (i := 5) hs (by rw [hk]; exact mk_10) rfl inX10 (by decide) rfl hl rfl hd K
theorem get_10_6 (X : Cx p s m args meth c cc nL own D cy ad A wf sd) {k idx : Nat} (hk : kd k = 10) (hs : sd k) (hl : Cond.fieldLink own idx RX10 "tour" "LLettersLeaping$Tour;" ∈ TB) (hd : decode cc pc = .ok (.getfield idx, 3)) (K : GF p l e R s m args below meth c nL D cy ad A cs sl wf QF fin F (pc + 3) lv (.ref (ad (k + 119)) :: st) M) : GF p l e R s m args below meth c nL D cy ad A cs sl wf QF fin F pc lv (.ref (ad k) :: st) M := g_get X (C := RX10) (T := TX10) (N := 11) (i := 6) hs (by rw [hk]; exact mk_10) rfl inX10 (by decide) rfl hl rfl hd K
theorem get_10_7 (X : Cx p s m args meth c cc nL own D cy ad A wf sd) {k idx : Nat} (hk : kd k = 10) (hs : sd k) (hl : Cond.fieldLink own idx RX10 "plainTour" "LLettersLeaping$Tour;" ∈ TB) (hd : decode cc pc = .ok (.getfield idx, 3)) (K : GF p l e R s m args below meth c nL D cy ad A cs sl wf QF fin F (pc + 3) lv (.ref (ad (k + 122)) :: st) M) : GF p l e R s m args below meth c nL D cy ad A cs sl wf QF fin F pc lv (.ref (ad k) :: st) M := g_get X (C := RX10) (T := TX10) (N := 11) (i := 7) hs (by rw [hk]; exact mk_10) rfl inX10 (by decide) rfl hl rfl hd K
theorem get_10_8 (X : Cx p s m args meth c cc nL own D cy ad A wf sd) {k idx : Nat} (hk : kd k = 10) (hs : sd k) (hl : Cond.fieldLink own idx RX10 "orders" "LLettersLeaping$OrderSearch;" ∈ TB) (hd : decode cc pc = .ok (.getfield idx, 3)) (K : GF p l e R s m args below meth c nL D cy ad A cs sl wf QF fin F (pc + 3) lv (.ref (ad (k + 125)) :: st) M) : GF p l e R s m args below meth c nL D cy ad A cs sl wf QF fin F pc lv (.ref (ad k) :: st) M := g_get X (C := RX10) (T := TX10) (N := 11) (i := 8) hs (by rw [hk]; exact mk_10) rfl inX10 (by decide) rfl hl rfl hd K
theorem get_10_9 (X : Cx p s m args meth c cc nL own D cy ad A wf sd) {k idx : Nat} (hk : kd k = 10) (hs : sd k) (hl : Cond.fieldLink own idx RX10 "teams" "LLettersLeaping$TeamSearch;" ∈ TB) (hd : decode cc pc = .ok (.getfield idx, 3)) (K : GF p l e R s m args below meth c nL D cy ad A cs sl wf QF fin F (pc + 3) lv (.ref (ad (k + 130)) :: st) M) : GF p l e R s m args below meth c nL D cy ad A cs sl wf QF fin F pc lv (.ref (ad k) :: st) M := g_get X (C := RX10) (T := TX10) (N := 11) (i := 9) hs (by rw [hk]; exact mk_10) rfl inX10 (by decide) rfl hl rfl hd K
theorem get_10_10 (X : Cx p s m args meth c cc nL own D cy ad A wf sd) {k idx : Nat} (hk : kd k = 10) (hs : sd k) (hl : Cond.fieldLink own idx RX10 "bag" "[I" ∈ TB) (hd : decode cc pc = .ok (.getfield idx, 3)) (K : GF p l e R s m args below meth c nL D cy ad A cs sl wf QF fin F (pc + 3) lv (.ref (ad (k + 137)) :: st) M) : GF p l e R s m args below meth c nL D cy ad A cs sl wf QF fin F pc lv (.ref (ad k) :: st) M := g_get X (C := RX10) (T := TX10) (N := 11) (i := 10) hs (by rw [hk]; exact mk_10) rfl inX10 (by decide) rfl hl rfl hd K
theorem get_11_0 (X : Cx p s m args meth c cc nL own D cy ad A wf sd) {k idx : Nat} (hk : kd k = 11) (hs : sd k) (hl : Cond.fieldLink own idx RX11 "holding" "[I" ∈ TB) (hd : decode cc pc = .ok (.getfield idx, 3)) (K : GF p l e R s m args below meth c nL D cy ad A cs sl wf QF fin F (pc + 3) lv (.ref (ad (k + 1)) :: st) M) : GF p l e R s m args below meth c nL D cy ad A cs sl wf QF fin F pc lv (.ref (ad k) :: st) M := g_get X (C := RX11) (T := TX11) (N := 28) (i := 0) hs (by rw [hk]; exact mk_11) rfl inX11 (by decide) rfl hl rfl hd K
theorem get_11_1 (X : Cx p s m args meth c cc nL own D cy ad A wf sd) {k idx : Nat} (hk : kd k = 11) (hs : sd k) (hl : Cond.fieldLink own idx RX11 "rowLength" "[I" ∈ TB) (hd : decode cc pc = .ok (.getfield idx, 3)) (K : GF p l e R s m args below meth c nL D cy ad A cs sl wf QF fin F (pc + 3) lv (.ref (ad (k + 2)) :: st) M) : GF p l e R s m args below meth c nL D cy ad A cs sl wf QF fin F pc lv (.ref (ad k) :: st) M := g_get X (C := RX11) (T := TX11) (N := 28) (i := 1) hs (by rw [hk]; exact mk_11) rfl inX11 (by decide) rfl hl rfl hd K
theorem get_11_2 (X : Cx p s m args meth c cc nL own D cy ad A wf sd) {k idx : Nat} (hk : kd k = 11) (hs : sd k) (hl : Cond.fieldLink own idx RX11 "rowOf" "[J" ∈ TB) (hd : decode cc pc = .ok (.getfield idx, 3)) (K : GF p l e R s m args below meth c nL D cy ad A cs sl wf QF fin F (pc + 3) lv (.ref (ad (k + 3)) :: st) M) : GF p l e R s m args below meth c nL D cy ad A cs sl wf QF fin F pc lv (.ref (ad k) :: st) M := g_get X (C := RX11) (T := TX11) (N := 28) (i := 2) hs (by rw [hk]; exact mk_11) rfl inX11 (by decide) rfl hl rfl hd K
theorem get_11_3 (X : Cx p s m args meth c cc nL own D cy ad A wf sd) {k idx : Nat} (hk : kd k = 11) (hs : sd k) (hl : Cond.fieldLink own idx RX11 "jeKind" "[I" ∈ TB) (hd : decode cc pc = .ok (.getfield idx, 3)) (K : GF p l e R s m args below meth c nL D cy ad A cs sl wf QF fin F (pc + 3) lv (.ref (ad (k + 4)) :: st) M) : GF p l e R s m args below meth c nL D cy ad A cs sl wf QF fin F pc lv (.ref (ad k) :: st) M := g_get X (C := RX11) (T := TX11) (N := 28) (i := 3) hs (by rw [hk]; exact mk_11) rfl inX11 (by decide) rfl hl rfl hd K
theorem get_11_4 (X : Cx p s m args meth c cc nL own D cy ad A wf sd) {k idx : Nat} (hk : kd k = 11) (hs : sd k) (hl : Cond.fieldLink own idx RX11 "jeSpot" "[I" ∈ TB) (hd : decode cc pc = .ok (.getfield idx, 3)) (K : GF p l e R s m args below meth c nL D cy ad A cs sl wf QF fin F (pc + 3) lv (.ref (ad (k + 5)) :: st) M) : GF p l e R s m args below meth c nL D cy ad A cs sl wf QF fin F pc lv (.ref (ad k) :: st) M := g_get X (C := RX11) (T := TX11) (N := 28) (i := 4) hs (by rw [hk]; exact mk_11) rfl inX11 (by decide) rfl hl rfl hd K
theorem get_11_5 (X : Cx p s m args meth c cc nL own D cy ad A wf sd) {k idx : Nat} (hk : kd k = 11) (hs : sd k) (hl : Cond.fieldLink own idx RX11 "jeLength" "[I" ∈ TB) (hd : decode cc pc = .ok (.getfield idx, 3)) (K : GF p l e R s m args below meth c nL D cy ad A cs sl wf QF fin F (pc + 3) lv (.ref (ad (k + 6)) :: st) M) : GF p l e R s m args below meth c nL D cy ad A cs sl wf QF fin F pc lv (.ref (ad k) :: st) M := g_get X (C := RX11) (T := TX11) (N := 28) (i := 5) hs (by rw [hk]; exact mk_11) rfl inX11 (by decide) rfl hl rfl hd K
theorem get_11_6 (X : Cx p s m args meth c cc nL own D cy ad A wf sd) {k idx : Nat} (hk : kd k = 11) (hs : sd k) (hl : Cond.fieldLink own idx RX11 "jeHeight" "[I" ∈ TB) (hd : decode cc pc = .ok (.getfield idx, 3)) (K : GF p l e R s m args below meth c nL D cy ad A cs sl wf QF fin F (pc + 3) lv (.ref (ad (k + 7)) :: st) M) : GF p l e R s m args below meth c nL D cy ad A cs sl wf QF fin F pc lv (.ref (ad k) :: st) M := g_get X (C := RX11) (T := TX11) (N := 28) (i := 6) hs (by rw [hk]; exact mk_11) rfl inX11 (by decide) rfl hl rfl hd K
theorem get_11_7 (X : Cx p s m args meth c cc nL own D cy ad A wf sd) {k idx : Nat} (hk : kd k = 11) (hs : sd k) (hl : Cond.fieldLink own idx RX11 "jeWet" "[I" ∈ TB) (hd : decode cc pc = .ok (.getfield idx, 3)) (K : GF p l e R s m args below meth c nL D cy ad A cs sl wf QF fin F (pc + 3) lv (.ref (ad (k + 8)) :: st) M) : GF p l e R s m args below meth c nL D cy ad A cs sl wf QF fin F pc lv (.ref (ad k) :: st) M := g_get X (C := RX11) (T := TX11) (N := 28) (i := 7) hs (by rw [hk]; exact mk_11) rfl inX11 (by decide) rfl hl rfl hd K
theorem get_11_8 (X : Cx p s m args meth c cc nL own D cy ad A wf sd) {k idx : Nat} (hk : kd k = 11) (hs : sd k) (hl : Cond.fieldLink own idx RX11 "tapeSize" "I" ∈ TB) (hd : decode cc pc = .ok (.getfield idx, 3)) (K : GF p l e R s m args below meth c nL D cy ad A cs sl wf QF fin F (pc + 3) lv (.int (M.1 k 8) :: st) M) : GF p l e R s m args below meth c nL D cy ad A cs sl wf QF fin F pc lv (.ref (ad k) :: st) M := g_get X (C := RX11) (T := TX11) (N := 28) (i := 8) hs (by rw [hk]; exact mk_11) rfl inX11 (by decide) rfl hl rfl hd K
theorem put_11_8 (X : Cx p s m args meth c cc nL own D cy ad A wf sd) {k idx : Nat} {y0 : Int32} (hk : kd k = 11) (hs : sd k) (hl : Cond.fieldLink own idx RX11 "tapeSize" "I" ∈ TB) (hd : decode cc pc = .ok (.putfield idx, 3)) (K : GF p l e R s m args below meth c nL D cy ad A cs sl wf QF fin F (pc + 3) lv st (wI M k 8 y0)) : GF p l e R s m args below meth c nL D cy ad A cs sl wf QF fin F pc lv (.int y0 :: .ref (ad k) :: st) M := g_put X (C := RX11) (T := TX11) (N := 28) (i := 8) (ty := .int) (f := upd (M.1 k) 8 y0) hs (by rw [hk]; exact mk_11) (by rw [hk]; exact mk_11) rfl inX11 tyX11 tyX11_ok nmX11 (by decide) rfl rfl (by decide +kernel) rfl rfl (by simp) hl hd K
theorem get_11_9 (X : Cx p s m args meth c cc nL own D cy ad A wf sd) {k idx : Nat} (hk : kd k = 11) (hs : sd k) (hl : Cond.fieldLink own idx RX11 "tape" "[I" ∈ TB) (hd : decode cc pc = .ok (.getfield idx, 3)) (K : GF p l e R s m args below meth c nL D cy ad A cs sl wf QF fin F (pc + 3) lv (.ref (ad (k + 9)) :: st) M) : GF p l e R s m args below meth c nL D cy ad A cs sl wf QF fin F pc lv (.ref (ad k) :: st) M := g_get X (C := RX11) (T := TX11) (N := 28) (i := 9) hs (by rw [hk]; exact mk_11) rfl inX11 (by decide) rfl hl rfl hd K
theorem get_11_10 (X : Cx p s m args meth c cc nL own D cy ad A wf sd) {k idx : Nat} (hk : kd k = 11) (hs : sd k) (hl : Cond.fieldLink own idx RX11 "lawSays" "[I" ∈ TB) (hd : decode cc pc = .ok (.getfield idx, 3)) (K : GF p l e R s m args below meth c nL D cy ad A cs sl wf QF fin F (pc + 3) lv (.ref (ad (k + 10)) :: st) M) : GF p l e R s m args below meth c nL D cy ad A cs sl wf QF fin F pc lv (.ref (ad k) :: st) M := g_get X (C := RX11) (T := TX11) (N := 28) (i := 10) hs (by rw [hk]; exact mk_11) rfl inX11 (by decide) rfl hl rfl hd K
theorem get_11_11 (X : Cx p s m args meth c cc nL own D cy ad A wf sd) {k idx : Nat} (hk : kd k = 11) (hs : sd k) (hl : Cond.fieldLink own idx RX11 "leSkill" "[I" ∈ TB) (hd : decode cc pc = .ok (.getfield idx, 3)) (K : GF p l e R s m args below meth c nL D cy ad A cs sl wf QF fin F (pc + 3) lv (.ref (ad (k + 11)) :: st) M) : GF p l e R s m args below meth c nL D cy ad A cs sl wf QF fin F pc lv (.ref (ad k) :: st) M := g_get X (C := RX11) (T := TX11) (N := 28) (i := 11) hs (by rw [hk]; exact mk_11) rfl inX11 (by decide) rfl hl rfl hd K
theorem get_11_12 (X : Cx p s m args meth c cc nL own D cy ad A wf sd) {k idx : Nat} (hk : kd k = 11) (hs : sd k) (hl : Cond.fieldLink own idx RX11 "leLeaps" "[I" ∈ TB) (hd : decode cc pc = .ok (.getfield idx, 3)) (K : GF p l e R s m args below meth c nL D cy ad A cs sl wf QF fin F (pc + 3) lv (.ref (ad (k + 12)) :: st) M) : GF p l e R s m args below meth c nL D cy ad A cs sl wf QF fin F pc lv (.ref (ad k) :: st) M := g_get X (C := RX11) (T := TX11) (N := 28) (i := 12) hs (by rw [hk]; exact mk_11) rfl inX11 (by decide) rfl hl rfl hd K
theorem get_11_13 (X : Cx p s m args meth c cc nL own D cy ad A wf sd) {k idx : Nat} (hk : kd k = 11) (hs : sd k) (hl : Cond.fieldLink own idx RX11 "leDrops" "[I" ∈ TB) (hd : decode cc pc = .ok (.getfield idx, 3)) (K : GF p l e R s m args below meth c nL D cy ad A cs sl wf QF fin F (pc + 3) lv (.ref (ad (k + 13)) :: st) M) : GF p l e R s m args below meth c nL D cy ad A cs sl wf QF fin F pc lv (.ref (ad k) :: st) M := g_get X (C := RX11) (T := TX11) (N := 28) (i := 13) hs (by rw [hk]; exact mk_11) rfl inX11 (by decide) rfl hl rfl hd K
theorem get_11_14 (X : Cx p s m args meth c cc nL own D cy ad A wf sd) {k idx : Nat} (hk : kd k = 11) (hs : sd k) (hl : Cond.fieldLink own idx RX11 "paJetty" "[I" ∈ TB) (hd : decode cc pc = .ok (.getfield idx, 3)) (K : GF p l e R s m args below meth c nL D cy ad A cs sl wf QF fin F (pc + 3) lv (.ref (ad (k + 14)) :: st) M) : GF p l e R s m args below meth c nL D cy ad A cs sl wf QF fin F pc lv (.ref (ad k) :: st) M := g_get X (C := RX11) (T := TX11) (N := 28) (i := 14) hs (by rw [hk]; exact mk_11) rfl inX11 (by decide) rfl hl rfl hd K
theorem get_11_15 (X : Cx p s m args meth c cc nL own D cy ad A wf sd) {k idx : Nat} (hk : kd k = 11) (hs : sd k) (hl : Cond.fieldLink own idx RX11 "paMinutes" "[I" ∈ TB) (hd : decode cc pc = .ok (.getfield idx, 3)) (K : GF p l e R s m args below meth c nL D cy ad A cs sl wf QF fin F (pc + 3) lv (.ref (ad (k + 15)) :: st) M) : GF p l e R s m args below meth c nL D cy ad A cs sl wf QF fin F pc lv (.ref (ad k) :: st) M := g_get X (C := RX11) (T := TX11) (N := 28) (i := 15) hs (by rw [hk]; exact mk_11) rfl inX11 (by decide) rfl hl rfl hd K
theorem get_11_16 (X : Cx p s m args meth c cc nL own D cy ad A wf sd) {k idx : Nat} (hk : kd k = 11) (hs : sd k) (hl : Cond.fieldLink own idx RX11 "paWorth" "[I" ∈ TB) (hd : decode cc pc = .ok (.getfield idx, 3)) (K : GF p l e R s m args below meth c nL D cy ad A cs sl wf QF fin F (pc + 3) lv (.ref (ad (k + 16)) :: st) M) : GF p l e R s m args below meth c nL D cy ad A cs sl wf QF fin F pc lv (.ref (ad k) :: st) M := g_get X (C := RX11) (T := TX11) (N := 28) (i := 16) hs (by rw [hk]; exact mk_11) rfl inX11 (by decide) rfl hl rfl hd K
theorem get_11_17 (X : Cx p s m args meth c cc nL own D cy ad A wf sd) {k idx : Nat} (hk : kd k = 11) (hs : sd k) (hl : Cond.fieldLink own idx RX11 "winds" "[I" ∈ TB) (hd : decode cc pc = .ok (.getfield idx, 3)) (K : GF p l e R s m args below meth c nL D cy ad A cs sl wf QF fin F (pc + 3) lv (.ref (ad (k + 17)) :: st) M) : GF p l e R s m args below meth c nL D cy ad A cs sl wf QF fin F pc lv (.ref (ad k) :: st) M := g_get X (C := RX11) (T := TX11) (N := 28) (i := 17) hs (by rw [hk]; exact mk_11) rfl inX11 (by decide) rfl hl rfl hd K
theorem get_11_18 (X : Cx p s m args meth c cc nL own D cy ad A wf sd) {k idx : Nat} (hk : kd k = 11) (hs : sd k) (hl : Cond.fieldLink own idx RX11 "lake" "[I" ∈ TB) (hd : decode cc pc = .ok (.getfield idx, 3)) (K : GF p l e R s m args below meth c nL D cy ad A cs sl wf QF fin F (pc + 3) lv (.ref (ad (k + 18)) :: st) M) : GF p l e R s m args below meth c nL D cy ad A cs sl wf QF fin F pc lv (.ref (ad k) :: st) M := g_get X (C := RX11) (T := TX11) (N := 28) (i := 18) hs (by rw [hk]; exact mk_11) rfl inX11 (by decide) rfl hl rfl hd K
theorem get_11_19 (X : Cx p s m args meth c cc nL own D cy ad A wf sd) {k idx : Nat} (hk : kd k = 11) (hs : sd k) (hl : Cond.fieldLink own idx RX11 "way" "[I" ∈ TB) (hd : decode cc pc = .ok (.getfield idx, 3)) (K : GF p l e R s m args below meth c nL D cy ad A cs sl wf QF fin F (pc + 3) lv (.ref (ad (k + 19)) :: st) M) : GF p l e R s m args below meth c nL D cy ad A cs sl wf QF fin F pc lv (.ref (ad k) :: st) M := g_get X (C := RX11) (T := TX11) (N := 28) (i := 19) hs (by rw [hk]; exact mk_11) rfl inX11 (by decide) rfl hl rfl hd K
theorem get_11_20 (X : Cx p s m args meth c cc nL own D cy ad A wf sd) {k idx : Nat} (hk : kd k = 11) (hs : sd k) (hl : Cond.fieldLink own idx RX11 "refusals" "[I" ∈ TB) (hd : decode cc pc = .ok (.getfield idx, 3)) (K : GF p l e R s m args below meth c nL D cy ad A cs sl wf QF fin F (pc + 3) lv (.ref (ad (k + 20)) :: st) M) : GF p l e R s m args below meth c nL D cy ad A cs sl wf QF fin F pc lv (.ref (ad k) :: st) M := g_get X (C := RX11) (T := TX11) (N := 28) (i := 20) hs (by rw [hk]; exact mk_11) rfl inX11 (by decide) rfl hl rfl hd K
theorem get_11_21 (X : Cx p s m args meth c cc nL own D cy ad A wf sd) {k idx : Nat} (hk : kd k = 11) (hs : sd k) (hl : Cond.fieldLink own idx RX11 "isImage" "Z" ∈ TB) (hd : decode cc pc = .ok (.getfield idx, 3)) (K : GF p l e R s m args below meth c nL D cy ad A cs sl wf QF fin F (pc + 3) lv (.int (M.1 k 21) :: st) M) : GF p l e R s m args below meth c nL D cy ad A cs sl wf QF fin F pc lv (.ref (ad k) :: st) M := g_get X (C := RX11) (T := TX11) (N := 28) (i := 21) hs (by rw [hk]; exact mk_11) rfl inX11 (by decide) rfl hl rfl hd K
theorem put_11_21 (X : Cx p s m args meth c cc nL own D cy ad A wf sd) {k idx : Nat} {y0 : Int32} (hb : isB y0) (hk : kd k = 11) (hs : sd k) (hl : Cond.fieldLink own idx RX11 "isImage" "Z" ∈ TB) (hd : decode cc pc = .ok (.putfield idx, 3)) (K : GF p l e R s m args below meth c nL D cy ad A cs sl wf QF fin F (pc + 3) lv st (wI M k 21 y0)) : GF p l e R s m args below meth c nL D cy ad A cs sl wf QF fin F pc lv (.int y0 :: .ref (ad k) :: st) M := g_put X (C := RX11) (T := TX11) (N := 28) (i := 21) (ty := .boolean) (f := upd (M.1 k) 21 y0) hs (by rw [hk]; exact mk_11) (by rw [hk]; exact mk_11) rfl inX11 tyX11 tyX11_ok nmX11 (by decide) rfl rfl (by decide +kernel) (by rcases hb with rfl | rfl <;> rfl) (by rcases hb with rfl | rfl <;> rfl) (by simp) hl hd K
theorem get_11_22 (X : Cx p s m args meth c cc nL own D cy ad A wf sd) {k idx : Nat} (hk : kd k = 11) (hs : sd k) (hl : Cond.fieldLink own idx RX11 "kept" "[I" ∈ TB) (hd : decode cc pc = .ok (.getfield idx, 3)) (K : GF p l e R s m args below meth c nL D cy ad A cs sl wf QF fin F (pc + 3) lv (.ref (ad (k + 21)) :: st) M) : GF p l e R s m args below meth c nL D cy ad A cs sl wf QF fin F pc lv (.ref (ad k) :: st) M := g_get X (C := RX11) (T := TX11) (N := 28) (i := 22) hs (by rw [hk]; exact mk_11) rfl inX11 (by decide) rfl hl rfl hd K
theorem get_11_23 (X : Cx p s m args meth c cc nL own D cy ad A wf sd) {k idx : Nat} (hk : kd k = 11) (hs : sd k) (hl : Cond.fieldLink own idx RX11 "tour" "[I" ∈ TB) (hd : decode cc pc = .ok (.getfield idx, 3)) (K : GF p l e R s m args below meth c nL D cy ad A cs sl wf QF fin F (pc + 3) lv (.ref (ad (k + 22)) :: st) M) : GF p l e R s m args below meth c nL D cy ad A cs sl wf QF fin F pc lv (.ref (ad k) :: st) M := g_get X (C := RX11) (T := TX11) (N := 28) (i := 23) hs (by rw [hk]; exact mk_11) rfl inX11 (by decide) rfl hl rfl hd K
theorem get_11_24 (X : Cx p s m args meth c cc nL own D cy ad A wf sd) {k idx : Nat} (hk : kd k = 11) (hs : sd k) (hl : Cond.fieldLink own idx RX11 "order" "[I" ∈ TB) (hd : decode cc pc = .ok (.getfield idx, 3)) (K : GF p l e R s m args below meth c nL D cy ad A cs sl wf QF fin F (pc + 3) lv (.ref (ad (k + 23)) :: st) M) : GF p l e R s m args below meth c nL D cy ad A cs sl wf QF fin F pc lv (.ref (ad k) :: st) M := g_get X (C := RX11) (T := TX11) (N := 28) (i := 24) hs (by rw [hk]; exact mk_11) rfl inX11 (by decide) rfl hl rfl hd K
theorem get_11_25 (X : Cx p s m args meth c cc nL own D cy ad A wf sd) {k idx : Nat} (hk : kd k = 11) (hs : sd k) (hl : Cond.fieldLink own idx RX11 "members" "[I" ∈ TB) (hd : decode cc pc = .ok (.getfield idx, 3)) (K : GF p l e R s m args below meth c nL D cy ad A cs sl wf QF fin F (pc + 3) lv (.ref (ad (k + 24)) :: st) M) : GF p l e R s m args below meth c nL D cy ad A cs sl wf QF fin F pc lv (.ref (ad k) :: st) M := g_get X (C := RX11) (T := TX11) (N := 28) (i := 25) hs (by rw [hk]; exact mk_11) rfl inX11 (by decide) rfl hl rfl hd K
theorem get_11_26 (X : Cx p s m args meth c cc nL own D cy ad A wf sd) {k idx : Nat} (hk : kd k = 11) (hs : sd k) (hl : Cond.fieldLink own idx RX11 "bestOrder" "[I" ∈ TB) (hd : decode cc pc = .ok (.getfield idx, 3)) (K : GF p l e R s m args below meth c nL D cy ad A cs sl wf QF fin F (pc + 3) lv (.ref (ad (k + 25)) :: st) M) : GF p l e R s m args below meth c nL D cy ad A cs sl wf QF fin F pc lv (.ref (ad k) :: st) M := g_get X (C := RX11) (T := TX11) (N := 28) (i := 26) hs (by rw [hk]; exact mk_11) rfl inX11 (by decide) rfl hl rfl hd K
theorem get_11_27 (X : Cx p s m args meth c cc nL own D cy ad A wf sd) {k idx : Nat} (hk : kd k = 11) (hs : sd k) (hl : Cond.fieldLink own idx RX11 "bag" "[I" ∈ TB) (hd : decode cc pc = .ok (.getfield idx, 3)) (K : GF p l e R s m args below meth c nL D cy ad A cs sl wf QF fin F (pc + 3) lv (.ref (ad (k + 26)) :: st) M) : GF p l e R s m args below meth c nL D cy ad A cs sl wf QF fin F pc lv (.ref (ad k) :: st) M := g_get X (C := RX11) (T := TX11) (N := 28) (i := 27) hs (by rw [hk]; exact mk_11) rfl inX11 (by decide) rfl hl rfl hd K
theorem g_lake (X : Cx p s m args meth c cc nL own D cy ad A wf sd) {a0 : Int32} (K : ¬ a0 = 0 → GF p l e R s m args below meth c nL D cy ad A cs sl wf QF fin F pc lv (.ref (ad 20) :: st) M) : GF p l e R s m args below meth c nL D cy ad A cs sl wf QF fin (gd (¬ a0 = 0) F) pc lv (lkv ad a0 :: st) M := fun x hx => by
  have h := K (gd_some hx).1 x (gd_some hx).2
  rw [show lkv ad a0 = .ref (ad 20) from if_neg (gd_some hx).1]
  exact h
theorem mk_i {cy : Nat → ClassId} {ad : Nat → Nat} {k n : Nat} {r : Nat → Int32} {q : Nat → Int64} : mk cy ad (n + 100) k r q = .inl (cy 1, n, .inl r) := by
  unfold mk
  repeat rw [if_neg (by omega)]
  simp
theorem mk_20 {cy : Nat → ClassId} {ad : Nat → Nat} {k : Nat} {r : Nat → Int32} {q : Nat → Int64} : mk cy ad 20 k r q = .inl (cy 0, 160, .inl r) := rfl
theorem mk_21 {cy : Nat → ClassId} {ad : Nat → Nat} {k : Nat} {r : Nat → Int32} {q : Nat → Int64} : mk cy ad 21 k r q = .inl (cy 3, 6, .inl r) := rfl
theorem mk_22 {cy : Nat → ClassId} {ad : Nat → Nat} {k : Nat} {r : Nat → Int32} {q : Nat → Int64} : mk cy ad 22 k r q = .inl (cy 2, 40, .inr (.inl q)) := rfl
theorem mk_23 {cy : Nat → ClassId} {ad : Nat → Nat} {k : Nat} {r : Nat → Int32} {q : Nat → Int64} : mk cy ad 23 k r q = .inl (cy 2, 320, .inr (.inl q)) := rfl
theorem mk_24 {cy : Nat → ClassId} {ad : Nat → Nat} {k : Nat} {r : Nat → Int32} {q : Nat → Int64} : mk cy ad 24 k r q = .inl (cy 4, 20, .inr (.inr (.inr (.inr (fun j => some (ad (j + (k + 1)))))))) := rfl
theorem mk_25 {cy : Nat → ClassId} {ad : Nat → Nat} {k : Nat} {r : Nat → Int32} {q : Nat → Int64} : mk cy ad 25 k r q = .inl (cy 5, 6, .inr (.inr (.inr (.inr (fun j => some (ad (j + (k + 1)))))))) := rfl
theorem mk_26 {cy : Nat → ClassId} {ad : Nat → Nat} {k : Nat} {r : Nat → Int32} {q : Nat → Int64} : mk cy ad 26 k r q = .inl (cy 6, 6, .inr (.inr (.inr (.inr (fun j => some (ad (j + (k + 1)))))))) := rfl
theorem mk_27 {cy : Nat → ClassId} {ad : Nat → Nat} {k : Nat} {r : Nat → Int32} {q : Nat → Int64} : mk cy ad 27 k r q = .inl (cy 7, 8, .inr (.inr (.inr (.inr (fun j => some (ad (j + (k + 1)))))))) := rfl
theorem g_iald (X : Cx p s m args meth c cc nL own D cy ad A wf sd) {k : Nat} {i0 : Int32} {n : Nat} (hK : kd k = n + 100) (hk : sd k) (hd : decode cc pc = .ok (.iaload, 1)) (K : inb i0 n → GF p l e R s m args below meth c nL D cy ad A cs sl wf QF fin F (pc + 1) lv (.int (M.1 k (ix i0)) :: st) M) : GF p l e R s m args below meth c nL D cy ad A cs sl wf QF fin (gd (inb i0 n) F) pc lv (.int i0 :: .ref (ad k) :: st) M := by
  intro x hx H locs ls hl0 hP hS
  obtain ⟨hk1, hk2⟩ := X.2.2.2 k hk
  obtain ⟨e1, e2, e3, e4⟩ := hk2 M
  obtain ⟨hin, hx⟩ := gd_some hx
  have hg : (wd cy ad (wf M))[ps k]? = some (ad k, .inl (cy 1, n, .inl (M.1 k))) := by rw [wd_get hk1, e1, e2, hK, mk_i]
  exact va_iald (ws := wd cy ad (wf M)) X.1.1 X.1.2.1 X.2.2.1.1 hP (ps k) 1 hg rfl (inb_vp hin) hd (K hin x hx H locs ls hl0 hP hS)
theorem g_ialdC (X : Cx p s m args meth c cc nL own D cy ad A wf sd) {k : Nat} {i0 : Int32} {n : Nat} (hK : kd k = n + 100) (hk : sd k) (hin : inb i0 n) (hd : decode cc pc = .ok (.iaload, 1)) (K : GF p l e R s m args below meth c nL D cy ad A cs sl wf QF fin F (pc + 1) lv (.int (M.1 k (ix i0)) :: st) M) : GF p l e R s m args below meth c nL D cy ad A cs sl wf QF fin F pc lv (.int i0 :: .ref (ad k) :: st) M := by
  intro x hx H locs ls hl0 hP hS
  obtain ⟨hk1, hk2⟩ := X.2.2.2 k hk
  obtain ⟨e1, e2, e3, e4⟩ := hk2 M
  have hg : (wd cy ad (wf M))[ps k]? = some (ad k, .inl (cy 1, n, .inl (M.1 k))) := by rw [wd_get hk1, e1, e2, hK, mk_i]
  exact va_iald (ws := wd cy ad (wf M)) X.1.1 X.1.2.1 X.2.2.1.1 hP (ps k) 1 hg rfl (inb_vp hin) hd (K x hx H locs ls hl0 hP hS)
theorem g_bald (X : Cx p s m args meth c cc nL own D cy ad A wf sd) {k : Nat} {i0 : Int32} (hK : kd k = 20) (hk : sd k) (hd : decode cc pc = .ok (.baload, 1)) (K : inb i0 160 → GF p l e R s m args below meth c nL D cy ad A cs sl wf QF fin F (pc + 1) lv (.int (M.1 k (ix i0)) :: st) M) : GF p l e R s m args below meth c nL D cy ad A cs sl wf QF fin (gd (inb i0 160) F) pc lv (.int i0 :: .ref (ad k) :: st) M := by
  intro x hx H locs ls hl0 hP hS
  obtain ⟨hk1, hk2⟩ := X.2.2.2 k hk
  obtain ⟨e1, e2, e3, e4⟩ := hk2 M
  obtain ⟨hin, hx⟩ := gd_some hx
  have hg : (wd cy ad (wf M))[ps k]? = some (ad k, .inl (cy 0, 160, .inl (M.1 k))) := by rw [wd_get hk1, e1, e2, hK, mk_20]
  exact va_bald (ws := wd cy ad (wf M)) X.1.1 X.1.2.1 X.2.2.1.1 hP (ps k) 0 hg rfl (inb_vp hin) hd (K hin x hx H locs ls hl0 hP hS)
theorem g_baldC (X : Cx p s m args meth c cc nL own D cy ad A wf sd) {k : Nat} {i0 : Int32} (hK : kd k = 20) (hk : sd k) (hin : inb i0 160) (hd : decode cc pc = .ok (.baload, 1)) (K : GF p l e R s m args below meth c nL D cy ad A cs sl wf QF fin F (pc + 1) lv (.int (M.1 k (ix i0)) :: st) M) : GF p l e R s m args below meth c nL D cy ad A cs sl wf QF fin F pc lv (.int i0 :: .ref (ad k) :: st) M := by
  intro x hx H locs ls hl0 hP hS
  obtain ⟨hk1, hk2⟩ := X.2.2.2 k hk
  obtain ⟨e1, e2, e3, e4⟩ := hk2 M
  have hg : (wd cy ad (wf M))[ps k]? = some (ad k, .inl (cy 0, 160, .inl (M.1 k))) := by rw [wd_get hk1, e1, e2, hK, mk_20]
  exact va_bald (ws := wd cy ad (wf M)) X.1.1 X.1.2.1 X.2.2.1.1 hP (ps k) 0 hg rfl (inb_vp hin) hd (K x hx H locs ls hl0 hP hS)
theorem g_zald (X : Cx p s m args meth c cc nL own D cy ad A wf sd) {k : Nat} {i0 : Int32} (hK : kd k = 21) (hk : sd k) (hd : decode cc pc = .ok (.baload, 1)) (K : inb i0 6 → GF p l e R s m args below meth c nL D cy ad A cs sl wf QF fin F (pc + 1) lv (.int (M.1 k (ix i0)) :: st) M) : GF p l e R s m args below meth c nL D cy ad A cs sl wf QF fin (gd (inb i0 6) F) pc lv (.int i0 :: .ref (ad k) :: st) M := by
  intro x hx H locs ls hl0 hP hS
  obtain ⟨hk1, hk2⟩ := X.2.2.2 k hk
  obtain ⟨e1, e2, e3, e4⟩ := hk2 M
  obtain ⟨hin, hx⟩ := gd_some hx
  have hg : (wd cy ad (wf M))[ps k]? = some (ad k, .inl (cy 3, 6, .inl (M.1 k))) := by rw [wd_get hk1, e1, e2, hK, mk_21]
  exact va_zald (ws := wd cy ad (wf M)) X.1.1 X.1.2.1 X.2.2.1.1 hP (ps k) 3 hg rfl (inb_vp hin) hd (K hin x hx H locs ls hl0 hP hS)
theorem g_zaldC (X : Cx p s m args meth c cc nL own D cy ad A wf sd) {k : Nat} {i0 : Int32} (hK : kd k = 21) (hk : sd k) (hin : inb i0 6) (hd : decode cc pc = .ok (.baload, 1)) (K : GF p l e R s m args below meth c nL D cy ad A cs sl wf QF fin F (pc + 1) lv (.int (M.1 k (ix i0)) :: st) M) : GF p l e R s m args below meth c nL D cy ad A cs sl wf QF fin F pc lv (.int i0 :: .ref (ad k) :: st) M := by
  intro x hx H locs ls hl0 hP hS
  obtain ⟨hk1, hk2⟩ := X.2.2.2 k hk
  obtain ⟨e1, e2, e3, e4⟩ := hk2 M
  have hg : (wd cy ad (wf M))[ps k]? = some (ad k, .inl (cy 3, 6, .inl (M.1 k))) := by rw [wd_get hk1, e1, e2, hK, mk_21]
  exact va_zald (ws := wd cy ad (wf M)) X.1.1 X.1.2.1 X.2.2.1.1 hP (ps k) 3 hg rfl (inb_vp hin) hd (K x hx H locs ls hl0 hP hS)
theorem g_lald22 (X : Cx p s m args meth c cc nL own D cy ad A wf sd) {k : Nat} {i0 : Int32} (hK : kd k = 22) (hk : sd k) (hd : decode cc pc = .ok (.laload, 1)) (K : inb i0 40 → GF p l e R s m args below meth c nL D cy ad A cs sl wf QF fin F (pc + 1) lv (.long (M.2 k (ix i0)) :: st) M) : GF p l e R s m args below meth c nL D cy ad A cs sl wf QF fin (gd (inb i0 40) F) pc lv (.int i0 :: .ref (ad k) :: st) M := by
  intro x hx H locs ls hl0 hP hS
  obtain ⟨hk1, hk2⟩ := X.2.2.2 k hk
  obtain ⟨e1, e2, e3, e4⟩ := hk2 M
  obtain ⟨hin, hx⟩ := gd_some hx
  have hg : (wd cy ad (wf M))[ps k]? = some (ad k, .inl (cy 2, 40, .inr (.inl (M.2 k)))) := by rw [wd_get hk1, e1, e2, hK, mk_22]
  exact va_lald (ws := wd cy ad (wf M)) X.1.1 X.1.2.1 X.2.2.1.1 hP (ps k) 2 hg rfl (inb_vp hin) hd (K hin x hx H locs ls hl0 hP hS)
theorem g_lald22C (X : Cx p s m args meth c cc nL own D cy ad A wf sd) {k : Nat} {i0 : Int32} (hK : kd k = 22) (hk : sd k) (hin : inb i0 40) (hd : decode cc pc = .ok (.laload, 1)) (K : GF p l e R s m args below meth c nL D cy ad A cs sl wf QF fin F (pc + 1) lv (.long (M.2 k (ix i0)) :: st) M) : GF p l e R s m args below meth c nL D cy ad A cs sl wf QF fin F pc lv (.int i0 :: .ref (ad k) :: st) M := by
  intro x hx H locs ls hl0 hP hS
  obtain ⟨hk1, hk2⟩ := X.2.2.2 k hk
  obtain ⟨e1, e2, e3, e4⟩ := hk2 M
  have hg : (wd cy ad (wf M))[ps k]? = some (ad k, .inl (cy 2, 40, .inr (.inl (M.2 k)))) := by rw [wd_get hk1, e1, e2, hK, mk_22]
  exact va_lald (ws := wd cy ad (wf M)) X.1.1 X.1.2.1 X.2.2.1.1 hP (ps k) 2 hg rfl (inb_vp hin) hd (K x hx H locs ls hl0 hP hS)
theorem g_lald23 (X : Cx p s m args meth c cc nL own D cy ad A wf sd) {k : Nat} {i0 : Int32} (hK : kd k = 23) (hk : sd k) (hd : decode cc pc = .ok (.laload, 1)) (K : inb i0 320 → GF p l e R s m args below meth c nL D cy ad A cs sl wf QF fin F (pc + 1) lv (.long (M.2 k (ix i0)) :: st) M) : GF p l e R s m args below meth c nL D cy ad A cs sl wf QF fin (gd (inb i0 320) F) pc lv (.int i0 :: .ref (ad k) :: st) M := by
  intro x hx H locs ls hl0 hP hS
  obtain ⟨hk1, hk2⟩ := X.2.2.2 k hk
  obtain ⟨e1, e2, e3, e4⟩ := hk2 M
  obtain ⟨hin, hx⟩ := gd_some hx
  have hg : (wd cy ad (wf M))[ps k]? = some (ad k, .inl (cy 2, 320, .inr (.inl (M.2 k)))) := by rw [wd_get hk1, e1, e2, hK, mk_23]
  exact va_lald (ws := wd cy ad (wf M)) X.1.1 X.1.2.1 X.2.2.1.1 hP (ps k) 2 hg rfl (inb_vp hin) hd (K hin x hx H locs ls hl0 hP hS)
theorem g_lald23C (X : Cx p s m args meth c cc nL own D cy ad A wf sd) {k : Nat} {i0 : Int32} (hK : kd k = 23) (hk : sd k) (hin : inb i0 320) (hd : decode cc pc = .ok (.laload, 1)) (K : GF p l e R s m args below meth c nL D cy ad A cs sl wf QF fin F (pc + 1) lv (.long (M.2 k (ix i0)) :: st) M) : GF p l e R s m args below meth c nL D cy ad A cs sl wf QF fin F pc lv (.int i0 :: .ref (ad k) :: st) M := by
  intro x hx H locs ls hl0 hP hS
  obtain ⟨hk1, hk2⟩ := X.2.2.2 k hk
  obtain ⟨e1, e2, e3, e4⟩ := hk2 M
  have hg : (wd cy ad (wf M))[ps k]? = some (ad k, .inl (cy 2, 320, .inr (.inl (M.2 k)))) := by rw [wd_get hk1, e1, e2, hK, mk_23]
  exact va_lald (ws := wd cy ad (wf M)) X.1.1 X.1.2.1 X.2.2.1.1 hP (ps k) 2 hg rfl (inb_vp hin) hd (K x hx H locs ls hl0 hP hS)
theorem g_aald24 (X : Cx p s m args meth c cc nL own D cy ad A wf sd) {k : Nat} {i0 : Int32} (hK : kd k = 24) (hk : sd k) (hd : decode cc pc = .ok (.aaload, 1)) (K : inb i0 20 → GF p l e R s m args below meth c nL D cy ad A cs sl wf QF fin F (pc + 1) lv (.ref (ad (ix i0 + (k + 1))) :: st) M) : GF p l e R s m args below meth c nL D cy ad A cs sl wf QF fin (gd (inb i0 20) F) pc lv (.int i0 :: .ref (ad k) :: st) M := by
  intro x hx H locs ls hl0 hP hS
  obtain ⟨hk1, hk2⟩ := X.2.2.2 k hk
  obtain ⟨e1, e2, e3, e4⟩ := hk2 M
  obtain ⟨hin, hx⟩ := gd_some hx
  have hg : (wd cy ad (wf M))[ps k]? = some (ad k, .inl (cy 4, 20, .inr (.inr (.inr (.inr (fun j => some (ad (j + (k + 1))))))))) := by rw [wd_get hk1, e1, e2, hK, mk_24]
  exact va_aldq (ws := wd cy ad (wf M)) X.1.1 X.1.2.1 X.2.2.1.1 hP (ps k) 4 hg rfl (inb_vp hin) hd (K hin x hx H locs ls hl0 hP hS)
theorem g_aald24C (X : Cx p s m args meth c cc nL own D cy ad A wf sd) {k : Nat} {i0 : Int32} (hK : kd k = 24) (hk : sd k) (hin : inb i0 20) (hd : decode cc pc = .ok (.aaload, 1)) (K : GF p l e R s m args below meth c nL D cy ad A cs sl wf QF fin F (pc + 1) lv (.ref (ad (ix i0 + (k + 1))) :: st) M) : GF p l e R s m args below meth c nL D cy ad A cs sl wf QF fin F pc lv (.int i0 :: .ref (ad k) :: st) M := by
  intro x hx H locs ls hl0 hP hS
  obtain ⟨hk1, hk2⟩ := X.2.2.2 k hk
  obtain ⟨e1, e2, e3, e4⟩ := hk2 M
  have hg : (wd cy ad (wf M))[ps k]? = some (ad k, .inl (cy 4, 20, .inr (.inr (.inr (.inr (fun j => some (ad (j + (k + 1))))))))) := by rw [wd_get hk1, e1, e2, hK, mk_24]
  exact va_aldq (ws := wd cy ad (wf M)) X.1.1 X.1.2.1 X.2.2.1.1 hP (ps k) 4 hg rfl (inb_vp hin) hd (K x hx H locs ls hl0 hP hS)
theorem g_aald25 (X : Cx p s m args meth c cc nL own D cy ad A wf sd) {k : Nat} {i0 : Int32} (hK : kd k = 25) (hk : sd k) (hd : decode cc pc = .ok (.aaload, 1)) (K : inb i0 6 → GF p l e R s m args below meth c nL D cy ad A cs sl wf QF fin F (pc + 1) lv (.ref (ad (ix i0 + (k + 1))) :: st) M) : GF p l e R s m args below meth c nL D cy ad A cs sl wf QF fin (gd (inb i0 6) F) pc lv (.int i0 :: .ref (ad k) :: st) M := by
  intro x hx H locs ls hl0 hP hS
  obtain ⟨hk1, hk2⟩ := X.2.2.2 k hk
  obtain ⟨e1, e2, e3, e4⟩ := hk2 M
  obtain ⟨hin, hx⟩ := gd_some hx
  have hg : (wd cy ad (wf M))[ps k]? = some (ad k, .inl (cy 5, 6, .inr (.inr (.inr (.inr (fun j => some (ad (j + (k + 1))))))))) := by rw [wd_get hk1, e1, e2, hK, mk_25]
  exact va_aldq (ws := wd cy ad (wf M)) X.1.1 X.1.2.1 X.2.2.1.1 hP (ps k) 5 hg rfl (inb_vp hin) hd (K hin x hx H locs ls hl0 hP hS)
theorem g_aald25C (X : Cx p s m args meth c cc nL own D cy ad A wf sd) {k : Nat} {i0 : Int32} (hK : kd k = 25) (hk : sd k) (hin : inb i0 6) (hd : decode cc pc = .ok (.aaload, 1)) (K : GF p l e R s m args below meth c nL D cy ad A cs sl wf QF fin F (pc + 1) lv (.ref (ad (ix i0 + (k + 1))) :: st) M) : GF p l e R s m args below meth c nL D cy ad A cs sl wf QF fin F pc lv (.int i0 :: .ref (ad k) :: st) M := by
  intro x hx H locs ls hl0 hP hS
  obtain ⟨hk1, hk2⟩ := X.2.2.2 k hk
  obtain ⟨e1, e2, e3, e4⟩ := hk2 M
  have hg : (wd cy ad (wf M))[ps k]? = some (ad k, .inl (cy 5, 6, .inr (.inr (.inr (.inr (fun j => some (ad (j + (k + 1))))))))) := by rw [wd_get hk1, e1, e2, hK, mk_25]
  exact va_aldq (ws := wd cy ad (wf M)) X.1.1 X.1.2.1 X.2.2.1.1 hP (ps k) 5 hg rfl (inb_vp hin) hd (K x hx H locs ls hl0 hP hS)
theorem g_aald26 (X : Cx p s m args meth c cc nL own D cy ad A wf sd) {k : Nat} {i0 : Int32} (hK : kd k = 26) (hk : sd k) (hd : decode cc pc = .ok (.aaload, 1)) (K : inb i0 6 → GF p l e R s m args below meth c nL D cy ad A cs sl wf QF fin F (pc + 1) lv (.ref (ad (ix i0 + (k + 1))) :: st) M) : GF p l e R s m args below meth c nL D cy ad A cs sl wf QF fin (gd (inb i0 6) F) pc lv (.int i0 :: .ref (ad k) :: st) M := by
  intro x hx H locs ls hl0 hP hS
  obtain ⟨hk1, hk2⟩ := X.2.2.2 k hk
  obtain ⟨e1, e2, e3, e4⟩ := hk2 M
  obtain ⟨hin, hx⟩ := gd_some hx
  have hg : (wd cy ad (wf M))[ps k]? = some (ad k, .inl (cy 6, 6, .inr (.inr (.inr (.inr (fun j => some (ad (j + (k + 1))))))))) := by rw [wd_get hk1, e1, e2, hK, mk_26]
  exact va_aldq (ws := wd cy ad (wf M)) X.1.1 X.1.2.1 X.2.2.1.1 hP (ps k) 6 hg rfl (inb_vp hin) hd (K hin x hx H locs ls hl0 hP hS)
theorem g_aald26C (X : Cx p s m args meth c cc nL own D cy ad A wf sd) {k : Nat} {i0 : Int32} (hK : kd k = 26) (hk : sd k) (hin : inb i0 6) (hd : decode cc pc = .ok (.aaload, 1)) (K : GF p l e R s m args below meth c nL D cy ad A cs sl wf QF fin F (pc + 1) lv (.ref (ad (ix i0 + (k + 1))) :: st) M) : GF p l e R s m args below meth c nL D cy ad A cs sl wf QF fin F pc lv (.int i0 :: .ref (ad k) :: st) M := by
  intro x hx H locs ls hl0 hP hS
  obtain ⟨hk1, hk2⟩ := X.2.2.2 k hk
  obtain ⟨e1, e2, e3, e4⟩ := hk2 M
  have hg : (wd cy ad (wf M))[ps k]? = some (ad k, .inl (cy 6, 6, .inr (.inr (.inr (.inr (fun j => some (ad (j + (k + 1))))))))) := by rw [wd_get hk1, e1, e2, hK, mk_26]
  exact va_aldq (ws := wd cy ad (wf M)) X.1.1 X.1.2.1 X.2.2.1.1 hP (ps k) 6 hg rfl (inb_vp hin) hd (K x hx H locs ls hl0 hP hS)
theorem g_aald27 (X : Cx p s m args meth c cc nL own D cy ad A wf sd) {k : Nat} {i0 : Int32} (hK : kd k = 27) (hk : sd k) (hd : decode cc pc = .ok (.aaload, 1)) (K : inb i0 8 → GF p l e R s m args below meth c nL D cy ad A cs sl wf QF fin F (pc + 1) lv (.ref (ad (ix i0 + (k + 1))) :: st) M) : GF p l e R s m args below meth c nL D cy ad A cs sl wf QF fin (gd (inb i0 8) F) pc lv (.int i0 :: .ref (ad k) :: st) M := by
  intro x hx H locs ls hl0 hP hS
  obtain ⟨hk1, hk2⟩ := X.2.2.2 k hk
  obtain ⟨e1, e2, e3, e4⟩ := hk2 M
  obtain ⟨hin, hx⟩ := gd_some hx
  have hg : (wd cy ad (wf M))[ps k]? = some (ad k, .inl (cy 7, 8, .inr (.inr (.inr (.inr (fun j => some (ad (j + (k + 1))))))))) := by rw [wd_get hk1, e1, e2, hK, mk_27]
  exact va_aldq (ws := wd cy ad (wf M)) X.1.1 X.1.2.1 X.2.2.1.1 hP (ps k) 7 hg rfl (inb_vp hin) hd (K hin x hx H locs ls hl0 hP hS)
theorem g_aald27C (X : Cx p s m args meth c cc nL own D cy ad A wf sd) {k : Nat} {i0 : Int32} (hK : kd k = 27) (hk : sd k) (hin : inb i0 8) (hd : decode cc pc = .ok (.aaload, 1)) (K : GF p l e R s m args below meth c nL D cy ad A cs sl wf QF fin F (pc + 1) lv (.ref (ad (ix i0 + (k + 1))) :: st) M) : GF p l e R s m args below meth c nL D cy ad A cs sl wf QF fin F pc lv (.int i0 :: .ref (ad k) :: st) M := by
  intro x hx H locs ls hl0 hP hS
  obtain ⟨hk1, hk2⟩ := X.2.2.2 k hk
  obtain ⟨e1, e2, e3, e4⟩ := hk2 M
  have hg : (wd cy ad (wf M))[ps k]? = some (ad k, .inl (cy 7, 8, .inr (.inr (.inr (.inr (fun j => some (ad (j + (k + 1))))))))) := by rw [wd_get hk1, e1, e2, hK, mk_27]
  exact va_aldq (ws := wd cy ad (wf M)) X.1.1 X.1.2.1 X.2.2.1.1 hP (ps k) 7 hg rfl (inb_vp hin) hd (K x hx H locs ls hl0 hP hS)
theorem g_iast (X : Cx p s m args meth c cc nL own D cy ad A wf sd) {k : Nat} {i0 : Int32} {n : Nat} {y0 : Int32} (hK : kd k = n + 100) (hk : sd k) (hd : decode cc pc = .ok (.iastore, 1)) (K : inb i0 n → GF p l e R s m args below meth c nL D cy ad A cs sl wf QF fin F (pc + 1) lv st (wI M k (ix i0) y0)) : GF p l e R s m args below meth c nL D cy ad A cs sl wf QF fin (gd (inb i0 n) F) pc lv (.int y0 :: .int i0 :: .ref (ad k) :: st) M := by
  intro x hx H locs ls hl0 hP hS
  obtain ⟨hk1, hk2⟩ := X.2.2.2 k hk
  obtain ⟨e1, e2, e3, e4⟩ := hk2 M
  obtain ⟨hin, hx⟩ := gd_some hx
  have hg : (wd cy ad (wf M))[ps k]? = some (ad k, .inl (cy 1, n, .inl (M.1 k))) := by rw [wd_get hk1, e1, e2, hK, mk_i]
  refine va_iast (ws := wd cy ad (wf M)) X.1.1 X.1.2.1 X.2.2.1.1 hP (wd_D X.2.2.1.2.1 X.2.2.1.2.2.1) hS (ps k) 1 hg rfl (inb_vp hin) hd (fun H1 locs1 hP1 hD1 hS1 => K hin x hx H1 locs1 ls hl0 ?_ hS1)
  have hm2 := @mk_i cy ad k n (upd (M.1 k) i0.toNatClampNeg y0) (M.2 k)
  rw [← hK] at hm2
  rw [← hm2, ← e2, wd_setI hk1, e3] at hP1
  exact hP1
theorem g_iastC (X : Cx p s m args meth c cc nL own D cy ad A wf sd) {k : Nat} {i0 : Int32} {n : Nat} {y0 : Int32} (hK : kd k = n + 100) (hk : sd k) (hin : inb i0 n) (hd : decode cc pc = .ok (.iastore, 1)) (K : GF p l e R s m args below meth c nL D cy ad A cs sl wf QF fin F (pc + 1) lv st (wI M k (ix i0) y0)) : GF p l e R s m args below meth c nL D cy ad A cs sl wf QF fin F pc lv (.int y0 :: .int i0 :: .ref (ad k) :: st) M := by
  intro x hx H locs ls hl0 hP hS
  obtain ⟨hk1, hk2⟩ := X.2.2.2 k hk
  obtain ⟨e1, e2, e3, e4⟩ := hk2 M
  have hg : (wd cy ad (wf M))[ps k]? = some (ad k, .inl (cy 1, n, .inl (M.1 k))) := by rw [wd_get hk1, e1, e2, hK, mk_i]
  refine va_iast (ws := wd cy ad (wf M)) X.1.1 X.1.2.1 X.2.2.1.1 hP (wd_D X.2.2.1.2.1 X.2.2.1.2.2.1) hS (ps k) 1 hg rfl (inb_vp hin) hd (fun H1 locs1 hP1 hD1 hS1 => K x hx H1 locs1 ls hl0 ?_ hS1)
  have hm2 := @mk_i cy ad k n (upd (M.1 k) i0.toNatClampNeg y0) (M.2 k)
  rw [← hK] at hm2
  rw [← hm2, ← e2, wd_setI hk1, e3] at hP1
  exact hP1
theorem g_bast (X : Cx p s m args meth c cc nL own D cy ad A wf sd) {k : Nat} {i0 : Int32} {y0 : Int32} (hb : vp_nar .byte y0 = y0) (hK : kd k = 20) (hk : sd k) (hd : decode cc pc = .ok (.bastore, 1)) (K : inb i0 160 → GF p l e R s m args below meth c nL D cy ad A cs sl wf QF fin F (pc + 1) lv st (wI M k (ix i0) y0)) : GF p l e R s m args below meth c nL D cy ad A cs sl wf QF fin (gd (inb i0 160) F) pc lv (.int y0 :: .int i0 :: .ref (ad k) :: st) M := by
  intro x hx H locs ls hl0 hP hS
  obtain ⟨hk1, hk2⟩ := X.2.2.2 k hk
  obtain ⟨e1, e2, e3, e4⟩ := hk2 M
  obtain ⟨hin, hx⟩ := gd_some hx
  have hg : (wd cy ad (wf M))[ps k]? = some (ad k, .inl (cy 0, 160, .inl (M.1 k))) := by rw [wd_get hk1, e1, e2, hK, mk_20]
  refine va_bast (ws := wd cy ad (wf M)) X.1.1 X.1.2.1 X.2.2.1.1 hP (wd_D X.2.2.1.2.1 X.2.2.1.2.2.1) hS (ps k) 0 hg rfl (inb_vp hin) hd (fun H1 locs1 hP1 hD1 hS1 => K hin x hx H1 locs1 ls hl0 ?_ hS1)
  have hm2 := @mk_20 cy ad k (upd (M.1 k) i0.toNatClampNeg y0) (M.2 k)
  rw [← hK] at hm2
  rw [hb, ← hm2, ← e2, wd_setI hk1, e3] at hP1
  exact hP1
theorem g_bastC (X : Cx p s m args meth c cc nL own D cy ad A wf sd) {k : Nat} {i0 : Int32} {y0 : Int32} (hb : vp_nar .byte y0 = y0) (hK : kd k = 20) (hk : sd k) (hin : inb i0 160) (hd : decode cc pc = .ok (.bastore, 1)) (K : GF p l e R s m args below meth c nL D cy ad A cs sl wf QF fin F (pc + 1) lv st (wI M k (ix i0) y0)) : GF p l e R s m args below meth c nL D cy ad A cs sl wf QF fin F pc lv (.int y0 :: .int i0 :: .ref (ad k) :: st) M := by
  intro x hx H locs ls hl0 hP hS
  obtain ⟨hk1, hk2⟩ := X.2.2.2 k hk
  obtain ⟨e1, e2, e3, e4⟩ := hk2 M
  have hg : (wd cy ad (wf M))[ps k]? = some (ad k, .inl (cy 0, 160, .inl (M.1 k))) := by rw [wd_get hk1, e1, e2, hK, mk_20]
  refine va_bast (ws := wd cy ad (wf M)) X.1.1 X.1.2.1 X.2.2.1.1 hP (wd_D X.2.2.1.2.1 X.2.2.1.2.2.1) hS (ps k) 0 hg rfl (inb_vp hin) hd (fun H1 locs1 hP1 hD1 hS1 => K x hx H1 locs1 ls hl0 ?_ hS1)
  have hm2 := @mk_20 cy ad k (upd (M.1 k) i0.toNatClampNeg y0) (M.2 k)
  rw [← hK] at hm2
  rw [hb, ← hm2, ← e2, wd_setI hk1, e3] at hP1
  exact hP1
theorem g_zast (X : Cx p s m args meth c cc nL own D cy ad A wf sd) {k : Nat} {i0 : Int32} {y0 : Int32} (hb : vp_nar .boolean y0 = y0) (hK : kd k = 21) (hk : sd k) (hd : decode cc pc = .ok (.bastore, 1)) (K : inb i0 6 → GF p l e R s m args below meth c nL D cy ad A cs sl wf QF fin F (pc + 1) lv st (wI M k (ix i0) y0)) : GF p l e R s m args below meth c nL D cy ad A cs sl wf QF fin (gd (inb i0 6) F) pc lv (.int y0 :: .int i0 :: .ref (ad k) :: st) M := by
  intro x hx H locs ls hl0 hP hS
  obtain ⟨hk1, hk2⟩ := X.2.2.2 k hk
  obtain ⟨e1, e2, e3, e4⟩ := hk2 M
  obtain ⟨hin, hx⟩ := gd_some hx
  have hg : (wd cy ad (wf M))[ps k]? = some (ad k, .inl (cy 3, 6, .inl (M.1 k))) := by rw [wd_get hk1, e1, e2, hK, mk_21]
  refine va_zast (ws := wd cy ad (wf M)) X.1.1 X.1.2.1 X.2.2.1.1 hP (wd_D X.2.2.1.2.1 X.2.2.1.2.2.1) hS (ps k) 3 hg rfl (inb_vp hin) hd (fun H1 locs1 hP1 hD1 hS1 => K hin x hx H1 locs1 ls hl0 ?_ hS1)
  have hm2 := @mk_21 cy ad k (upd (M.1 k) i0.toNatClampNeg y0) (M.2 k)
  rw [← hK] at hm2
  rw [hb, ← hm2, ← e2, wd_setI hk1, e3] at hP1
  exact hP1
theorem g_zastC (X : Cx p s m args meth c cc nL own D cy ad A wf sd) {k : Nat} {i0 : Int32} {y0 : Int32} (hb : vp_nar .boolean y0 = y0) (hK : kd k = 21) (hk : sd k) (hin : inb i0 6) (hd : decode cc pc = .ok (.bastore, 1)) (K : GF p l e R s m args below meth c nL D cy ad A cs sl wf QF fin F (pc + 1) lv st (wI M k (ix i0) y0)) : GF p l e R s m args below meth c nL D cy ad A cs sl wf QF fin F pc lv (.int y0 :: .int i0 :: .ref (ad k) :: st) M := by
  intro x hx H locs ls hl0 hP hS
  obtain ⟨hk1, hk2⟩ := X.2.2.2 k hk
  obtain ⟨e1, e2, e3, e4⟩ := hk2 M
  have hg : (wd cy ad (wf M))[ps k]? = some (ad k, .inl (cy 3, 6, .inl (M.1 k))) := by rw [wd_get hk1, e1, e2, hK, mk_21]
  refine va_zast (ws := wd cy ad (wf M)) X.1.1 X.1.2.1 X.2.2.1.1 hP (wd_D X.2.2.1.2.1 X.2.2.1.2.2.1) hS (ps k) 3 hg rfl (inb_vp hin) hd (fun H1 locs1 hP1 hD1 hS1 => K x hx H1 locs1 ls hl0 ?_ hS1)
  have hm2 := @mk_21 cy ad k (upd (M.1 k) i0.toNatClampNeg y0) (M.2 k)
  rw [← hK] at hm2
  rw [hb, ← hm2, ← e2, wd_setI hk1, e3] at hP1
  exact hP1
theorem g_last22 (X : Cx p s m args meth c cc nL own D cy ad A wf sd) {k : Nat} {i0 : Int32} {y0 : Int64} (hK : kd k = 22) (hk : sd k) (hd : decode cc pc = .ok (.lastore, 1)) (K : inb i0 40 → GF p l e R s m args below meth c nL D cy ad A cs sl wf QF fin F (pc + 1) lv st (wL M k (ix i0) y0)) : GF p l e R s m args below meth c nL D cy ad A cs sl wf QF fin (gd (inb i0 40) F) pc lv (.long y0 :: .int i0 :: .ref (ad k) :: st) M := by
  intro x hx H locs ls hl0 hP hS
  obtain ⟨hk1, hk2⟩ := X.2.2.2 k hk
  obtain ⟨e1, e2, e3, e4⟩ := hk2 M
  obtain ⟨hin, hx⟩ := gd_some hx
  have hg : (wd cy ad (wf M))[ps k]? = some (ad k, .inl (cy 2, 40, .inr (.inl (M.2 k)))) := by rw [wd_get hk1, e1, e2, hK, mk_22]
  refine va_last (ws := wd cy ad (wf M)) X.1.1 X.1.2.1 X.2.2.1.1 hP (wd_D X.2.2.1.2.1 X.2.2.1.2.2.1) hS (ps k) 2 hg rfl (inb_vp hin) hd (fun H1 locs1 hP1 hD1 hS1 => K hin x hx H1 locs1 ls hl0 ?_ hS1)
  have hm2 := @mk_22 cy ad k (M.1 k) (vp_updL (M.2 k) i0.toNatClampNeg y0)
  rw [← hK] at hm2
  rw [← hm2, ← e1, wd_setL hk1, e4] at hP1
  exact hP1
theorem g_last22C (X : Cx p s m args meth c cc nL own D cy ad A wf sd) {k : Nat} {i0 : Int32} {y0 : Int64} (hK : kd k = 22) (hk : sd k) (hin : inb i0 40) (hd : decode cc pc = .ok (.lastore, 1)) (K : GF p l e R s m args below meth c nL D cy ad A cs sl wf QF fin F (pc + 1) lv st (wL M k (ix i0) y0)) : GF p l e R s m args below meth c nL D cy ad A cs sl wf QF fin F pc lv (.long y0 :: .int i0 :: .ref (ad k) :: st) M := by
  intro x hx H locs ls hl0 hP hS
  obtain ⟨hk1, hk2⟩ := X.2.2.2 k hk
  obtain ⟨e1, e2, e3, e4⟩ := hk2 M
  have hg : (wd cy ad (wf M))[ps k]? = some (ad k, .inl (cy 2, 40, .inr (.inl (M.2 k)))) := by rw [wd_get hk1, e1, e2, hK, mk_22]
  refine va_last (ws := wd cy ad (wf M)) X.1.1 X.1.2.1 X.2.2.1.1 hP (wd_D X.2.2.1.2.1 X.2.2.1.2.2.1) hS (ps k) 2 hg rfl (inb_vp hin) hd (fun H1 locs1 hP1 hD1 hS1 => K x hx H1 locs1 ls hl0 ?_ hS1)
  have hm2 := @mk_22 cy ad k (M.1 k) (vp_updL (M.2 k) i0.toNatClampNeg y0)
  rw [← hK] at hm2
  rw [← hm2, ← e1, wd_setL hk1, e4] at hP1
  exact hP1
theorem g_last23 (X : Cx p s m args meth c cc nL own D cy ad A wf sd) {k : Nat} {i0 : Int32} {y0 : Int64} (hK : kd k = 23) (hk : sd k) (hd : decode cc pc = .ok (.lastore, 1)) (K : inb i0 320 → GF p l e R s m args below meth c nL D cy ad A cs sl wf QF fin F (pc + 1) lv st (wL M k (ix i0) y0)) : GF p l e R s m args below meth c nL D cy ad A cs sl wf QF fin (gd (inb i0 320) F) pc lv (.long y0 :: .int i0 :: .ref (ad k) :: st) M := by
  intro x hx H locs ls hl0 hP hS
  obtain ⟨hk1, hk2⟩ := X.2.2.2 k hk
  obtain ⟨e1, e2, e3, e4⟩ := hk2 M
  obtain ⟨hin, hx⟩ := gd_some hx
  have hg : (wd cy ad (wf M))[ps k]? = some (ad k, .inl (cy 2, 320, .inr (.inl (M.2 k)))) := by rw [wd_get hk1, e1, e2, hK, mk_23]
  refine va_last (ws := wd cy ad (wf M)) X.1.1 X.1.2.1 X.2.2.1.1 hP (wd_D X.2.2.1.2.1 X.2.2.1.2.2.1) hS (ps k) 2 hg rfl (inb_vp hin) hd (fun H1 locs1 hP1 hD1 hS1 => K hin x hx H1 locs1 ls hl0 ?_ hS1)
  have hm2 := @mk_23 cy ad k (M.1 k) (vp_updL (M.2 k) i0.toNatClampNeg y0)
  rw [← hK] at hm2
  rw [← hm2, ← e1, wd_setL hk1, e4] at hP1
  exact hP1
theorem g_last23C (X : Cx p s m args meth c cc nL own D cy ad A wf sd) {k : Nat} {i0 : Int32} {y0 : Int64} (hK : kd k = 23) (hk : sd k) (hin : inb i0 320) (hd : decode cc pc = .ok (.lastore, 1)) (K : GF p l e R s m args below meth c nL D cy ad A cs sl wf QF fin F (pc + 1) lv st (wL M k (ix i0) y0)) : GF p l e R s m args below meth c nL D cy ad A cs sl wf QF fin F pc lv (.long y0 :: .int i0 :: .ref (ad k) :: st) M := by
  intro x hx H locs ls hl0 hP hS
  obtain ⟨hk1, hk2⟩ := X.2.2.2 k hk
  obtain ⟨e1, e2, e3, e4⟩ := hk2 M
  have hg : (wd cy ad (wf M))[ps k]? = some (ad k, .inl (cy 2, 320, .inr (.inl (M.2 k)))) := by rw [wd_get hk1, e1, e2, hK, mk_23]
  refine va_last (ws := wd cy ad (wf M)) X.1.1 X.1.2.1 X.2.2.1.1 hP (wd_D X.2.2.1.2.1 X.2.2.1.2.2.1) hS (ps k) 2 hg rfl (inb_vp hin) hd (fun H1 locs1 hP1 hD1 hS1 => K x hx H1 locs1 ls hl0 ?_ hS1)
  have hm2 := @mk_23 cy ad k (M.1 k) (vp_updL (M.2 k) i0.toNatClampNeg y0)
  rw [← hK] at hm2
  rw [← hm2, ← e1, wd_setL hk1, e4] at hP1
  exact hP1
theorem g_alenI (X : Cx p s m args meth c cc nL own D cy ad A wf sd) {k : Nat} {v0 : Int32} {n : Nat} (hv : Int32.ofNat n = v0) (hK : kd k = n + 100) (hk : sd k) (hd : decode cc pc = .ok (.arraylength, 1)) (K : GF p l e R s m args below meth c nL D cy ad A cs sl wf QF fin F (pc + 1) lv (.int v0 :: st) M) : GF p l e R s m args below meth c nL D cy ad A cs sl wf QF fin F pc lv (.ref (ad k) :: st) M := by
  intro x hx H locs ls hl0 hP hS
  obtain ⟨hk1, hk2⟩ := X.2.2.2 k hk
  obtain ⟨e1, e2, e3, e4⟩ := hk2 M
  have hg : (wd cy ad (wf M))[ps k]? = some (ad k, .inl (cy 1, n, .inl (M.1 k))) := by rw [wd_get hk1, e1, e2, hK, mk_i]
  exact va_alen (ws := wd cy ad (wf M)) X.1.1 X.1.2.1 X.2.2.1.1 hP (ps k) 1 hg rfl hv hd (K x hx H locs ls hl0 hP hS)
theorem g_alenB (X : Cx p s m args meth c cc nL own D cy ad A wf sd) {k : Nat} {v0 : Int32} (hv : Int32.ofNat 160 = v0) (hK : kd k = 20) (hk : sd k) (hd : decode cc pc = .ok (.arraylength, 1)) (K : GF p l e R s m args below meth c nL D cy ad A cs sl wf QF fin F (pc + 1) lv (.int v0 :: st) M) : GF p l e R s m args below meth c nL D cy ad A cs sl wf QF fin F pc lv (.ref (ad k) :: st) M := by
  intro x hx H locs ls hl0 hP hS
  obtain ⟨hk1, hk2⟩ := X.2.2.2 k hk
  obtain ⟨e1, e2, e3, e4⟩ := hk2 M
  have hg : (wd cy ad (wf M))[ps k]? = some (ad k, .inl (cy 0, 160, .inl (M.1 k))) := by rw [wd_get hk1, e1, e2, hK, mk_20]
  exact va_alen (ws := wd cy ad (wf M)) X.1.1 X.1.2.1 X.2.2.1.1 hP (ps k) 0 hg rfl hv hd (K x hx H locs ls hl0 hP hS)
theorem g_alenL (X : Cx p s m args meth c cc nL own D cy ad A wf sd) {k : Nat} {v0 : Int32} (hv : Int32.ofNat 40 = v0) (hK : kd k = 22) (hk : sd k) (hd : decode cc pc = .ok (.arraylength, 1)) (K : GF p l e R s m args below meth c nL D cy ad A cs sl wf QF fin F (pc + 1) lv (.int v0 :: st) M) : GF p l e R s m args below meth c nL D cy ad A cs sl wf QF fin F pc lv (.ref (ad k) :: st) M := by
  intro x hx H locs ls hl0 hP hS
  obtain ⟨hk1, hk2⟩ := X.2.2.2 k hk
  obtain ⟨e1, e2, e3, e4⟩ := hk2 M
  have hg : (wd cy ad (wf M))[ps k]? = some (ad k, .inl (cy 2, 40, .inr (.inl (M.2 k)))) := by rw [wd_get hk1, e1, e2, hK, mk_22]
  exact va_alen (ws := wd cy ad (wf M)) X.1.1 X.1.2.1 X.2.2.1.1 hP (ps k) 2 hg rfl hv hd (K x hx H locs ls hl0 hP hS)
theorem g_max (X : Cx p s m args meth c cc nL own D cy ad A wf sd) {x0 y0 : Int32} {idx : Nat} (hl : Cond.methodLink own idx Lib.Math.max.name ∈ TB) (hR : 1 ≤ R.frames ∧ (st.map fun v => v.category).sum + 13 ≤ R.locals) (hc : cs ≤ R.cells ∧ sl ≤ R.slots) (hd : decode cc pc = .ok (.invokestatic idx, 3)) (K : GF p l e R s m args below meth c nL D cy ad A cs sl wf QF fin F (pc + 3) lv (.int (if x0 < y0 then y0 else x0) :: st) M) : GF p l e R s m args below meth c nL D cy ad A cs sl wf QF fin F pc lv (.int y0 :: .int x0 :: st) M := fun x hx H locs ls hl0 hP hS => va_mmax X.1.1 X.1.2.1 (by rw [X.1.2.2.1]; exact hl0.1.symm) X.1.2.2.2.1 (X.2.1 _ hl) (X.2.1 _ w_max_s) (X.2.1 _ w_math) (X.2.1 _ w_max_c) hR.1 hR.2 hc.1 hc.2 hd (K x hx H locs ls hl0 hP hS)
theorem g_min (X : Cx p s m args meth c cc nL own D cy ad A wf sd) {x0 y0 : Int32} {idx : Nat} (hl : Cond.methodLink own idx Lib.Math.min.name ∈ TB) (hR : 1 ≤ R.frames ∧ (st.map fun v => v.category).sum + 13 ≤ R.locals) (hc : cs ≤ R.cells ∧ sl ≤ R.slots) (hd : decode cc pc = .ok (.invokestatic idx, 3)) (K : GF p l e R s m args below meth c nL D cy ad A cs sl wf QF fin F (pc + 3) lv (.int (if y0 < x0 then y0 else x0) :: st) M) : GF p l e R s m args below meth c nL D cy ad A cs sl wf QF fin F pc lv (.int y0 :: .int x0 :: st) M := fun x hx H locs ls hl0 hP hS => va_mmin X.1.1 X.1.2.1 (by rw [X.1.2.2.1]; exact hl0.1.symm) X.1.2.2.2.1 (X.2.1 _ hl) (X.2.1 _ w_min_s) (X.2.1 _ w_math) (X.2.1 _ w_min_c) hR.1 hR.2 hc.1 hc.2 hd (K x hx H locs ls hl0 hP hS)
theorem g_abs (X : Cx p s m args meth c cc nL own D cy ad A wf sd) {x0 : Int32} {idx : Nat} (hl : Cond.methodLink own idx Lib.Math.abs.name ∈ TB) (hR : 1 ≤ R.frames ∧ (st.map fun v => v.category).sum + 13 ≤ R.locals) (hc : cs ≤ R.cells ∧ sl ≤ R.slots) (hd : decode cc pc = .ok (.invokestatic idx, 3)) (K : GF p l e R s m args below meth c nL D cy ad A cs sl wf QF fin F (pc + 3) lv (.int (if 0 ≤ x0 then x0 else 0 - x0) :: st) M) : GF p l e R s m args below meth c nL D cy ad A cs sl wf QF fin F pc lv (.int x0 :: st) M := fun x hx H locs ls hl0 hP hS => va_mabs X.1.1 X.1.2.1 (by rw [X.1.2.2.1]; exact hl0.1.symm) X.1.2.2.2.1 (X.2.1 _ hl) (X.2.1 _ w_abs_s) (X.2.1 _ w_math) (X.2.1 _ w_abs_c) hR.1 hR.2 hc.1 hc.2 hd (K x hx H locs ls hl0 hP hS)
theorem mk_obj {cy : Nat → ClassId} {ad : Nat → Nat} {ci k : Nat} {r : Nat → Int32} {q : Nat → Int64} (h : ci < 12) : ∃ fs, mk cy ad ci k r q = .inr (ci, fs) := by
  match ci, h with
  | 0, _ => exact ⟨_, rfl⟩
  | 1, _ => exact ⟨_, rfl⟩
  | 2, _ => exact ⟨_, rfl⟩
  | 3, _ => exact ⟨_, rfl⟩
  | 4, _ => exact ⟨_, rfl⟩
  | 5, _ => exact ⟨_, rfl⟩
  | 6, _ => exact ⟨_, rfl⟩
  | 7, _ => exact ⟨_, rfl⟩
  | 8, _ => exact ⟨_, rfl⟩
  | 9, _ => exact ⟨_, rfl⟩
  | 10, _ => exact ⟨_, rfl⟩
  | 11, _ => exact ⟨_, rfl⟩
/-- the call at pc runs: from the stack st0 and the memory M to the answer on st and the memory z.2 -/
def COK (p : Program) (l : Launch) (e : Env) (R : Room) (s : State) (m : MethodId) (args : Array Value) (below : List Frame) (meth : Method) (c : Code) (nL : Nat) (D : va_G) (cy : Nat → ClassId) (ad : Nat → Nat) (A : Nat → Prop) (cs sl : Nat) (pc : Nat) (lv : List (Nat × Value)) (st0 st : List Value) (M : Mem) (z : Option Value × Mem) : Prop :=
  ∀ (H : Heap) (locs : List Loc) (ls : Array Slot), lv_has ls nL lv → va_P D vwCl (wd cy ad M) H → va_S A s.heap H locs → ∃ a, va_Run p l e R s m args below meth c H locs cs sl 0 0 (F0 m pc ls st0) st (QQ D cy ad z a) (AA ad)
/-- what a callee's words say: of a method of objects -/
def CW (y : MethodName) (bytes : ByteArray) (maxL : Nat) (ret : Option FieldType) (n : Nat) : Prop :=
  (Cond.instanceMethod y ∈ TB ∧ Cond.selects y.cls y y ∈ TB ∧ Cond.initialized y.cls ∈ TB ∧ Cond.code y bytes maxL ret ∈ TB) ∧ (y.cls ≠ "java/lang/invoke/MethodHandle" ∧ y.cls ≠ "java/lang/invoke/VarHandle") ∧ (parseMethodDescriptor y.desc).map (fun d => d.parameters.length) = some n
/-- of a static one -/
def CS (y : MethodName) (bytes : ByteArray) (maxL : Nat) (ret : Option FieldType) (n : Nat) : Prop :=
  (Cond.static y ∈ TB ∧ Cond.initialized y.cls ∈ TB ∧ Cond.code y bytes maxL ret ∈ TB) ∧ (y.cls ≠ "java/lang/invoke/MethodHandle" ∧ y.cls ≠ "java/lang/invoke/VarHandle") ∧ (parseMethodDescriptor y.desc).map (fun d => d.parameters.length) = some n
theorem ws_warm {y : MethodName} {bytes : ByteArray} {maxL : Nat} {ret : Option FieldType} {args : Array Value} {s : State} (h : ∀ w ∈ TB, w.before args s = true) (hc : Cond.code y bytes maxL ret ∈ TB) : ∀ w ∈ (Cond.code y bytes maxL ret :: TB), ∀ (a' : Array Value) (U : State), s.WarmedH U.vm → w.before a' U = true := by
  intro w hw a' U hW
  rcases List.mem_cons.mp hw with rfl | hw
  · exact tb_warm hW h _ hc
  · exact tb_warm hW h _ hw
theorem len_of {y : MethodName} {n : Nat} (h : (parseMethodDescriptor y.desc).map (fun d => d.parameters.length) = some n) : ∀ sig, parseMethodDescriptor y.desc = some sig → n = sig.parameters.length := by
  intro sig hs
  rw [hs] at h
  exact (Option.some.inj h).symm
theorem ok_V (X : Cx p s m args meth c cc nL own D cy ad A wf sd) {y : MethodName} {bytes : ByteArray} {maxL rk n idx : Nat} {ret : Option FieldType} {As : List Value} {z : Option Value × Mem} {st0 : List Value} {k0 ci N : Nat} {T : u_T} (cw : CW y bytes maxL ret n) (hM : Mt l D cy ad y bytes maxL ret rk (.ref (ad k0) :: As) (wf M) z) (hst : st0 = As.reverse ++ Value.ref (ad k0) :: st) (hk : kd k0 = ci) (hs : sd k0) (h12 : ci < 12) (hci : vwCl[ci]? = some (y.cls, T, N)) (hl : Cond.methodLink own idx y ∈ TB) (hn : As.length = n) (hR : rk + 1 ≤ R.frames ∧ 8 + (maxL + 11) + 64 * rk ≤ R.locals) (hc : cs ≤ R.cells ∧ sl ≤ R.slots) (hW : (st.map fun v => v.category).sum ≤ 8) (hd : decode cc pc = .ok (.invokevirtual idx, 3)) : COK p l e R s m args below meth c nL D cy ad A cs sl pc lv st0 st (wf M) z := by
  obtain ⟨⟨w1, w2, w3, w4⟩, ⟨v1, v2⟩, hlen⟩ := cw
  intro H locs ls hl0 hP hS
  obtain ⟨hk1, hk2⟩ := X.2.2.2 k0 hs
  obtain ⟨fs, hfs⟩ := mk_obj (cy := cy) (ad := ad) (k := k0) (r := (wf M).1 k0) (q := (wf M).2 k0) h12
  refine ⟨_, va_runV (C := y.cls) (b := ad k0) (As := As) (rest := st) (n := n) (rm := Rm rk) ⟨X.1.1, X.1.2.1, X.1.2.2.1, X.1.2.2.2.1, X.2.1⟩ hM ⟨⟨rfl, rfl, hR.1, hR.2, ws_warm X.2.1 w4, List.mem_cons_self, X.2.1 _ w4, X.2.1 _ w3, ⟨v1, v2⟩, len_of hlen, X.2.1 _ hl⟩, X.2.1 _ w1, X.2.1 _ w2⟩ ⟨Pr.blind, va_recv X.2.2.1.1 hP (ci := ci) (q0 := ps k0) hci (by rw [wd_get hk1, hk, hfs]), fun U hU hW => ⟨rfl, by rw [hU]; exact hP, X.2.2.1.call hS hU hW⟩⟩ rfl hn hl0.1 hst (lv_room hW) hd ⟨hc.1, hc.2⟩⟩
theorem ok_S (X : Cx p s m args meth c cc nL own D cy ad A wf sd) {y : MethodName} {bytes : ByteArray} {maxL rk n idx : Nat} {ret : Option FieldType} {As : List Value} {z : Option Value × Mem} {st0 : List Value} (cw : CS y bytes maxL ret n) (hM : Mt l D cy ad y bytes maxL ret rk As (wf M) z) (hst : st0 = As.reverse ++ st) (hl : Cond.methodLink own idx y ∈ TB) (hn : As.length = n) (hR : rk + 1 ≤ R.frames ∧ 8 + (maxL + 11) + 64 * rk ≤ R.locals) (hc : cs ≤ R.cells ∧ sl ≤ R.slots) (hW : (st.map fun v => v.category).sum ≤ 8) (hd : decode cc pc = .ok (.invokestatic idx, 3)) : COK p l e R s m args below meth c nL D cy ad A cs sl pc lv st0 st (wf M) z := by
  obtain ⟨⟨w2, w3, w4⟩, ⟨v1, v2⟩, hlen⟩ := cw
  intro H locs ls hl0 hP hS
  exact ⟨_, va_runS (As := As) (rest := st) (n := n) (rm := Rm rk) ⟨X.1.1, X.1.2.1, X.1.2.2.1, X.1.2.2.2.1, X.2.1⟩ hM ⟨⟨rfl, rfl, hR.1, hR.2, ws_warm X.2.1 w4, List.mem_cons_self, X.2.1 _ w4, X.2.1 _ w3, ⟨v1, v2⟩, len_of hlen, X.2.1 _ hl⟩, X.2.1 _ w2⟩ ⟨Pr.blind, fun U hU hW => ⟨rfl, by rw [hU]; exact hP, X.2.2.1.call hS hU hW⟩⟩ rfl hn hl0.1 hst (lv_room hW) hd ⟨hc.1, hc.2⟩⟩
theorem ok_N (X : Cx p s m args meth c cc nL own D cy ad A wf sd) {y : MethodName} {bytes : ByteArray} {maxL rk n idx : Nat} {ret : Option FieldType} {As : List Value} {z : Option Value × Mem} {st0 : List Value} {host : String} (cw : CS y bytes maxL ret n) (hM : Mt l D cy ad y bytes maxL ret rk As (wf M) z) (hst : st0 = As.reverse ++ st) (hl : Cond.methodLinkNest own idx y host ∈ TB) (hn : As.length = n) (hR : rk + 1 ≤ R.frames ∧ 8 + (maxL + 11) + 64 * rk ≤ R.locals) (hc : cs ≤ R.cells ∧ sl ≤ R.slots) (hW : (st.map fun v => v.category).sum ≤ 8) (hd : decode cc pc = .ok (.invokestatic idx, 3)) : COK p l e R s m args below meth c nL D cy ad A cs sl pc lv st0 st (wf M) z := by
  obtain ⟨⟨w2, w3, w4⟩, ⟨v1, v2⟩, hlen⟩ := cw
  intro H locs ls hl0 hP hS
  exact ⟨_, va_runSN (As := As) (rest := st) (n := n) (rm := Rm rk) ⟨X.1.1, X.1.2.1, X.1.2.2.1, X.1.2.2.2.1, X.2.1⟩ hM ⟨⟨⟨rfl, rfl, hR.1, hR.2, ws_warm X.2.1 w4, List.mem_cons_self⟩, X.2.1 _ w4, X.2.1 _ w3, ⟨v1, v2⟩, len_of hlen, X.2.1 _ hl⟩, X.2.1 _ w2, trivial⟩ ⟨Pr.blind, fun U hU hW => ⟨rfl, by rw [hU]; exact hP, X.2.2.1.call hS hU hW⟩⟩ rfl hn hl0.1 hst (lv_room hW) hd ⟨hc.1, hc.2⟩⟩
theorem g_run {z : Option Value × Mem} {st0 : List Value} {Q : State → Prop} {Mw : Mem} (hE : EV D cy ad A s) (ok : COK p l e R s m args below meth c nL D cy ad A cs sl pc lv st0 st Mw z) (K : G p l e R s m args below meth c nL D cy ad A cs sl Q (pc + 3) lv (z.1.toList ++ st) z.2) : G p l e R s m args below meth c nL D cy ad A cs sl Q pc lv st0 Mw := by
  intro H locs ls hl0 hP hS
  obtain ⟨a, hr⟩ := ok H locs ls hl0 hP hS
  intro T hT X
  obtain ⟨v, st₀, t, T', L, h0, X', hL, e1, e2, ⟨⟨hv, hp⟩, hz, hk⟩, st⟩ := hr T hT X
  cases hv
  rw [h0] at hz hk
  have hA : ∀ q, AA ad q → A q := fun q hq => by obtain ⟨k, hk, rfl⟩ := hq; exact hE.2.2.1 k hk
  obtain ⟨t2, a1, b1⟩ := K T'.heap (locs ++ L) ls hl0 (by rw [e1]; exact hp) ⟨Nat.le_trans hS.1 (by rw [e1]; exact hz), fun q h1 h2 => by rw [e1, hk q (Nat.lt_of_lt_of_le h1 hS.1) (fun z => h2 (hA q z))]; exact hS.2.1 q h1 h2, fun q hq => by
      rcases List.mem_append.mp hq with h | h
      · exact hS.2.2 q h
      · exact hA _ (hL q h)⟩ T' rfl X'
  exact ⟨t2, st t2 a1, b1⟩
theorem g_ct (X : Cx p s m args meth c cc nL own D cy ad A wf sd) {v0 : Value} {st0 : List Value} (ok : COK p l e R s m args below meth c nL D cy ad A cs sl pc lv st0 st (wf M) (some v0, wf M)) (K : GF p l e R s m args below meth c nL D cy ad A cs sl wf QF fin F (pc + 3) lv (v0 :: st) M) : GF p l e R s m args below meth c nL D cy ad A cs sl wf QF fin F pc lv st0 M := fun x hx => g_run X.2.2.1 ok (K x hx)
theorem g_ci (X : Cx p s m args meth c cc nL own D cy ad A wf sd) {f : Option Int32} {Fk : Int32 → Option α} {st0 : List Value} (ok : ∀ r, f = some r → COK p l e R s m args below meth c nL D cy ad A cs sl pc lv st0 st (wf M) (some (.int r), wf M)) (K : ∀ r, f = some r → GF p l e R s m args below meth c nL D cy ad A cs sl wf QF fin (Fk r) (pc + 3) lv (.int r :: st) M) : GF p l e R s m args below meth c nL D cy ad A cs sl wf QF fin (f.bind Fk) pc lv st0 M := fun x hx => by
  obtain ⟨r, h1, h2⟩ := Option.bind_eq_some_iff.mp hx
  exact g_run X.2.2.1 (ok r h1) (K r h1 x h2)
theorem g_cl (X : Cx p s m args meth c cc nL own D cy ad A wf sd) {f : Option Int64} {Fk : Int64 → Option α} {st0 : List Value} (ok : ∀ r, f = some r → COK p l e R s m args below meth c nL D cy ad A cs sl pc lv st0 st (wf M) (some (.long r), wf M)) (K : ∀ r, f = some r → GF p l e R s m args below meth c nL D cy ad A cs sl wf QF fin (Fk r) (pc + 3) lv (.long r :: st) M) : GF p l e R s m args below meth c nL D cy ad A cs sl wf QF fin (f.bind Fk) pc lv st0 M := fun x hx => by
  obtain ⟨r, h1, h2⟩ := Option.bind_eq_some_iff.mp hx
  exact g_run X.2.2.1 (ok r h1) (K r h1 x h2)
theorem g_cs (X : Cx p s m args meth c cc nL own D cy ad A wf sd) {f : Option (Int32 × Mem)} {Fk : Int32 × Mem → Option α} {st0 : List Value} (ok : ∀ r, f = some r → COK p l e R s m args below meth c nL D cy ad A cs sl pc lv st0 st (wf M) (some (.int r.1), wf r.2)) (K : ∀ r M1, f = some (r, M1) → GF p l e R s m args below meth c nL D cy ad A cs sl wf QF fin (Fk (r, M1)) (pc + 3) lv (.int r :: st) M1) : GF p l e R s m args below meth c nL D cy ad A cs sl wf QF fin (f.bind Fk) pc lv st0 M := fun x hx => by
  obtain ⟨r, h1, h2⟩ := Option.bind_eq_some_iff.mp hx
  exact g_run X.2.2.1 (ok r h1) (K r.1 r.2 h1 x h2)
theorem g_cv (X : Cx p s m args meth c cc nL own D cy ad A wf sd) {f : Option Mem} {Fk : Mem → Option α} {st0 : List Value} (ok : ∀ r, f = some r → COK p l e R s m args below meth c nL D cy ad A cs sl pc lv st0 st (wf M) (none, wf r)) (K : ∀ M1, f = some M1 → GF p l e R s m args below meth c nL D cy ad A cs sl wf QF fin (Fk M1) (pc + 3) lv st M1) : GF p l e R s m args below meth c nL D cy ad A cs sl wf QF fin (f.bind Fk) pc lv st0 M := fun x hx => by
  obtain ⟨r, h1, h2⟩ := Option.bind_eq_some_iff.mp hx
  exact g_run X.2.2.1 (ok r h1) (K r h1 x h2)
def QM (D : va_G) (cy : Nat → ClassId) (ad : Nat → Nat) (wf : Mem → Mem) (below : List Frame) (args : Array Value) (s : State) (z : Option Value × Mem) : State → Prop := MQ below (QQ D cy ad (z.1, wf z.2)) args s 0 0 (AA ad)
theorem g_iret (X : Cx p s m args meth c cc nL own D cy ad (AA ad) wf sd) {x0 : α} {v0 : Int32} (hr : meth.sig.returnType = some .int) (hf : fin x0 = (some (.int v0), M)) (hd : decode cc pc = .ok (.ireturn, 1)) : GF p l e R s m args below meth c nL D cy ad (AA ad) 0 0 wf (QM D cy ad wf below args s) fin (some x0) pc lv [.int v0] M := fun x hx H locs ls hl hP hS => by
  cases hx
  rw [hf]
  exact W.iret X.1.1 X.1.2.1 hr (fun t ht hW => ⟨⟨rfl, by rw [ht]; exact hP⟩, hS.F ht⟩) hS.2.2 hd X.1.2.2.2.2
theorem g_lret (X : Cx p s m args meth c cc nL own D cy ad (AA ad) wf sd) {x0 : α} {v0 : Int64} (hr : meth.sig.returnType = some .long) (hf : fin x0 = (some (.long v0), M)) (hd : decode cc pc = .ok (.lreturn, 1)) : GF p l e R s m args below meth c nL D cy ad (AA ad) 0 0 wf (QM D cy ad wf below args s) fin (some x0) pc lv [.long v0] M := fun x hx H locs ls hl hP hS => by
  cases hx
  rw [hf]
  exact W.lret X.1.1 X.1.2.1 hr (fun t ht hW => ⟨⟨rfl, by rw [ht]; exact hP⟩, hS.F ht⟩) hS.2.2 hd X.1.2.2.2.2
theorem g_zret (X : Cx p s m args meth c cc nL own D cy ad (AA ad) wf sd) {x0 : α} {v0 : Int32} {ty : FieldType} (hr : meth.sig.returnType = some ty) (hn : narrow ty (.int v0) = .int v0) (hf : fin x0 = (some (.int v0), M)) (hd : decode cc pc = .ok (.ireturn, 1)) : GF p l e R s m args below meth c nL D cy ad (AA ad) 0 0 wf (QM D cy ad wf below args s) fin (some x0) pc lv [.int v0] M := fun x hx H locs ls hl hP hS => by
  cases hx
  rw [hf]
  exact W.zret X.1.1 X.1.2.1 hr hn (fun t ht hW => ⟨⟨rfl, by rw [ht]; exact hP⟩, hS.F ht⟩) hS.2.2 hd X.1.2.2.2.2
theorem g_vret (X : Cx p s m args meth c cc nL own D cy ad (AA ad) wf sd) {x0 : α} (hr : meth.sig.returnType = none) (hf : fin x0 = (none, M)) (hd : decode cc pc = .ok (.return_, 1)) : GF p l e R s m args below meth c nL D cy ad (AA ad) 0 0 wf (QM D cy ad wf below args s) fin (some x0) pc lv [] M := fun x hx H locs ls hl hP hS => by
  cases hx
  rw [hf]
  exact W.vret X.1.1 X.1.2.1 hr (fun t ht hW => ⟨⟨rfl, by rw [ht]; exact hP⟩, hS.F ht⟩) hS.2.2 hd X.1.2.2.2.2
theorem isB_n {v : Int32} (h : isB v) : narrow .boolean (.int v) = .int v := by rcases h with rfl | rfl <;> rfl
theorem g_gd {q : Prop} [Decidable q] (K : q → GF p l e R s m args below meth c nL D cy ad A cs sl wf QF fin F pc lv st M) : GF p l e R s m args below meth c nL D cy ad A cs sl wf QF fin (gd q F) pc lv st M := fun x hx => K (gd_some hx).1 x (gd_some hx).2
theorem g_sub {lu : List (Nat × Value)} (ks : List Nat) (hu : lv_pick lv ks = lu) (K : GF p l e R s m args below meth c nL D cy ad A cs sl wf QF fin F pc lu st M) : GF p l e R s m args below meth c nL D cy ad A cs sl wf QF fin F pc lv st M := fun x hx H locs ls hl hP hS => K x hx H locs ls (lv_sub hl ks hu) hP hS
theorem g_none : GF p l e R s m args below meth c nL D cy ad A cs sl wf QF fin none pc lv st M := fun x hx => by cases hx
theorem g_eq {F2 : Option α} (h : F = F2) (K : GF p l e R s m args below meth c nL D cy ad A cs sl wf QF fin F2 pc lv st M) : GF p l e R s m args below meth c nL D cy ad A cs sl wf QF fin F pc lv st M := h ▸ K
theorem met_of {y : MethodName} {ret : Option FieldType} {rk : Nat} {As : List Value} {lv0 : List (Nat × Value)} {x : α} (hy : plainName y.cls = true) (hlen : (lg_sl As).length ≤ nL) (h0 : lv_args 0 As = lv0) (hL : Lens wf sd) (hF : F = some x)
    (body : ∀ (p : Program) (e : Env) (s : State) (m : MethodId) (args : Array Value) (below : List Frame) (meth : Method) (c : Code), Cx p s m args meth c cc nL y.cls D cy ad (AA ad) wf sd → meth.sig.returnType = ret → GF p l e (Rm rk) s m args below meth c nL D cy ad (AA ad) 0 0 wf (QM D cy ad wf below args s) fin F 0 lv0 [] M) : Mt l D cy ad y cc nL ret rk As (wf M) ((fin x).1, wf (fin x).2) := by
  refine Met.ofW (cc := cc) (maxL := nL) (ret := ret) hy rfl ?_
  intro p e s m args below meth c s₁ B hml hv
  obtain ⟨rfl, hP, hE⟩ := hv
  have hts := atoms_spec (ws := Cond.code y cc nL ret :: TB) B.pre
  have X : Cx p s m As.toArray meth c cc nL y.cls D cy ad (AA ad) wf sd := ⟨⟨B.exec, B.bytes, hml, findClass_of_methodNamed B.named, B.notSynchronized⟩, fun w hw => hts w (List.mem_cons_of_mem _ hw), hE, hL⟩
  have K := body p e s m As.toArray below meth c X B.returns x hF
  have hl := lv_entry As (n := nL) hlen
  rw [h0] at hl
  rw [lg_entry_eq]
  exact K s.heap [] _ hl hP va_S.rf
theorem g_ilet (X : Cx p s m args meth c cc nL own D cy ad A wf sd) {v0 : Int32} {Fk : Int32 → Option α} (K : ∀ v, GF p l e R s m args below meth c nL D cy ad A cs sl wf QF fin (Fk v) pc lv (.int v :: st) M) : GF p l e R s m args below meth c nL D cy ad A cs sl wf QF fin (ilet v0 Fk) pc lv (.int v0 :: st) M := fun x hx => K v0 x hx
theorem g_llet (X : Cx p s m args meth c cc nL own D cy ad A wf sd) {v0 : Int64} {Fk : Int64 → Option α} (K : ∀ v, GF p l e R s m args below meth c nL D cy ad A cs sl wf QF fin (Fk v) pc lv (.long v :: st) M) : GF p l e R s m args below meth c nL D cy ad A cs sl wf QF fin (llet v0 Fk) pc lv (.long v0 :: st) M := fun x hx => K v0 x hx
theorem g_mlet (X : Cx p s m args meth c cc nL own D cy ad A wf sd) {Fk : Mem → Option α} (K : ∀ M1, GF p l e R s m args below meth c nL D cy ad A cs sl wf QF fin (Fk M1) pc lv st M1) : GF p l e R s m args below meth c nL D cy ad A cs sl wf QF fin (mlet M Fk) pc lv st M := fun x hx => K M x hx
theorem g_jlet (X : Cx p s m args meth c cc nL own D cy ad A wf sd) {β : Type} {t : β → Option α} {b : (β → Option α) → Option α} (pcJ : Nat) (lvJ : β → List (Nat × Value)) (stJ : β → List Value) (MJ : β → Mem) (KT : ∀ q, GF p l e R s m args below meth c nL D cy ad A cs sl wf QF fin (t q) pcJ (lvJ q) (stJ q) (MJ q)) (KB : ∀ J : β → Option α, (∀ q, GF p l e R s m args below meth c nL D cy ad A cs sl wf QF fin (J q) pcJ (lvJ q) (stJ q) (MJ q)) → GF p l e R s m args below meth c nL D cy ad A cs sl wf QF fin (b J) pc lv st M) : GF p l e R s m args below meth c nL D cy ad A cs sl wf QF fin (jlet t b) pc lv st M := fun x hx => KB t KT x hx
theorem g_ifc (X : Cx p s m args meth c cc nL own D cy ad A wf sd) {q : Prop} [Decidable q] {A1 B1 : Option α} (K1 : q → GF p l e R s m args below meth c nL D cy ad A cs sl wf QF fin A1 pc lv st M) (K2 : ¬ q → GF p l e R s m args below meth c nL D cy ad A cs sl wf QF fin B1 pc lv st M) : GF p l e R s m args below meth c nL D cy ad A cs sl wf QF fin (if q then A1 else B1) pc lv st M := fun x hx => by
  by_cases h : q
  · exact K1 h x (ite_t hx h)
  · exact K2 h x (ite_f hx h)
theorem g_swI (X : Cx p s m args meth c cc nL own D cy ad A wf sd) {x0 : Int32} {dflt lo hi off : Int} {offs : Array Int} {len : Nat} (v0 : Int32) (tgt : Nat) (hv : x0 = v0) (h1 : ¬ v0.toInt < lo ∧ ¬ hi < v0.toInt) (ho : offs[(v0.toInt - lo).toNat]? = some off) (ht : (pc : Int) + off = (tgt : Int)) (hd : decode cc pc = .ok (.tableswitch dflt lo hi offs, len)) (K : GF p l e R s m args below meth c nL D cy ad A cs sl wf QF fin F tgt lv st M) : GF p l e R s m args below meth c nL D cy ad A cs sl wf QF fin F pc lv (.int x0 :: st) M := fun x hx H locs ls hl hP hS => by
  subst hv
  exact lv_tableIn X.1.1 X.1.2.1 hd h1.1 h1.2 ho ht (K x hx H locs ls hl hP hS)
theorem g_swO (X : Cx p s m args meth c cc nL own D cy ad A wf sd) {x0 : Int32} {dflt lo hi : Int} {offs : Array Int} {len : Nat} (tgt : Nat) (hd : decode cc pc = .ok (.tableswitch dflt lo hi offs, len)) (hv : ∀ n : Int, lo ≤ n → n ≤ hi → x0 = Int32.ofInt n → ∃ off, offs[(n - lo).toNat]? = some off ∧ (pc : Int) + off = (tgt : Int)) (ht : (pc : Int) + dflt = (tgt : Int)) (K : GF p l e R s m args below meth c nL D cy ad A cs sl wf QF fin F tgt lv st M) : GF p l e R s m args below meth c nL D cy ad A cs sl wf QF fin F pc lv (.int x0 :: st) M := by
  intro x hx H locs ls hl hP hS
  rcases Int.lt_or_le x0.toInt lo with h1 | h1
  · exact lv_tableOut X.1.1 X.1.2.1 hd (Or.inl h1) ht (K x hx H locs ls hl hP hS)
  · rcases Int.lt_or_le hi x0.toInt with h2 | h2
    · exact lv_tableOut X.1.1 X.1.2.1 hd (Or.inr h2) ht (K x hx H locs ls hl hP hS)
    · obtain ⟨off, o1, o2⟩ := hv _ h1 h2 (Int32.ofInt_toInt x0).symm
      exact lv_tableIn X.1.1 X.1.2.1 hd (Int.not_lt.mpr h1) (Int.not_lt.mpr h2) o1 o2 (K x hx H locs ls hl hP hS)
theorem g_gs0 (X : Cx p s m args meth c cc nL own D cy ad A wf sd) {idx : Nat} (hl : Cond.fieldLinkNest own idx RX10 "LAW_AT_FIRST" "[I" RX10 ∈ TB) (hd : decode cc pc = .ok (.getstatic idx, 3)) (K : GF p l e R s m args below meth c nL D cy ad A cs sl wf QF fin F (pc + 3) lv (.ref (ad 300) :: st) M) : GF p l e R s m args below meth c nL D cy ad A cs sl wf QF fin F pc lv st M := fun x hx H locs ls hl0 hP hS => va_getsN X.1.1 X.1.2.1 X.2.2.1.2.2.2.1.1 hS X.1.2.2.2.1 (X.2.1 _ hl) (fun _ h => h) hd (K x hx H locs ls hl0 hP hS)
theorem g_gs1 (X : Cx p s m args meth c cc nL own D cy ad A wf sd) {idx : Nat} (hl : Cond.fieldLinkNest own idx RX10 "LAW_LEAST" "[I" RX10 ∈ TB) (hd : decode cc pc = .ok (.getstatic idx, 3)) (K : GF p l e R s m args below meth c nL D cy ad A cs sl wf QF fin F (pc + 3) lv (.ref (ad 301) :: st) M) : GF p l e R s m args below meth c nL D cy ad A cs sl wf QF fin F pc lv st M := fun x hx H locs ls hl0 hP hS => va_getsN X.1.1 X.1.2.1 X.2.2.1.2.2.2.2.1.1 hS X.1.2.2.2.1 (X.2.1 _ hl) (fun _ h => h) hd (K x hx H locs ls hl0 hP hS)
theorem g_gs2 (X : Cx p s m args meth c cc nL own D cy ad A wf sd) {idx : Nat} (hl : Cond.fieldLinkNest own idx RX10 "LAW_MOST" "[I" RX10 ∈ TB) (hd : decode cc pc = .ok (.getstatic idx, 3)) (K : GF p l e R s m args below meth c nL D cy ad A cs sl wf QF fin F (pc + 3) lv (.ref (ad 302) :: st) M) : GF p l e R s m args below meth c nL D cy ad A cs sl wf QF fin F pc lv st M := fun x hx H locs ls hl0 hP hS => va_getsN X.1.1 X.1.2.1 X.2.2.1.2.2.2.2.2.1.1 hS X.1.2.2.2.1 (X.2.1 _ hl) (fun _ h => h) hd (K x hx H locs ls hl0 hP hS)
theorem g_gs3 (X : Cx p s m args meth c cc nL own D cy ad A wf sd) {idx : Nat} (hl : Cond.fieldLinkNest own idx RX10 "KIND_ABOVE" "[I" RX10 ∈ TB) (hd : decode cc pc = .ok (.getstatic idx, 3)) (K : GF p l e R s m args below meth c nL D cy ad A cs sl wf QF fin F (pc + 3) lv (.ref (ad 303) :: st) M) : GF p l e R s m args below meth c nL D cy ad A cs sl wf QF fin F pc lv st M := fun x hx H locs ls hl0 hP hS => va_getsN X.1.1 X.1.2.1 X.2.2.1.2.2.2.2.2.2.1.1 hS X.1.2.2.2.1 (X.2.1 _ hl) (fun _ h => h) hd (K x hx H locs ls hl0 hP hS)
theorem g_sa0 (X : Cx p s m args meth c cc nL own D cy ad A wf sd) {i0 : Int32} (hd : decode cc pc = .ok (.iaload, 1)) (K : inb i0 9 → GF p l e R s m args below meth c nL D cy ad A cs sl wf QF fin F (pc + 1) lv (.int (sv0.getD (ix i0) 0) :: st) M) : GF p l e R s m args below meth c nL D cy ad A cs sl wf QF fin (gd (inb i0 9) F) pc lv (.int i0 :: .ref (ad 300) :: st) M := fun x hx H locs ls hl0 hP hS => va_ti X.1.1 X.1.2.1 X.2.2.1.2.2.2.1.2.2.2.2 hS (inb_vp (gd_some hx).1) rfl hd (K (gd_some hx).1 x (gd_some hx).2 H locs ls hl0 hP hS)
theorem g_sa1 (X : Cx p s m args meth c cc nL own D cy ad A wf sd) {i0 : Int32} (hd : decode cc pc = .ok (.iaload, 1)) (K : inb i0 9 → GF p l e R s m args below meth c nL D cy ad A cs sl wf QF fin F (pc + 1) lv (.int (sv1.getD (ix i0) 0) :: st) M) : GF p l e R s m args below meth c nL D cy ad A cs sl wf QF fin (gd (inb i0 9) F) pc lv (.int i0 :: .ref (ad 301) :: st) M := fun x hx H locs ls hl0 hP hS => va_ti X.1.1 X.1.2.1 X.2.2.1.2.2.2.2.1.2 hS (inb_vp (gd_some hx).1) rfl hd (K (gd_some hx).1 x (gd_some hx).2 H locs ls hl0 hP hS)
theorem g_sa2 (X : Cx p s m args meth c cc nL own D cy ad A wf sd) {i0 : Int32} (hd : decode cc pc = .ok (.iaload, 1)) (K : inb i0 9 → GF p l e R s m args below meth c nL D cy ad A cs sl wf QF fin F (pc + 1) lv (.int (sv2.getD (ix i0) 0) :: st) M) : GF p l e R s m args below meth c nL D cy ad A cs sl wf QF fin (gd (inb i0 9) F) pc lv (.int i0 :: .ref (ad 302) :: st) M := fun x hx H locs ls hl0 hP hS => va_ti X.1.1 X.1.2.1 X.2.2.1.2.2.2.2.2.1.2 hS (inb_vp (gd_some hx).1) rfl hd (K (gd_some hx).1 x (gd_some hx).2 H locs ls hl0 hP hS)
theorem g_sa3 (X : Cx p s m args meth c cc nL own D cy ad A wf sd) {i0 : Int32} (hd : decode cc pc = .ok (.iaload, 1)) (K : inb i0 6 → GF p l e R s m args below meth c nL D cy ad A cs sl wf QF fin F (pc + 1) lv (.int (sv3.getD (ix i0) 0) :: st) M) : GF p l e R s m args below meth c nL D cy ad A cs sl wf QF fin (gd (inb i0 6) F) pc lv (.int i0 :: .ref (ad 303) :: st) M := fun x hx H locs ls hl0 hP hS => va_ti X.1.1 X.1.2.1 X.2.2.1.2.2.2.2.2.2.1.2 hS (inb_vp (gd_some hx).1) rfl hd (K (gd_some hx).1 x (gd_some hx).2 H locs ls hl0 hP hS)
theorem g_cpI (X : Cx p s m args meth c cc nL own D cy ad A wf sd) {k0 k n0 n1 idx : Nat} {sp dp n : Int32} (hK0 : kd k0 = n0 + 100) (hk0 : sd k0) (hK : kd k = n1 + 100) (hk : sd k) (hl : Cond.methodLink own idx arraycopyName ∈ TB) (hR : 1 ≤ R.frames ∧ (st.map fun v => v.category).sum + (nativeFrameWords "java/lang/System" "arraycopy" 5 + 11) ≤ R.locals) (hd : decode cc pc = .ok (.invokestatic idx, 3)) (K : cpokB sp dp n n0 n1 → GF p l e R s m args below meth c nL D cy ad A cs sl wf QF fin F (pc + 3) lv st (cpI M k0 k sp dp n)) : GF p l e R s m args below meth c nL D cy ad A cs sl wf QF fin (gd (cpokB sp dp n n0 n1) F) pc lv (.int n :: .int dp :: .ref (ad k) :: .int sp :: .ref (ad k0) :: st) M := by
  intro x hx H locs ls hl0 hP hS
  obtain ⟨hk1, hk2⟩ := X.2.2.2 k hk
  obtain ⟨e1, e2, e3, e4⟩ := hk2 M
  obtain ⟨hk01, hk02⟩ := X.2.2.2 k0 hk0
  obtain ⟨e01, e02, -, -⟩ := hk02 M
  obtain ⟨hin0, hx⟩ := gd_some hx
  have hin := cpok_of hin0
  have hg : (wd cy ad (wf M))[ps k]? = some (ad k, .inl (cy 1, n1, .inl (M.1 k))) := by rw [wd_get hk1, e1, e2, hK, mk_i]
  have hg0 : (wd cy ad (wf M))[ps k0]? = some (ad k0, .inl (cy 1, n0, .inl (M.1 k0))) := by rw [wd_get hk01, e01, e02, hK0, mk_i]
  refine va_copyi (ty := .int) X.1.1 X.1.2.1 (by rw [X.1.2.2.1]; exact hl0.1.symm) X.1.2.2.2.1 (X.2.1 _ hl) (X.2.1 _ w_ac_n) (X.2.1 _ w_ac_s) (X.2.1 _ w_sys) X.2.2.1.1 hP (wd_D X.2.2.1.2.1 X.2.2.1.2.2.1) hS (ps k0) (ps k) 1 1 hg0 hg rfl rfl rfl hin.1.1 hin.1.2.1 hin.1.2.2 hin.2.1 hin.2.2 (fun i _ => rfl) hR.1 hR.2 hd (fun H1 locs1 hP1 hD1 hS1 => K hin0 x hx H1 locs1 ls hl0 ?_ hS1)
  have hm2 := @mk_i cy ad k n1 (va_cpy (M.1 k0) (M.1 k) sp.toNatClampNeg dp.toNatClampNeg n.toNatClampNeg) (M.2 k)
  rw [← hK] at hm2
  rw [← hm2, ← e2, wd_setI hk1, e3] at hP1
  exact hP1
theorem g_cpL (X : Cx p s m args meth c cc nL own D cy ad A wf sd) {k0 k idx : Nat} {sp dp n : Int32} (hK0 : kd k0 = 22) (hk0 : sd k0) (hK : kd k = 22) (hk : sd k) (hl : Cond.methodLink own idx arraycopyName ∈ TB) (hR : 1 ≤ R.frames ∧ (st.map fun v => v.category).sum + (nativeFrameWords "java/lang/System" "arraycopy" 5 + 11) ≤ R.locals) (hd : decode cc pc = .ok (.invokestatic idx, 3)) (K : cpokB sp dp n 40 40 → GF p l e R s m args below meth c nL D cy ad A cs sl wf QF fin F (pc + 3) lv st (cpL M k0 k sp dp n)) : GF p l e R s m args below meth c nL D cy ad A cs sl wf QF fin (gd (cpokB sp dp n 40 40) F) pc lv (.int n :: .int dp :: .ref (ad k) :: .int sp :: .ref (ad k0) :: st) M := by
  intro x hx H locs ls hl0 hP hS
  obtain ⟨hk1, hk2⟩ := X.2.2.2 k hk
  obtain ⟨e1, e2, e3, e4⟩ := hk2 M
  obtain ⟨hk01, hk02⟩ := X.2.2.2 k0 hk0
  obtain ⟨e01, e02, -, -⟩ := hk02 M
  obtain ⟨hin0, hx⟩ := gd_some hx
  have hin := cpok_of hin0
  have hg : (wd cy ad (wf M))[ps k]? = some (ad k, .inl (cy 2, 40, .inr (.inl (M.2 k)))) := by rw [wd_get hk1, e1, e2, hK, mk_22]
  have hg0 : (wd cy ad (wf M))[ps k0]? = some (ad k0, .inl (cy 2, 40, .inr (.inl (M.2 k0)))) := by rw [wd_get hk01, e01, e02, hK0, mk_22]
  refine va_copyl X.1.1 X.1.2.1 (by rw [X.1.2.2.1]; exact hl0.1.symm) X.1.2.2.2.1 (X.2.1 _ hl) (X.2.1 _ w_ac_n) (X.2.1 _ w_ac_s) (X.2.1 _ w_sys) X.2.2.1.1 hP (wd_D X.2.2.1.2.1 X.2.2.1.2.2.1) hS (ps k0) (ps k) 2 2 hg0 hg rfl rfl rfl hin.1.1 hin.1.2.1 hin.1.2.2 hin.2.1 hin.2.2 (fun i _ => rfl) hR.1 hR.2 hd (fun H1 locs1 hP1 hD1 hS1 => K hin0 x hx H1 locs1 ls hl0 ?_ hS1)
  have hm2 := @mk_22 cy ad k (M.1 k) (va_cpy (M.2 k0) (M.2 k) sp.toNatClampNeg dp.toNatClampNeg n.toNatClampNeg)
  rw [← hK] at hm2
  rw [← hm2, ← e1, wd_setL hk1, e4] at hP1
  exact hP1
theorem g_cpS (X : Cx p s m args meth c cc nL own D cy ad A wf sd) {k n1 idx : Nat} {sp dp n : Int32} (hK : kd k = n1 + 100) (hk : sd k) (hl : Cond.methodLink own idx arraycopyName ∈ TB) (hR : 1 ≤ R.frames ∧ (st.map fun v => v.category).sum + (nativeFrameWords "java/lang/System" "arraycopy" 5 + 11) ≤ R.locals) (hd : decode cc pc = .ok (.invokestatic idx, 3)) (K : cpokB sp dp n 9 n1 → GF p l e R s m args below meth c nL D cy ad A cs sl wf QF fin F (pc + 3) lv st (cpS M k sp dp n)) : GF p l e R s m args below meth c nL D cy ad A cs sl wf QF fin (gd (cpokB sp dp n 9 n1) F) pc lv (.int n :: .int dp :: .ref (ad k) :: .int sp :: .ref (ad 300) :: st) M := by
  intro x hx H locs ls hl0 hP hS
  obtain ⟨hk1, hk2⟩ := X.2.2.2 k hk
  obtain ⟨e1, e2, e3, e4⟩ := hk2 M
  obtain ⟨hin0, hx⟩ := gd_some hx
  have hin := cpok_of hin0
  obtain ⟨-, z2, z3, z4, -⟩ := X.2.2.1.2.2.2.1
  have hg : (wd cy ad (wf M))[ps k]? = some (ad k, .inl (cy 1, n1, .inl (M.1 k))) := by rw [wd_get hk1, e1, e2, hK, mk_i]
  refine va_copyx X.1.1 X.1.2.1 (by rw [X.1.2.2.1]; exact hl0.1.symm) X.1.2.2.2.1 (X.2.1 _ hl) (X.2.1 _ w_ac_n) (X.2.1 _ w_ac_s) (X.2.1 _ w_sys) X.2.2.1.1 hP (wd_D X.2.2.1.2.1 X.2.2.1.2.2.1) hS z2 z3 z4 (ps k) 1 hg rfl hin.1.1 hin.1.2.1 hin.1.2.2 hin.2.1 hin.2.2 hR.1 hR.2 hd (fun H1 locs1 hP1 hD1 hS1 => K hin0 x hx H1 locs1 ls hl0 ?_ hS1)
  have hm2 := @mk_i cy ad k n1 (va_cpy (fun j => sv0.getD j 0) (M.1 k) sp.toNatClampNeg dp.toNatClampNeg n.toNatClampNeg) (M.2 k)
  rw [← hK] at hm2
  rw [← hm2, ← e2, wd_setI hk1, e3] at hP1
  exact hP1
theorem g_ldcw (X : Cx p s m args meth c cc nL own D cy ad A wf sd) {n : Nat} {v : Int32}  (hd : decode cc pc = .ok (.ldc_w n, 3)) (hw : Cond.constant own n v ∈ TB) (K : GF p l e R s m args below meth c nL D cy ad A cs sl wf QF fin F (pc + 3) lv (.int v :: st) M) : GF p l e R s m args below meth c nL D cy ad A cs sl wf QF fin F pc lv (st) M := fun x hx H locs ls hl hP hS => lv_ldcw X.1.1 X.1.2.1 X.1.2.2.2.1 (X.2.1 _ hw) hd (K x hx H locs ls hl hP hS)
end LY
