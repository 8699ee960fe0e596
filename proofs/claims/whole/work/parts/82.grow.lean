-- a world that grows
def upE (E : Nat → va_E) (i : Nat) (v : va_E) : Nat → va_E := fun j => if j = i then v else E j
theorem upE_s {E : Nat → va_E} {i : Nat} {v : va_E} : upE E i v i = v := if_pos rfl
theorem upE_n {E : Nat → va_E} {i j : Nat} {v : va_E} (h : j ≠ i) : upE E i v j = E j := if_neg h
def gw (h0 n : Nat) (E : Nat → va_E) : va_W := (List.range n).map (fun i => (h0 + i, E i))
theorem gw_get {h0 n i : Nat} {E : Nat → va_E} (h : i < n) : (gw h0 n E)[i]? = some (h0 + i, E i) := by simp [gw, h]
theorem gw_none {h0 n i : Nat} {E : Nat → va_E} (h : ¬ i < n) : (gw h0 n E)[i]? = none := List.getElem?_eq_none (by simp [gw]; omega)
theorem gw_set {h0 n i : Nat} {E : Nat → va_E} {v : va_E} : (gw h0 n E).set i (h0 + i, v) = gw h0 n (upE E i v) := by
  apply List.ext_getElem?
  intro j
  by_cases hj : j = i
  · subst hj
    by_cases h : j < n
    · rw [List.getElem?_set_self (by simp [gw, h]), gw_get h, upE_s]
    · rw [gw_none h, List.getElem?_eq_none (by simp [gw]; omega)]
  · rw [List.getElem?_set_ne (Ne.symm hj)]
    by_cases h : j < n
    · rw [gw_get h, gw_get h, upE_n hj]
    · rw [gw_none h, gw_none h]
theorem gw_push {h0 n : Nat} {E : Nat → va_E} {v : va_E} : gw h0 n E ++ [(h0 + n, v)] = gw h0 (n + 1) (upE E n v) := by
  unfold gw
  rw [List.range_succ, List.map_append]
  congr 1
  · apply List.map_congr_left
    intro i hi
    have := List.mem_range.mp hi
    rw [upE_n (by omega)]
  · simp [upE_s]
theorem gw_D {h0 n : Nat} {E : Nat → va_E} : va_D (fun q => h0 ≤ q) (gw h0 n E) := by
  have key : ∀ (k : Nat) (q : Nat × va_E), (gw h0 n E)[k]? = some q → k < n ∧ q.1 = h0 + k := by
    intro k q hq
    by_cases hk : k < n
    · rw [gw_get hk] at hq
      cases hq
      exact ⟨hk, rfl⟩
    · rw [gw_none hk] at hq
      cases hq
  refine ⟨fun i j p q hi hj e => ?_, fun k q hq => ?_⟩
  · obtain ⟨a, b⟩ := key i p hi
    obtain ⟨c, d⟩ := key j q hj
    omega
  · obtain ⟨a, b⟩ := key k q hq
    show h0 ≤ q.1
    omega
def EVA (D : va_G) (cy : Nat → ClassId) (h0 b0 : Nat) (s : State) : Prop := va_K D vwCl (tys cy) s ∧ (va_Z RX10 "LAW_AT_FIRST" "[I" (.ref b0) (fun q => h0 ≤ q) s s.heap ∧ va_X b0 9 (fun j => sv0.getD j 0) s s.heap ∧ b0 < s.heap.size ∧ ¬ h0 ≤ b0) ∧ va_AO RX0 s ∧ va_AO RX2 s ∧ va_AO RX3 s ∧ va_AO RX5 s
theorem EVA.call {D : va_G} {cy : Nat → ClassId} {h0 b0 : Nat} {s U : State} {H : Heap} {locs : List Loc} (h : EVA D cy h0 b0 s) (hS : va_S (fun q => h0 ≤ q) s.heap H locs) (hU : U.heap = H) (hW : s.WarmedH U.vm) : EVA D cy h0 b0 U := by
  obtain ⟨k, ⟨a1, a2, a3, a4⟩, o0, o2, o3, o5⟩ := h
  have hq := hS.2.1
  refine ⟨va_K.moved hW.alike k, ?_, o0.moved hW.alike, o2.moved hW.alike, o3.moved hW.alike, o5.moved hW.alike⟩
  rw [hU]
  exact ⟨(a1.kept hq).moved hW.alike, (a2.kept (hq _ a3 a4)).moved hW.alike, Nat.lt_of_lt_of_le a3 hS.1, a4⟩
theorem EVA.blind {D : va_G} {cy : Nat → ClassId} {h0 b0 : Nat} {U : State} {g : JFrame} {mk : MethodId} {a : Array Value} (h : EVA D cy h0 b0 U) : EVA D cy h0 b0 (U.calling g mk a) := by
  obtain ⟨k, ⟨a1, a2, a3, a4⟩, o0, o2, o3, o5⟩ := h
  have q : U.vm.Alike (U.calling g mk a).vm := Vm.Alike.refl U.vm
  exact ⟨va_K.moved q k, ⟨a1.moved q, a2.moved q, a3, a4⟩, o0.moved q, o2.moved q, o3.moved q, o5.moved q⟩
def CxA (p : Program) (s : State) (m : MethodId) (args : Array Value) (meth : Method) (c : Code) (cc : ByteArray) (nL : Nat) (own : String) (D : va_G) (cy : Nat → ClassId) (h0 b0 n0 : Nat) : Prop :=
  (p.tables.exec = Jvm.exec ∧ c.code = cc ∧ c.maxLocals = nL ∧ s.vm.findClass own = some m.cls ∧ meth.locks = false) ∧ (∀ w ∈ TB, w.before args s = true) ∧ EVA D cy h0 b0 s ∧ s.heap.size = h0 + n0
/-- from pc, in the grown world, the machine comes to Q -/
def GA (p : Program) (l : Launch) (e : Env) (R : Room) (s : State) (m : MethodId) (args : Array Value) (below : List Frame) (meth : Method) (c : Code) (nL : Nat) (D : va_G) (h0 n0 : Nat) (Q : State → Prop) (E : Nat → va_E) (cs sl pc : Nat) (lv : List (Nat × Value)) (st : List Value) : Prop :=
  ∀ (H : Heap) (locs : List Loc) (ls : Array Slot), lv_has ls nL lv → h0 + (n0 + cs) ≤ H.size → va_P D vwCl (gw h0 (n0 + cs) E) H → va_S (fun q => h0 ≤ q) s.heap H locs → W p l e R s m args below meth c H locs cs sl Q (F0 m pc ls st)
theorem W.sz {p : Program} {l : Launch} {e : Env} {R : Room} {s : State} {m : MethodId} {args : Array Value} {below : List Frame} {meth : Method} {c : Code} {H : Heap} {locs : List Loc} {cells slots : Nat} {Q : State → Prop} {g : JFrame} (k : H.size ≤ s.heap.size + cells → W p l e R s m args below meth c H locs cells slots Q g) : W p l e R s m args below meth c H locs cells slots Q g := fun T hT X => k (by rw [← hT]; exact X.heapSize) T hT X
theorem va_S.tr {A : Nat → Prop} {H0 H H1 : Heap} {locs locs1 : List Loc} (h : va_S A H0 H locs) (g : va_S A H H1 locs1) : va_S A H0 H1 locs1 := ⟨Nat.le_trans h.1 g.1, fun q h1 h2 => (g.2.1 q (Nat.lt_of_lt_of_le h1 h.1) h2).trans (h.2.1 q h1 h2), g.2.2⟩
theorem va_S.here {A : Nat → Prop} {H0 H : Heap} {locs : List Loc} (h : va_S A H0 H locs) : va_S A H H locs := ⟨Nat.le_refl _, fun _ _ _ => rfl, h.2.2⟩
theorem w_oi_i : Cond.instanceMethod objectInit ∈ TB := m_1_26
theorem w_oi_c : Cond.code objectInit ⟨#[0xb1]⟩ 1 none ∈ TB := m_1_27
section GROW
variable {p : Program} {l : Launch} {e : Env} {R : Room} {s : State} {m : MethodId} {args : Array Value} {below : List Frame} {meth : Method} {c : Code} {cc : ByteArray} {nL : Nat} {own : String} {D : va_G} {cy : Nat → ClassId} {h0 n0 b0 : Nat} {cs sl : Nat} {Q : State → Prop} {pc : Nat} {lv : List (Nat × Value)} {st : List Value} {E : Nat → va_E}
theorem a_iconst (X : CxA p s m args meth c cc nL own D cy h0 b0 n0) {n : Int} {v : Int32}  (hd : decode cc pc = .ok (.iconst n, 1)) (hv : Int32.ofInt n = v) (K : GA p l e R s m args below meth c nL D h0 n0 Q E cs sl (pc + 1) lv (.int v :: st)) : GA p l e R s m args below meth c nL D h0 n0 Q E cs sl pc lv (st) := fun H locs ls hl hz hP hS => lv_iconst X.1.1 X.1.2.1 hd hv (K H locs ls hl hz hP hS)
theorem a_bipush (X : CxA p s m args meth c cc nL own D cy h0 b0 n0) {n : Int} {v : Int32}  (hd : decode cc pc = .ok (.bipush n, 2)) (hv : (Int8.ofInt n).toInt32 = v) (K : GA p l e R s m args below meth c nL D h0 n0 Q E cs sl (pc + 2) lv (.int v :: st)) : GA p l e R s m args below meth c nL D h0 n0 Q E cs sl pc lv (st) := fun H locs ls hl hz hP hS => lv_bipush X.1.1 X.1.2.1 hd hv (K H locs ls hl hz hP hS)
theorem a_sipush (X : CxA p s m args meth c cc nL own D cy h0 b0 n0) {n : Int} {v : Int32}  (hd : decode cc pc = .ok (.sipush n, 3)) (hv : (Int16.ofInt n).toInt32 = v) (K : GA p l e R s m args below meth c nL D h0 n0 Q E cs sl (pc + 3) lv (.int v :: st)) : GA p l e R s m args below meth c nL D h0 n0 Q E cs sl pc lv (st) := fun H locs ls hl hz hP hS => lv_sipush X.1.1 X.1.2.1 hd hv (K H locs ls hl hz hP hS)
theorem a_aload (X : CxA p s m args meth c cc nL own D cy h0 b0 n0) {k : Fin 4} {i x0 : Nat}  (hd : decode cc pc = .ok (.aload_n k, 1)) (j : Nat) (hi : (k : Nat) = i) (hj : lv[j]? = some (i, .ref x0)) (K : GA p l e R s m args below meth c nL D h0 n0 Q E cs sl (pc + 1) lv (.ref x0 :: st)) : GA p l e R s m args below meth c nL D h0 n0 Q E cs sl pc lv (st) := fun H locs ls hl hz hP hS => lv_aload_n X.1.1 X.1.2.1 hd hi (lv_at hl j hj) (K H locs ls hl hz hP hS)
theorem a_iload (X : CxA p s m args meth c cc nL own D cy h0 b0 n0) {k : Fin 4} {i : Nat} {x0 : Int32}  (hd : decode cc pc = .ok (.iload_n k, 1)) (j : Nat) (hi : (k : Nat) = i) (hj : lv[j]? = some (i, .int x0)) (K : GA p l e R s m args below meth c nL D h0 n0 Q E cs sl (pc + 1) lv (.int x0 :: st)) : GA p l e R s m args below meth c nL D h0 n0 Q E cs sl pc lv (st) := fun H locs ls hl hz hP hS => lv_iload_n X.1.1 X.1.2.1 hd hi (lv_at hl j hj) (K H locs ls hl hz hP hS)
theorem a_dup (X : CxA p s m args meth c cc nL own D cy h0 b0 n0) {va : Value}  (hd : decode cc pc = .ok (.dup, 1)) (hva : va.category = 1) (K : GA p l e R s m args below meth c nL D h0 n0 Q E cs sl (pc + 1) lv (va :: va :: st)) : GA p l e R s m args below meth c nL D h0 n0 Q E cs sl pc lv (va :: st) := fun H locs ls hl hz hP hS => lv_dup X.1.1 X.1.2.1 hd hva (K H locs ls hl hz hP hS)
theorem a_istore (X : CxA p s m args meth c cc nL own D cy h0 b0 n0) {k : Fin 4} {i : Nat} {x0 : Int32} {lw lu : List (Nat × Value)} (hd : decode cc pc = .ok (.istore_n k, 1)) (hi : (k : Nat) = i) (hn : i < nL) (hw : (i, Value.int x0) :: lv.filter (fun q => !(q.1 == i) && !(q.1 + 1 == i && q.2.category == 2)) = lw) (ks : List Nat) (hu : lv_pick lw ks = lu) (K : GA p l e R s m args below meth c nL D h0 n0 Q E cs sl (pc + 1) lu st) : GA p l e R s m args below meth c nL D h0 n0 Q E cs sl pc lv (.int x0 :: st) := fun H locs ls hl hz hP hS => lv_istore_n X.1.1 X.1.2.1 hd hi hl hn hw (fun ls hl => K H locs ls (lv_sub hl ks hu) hz hP hS)
theorem a_astore (X : CxA p s m args meth c cc nL own D cy h0 b0 n0) {k : Fin 4} {i : Nat} {x0 : Nat} {lw lu : List (Nat × Value)} (hd : decode cc pc = .ok (.astore_n k, 1)) (hi : (k : Nat) = i) (hn : i < nL) (hw : (i, Value.ref x0) :: lv.filter (fun q => !(q.1 == i) && !(q.1 + 1 == i && q.2.category == 2)) = lw) (ks : List Nat) (hu : lv_pick lw ks = lu) (K : GA p l e R s m args below meth c nL D h0 n0 Q E cs sl (pc + 1) lu st) : GA p l e R s m args below meth c nL D h0 n0 Q E cs sl pc lv (.ref x0 :: st) := fun H locs ls hl hz hP hS => lv_astore_n X.1.1 X.1.2.1 hd hi hl hn hw (fun ls hl => K H locs ls (lv_sub hl ks hu) hz hP hS)
theorem a_iinc (X : CxA p s m args meth c cc nL own D cy h0 b0 n0) {i : Nat} {k : Nat} {n : Int} {x0 v : Int32} {lw lu : List (Nat × Value)} (hd : decode cc pc = .ok (.iinc i n, 3)) (hk : lv[k]? = some (i, .int x0)) (hv : x0 + Int32.ofInt n = v) (hn : i < nL) (hw : (i, Value.int v) :: lv.filter (fun q => !(q.1 == i) && !(q.1 + 1 == i && q.2.category == 2)) = lw) (ks : List Nat) (hu : lv_pick lw ks = lu) (K : GA p l e R s m args below meth c nL D h0 n0 Q E cs sl (pc + 3) lu st) : GA p l e R s m args below meth c nL D h0 n0 Q E cs sl pc lv st := fun H locs ls hl hz hP hS => lv_iinc X.1.1 X.1.2.1 hd hl hk hv hn hw (fun ls hl => K H locs ls (lv_sub hl ks hu) hz hP hS)
theorem a_goto (X : CxA p s m args meth c cc nL own D cy h0 b0 n0) {off : Int} (tgt : Nat) (ht : (pc : Int) + off = (tgt : Int)) (hd : decode cc pc = .ok (.goto off, 3)) (K : GA p l e R s m args below meth c nL D h0 n0 Q E cs sl tgt lv st) : GA p l e R s m args below meth c nL D h0 n0 Q E cs sl pc lv st := fun H locs ls hl hz hP hS => lv_goto X.1.1 X.1.2.1 hd ht (K H locs ls hl hz hP hS)
theorem a_geT (X : CxA p s m args meth c cc nL own D cy h0 b0 n0) {x y : Int32} (hx : y ≤ x) {off : Int} (tgt : Nat) (ht : (pc : Int) + off = (tgt : Int)) (hd : decode cc pc = .ok (.if_icmp .ge off, 3)) (K : GA p l e R s m args below meth c nL D h0 n0 Q E cs sl tgt lv st) : GA p l e R s m args below meth c nL D h0 n0 Q E cs sl pc lv (.int y :: .int x :: st) := fun H locs ls hl hz hP hS => lv_icmp_ge X.1.1 X.1.2.1 hd ht (fun _ => K H locs ls hl hz hP hS) (fun q => absurd hx q)
theorem a_geF (X : CxA p s m args meth c cc nL own D cy h0 b0 n0) {x y : Int32} (hx : ¬ y ≤ x) {off : Int} (tgt : Nat) (ht : (pc : Int) + off = (tgt : Int)) (hd : decode cc pc = .ok (.if_icmp .ge off, 3)) (K : GA p l e R s m args below meth c nL D h0 n0 Q E cs sl (pc + 3) lv st) : GA p l e R s m args below meth c nL D h0 n0 Q E cs sl pc lv (.int y :: .int x :: st) := fun H locs ls hl hz hP hS => lv_icmp_ge X.1.1 X.1.2.1 hd ht (fun q => absurd q hx) (fun _ => K H locs ls hl hz hP hS)
theorem a_obj (X : CxA p s m args meth c cc nL own D cy h0 b0 n0) {a idx : Nat} (hl : Cond.methodLink own idx objectInit ∈ TB) (hR : 1 ≤ R.frames ∧ (st.map fun v => v.category).sum + 12 ≤ R.locals) (hd : decode cc pc = .ok (.invokespecial idx, 3)) (K : GA p l e R s m args below meth c nL D h0 n0 Q E cs sl (pc + 3) lv st) : GA p l e R s m args below meth c nL D h0 n0 Q E cs sl pc lv (.ref a :: st) := fun H locs ls hl0 hz hP hS => W.objInit X.1.1 X.1.2.1 X.1.2.2.2.1 (X.2.1 _ hl) (X.2.1 _ w_oi_i) (X.2.1 _ w_oi_c) rfl (by rw [X.1.2.2.1]; exact hl0.1) rfl hd hR.1 (by show 2 * 0 + _ + 12 ≤ _; omega) (K H locs ls hl0 hz hP hS)
theorem a_new (X : CxA p s m args meth c cc nL own D cy h0 b0 n0) {ci N idx : Nat} {C : String} {T : u_T} {fs : List Value} (hc : vwCl[ci]? = some (C, T, N)) (hin : ∀ w ∈ u_ws C T N, w ∈ TB) (ty : Nat → FieldType) (hty : ∀ k, k < N → parseFieldDescriptor (T k).2.2.1 = some (ty k)) (hcl : Cond.classLink own idx C ∈ TB) (hinst : Cond.instantiable C N ∈ TB) (hini : Cond.initialized C ∈ TB) (hfs : ∀ j, j < N → defaultValue (ty j) = vp_V fs j) (hR : cs + 1 ≤ R.cells ∧ sl + N ≤ R.slots) (hd : decode cc pc = .ok (.new idx, 3)) (K : GA p l e R s m args below meth c nL D h0 n0 Q (upE E (n0 + cs) (.inr (ci, fs))) (cs + 1) (sl + N) (pc + 3) lv (.ref (h0 + (n0 + cs)) :: st)) : GA p l e R s m args below meth c nL D h0 n0 Q E cs sl pc lv st := fun H locs ls hl hz hP hS => W.sz (fun hz2 => by
  have hsz : H.size = h0 + (n0 + cs) := by have := X.2.2.2; omega
  have hK := X.2.2.1.1
  have hKn := hK.1 ci _ hc
  refine W.newcK X.1.1 X.1.2.1 X.1.2.2.2.1 (X.2.1 _ hcl) (X.2.1 _ hinst) (X.2.1 _ hini) rfl hd hR.1 hR.2 hKn.2.1 hsz fun H1 kC hkC e1 z1 o1 => ?_
  refine K H1 locs ls hl (by omega) ?_ ⟨by have := hS.1; omega, fun q h1 h2 => (o1 q (by have := hS.1; omega)).trans (hS.2.1 q h1 h2), hS.2.2⟩
  rw [← Nat.add_assoc n0 cs 1, ← gw_push]
  refine (hP.kept (fun k x hx => o1 x.1 (by have := (hP k x hx).lt; omega))).app (fun k x hx => ?_)
  have hk : k < 1 := (List.getElem?_eq_some_iff.mp hx).1
  rw [show k = 0 by omega] at hx
  cases hx
  exact ⟨_, hc, (u_born ty X.2.1 hin hKn hkC e1 hty).to hfs⟩)
theorem a_newaI (X : CxA p s m args meth c cc nL own D cy h0 b0 n0) {x : Int32} (N : Nat) (harr : Cond.arrayClass .int ∈ TB) (hn : ¬ x < 0) (hN : x.toNatClampNeg = N) (hb : N * componentBytes .int ≤ 536870912) (hR : cs + 1 ≤ R.cells ∧ sl + N ≤ R.slots) (hd : decode cc pc = .ok (.newarray .int, 2)) (K : GA p l e R s m args below meth c nL D h0 n0 Q (upE E (n0 + cs) (.inl (cy 1, N, .inl (fun _ => 0)))) (cs + 1) (sl + N) (pc + 2) lv (.ref (h0 + (n0 + cs)) :: st)) : GA p l e R s m args below meth c nL D h0 n0 Q E cs sl pc lv (.int x :: st) := fun H locs ls hl hz hP hS => W.sz (fun hz2 => by
  have hsz : H.size = h0 + (n0 + cs) := by have := X.2.2.2; omega
  have hK := X.2.2.1.1
  have hRA : s.vm.findClass ("[" ++ (.int : FieldType).toString) = some (cy 1) := (hK.2 1 (cy 1, .int) rfl).2
  refine va_newaK (atype := .int) X.1.1 X.1.2.1 (X.2.1 _ harr) rfl hd rfl hn hN hb hR.1 hR.2 hsz fun H1 cA e1 z1 o1 hAr hNm => ?_
  have hcA : cA = cy 1 := Option.some.inj (hNm.symm.trans hRA)
  subst hcA
  refine K H1 locs ls hl (by omega) ?_ ⟨by have := hS.1; omega, fun q h1 h2 => (o1 q (by have := hS.1; omega)).trans (hS.2.1 q h1 h2), hS.2.2⟩
  rw [← Nat.add_assoc n0 cs 1, ← gw_push]
  refine (hP.kept (fun k x hx => o1 x.1 (by have := (hP k x hx).lt; omega))).app (fun k x hx => ?_)
  have hk : k < 1 := (List.getElem?_eq_some_iff.mp hx).1
  rw [show k = 0 by omega] at hx
  cases hx
  exact e1)
theorem a_newaJ (X : CxA p s m args meth c cc nL own D cy h0 b0 n0) {x : Int32} (N : Nat) (harr : Cond.arrayClass .long ∈ TB) (hn : ¬ x < 0) (hN : x.toNatClampNeg = N) (hb : N * componentBytes .long ≤ 536870912) (hR : cs + 1 ≤ R.cells ∧ sl + N ≤ R.slots) (hd : decode cc pc = .ok (.newarray .long, 2)) (K : GA p l e R s m args below meth c nL D h0 n0 Q (upE E (n0 + cs) (.inl (cy 2, N, .inr (.inl (fun _ => 0))))) (cs + 1) (sl + N) (pc + 2) lv (.ref (h0 + (n0 + cs)) :: st)) : GA p l e R s m args below meth c nL D h0 n0 Q E cs sl pc lv (.int x :: st) := fun H locs ls hl hz hP hS => W.sz (fun hz2 => by
  have hsz : H.size = h0 + (n0 + cs) := by have := X.2.2.2; omega
  have hK := X.2.2.1.1
  have hRA : s.vm.findClass ("[" ++ (.long : FieldType).toString) = some (cy 2) := (hK.2 2 (cy 2, .long) rfl).2
  refine va_newaK (atype := .long) X.1.1 X.1.2.1 (X.2.1 _ harr) rfl hd rfl hn hN hb hR.1 hR.2 hsz fun H1 cA e1 z1 o1 hAr hNm => ?_
  have hcA : cA = cy 2 := Option.some.inj (hNm.symm.trans hRA)
  subst hcA
  refine K H1 locs ls hl (by omega) ?_ ⟨by have := hS.1; omega, fun q h1 h2 => (o1 q (by have := hS.1; omega)).trans (hS.2.1 q h1 h2), hS.2.2⟩
  rw [← Nat.add_assoc n0 cs 1, ← gw_push]
  refine (hP.kept (fun k x hx => o1 x.1 (by have := (hP k x hx).lt; omega))).app (fun k x hx => ?_)
  have hk : k < 1 := (List.getElem?_eq_some_iff.mp hx).1
  rw [show k = 0 by omega] at hx
  cases hx
  exact e1)
theorem a_newaB (X : CxA p s m args meth c cc nL own D cy h0 b0 n0) {x : Int32} (N : Nat) (harr : Cond.arrayClass .byte ∈ TB) (hn : ¬ x < 0) (hN : x.toNatClampNeg = N) (hb : N * componentBytes .byte ≤ 536870912) (hR : cs + 1 ≤ R.cells ∧ sl + N ≤ R.slots) (hd : decode cc pc = .ok (.newarray .byte, 2)) (K : GA p l e R s m args below meth c nL D h0 n0 Q (upE E (n0 + cs) (.inl (cy 0, N, .inl (fun _ => 0)))) (cs + 1) (sl + N) (pc + 2) lv (.ref (h0 + (n0 + cs)) :: st)) : GA p l e R s m args below meth c nL D h0 n0 Q E cs sl pc lv (.int x :: st) := fun H locs ls hl hz hP hS => W.sz (fun hz2 => by
  have hsz : H.size = h0 + (n0 + cs) := by have := X.2.2.2; omega
  have hK := X.2.2.1.1
  have hRA : s.vm.findClass ("[" ++ (.byte : FieldType).toString) = some (cy 0) := (hK.2 0 (cy 0, .byte) rfl).2
  refine va_newaK (atype := .byte) X.1.1 X.1.2.1 (X.2.1 _ harr) rfl hd rfl hn hN hb hR.1 hR.2 hsz fun H1 cA e1 z1 o1 hAr hNm => ?_
  have hcA : cA = cy 0 := Option.some.inj (hNm.symm.trans hRA)
  subst hcA
  refine K H1 locs ls hl (by omega) ?_ ⟨by have := hS.1; omega, fun q h1 h2 => (o1 q (by have := hS.1; omega)).trans (hS.2.1 q h1 h2), hS.2.2⟩
  rw [← Nat.add_assoc n0 cs 1, ← gw_push]
  refine (hP.kept (fun k x hx => o1 x.1 (by have := (hP k x hx).lt; omega))).app (fun k x hx => ?_)
  have hk : k < 1 := (List.getElem?_eq_some_iff.mp hx).1
  rw [show k = 0 by omega] at hx
  cases hx
  exact e1)
theorem a_newaZ (X : CxA p s m args meth c cc nL own D cy h0 b0 n0) {x : Int32} (N : Nat) (harr : Cond.arrayClass .boolean ∈ TB) (hn : ¬ x < 0) (hN : x.toNatClampNeg = N) (hb : N * componentBytes .boolean ≤ 536870912) (hR : cs + 1 ≤ R.cells ∧ sl + N ≤ R.slots) (hd : decode cc pc = .ok (.newarray .boolean, 2)) (K : GA p l e R s m args below meth c nL D h0 n0 Q (upE E (n0 + cs) (.inl (cy 3, N, .inl (fun _ => 0)))) (cs + 1) (sl + N) (pc + 2) lv (.ref (h0 + (n0 + cs)) :: st)) : GA p l e R s m args below meth c nL D h0 n0 Q E cs sl pc lv (.int x :: st) := fun H locs ls hl hz hP hS => W.sz (fun hz2 => by
  have hsz : H.size = h0 + (n0 + cs) := by have := X.2.2.2; omega
  have hK := X.2.2.1.1
  have hRA : s.vm.findClass ("[" ++ (.boolean : FieldType).toString) = some (cy 3) := (hK.2 3 (cy 3, .boolean) rfl).2
  refine va_newaK (atype := .boolean) X.1.1 X.1.2.1 (X.2.1 _ harr) rfl hd rfl hn hN hb hR.1 hR.2 hsz fun H1 cA e1 z1 o1 hAr hNm => ?_
  have hcA : cA = cy 3 := Option.some.inj (hNm.symm.trans hRA)
  subst hcA
  refine K H1 locs ls hl (by omega) ?_ ⟨by have := hS.1; omega, fun q h1 h2 => (o1 q (by have := hS.1; omega)).trans (hS.2.1 q h1 h2), hS.2.2⟩
  rw [← Nat.add_assoc n0 cs 1, ← gw_push]
  refine (hP.kept (fun k x hx => o1 x.1 (by have := (hP k x hx).lt; omega))).app (fun k x hx => ?_)
  have hk : k < 1 := (List.getElem?_eq_some_iff.mp hx).1
  rw [show k = 0 by omega] at hx
  cases hx
  exact e1)
theorem a_newq0 (X : CxA p s m args meth c cc nL own D cy h0 b0 n0) {x : Int32} {idx : Nat} (N : Nat) (hcl : Cond.classLink own idx RX0 ∈ TB) (hn : ¬ x < 0) (hN : x.toNatClampNeg = N) (hb : N * 4 ≤ 536870912) (hR : cs + 1 ≤ R.cells ∧ sl + N ≤ R.slots) (hd : decode cc pc = .ok (.anewarray idx, 3)) (K : GA p l e R s m args below meth c nL D h0 n0 Q (upE E (n0 + cs) (.inl (cy 4, N, .inr (.inr (.inr (.inr (fun _ => none))))))) (cs + 1) (sl + N) (pc + 3) lv (.ref (h0 + (n0 + cs)) :: st)) : GA p l e R s m args below meth c nL D h0 n0 Q E cs sl pc lv (.int x :: st) := fun H locs ls hl hz hP hS => W.sz (fun hz2 => by
  have hsz : H.size = h0 + (n0 + cs) := by have := X.2.2.2; omega
  have hK := X.2.2.1.1
  obtain ⟨kB, compB, -, -, -, hRA⟩ := (hK.2 4 (cy 4, .object RX0) rfl).2
  subst hN
  refine W.anew X.1.1 X.1.2.1 X.1.2.2.2.1 (X.2.1 _ hcl) (va_AO.use X.2.2.1.2.2.1) rfl hd rfl hn hb hR.1 hR.2 fun cA kA comp f1 f2 f3 f4 => ?_
  have hcA : cA = cy 4 := Option.some.inj (f1.symm.trans hRA)
  subst hcA
  generalize hH1 : H.push ({ cls := cy 4, slots := Array.replicate x.toNatClampNeg .null, vm := .none } : Cell) = H1
  have z1 : H1.size = H.size + 1 := by rw [← hH1, Array.size_push]
  have e1 : H1[H.size]? = some (arrV (cy 4) x.toNatClampNeg (fun _ => .null)) := by rw [← hH1, Array.getElem?_push_size, ← arrV_new]
  have o1 : ∀ q : Nat, q < H.size → H1[q]? = H[q]? := fun q hq => by rw [← hH1, Array.getElem?_push, if_neg (Nat.ne_of_lt hq)]
  have K1 := K H1 locs ls hl (by omega) (by
    rw [← Nat.add_assoc n0 cs 1, ← gw_push]
    refine (hP.kept (fun k x hx => o1 x.1 (by have := (hP k x hx).lt; omega))).app (fun k x hx => ?_)
    have hk : k < 1 := (List.getElem?_eq_some_iff.mp hx).1
    rw [show k = 0 by omega] at hx
    cases hx
    rw [hsz] at e1
    exact e1) ⟨by have := hS.1; omega, fun q h1 h2 => (o1 q (by have := hS.1; omega)).trans (hS.2.1 q h1 h2), hS.2.2⟩
  rw [hsz]
  exact K1)
theorem a_newq2 (X : CxA p s m args meth c cc nL own D cy h0 b0 n0) {x : Int32} {idx : Nat} (N : Nat) (hcl : Cond.classLink own idx RX2 ∈ TB) (hn : ¬ x < 0) (hN : x.toNatClampNeg = N) (hb : N * 4 ≤ 536870912) (hR : cs + 1 ≤ R.cells ∧ sl + N ≤ R.slots) (hd : decode cc pc = .ok (.anewarray idx, 3)) (K : GA p l e R s m args below meth c nL D h0 n0 Q (upE E (n0 + cs) (.inl (cy 5, N, .inr (.inr (.inr (.inr (fun _ => none))))))) (cs + 1) (sl + N) (pc + 3) lv (.ref (h0 + (n0 + cs)) :: st)) : GA p l e R s m args below meth c nL D h0 n0 Q E cs sl pc lv (.int x :: st) := fun H locs ls hl hz hP hS => W.sz (fun hz2 => by
  have hsz : H.size = h0 + (n0 + cs) := by have := X.2.2.2; omega
  have hK := X.2.2.1.1
  obtain ⟨kB, compB, -, -, -, hRA⟩ := (hK.2 5 (cy 5, .object RX2) rfl).2
  subst hN
  refine W.anew X.1.1 X.1.2.1 X.1.2.2.2.1 (X.2.1 _ hcl) (va_AO.use X.2.2.1.2.2.2.1) rfl hd rfl hn hb hR.1 hR.2 fun cA kA comp f1 f2 f3 f4 => ?_
  have hcA : cA = cy 5 := Option.some.inj (f1.symm.trans hRA)
  subst hcA
  generalize hH1 : H.push ({ cls := cy 5, slots := Array.replicate x.toNatClampNeg .null, vm := .none } : Cell) = H1
  have z1 : H1.size = H.size + 1 := by rw [← hH1, Array.size_push]
  have e1 : H1[H.size]? = some (arrV (cy 5) x.toNatClampNeg (fun _ => .null)) := by rw [← hH1, Array.getElem?_push_size, ← arrV_new]
  have o1 : ∀ q : Nat, q < H.size → H1[q]? = H[q]? := fun q hq => by rw [← hH1, Array.getElem?_push, if_neg (Nat.ne_of_lt hq)]
  have K1 := K H1 locs ls hl (by omega) (by
    rw [← Nat.add_assoc n0 cs 1, ← gw_push]
    refine (hP.kept (fun k x hx => o1 x.1 (by have := (hP k x hx).lt; omega))).app (fun k x hx => ?_)
    have hk : k < 1 := (List.getElem?_eq_some_iff.mp hx).1
    rw [show k = 0 by omega] at hx
    cases hx
    rw [hsz] at e1
    exact e1) ⟨by have := hS.1; omega, fun q h1 h2 => (o1 q (by have := hS.1; omega)).trans (hS.2.1 q h1 h2), hS.2.2⟩
  rw [hsz]
  exact K1)
theorem a_newq3 (X : CxA p s m args meth c cc nL own D cy h0 b0 n0) {x : Int32} {idx : Nat} (N : Nat) (hcl : Cond.classLink own idx RX3 ∈ TB) (hn : ¬ x < 0) (hN : x.toNatClampNeg = N) (hb : N * 4 ≤ 536870912) (hR : cs + 1 ≤ R.cells ∧ sl + N ≤ R.slots) (hd : decode cc pc = .ok (.anewarray idx, 3)) (K : GA p l e R s m args below meth c nL D h0 n0 Q (upE E (n0 + cs) (.inl (cy 6, N, .inr (.inr (.inr (.inr (fun _ => none))))))) (cs + 1) (sl + N) (pc + 3) lv (.ref (h0 + (n0 + cs)) :: st)) : GA p l e R s m args below meth c nL D h0 n0 Q E cs sl pc lv (.int x :: st) := fun H locs ls hl hz hP hS => W.sz (fun hz2 => by
  have hsz : H.size = h0 + (n0 + cs) := by have := X.2.2.2; omega
  have hK := X.2.2.1.1
  obtain ⟨kB, compB, -, -, -, hRA⟩ := (hK.2 6 (cy 6, .object RX3) rfl).2
  subst hN
  refine W.anew X.1.1 X.1.2.1 X.1.2.2.2.1 (X.2.1 _ hcl) (va_AO.use X.2.2.1.2.2.2.2.1) rfl hd rfl hn hb hR.1 hR.2 fun cA kA comp f1 f2 f3 f4 => ?_
  have hcA : cA = cy 6 := Option.some.inj (f1.symm.trans hRA)
  subst hcA
  generalize hH1 : H.push ({ cls := cy 6, slots := Array.replicate x.toNatClampNeg .null, vm := .none } : Cell) = H1
  have z1 : H1.size = H.size + 1 := by rw [← hH1, Array.size_push]
  have e1 : H1[H.size]? = some (arrV (cy 6) x.toNatClampNeg (fun _ => .null)) := by rw [← hH1, Array.getElem?_push_size, ← arrV_new]
  have o1 : ∀ q : Nat, q < H.size → H1[q]? = H[q]? := fun q hq => by rw [← hH1, Array.getElem?_push, if_neg (Nat.ne_of_lt hq)]
  have K1 := K H1 locs ls hl (by omega) (by
    rw [← Nat.add_assoc n0 cs 1, ← gw_push]
    refine (hP.kept (fun k x hx => o1 x.1 (by have := (hP k x hx).lt; omega))).app (fun k x hx => ?_)
    have hk : k < 1 := (List.getElem?_eq_some_iff.mp hx).1
    rw [show k = 0 by omega] at hx
    cases hx
    rw [hsz] at e1
    exact e1) ⟨by have := hS.1; omega, fun q h1 h2 => (o1 q (by have := hS.1; omega)).trans (hS.2.1 q h1 h2), hS.2.2⟩
  rw [hsz]
  exact K1)
theorem a_newq5 (X : CxA p s m args meth c cc nL own D cy h0 b0 n0) {x : Int32} {idx : Nat} (N : Nat) (hcl : Cond.classLink own idx RX5 ∈ TB) (hn : ¬ x < 0) (hN : x.toNatClampNeg = N) (hb : N * 4 ≤ 536870912) (hR : cs + 1 ≤ R.cells ∧ sl + N ≤ R.slots) (hd : decode cc pc = .ok (.anewarray idx, 3)) (K : GA p l e R s m args below meth c nL D h0 n0 Q (upE E (n0 + cs) (.inl (cy 7, N, .inr (.inr (.inr (.inr (fun _ => none))))))) (cs + 1) (sl + N) (pc + 3) lv (.ref (h0 + (n0 + cs)) :: st)) : GA p l e R s m args below meth c nL D h0 n0 Q E cs sl pc lv (.int x :: st) := fun H locs ls hl hz hP hS => W.sz (fun hz2 => by
  have hsz : H.size = h0 + (n0 + cs) := by have := X.2.2.2; omega
  have hK := X.2.2.1.1
  obtain ⟨kB, compB, -, -, -, hRA⟩ := (hK.2 7 (cy 7, .object RX5) rfl).2
  subst hN
  refine W.anew X.1.1 X.1.2.1 X.1.2.2.2.1 (X.2.1 _ hcl) (va_AO.use X.2.2.1.2.2.2.2.2) rfl hd rfl hn hb hR.1 hR.2 fun cA kA comp f1 f2 f3 f4 => ?_
  have hcA : cA = cy 7 := Option.some.inj (f1.symm.trans hRA)
  subst hcA
  generalize hH1 : H.push ({ cls := cy 7, slots := Array.replicate x.toNatClampNeg .null, vm := .none } : Cell) = H1
  have z1 : H1.size = H.size + 1 := by rw [← hH1, Array.size_push]
  have e1 : H1[H.size]? = some (arrV (cy 7) x.toNatClampNeg (fun _ => .null)) := by rw [← hH1, Array.getElem?_push_size, ← arrV_new]
  have o1 : ∀ q : Nat, q < H.size → H1[q]? = H[q]? := fun q hq => by rw [← hH1, Array.getElem?_push, if_neg (Nat.ne_of_lt hq)]
  have K1 := K H1 locs ls hl (by omega) (by
    rw [← Nat.add_assoc n0 cs 1, ← gw_push]
    refine (hP.kept (fun k x hx => o1 x.1 (by have := (hP k x hx).lt; omega))).app (fun k x hx => ?_)
    have hk : k < 1 := (List.getElem?_eq_some_iff.mp hx).1
    rw [show k = 0 by omega] at hx
    cases hx
    rw [hsz] at e1
    exact e1) ⟨by have := hS.1; omega, fun q h1 h2 => (o1 q (by have := hS.1; omega)).trans (hS.2.1 q h1 h2), hS.2.2⟩
  rw [hsz]
  exact K1)
theorem a_put (X : CxA p s m args meth c cc nL own D cy h0 b0 n0) {ci i N idx o : Nat} {C : String} {T : u_T} {fs : List Value} {v : Value} {ty : FieldType} (ho : o < n0 + cs) (he : E o = .inr (ci, fs)) (hc : vwCl[ci]? = some (C, T, N)) (hin : ∀ w ∈ u_ws C T N, w ∈ TB) (ty0 : Nat → FieldType) (hty : ∀ k, k < N → parseFieldDescriptor (T k).2.2.1 = some (ty0 k)) (hnm : ∀ a, a < N → ∀ b, b < N → a ≠ b → (T a).2.1 ≠ (T b).2.1) (hi : i < N) (hT : (T i).1 = C) (hfin : (T i).2.2.2 = false) (hty1 : parseFieldDescriptor (T i).2.2.1 = some ty) (hn : narrow ty v = v) (hfit : fits ty v = true) (hlen : i < fs.length) (hl : Cond.fieldLink own idx C (T i).2.1 (T i).2.2.1 ∈ TB) (hd : decode cc pc = .ok (.putfield idx, 3)) (K : GA p l e R s m args below meth c nL D h0 n0 Q (upE E o (.inr (ci, fs.set i v))) cs sl (pc + 3) lv st) : GA p l e R s m args below meth c nL D h0 n0 Q E cs sl pc lv (v :: .ref (h0 + o) :: st) := fun H locs ls hl0 hz hP hS => by
  refine va_put (ws := gw h0 (n0 + cs) E) (fs := fs) (ref := C) (C := C) (T := T) (N := N) (ty := ty) X.1.1 X.1.2.1 X.2.1 hin ty0 hty hnm X.1.2.2.2.1 X.2.2.1.1 hP gw_D hS.here o (by rw [gw_get ho, he]) hc i hi (X.2.1 _ hl) (by rw [hT]; exact fun _ h => h) hfin hty1 hn hfit hlen hd (fun H1 locs1 hP1 hD1 hS1 => K H1 locs1 ls hl0 (Nat.le_trans hz hS1.1) ?_ (hS.tr hS1))
  rw [gw_set] at hP1
  exact hP1
theorem a_putF (X : CxA p s m args meth c cc nL own D cy h0 b0 n0) {ci i N idx o : Nat} {C : String} {T : u_T} {fs : List Value} {v : Value} {ty : FieldType} (ho : o < n0 + cs) (he : E o = .inr (ci, fs)) (hc : vwCl[ci]? = some (C, T, N)) (hin : ∀ w ∈ u_ws C T N, w ∈ TB) (ty0 : Nat → FieldType) (hty : ∀ k, k < N → parseFieldDescriptor (T k).2.2.1 = some (ty0 k)) (hnm : ∀ a, a < N → ∀ b, b < N → a ≠ b → (T a).2.1 ≠ (T b).2.1) (hi : i < N) (hT : (T i).1 = C) (hfin : (T i).2.2.2 = true) (hin2 : meth.name = "<init>") (hdecl : C = own) (hty1 : parseFieldDescriptor (T i).2.2.1 = some ty) (hn : narrow ty v = v) (hfit : fits ty v = true) (hlen : i < fs.length) (hl : Cond.fieldLink own idx C (T i).2.1 (T i).2.2.1 ∈ TB) (hd : decode cc pc = .ok (.putfield idx, 3)) (K : GA p l e R s m args below meth c nL D h0 n0 Q (upE E o (.inr (ci, fs.set i v))) cs sl (pc + 3) lv st) : GA p l e R s m args below meth c nL D h0 n0 Q E cs sl pc lv (v :: .ref (h0 + o) :: st) := fun H locs ls hl0 hz hP hS => by
  refine va_putF (ws := gw h0 (n0 + cs) E) (fs := fs) (ref := C) (C := C) (T := T) (N := N) (ty := ty) X.1.1 X.1.2.1 X.2.1 hin ty0 hty hnm X.1.2.2.2.1 X.2.2.1.1 hP gw_D hS.here o (by rw [gw_get ho, he]) hc i hi (X.2.1 _ hl) (by rw [hT]; exact fun _ h => h) hfin hin2 (hT.trans hdecl) hty1 hn hfit hlen hd (fun H1 locs1 hP1 hD1 hS1 => K H1 locs1 ls hl0 (Nat.le_trans hz hS1.1) ?_ (hS.tr hS1))
  rw [gw_set] at hP1
  exact hP1
theorem a_get (X : CxA p s m args meth c cc nL own D cy h0 b0 n0) {ci i N idx o : Nat} {C : String} {T : u_T} {fs : List Value} {v : Value} (ho : o < n0 + cs) (he : E o = .inr (ci, fs)) (hc : vwCl[ci]? = some (C, T, N)) (hin : ∀ w ∈ u_ws C T N, w ∈ TB) (hi : i < N) (hT : (T i).1 = C) (hl : Cond.fieldLink own idx C (T i).2.1 (T i).2.2.1 ∈ TB) (hv : fs[i]? = some v) (hd : decode cc pc = .ok (.getfield idx, 3)) (K : GA p l e R s m args below meth c nL D h0 n0 Q E cs sl (pc + 3) lv (v :: st)) : GA p l e R s m args below meth c nL D h0 n0 Q E cs sl pc lv (.ref (h0 + o) :: st) := fun H locs ls hl0 hz hP hS => va_get (ws := gw h0 (n0 + cs) E) (fs := fs) (ref := C) (C := C) (T := T) (N := N) X.1.1 X.1.2.1 X.2.1 hin X.1.2.2.2.1 X.2.2.1.1 hP o (by rw [gw_get ho, he]) hc i hi (X.2.1 _ hl) (by rw [hT]; exact fun _ h => h) hv hd (K H locs ls hl0 hz hP hS)
theorem a_iast (X : CxA p s m args meth c cc nL own D cy h0 b0 n0) {o n : Nat} {f : Nat → Int32} {i x : Int32} (ho : o < n0 + cs) (he : E o = .inl (cy 1, n, .inl f)) (hin : vp_in i n) (hd : decode cc pc = .ok (.iastore, 1)) (K : GA p l e R s m args below meth c nL D h0 n0 Q (upE E o (.inl (cy 1, n, .inl (upd f i.toNatClampNeg x)))) cs sl (pc + 1) lv st) : GA p l e R s m args below meth c nL D h0 n0 Q E cs sl pc lv (.int x :: .int i :: .ref (h0 + o) :: st) := fun H locs ls hl0 hz hP hS => by
  refine va_iast (ws := gw h0 (n0 + cs) E) X.1.1 X.1.2.1 X.2.2.1.1 hP gw_D hS.here o 1 (by rw [gw_get ho, he]) rfl hin hd (fun H1 locs1 hP1 hD1 hS1 => K H1 locs1 ls hl0 (Nat.le_trans hz hS1.1) ?_ (hS.tr hS1))
  rw [gw_set] at hP1
  exact hP1
theorem a_aast0 (X : CxA p s m args meth c cc nL own D cy h0 b0 n0) {o k n : Nat} {f : Nat → Option Nat} {vs : List Value} {i : Int32} (ho : o < n0 + cs) (hk : k < n0 + cs) (he : E o = .inl (cy 4, n, .inr (.inr (.inr (.inr f))))) (hv : E k = .inr (0, vs)) (hin : vp_in i n) (hd : decode cc pc = .ok (.aastore, 1)) (K : GA p l e R s m args below meth c nL D h0 n0 Q (upE E o (.inl (cy 4, n, .inr (.inr (.inr (.inr (va_up f i.toNatClampNeg (some (h0 + k))))))))) cs sl (pc + 1) lv st) : GA p l e R s m args below meth c nL D h0 n0 Q E cs sl pc lv (.ref (h0 + k) :: .int i :: .ref (h0 + o) :: st) := fun H locs ls hl0 hz hP hS => by
  refine va_astq (ws := gw h0 (n0 + cs) E) X.1.1 X.1.2.1 X.2.2.1.1 hP gw_D hS.here o 4 k 0 (by rw [gw_get ho, he]) rfl (by rw [gw_get hk, hv]) (r := (RX0, TX0, _)) rfl hin hd (fun H1 locs1 hP1 hD1 hS1 => K H1 locs1 ls hl0 (Nat.le_trans hz hS1.1) ?_ (hS.tr hS1))
  rw [gw_set] at hP1
  exact hP1
theorem a_aast2 (X : CxA p s m args meth c cc nL own D cy h0 b0 n0) {o k n : Nat} {f : Nat → Option Nat} {vs : List Value} {i : Int32} (ho : o < n0 + cs) (hk : k < n0 + cs) (he : E o = .inl (cy 5, n, .inr (.inr (.inr (.inr f))))) (hv : E k = .inr (2, vs)) (hin : vp_in i n) (hd : decode cc pc = .ok (.aastore, 1)) (K : GA p l e R s m args below meth c nL D h0 n0 Q (upE E o (.inl (cy 5, n, .inr (.inr (.inr (.inr (va_up f i.toNatClampNeg (some (h0 + k))))))))) cs sl (pc + 1) lv st) : GA p l e R s m args below meth c nL D h0 n0 Q E cs sl pc lv (.ref (h0 + k) :: .int i :: .ref (h0 + o) :: st) := fun H locs ls hl0 hz hP hS => by
  refine va_astq (ws := gw h0 (n0 + cs) E) X.1.1 X.1.2.1 X.2.2.1.1 hP gw_D hS.here o 5 k 2 (by rw [gw_get ho, he]) rfl (by rw [gw_get hk, hv]) (r := (RX2, TX2, _)) rfl hin hd (fun H1 locs1 hP1 hD1 hS1 => K H1 locs1 ls hl0 (Nat.le_trans hz hS1.1) ?_ (hS.tr hS1))
  rw [gw_set] at hP1
  exact hP1
theorem a_aast3 (X : CxA p s m args meth c cc nL own D cy h0 b0 n0) {o k n : Nat} {f : Nat → Option Nat} {vs : List Value} {i : Int32} (ho : o < n0 + cs) (hk : k < n0 + cs) (he : E o = .inl (cy 6, n, .inr (.inr (.inr (.inr f))))) (hv : E k = .inr (3, vs)) (hin : vp_in i n) (hd : decode cc pc = .ok (.aastore, 1)) (K : GA p l e R s m args below meth c nL D h0 n0 Q (upE E o (.inl (cy 6, n, .inr (.inr (.inr (.inr (va_up f i.toNatClampNeg (some (h0 + k))))))))) cs sl (pc + 1) lv st) : GA p l e R s m args below meth c nL D h0 n0 Q E cs sl pc lv (.ref (h0 + k) :: .int i :: .ref (h0 + o) :: st) := fun H locs ls hl0 hz hP hS => by
  refine va_astq (ws := gw h0 (n0 + cs) E) X.1.1 X.1.2.1 X.2.2.1.1 hP gw_D hS.here o 6 k 3 (by rw [gw_get ho, he]) rfl (by rw [gw_get hk, hv]) (r := (RX3, TX3, _)) rfl hin hd (fun H1 locs1 hP1 hD1 hS1 => K H1 locs1 ls hl0 (Nat.le_trans hz hS1.1) ?_ (hS.tr hS1))
  rw [gw_set] at hP1
  exact hP1
theorem a_aast5 (X : CxA p s m args meth c cc nL own D cy h0 b0 n0) {o k n : Nat} {f : Nat → Option Nat} {vs : List Value} {i : Int32} (ho : o < n0 + cs) (hk : k < n0 + cs) (he : E o = .inl (cy 7, n, .inr (.inr (.inr (.inr f))))) (hv : E k = .inr (5, vs)) (hin : vp_in i n) (hd : decode cc pc = .ok (.aastore, 1)) (K : GA p l e R s m args below meth c nL D h0 n0 Q (upE E o (.inl (cy 7, n, .inr (.inr (.inr (.inr (va_up f i.toNatClampNeg (some (h0 + k))))))))) cs sl (pc + 1) lv st) : GA p l e R s m args below meth c nL D h0 n0 Q E cs sl pc lv (.ref (h0 + k) :: .int i :: .ref (h0 + o) :: st) := fun H locs ls hl0 hz hP hS => by
  refine va_astq (ws := gw h0 (n0 + cs) E) X.1.1 X.1.2.1 X.2.2.1.1 hP gw_D hS.here o 7 k 5 (by rw [gw_get ho, he]) rfl (by rw [gw_get hk, hv]) (r := (RX5, TX5, _)) rfl hin hd (fun H1 locs1 hP1 hD1 hS1 => K H1 locs1 ls hl0 (Nat.le_trans hz hS1.1) ?_ (hS.tr hS1))
  rw [gw_set] at hP1
  exact hP1
theorem a_gs (X : CxA p s m args meth c cc nL own D cy h0 b0 n0) {idx : Nat} (hl : Cond.fieldLinkNest own idx RX10 "LAW_AT_FIRST" "[I" RX10 ∈ TB) (hd : decode cc pc = .ok (.getstatic idx, 3)) (K : GA p l e R s m args below meth c nL D h0 n0 Q E cs sl (pc + 3) lv (.ref b0 :: st)) : GA p l e R s m args below meth c nL D h0 n0 Q E cs sl pc lv st := fun H locs ls hl0 hz hP hS => va_getsN X.1.1 X.1.2.1 X.2.2.1.2.1.1 hS X.1.2.2.2.1 (X.2.1 _ hl) (fun _ h => h) hd (K H locs ls hl0 hz hP hS)
theorem a_cp (X : CxA p s m args meth c cc nL own D cy h0 b0 n0) {o idx : Nat} {f : Nat → Int32} (ho : o < n0 + cs) (he : E o = .inl (cy 1, 9, .inl f)) (hl : Cond.methodLink own idx arraycopyName ∈ TB) (hR : 1 ≤ R.frames ∧ (st.map fun v => v.category).sum + (nativeFrameWords "java/lang/System" "arraycopy" 5 + 11) ≤ R.locals) (hd : decode cc pc = .ok (.invokestatic idx, 3)) (K : GA p l e R s m args below meth c nL D h0 n0 Q (upE E o (.inl (cy 1, 9, .inl (va_cpy (fun j => sv0.getD j 0) f 0 0 9)))) cs sl (pc + 3) lv st) : GA p l e R s m args below meth c nL D h0 n0 Q E cs sl pc lv (.int 9 :: .int 0 :: .ref (h0 + o) :: .int 0 :: .ref b0 :: st) := fun H locs ls hl0 hz hP hS => by
  obtain ⟨-, z2, z3, z4⟩ := X.2.2.1.2.1
  refine va_copyx (ws := gw h0 (n0 + cs) E) X.1.1 X.1.2.1 (by rw [X.1.2.2.1]; exact hl0.1.symm) X.1.2.2.2.1 (X.2.1 _ hl) (X.2.1 _ w_ac_n) (X.2.1 _ w_ac_s) (X.2.1 _ w_sys) X.2.2.1.1 hP gw_D hS z2 z3 z4 o 1 (by rw [gw_get ho, he]) rfl (by decide) (by decide) (by decide) (by decide) (by decide) hR.1 hR.2 hd (fun H1 locs1 hP1 hD1 hS1 => ?_)
  rw [gw_set] at hP1
  refine K H1 locs1 ls hl0 ?_ hP1 hS1
  have := (hP1 (n0 + cs - 1) _ (gw_get (by omega))).lt
  dsimp only at this
  omega
def RmA (rk mc ms : Nat) : Room := { frames := rk, cells := mc, slots := ms, locals := 64 * rk }
def QA (D : va_G) (h0 n1 : Nat) (E1 : Nat → va_E) : Array Value → State → Outcome → State → Prop := fun _ st oc t => (oc = .returned none ∧ h0 + n1 ≤ t.heap.size ∧ va_P D vwCl (gw h0 n1 E1) t.heap) ∧ va_F (fun q => h0 ≤ q) st t
def PA (D : va_G) (cy : Nat → ClassId) (h0 b0 : Nat) (As : List Value) (n : Nat) (E : Nat → va_E) : Array Value → State → Prop := va_Pc As (fun U => U.heap.size = h0 + n ∧ va_P D vwCl (gw h0 n E) U.heap ∧ EVA D cy h0 b0 U)
theorem PA.blind {D : va_G} {cy : Nat → ClassId} {h0 b0 : Nat} {As : List Value} {n : Nat} {E : Nat → va_E} : FrameBlind (PA D cy h0 b0 As n E) := fun _ _ _ _ q => ⟨q.1, q.2.1, q.2.2.1, q.2.2.2.blind⟩
/-- a contract of one that makes cells -/
def MA (l : Launch) (D : va_G) (cy : Nat → ClassId) (h0 b0 : Nat) (y : MethodName) (cc : ByteArray) (nL rk mc ms : Nat) (As : List Value) (n : Nat) (E E1 : Nat → va_E) : Prop :=
  Met l y (.code y cc nL none :: TB) (RmA rk mc ms) (PA D cy h0 b0 As n E) (QA D h0 (n + mc) E1) mc ms (fun q => h0 ≤ q)
def QMA (D : va_G) (h0 n1 : Nat) (E1 : Nat → va_E) (mc ms : Nat) (below : List Frame) (args : Array Value) (s : State) : State → Prop := MQ below (QA D h0 n1 E1) args s mc ms (fun q => h0 ≤ q)
theorem a_ret (X : CxA p s m args meth c cc nL own D cy h0 b0 n0) {E1 : Nat → va_E} {mc ms : Nat} (hr : meth.sig.returnType = none) (h1 : cs = mc) (h2 : sl = ms) (h3 : E = E1) (hd : decode cc pc = .ok (.return_, 1)) : GA p l e R s m args below meth c nL D h0 n0 (QMA D h0 (n0 + mc) E1 mc ms below args s) E cs sl pc lv [] := fun H locs ls hl hz hP hS => by
  subst h1
  subst h2
  subst h3
  exact W.vret X.1.1 X.1.2.1 hr (fun t ht hW => ⟨⟨rfl, by rw [ht]; exact hz, by rw [ht]; exact hP⟩, hS.F ht⟩) hS.2.2 hd X.1.2.2.2.2
theorem met_ofA {y : MethodName} {rk mc ms n : Nat} {As : List Value} {lv0 : List (Nat × Value)} {E1 : Nat → va_E} (hy : plainName y.cls = true) (hlen : (lg_sl As).length ≤ nL) (hlv : lv_args 0 As = lv0)
    (body : ∀ (p : Program) (e : Env) (s : State) (m : MethodId) (args : Array Value) (below : List Frame) (meth : Method) (c : Code), CxA p s m args meth c cc nL y.cls D cy h0 b0 n → meth.sig.returnType = none → meth.name = y.name → GA p l e (RmA rk mc ms) s m args below meth c nL D h0 n (QMA D h0 (n + mc) E1 mc ms below args s) E 0 0 0 lv0 []) : MA l D cy h0 b0 y cc nL rk mc ms As n E E1 := by
  refine Met.ofW (cc := cc) (maxL := nL) (ret := none) hy rfl ?_
  intro p e s m args below meth c s₁ B hml hv
  obtain ⟨rfl, hsz, hP, hE⟩ := hv
  have hts := atoms_spec (ws := Cond.code y cc nL none :: TB) B.pre
  have X : CxA p s m As.toArray meth c cc nL y.cls D cy h0 b0 n := ⟨⟨B.exec, B.bytes, hml, findClass_of_methodNamed B.named, B.notSynchronized⟩, fun w hw => hts w (List.mem_cons_of_mem _ hw), hE, hsz⟩
  have K := body p e s m As.toArray below meth c X B.returns (name_of_methodNamed B.named B.method).1
  have hl := lv_entry As (n := nL) hlen
  rw [hlv] at hl
  rw [lg_entry_eq]
  exact K s.heap [] _ hl (by omega) hP va_S.rf
/-- what a constructor's words say -/
def CI (y : MethodName) (bytes : ByteArray) (maxL : Nat) : Prop :=
  (Cond.instanceMethod y ∈ TB ∧ Cond.initialized y.cls ∈ TB ∧ Cond.code y bytes maxL none ∈ TB) ∧ (y.cls ≠ "java/lang/invoke/MethodHandle" ∧ y.cls ≠ "java/lang/invoke/VarHandle") ∧ (parseMethodDescriptor y.desc).map (fun d => d.parameters.length) = some 0 ∧ y.name = "<init>"
theorem a_call (X : CxA p s m args meth c cc nL own D cy h0 b0 n0) {y : MethodName} {bytes : ByteArray} {maxL rk mc ms idx o : Nat} {E1 : Nat → va_E} (cw : CI y bytes maxL) (hM : MA l D cy h0 b0 y bytes maxL rk mc ms [.ref (h0 + o)] (n0 + cs) E E1) (hl : Cond.methodLink own idx y ∈ TB) (hR : rk + 1 ≤ R.frames ∧ 8 + (maxL + 11) + 64 * rk ≤ R.locals) (hc : cs + mc ≤ R.cells ∧ sl + ms ≤ R.slots) (hW : (st.map fun v => v.category).sum ≤ 8) (hd : decode cc pc = .ok (.invokespecial idx, 3)) (K : GA p l e R s m args below meth c nL D h0 n0 Q E1 (cs + mc) (sl + ms) (pc + 3) lv st) : GA p l e R s m args below meth c nL D h0 n0 Q E cs sl pc lv (.ref (h0 + o) :: st) := fun H locs ls hl0 hz hP hS => W.sz (fun hz2 => by
  have hsz : H.size = h0 + (n0 + cs) := by have := X.2.2.2; omega
  obtain ⟨⟨w1, w3, w4⟩, ⟨v1, v2⟩, hlen, hy1⟩ := cw
  have run := va_runI (p := p) (e := e) (R := R) (below := below) (meth := meth) (H := H) (locs := locs) (cells := cs) (slots := sl) (b := h0 + o) (g := F0 m pc ls (.ref (h0 + o) :: st)) (As := []) (rest := st) (n := 0) (rm := RmA rk mc ms) ⟨X.1.1, X.1.2.1, X.1.2.2.1, X.1.2.2.2.1, X.2.1⟩ hM ⟨⟨rfl, rfl, hR.1, hR.2, ws_warm X.2.1 w4, List.mem_cons_self, X.2.1 _ w4, X.2.1 _ w3, ⟨v1, v2⟩, len_of hlen, X.2.1 _ hl⟩, hy1, X.2.1 _ w1⟩ ⟨PA.blind, fun U hU hW => ⟨rfl, by rw [hU]; exact hsz, by rw [hU]; exact hP, X.2.2.1.call hS hU hW⟩⟩ rfl rfl hl0.1 rfl (lv_room hW) hd ⟨hc.1, hc.2⟩
  intro T hT XX
  obtain ⟨v, st₀, t, T', Lc, g0, X', hL, e1, e2, ⟨⟨hv, hz1, hp⟩, hzz, hk⟩, stp⟩ := run T hT XX
  cases hv
  rw [g0] at hzz hk
  obtain ⟨t2, a1, b1⟩ := K T'.heap (locs ++ Lc) ls hl0 (by rw [e1]; have := hz1; omega) (by rw [e1, ← Nat.add_assoc]; exact hp) ⟨Nat.le_trans hS.1 (by rw [e1]; exact hzz), fun q h1 h2 => by rw [e1, hk q (Nat.lt_of_lt_of_le h1 hS.1) h2]; exact hS.2.1 q h1 h2, fun q hq => by
      rcases List.mem_append.mp hq with h | h
      · exact hS.2.2 q h
      · exact hL q h⟩ T' rfl X'
  exact ⟨t2, stp t2 a1, b1⟩)
theorem a_callV (X : CxA p s m args meth c cc nL own D cy h0 b0 n0) {y : MethodName} {bytes : ByteArray} {maxL rk mc ms idx o ci N : Nat} {T : u_T} {fs : List Value} {E1 : Nat → va_E} (cw : CW y bytes maxL none 0) (hM : MA l D cy h0 b0 y bytes maxL rk mc ms [.ref (h0 + o)] (n0 + cs) E E1) (ho : o < n0 + cs) (he : E o = .inr (ci, fs)) (hci : vwCl[ci]? = some (y.cls, T, N)) (hl : Cond.methodLink own idx y ∈ TB) (hR : rk + 1 ≤ R.frames ∧ 8 + (maxL + 11) + 64 * rk ≤ R.locals) (hc : cs + mc ≤ R.cells ∧ sl + ms ≤ R.slots) (hW : (st.map fun v => v.category).sum ≤ 8) (hd : decode cc pc = .ok (.invokevirtual idx, 3)) (K : GA p l e R s m args below meth c nL D h0 n0 Q E1 (cs + mc) (sl + ms) (pc + 3) lv st) : GA p l e R s m args below meth c nL D h0 n0 Q E cs sl pc lv (.ref (h0 + o) :: st) := fun H locs ls hl0 hz hP hS => W.sz (fun hz2 => by
  have hsz : H.size = h0 + (n0 + cs) := by have := X.2.2.2; omega
  obtain ⟨⟨w1, w2, w3, w4⟩, ⟨v1, v2⟩, hlen⟩ := cw
  have run := va_runV (p := p) (e := e) (R := R) (below := below) (meth := meth) (H := H) (locs := locs) (cells := cs) (slots := sl) (g := F0 m pc ls (.ref (h0 + o) :: st)) (C := y.cls) (b := h0 + o) (As := []) (rest := st) (n := 0) (rm := RmA rk mc ms) ⟨X.1.1, X.1.2.1, X.1.2.2.1, X.1.2.2.2.1, X.2.1⟩ hM ⟨⟨rfl, rfl, hR.1, hR.2, ws_warm X.2.1 w4, List.mem_cons_self, X.2.1 _ w4, X.2.1 _ w3, ⟨v1, v2⟩, len_of hlen, X.2.1 _ hl⟩, X.2.1 _ w1, X.2.1 _ w2⟩ ⟨PA.blind, va_recv X.2.2.1.1 hP (ci := ci) (q0 := o) hci (by rw [gw_get ho, he]), fun U hU hW => ⟨rfl, by rw [hU]; exact hsz, by rw [hU]; exact hP, X.2.2.1.call hS hU hW⟩⟩ rfl rfl hl0.1 rfl (lv_room hW) hd ⟨hc.1, hc.2⟩
  intro T hT XX
  obtain ⟨v, st₀, t, T', Lc, g0, X', hL, e1, e2, ⟨⟨hv, hz1, hp⟩, hzz, hk⟩, stp⟩ := run T hT XX
  cases hv
  rw [g0] at hzz hk
  obtain ⟨t2, a1, b1⟩ := K T'.heap (locs ++ Lc) ls hl0 (by rw [e1]; have := hz1; omega) (by rw [e1, ← Nat.add_assoc]; exact hp) ⟨Nat.le_trans hS.1 (by rw [e1]; exact hzz), fun q h1 h2 => by rw [e1, hk q (Nat.lt_of_lt_of_le h1 hS.1) h2]; exact hS.2.1 q h1 h2, fun q hq => by
      rcases List.mem_append.mp hq with h | h
      · exact hS.2.2 q h
      · exact hL q h⟩ T' rfl X'
  exact ⟨t2, stp t2 a1, b1⟩)
end GROW
