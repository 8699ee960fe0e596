-- the law's loop
section LAW
variable {p : Program} {l : Launch} {e : Env} {s : State} {m : MethodId} {args : Array Value} {below : List Frame} {meth : Method} {c0 : Code} {D : va_G} {cy : Nat → ClassId} {ad : Nat → Nat} {A : Nat → Prop} {cs sl : Nat} {Q : State → Prop} {b L c : Nat} {xs : Nat → Int32} {pc : Nat} {st : List Value} {M C N : Mem}
def LX (p : Program) (s : State) (m : MethodId) (args : Array Value) (meth : Method) (c0 : Code) (D : va_G) (cy : Nat → ClassId) (ad : Nat → Nat) (A : Nat → Prop) (cs sl b L : Nat) (xs : Nat → Int32) : Prop :=
  (p.tables.exec = Jvm.exec ∧ c0.code = cL_law ∧ c0.maxLocals = 4 ∧ s.vm.findClass RL = some m.cls ∧ meth.locks = false) ∧ (∀ w ∈ TB, w.before args s = true) ∧ EV D cy ad A s ∧ (va_X b L xs s s.heap ∧ b < s.heap.size ∧ ¬ A b ∧ L ≤ 384) ∧ cs ≤ room_1.cells ∧ sl ≤ room_1.slots
theorem LX.cx (X : LX p s m args meth c0 D cy ad A cs sl b L xs) (N : Mem) : Cx p s m args meth c0 cL_law 4 RL D cy ad A (wfC N) sdC := ⟨X.1, X.2.1, X.2.2.1, lC N⟩
theorem LX.cm (X : LX p s m args meth c0 D cy ad A cs sl b L xs) (C : Mem) : Cx p s m args meth c0 cL_law 4 RL D cy ad A (wfM C) sdM := ⟨X.1, X.2.1, X.2.2.1, lM C⟩
/-- the law stands at pc, c calls behind it -/
def LG (p : Program) (l : Launch) (e : Env) (s : State) (m : MethodId) (args : Array Value) (below : List Frame) (meth : Method) (c0 : Code) (D : va_G) (cy : Nat → ClassId) (ad : Nat → Nat) (A : Nat → Prop) (cs sl : Nat) (Q : State → Prop) (b c pc : Nat) (st : List Value) (M : Mem) : Prop :=
  G p l e room_1 s m args below meth c0 4 D cy ad A cs sl Q pc [(0, .ref b), (1, .ref (ad 0)), (2, .ref (ad 138)), (3, .int (nI (6 * c)))] st M
theorem l_a0 (X : LX p s m args meth c0 D cy ad A cs sl b L xs) (hd : decode cL_law pc = .ok (.aload_n 0, 1)) (K : LG p l e s m args below meth c0 D cy ad A cs sl Q b c (pc + 1) (.ref b :: st) M) : LG p l e s m args below meth c0 D cy ad A cs sl Q b c pc st M := fun H locs ls hl hP hS => lv_aload_n X.1.1 X.1.2.1 hd rfl (lv_at hl 0 rfl) (K H locs ls hl hP hS)
theorem l_a1 (X : LX p s m args meth c0 D cy ad A cs sl b L xs) (hd : decode cL_law pc = .ok (.aload_n 1, 1)) (K : LG p l e s m args below meth c0 D cy ad A cs sl Q b c (pc + 1) (.ref (ad 0) :: st) M) : LG p l e s m args below meth c0 D cy ad A cs sl Q b c pc st M := fun H locs ls hl hP hS => lv_aload_n X.1.1 X.1.2.1 hd rfl (lv_at hl 1 rfl) (K H locs ls hl hP hS)
theorem l_a2 (X : LX p s m args meth c0 D cy ad A cs sl b L xs) (hd : decode cL_law pc = .ok (.aload_n 2, 1)) (K : LG p l e s m args below meth c0 D cy ad A cs sl Q b c (pc + 1) (.ref (ad 138) :: st) M) : LG p l e s m args below meth c0 D cy ad A cs sl Q b c pc st M := fun H locs ls hl hP hS => lv_aload_n X.1.1 X.1.2.1 hd rfl (lv_at hl 2 rfl) (K H locs ls hl hP hS)
theorem l_i3 (X : LX p s m args meth c0 D cy ad A cs sl b L xs) (hd : decode cL_law pc = .ok (.iload_n 3, 1)) (K : LG p l e s m args below meth c0 D cy ad A cs sl Q b c (pc + 1) (.int (nI (6 * c)) :: st) M) : LG p l e s m args below meth c0 D cy ad A cs sl Q b c pc st M := fun H locs ls hl hP hS => lv_iload_n X.1.1 X.1.2.1 hd rfl (lv_at hl 3 rfl) (K H locs ls hl hP hS)
theorem l_ic (X : LX p s m args meth c0 D cy ad A cs sl b L xs) {n : Int} {v : Int32} (hv : Int32.ofInt n = v) (hd : decode cL_law pc = .ok (.iconst n, 1)) (K : LG p l e s m args below meth c0 D cy ad A cs sl Q b c (pc + 1) (.int v :: st) M) : LG p l e s m args below meth c0 D cy ad A cs sl Q b c pc st M := fun H locs ls hl hP hS => lv_iconst X.1.1 X.1.2.1 hd hv (K H locs ls hl hP hS)
theorem l_bi (X : LX p s m args meth c0 D cy ad A cs sl b L xs) {n : Int} {v : Int32} (hv : (Int8.ofInt n).toInt32 = v) (hd : decode cL_law pc = .ok (.bipush n, 2)) (K : LG p l e s m args below meth c0 D cy ad A cs sl Q b c (pc + 2) (.int v :: st) M) : LG p l e s m args below meth c0 D cy ad A cs sl Q b c pc st M := fun H locs ls hl hP hS => lv_bipush X.1.1 X.1.2.1 hd hv (K H locs ls hl hP hS)
theorem l_iadd (X : LX p s m args meth c0 D cy ad A cs sl b L xs) {x y : Int32} (hd : decode cL_law pc = .ok (.iadd, 1)) (K : LG p l e s m args below meth c0 D cy ad A cs sl Q b c (pc + 1) (.int (x + y) :: st) M) : LG p l e s m args below meth c0 D cy ad A cs sl Q b c pc (.int y :: .int x :: st) M := fun H locs ls hl hP hS => lv_iadd X.1.1 X.1.2.1 hd (K H locs ls hl hP hS)
theorem l_sub (X : LX p s m args meth c0 D cy ad A cs sl b L xs) {x y : Int32} (hd : decode cL_law pc = .ok (.isub, 1)) (K : LG p l e s m args below meth c0 D cy ad A cs sl Q b c (pc + 1) (.int (x - y) :: st) M) : LG p l e s m args below meth c0 D cy ad A cs sl Q b c pc (.int y :: .int x :: st) M := fun H locs ls hl hP hS => lv_isub X.1.1 X.1.2.1 hd (K H locs ls hl hP hS)
theorem l_and (X : LX p s m args meth c0 D cy ad A cs sl b L xs) {x y : Int32} (hd : decode cL_law pc = .ok (.iand, 1)) (K : LG p l e s m args below meth c0 D cy ad A cs sl Q b c (pc + 1) (.int (x &&& y) :: st) M) : LG p l e s m args below meth c0 D cy ad A cs sl Q b c pc (.int y :: .int x :: st) M := fun H locs ls hl hP hS => lv_iand X.1.1 X.1.2.1 hd (K H locs ls hl hP hS)
theorem l_i2l (X : LX p s m args meth c0 D cy ad A cs sl b L xs) {x : Int32} (hd : decode cL_law pc = .ok (.i2l, 1)) (K : LG p l e s m args below meth c0 D cy ad A cs sl Q b c (pc + 1) (.long x.toInt64 :: st) M) : LG p l e s m args below meth c0 D cy ad A cs sl Q b c pc (.int x :: st) M := fun H locs ls hl hP hS => lv_i2l X.1.1 X.1.2.1 hd rfl (K H locs ls hl hP hS)
theorem l_lshl (X : LX p s m args meth c0 D cy ad A cs sl b L xs) {x : Int64} {y : Int32} (hd : decode cL_law pc = .ok (.lshl, 1)) (K : LG p l e s m args below meth c0 D cy ad A cs sl Q b c (pc + 1) (.long (x <<< (y.toInt64 &&& 63)) :: st) M) : LG p l e s m args below meth c0 D cy ad A cs sl Q b c pc (.int y :: .long x :: st) M := fun H locs ls hl hP hS => lv_lshl X.1.1 X.1.2.1 hd rfl (K H locs ls hl hP hS)
theorem l_ldc2 (X : LX p s m args meth c0 D cy ad A cs sl b L xs) {n : Nat} {v : Int64} (hw : Cond.constantLong RL n v ∈ TB) (hd : decode cL_law pc = .ok (.ldc2_w n, 3)) (K : LG p l e s m args below meth c0 D cy ad A cs sl Q b c (pc + 3) (.long v :: st) M) : LG p l e s m args below meth c0 D cy ad A cs sl Q b c pc st M := fun H locs ls hl hP hS => lv_ldc2 X.1.1 X.1.2.1 X.1.2.2.2.1 (X.2.1 _ hw) hd (K H locs ls hl hP hS)
theorem l_land (X : LX p s m args meth c0 D cy ad A cs sl b L xs) {x y : Int64} (hd : decode cL_law pc = .ok (.land, 1)) (K : LG p l e s m args below meth c0 D cy ad A cs sl Q b c (pc + 1) (.long (x &&& y) :: st) M) : LG p l e s m args below meth c0 D cy ad A cs sl Q b c pc (.long y :: .long x :: st) M := fun H locs ls hl hP hS => lv_land X.1.1 X.1.2.1 hd (K H locs ls hl hP hS)
theorem l_lor (X : LX p s m args meth c0 D cy ad A cs sl b L xs) {x y : Int64} (hd : decode cL_law pc = .ok (.lor, 1)) (K : LG p l e s m args below meth c0 D cy ad A cs sl Q b c (pc + 1) (.long (x ||| y) :: st) M) : LG p l e s m args below meth c0 D cy ad A cs sl Q b c pc (.long y :: .long x :: st) M := fun H locs ls hl hP hS => lv_lor X.1.1 X.1.2.1 hd (K H locs ls hl hP hS)
theorem l_goto (X : LX p s m args meth c0 D cy ad A cs sl b L xs) {off : Int} (tgt : Nat) (ht : (pc : Int) + off = (tgt : Int)) (hd : decode cL_law pc = .ok (.goto off, 3)) (K : LG p l e s m args below meth c0 D cy ad A cs sl Q b c tgt st M) : LG p l e s m args below meth c0 D cy ad A cs sl Q b c pc st M := fun H locs ls hl hP hS => lv_goto X.1.1 X.1.2.1 hd ht (K H locs ls hl hP hS)
theorem l_ifT (X : LX p s m args meth c0 D cy ad A cs sl b L xs) {x : Int32} (hx : x = 0) {off : Int} (tgt : Nat) (ht : (pc : Int) + off = (tgt : Int)) (hd : decode cL_law pc = .ok (.ifCond .eq off, 3)) (K : LG p l e s m args below meth c0 D cy ad A cs sl Q b c tgt st M) : LG p l e s m args below meth c0 D cy ad A cs sl Q b c pc (.int x :: st) M := fun H locs ls hl hP hS => lv_if_eq X.1.1 X.1.2.1 hd ht (fun _ => K H locs ls hl hP hS) (fun q => absurd hx q)
theorem l_ifF (X : LX p s m args meth c0 D cy ad A cs sl b L xs) {x : Int32} (hx : ¬ x = 0) {off : Int} (tgt : Nat) (ht : (pc : Int) + off = (tgt : Int)) (hd : decode cL_law pc = .ok (.ifCond .eq off, 3)) (K : LG p l e s m args below meth c0 D cy ad A cs sl Q b c (pc + 3) st M) : LG p l e s m args below meth c0 D cy ad A cs sl Q b c pc (.int x :: st) M := fun H locs ls hl hP hS => lv_if_eq X.1.1 X.1.2.1 hd ht (fun q => absurd q hx) (fun _ => K H locs ls hl hP hS)
theorem l_eq (X : LX p s m args meth c0 D cy ad A cs sl b L xs) {x : Int32} {off : Int} (tgt : Nat) (ht : (pc : Int) + off = (tgt : Int)) (hd : decode cL_law pc = .ok (.if_icmp .eq off, 3)) (K : LG p l e s m args below meth c0 D cy ad A cs sl Q b c tgt st M) : LG p l e s m args below meth c0 D cy ad A cs sl Q b c pc (.int x :: .int x :: st) M := fun H locs ls hl hP hS => lv_icmp_eq X.1.1 X.1.2.1 hd ht (fun _ => K H locs ls hl hP hS) (fun q => absurd rfl q)
theorem l_lcmp (X : LX p s m args meth c0 D cy ad A cs sl b L xs) {x y : Int64} (hd : decode cL_law pc = .ok (.lcmp, 1)) (K : LG p l e s m args below meth c0 D cy ad A cs sl Q b c (pc + 1) (.int (lg_cmp x y) :: st) M) : LG p l e s m args below meth c0 D cy ad A cs sl Q b c pc (.long y :: .long x :: st) M := fun H locs ls hl hP hS => W.lcmp X.1.1 X.1.2.1 hd (K H locs ls hl hP hS)
theorem lgc_0 (x : Int64) : lg_cmp x x = 0 := by
  have h1 : lg_cmp x x ≤ 0 := lgc_l.mpr (Int.le_refl _)
  have h2 : ¬ lg_cmp x x < 0 := fun q => by have := lgc_n.mp q; omega
  rw [t_le, li_0] at h1
  rw [t_lt, li_0] at h2
  rw [t_eq, li_0]
  omega
/-- an int of the script -/
theorem l_ld (X : LX p s m args meth c0 D cy ad A cs sl b L xs) (hi : 6 * c + 6 ≤ L) {j : Nat} (hj : j < 6) (hd : decode cL_law pc = .ok (.iaload, 1)) (K : LG p l e s m args below meth c0 D cy ad A cs sl Q b c (pc + 1) (.int (xs (6 * c + j)) :: st) M) : LG p l e s m args below meth c0 D cy ad A cs sl Q b c pc (.int (nI (6 * c + j)) :: .ref b :: st) M := fun H locs ls hl hP hS => by
  obtain ⟨x1, x2, x3, x4⟩ := X.2.2.2.1
  have ti := t_nI (show 6 * c + j < 2147483648 by omega)
  refine va_sld X.1.1 X.1.2.1 x1 x2 x3 hS (i := nI (6 * c + j)) (vp_in_iff.mpr ⟨by omega, by omega⟩) hd ?_
  have e1 : (nI (6 * c + j)).toNatClampNeg = 6 * c + j := ix_nI (by omega)
  rw [e1]
  exact K H locs ls hl hP hS
theorem l_arg (X : LX p s m args meth c0 D cy ad A cs sl b L xs) (hi : 6 * c + 6 ≤ L) (j : Nat) (hj : j < 6) {jn : Int} (hv : Int32.ofInt jn = nI j) (d0 : decode cL_law pc = .ok (.aload_n 0, 1)) (d1 : decode cL_law (pc + 1) = .ok (.iload_n 3, 1)) (d2 : decode cL_law (pc + 1 + 1) = .ok (.iconst jn, 1)) (d3 : decode cL_law (pc + 1 + 1 + 1) = .ok (.iadd, 1)) (d4 : decode cL_law (pc + 1 + 1 + 1 + 1) = .ok (.iaload, 1)) (K : LG p l e s m args below meth c0 D cy ad A cs sl Q b c (pc + 1 + 1 + 1 + 1 + 1) (.int (xs (6 * c + j)) :: st) M) : LG p l e s m args below meth c0 D cy ad A cs sl Q b c pc st M := by
  have hL := X.2.2.2.1.2.2.2
  refine l_a0 X d0 (l_i3 X d1 (l_ic X hv d2 (l_iadd X d3 ?_)))
  have e1 : nI (6 * c) + nI j = nI (6 * c + j) := nI_ad _ _
  rw [e1]
  exact l_ld X hi hj d4 K
theorem l_C (X : LX p s m args meth c0 D cy ad A cs sl b L xs) {y : MethodName} {bytes : ByteArray} {maxL rk n idx : Nat} {ret : Option FieldType} {As : List Value} {z : Option Value × Mem} {st0 : List Value} {N1 : Nat} {T : u_T} (cw : CW y bytes maxL ret n) (hM : Mt l D cy ad y bytes maxL ret rk (.ref (ad 0) :: As) (wfC N C) z) (hst : st0 = As.reverse ++ Value.ref (ad 0) :: st) (hci : vwCl[10]? = some (y.cls, T, N1)) (hl : Cond.methodLink RL idx y ∈ TB) (hn : As.length = n) (hR : rk + 1 ≤ room_1.frames ∧ 8 + (maxL + 11) + 64 * rk ≤ room_1.locals) (hW : (st.map fun v => v.category).sum ≤ 8) (hd : decode cL_law pc = .ok (.invokevirtual idx, 3)) (K : LG p l e s m args below meth c0 D cy ad A cs sl Q b c (pc + 3) (z.1.toList ++ st) z.2) : LG p l e s m args below meth c0 D cy ad A cs sl Q b c pc st0 (wfC N C) :=
  g_run X.2.2.1 (ok_V (X.cx N) (M := C) (k0 := 0) (ci := 10) cw hM hst rfl s_0 (by omega) hci hl hn hR ⟨X.2.2.2.2.1, X.2.2.2.2.2⟩ hW hd) K
theorem l_M (X : LX p s m args meth c0 D cy ad A cs sl b L xs) {y : MethodName} {bytes : ByteArray} {maxL rk n idx : Nat} {ret : Option FieldType} {As : List Value} {z : Option Value × Mem} {st0 : List Value} {N1 : Nat} {T : u_T} (cw : CW y bytes maxL ret n) (hM : Mt l D cy ad y bytes maxL ret rk (.ref (ad 138) :: As) (wfM C N) z) (hst : st0 = As.reverse ++ Value.ref (ad 138) :: st) (hci : vwCl[11]? = some (y.cls, T, N1)) (hl : Cond.methodLink RL idx y ∈ TB) (hn : As.length = n) (hR : rk + 1 ≤ room_1.frames ∧ 8 + (maxL + 11) + 64 * rk ≤ room_1.locals) (hW : (st.map fun v => v.category).sum ≤ 8) (hd : decode cL_law pc = .ok (.invokevirtual idx, 3)) (K : LG p l e s m args below meth c0 D cy ad A cs sl Q b c (pc + 3) (z.1.toList ++ st) z.2) : LG p l e s m args below meth c0 D cy ad A cs sl Q b c pc st0 (wfC N C) :=
  g_run X.2.2.1 (ok_V (X.cm C) (M := N) (k0 := 138) (ci := 11) cw hM hst rfl s_138 (by omega) hci hl hn hR ⟨X.2.2.2.2.1, X.2.2.2.2.2⟩ hW hd) K
theorem l_room {a b : Nat} (h1 : a + 1 ≤ 2048) (h2 : 8 + (b + 11) + 64 * a ≤ 84000) : a + 1 ≤ room_1.frames ∧ 8 + (b + 11) + 64 * a ≤ room_1.locals := ⟨h1, h2⟩

set_option maxRecDepth 100000 in
set_option maxHeartbeats 4000000 in
theorem lwc_0 (X : LX p s m args meth c0 D cy ad A cs sl b L xs) (hc : c < 64) (hi : 6 * c + 6 ≤ L) (h : Rel c C N) (K : ∀ C1 N1, Rel (c + 1) C1 N1 → LG p l e s m args below meth c0 D cy ad A cs sl Q b c 1854 [] (wfC N1 C1)) : LG p l e s m args below meth c0 D cy ad A cs sl Q b c 236 [] (wfC N C) := by
  obtain ⟨r, C1, N1, e1, e2, hR⟩ := op_row h (xs (6 * c + 1)) (xs (6 * c + 2)) (xs (6 * c + 3))
  refine l_a1 X dL_law_236 ?_
  refine l_arg X hi 1 (by omega) rfl dL_law_237 dL_law_238 dL_law_239 dL_law_240 dL_law_241 ?_
  refine l_arg X hi 2 (by omega) rfl dL_law_242 dL_law_243 dL_law_244 dL_law_245 dL_law_246 ?_
  refine l_arg X hi 3 (by omega) rfl dL_law_247 dL_law_248 dL_law_249 dL_law_250 dL_law_251 ?_
  refine l_C X (N := N) (C := C) (st := []) (As := [.int (xs (6 * c + 1)), .int (xs (6 * c + 2)), .int (xs (6 * c + 3))]) wkX10_row (tc_row (N := N) C (xs (6 * c + 1)) (xs (6 * c + 2)) (xs (6 * c + 3)) e1) rfl rfl m_2_160 rfl (l_room (Nat.le_of_ble_eq_true rfl) (Nat.le_of_ble_eq_true rfl)) (Nat.le_of_ble_eq_true rfl) dL_law_252 ?_
  refine l_a2 X dL_law_255 ?_
  refine l_arg X hi 1 (by omega) rfl dL_law_256 dL_law_257 dL_law_258 dL_law_259 dL_law_260 ?_
  refine l_arg X hi 2 (by omega) rfl dL_law_261 dL_law_262 dL_law_263 dL_law_264 dL_law_265 ?_
  refine l_arg X hi 3 (by omega) rfl dL_law_266 dL_law_267 dL_law_268 dL_law_269 dL_law_270 ?_
  refine l_M X (N := N) (C := C1) (st := [.int r]) (As := [.int (xs (6 * c + 1)), .int (xs (6 * c + 2)), .int (xs (6 * c + 3))]) wkX11_row (tm_row (N := C1) N (xs (6 * c + 1)) (xs (6 * c + 2)) (xs (6 * c + 3)) e2) rfl rfl m_5_142 rfl (l_room (Nat.le_of_ble_eq_true rfl) (Nat.le_of_ble_eq_true rfl)) (Nat.le_of_ble_eq_true rfl) dL_law_271 ?_
  refine l_eq X 1854 (by decide) dL_law_274 ?_
  exact K C1 N1 hR
set_option maxRecDepth 100000 in
set_option maxHeartbeats 4000000 in
theorem lwc_1 (X : LX p s m args meth c0 D cy ad A cs sl b L xs) (hc : c < 64) (hi : 6 * c + 6 ≤ L) (h : Rel c C N) (K : ∀ C1 N1, Rel (c + 1) C1 N1 → LG p l e s m args below meth c0 D cy ad A cs sl Q b c 1854 [] (wfC N1 C1)) : LG p l e s m args below meth c0 D cy ad A cs sl Q b c 279 [] (wfC N C) := by
  obtain ⟨r, C1, N1, e1, e2, hR⟩ := op_set h (xs (6 * c + 1)) (xs (6 * c + 2)) (((Int32.toInt64 (xs (6 * c + 3))) <<< (Int32.toInt64 (32 : Int32) &&& 63)) ||| ((Int32.toInt64 (xs (6 * c + 4))) &&& (4294967295 : Int64)))
  refine l_a1 X dL_law_279 ?_
  refine l_arg X hi 1 (by omega) rfl dL_law_280 dL_law_281 dL_law_282 dL_law_283 dL_law_284 ?_
  refine l_arg X hi 2 (by omega) rfl dL_law_285 dL_law_286 dL_law_287 dL_law_288 dL_law_289 ?_
  refine l_arg X hi 3 (by omega) rfl dL_law_290 dL_law_291 dL_law_292 dL_law_293 dL_law_294 ?_
  refine l_i2l X dL_law_295 ?_
  refine l_bi X (v := 32) (by decide) dL_law_296 ?_
  refine l_lshl X dL_law_298 ?_
  refine l_arg X hi 4 (by omega) rfl dL_law_299 dL_law_300 dL_law_301 dL_law_302 dL_law_303 ?_
  refine l_i2l X dL_law_304 ?_
  refine l_ldc2 X m_7_16 dL_law_305 ?_
  refine l_land X dL_law_308 ?_
  refine l_lor X dL_law_309 ?_
  refine l_C X (N := N) (C := C) (st := []) (As := [.int (xs (6 * c + 1)), .int (xs (6 * c + 2)), .long (((Int32.toInt64 (xs (6 * c + 3))) <<< (Int32.toInt64 (32 : Int32) &&& 63)) ||| ((Int32.toInt64 (xs (6 * c + 4))) &&& (4294967295 : Int64)))]) wkX10_set (tc_set (N := N) C (xs (6 * c + 1)) (xs (6 * c + 2)) (((Int32.toInt64 (xs (6 * c + 3))) <<< (Int32.toInt64 (32 : Int32) &&& 63)) ||| ((Int32.toInt64 (xs (6 * c + 4))) &&& (4294967295 : Int64))) e1) rfl rfl m_2_181 rfl (l_room (Nat.le_of_ble_eq_true rfl) (Nat.le_of_ble_eq_true rfl)) (Nat.le_of_ble_eq_true rfl) dL_law_310 ?_
  refine l_a2 X dL_law_313 ?_
  refine l_arg X hi 1 (by omega) rfl dL_law_314 dL_law_315 dL_law_316 dL_law_317 dL_law_318 ?_
  refine l_arg X hi 2 (by omega) rfl dL_law_319 dL_law_320 dL_law_321 dL_law_322 dL_law_323 ?_
  refine l_arg X hi 3 (by omega) rfl dL_law_324 dL_law_325 dL_law_326 dL_law_327 dL_law_328 ?_
  refine l_i2l X dL_law_329 ?_
  refine l_bi X (v := 32) (by decide) dL_law_330 ?_
  refine l_lshl X dL_law_332 ?_
  refine l_arg X hi 4 (by omega) rfl dL_law_333 dL_law_334 dL_law_335 dL_law_336 dL_law_337 ?_
  refine l_i2l X dL_law_338 ?_
  refine l_ldc2 X m_7_16 dL_law_339 ?_
  refine l_land X dL_law_342 ?_
  refine l_lor X dL_law_343 ?_
  refine l_M X (N := N) (C := C1) (st := [.int r]) (As := [.int (xs (6 * c + 1)), .int (xs (6 * c + 2)), .long (((Int32.toInt64 (xs (6 * c + 3))) <<< (Int32.toInt64 (32 : Int32) &&& 63)) ||| ((Int32.toInt64 (xs (6 * c + 4))) &&& (4294967295 : Int64)))]) wkX11_set (tm_set (N := C1) N (xs (6 * c + 1)) (xs (6 * c + 2)) (((Int32.toInt64 (xs (6 * c + 3))) <<< (Int32.toInt64 (32 : Int32) &&& 63)) ||| ((Int32.toInt64 (xs (6 * c + 4))) &&& (4294967295 : Int64))) e2) rfl rfl m_5_154 rfl (l_room (Nat.le_of_ble_eq_true rfl) (Nat.le_of_ble_eq_true rfl)) (Nat.le_of_ble_eq_true rfl) dL_law_344 ?_
  refine l_eq X 1854 (by decide) dL_law_347 ?_
  exact K C1 N1 hR
set_option maxRecDepth 100000 in
set_option maxHeartbeats 4000000 in
theorem lwc_2 (X : LX p s m args meth c0 D cy ad A cs sl b L xs) (hc : c < 64) (hi : 6 * c + 6 ≤ L) (h : Rel c C N) (K : ∀ C1 N1, Rel (c + 1) C1 N1 → LG p l e s m args below meth c0 D cy ad A cs sl Q b c 1854 [] (wfC N1 C1)) : LG p l e s m args below meth c0 D cy ad A cs sl Q b c 352 [] (wfC N C) := by
  obtain ⟨r, C1, N1, e1, e2, hR⟩ := op_copy h (xs (6 * c + 1)) (xs (6 * c + 2)) (xs (6 * c + 3)) (xs (6 * c + 4)) (xs (6 * c + 5))
  refine l_a1 X dL_law_352 ?_
  refine l_arg X hi 1 (by omega) rfl dL_law_353 dL_law_354 dL_law_355 dL_law_356 dL_law_357 ?_
  refine l_arg X hi 2 (by omega) rfl dL_law_358 dL_law_359 dL_law_360 dL_law_361 dL_law_362 ?_
  refine l_arg X hi 3 (by omega) rfl dL_law_363 dL_law_364 dL_law_365 dL_law_366 dL_law_367 ?_
  refine l_arg X hi 4 (by omega) rfl dL_law_368 dL_law_369 dL_law_370 dL_law_371 dL_law_372 ?_
  refine l_arg X hi 5 (by omega) rfl dL_law_373 dL_law_374 dL_law_375 dL_law_376 dL_law_377 ?_
  refine l_C X (N := N) (C := C) (st := []) (As := [.int (xs (6 * c + 1)), .int (xs (6 * c + 2)), .int (xs (6 * c + 3)), .int (xs (6 * c + 4)), .int (xs (6 * c + 5))]) wkX10_copy (tc_copy (N := N) C (xs (6 * c + 1)) (xs (6 * c + 2)) (xs (6 * c + 3)) (xs (6 * c + 4)) (xs (6 * c + 5)) e1) rfl rfl m_2_202 rfl (l_room (Nat.le_of_ble_eq_true rfl) (Nat.le_of_ble_eq_true rfl)) (Nat.le_of_ble_eq_true rfl) dL_law_378 ?_
  refine l_a2 X dL_law_381 ?_
  refine l_arg X hi 1 (by omega) rfl dL_law_382 dL_law_383 dL_law_384 dL_law_385 dL_law_386 ?_
  refine l_arg X hi 2 (by omega) rfl dL_law_387 dL_law_388 dL_law_389 dL_law_390 dL_law_391 ?_
  refine l_arg X hi 3 (by omega) rfl dL_law_392 dL_law_393 dL_law_394 dL_law_395 dL_law_396 ?_
  refine l_arg X hi 4 (by omega) rfl dL_law_397 dL_law_398 dL_law_399 dL_law_400 dL_law_401 ?_
  refine l_arg X hi 5 (by omega) rfl dL_law_402 dL_law_403 dL_law_404 dL_law_405 dL_law_406 ?_
  refine l_M X (N := N) (C := C1) (st := [.int r]) (As := [.int (xs (6 * c + 1)), .int (xs (6 * c + 2)), .int (xs (6 * c + 3)), .int (xs (6 * c + 4)), .int (xs (6 * c + 5))]) wkX11_copy (tm_copy (N := C1) N (xs (6 * c + 1)) (xs (6 * c + 2)) (xs (6 * c + 3)) (xs (6 * c + 4)) (xs (6 * c + 5)) e2) rfl rfl m_5_166 rfl (l_room (Nat.le_of_ble_eq_true rfl) (Nat.le_of_ble_eq_true rfl)) (Nat.le_of_ble_eq_true rfl) dL_law_407 ?_
  refine l_eq X 1854 (by decide) dL_law_410 ?_
  exact K C1 N1 hR
set_option maxRecDepth 100000 in
set_option maxHeartbeats 4000000 in
theorem lwc_3 (X : LX p s m args meth c0 D cy ad A cs sl b L xs) (hc : c < 64) (hi : 6 * c + 6 ≤ L) (h : Rel c C N) (K : ∀ C1 N1, Rel (c + 1) C1 N1 → LG p l e s m args below meth c0 D cy ad A cs sl Q b c 1854 [] (wfC N1 C1)) : LG p l e s m args below meth c0 D cy ad A cs sl Q b c 415 [] (wfC N C) := by
  obtain ⟨r, e1, e2⟩ := op_element h (xs (6 * c + 1)) (xs (6 * c + 2))
  refine l_a1 X dL_law_415 ?_
  refine l_arg X hi 1 (by omega) rfl dL_law_416 dL_law_417 dL_law_418 dL_law_419 dL_law_420 ?_
  refine l_arg X hi 2 (by omega) rfl dL_law_421 dL_law_422 dL_law_423 dL_law_424 dL_law_425 ?_
  refine l_C X (N := N) (C := C) (st := []) (As := [.int (xs (6 * c + 1)), .int (xs (6 * c + 2))]) wkX10_element (tc_element (N := N) C (xs (6 * c + 1)) (xs (6 * c + 2)) e1) rfl rfl m_2_211 rfl (l_room (Nat.le_of_ble_eq_true rfl) (Nat.le_of_ble_eq_true rfl)) (Nat.le_of_ble_eq_true rfl) dL_law_426 ?_
  refine l_a2 X dL_law_429 ?_
  refine l_arg X hi 1 (by omega) rfl dL_law_430 dL_law_431 dL_law_432 dL_law_433 dL_law_434 ?_
  refine l_arg X hi 2 (by omega) rfl dL_law_435 dL_law_436 dL_law_437 dL_law_438 dL_law_439 ?_
  refine l_M X (N := N) (C := C) (st := [.long r]) (As := [.int (xs (6 * c + 1)), .int (xs (6 * c + 2))]) wkX11_element (tm_element (N := C) N (xs (6 * c + 1)) (xs (6 * c + 2)) e2) rfl rfl m_5_174 rfl (l_room (Nat.le_of_ble_eq_true rfl) (Nat.le_of_ble_eq_true rfl)) (Nat.le_of_ble_eq_true rfl) dL_law_440 ?_
  refine l_lcmp X dL_law_443 ?_
  refine l_ifT X (lgc_0 r) 1854 (by decide) dL_law_444 ?_
  exact K C N (Rel_next h)
set_option maxRecDepth 100000 in
set_option maxHeartbeats 4000000 in
theorem lwc_4 (X : LX p s m args meth c0 D cy ad A cs sl b L xs) (hc : c < 64) (hi : 6 * c + 6 ≤ L) (h : Rel c C N) (K : ∀ C1 N1, Rel (c + 1) C1 N1 → LG p l e s m args below meth c0 D cy ad A cs sl Q b c 1854 [] (wfC N1 C1)) : LG p l e s m args below meth c0 D cy ad A cs sl Q b c 449 [] (wfC N C) := by
  obtain ⟨r, e1, e2⟩ := op_holds h (xs (6 * c + 1))
  refine l_a1 X dL_law_449 ?_
  refine l_arg X hi 1 (by omega) rfl dL_law_450 dL_law_451 dL_law_452 dL_law_453 dL_law_454 ?_
  refine l_C X (N := N) (C := C) (st := []) (As := [.int (xs (6 * c + 1))]) wkX10_holds (tc_holds (N := N) C (xs (6 * c + 1)) e1) rfl rfl m_2_219 rfl (l_room (Nat.le_of_ble_eq_true rfl) (Nat.le_of_ble_eq_true rfl)) (Nat.le_of_ble_eq_true rfl) dL_law_455 ?_
  refine l_a2 X dL_law_458 ?_
  refine l_arg X hi 1 (by omega) rfl dL_law_459 dL_law_460 dL_law_461 dL_law_462 dL_law_463 ?_
  refine l_M X (N := N) (C := C) (st := [.int r]) (As := [.int (xs (6 * c + 1))]) wkX11_holds (tm_holds (N := C) N (xs (6 * c + 1)) e2) rfl rfl m_5_178 rfl (l_room (Nat.le_of_ble_eq_true rfl) (Nat.le_of_ble_eq_true rfl)) (Nat.le_of_ble_eq_true rfl) dL_law_464 ?_
  refine l_eq X 1854 (by decide) dL_law_467 ?_
  exact K C N (Rel_next h)
set_option maxRecDepth 100000 in
set_option maxHeartbeats 4000000 in
theorem lwc_5 (X : LX p s m args meth c0 D cy ad A cs sl b L xs) (hc : c < 64) (hi : 6 * c + 6 ≤ L) (h : Rel c C N) (K : ∀ C1 N1, Rel (c + 1) C1 N1 → LG p l e s m args below meth c0 D cy ad A cs sl Q b c 1854 [] (wfC N1 C1)) : LG p l e s m args below meth c0 D cy ad A cs sl Q b c 472 [] (wfC N C) := by
  obtain ⟨r, C1, N1, e1, e2, hR⟩ := op_show h (xs (6 * c + 1)) (xs (6 * c + 2))
  refine l_a1 X dL_law_472 ?_
  refine l_arg X hi 1 (by omega) rfl dL_law_473 dL_law_474 dL_law_475 dL_law_476 dL_law_477 ?_
  refine l_arg X hi 2 (by omega) rfl dL_law_478 dL_law_479 dL_law_480 dL_law_481 dL_law_482 ?_
  refine l_C X (N := N) (C := C) (st := []) (As := [.int (xs (6 * c + 1)), .int (xs (6 * c + 2))]) wkX10_show (tc_show (N := N) C (xs (6 * c + 1)) (xs (6 * c + 2)) e1) rfl rfl m_2_223 rfl (l_room (Nat.le_of_ble_eq_true rfl) (Nat.le_of_ble_eq_true rfl)) (Nat.le_of_ble_eq_true rfl) dL_law_483 ?_
  refine l_a2 X dL_law_486 ?_
  refine l_arg X hi 1 (by omega) rfl dL_law_487 dL_law_488 dL_law_489 dL_law_490 dL_law_491 ?_
  refine l_arg X hi 2 (by omega) rfl dL_law_492 dL_law_493 dL_law_494 dL_law_495 dL_law_496 ?_
  refine l_M X (N := N) (C := C1) (st := [.int r]) (As := [.int (xs (6 * c + 1)), .int (xs (6 * c + 2))]) wkX11_show (tm_show (N := C1) N (xs (6 * c + 1)) (xs (6 * c + 2)) e2) rfl rfl m_5_182 rfl (l_room (Nat.le_of_ble_eq_true rfl) (Nat.le_of_ble_eq_true rfl)) (Nat.le_of_ble_eq_true rfl) dL_law_497 ?_
  refine l_eq X 1854 (by decide) dL_law_500 ?_
  exact K C1 N1 hR
set_option maxRecDepth 100000 in
set_option maxHeartbeats 4000000 in
theorem lwc_6 (X : LX p s m args meth c0 D cy ad A cs sl b L xs) (hc : c < 64) (hi : 6 * c + 6 ≤ L) (h : Rel c C N) (K : ∀ C1 N1, Rel (c + 1) C1 N1 → LG p l e s m args below meth c0 D cy ad A cs sl Q b c 1854 [] (wfC N1 C1)) : LG p l e s m args below meth c0 D cy ad A cs sl Q b c 505 [] (wfC N C) := by
  obtain ⟨r, C1, N1, e1, e2, hR⟩ := op_says h (xs (6 * c + 1)) (xs (6 * c + 2))
  refine l_a1 X dL_law_505 ?_
  refine l_arg X hi 1 (by omega) rfl dL_law_506 dL_law_507 dL_law_508 dL_law_509 dL_law_510 ?_
  refine l_arg X hi 2 (by omega) rfl dL_law_511 dL_law_512 dL_law_513 dL_law_514 dL_law_515 ?_
  refine l_C X (N := N) (C := C) (st := []) (As := [.int (xs (6 * c + 1)), .int (xs (6 * c + 2))]) wkX10_says (tc_says (N := N) C (xs (6 * c + 1)) (xs (6 * c + 2)) e1) rfl rfl m_2_235 rfl (l_room (Nat.le_of_ble_eq_true rfl) (Nat.le_of_ble_eq_true rfl)) (Nat.le_of_ble_eq_true rfl) dL_law_516 ?_
  refine l_a2 X dL_law_519 ?_
  refine l_arg X hi 1 (by omega) rfl dL_law_520 dL_law_521 dL_law_522 dL_law_523 dL_law_524 ?_
  refine l_arg X hi 2 (by omega) rfl dL_law_525 dL_law_526 dL_law_527 dL_law_528 dL_law_529 ?_
  refine l_M X (N := N) (C := C1) (st := [.int r]) (As := [.int (xs (6 * c + 1)), .int (xs (6 * c + 2))]) wkX11_says (tm_says (N := C1) N (xs (6 * c + 1)) (xs (6 * c + 2)) e2) rfl rfl m_5_190 rfl (l_room (Nat.le_of_ble_eq_true rfl) (Nat.le_of_ble_eq_true rfl)) (Nat.le_of_ble_eq_true rfl) dL_law_530 ?_
  refine l_eq X 1854 (by decide) dL_law_533 ?_
  exact K C1 N1 hR
set_option maxRecDepth 100000 in
set_option maxHeartbeats 4000000 in
theorem lwc_7 (X : LX p s m args meth c0 D cy ad A cs sl b L xs) (hc : c < 64) (hi : 6 * c + 6 ≤ L) (h : Rel c C N) (K : ∀ C1 N1, Rel (c + 1) C1 N1 → LG p l e s m args below meth c0 D cy ad A cs sl Q b c 1854 [] (wfC N1 C1)) : LG p l e s m args below meth c0 D cy ad A cs sl Q b c 538 [] (wfC N C) := by
  obtain ⟨r, C1, N1, e1, e2, hR⟩ := op_jetty h (xs (6 * c + 1)) (xs (6 * c + 2)) (xs (6 * c + 3)) (xs (6 * c + 4))
  refine l_a1 X dL_law_538 ?_
  refine l_arg X hi 1 (by omega) rfl dL_law_539 dL_law_540 dL_law_541 dL_law_542 dL_law_543 ?_
  refine l_arg X hi 2 (by omega) rfl dL_law_544 dL_law_545 dL_law_546 dL_law_547 dL_law_548 ?_
  refine l_arg X hi 3 (by omega) rfl dL_law_549 dL_law_550 dL_law_551 dL_law_552 dL_law_553 ?_
  refine l_arg X hi 4 (by omega) rfl dL_law_554 dL_law_555 dL_law_556 dL_law_557 dL_law_558 ?_
  refine l_C X (N := N) (C := C) (st := []) (As := [.int (xs (6 * c + 1)), .int (xs (6 * c + 2)), .int (xs (6 * c + 3)), .int (xs (6 * c + 4))]) wkX10_jetty (tc_jetty (N := N) C (xs (6 * c + 1)) (xs (6 * c + 2)) (xs (6 * c + 3)) (xs (6 * c + 4)) e1) rfl rfl m_3_24 rfl (l_room (Nat.le_of_ble_eq_true rfl) (Nat.le_of_ble_eq_true rfl)) (Nat.le_of_ble_eq_true rfl) dL_law_559 ?_
  refine l_a2 X dL_law_562 ?_
  refine l_arg X hi 1 (by omega) rfl dL_law_563 dL_law_564 dL_law_565 dL_law_566 dL_law_567 ?_
  refine l_arg X hi 2 (by omega) rfl dL_law_568 dL_law_569 dL_law_570 dL_law_571 dL_law_572 ?_
  refine l_arg X hi 3 (by omega) rfl dL_law_573 dL_law_574 dL_law_575 dL_law_576 dL_law_577 ?_
  refine l_arg X hi 4 (by omega) rfl dL_law_578 dL_law_579 dL_law_580 dL_law_581 dL_law_582 ?_
  refine l_M X (N := N) (C := C1) (st := [.int r]) (As := [.int (xs (6 * c + 1)), .int (xs (6 * c + 2)), .int (xs (6 * c + 3)), .int (xs (6 * c + 4))]) wkX11_jetty (tm_jetty (N := C1) N (xs (6 * c + 1)) (xs (6 * c + 2)) (xs (6 * c + 3)) (xs (6 * c + 4)) e2) rfl rfl m_5_206 rfl (l_room (Nat.le_of_ble_eq_true rfl) (Nat.le_of_ble_eq_true rfl)) (Nat.le_of_ble_eq_true rfl) dL_law_583 ?_
  refine l_eq X 1854 (by decide) dL_law_586 ?_
  exact K C1 N1 hR
set_option maxRecDepth 100000 in
set_option maxHeartbeats 4000000 in
theorem lwc_8 (X : LX p s m args meth c0 D cy ad A cs sl b L xs) (hc : c < 64) (hi : 6 * c + 6 ≤ L) (h : Rel c C N) (K : ∀ C1 N1, Rel (c + 1) C1 N1 → LG p l e s m args below meth c0 D cy ad A cs sl Q b c 1854 [] (wfC N1 C1)) : LG p l e s m args below meth c0 D cy ad A cs sl Q b c 591 [] (wfC N C) := by
  obtain ⟨r, C1, N1, e1, e2, hR⟩ := op_jettyOf h (xs (6 * c + 1)) (xs (6 * c + 2))
  refine l_a1 X dL_law_591 ?_
  refine l_arg X hi 1 (by omega) rfl dL_law_592 dL_law_593 dL_law_594 dL_law_595 dL_law_596 ?_
  refine l_arg X hi 2 (by omega) rfl dL_law_597 dL_law_598 dL_law_599 dL_law_600 dL_law_601 ?_
  refine l_C X (N := N) (C := C) (st := []) (As := [.int (xs (6 * c + 1)), .int (xs (6 * c + 2))]) wkX10_jettyOf (tc_jettyOf (N := N) C (xs (6 * c + 1)) (xs (6 * c + 2)) e1) rfl rfl m_3_32 rfl (l_room (Nat.le_of_ble_eq_true rfl) (Nat.le_of_ble_eq_true rfl)) (Nat.le_of_ble_eq_true rfl) dL_law_602 ?_
  refine l_a2 X dL_law_605 ?_
  refine l_arg X hi 1 (by omega) rfl dL_law_606 dL_law_607 dL_law_608 dL_law_609 dL_law_610 ?_
  refine l_arg X hi 2 (by omega) rfl dL_law_611 dL_law_612 dL_law_613 dL_law_614 dL_law_615 ?_
  refine l_M X (N := N) (C := C1) (st := [.int r]) (As := [.int (xs (6 * c + 1)), .int (xs (6 * c + 2))]) wkX11_jettyOf (tm_jettyOf (N := C1) N (xs (6 * c + 1)) (xs (6 * c + 2)) e2) rfl rfl m_5_214 rfl (l_room (Nat.le_of_ble_eq_true rfl) (Nat.le_of_ble_eq_true rfl)) (Nat.le_of_ble_eq_true rfl) dL_law_616 ?_
  refine l_eq X 1854 (by decide) dL_law_619 ?_
  exact K C1 N1 hR
set_option maxRecDepth 100000 in
set_option maxHeartbeats 4000000 in
theorem lwc_9 (X : LX p s m args meth c0 D cy ad A cs sl b L xs) (hc : c < 64) (hi : 6 * c + 6 ≤ L) (h : Rel c C N) (K : ∀ C1 N1, Rel (c + 1) C1 N1 → LG p l e s m args below meth c0 D cy ad A cs sl Q b c 1854 [] (wfC N1 C1)) : LG p l e s m args below meth c0 D cy ad A cs sl Q b c 624 [] (wfC N C) := by
  by_cases z0 : xs (6 * c + 2) = 0
  · obtain ⟨r, C1, N1, e1, e2, hR⟩ := op_wet h (xs (6 * c + 1)) (0) (Or.inl rfl)
    refine l_a1 X dL_law_624 ?_
    refine l_arg X hi 1 (by omega) rfl dL_law_625 dL_law_626 dL_law_627 dL_law_628 dL_law_629 ?_
    refine l_arg X hi 2 (by omega) rfl dL_law_630 dL_law_631 dL_law_632 dL_law_633 dL_law_634 ?_
    refine l_ifT X z0 642 (by decide) dL_law_635 ?_
    refine l_ic X (v := 0) (by decide) dL_law_642 ?_
    refine l_C X (N := N) (C := C) (st := []) (As := [.int (xs (6 * c + 1)), .int (0)]) wkX10_wet (tc_wet (N := N) C (xs (6 * c + 1)) (0) e1) rfl rfl m_3_68 rfl (l_room (Nat.le_of_ble_eq_true rfl) (Nat.le_of_ble_eq_true rfl)) (Nat.le_of_ble_eq_true rfl) dL_law_643 ?_
    refine l_a2 X dL_law_646 ?_
    refine l_arg X hi 1 (by omega) rfl dL_law_647 dL_law_648 dL_law_649 dL_law_650 dL_law_651 ?_
    refine l_arg X hi 2 (by omega) rfl dL_law_652 dL_law_653 dL_law_654 dL_law_655 dL_law_656 ?_
    refine l_ifT X z0 664 (by decide) dL_law_657 ?_
    refine l_ic X (v := 0) (by decide) dL_law_664 ?_
    refine l_M X (N := N) (C := C1) (st := [.int r]) (As := [.int (xs (6 * c + 1)), .int (0)]) wkX11_wet (tm_wet (N := C1) N (xs (6 * c + 1)) (0) e2) rfl rfl m_6_2 rfl (l_room (Nat.le_of_ble_eq_true rfl) (Nat.le_of_ble_eq_true rfl)) (Nat.le_of_ble_eq_true rfl) dL_law_665 ?_
    refine l_eq X 1854 (by decide) dL_law_668 ?_
    exact K C1 N1 hR
  · obtain ⟨r, C1, N1, e1, e2, hR⟩ := op_wet h (xs (6 * c + 1)) (1) (Or.inr rfl)
    refine l_a1 X dL_law_624 ?_
    refine l_arg X hi 1 (by omega) rfl dL_law_625 dL_law_626 dL_law_627 dL_law_628 dL_law_629 ?_
    refine l_arg X hi 2 (by omega) rfl dL_law_630 dL_law_631 dL_law_632 dL_law_633 dL_law_634 ?_
    refine l_ifF X z0 642 (by decide) dL_law_635 ?_
    refine l_ic X (v := 1) (by decide) dL_law_638 ?_
    refine l_goto X 643 (by decide) dL_law_639 ?_
    refine l_C X (N := N) (C := C) (st := []) (As := [.int (xs (6 * c + 1)), .int (1)]) wkX10_wet (tc_wet (N := N) C (xs (6 * c + 1)) (1) e1) rfl rfl m_3_68 rfl (l_room (Nat.le_of_ble_eq_true rfl) (Nat.le_of_ble_eq_true rfl)) (Nat.le_of_ble_eq_true rfl) dL_law_643 ?_
    refine l_a2 X dL_law_646 ?_
    refine l_arg X hi 1 (by omega) rfl dL_law_647 dL_law_648 dL_law_649 dL_law_650 dL_law_651 ?_
    refine l_arg X hi 2 (by omega) rfl dL_law_652 dL_law_653 dL_law_654 dL_law_655 dL_law_656 ?_
    refine l_ifF X z0 664 (by decide) dL_law_657 ?_
    refine l_ic X (v := 1) (by decide) dL_law_660 ?_
    refine l_goto X 665 (by decide) dL_law_661 ?_
    refine l_M X (N := N) (C := C1) (st := [.int r]) (As := [.int (xs (6 * c + 1)), .int (1)]) wkX11_wet (tm_wet (N := C1) N (xs (6 * c + 1)) (1) e2) rfl rfl m_6_2 rfl (l_room (Nat.le_of_ble_eq_true rfl) (Nat.le_of_ble_eq_true rfl)) (Nat.le_of_ble_eq_true rfl) dL_law_665 ?_
    refine l_eq X 1854 (by decide) dL_law_668 ?_
    exact K C1 N1 hR
set_option maxRecDepth 100000 in
set_option maxHeartbeats 4000000 in
theorem lwc_10 (X : LX p s m args meth c0 D cy ad A cs sl b L xs) (hc : c < 64) (hi : 6 * c + 6 ≤ L) (h : Rel c C N) (K : ∀ C1 N1, Rel (c + 1) C1 N1 → LG p l e s m args below meth c0 D cy ad A cs sl Q b c 1854 [] (wfC N1 C1)) : LG p l e s m args below meth c0 D cy ad A cs sl Q b c 673 [] (wfC N C) := by
  obtain ⟨r, C1, N1, e1, e2, hR⟩ := op_rise h (xs (6 * c + 1)) (xs (6 * c + 2))
  refine l_a1 X dL_law_673 ?_
  refine l_arg X hi 1 (by omega) rfl dL_law_674 dL_law_675 dL_law_676 dL_law_677 dL_law_678 ?_
  refine l_arg X hi 2 (by omega) rfl dL_law_679 dL_law_680 dL_law_681 dL_law_682 dL_law_683 ?_
  refine l_C X (N := N) (C := C) (st := []) (As := [.int (xs (6 * c + 1)), .int (xs (6 * c + 2))]) wkX10_rise (tc_rise (N := N) C (xs (6 * c + 1)) (xs (6 * c + 2)) e1) rfl rfl m_3_72 rfl (l_room (Nat.le_of_ble_eq_true rfl) (Nat.le_of_ble_eq_true rfl)) (Nat.le_of_ble_eq_true rfl) dL_law_684 ?_
  refine l_a2 X dL_law_687 ?_
  refine l_arg X hi 1 (by omega) rfl dL_law_688 dL_law_689 dL_law_690 dL_law_691 dL_law_692 ?_
  refine l_arg X hi 2 (by omega) rfl dL_law_693 dL_law_694 dL_law_695 dL_law_696 dL_law_697 ?_
  refine l_M X (N := N) (C := C1) (st := [.int r]) (As := [.int (xs (6 * c + 1)), .int (xs (6 * c + 2))]) wkX11_rise (tm_rise (N := C1) N (xs (6 * c + 1)) (xs (6 * c + 2)) e2) rfl rfl m_6_6 rfl (l_room (Nat.le_of_ble_eq_true rfl) (Nat.le_of_ble_eq_true rfl)) (Nat.le_of_ble_eq_true rfl) dL_law_698 ?_
  refine l_eq X 1854 (by decide) dL_law_701 ?_
  exact K C1 N1 hR
set_option maxRecDepth 100000 in
set_option maxHeartbeats 4000000 in
theorem lwc_11 (X : LX p s m args meth c0 D cy ad A cs sl b L xs) (hc : c < 64) (hi : 6 * c + 6 ≤ L) (h : Rel c C N) (K : ∀ C1 N1, Rel (c + 1) C1 N1 → LG p l e s m args below meth c0 D cy ad A cs sl Q b c 1854 [] (wfC N1 C1)) : LG p l e s m args below meth c0 D cy ad A cs sl Q b c 706 [] (wfC N C) := by
  obtain ⟨r, C1, N1, e1, e2, hR⟩ := op_lake h (xs (6 * c + 1)) (xs (6 * c + 2))
  refine l_a1 X dL_law_706 ?_
  refine l_arg X hi 1 (by omega) rfl dL_law_707 dL_law_708 dL_law_709 dL_law_710 dL_law_711 ?_
  refine l_arg X hi 2 (by omega) rfl dL_law_712 dL_law_713 dL_law_714 dL_law_715 dL_law_716 ?_
  refine l_C X (N := N) (C := C) (st := []) (As := [.int (xs (6 * c + 1)), .int (xs (6 * c + 2))]) wkX10_lake (tc_lake (N := N) C (xs (6 * c + 1)) (xs (6 * c + 2)) e1) rfl rfl m_3_76 rfl (l_room (Nat.le_of_ble_eq_true rfl) (Nat.le_of_ble_eq_true rfl)) (Nat.le_of_ble_eq_true rfl) dL_law_717 ?_
  refine l_a2 X dL_law_720 ?_
  refine l_arg X hi 1 (by omega) rfl dL_law_721 dL_law_722 dL_law_723 dL_law_724 dL_law_725 ?_
  refine l_arg X hi 2 (by omega) rfl dL_law_726 dL_law_727 dL_law_728 dL_law_729 dL_law_730 ?_
  refine l_M X (N := N) (C := C1) (st := [.int r]) (As := [.int (xs (6 * c + 1)), .int (xs (6 * c + 2))]) wkX11_lake (tm_lake (N := C1) N (xs (6 * c + 1)) (xs (6 * c + 2)) e2) rfl rfl m_6_14 rfl (l_room (Nat.le_of_ble_eq_true rfl) (Nat.le_of_ble_eq_true rfl)) (Nat.le_of_ble_eq_true rfl) dL_law_731 ?_
  refine l_eq X 1854 (by decide) dL_law_734 ?_
  exact K C1 N1 hR
set_option maxRecDepth 100000 in
set_option maxHeartbeats 4000000 in
theorem lwc_12 (X : LX p s m args meth c0 D cy ad A cs sl b L xs) (hc : c < 64) (hi : 6 * c + 6 ≤ L) (h : Rel c C N) (K : ∀ C1 N1, Rel (c + 1) C1 N1 → LG p l e s m args below meth c0 D cy ad A cs sl Q b c 1854 [] (wfC N1 C1)) : LG p l e s m args below meth c0 D cy ad A cs sl Q b c 739 [] (wfC N C) := by
  obtain ⟨r, C1, N1, e1, e2, hR⟩ := op_wind h (xs (6 * c + 1)) (xs (6 * c + 2))
  refine l_a1 X dL_law_739 ?_
  refine l_arg X hi 1 (by omega) rfl dL_law_740 dL_law_741 dL_law_742 dL_law_743 dL_law_744 ?_
  refine l_arg X hi 2 (by omega) rfl dL_law_745 dL_law_746 dL_law_747 dL_law_748 dL_law_749 ?_
  refine l_C X (N := N) (C := C) (st := []) (As := [.int (xs (6 * c + 1)), .int (xs (6 * c + 2))]) wkX10_wind (tc_wind (N := N) C (xs (6 * c + 1)) (xs (6 * c + 2)) e1) rfl rfl m_3_80 rfl (l_room (Nat.le_of_ble_eq_true rfl) (Nat.le_of_ble_eq_true rfl)) (Nat.le_of_ble_eq_true rfl) dL_law_750 ?_
  refine l_a2 X dL_law_753 ?_
  refine l_arg X hi 1 (by omega) rfl dL_law_754 dL_law_755 dL_law_756 dL_law_757 dL_law_758 ?_
  refine l_arg X hi 2 (by omega) rfl dL_law_759 dL_law_760 dL_law_761 dL_law_762 dL_law_763 ?_
  refine l_M X (N := N) (C := C1) (st := [.int r]) (As := [.int (xs (6 * c + 1)), .int (xs (6 * c + 2))]) wkX11_wind (tm_wind (N := C1) N (xs (6 * c + 1)) (xs (6 * c + 2)) e2) rfl rfl m_6_18 rfl (l_room (Nat.le_of_ble_eq_true rfl) (Nat.le_of_ble_eq_true rfl)) (Nat.le_of_ble_eq_true rfl) dL_law_764 ?_
  refine l_eq X 1854 (by decide) dL_law_767 ?_
  exact K C1 N1 hR
set_option maxRecDepth 100000 in
set_option maxHeartbeats 4000000 in
theorem lwc_13 (X : LX p s m args meth c0 D cy ad A cs sl b L xs) (hc : c < 64) (hi : 6 * c + 6 ≤ L) (h : Rel c C N) (K : ∀ C1 N1, Rel (c + 1) C1 N1 → LG p l e s m args below meth c0 D cy ad A cs sl Q b c 1854 [] (wfC N1 C1)) : LG p l e s m args below meth c0 D cy ad A cs sl Q b c 772 [] (wfC N C) := by
  obtain ⟨r, C1, N1, e1, e2, hR⟩ := op_winds h (xs (6 * c + 1))
  refine l_a1 X dL_law_772 ?_
  refine l_arg X hi 1 (by omega) rfl dL_law_773 dL_law_774 dL_law_775 dL_law_776 dL_law_777 ?_
  refine l_C X (N := N) (C := C) (st := []) (As := [.int (xs (6 * c + 1))]) wkX10_winds (tc_winds (N := N) C (xs (6 * c + 1)) e1) rfl rfl m_3_87 rfl (l_room (Nat.le_of_ble_eq_true rfl) (Nat.le_of_ble_eq_true rfl)) (Nat.le_of_ble_eq_true rfl) dL_law_778 ?_
  refine l_a2 X dL_law_781 ?_
  refine l_arg X hi 1 (by omega) rfl dL_law_782 dL_law_783 dL_law_784 dL_law_785 dL_law_786 ?_
  refine l_M X (N := N) (C := C1) (st := [.int r]) (As := [.int (xs (6 * c + 1))]) wkX11_winds (tm_winds (N := C1) N (xs (6 * c + 1)) e2) rfl rfl m_6_26 rfl (l_room (Nat.le_of_ble_eq_true rfl) (Nat.le_of_ble_eq_true rfl)) (Nat.le_of_ble_eq_true rfl) dL_law_787 ?_
  refine l_eq X 1854 (by decide) dL_law_790 ?_
  exact K C1 N1 hR
set_option maxRecDepth 100000 in
set_option maxHeartbeats 4000000 in
theorem lwc_14 (X : LX p s m args meth c0 D cy ad A cs sl b L xs) (hc : c < 64) (hi : 6 * c + 6 ≤ L) (h : Rel c C N) (K : ∀ C1 N1, Rel (c + 1) C1 N1 → LG p l e s m args below meth c0 D cy ad A cs sl Q b c 1854 [] (wfC N1 C1)) : LG p l e s m args below meth c0 D cy ad A cs sl Q b c 795 [] (wfC N C) := by
  obtain ⟨r, C1, N1, e1, e2, hR⟩ := op_feed h (xs (6 * c + 1)) (xs (6 * c + 2))
  refine l_a1 X dL_law_795 ?_
  refine l_arg X hi 1 (by omega) rfl dL_law_796 dL_law_797 dL_law_798 dL_law_799 dL_law_800 ?_
  refine l_arg X hi 2 (by omega) rfl dL_law_801 dL_law_802 dL_law_803 dL_law_804 dL_law_805 ?_
  refine l_C X (N := N) (C := C) (st := []) (As := [.int (xs (6 * c + 1)), .int (xs (6 * c + 2))]) wkX10_feed (tc_feed (N := N) C (xs (6 * c + 1)) (xs (6 * c + 2)) e1) rfl rfl m_3_95 rfl (l_room (Nat.le_of_ble_eq_true rfl) (Nat.le_of_ble_eq_true rfl)) (Nat.le_of_ble_eq_true rfl) dL_law_806 ?_
  refine l_a2 X dL_law_809 ?_
  refine l_arg X hi 1 (by omega) rfl dL_law_810 dL_law_811 dL_law_812 dL_law_813 dL_law_814 ?_
  refine l_arg X hi 2 (by omega) rfl dL_law_815 dL_law_816 dL_law_817 dL_law_818 dL_law_819 ?_
  refine l_M X (N := N) (C := C1) (st := [.int r]) (As := [.int (xs (6 * c + 1)), .int (xs (6 * c + 2))]) wkX11_feed (tm_feed (N := C1) N (xs (6 * c + 1)) (xs (6 * c + 2)) e2) rfl rfl m_6_31 rfl (l_room (Nat.le_of_ble_eq_true rfl) (Nat.le_of_ble_eq_true rfl)) (Nat.le_of_ble_eq_true rfl) dL_law_820 ?_
  refine l_eq X 1854 (by decide) dL_law_823 ?_
  exact K C1 N1 hR
set_option maxRecDepth 100000 in
set_option maxHeartbeats 4000000 in
theorem lwc_15 (X : LX p s m args meth c0 D cy ad A cs sl b L xs) (hc : c < 64) (hi : 6 * c + 6 ≤ L) (h : Rel c C N) (K : ∀ C1 N1, Rel (c + 1) C1 N1 → LG p l e s m args below meth c0 D cy ad A cs sl Q b c 1854 [] (wfC N1 C1)) : LG p l e s m args below meth c0 D cy ad A cs sl Q b c 828 [] (wfC N C) := by
  obtain ⟨r, C1, N1, e1, e2, hR⟩ := op_wipe h 
  refine l_a1 X dL_law_828 ?_
  refine l_C X (N := N) (C := C) (st := []) (As := []) wkX10_wipe (tc_wipe (N := N) C  e1) rfl rfl m_3_103 rfl (l_room (Nat.le_of_ble_eq_true rfl) (Nat.le_of_ble_eq_true rfl)) (Nat.le_of_ble_eq_true rfl) dL_law_829 ?_
  refine l_a2 X dL_law_832 ?_
  refine l_M X (N := N) (C := C1) (st := [.int r]) (As := []) wkX11_wipe (tm_wipe (N := C1) N  e2) rfl rfl m_6_35 rfl (l_room (Nat.le_of_ble_eq_true rfl) (Nat.le_of_ble_eq_true rfl)) (Nat.le_of_ble_eq_true rfl) dL_law_833 ?_
  refine l_eq X 1854 (by decide) dL_law_836 ?_
  exact K C1 N1 hR
set_option maxRecDepth 100000 in
set_option maxHeartbeats 4000000 in
theorem lwc_16 (X : LX p s m args meth c0 D cy ad A cs sl b L xs) (hc : c < 64) (hi : 6 * c + 6 ≤ L) (h : Rel c C N) (K : ∀ C1 N1, Rel (c + 1) C1 N1 → LG p l e s m args below meth c0 D cy ad A cs sl Q b c 1854 [] (wfC N1 C1)) : LG p l e s m args below meth c0 D cy ad A cs sl Q b c 841 [] (wfC N C) := by
  obtain ⟨r, C1, N1, e1, e2, hR⟩ := op_law h 
  refine l_a1 X dL_law_841 ?_
  refine l_C X (N := N) (C := C) (st := []) (As := []) wkX10_law (tc_law (N := N) C  e1) rfl rfl m_3_107 rfl (l_room (Nat.le_of_ble_eq_true rfl) (Nat.le_of_ble_eq_true rfl)) (Nat.le_of_ble_eq_true rfl) dL_law_842 ?_
  refine l_a2 X dL_law_845 ?_
  refine l_M X (N := N) (C := C1) (st := [.int r]) (As := []) wkX11_law (tm_law (N := C1) N  e2) rfl rfl m_6_39 rfl (l_room (Nat.le_of_ble_eq_true rfl) (Nat.le_of_ble_eq_true rfl)) (Nat.le_of_ble_eq_true rfl) dL_law_846 ?_
  refine l_eq X 1854 (by decide) dL_law_849 ?_
  exact K C1 N1 hR
set_option maxRecDepth 100000 in
set_option maxHeartbeats 4000000 in
theorem lwc_17 (X : LX p s m args meth c0 D cy ad A cs sl b L xs) (hc : c < 64) (hi : 6 * c + 6 ≤ L) (h : Rel c C N) (K : ∀ C1 N1, Rel (c + 1) C1 N1 → LG p l e s m args below meth c0 D cy ad A cs sl Q b c 1854 [] (wfC N1 C1)) : LG p l e s m args below meth c0 D cy ad A cs sl Q b c 854 [] (wfC N C) := by
  obtain ⟨r, C1, N1, e1, e2, hR⟩ := op_lawOf h (xs (6 * c + 1)) (xs (6 * c + 2))
  refine l_a1 X dL_law_854 ?_
  refine l_arg X hi 1 (by omega) rfl dL_law_855 dL_law_856 dL_law_857 dL_law_858 dL_law_859 ?_
  refine l_arg X hi 2 (by omega) rfl dL_law_860 dL_law_861 dL_law_862 dL_law_863 dL_law_864 ?_
  refine l_C X (N := N) (C := C) (st := []) (As := [.int (xs (6 * c + 1)), .int (xs (6 * c + 2))]) wkX10_lawOf (tc_lawOf (N := N) C (xs (6 * c + 1)) (xs (6 * c + 2)) e1) rfl rfl m_3_201 rfl (l_room (Nat.le_of_ble_eq_true rfl) (Nat.le_of_ble_eq_true rfl)) (Nat.le_of_ble_eq_true rfl) dL_law_865 ?_
  refine l_a2 X dL_law_868 ?_
  refine l_arg X hi 1 (by omega) rfl dL_law_869 dL_law_870 dL_law_871 dL_law_872 dL_law_873 ?_
  refine l_arg X hi 2 (by omega) rfl dL_law_874 dL_law_875 dL_law_876 dL_law_877 dL_law_878 ?_
  refine l_M X (N := N) (C := C1) (st := [.int r]) (As := [.int (xs (6 * c + 1)), .int (xs (6 * c + 2))]) wkX11_lawOf (tm_lawOf (N := C1) N (xs (6 * c + 1)) (xs (6 * c + 2)) e2) rfl rfl m_6_70 rfl (l_room (Nat.le_of_ble_eq_true rfl) (Nat.le_of_ble_eq_true rfl)) (Nat.le_of_ble_eq_true rfl) dL_law_879 ?_
  refine l_eq X 1854 (by decide) dL_law_882 ?_
  exact K C1 N1 hR
set_option maxRecDepth 100000 in
set_option maxHeartbeats 4000000 in
theorem lwc_18 (X : LX p s m args meth c0 D cy ad A cs sl b L xs) (hc : c < 64) (hi : 6 * c + 6 ≤ L) (h : Rel c C N) (K : ∀ C1 N1, Rel (c + 1) C1 N1 → LG p l e s m args below meth c0 D cy ad A cs sl Q b c 1854 [] (wfC N1 C1)) : LG p l e s m args below meth c0 D cy ad A cs sl Q b c 887 [] (wfC N C) := by
  obtain ⟨r, C1, N1, e1, e2, hR⟩ := op_force h (xs (6 * c + 1))
  refine l_a1 X dL_law_887 ?_
  refine l_arg X hi 1 (by omega) rfl dL_law_888 dL_law_889 dL_law_890 dL_law_891 dL_law_892 ?_
  refine l_C X (N := N) (C := C) (st := []) (As := [.int (xs (6 * c + 1))]) wkX10_force (tc_force (N := N) C (xs (6 * c + 1)) e1) rfl rfl m_3_209 rfl (l_room (Nat.le_of_ble_eq_true rfl) (Nat.le_of_ble_eq_true rfl)) (Nat.le_of_ble_eq_true rfl) dL_law_893 ?_
  refine l_a2 X dL_law_896 ?_
  refine l_arg X hi 1 (by omega) rfl dL_law_897 dL_law_898 dL_law_899 dL_law_900 dL_law_901 ?_
  refine l_M X (N := N) (C := C1) (st := [.int r]) (As := [.int (xs (6 * c + 1))]) wkX11_force (tm_force (N := C1) N (xs (6 * c + 1)) e2) rfl rfl m_6_78 rfl (l_room (Nat.le_of_ble_eq_true rfl) (Nat.le_of_ble_eq_true rfl)) (Nat.le_of_ble_eq_true rfl) dL_law_902 ?_
  refine l_eq X 1854 (by decide) dL_law_905 ?_
  exact K C1 N1 hR
set_option maxRecDepth 100000 in
set_option maxHeartbeats 4000000 in
theorem lwc_19 (X : LX p s m args meth c0 D cy ad A cs sl b L xs) (hc : c < 64) (hi : 6 * c + 6 ≤ L) (h : Rel c C N) (K : ∀ C1 N1, Rel (c + 1) C1 N1 → LG p l e s m args below meth c0 D cy ad A cs sl Q b c 1854 [] (wfC N1 C1)) : LG p l e s m args below meth c0 D cy ad A cs sl Q b c 910 [] (wfC N C) := by
  obtain ⟨r, C1, N1, e1, e2, hR⟩ := op_leaper h (xs (6 * c + 1))
  refine l_a1 X dL_law_910 ?_
  refine l_arg X hi 1 (by omega) rfl dL_law_911 dL_law_912 dL_law_913 dL_law_914 dL_law_915 ?_
  refine l_C X (N := N) (C := C) (st := []) (As := [.int (xs (6 * c + 1))]) wkX10_leaper (tc_leaper (N := N) C (xs (6 * c + 1)) e1) rfl rfl m_3_213 rfl (l_room (Nat.le_of_ble_eq_true rfl) (Nat.le_of_ble_eq_true rfl)) (Nat.le_of_ble_eq_true rfl) dL_law_916 ?_
  refine l_a2 X dL_law_919 ?_
  refine l_arg X hi 1 (by omega) rfl dL_law_920 dL_law_921 dL_law_922 dL_law_923 dL_law_924 ?_
  refine l_M X (N := N) (C := C1) (st := [.int r]) (As := [.int (xs (6 * c + 1))]) wkX11_leaper (tm_leaper (N := C1) N (xs (6 * c + 1)) e2) rfl rfl m_6_82 rfl (l_room (Nat.le_of_ble_eq_true rfl) (Nat.le_of_ble_eq_true rfl)) (Nat.le_of_ble_eq_true rfl) dL_law_925 ?_
  refine l_eq X 1854 (by decide) dL_law_928 ?_
  exact K C1 N1 hR
set_option maxRecDepth 100000 in
set_option maxHeartbeats 4000000 in
theorem lwc_20 (X : LX p s m args meth c0 D cy ad A cs sl b L xs) (hc : c < 64) (hi : 6 * c + 6 ≤ L) (h : Rel c C N) (K : ∀ C1 N1, Rel (c + 1) C1 N1 → LG p l e s m args below meth c0 D cy ad A cs sl Q b c 1854 [] (wfC N1 C1)) : LG p l e s m args below meth c0 D cy ad A cs sl Q b c 933 [] (wfC N C) := by
  obtain ⟨r, C1, N1, e1, e2, hR⟩ := op_leaperOf h (xs (6 * c + 1)) (xs (6 * c + 2))
  refine l_a1 X dL_law_933 ?_
  refine l_arg X hi 1 (by omega) rfl dL_law_934 dL_law_935 dL_law_936 dL_law_937 dL_law_938 ?_
  refine l_arg X hi 2 (by omega) rfl dL_law_939 dL_law_940 dL_law_941 dL_law_942 dL_law_943 ?_
  refine l_C X (N := N) (C := C) (st := []) (As := [.int (xs (6 * c + 1)), .int (xs (6 * c + 2))]) wkX10_leaperOf (tc_leaperOf (N := N) C (xs (6 * c + 1)) (xs (6 * c + 2)) e1) rfl rfl m_3_221 rfl (l_room (Nat.le_of_ble_eq_true rfl) (Nat.le_of_ble_eq_true rfl)) (Nat.le_of_ble_eq_true rfl) dL_law_944 ?_
  refine l_a2 X dL_law_947 ?_
  refine l_arg X hi 1 (by omega) rfl dL_law_948 dL_law_949 dL_law_950 dL_law_951 dL_law_952 ?_
  refine l_arg X hi 2 (by omega) rfl dL_law_953 dL_law_954 dL_law_955 dL_law_956 dL_law_957 ?_
  refine l_M X (N := N) (C := C1) (st := [.int r]) (As := [.int (xs (6 * c + 1)), .int (xs (6 * c + 2))]) wkX11_leaperOf (tm_leaperOf (N := C1) N (xs (6 * c + 1)) (xs (6 * c + 2)) e2) rfl rfl m_6_86 rfl (l_room (Nat.le_of_ble_eq_true rfl) (Nat.le_of_ble_eq_true rfl)) (Nat.le_of_ble_eq_true rfl) dL_law_958 ?_
  refine l_eq X 1854 (by decide) dL_law_961 ?_
  exact K C1 N1 hR
set_option maxRecDepth 100000 in
set_option maxHeartbeats 4000000 in
theorem lwc_21 (X : LX p s m args meth c0 D cy ad A cs sl b L xs) (hc : c < 64) (hi : 6 * c + 6 ≤ L) (h : Rel c C N) (K : ∀ C1 N1, Rel (c + 1) C1 N1 → LG p l e s m args below meth c0 D cy ad A cs sl Q b c 1854 [] (wfC N1 C1)) : LG p l e s m args below meth c0 D cy ad A cs sl Q b c 966 [] (wfC N C) := by
  obtain ⟨r, C1, N1, e1, e2, hR⟩ := op_tried hc h (xs (6 * c + 1)) (xs (6 * c + 2)) (xs (6 * c + 3))
  refine l_a1 X dL_law_966 ?_
  refine l_arg X hi 1 (by omega) rfl dL_law_967 dL_law_968 dL_law_969 dL_law_970 dL_law_971 ?_
  refine l_arg X hi 2 (by omega) rfl dL_law_972 dL_law_973 dL_law_974 dL_law_975 dL_law_976 ?_
  refine l_arg X hi 3 (by omega) rfl dL_law_977 dL_law_978 dL_law_979 dL_law_980 dL_law_981 ?_
  refine l_C X (N := N) (C := C) (st := []) (As := [.int (xs (6 * c + 1)), .int (xs (6 * c + 2)), .int (xs (6 * c + 3))]) wkX10_tried (tc_tried (N := N) C (xs (6 * c + 1)) (xs (6 * c + 2)) (xs (6 * c + 3)) e1) rfl rfl m_3_229 rfl (l_room (Nat.le_of_ble_eq_true rfl) (Nat.le_of_ble_eq_true rfl)) (Nat.le_of_ble_eq_true rfl) dL_law_982 ?_
  refine l_a2 X dL_law_985 ?_
  refine l_arg X hi 1 (by omega) rfl dL_law_986 dL_law_987 dL_law_988 dL_law_989 dL_law_990 ?_
  refine l_arg X hi 2 (by omega) rfl dL_law_991 dL_law_992 dL_law_993 dL_law_994 dL_law_995 ?_
  refine l_arg X hi 3 (by omega) rfl dL_law_996 dL_law_997 dL_law_998 dL_law_999 dL_law_1000 ?_
  refine l_M X (N := N) (C := C1) (st := [.int r]) (As := [.int (xs (6 * c + 1)), .int (xs (6 * c + 2)), .int (xs (6 * c + 3))]) wkX11_tried (tm_tried (N := C1) N (xs (6 * c + 1)) (xs (6 * c + 2)) (xs (6 * c + 3)) e2) rfl rfl m_6_94 rfl (l_room (Nat.le_of_ble_eq_true rfl) (Nat.le_of_ble_eq_true rfl)) (Nat.le_of_ble_eq_true rfl) dL_law_1001 ?_
  refine l_eq X 1854 (by decide) dL_law_1004 ?_
  exact K C1 N1 hR
set_option maxRecDepth 100000 in
set_option maxHeartbeats 4000000 in
theorem lwc_22 (X : LX p s m args meth c0 D cy ad A cs sl b L xs) (hc : c < 64) (hi : 6 * c + 6 ≤ L) (h : Rel c C N) (K : ∀ C1 N1, Rel (c + 1) C1 N1 → LG p l e s m args below meth c0 D cy ad A cs sl Q b c 1854 [] (wfC N1 C1)) : LG p l e s m args below meth c0 D cy ad A cs sl Q b c 1009 [] (wfC N C) := by
  obtain ⟨r, C1, N1, e1, e2, hR⟩ := op_learnt hc h (xs (6 * c + 1))
  refine l_a1 X dL_law_1009 ?_
  refine l_arg X hi 1 (by omega) rfl dL_law_1010 dL_law_1011 dL_law_1012 dL_law_1013 dL_law_1014 ?_
  refine l_C X (N := N) (C := C) (st := []) (As := [.int (xs (6 * c + 1))]) wkX10_learnt (tc_learnt (N := N) C (xs (6 * c + 1)) e1) rfl rfl m_3_237 rfl (l_room (Nat.le_of_ble_eq_true rfl) (Nat.le_of_ble_eq_true rfl)) (Nat.le_of_ble_eq_true rfl) dL_law_1015 ?_
  refine l_a2 X dL_law_1018 ?_
  refine l_arg X hi 1 (by omega) rfl dL_law_1019 dL_law_1020 dL_law_1021 dL_law_1022 dL_law_1023 ?_
  refine l_M X (N := N) (C := C1) (st := [.int r]) (As := [.int (xs (6 * c + 1))]) wkX11_learnt (tm_learnt (N := C1) N (xs (6 * c + 1)) e2) rfl rfl m_6_98 rfl (l_room (Nat.le_of_ble_eq_true rfl) (Nat.le_of_ble_eq_true rfl)) (Nat.le_of_ble_eq_true rfl) dL_law_1024 ?_
  refine l_eq X 1854 (by decide) dL_law_1027 ?_
  exact K C1 N1 hR
set_option maxRecDepth 100000 in
set_option maxHeartbeats 4000000 in
theorem lwc_23 (X : LX p s m args meth c0 D cy ad A cs sl b L xs) (hc : c < 64) (hi : 6 * c + 6 ≤ L) (h : Rel c C N) (K : ∀ C1 N1, Rel (c + 1) C1 N1 → LG p l e s m args below meth c0 D cy ad A cs sl Q b c 1854 [] (wfC N1 C1)) : LG p l e s m args below meth c0 D cy ad A cs sl Q b c 1032 [] (wfC N C) := by
  obtain ⟨r, C1, N1, e1, e2, hR⟩ := op_learn hc h (xs (6 * c + 1))
  refine l_a1 X dL_law_1032 ?_
  refine l_arg X hi 1 (by omega) rfl dL_law_1033 dL_law_1034 dL_law_1035 dL_law_1036 dL_law_1037 ?_
  refine l_C X (N := N) (C := C) (st := []) (As := [.int (xs (6 * c + 1))]) wkX10_learn (tc_learn (N := N) C (xs (6 * c + 1)) e1) rfl rfl m_4_7 rfl (l_room (Nat.le_of_ble_eq_true rfl) (Nat.le_of_ble_eq_true rfl)) (Nat.le_of_ble_eq_true rfl) dL_law_1038 ?_
  refine l_a2 X dL_law_1041 ?_
  refine l_arg X hi 1 (by omega) rfl dL_law_1042 dL_law_1043 dL_law_1044 dL_law_1045 dL_law_1046 ?_
  refine l_M X (N := N) (C := C1) (st := [.int r]) (As := [.int (xs (6 * c + 1))]) wkX11_learn (tm_learn (N := C1) N (xs (6 * c + 1)) e2) rfl rfl m_6_106 rfl (l_room (Nat.le_of_ble_eq_true rfl) (Nat.le_of_ble_eq_true rfl)) (Nat.le_of_ble_eq_true rfl) dL_law_1047 ?_
  refine l_eq X 1854 (by decide) dL_law_1050 ?_
  exact K C1 N1 hR
set_option maxRecDepth 100000 in
set_option maxHeartbeats 4000000 in
theorem lwc_24 (X : LX p s m args meth c0 D cy ad A cs sl b L xs) (hc : c < 64) (hi : 6 * c + 6 ≤ L) (h : Rel c C N) (K : ∀ C1 N1, Rel (c + 1) C1 N1 → LG p l e s m args below meth c0 D cy ad A cs sl Q b c 1854 [] (wfC N1 C1)) : LG p l e s m args below meth c0 D cy ad A cs sl Q b c 1055 [] (wfC N C) := by
  obtain ⟨r, C1, N1, e1, e2, hR⟩ := op_risk h (xs (6 * c + 1)) (xs (6 * c + 2)) (xs (6 * c + 3))
  refine l_a1 X dL_law_1055 ?_
  refine l_arg X hi 1 (by omega) rfl dL_law_1056 dL_law_1057 dL_law_1058 dL_law_1059 dL_law_1060 ?_
  refine l_arg X hi 2 (by omega) rfl dL_law_1061 dL_law_1062 dL_law_1063 dL_law_1064 dL_law_1065 ?_
  refine l_arg X hi 3 (by omega) rfl dL_law_1066 dL_law_1067 dL_law_1068 dL_law_1069 dL_law_1070 ?_
  refine l_C X (N := N) (C := C) (st := []) (As := [.int (xs (6 * c + 1)), .int (xs (6 * c + 2)), .int (xs (6 * c + 3))]) wkX10_risk (tc_risk (N := N) C (xs (6 * c + 1)) (xs (6 * c + 2)) (xs (6 * c + 3)) e1) rfl rfl m_4_11 rfl (l_room (Nat.le_of_ble_eq_true rfl) (Nat.le_of_ble_eq_true rfl)) (Nat.le_of_ble_eq_true rfl) dL_law_1071 ?_
  refine l_a2 X dL_law_1074 ?_
  refine l_arg X hi 1 (by omega) rfl dL_law_1075 dL_law_1076 dL_law_1077 dL_law_1078 dL_law_1079 ?_
  refine l_arg X hi 2 (by omega) rfl dL_law_1080 dL_law_1081 dL_law_1082 dL_law_1083 dL_law_1084 ?_
  refine l_arg X hi 3 (by omega) rfl dL_law_1085 dL_law_1086 dL_law_1087 dL_law_1088 dL_law_1089 ?_
  refine l_M X (N := N) (C := C1) (st := [.int r]) (As := [.int (xs (6 * c + 1)), .int (xs (6 * c + 2)), .int (xs (6 * c + 3))]) wkX11_risk (tm_risk (N := C1) N (xs (6 * c + 1)) (xs (6 * c + 2)) (xs (6 * c + 3)) e2) rfl rfl m_6_110 rfl (l_room (Nat.le_of_ble_eq_true rfl) (Nat.le_of_ble_eq_true rfl)) (Nat.le_of_ble_eq_true rfl) dL_law_1090 ?_
  refine l_eq X 1854 (by decide) dL_law_1093 ?_
  exact K C1 N1 hR
set_option maxRecDepth 100000 in
set_option maxHeartbeats 4000000 in
theorem lwc_25 (X : LX p s m args meth c0 D cy ad A cs sl b L xs) (hc : c < 64) (hi : 6 * c + 6 ≤ L) (h : Rel c C N) (K : ∀ C1 N1, Rel (c + 1) C1 N1 → LG p l e s m args below meth c0 D cy ad A cs sl Q b c 1854 [] (wfC N1 C1)) : LG p l e s m args below meth c0 D cy ad A cs sl Q b c 1098 [] (wfC N C) := by
  obtain ⟨r, C1, N1, e1, e2, hR⟩ := op_calm h (xs (6 * c + 1)) (xs (6 * c + 2))
  refine l_a1 X dL_law_1098 ?_
  refine l_arg X hi 1 (by omega) rfl dL_law_1099 dL_law_1100 dL_law_1101 dL_law_1102 dL_law_1103 ?_
  refine l_arg X hi 2 (by omega) rfl dL_law_1104 dL_law_1105 dL_law_1106 dL_law_1107 dL_law_1108 ?_
  refine l_C X (N := N) (C := C) (st := []) (As := [.int (xs (6 * c + 1)), .int (xs (6 * c + 2))]) wkX10_calm (tc_calm (N := N) C (xs (6 * c + 1)) (xs (6 * c + 2)) e1) rfl rfl m_4_28 rfl (l_room (Nat.le_of_ble_eq_true rfl) (Nat.le_of_ble_eq_true rfl)) (Nat.le_of_ble_eq_true rfl) dL_law_1109 ?_
  refine l_a2 X dL_law_1112 ?_
  refine l_arg X hi 1 (by omega) rfl dL_law_1113 dL_law_1114 dL_law_1115 dL_law_1116 dL_law_1117 ?_
  refine l_arg X hi 2 (by omega) rfl dL_law_1118 dL_law_1119 dL_law_1120 dL_law_1121 dL_law_1122 ?_
  refine l_M X (N := N) (C := C1) (st := [.int r]) (As := [.int (xs (6 * c + 1)), .int (xs (6 * c + 2))]) wkX11_calm (tm_calm (N := C1) N (xs (6 * c + 1)) (xs (6 * c + 2)) e2) rfl rfl m_6_118 rfl (l_room (Nat.le_of_ble_eq_true rfl) (Nat.le_of_ble_eq_true rfl)) (Nat.le_of_ble_eq_true rfl) dL_law_1123 ?_
  refine l_eq X 1854 (by decide) dL_law_1126 ?_
  exact K C1 N1 hR
set_option maxRecDepth 100000 in
set_option maxHeartbeats 4000000 in
theorem lwc_26 (X : LX p s m args meth c0 D cy ad A cs sl b L xs) (hc : c < 64) (hi : 6 * c + 6 ≤ L) (h : Rel c C N) (K : ∀ C1 N1, Rel (c + 1) C1 N1 → LG p l e s m args below meth c0 D cy ad A cs sl Q b c 1854 [] (wfC N1 C1)) : LG p l e s m args below meth c0 D cy ad A cs sl Q b c 1131 [] (wfC N C) := by
  obtain ⟨r, C1, N1, e1, e2, hR⟩ := op_leg h (xs (6 * c + 1)) (xs (6 * c + 2))
  refine l_a1 X dL_law_1131 ?_
  refine l_arg X hi 1 (by omega) rfl dL_law_1132 dL_law_1133 dL_law_1134 dL_law_1135 dL_law_1136 ?_
  refine l_arg X hi 2 (by omega) rfl dL_law_1137 dL_law_1138 dL_law_1139 dL_law_1140 dL_law_1141 ?_
  refine l_C X (N := N) (C := C) (st := []) (As := [.int (xs (6 * c + 1)), .int (xs (6 * c + 2))]) wkX10_leg (tc_leg (N := N) C (xs (6 * c + 1)) (xs (6 * c + 2)) e1) rfl rfl m_4_36 rfl (l_room (Nat.le_of_ble_eq_true rfl) (Nat.le_of_ble_eq_true rfl)) (Nat.le_of_ble_eq_true rfl) dL_law_1142 ?_
  refine l_a2 X dL_law_1145 ?_
  refine l_arg X hi 1 (by omega) rfl dL_law_1146 dL_law_1147 dL_law_1148 dL_law_1149 dL_law_1150 ?_
  refine l_arg X hi 2 (by omega) rfl dL_law_1151 dL_law_1152 dL_law_1153 dL_law_1154 dL_law_1155 ?_
  refine l_M X (N := N) (C := C1) (st := [.int r]) (As := [.int (xs (6 * c + 1)), .int (xs (6 * c + 2))]) wkX11_leg (tm_leg (N := C1) N (xs (6 * c + 1)) (xs (6 * c + 2)) e2) rfl rfl m_6_122 rfl (l_room (Nat.le_of_ble_eq_true rfl) (Nat.le_of_ble_eq_true rfl)) (Nat.le_of_ble_eq_true rfl) dL_law_1156 ?_
  refine l_eq X 1854 (by decide) dL_law_1159 ?_
  exact K C1 N1 hR
set_option maxRecDepth 100000 in
set_option maxHeartbeats 4000000 in
theorem lwc_27 (X : LX p s m args meth c0 D cy ad A cs sl b L xs) (hc : c < 64) (hi : 6 * c + 6 ≤ L) (h : Rel c C N) (K : ∀ C1 N1, Rel (c + 1) C1 N1 → LG p l e s m args below meth c0 D cy ad A cs sl Q b c 1854 [] (wfC N1 C1)) : LG p l e s m args below meth c0 D cy ad A cs sl Q b c 1164 [] (wfC N C) := by
  obtain ⟨r, C1, N1, e1, e2, hR⟩ := op_round h (xs (6 * c + 1)) (xs (6 * c + 2)) (xs (6 * c + 3)) (xs (6 * c + 4))
  refine l_a1 X dL_law_1164 ?_
  refine l_arg X hi 1 (by omega) rfl dL_law_1165 dL_law_1166 dL_law_1167 dL_law_1168 dL_law_1169 ?_
  refine l_arg X hi 2 (by omega) rfl dL_law_1170 dL_law_1171 dL_law_1172 dL_law_1173 dL_law_1174 ?_
  refine l_arg X hi 3 (by omega) rfl dL_law_1175 dL_law_1176 dL_law_1177 dL_law_1178 dL_law_1179 ?_
  refine l_arg X hi 4 (by omega) rfl dL_law_1180 dL_law_1181 dL_law_1182 dL_law_1183 dL_law_1184 ?_
  refine l_C X (N := N) (C := C) (st := []) (As := [.int (xs (6 * c + 1)), .int (xs (6 * c + 2)), .int (xs (6 * c + 3)), .int (xs (6 * c + 4))]) wkX10_round (tc_round (N := N) C (xs (6 * c + 1)) (xs (6 * c + 2)) (xs (6 * c + 3)) (xs (6 * c + 4)) e1) rfl rfl m_4_44 rfl (l_room (Nat.le_of_ble_eq_true rfl) (Nat.le_of_ble_eq_true rfl)) (Nat.le_of_ble_eq_true rfl) dL_law_1185 ?_
  refine l_a2 X dL_law_1188 ?_
  refine l_arg X hi 1 (by omega) rfl dL_law_1189 dL_law_1190 dL_law_1191 dL_law_1192 dL_law_1193 ?_
  refine l_arg X hi 2 (by omega) rfl dL_law_1194 dL_law_1195 dL_law_1196 dL_law_1197 dL_law_1198 ?_
  refine l_arg X hi 3 (by omega) rfl dL_law_1199 dL_law_1200 dL_law_1201 dL_law_1202 dL_law_1203 ?_
  refine l_arg X hi 4 (by omega) rfl dL_law_1204 dL_law_1205 dL_law_1206 dL_law_1207 dL_law_1208 ?_
  refine l_M X (N := N) (C := C1) (st := [.int r]) (As := [.int (xs (6 * c + 1)), .int (xs (6 * c + 2)), .int (xs (6 * c + 3)), .int (xs (6 * c + 4))]) wkX11_round (tm_round (N := C1) N (xs (6 * c + 1)) (xs (6 * c + 2)) (xs (6 * c + 3)) (xs (6 * c + 4)) e2) rfl rfl m_6_134 rfl (l_room (Nat.le_of_ble_eq_true rfl) (Nat.le_of_ble_eq_true rfl)) (Nat.le_of_ble_eq_true rfl) dL_law_1209 ?_
  refine l_eq X 1854 (by decide) dL_law_1212 ?_
  exact K C1 N1 hR
set_option maxRecDepth 100000 in
set_option maxHeartbeats 4000000 in
theorem lwc_28 (X : LX p s m args meth c0 D cy ad A cs sl b L xs) (hc : c < 64) (hi : 6 * c + 6 ≤ L) (h : Rel c C N) (K : ∀ C1 N1, Rel (c + 1) C1 N1 → LG p l e s m args below meth c0 D cy ad A cs sl Q b c 1854 [] (wfC N1 C1)) : LG p l e s m args below meth c0 D cy ad A cs sl Q b c 1217 [] (wfC N C) := by
  obtain ⟨r, C1, N1, e1, e2, hR⟩ := op_best h (xs (6 * c + 1)) (xs (6 * c + 2)) (xs (6 * c + 3)) (xs (6 * c + 4))
  refine l_a1 X dL_law_1217 ?_
  refine l_arg X hi 1 (by omega) rfl dL_law_1218 dL_law_1219 dL_law_1220 dL_law_1221 dL_law_1222 ?_
  refine l_arg X hi 2 (by omega) rfl dL_law_1223 dL_law_1224 dL_law_1225 dL_law_1226 dL_law_1227 ?_
  refine l_arg X hi 3 (by omega) rfl dL_law_1228 dL_law_1229 dL_law_1230 dL_law_1231 dL_law_1232 ?_
  refine l_arg X hi 4 (by omega) rfl dL_law_1233 dL_law_1234 dL_law_1235 dL_law_1236 dL_law_1237 ?_
  refine l_C X (N := N) (C := C) (st := []) (As := [.int (xs (6 * c + 1)), .int (xs (6 * c + 2)), .int (xs (6 * c + 3)), .int (xs (6 * c + 4))]) wkX10_best (tc_best (N := N) C (xs (6 * c + 1)) (xs (6 * c + 2)) (xs (6 * c + 3)) (xs (6 * c + 4)) e1) rfl rfl m_4_83 rfl (l_room (Nat.le_of_ble_eq_true rfl) (Nat.le_of_ble_eq_true rfl)) (Nat.le_of_ble_eq_true rfl) dL_law_1238 ?_
  refine l_a2 X dL_law_1241 ?_
  refine l_arg X hi 1 (by omega) rfl dL_law_1242 dL_law_1243 dL_law_1244 dL_law_1245 dL_law_1246 ?_
  refine l_arg X hi 2 (by omega) rfl dL_law_1247 dL_law_1248 dL_law_1249 dL_law_1250 dL_law_1251 ?_
  refine l_arg X hi 3 (by omega) rfl dL_law_1252 dL_law_1253 dL_law_1254 dL_law_1255 dL_law_1256 ?_
  refine l_arg X hi 4 (by omega) rfl dL_law_1257 dL_law_1258 dL_law_1259 dL_law_1260 dL_law_1261 ?_
  refine l_M X (N := N) (C := C1) (st := [.int r]) (As := [.int (xs (6 * c + 1)), .int (xs (6 * c + 2)), .int (xs (6 * c + 3)), .int (xs (6 * c + 4))]) wkX11_best (tm_best (N := C1) N (xs (6 * c + 1)) (xs (6 * c + 2)) (xs (6 * c + 3)) (xs (6 * c + 4)) e2) rfl rfl m_6_154 rfl (l_room (Nat.le_of_ble_eq_true rfl) (Nat.le_of_ble_eq_true rfl)) (Nat.le_of_ble_eq_true rfl) dL_law_1262 ?_
  refine l_eq X 1854 (by decide) dL_law_1265 ?_
  exact K C1 N1 hR
set_option maxRecDepth 100000 in
set_option maxHeartbeats 4000000 in
theorem lwc_29 (X : LX p s m args meth c0 D cy ad A cs sl b L xs) (hc : c < 64) (hi : 6 * c + 6 ≤ L) (h : Rel c C N) (K : ∀ C1 N1, Rel (c + 1) C1 N1 → LG p l e s m args below meth c0 D cy ad A cs sl Q b c 1854 [] (wfC N1 C1)) : LG p l e s m args below meth c0 D cy ad A cs sl Q b c 1270 [] (wfC N C) := by
  obtain ⟨r, C1, N1, e1, e2, hR⟩ := op_team h (xs (6 * c + 1)) (xs (6 * c + 2)) (xs (6 * c + 3)) (xs (6 * c + 4))
  refine l_a1 X dL_law_1270 ?_
  refine l_arg X hi 1 (by omega) rfl dL_law_1271 dL_law_1272 dL_law_1273 dL_law_1274 dL_law_1275 ?_
  refine l_arg X hi 2 (by omega) rfl dL_law_1276 dL_law_1277 dL_law_1278 dL_law_1279 dL_law_1280 ?_
  refine l_arg X hi 3 (by omega) rfl dL_law_1281 dL_law_1282 dL_law_1283 dL_law_1284 dL_law_1285 ?_
  refine l_arg X hi 4 (by omega) rfl dL_law_1286 dL_law_1287 dL_law_1288 dL_law_1289 dL_law_1290 ?_
  refine l_C X (N := N) (C := C) (st := []) (As := [.int (xs (6 * c + 1)), .int (xs (6 * c + 2)), .int (xs (6 * c + 3)), .int (xs (6 * c + 4))]) wkX10_team (tc_team (N := N) C (xs (6 * c + 1)) (xs (6 * c + 2)) (xs (6 * c + 3)) (xs (6 * c + 4)) e1) rfl rfl m_4_122 rfl (l_room (Nat.le_of_ble_eq_true rfl) (Nat.le_of_ble_eq_true rfl)) (Nat.le_of_ble_eq_true rfl) dL_law_1291 ?_
  refine l_a2 X dL_law_1294 ?_
  refine l_arg X hi 1 (by omega) rfl dL_law_1295 dL_law_1296 dL_law_1297 dL_law_1298 dL_law_1299 ?_
  refine l_arg X hi 2 (by omega) rfl dL_law_1300 dL_law_1301 dL_law_1302 dL_law_1303 dL_law_1304 ?_
  refine l_arg X hi 3 (by omega) rfl dL_law_1305 dL_law_1306 dL_law_1307 dL_law_1308 dL_law_1309 ?_
  refine l_arg X hi 4 (by omega) rfl dL_law_1310 dL_law_1311 dL_law_1312 dL_law_1313 dL_law_1314 ?_
  refine l_M X (N := N) (C := C1) (st := [.int r]) (As := [.int (xs (6 * c + 1)), .int (xs (6 * c + 2)), .int (xs (6 * c + 3)), .int (xs (6 * c + 4))]) wkX11_team (tm_team (N := C1) N (xs (6 * c + 1)) (xs (6 * c + 2)) (xs (6 * c + 3)) (xs (6 * c + 4)) e2) rfl rfl m_6_166 rfl (l_room (Nat.le_of_ble_eq_true rfl) (Nat.le_of_ble_eq_true rfl)) (Nat.le_of_ble_eq_true rfl) dL_law_1315 ?_
  refine l_eq X 1854 (by decide) dL_law_1318 ?_
  exact K C1 N1 hR
set_option maxRecDepth 100000 in
set_option maxHeartbeats 4000000 in
theorem lwc_30 (X : LX p s m args meth c0 D cy ad A cs sl b L xs) (hc : c < 64) (hi : 6 * c + 6 ≤ L) (h : Rel c C N) (K : ∀ C1 N1, Rel (c + 1) C1 N1 → LG p l e s m args below meth c0 D cy ad A cs sl Q b c 1854 [] (wfC N1 C1)) : LG p l e s m args below meth c0 D cy ad A cs sl Q b c 1323 [] (wfC N C) := by
  obtain ⟨r, C1, N1, e1, e2, hR⟩ := op_safest h (xs (6 * c + 1)) (xs (6 * c + 2))
  refine l_a1 X dL_law_1323 ?_
  refine l_arg X hi 1 (by omega) rfl dL_law_1324 dL_law_1325 dL_law_1326 dL_law_1327 dL_law_1328 ?_
  refine l_arg X hi 2 (by omega) rfl dL_law_1329 dL_law_1330 dL_law_1331 dL_law_1332 dL_law_1333 ?_
  refine l_C X (N := N) (C := C) (st := []) (As := [.int (xs (6 * c + 1)), .int (xs (6 * c + 2))]) wkX10_safest (tc_safest (N := N) C (xs (6 * c + 1)) (xs (6 * c + 2)) e1) rfl rfl m_4_32 rfl (l_room (Nat.le_of_ble_eq_true rfl) (Nat.le_of_ble_eq_true rfl)) (Nat.le_of_ble_eq_true rfl) dL_law_1334 ?_
  refine l_a2 X dL_law_1337 ?_
  refine l_arg X hi 1 (by omega) rfl dL_law_1338 dL_law_1339 dL_law_1340 dL_law_1341 dL_law_1342 ?_
  refine l_arg X hi 2 (by omega) rfl dL_law_1343 dL_law_1344 dL_law_1345 dL_law_1346 dL_law_1347 ?_
  refine l_M X (N := N) (C := C1) (st := [.int r]) (As := [.int (xs (6 * c + 1)), .int (xs (6 * c + 2))]) wkX11_safest (tm_safest (N := C1) N (xs (6 * c + 1)) (xs (6 * c + 2)) e2) rfl rfl m_6_171 rfl (l_room (Nat.le_of_ble_eq_true rfl) (Nat.le_of_ble_eq_true rfl)) (Nat.le_of_ble_eq_true rfl) dL_law_1348 ?_
  refine l_eq X 1854 (by decide) dL_law_1351 ?_
  exact K C1 N1 hR
set_option maxRecDepth 100000 in
set_option maxHeartbeats 4000000 in
theorem lwc_31 (X : LX p s m args meth c0 D cy ad A cs sl b L xs) (hc : c < 64) (hi : 6 * c + 6 ≤ L) (h : Rel c C N) (K : ∀ C1 N1, Rel (c + 1) C1 N1 → LG p l e s m args below meth c0 D cy ad A cs sl Q b c 1854 [] (wfC N1 C1)) : LG p l e s m args below meth c0 D cy ad A cs sl Q b c 1356 [] (wfC N C) := by
  obtain ⟨r, C1, N1, e1, e2, hR⟩ := op_missed h (xs (6 * c + 1)) (xs (6 * c + 2)) (xs (6 * c + 3)) (xs (6 * c + 4)) (xs (6 * c + 5))
  refine l_a1 X dL_law_1356 ?_
  refine l_arg X hi 1 (by omega) rfl dL_law_1357 dL_law_1358 dL_law_1359 dL_law_1360 dL_law_1361 ?_
  refine l_arg X hi 2 (by omega) rfl dL_law_1362 dL_law_1363 dL_law_1364 dL_law_1365 dL_law_1366 ?_
  refine l_arg X hi 3 (by omega) rfl dL_law_1367 dL_law_1368 dL_law_1369 dL_law_1370 dL_law_1371 ?_
  refine l_arg X hi 4 (by omega) rfl dL_law_1372 dL_law_1373 dL_law_1374 dL_law_1375 dL_law_1376 ?_
  refine l_arg X hi 5 (by omega) rfl dL_law_1377 dL_law_1378 dL_law_1379 dL_law_1380 dL_law_1381 ?_
  refine l_C X (N := N) (C := C) (st := []) (As := [.int (xs (6 * c + 1)), .int (xs (6 * c + 2)), .int (xs (6 * c + 3)), .int (xs (6 * c + 4)), .int (xs (6 * c + 5))]) wkX10_missed (tc_missed (N := N) C (xs (6 * c + 1)) (xs (6 * c + 2)) (xs (6 * c + 3)) (xs (6 * c + 4)) (xs (6 * c + 5)) e1) rfl rfl m_4_150 rfl (l_room (Nat.le_of_ble_eq_true rfl) (Nat.le_of_ble_eq_true rfl)) (Nat.le_of_ble_eq_true rfl) dL_law_1382 ?_
  refine l_a2 X dL_law_1385 ?_
  refine l_arg X hi 1 (by omega) rfl dL_law_1386 dL_law_1387 dL_law_1388 dL_law_1389 dL_law_1390 ?_
  refine l_arg X hi 2 (by omega) rfl dL_law_1391 dL_law_1392 dL_law_1393 dL_law_1394 dL_law_1395 ?_
  refine l_arg X hi 3 (by omega) rfl dL_law_1396 dL_law_1397 dL_law_1398 dL_law_1399 dL_law_1400 ?_
  refine l_arg X hi 4 (by omega) rfl dL_law_1401 dL_law_1402 dL_law_1403 dL_law_1404 dL_law_1405 ?_
  refine l_arg X hi 5 (by omega) rfl dL_law_1406 dL_law_1407 dL_law_1408 dL_law_1409 dL_law_1410 ?_
  refine l_M X (N := N) (C := C1) (st := [.int r]) (As := [.int (xs (6 * c + 1)), .int (xs (6 * c + 2)), .int (xs (6 * c + 3)), .int (xs (6 * c + 4)), .int (xs (6 * c + 5))]) wkX11_missed (tm_missed (N := C1) N (xs (6 * c + 1)) (xs (6 * c + 2)) (xs (6 * c + 3)) (xs (6 * c + 4)) (xs (6 * c + 5)) e2) rfl rfl m_6_175 rfl (l_room (Nat.le_of_ble_eq_true rfl) (Nat.le_of_ble_eq_true rfl)) (Nat.le_of_ble_eq_true rfl) dL_law_1411 ?_
  refine l_eq X 1854 (by decide) dL_law_1414 ?_
  exact K C1 N1 hR
set_option maxRecDepth 100000 in
set_option maxHeartbeats 4000000 in
theorem lwc_32 (X : LX p s m args meth c0 D cy ad A cs sl b L xs) (hc : c < 64) (hi : 6 * c + 6 ≤ L) (h : Rel c C N) (K : ∀ C1 N1, Rel (c + 1) C1 N1 → LG p l e s m args below meth c0 D cy ad A cs sl Q b c 1854 [] (wfC N1 C1)) : LG p l e s m args below meth c0 D cy ad A cs sl Q b c 1419 [] (wfC N C) := by
  obtain ⟨r, C1, N1, e1, e2, hR⟩ := op_pilot h (xs (6 * c + 1)) (xs (6 * c + 2)) (xs (6 * c + 3))
  refine l_a1 X dL_law_1419 ?_
  refine l_arg X hi 1 (by omega) rfl dL_law_1420 dL_law_1421 dL_law_1422 dL_law_1423 dL_law_1424 ?_
  refine l_arg X hi 2 (by omega) rfl dL_law_1425 dL_law_1426 dL_law_1427 dL_law_1428 dL_law_1429 ?_
  refine l_arg X hi 3 (by omega) rfl dL_law_1430 dL_law_1431 dL_law_1432 dL_law_1433 dL_law_1434 ?_
  refine l_C X (N := N) (C := C) (st := []) (As := [.int (xs (6 * c + 1)), .int (xs (6 * c + 2)), .int (xs (6 * c + 3))]) wkX10_pilot (tc_pilot (N := N) C (xs (6 * c + 1)) (xs (6 * c + 2)) (xs (6 * c + 3)) e1) rfl rfl m_4_158 rfl (l_room (Nat.le_of_ble_eq_true rfl) (Nat.le_of_ble_eq_true rfl)) (Nat.le_of_ble_eq_true rfl) dL_law_1435 ?_
  refine l_a2 X dL_law_1438 ?_
  refine l_arg X hi 1 (by omega) rfl dL_law_1439 dL_law_1440 dL_law_1441 dL_law_1442 dL_law_1443 ?_
  refine l_arg X hi 2 (by omega) rfl dL_law_1444 dL_law_1445 dL_law_1446 dL_law_1447 dL_law_1448 ?_
  refine l_arg X hi 3 (by omega) rfl dL_law_1449 dL_law_1450 dL_law_1451 dL_law_1452 dL_law_1453 ?_
  refine l_M X (N := N) (C := C1) (st := [.int r]) (As := [.int (xs (6 * c + 1)), .int (xs (6 * c + 2)), .int (xs (6 * c + 3))]) wkX11_pilot (tm_pilot (N := C1) N (xs (6 * c + 1)) (xs (6 * c + 2)) (xs (6 * c + 3)) e2) rfl rfl m_6_179 rfl (l_room (Nat.le_of_ble_eq_true rfl) (Nat.le_of_ble_eq_true rfl)) (Nat.le_of_ble_eq_true rfl) dL_law_1454 ?_
  refine l_eq X 1854 (by decide) dL_law_1457 ?_
  exact K C1 N1 hR
set_option maxRecDepth 100000 in
set_option maxHeartbeats 4000000 in
theorem lwc_33 (X : LX p s m args meth c0 D cy ad A cs sl b L xs) (hc : c < 64) (hi : 6 * c + 6 ≤ L) (h : Rel c C N) (K : ∀ C1 N1, Rel (c + 1) C1 N1 → LG p l e s m args below meth c0 D cy ad A cs sl Q b c 1854 [] (wfC N1 C1)) : LG p l e s m args below meth c0 D cy ad A cs sl Q b c 1462 [] (wfC N C) := by
  obtain ⟨r, C1, N1, e1, e2, hR⟩ := op_still h (xs (6 * c + 1)) (xs (6 * c + 2))
  refine l_a1 X dL_law_1462 ?_
  refine l_arg X hi 1 (by omega) rfl dL_law_1463 dL_law_1464 dL_law_1465 dL_law_1466 dL_law_1467 ?_
  refine l_arg X hi 2 (by omega) rfl dL_law_1468 dL_law_1469 dL_law_1470 dL_law_1471 dL_law_1472 ?_
  refine l_C X (N := N) (C := C) (st := []) (As := [.int (xs (6 * c + 1)), .int (xs (6 * c + 2))]) wkX10_still (tc_still (N := N) C (xs (6 * c + 1)) (xs (6 * c + 2)) e1) rfl rfl m_4_162 rfl (l_room (Nat.le_of_ble_eq_true rfl) (Nat.le_of_ble_eq_true rfl)) (Nat.le_of_ble_eq_true rfl) dL_law_1473 ?_
  refine l_a2 X dL_law_1476 ?_
  refine l_arg X hi 1 (by omega) rfl dL_law_1477 dL_law_1478 dL_law_1479 dL_law_1480 dL_law_1481 ?_
  refine l_arg X hi 2 (by omega) rfl dL_law_1482 dL_law_1483 dL_law_1484 dL_law_1485 dL_law_1486 ?_
  refine l_M X (N := N) (C := C1) (st := [.int r]) (As := [.int (xs (6 * c + 1)), .int (xs (6 * c + 2))]) wkX11_still (tm_still (N := C1) N (xs (6 * c + 1)) (xs (6 * c + 2)) e2) rfl rfl m_6_183 rfl (l_room (Nat.le_of_ble_eq_true rfl) (Nat.le_of_ble_eq_true rfl)) (Nat.le_of_ble_eq_true rfl) dL_law_1487 ?_
  refine l_eq X 1854 (by decide) dL_law_1490 ?_
  exact K C1 N1 hR
set_option maxRecDepth 100000 in
set_option maxHeartbeats 4000000 in
theorem lwc_34 (X : LX p s m args meth c0 D cy ad A cs sl b L xs) (hc : c < 64) (hi : 6 * c + 6 ≤ L) (h : Rel c C N) (K : ∀ C1 N1, Rel (c + 1) C1 N1 → LG p l e s m args below meth c0 D cy ad A cs sl Q b c 1854 [] (wfC N1 C1)) : LG p l e s m args below meth c0 D cy ad A cs sl Q b c 1495 [] (wfC N C) := by
  obtain ⟨r, C1, N1, e1, e2, hR⟩ := op_firstOut h (xs (6 * c + 1))
  refine l_a1 X dL_law_1495 ?_
  refine l_arg X hi 1 (by omega) rfl dL_law_1496 dL_law_1497 dL_law_1498 dL_law_1499 dL_law_1500 ?_
  refine l_C X (N := N) (C := C) (st := []) (As := [.int (xs (6 * c + 1))]) wkX10_firstOut (tc_firstOut (N := N) C (xs (6 * c + 1)) e1) rfl rfl m_4_195 rfl (l_room (Nat.le_of_ble_eq_true rfl) (Nat.le_of_ble_eq_true rfl)) (Nat.le_of_ble_eq_true rfl) dL_law_1501 ?_
  refine l_a2 X dL_law_1504 ?_
  refine l_arg X hi 1 (by omega) rfl dL_law_1505 dL_law_1506 dL_law_1507 dL_law_1508 dL_law_1509 ?_
  refine l_M X (N := N) (C := C1) (st := [.int r]) (As := [.int (xs (6 * c + 1))]) wkX11_firstOut (tm_firstOut (N := C1) N (xs (6 * c + 1)) e2) rfl rfl m_6_187 rfl (l_room (Nat.le_of_ble_eq_true rfl) (Nat.le_of_ble_eq_true rfl)) (Nat.le_of_ble_eq_true rfl) dL_law_1510 ?_
  refine l_eq X 1854 (by decide) dL_law_1513 ?_
  exact K C1 N1 hR
set_option maxRecDepth 100000 in
set_option maxHeartbeats 4000000 in
theorem lwc_35 (X : LX p s m args meth c0 D cy ad A cs sl b L xs) (hc : c < 64) (hi : 6 * c + 6 ≤ L) (h : Rel c C N) (K : ∀ C1 N1, Rel (c + 1) C1 N1 → LG p l e s m args below meth c0 D cy ad A cs sl Q b c 1854 [] (wfC N1 C1)) : LG p l e s m args below meth c0 D cy ad A cs sl Q b c 1518 [] (wfC N C) := by
  obtain ⟨r, C1, N1, e1, e2, hR⟩ := op_lifts h (xs (6 * c + 1)) (xs (6 * c + 2)) (xs (6 * c + 3)) (xs (6 * c + 4))
  refine l_a1 X dL_law_1518 ?_
  refine l_arg X hi 1 (by omega) rfl dL_law_1519 dL_law_1520 dL_law_1521 dL_law_1522 dL_law_1523 ?_
  refine l_arg X hi 2 (by omega) rfl dL_law_1524 dL_law_1525 dL_law_1526 dL_law_1527 dL_law_1528 ?_
  refine l_arg X hi 3 (by omega) rfl dL_law_1529 dL_law_1530 dL_law_1531 dL_law_1532 dL_law_1533 ?_
  refine l_arg X hi 4 (by omega) rfl dL_law_1534 dL_law_1535 dL_law_1536 dL_law_1537 dL_law_1538 ?_
  refine l_C X (N := N) (C := C) (st := []) (As := [.int (xs (6 * c + 1)), .int (xs (6 * c + 2)), .int (xs (6 * c + 3)), .int (xs (6 * c + 4))]) wkX10_lifts (tc_lifts (N := N) C (xs (6 * c + 1)) (xs (6 * c + 2)) (xs (6 * c + 3)) (xs (6 * c + 4)) e1) rfl rfl m_4_171 rfl (l_room (Nat.le_of_ble_eq_true rfl) (Nat.le_of_ble_eq_true rfl)) (Nat.le_of_ble_eq_true rfl) dL_law_1539 ?_
  refine l_a2 X dL_law_1542 ?_
  refine l_arg X hi 1 (by omega) rfl dL_law_1543 dL_law_1544 dL_law_1545 dL_law_1546 dL_law_1547 ?_
  refine l_arg X hi 2 (by omega) rfl dL_law_1548 dL_law_1549 dL_law_1550 dL_law_1551 dL_law_1552 ?_
  refine l_arg X hi 3 (by omega) rfl dL_law_1553 dL_law_1554 dL_law_1555 dL_law_1556 dL_law_1557 ?_
  refine l_arg X hi 4 (by omega) rfl dL_law_1558 dL_law_1559 dL_law_1560 dL_law_1561 dL_law_1562 ?_
  refine l_M X (N := N) (C := C1) (st := [.int r]) (As := [.int (xs (6 * c + 1)), .int (xs (6 * c + 2)), .int (xs (6 * c + 3)), .int (xs (6 * c + 4))]) wkX11_lifts (tm_lifts (N := C1) N (xs (6 * c + 1)) (xs (6 * c + 2)) (xs (6 * c + 3)) (xs (6 * c + 4)) e2) rfl rfl m_6_195 rfl (l_room (Nat.le_of_ble_eq_true rfl) (Nat.le_of_ble_eq_true rfl)) (Nat.le_of_ble_eq_true rfl) dL_law_1563 ?_
  refine l_eq X 1854 (by decide) dL_law_1566 ?_
  exact K C1 N1 hR
set_option maxRecDepth 100000 in
set_option maxHeartbeats 4000000 in
theorem lwc_36 (X : LX p s m args meth c0 D cy ad A cs sl b L xs) (hc : c < 64) (hi : 6 * c + 6 ≤ L) (h : Rel c C N) (K : ∀ C1 N1, Rel (c + 1) C1 N1 → LG p l e s m args below meth c0 D cy ad A cs sl Q b c 1854 [] (wfC N1 C1)) : LG p l e s m args below meth c0 D cy ad A cs sl Q b c 1571 [] (wfC N C) := by
  obtain ⟨r, C1, N1, e1, e2, hR⟩ := op_parcel h (xs (6 * c + 1)) (xs (6 * c + 2)) (xs (6 * c + 3))
  refine l_a1 X dL_law_1571 ?_
  refine l_arg X hi 1 (by omega) rfl dL_law_1572 dL_law_1573 dL_law_1574 dL_law_1575 dL_law_1576 ?_
  refine l_arg X hi 2 (by omega) rfl dL_law_1577 dL_law_1578 dL_law_1579 dL_law_1580 dL_law_1581 ?_
  refine l_arg X hi 3 (by omega) rfl dL_law_1582 dL_law_1583 dL_law_1584 dL_law_1585 dL_law_1586 ?_
  refine l_C X (N := N) (C := C) (st := []) (As := [.int (xs (6 * c + 1)), .int (xs (6 * c + 2)), .int (xs (6 * c + 3))]) wkX10_parcel (tc_parcel (N := N) C (xs (6 * c + 1)) (xs (6 * c + 2)) (xs (6 * c + 3)) e1) rfl rfl m_4_183 rfl (l_room (Nat.le_of_ble_eq_true rfl) (Nat.le_of_ble_eq_true rfl)) (Nat.le_of_ble_eq_true rfl) dL_law_1587 ?_
  refine l_a2 X dL_law_1590 ?_
  refine l_arg X hi 1 (by omega) rfl dL_law_1591 dL_law_1592 dL_law_1593 dL_law_1594 dL_law_1595 ?_
  refine l_arg X hi 2 (by omega) rfl dL_law_1596 dL_law_1597 dL_law_1598 dL_law_1599 dL_law_1600 ?_
  refine l_arg X hi 3 (by omega) rfl dL_law_1601 dL_law_1602 dL_law_1603 dL_law_1604 dL_law_1605 ?_
  refine l_M X (N := N) (C := C1) (st := [.int r]) (As := [.int (xs (6 * c + 1)), .int (xs (6 * c + 2)), .int (xs (6 * c + 3))]) wkX11_parcel (tm_parcel (N := C1) N (xs (6 * c + 1)) (xs (6 * c + 2)) (xs (6 * c + 3)) e2) rfl rfl m_6_199 rfl (l_room (Nat.le_of_ble_eq_true rfl) (Nat.le_of_ble_eq_true rfl)) (Nat.le_of_ble_eq_true rfl) dL_law_1606 ?_
  refine l_eq X 1854 (by decide) dL_law_1609 ?_
  exact K C1 N1 hR
set_option maxRecDepth 100000 in
set_option maxHeartbeats 4000000 in
theorem lwc_37 (X : LX p s m args meth c0 D cy ad A cs sl b L xs) (hc : c < 64) (hi : 6 * c + 6 ≤ L) (h : Rel c C N) (K : ∀ C1 N1, Rel (c + 1) C1 N1 → LG p l e s m args below meth c0 D cy ad A cs sl Q b c 1854 [] (wfC N1 C1)) : LG p l e s m args below meth c0 D cy ad A cs sl Q b c 1614 [] (wfC N C) := by
  obtain ⟨r, C1, N1, e1, e2, hR⟩ := op_stops h (xs (6 * c + 1))
  refine l_a1 X dL_law_1614 ?_
  refine l_arg X hi 1 (by omega) rfl dL_law_1615 dL_law_1616 dL_law_1617 dL_law_1618 dL_law_1619 ?_
  refine l_C X (N := N) (C := C) (st := []) (As := [.int (xs (6 * c + 1))]) wkX10_stops (tc_stops (N := N) C (xs (6 * c + 1)) e1) rfl rfl m_4_187 rfl (l_room (Nat.le_of_ble_eq_true rfl) (Nat.le_of_ble_eq_true rfl)) (Nat.le_of_ble_eq_true rfl) dL_law_1620 ?_
  refine l_a2 X dL_law_1623 ?_
  refine l_arg X hi 1 (by omega) rfl dL_law_1624 dL_law_1625 dL_law_1626 dL_law_1627 dL_law_1628 ?_
  refine l_M X (N := N) (C := C1) (st := [.int r]) (As := [.int (xs (6 * c + 1))]) wkX11_stops (tm_stops (N := C1) N (xs (6 * c + 1)) e2) rfl rfl m_6_203 rfl (l_room (Nat.le_of_ble_eq_true rfl) (Nat.le_of_ble_eq_true rfl)) (Nat.le_of_ble_eq_true rfl) dL_law_1629 ?_
  refine l_eq X 1854 (by decide) dL_law_1632 ?_
  exact K C1 N1 hR
set_option maxRecDepth 100000 in
set_option maxHeartbeats 4000000 in
theorem lwc_38 (X : LX p s m args meth c0 D cy ad A cs sl b L xs) (hc : c < 64) (hi : 6 * c + 6 ≤ L) (h : Rel c C N) (K : ∀ C1 N1, Rel (c + 1) C1 N1 → LG p l e s m args below meth c0 D cy ad A cs sl Q b c 1854 [] (wfC N1 C1)) : LG p l e s m args below meth c0 D cy ad A cs sl Q b c 1637 [] (wfC N C) := by
  obtain ⟨r, C1, N1, e1, e2, hR⟩ := op_week h (xs (6 * c + 1)) (xs (6 * c + 2))
  refine l_a1 X dL_law_1637 ?_
  refine l_arg X hi 1 (by omega) rfl dL_law_1638 dL_law_1639 dL_law_1640 dL_law_1641 dL_law_1642 ?_
  refine l_arg X hi 2 (by omega) rfl dL_law_1643 dL_law_1644 dL_law_1645 dL_law_1646 dL_law_1647 ?_
  refine l_C X (N := N) (C := C) (st := []) (As := [.int (xs (6 * c + 1)), .int (xs (6 * c + 2))]) wkX10_week (tc_week (N := N) C (xs (6 * c + 1)) (xs (6 * c + 2)) e1) rfl rfl m_4_203 rfl (l_room (Nat.le_of_ble_eq_true rfl) (Nat.le_of_ble_eq_true rfl)) (Nat.le_of_ble_eq_true rfl) dL_law_1648 ?_
  refine l_a2 X dL_law_1651 ?_
  refine l_arg X hi 1 (by omega) rfl dL_law_1652 dL_law_1653 dL_law_1654 dL_law_1655 dL_law_1656 ?_
  refine l_arg X hi 2 (by omega) rfl dL_law_1657 dL_law_1658 dL_law_1659 dL_law_1660 dL_law_1661 ?_
  refine l_M X (N := N) (C := C1) (st := [.int r]) (As := [.int (xs (6 * c + 1)), .int (xs (6 * c + 2))]) wkX11_week (tm_week (N := C1) N (xs (6 * c + 1)) (xs (6 * c + 2)) e2) rfl rfl m_6_207 rfl (l_room (Nat.le_of_ble_eq_true rfl) (Nat.le_of_ble_eq_true rfl)) (Nat.le_of_ble_eq_true rfl) dL_law_1662 ?_
  refine l_eq X 1854 (by decide) dL_law_1665 ?_
  exact K C1 N1 hR
set_option maxRecDepth 100000 in
set_option maxHeartbeats 4000000 in
theorem lwc_39 (X : LX p s m args meth c0 D cy ad A cs sl b L xs) (hc : c < 64) (hi : 6 * c + 6 ≤ L) (h : Rel c C N) (K : ∀ C1 N1, Rel (c + 1) C1 N1 → LG p l e s m args below meth c0 D cy ad A cs sl Q b c 1854 [] (wfC N1 C1)) : LG p l e s m args below meth c0 D cy ad A cs sl Q b c 1670 [] (wfC N C) := by
  obtain ⟨r, C1, N1, e1, e2, hR⟩ := op_outs h (xs (6 * c + 1)) (xs (6 * c + 2))
  refine l_a1 X dL_law_1670 ?_
  refine l_arg X hi 1 (by omega) rfl dL_law_1671 dL_law_1672 dL_law_1673 dL_law_1674 dL_law_1675 ?_
  refine l_arg X hi 2 (by omega) rfl dL_law_1676 dL_law_1677 dL_law_1678 dL_law_1679 dL_law_1680 ?_
  refine l_C X (N := N) (C := C) (st := []) (As := [.int (xs (6 * c + 1)), .int (xs (6 * c + 2))]) wkX10_outs (tc_outs (N := N) C (xs (6 * c + 1)) (xs (6 * c + 2)) e1) rfl rfl m_4_207 rfl (l_room (Nat.le_of_ble_eq_true rfl) (Nat.le_of_ble_eq_true rfl)) (Nat.le_of_ble_eq_true rfl) dL_law_1681 ?_
  refine l_a2 X dL_law_1684 ?_
  refine l_arg X hi 1 (by omega) rfl dL_law_1685 dL_law_1686 dL_law_1687 dL_law_1688 dL_law_1689 ?_
  refine l_arg X hi 2 (by omega) rfl dL_law_1690 dL_law_1691 dL_law_1692 dL_law_1693 dL_law_1694 ?_
  refine l_M X (N := N) (C := C1) (st := [.int r]) (As := [.int (xs (6 * c + 1)), .int (xs (6 * c + 2))]) wkX11_outs (tm_outs (N := C1) N (xs (6 * c + 1)) (xs (6 * c + 2)) e2) rfl rfl m_6_211 rfl (l_room (Nat.le_of_ble_eq_true rfl) (Nat.le_of_ble_eq_true rfl)) (Nat.le_of_ble_eq_true rfl) dL_law_1695 ?_
  refine l_eq X 1854 (by decide) dL_law_1698 ?_
  exact K C1 N1 hR
set_option maxRecDepth 100000 in
set_option maxHeartbeats 4000000 in
theorem lwc_40 (X : LX p s m args meth c0 D cy ad A cs sl b L xs) (hc : c < 64) (hi : 6 * c + 6 ≤ L) (h : Rel c C N) (K : ∀ C1 N1, Rel (c + 1) C1 N1 → LG p l e s m args below meth c0 D cy ad A cs sl Q b c 1854 [] (wfC N1 C1)) : LG p l e s m args below meth c0 D cy ad A cs sl Q b c 1703 [] (wfC N C) := by
  obtain ⟨r, C1, N1, e1, e2, hR⟩ := op_seed h (xs (6 * c + 1))
  refine l_a1 X dL_law_1703 ?_
  refine l_arg X hi 1 (by omega) rfl dL_law_1704 dL_law_1705 dL_law_1706 dL_law_1707 dL_law_1708 ?_
  refine l_C X (N := N) (C := C) (st := []) (As := [.int (xs (6 * c + 1))]) wkX10_seed (tc_seed (N := N) C (xs (6 * c + 1)) e1) rfl rfl m_4_211 rfl (l_room (Nat.le_of_ble_eq_true rfl) (Nat.le_of_ble_eq_true rfl)) (Nat.le_of_ble_eq_true rfl) dL_law_1709 ?_
  refine l_a2 X dL_law_1712 ?_
  refine l_arg X hi 1 (by omega) rfl dL_law_1713 dL_law_1714 dL_law_1715 dL_law_1716 dL_law_1717 ?_
  refine l_M X (N := N) (C := C1) (st := [.int r]) (As := [.int (xs (6 * c + 1))]) wkX11_seed (tm_seed (N := C1) N (xs (6 * c + 1)) e2) rfl rfl m_6_215 rfl (l_room (Nat.le_of_ble_eq_true rfl) (Nat.le_of_ble_eq_true rfl)) (Nat.le_of_ble_eq_true rfl) dL_law_1718 ?_
  refine l_eq X 1854 (by decide) dL_law_1721 ?_
  exact K C1 N1 hR
set_option maxRecDepth 100000 in
set_option maxHeartbeats 4000000 in
theorem lwc_41 (X : LX p s m args meth c0 D cy ad A cs sl b L xs) (hc : c < 64) (hi : 6 * c + 6 ≤ L) (h : Rel c C N) (K : ∀ C1 N1, Rel (c + 1) C1 N1 → LG p l e s m args below meth c0 D cy ad A cs sl Q b c 1854 [] (wfC N1 C1)) : LG p l e s m args below meth c0 D cy ad A cs sl Q b c 1726 [] (wfC N C) := by
  obtain ⟨r, C1, N1, e1, e2, hR⟩ := op_begin h (xs (6 * c + 1)) (xs (6 * c + 2)) (xs (6 * c + 3))
  refine l_a1 X dL_law_1726 ?_
  refine l_arg X hi 1 (by omega) rfl dL_law_1727 dL_law_1728 dL_law_1729 dL_law_1730 dL_law_1731 ?_
  refine l_arg X hi 2 (by omega) rfl dL_law_1732 dL_law_1733 dL_law_1734 dL_law_1735 dL_law_1736 ?_
  refine l_arg X hi 3 (by omega) rfl dL_law_1737 dL_law_1738 dL_law_1739 dL_law_1740 dL_law_1741 ?_
  refine l_C X (N := N) (C := C) (st := []) (As := [.int (xs (6 * c + 1)), .int (xs (6 * c + 2)), .int (xs (6 * c + 3))]) wkX10_begin (tc_begin (N := N) C (xs (6 * c + 1)) (xs (6 * c + 2)) (xs (6 * c + 3)) e1) rfl rfl m_4_215 rfl (l_room (Nat.le_of_ble_eq_true rfl) (Nat.le_of_ble_eq_true rfl)) (Nat.le_of_ble_eq_true rfl) dL_law_1742 ?_
  refine l_a2 X dL_law_1745 ?_
  refine l_arg X hi 1 (by omega) rfl dL_law_1746 dL_law_1747 dL_law_1748 dL_law_1749 dL_law_1750 ?_
  refine l_arg X hi 2 (by omega) rfl dL_law_1751 dL_law_1752 dL_law_1753 dL_law_1754 dL_law_1755 ?_
  refine l_arg X hi 3 (by omega) rfl dL_law_1756 dL_law_1757 dL_law_1758 dL_law_1759 dL_law_1760 ?_
  refine l_M X (N := N) (C := C1) (st := [.int r]) (As := [.int (xs (6 * c + 1)), .int (xs (6 * c + 2)), .int (xs (6 * c + 3))]) wkX11_begin (tm_begin (N := C1) N (xs (6 * c + 1)) (xs (6 * c + 2)) (xs (6 * c + 3)) e2) rfl rfl m_6_219 rfl (l_room (Nat.le_of_ble_eq_true rfl) (Nat.le_of_ble_eq_true rfl)) (Nat.le_of_ble_eq_true rfl) dL_law_1761 ?_
  refine l_eq X 1854 (by decide) dL_law_1764 ?_
  exact K C1 N1 hR
set_option maxRecDepth 100000 in
set_option maxHeartbeats 4000000 in
theorem lwc_42 (X : LX p s m args meth c0 D cy ad A cs sl b L xs) (hc : c < 64) (hi : 6 * c + 6 ≤ L) (h : Rel c C N) (K : ∀ C1 N1, Rel (c + 1) C1 N1 → LG p l e s m args below meth c0 D cy ad A cs sl Q b c 1854 [] (wfC N1 C1)) : LG p l e s m args below meth c0 D cy ad A cs sl Q b c 1769 [] (wfC N C) := by
  obtain ⟨r, C1, N1, e1, e2, hR⟩ := op_step hc h 
  refine l_a1 X dL_law_1769 ?_
  refine l_C X (N := N) (C := C) (st := []) (As := []) wkX10_step (tc_step (N := N) C  e1) rfl rfl m_4_224 rfl (l_room (Nat.le_of_ble_eq_true rfl) (Nat.le_of_ble_eq_true rfl)) (Nat.le_of_ble_eq_true rfl) dL_law_1770 ?_
  refine l_a2 X dL_law_1773 ?_
  refine l_M X (N := N) (C := C1) (st := [.int r]) (As := []) wkX11_step (tm_step (N := C1) N  e2) rfl rfl m_6_223 rfl (l_room (Nat.le_of_ble_eq_true rfl) (Nat.le_of_ble_eq_true rfl)) (Nat.le_of_ble_eq_true rfl) dL_law_1774 ?_
  refine l_eq X 1854 (by decide) dL_law_1777 ?_
  exact K C1 N1 hR
set_option maxRecDepth 100000 in
set_option maxHeartbeats 4000000 in
theorem lwc_43 (X : LX p s m args meth c0 D cy ad A cs sl b L xs) (hc : c < 64) (hi : 6 * c + 6 ≤ L) (h : Rel c C N) (K : ∀ C1 N1, Rel (c + 1) C1 N1 → LG p l e s m args below meth c0 D cy ad A cs sl Q b c 1854 [] (wfC N1 C1)) : LG p l e s m args below meth c0 D cy ad A cs sl Q b c 1782 [] (wfC N C) := by
  obtain ⟨r, C1, N1, e1, e2, hR⟩ := op_under h (xs (6 * c + 1))
  refine l_a1 X dL_law_1782 ?_
  refine l_arg X hi 1 (by omega) rfl dL_law_1783 dL_law_1784 dL_law_1785 dL_law_1786 dL_law_1787 ?_
  refine l_C X (N := N) (C := C) (st := []) (As := [.int (xs (6 * c + 1))]) wkX10_under (tc_under (N := N) C (xs (6 * c + 1)) e1) rfl rfl m_5_5 rfl (l_room (Nat.le_of_ble_eq_true rfl) (Nat.le_of_ble_eq_true rfl)) (Nat.le_of_ble_eq_true rfl) dL_law_1788 ?_
  refine l_a2 X dL_law_1791 ?_
  refine l_arg X hi 1 (by omega) rfl dL_law_1792 dL_law_1793 dL_law_1794 dL_law_1795 dL_law_1796 ?_
  refine l_M X (N := N) (C := C1) (st := [.int r]) (As := [.int (xs (6 * c + 1))]) wkX11_under (tm_under (N := C1) N (xs (6 * c + 1)) e2) rfl rfl m_6_232 rfl (l_room (Nat.le_of_ble_eq_true rfl) (Nat.le_of_ble_eq_true rfl)) (Nat.le_of_ble_eq_true rfl) dL_law_1797 ?_
  refine l_eq X 1854 (by decide) dL_law_1800 ?_
  exact K C1 N1 hR
set_option maxRecDepth 100000 in
set_option maxHeartbeats 4000000 in
theorem lwc_44 (X : LX p s m args meth c0 D cy ad A cs sl b L xs) (hc : c < 64) (hi : 6 * c + 6 ≤ L) (h : Rel c C N) (K : ∀ C1 N1, Rel (c + 1) C1 N1 → LG p l e s m args below meth c0 D cy ad A cs sl Q b c 1854 [] (wfC N1 C1)) : LG p l e s m args below meth c0 D cy ad A cs sl Q b c 1805 [] (wfC N C) := by
  obtain ⟨r, C1, N1, e1, e2, hR⟩ := op_image h 
  refine l_a1 X dL_law_1805 ?_
  refine l_C X (N := N) (C := C) (st := []) (As := []) wkX10_image (tc_image (N := N) C  e1) rfl rfl m_5_9 rfl (l_room (Nat.le_of_ble_eq_true rfl) (Nat.le_of_ble_eq_true rfl)) (Nat.le_of_ble_eq_true rfl) dL_law_1806 ?_
  refine l_a2 X dL_law_1809 ?_
  refine l_M X (N := N) (C := C1) (st := [.int r]) (As := []) wkX11_image (tm_image (N := C1) N  e2) rfl rfl m_6_236 rfl (l_room (Nat.le_of_ble_eq_true rfl) (Nat.le_of_ble_eq_true rfl)) (Nat.le_of_ble_eq_true rfl) dL_law_1810 ?_
  refine l_eq X 1854 (by decide) dL_law_1813 ?_
  exact K C1 N1 hR
set_option maxRecDepth 100000 in
set_option maxHeartbeats 4000000 in
theorem lwc_45 (X : LX p s m args meth c0 D cy ad A cs sl b L xs) (hc : c < 64) (hi : 6 * c + 6 ≤ L) (h : Rel c C N) (K : ∀ C1 N1, Rel (c + 1) C1 N1 → LG p l e s m args below meth c0 D cy ad A cs sl Q b c 1854 [] (wfC N1 C1)) : LG p l e s m args below meth c0 D cy ad A cs sl Q b c 1818 [] (wfC N C) := by
  obtain ⟨r, C1, N1, e1, e2, hR⟩ := op_back h 
  refine l_a1 X dL_law_1818 ?_
  refine l_C X (N := N) (C := C) (st := []) (As := []) wkX10_back (tc_back (N := N) C  e1) rfl rfl m_5_39 rfl (l_room (Nat.le_of_ble_eq_true rfl) (Nat.le_of_ble_eq_true rfl)) (Nat.le_of_ble_eq_true rfl) dL_law_1819 ?_
  refine l_a2 X dL_law_1822 ?_
  refine l_M X (N := N) (C := C1) (st := [.int r]) (As := []) wkX11_back (tm_back (N := C1) N  e2) rfl rfl m_7_8 rfl (l_room (Nat.le_of_ble_eq_true rfl) (Nat.le_of_ble_eq_true rfl)) (Nat.le_of_ble_eq_true rfl) dL_law_1823 ?_
  refine l_eq X 1854 (by decide) dL_law_1826 ?_
  exact K C1 N1 hR
set_option maxRecDepth 100000 in
set_option maxHeartbeats 4000000 in
theorem lwc_46 (X : LX p s m args meth c0 D cy ad A cs sl b L xs) (hc : c < 64) (hi : 6 * c + 6 ≤ L) (h : Rel c C N) (K : ∀ C1 N1, Rel (c + 1) C1 N1 → LG p l e s m args below meth c0 D cy ad A cs sl Q b c 1854 [] (wfC N1 C1)) : LG p l e s m args below meth c0 D cy ad A cs sl Q b c 1831 [] (wfC N C) := by
  obtain ⟨r, e1, e2⟩ := op_status h (xs (6 * c + 1))
  refine l_a1 X dL_law_1831 ?_
  refine l_arg X hi 1 (by omega) rfl dL_law_1832 dL_law_1833 dL_law_1834 dL_law_1835 dL_law_1836 ?_
  refine l_C X (N := N) (C := C) (st := []) (As := [.int (xs (6 * c + 1))]) wkX10_status (tc_status (N := N) C (xs (6 * c + 1)) e1) rfl rfl m_5_43 rfl (l_room (Nat.le_of_ble_eq_true rfl) (Nat.le_of_ble_eq_true rfl)) (Nat.le_of_ble_eq_true rfl) dL_law_1837 ?_
  refine l_a2 X dL_law_1840 ?_
  refine l_arg X hi 1 (by omega) rfl dL_law_1841 dL_law_1842 dL_law_1843 dL_law_1844 dL_law_1845 ?_
  refine l_M X (N := N) (C := C) (st := [.int r]) (As := [.int (xs (6 * c + 1))]) wkX11_status (tm_status (N := C) N (xs (6 * c + 1)) e2) rfl rfl m_7_12 rfl (l_room (Nat.le_of_ble_eq_true rfl) (Nat.le_of_ble_eq_true rfl)) (Nat.le_of_ble_eq_true rfl) dL_law_1846 ?_
  refine l_eq X 1854 (by decide) dL_law_1849 ?_
  exact K C N (Rel_next h)
end LAW
