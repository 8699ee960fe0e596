section ST
variable {p : Program} {l : Launch} {e : Env} {R : Room} {s : State} {m : MethodId} {args : Array Value} {below : List Frame} {meth : Method} {c : Code} {cc : ByteArray} {nL : Nat} {own : String} {D : va_G} {cy : Nat → ClassId} {ad : Nat → Nat} {A : Nat → Prop} {cs sl : Nat} {wf : Mem → Mem} {sd : Nat → Prop} {QF : Option Value × Mem → State → Prop} {α : Type} {fin : α → Option Value × Mem} {F : Option α} {pc : Nat} {lv : List (Nat × Value)} {st : List Value} {M : Mem}
theorem g_strv (X : Cx p s m args meth c cc nL own D cy ad A wf sd) {i idx : Nat} (hi : i < 9) (hl : Cond.fieldLink own idx RJ0 "value" "[B" ∈ TB) (hd : decode cc pc = .ok (.getfield idx, 3)) (K : GF p l e R s m args below meth c nL D cy ad A cs sl wf QF fin F (pc + 3) lv (.ref (ad (i + 500)) :: st) M) : GF p l e R s m args below meth c nL D cy ad A cs sl wf QF fin F pc lv (.ref (ad (i + 400)) :: st) M := fun x hx H locs ls hl0 hP hS => vk_getf X.1.1 X.1.2.1 (X.2.2.1.2.2.2.2.2.2.2.2.1.1 i hi).2.2.1 hS X.1.2.2.2.1 (X.2.1 _ hl) (fun _ h => h) hd (K x hx H locs ls hl0 hP hS)
theorem g_strc (X : Cx p s m args meth c cc nL own D cy ad A wf sd) {i idx : Nat} (hi : i < 9) (hl : Cond.fieldLink own idx RJ0 "coder" "B" ∈ TB) (hd : decode cc pc = .ok (.getfield idx, 3)) (K : GF p l e R s m args below meth c nL D cy ad A cs sl wf QF fin F (pc + 3) lv (.int 0 :: st) M) : GF p l e R s m args below meth c nL D cy ad A cs sl wf QF fin F pc lv (.ref (ad (i + 400)) :: st) M := fun x hx H locs ls hl0 hP hS => vk_getf X.1.1 X.1.2.1 (X.2.2.1.2.2.2.2.2.2.2.2.1.1 i hi).2.1 hS X.1.2.2.2.1 (X.2.1 _ hl) (fun _ h => h) hd (K x hx H locs ls hl0 hP hS)
theorem g_gcs (X : Cx p s m args meth c cc nL own D cy ad A wf sd) {idx : Nat} (hl : Cond.fieldLink own idx RJ0 "COMPACT_STRINGS" "Z" ∈ TB) (hd : decode cc pc = .ok (.getstatic idx, 3)) (K : GF p l e R s m args below meth c nL D cy ad A cs sl wf QF fin F (pc + 3) lv (.int 1 :: st) M) : GF p l e R s m args below meth c nL D cy ad A cs sl wf QF fin F pc lv st M := fun x hx H locs ls hl0 hP hS => va_gets X.1.1 X.1.2.1 X.2.2.1.2.2.2.2.2.2.2.1.1 hS X.1.2.2.2.1 (X.2.1 _ hl) (fun _ h => h) hd (K x hx H locs ls hl0 hP hS)
theorem g_gfm (X : Cx p s m args meth c cc nL own D cy ad A wf sd) {idx : Nat} (hl : Cond.fieldLink own idx RJ3 "SIOOBE_FORMATTER" "Ljava/util/function/BiFunction;" ∈ TB) (hd : decode cc pc = .ok (.getstatic idx, 3)) (K : ∀ v : Value, (v = .null ∨ ∃ t, v = .ref t) → GF p l e R s m args below meth c nL D cy ad A cs sl wf QF fin F (pc + 3) lv (v :: st) M) : GF p l e R s m args below meth c nL D cy ad A cs sl wf QF fin F pc lv st M := by
  intro x hx H locs ls hl0 hP hS
  rcases X.2.2.1.2.2.2.2.2.2.2.1.2 with h | ⟨t, h⟩
  · exact va_gets X.1.1 X.1.2.1 h hS X.1.2.2.2.1 (X.2.1 _ hl) (fun _ h => h) hd (K _ (Or.inl rfl) x hx H locs ls hl0 hP hS)
  · exact va_gets X.1.1 X.1.2.1 h hS X.1.2.2.2.1 (X.2.1 _ hl) (fun _ h => h) hd (K _ (Or.inr ⟨t, rfl⟩) x hx H locs ls hl0 hP hS)
theorem g_strn (X : Cx p s m args meth c cc nL own D cy ad A wf sd) {i : Nat} {v0 : Int32} (hi : i < 9) (hv : Int32.ofNat (svN.getD i 0) = v0) (hd : decode cc pc = .ok (.arraylength, 1)) (K : GF p l e R s m args below meth c nL D cy ad A cs sl wf QF fin F (pc + 1) lv (.int v0 :: st) M) : GF p l e R s m args below meth c nL D cy ad A cs sl wf QF fin F pc lv (.ref (ad (i + 500)) :: st) M := fun x hx H locs ls hl0 hP hS => va_tlen X.1.1 X.1.2.1 (X.2.2.1.2.2.2.2.2.2.2.2.1.1 i hi).2.2.2 hS hv hd (K x hx H locs ls hl0 hP hS)
theorem g_strb (X : Cx p s m args meth c cc nL own D cy ad A wf sd) {i : Nat} {i0 : Int32} (hi : i < 9) (hin : inb i0 (svN.getD i 0)) (hd : decode cc pc = .ok (.baload, 1)) (K : GF p l e R s m args below meth c nL D cy ad A cs sl wf QF fin F (pc + 1) lv (.int ((svB.getD i []).getD (ix i0) 0) :: st) M) : GF p l e R s m args below meth c nL D cy ad A cs sl wf QF fin F pc lv (.int i0 :: .ref (ad (i + 500)) :: st) M := fun x hx H locs ls hl0 hP hS => va_tb X.1.1 X.1.2.1 (X.2.2.1.2.2.2.2.2.2.2.2.1.1 i hi).2.2.2 hS (inb_vp hin) rfl hd (K x hx H locs ls hl0 hP hS)
theorem g_i2c (X : Cx p s m args meth c cc nL own D cy ad A wf sd) {x0 : Int32} {v0 : Int32} (hd : decode cc pc = .ok (.i2c, 1)) (hv : (x0.toUInt32 % 65536).toInt32 = v0) (K : GF p l e R s m args below meth c nL D cy ad A cs sl wf QF fin F (pc + 1) lv (.int v0 :: st) M) : GF p l e R s m args below meth c nL D cy ad A cs sl wf QF fin F pc lv (.int x0 :: st) M := fun x hx H locs ls hl hP hS => lv_i2c X.1.1 X.1.2.1 hd hv (K x hx H locs ls hl hP hS)
theorem g_strC (X : Cx p s m args meth c cc nL own D cy ad A wf sd) {i idx : Nat} (hd : decode cc pc = .ok (.ldc idx, 2)) (hi : i < 9) (ho : own = RX6 ∧ idx = svI.getD i 0) (K : GF p l e R s m args below meth c nL D cy ad A cs sl wf QF fin F (pc + 2) lv (.ref (ad (i + 400)) :: st) M) : GF p l e R s m args below meth c nL D cy ad A cs sl wf QF fin F pc lv st M := by
  intro x hx H locs ls hl0 hP hS
  obtain ⟨rfl, rfl⟩ := ho
  exact va_ldcS X.1.1 X.1.2.1 X.1.2.2.2.1 (X.2.2.1.2.2.2.2.2.2.2.2.2.1 i hi) hd (K x hx H locs ls hl0 hP hS)
theorem g_strM (X : Cx p s m args meth c cc nL own D cy ad A wf sd) {i idx : Nat} (hd : decode cc pc = .ok (.ldc idx, 2)) (hi : i < 9) (ho : own = RX11 ∧ idx = svJ.getD i 0) (K : GF p l e R s m args below meth c nL D cy ad A cs sl wf QF fin F (pc + 2) lv (.ref (ad (i + 400)) :: st) M) : GF p l e R s m args below meth c nL D cy ad A cs sl wf QF fin F pc lv st M := by
  intro x hx H locs ls hl0 hP hS
  obtain ⟨rfl, rfl⟩ := ho
  exact va_ldcS X.1.1 X.1.2.1 X.1.2.2.2.1 (X.2.2.1.2.2.2.2.2.2.2.2.2.2 i hi) hd (K x hx H locs ls hl0 hP hS)
theorem ok_T (X : Cx p s m args meth c cc nL own D cy ad A wf sd) {y : MethodName} {bytes : ByteArray} {maxL rk n idx : Nat} {ret : Option FieldType} {As : List Value} {z : Option Value × Mem} {st0 : List Value} {i : Nat} (hi : i < 9) (cw : CW y bytes maxL ret n) (hy : y.cls = RJ0) (hM : Mt l D cy ad y bytes maxL ret rk (.ref (ad (i + 400)) :: As) (wf M) z) (hst : st0 = As.reverse ++ Value.ref (ad (i + 400)) :: st) (hl : Cond.methodLink own idx y ∈ TB) (hn : As.length = n) (hR : rk + 1 ≤ R.frames ∧ 8 + (maxL + 11) + 64 * rk ≤ R.locals) (hc : cs ≤ R.cells ∧ sl ≤ R.slots) (hW : (st.map fun v => v.category).sum ≤ 8) (hd : decode cc pc = .ok (.invokevirtual idx, 3)) : COK p l e R s m args below meth c nL D cy ad A cs sl pc lv st0 st (wf M) z := by
  obtain ⟨⟨w1, w2, w3, w4⟩, ⟨v1, v2⟩, hlen⟩ := cw
  intro H locs ls hl0 hP hS
  have hrc := vk_recv X.2.2.1.2.2.2.2.2.2.2.2.1 hi hS
  refine ⟨_, va_runV (C := y.cls) (b := ad (i + 400)) (As := As) (rest := st) (n := n) (rm := Rm rk) ⟨X.1.1, X.1.2.1, X.1.2.2.1, X.1.2.2.2.1, X.2.1⟩ hM ⟨⟨rfl, rfl, hR.1, hR.2, ws_warm X.2.1 w4, List.mem_cons_self, X.2.1 _ w4, X.2.1 _ w3, ⟨v1, v2⟩, len_of hlen, X.2.1 _ hl⟩, X.2.1 _ w1, X.2.1 _ w2⟩ ⟨Pr.blind, by rw [hy]; exact hrc, fun U hU hW => ⟨rfl, by rw [hU]; exact hP, X.2.2.1.call hS hU hW⟩⟩ rfl hn hl0.1 hst (lv_room hW) hd ⟨hc.1, hc.2⟩⟩
theorem g_cu {st0 : List Value} (hE : EV D cy ad A s) (ok : COK p l e R s m args below meth c nL D cy ad A cs sl pc lv st0 st (wf M) (none, wf M)) (K : GF p l e R s m args below meth c nL D cy ad A cs sl wf QF fin F (pc + 3) lv st M) : GF p l e R s m args below meth c nL D cy ad A cs sl wf QF fin F pc lv st0 M := fun x hx => g_run hE ok (K x hx)
def finT (ad : Nat → Nat) (M : Mem) (r : Nat) : Option Value × Mem := (some (.ref (ad (r + 400))), M)
theorem g_aret (X : Cx p s m args meth c cc nL own D cy ad (AA ad) wf sd) {x0 : α} {a0 : Nat} {nm : String} (hr : meth.sig.returnType = some (.object nm)) (hf : fin x0 = (some (.ref a0), M)) (hd : decode cc pc = .ok (.areturn, 1)) : GF p l e R s m args below meth c nL D cy ad (AA ad) 0 0 wf (QM D cy ad wf below args s) fin (some x0) pc lv [.ref a0] M := fun x hx H locs ls hl hP hS => by
  cases hx
  rw [hf]
  exact W.aret X.1.1 X.1.2.1 hr (Or.inl ⟨_, rfl⟩) (Or.inr ⟨_, rfl⟩) (fun t ht hW => ⟨⟨rfl, by rw [ht]; exact hP⟩, hS.F ht⟩) hS.2.2 hd X.1.2.2.2.2
end ST
def wf0 : Mem → Mem := fun M => M
theorem l0 : Lens wf0 (fun _ => False) := fun _ h => h.elim
theorem wkJ0_length_8abf5 : CW yJ0_length_8abf5 cJ0_length_8abf5 1 (some .int) 0 := ⟨⟨m_3_145, m_3_146, m_1_15, m_3_147⟩, ⟨by decide, by decide⟩, by decide +kernel⟩
theorem wkJ0_charAt_5068e : CW yJ0_charAt_5068e cJ0_charAt_5068e 2 (some .char) 1 := ⟨⟨m_3_155, m_3_156, m_1_15, m_3_157⟩, ⟨by decide, by decide⟩, by decide +kernel⟩
theorem wkJ0_coder_7d493 : CW yJ0_coder_7d493 cJ0_coder_7d493 1 (some .byte) 0 := ⟨⟨m_3_149, m_3_150, m_1_15, m_3_151⟩, ⟨by decide, by decide⟩, by decide +kernel⟩
theorem wkJ0_isLatin1_aae02 : CW yJ0_isLatin1_aae02 cJ0_isLatin1_aae02 1 (some .boolean) 0 := ⟨⟨m_3_159, m_3_160, m_1_15, m_3_161⟩, ⟨by decide, by decide⟩, by decide +kernel⟩
theorem wkJ0_checkIndex_df160 : CS yJ0_checkIndex_df160 cJ0_checkIndex_df160 2 none 2 := ⟨⟨m_3_166, m_1_15, m_3_167⟩, ⟨by decide, by decide⟩, by decide +kernel⟩
theorem wkJ1_charAt_3b067 : CS yJ1_charAt_3b067 cJ1_charAt_3b067 2 (some .char) 2 := ⟨⟨m_3_163, m_1_16, m_3_164⟩, ⟨by decide, by decide⟩, by decide +kernel⟩
theorem wkJ3_checkIndex_8e157 : CS yJ3_checkIndex_8e157 cJ3_checkIndex_8e157 3 (some .int) 3 := ⟨⟨m_3_171, m_1_17, m_3_172⟩, ⟨by decide, by decide⟩, by decide +kernel⟩
theorem tz_bi : (Int16.ofInt 255).toInt32 = 255 := by decide
theorem tz_c0 : Int32.ofInt 0 = 0 := by decide
theorem tz_c1 : Int32.ofInt 1 = 1 := by decide
set_option maxRecDepth 100000 in
set_option maxHeartbeats 4000000 in
theorem tStr_coder {l : Launch} {D : va_G} {cy : Nat → ClassId} {ad : Nat → Nat} (M : Mem) {i : Nat} (hi : i < 9) : Mt l D cy ad yJ0_coder_7d493 cJ0_coder_7d493 1 (some .byte) 1 [.ref (ad (i + 400))] M (some (.int 0), M) := by
  refine met_of (wf := wf0) (sd := fun _ => False) (M := M) (fin := (finI M)) (F := some 0) (x := 0) (lv0 := [(0, .ref (ad (i + 400)))]) (by decide) (Nat.le_of_ble_eq_true rfl) rfl l0 rfl (fun p e s m args below meth c X hr => ?_)
  refine g_gcs X m_3_152 dJ0_coder_7d493_0 ?_
  refine g_if_eqF X 13 (by decide) (by decide) dJ0_coder_7d493_3 ?_
  refine g_aload_n X dJ0_coder_7d493_6 0 rfl rfl ?_
  refine g_strc X hi m_7_18 dJ0_coder_7d493_7 ?_
  refine g_goto X 14 (by decide) dJ0_coder_7d493_10 ?_
  exact g_zret X hr rfl rfl dJ0_coder_7d493_14
set_option maxRecDepth 100000 in
set_option maxHeartbeats 4000000 in
theorem tStr_isLatin1 {l : Launch} {D : va_G} {cy : Nat → ClassId} {ad : Nat → Nat} (M : Mem) {i : Nat} (hi : i < 9) : Mt l D cy ad yJ0_isLatin1_aae02 cJ0_isLatin1_aae02 1 (some .boolean) 1 [.ref (ad (i + 400))] M (some (.int 1), M) := by
  refine met_of (wf := wf0) (sd := fun _ => False) (M := M) (fin := (finI M)) (F := some 1) (x := 1) (lv0 := [(0, .ref (ad (i + 400)))]) (by decide) (Nat.le_of_ble_eq_true rfl) rfl l0 rfl (fun p e s m args below meth c X hr => ?_)
  refine g_gcs X m_3_152 dJ0_isLatin1_aae02_0 ?_
  refine g_if_eqF X 17 (by decide) (by decide) dJ0_isLatin1_aae02_3 ?_
  refine g_aload_n X dJ0_isLatin1_aae02_6 0 rfl rfl ?_
  refine g_strc X hi m_7_18 dJ0_isLatin1_aae02_7 ?_
  refine g_if_neF X 17 (by decide) (by decide) dJ0_isLatin1_aae02_10 ?_
  refine g_iconst X dJ0_isLatin1_aae02_13 tz_c1 ?_
  refine g_goto X 18 (by decide) dJ0_isLatin1_aae02_14 ?_
  exact g_zret X hr rfl rfl dJ0_isLatin1_aae02_18
set_option maxRecDepth 100000 in
set_option maxHeartbeats 4000000 in
theorem tStr_length {l : Launch} {D : va_G} {cy : Nat → ClassId} {ad : Nat → Nat} (M : Mem) {i : Nat} (hi : i < 9) : Mt l D cy ad yJ0_length_8abf5 cJ0_length_8abf5 1 (some .int) 2 [.ref (ad (i + 400))] M (some (.int (nI (svN.getD i 0))), M) := by
  refine met_of (wf := wf0) (sd := fun _ => False) (M := M) (fin := (finI M)) (F := some (nI (svN.getD i 0))) (x := (nI (svN.getD i 0))) (lv0 := [(0, .ref (ad (i + 400)))]) (by decide) (Nat.le_of_ble_eq_true rfl) rfl l0 rfl (fun p e s m args below meth c X hr => ?_)
  refine g_aload_n X dJ0_length_8abf5_0 0 rfl rfl ?_
  refine g_strv X hi m_7_17 dJ0_length_8abf5_1 ?_
  refine g_strn X (v0 := nI (svN.getD i 0)) hi rfl dJ0_length_8abf5_4 ?_
  refine g_aload_n X dJ0_length_8abf5_5 0 rfl rfl ?_
  refine g_ct X (v0 := .int 0) (st := [.int (nI (svN.getD i 0))]) (ok_T X (As := []) hi wkJ0_coder_7d493 rfl (tStr_coder M hi) rfl m_3_148 rfl (hRm (by decide) (by decide)) ⟨Nat.zero_le _, Nat.zero_le _⟩ (Nat.le_of_ble_eq_true rfl) dJ0_length_8abf5_6) ?_
  refine g_ishr X dJ0_length_8abf5_9 ?_
  have e : nI (svN.getD i 0) >>> ((0 : Int32) &&& 31) = nI (svN.getD i 0) := by
    refine sc_shr0 ?_
    have hA : ∀ i, i < 9 → svN.getD i 0 < 2 ^ 31 := by decide
    exact hA i hi
  rw [e]
  exact g_iret X hr rfl dJ0_length_8abf5_10
set_option maxRecDepth 100000 in
set_option maxHeartbeats 4000000 in
theorem tPre_check {l : Launch} {D : va_G} {cy : Nat → ClassId} {ad : Nat → Nat} (M : Mem) {i0 n0 : Int32} (v : Value) (hv : v = .null ∨ ∃ t, v = .ref t) (h1 : ¬ i0 < 0) (h2 : i0 < n0) : Mt l D cy ad yJ3_checkIndex_8e157 cJ3_checkIndex_8e157 3 (some .int) 1 [.int i0, .int n0, v] M (some (.int i0), M) := by
  rcases hv with rfl | ⟨t, rfl⟩
  · refine met_of (wf := wf0) (sd := fun _ => False) (M := M) (fin := (finI M)) (F := some i0) (x := i0) (lv0 := [(0, .int i0), (1, .int n0), (2, .null)]) (by decide) (Nat.le_of_ble_eq_true rfl) rfl l0 rfl (fun p e s m args below meth c X hr => ?_)
    refine g_iload_n X dJ3_checkIndex_8e157_0 0 rfl rfl ?_
    refine g_if_ltF X 9 h1 (by decide) dJ3_checkIndex_8e157_1 ?_
    refine g_iload_n X dJ3_checkIndex_8e157_4 0 rfl rfl ?_
    refine g_iload_n X dJ3_checkIndex_8e157_5 1 rfl rfl ?_
    refine g_icmp_ltT X 16 h2 (by decide) dJ3_checkIndex_8e157_6 ?_
    refine g_iload_n X dJ3_checkIndex_8e157_16 0 rfl rfl ?_
    exact g_iret X hr rfl dJ3_checkIndex_8e157_17
  · refine met_of (wf := wf0) (sd := fun _ => False) (M := M) (fin := (finI M)) (F := some i0) (x := i0) (lv0 := [(0, .int i0), (1, .int n0), (2, .ref t)]) (by decide) (Nat.le_of_ble_eq_true rfl) rfl l0 rfl (fun p e s m args below meth c X hr => ?_)
    refine g_iload_n X dJ3_checkIndex_8e157_0 0 rfl rfl ?_
    refine g_if_ltF X 9 h1 (by decide) dJ3_checkIndex_8e157_1 ?_
    refine g_iload_n X dJ3_checkIndex_8e157_4 0 rfl rfl ?_
    refine g_iload_n X dJ3_checkIndex_8e157_5 1 rfl rfl ?_
    refine g_icmp_ltT X 16 h2 (by decide) dJ3_checkIndex_8e157_6 ?_
    refine g_iload_n X dJ3_checkIndex_8e157_16 0 rfl rfl ?_
    exact g_iret X hr rfl dJ3_checkIndex_8e157_17
set_option maxRecDepth 100000 in
set_option maxHeartbeats 4000000 in
theorem tStr_check {l : Launch} {D : va_G} {cy : Nat → ClassId} {ad : Nat → Nat} (M : Mem) {i0 n0 : Int32} (h1 : ¬ i0 < 0) (h2 : i0 < n0) : Mt l D cy ad yJ0_checkIndex_df160 cJ0_checkIndex_df160 2 none 2 [.int i0, .int n0] M (none, M) := by
  refine met_of (wf := wf0) (sd := fun _ => False) (M := M) (fin := finV) (F := some M) (x := M) (lv0 := [(0, .int i0), (1, .int n0)]) (by decide) (Nat.le_of_ble_eq_true rfl) rfl l0 rfl (fun p e s m args below meth c X hr => ?_)
  refine g_iload_n X dJ0_checkIndex_df160_0 0 rfl rfl ?_
  refine g_iload_n X dJ0_checkIndex_df160_1 1 rfl rfl ?_
  refine g_gfm X m_3_168 dJ0_checkIndex_df160_2 (fun v hv => ?_)
  refine g_ct X (v0 := .int i0) (st := []) (ok_S X (As := [.int i0, .int n0, v]) wkJ3_checkIndex_8e157 (tPre_check M v hv h1 h2) rfl m_3_170 rfl (hRm (by decide) (by decide)) ⟨Nat.zero_le _, Nat.zero_le _⟩ (Nat.le_of_ble_eq_true rfl) dJ0_checkIndex_df160_5) ?_
  refine g_pop X dJ0_checkIndex_df160_8 rfl ?_
  exact g_vret X hr rfl dJ0_checkIndex_df160_9
set_option maxRecDepth 100000 in
set_option maxHeartbeats 4000000 in
theorem tL1_charAt {l : Launch} {D : va_G} {cy : Nat → ClassId} {ad : Nat → Nat} (M : Mem) {i : Nat} {i0 : Int32} (hi : i < 9) (hin : inb i0 (svN.getD i 0)) (h1 : ¬ i0 < 0) (h2 : i0 < nI (svN.getD i 0)) : Mt l D cy ad yJ1_charAt_3b067 cJ1_charAt_3b067 2 (some .char) 3 [.ref (ad (i + 500)), .int i0] M (some (.int (svc i (ix i0))), M) := by
  refine met_of (wf := wf0) (sd := fun _ => False) (M := M) (fin := (finI M)) (F := some (svc i (ix i0))) (x := (svc i (ix i0))) (lv0 := [(0, .ref (ad (i + 500))), (1, .int i0)]) (by decide) (Nat.le_of_ble_eq_true rfl) rfl l0 rfl (fun p e s m args below meth c X hr => ?_)
  refine g_iload_n X dJ1_charAt_3b067_0 1 rfl rfl ?_
  refine g_aload_n X dJ1_charAt_3b067_1 0 rfl rfl ?_
  refine g_strn X (v0 := nI (svN.getD i 0)) hi rfl dJ1_charAt_3b067_2 ?_
  refine g_cu (st := []) X.2.2.1 (ok_S X (As := [.int i0, .int (nI (svN.getD i 0))]) wkJ0_checkIndex_df160 (tStr_check M h1 h2) rfl m_3_165 rfl (hRm (by decide) (by decide)) ⟨Nat.zero_le _, Nat.zero_le _⟩ (Nat.le_of_ble_eq_true rfl) dJ1_charAt_3b067_3) ?_
  refine g_aload_n X dJ1_charAt_3b067_6 0 rfl rfl ?_
  refine g_iload_n X dJ1_charAt_3b067_7 1 rfl rfl ?_
  refine g_strb X hi hin dJ1_charAt_3b067_8 ?_
  refine g_sipush X dJ1_charAt_3b067_9 tz_bi ?_
  refine g_iand X dJ1_charAt_3b067_12 ?_
  refine g_i2c X (v0 := svc i (ix i0)) dJ1_charAt_3b067_13 (sc_c2 _) ?_
  exact g_zret X hr (sc_nar _) rfl dJ1_charAt_3b067_14
set_option maxRecDepth 100000 in
set_option maxHeartbeats 4000000 in
theorem tStr_charAt {l : Launch} {D : va_G} {cy : Nat → ClassId} {ad : Nat → Nat} (M : Mem) {i : Nat} {i0 : Int32} (hi : i < 9) (hin : inb i0 (svN.getD i 0)) (h1 : ¬ i0 < 0) (h2 : i0 < nI (svN.getD i 0)) : Mt l D cy ad yJ0_charAt_5068e cJ0_charAt_5068e 2 (some .char) 4 [.ref (ad (i + 400)), .int i0] M (some (.int (svc i (ix i0))), M) := by
  refine met_of (wf := wf0) (sd := fun _ => False) (M := M) (fin := (finI M)) (F := some (svc i (ix i0))) (x := (svc i (ix i0))) (lv0 := [(0, .ref (ad (i + 400))), (1, .int i0)]) (by decide) (Nat.le_of_ble_eq_true rfl) rfl l0 rfl (fun p e s m args below meth c X hr => ?_)
  refine g_aload_n X dJ0_charAt_5068e_0 0 rfl rfl ?_
  refine g_ct X (v0 := .int 1) (st := []) (ok_T X (As := []) hi wkJ0_isLatin1_aae02 rfl (tStr_isLatin1 M hi) rfl m_3_158 rfl (hRm (by decide) (by decide)) ⟨Nat.zero_le _, Nat.zero_le _⟩ (Nat.le_of_ble_eq_true rfl) dJ0_charAt_5068e_1) ?_
  refine g_if_eqF X 16 (by decide) (by decide) dJ0_charAt_5068e_4 ?_
  refine g_aload_n X dJ0_charAt_5068e_7 0 rfl rfl ?_
  refine g_strv X hi m_7_17 dJ0_charAt_5068e_8 ?_
  refine g_iload_n X dJ0_charAt_5068e_11 1 rfl rfl ?_
  refine g_ct X (v0 := .int (svc i (ix i0))) (st := []) (ok_S X (As := [.ref (ad (i + 500)), .int i0]) wkJ1_charAt_3b067 (tL1_charAt M hi hin h1 h2) rfl m_3_162 rfl (hRm (by decide) (by decide)) ⟨Nat.zero_le _, Nat.zero_le _⟩ (Nat.le_of_ble_eq_true rfl) dJ0_charAt_5068e_12) ?_
  exact g_zret X hr (sc_nar _) rfl dJ0_charAt_5068e_15
theorem inb_1 {x : Int32} {n : Nat} (h : inb x n) : ¬ x < 0 := fun q => inb_vp h (Or.inl q)
theorem inb_2 {i : Nat} {x : Int32} (hi : i < 9) (h : inb x (svN.getD i 0)) : x < nI (svN.getD i 0) := by
  have hA : ∀ i, i < 9 → svN.getD i 0 < 2 ^ 31 := by decide
  obtain ⟨j, h1, rfl⟩ := vp_in_of (inb_vp h) (hA i hi)
  exact nI_lt h1 (hA i hi)
