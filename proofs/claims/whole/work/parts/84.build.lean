theorem a_iastK {p : Program} {l : Launch} {e : Env} {R : Room} {s : State} {m : MethodId} {args : Array Value} {below : List Frame} {meth : Method} {c : Code} {cc : ByteArray} {nL : Nat} {own : String} {D : va_G} {cy : Nat → ClassId} {h0 n0 b0 : Nat} {cs sl : Nat} {Q : State → Prop} {pc : Nat} {lv : List (Nat × Value)} {st : List Value} {E : Nat → va_E} (X : CxA p s m args meth c cc nL own D cy h0 b0 n0) {o n : Nat} {f : Nat → Int32} {i x : Int32} (k : Nat) (hk : i.toNatClampNeg = k) (ho : o < n0 + cs) (he : E o = .inl (cy 1, n, .inl f)) (hin : vp_in i n) (hd : decode cc pc = .ok (.iastore, 1)) (K : GA p l e R s m args below meth c nL D h0 n0 Q (upE E o (.inl (cy 1, n, .inl (upd f k x)))) cs sl (pc + 1) lv st) : GA p l e R s m args below meth c nL D h0 n0 Q E cs sl pc lv (.int x :: .int i :: .ref (h0 + o) :: st) := by
  subst hk
  exact a_iast X ho he hin hd K
theorem z_jet {cy : Nat → ClassId} {h0 : Nat} {E : Nat → va_E} {a lo : Nat} (h : E a = .inl (cy 4, 20, .inr (.inr (.inr (.inr (fun _ => none)))))) : l_jet cy h0 E a lo 0 = E := by
  funext i
  unfold l_jet
  by_cases h1 : i = a
  · rw [h1, upE_s, h]
    congr 1
  · rw [upE_n h1, blk_n (by omega)]
theorem n_jet {cy : Nat → ClassId} {h0 : Nat} {E : Nat → va_E} {a lo j i : Nat} (h1 : i ≠ a) (h2 : i < lo) : l_jet cy h0 E a lo j i = E i := by
  unfold l_jet
  rw [upE_n h1, blk_n (by omega)]
theorem z_law {cy : Nat → ClassId} {h0 : Nat} {E : Nat → va_E} {a lo : Nat} (h : E a = .inl (cy 5, 6, .inr (.inr (.inr (.inr (fun _ => none)))))) : l_law cy h0 E a lo 0 = E := by
  funext i
  unfold l_law
  by_cases h1 : i = a
  · rw [h1, upE_s, h]
    congr 1
  · rw [upE_n h1, blk_n (by omega)]
theorem n_law {cy : Nat → ClassId} {h0 : Nat} {E : Nat → va_E} {a lo j i : Nat} (h1 : i ≠ a) (h2 : i < lo) : l_law cy h0 E a lo j i = E i := by
  unfold l_law
  rw [upE_n h1, blk_n (by omega)]
theorem z_lea {cy : Nat → ClassId} {h0 : Nat} {E : Nat → va_E} {a lo : Nat} (h : E a = .inl (cy 6, 6, .inr (.inr (.inr (.inr (fun _ => none)))))) : l_lea cy h0 E a lo 0 = E := by
  funext i
  unfold l_lea
  by_cases h1 : i = a
  · rw [h1, upE_s, h]
    congr 1
  · rw [upE_n h1, blk_n (by omega)]
theorem n_lea {cy : Nat → ClassId} {h0 : Nat} {E : Nat → va_E} {a lo j i : Nat} (h1 : i ≠ a) (h2 : i < lo) : l_lea cy h0 E a lo j i = E i := by
  unfold l_lea
  rw [upE_n h1, blk_n (by omega)]
theorem z_she {cy : Nat → ClassId} {h0 : Nat} {E : Nat → va_E} {a lo : Nat} (h : E a = .inl (cy 7, 8, .inr (.inr (.inr (.inr (fun _ => none)))))) : l_she cy h0 E a lo 0 = E := by
  funext i
  unfold l_she
  by_cases h1 : i = a
  · rw [h1, upE_s, h]
    congr 1
  · rw [upE_n h1, blk_n (by omega)]
theorem n_she {cy : Nat → ClassId} {h0 : Nat} {E : Nat → va_E} {a lo j i : Nat} (h1 : i ≠ a) (h2 : i < lo) : l_she cy h0 E a lo j i = E i := by
  unfold l_she
  rw [upE_n h1, blk_n (by omega)]
def e1 (cy : Nat → ClassId) (h0 : Nat) (E : Nat → va_E) (o n : Nat) : Nat → va_E := l_lea cy h0 (l_law cy h0 (l_jet cy h0 (upE (e9 cy h0 (upE (upE (upE (upE (upE (upE (upE (upE (upE (upE (upE (upE (upE (upE (upE (E) (n + 0) (.inl (cy 4, 20, .inr (.inr (.inr (.inr (fun _ => none))))))) o (.inr (1, [.ref (h0 + (n + 0)), .int 0, .null, .int 0, .int 0, .null, .int 0, .null, .null, .int 0, .null, .int 0, .int 0, .int 0, .int 0, .null]))) (n + 1) (.inl (cy 5, 6, .inr (.inr (.inr (.inr (fun _ => none))))))) o (.inr (1, [.ref (h0 + (n + 0)), .int 0, .ref (h0 + (n + 1)), .int 0, .int 0, .null, .int 0, .null, .null, .int 0, .null, .int 0, .int 0, .int 0, .int 0, .null]))) o (.inr (1, [.ref (h0 + (n + 0)), .int 0, .ref (h0 + (n + 1)), .int 0, .int (-1), .null, .int 0, .null, .null, .int 0, .null, .int 0, .int 0, .int 0, .int 0, .null]))) (n + 2) (.inl (cy 6, 6, .inr (.inr (.inr (.inr (fun _ => none))))))) o (.inr (1, [.ref (h0 + (n + 0)), .int 0, .ref (h0 + (n + 1)), .int 0, .int (-1), .ref (h0 + (n + 2)), .int 0, .null, .null, .int 0, .null, .int 0, .int 0, .int 0, .int 0, .null]))) (n + 3) (.inl (cy 1, 10, .inl (fun _ => 0)))) o (.inr (1, [.ref (h0 + (n + 0)), .int 0, .ref (h0 + (n + 1)), .int 0, .int (-1), .ref (h0 + (n + 2)), .int 0, .ref (h0 + (n + 3)), .null, .int 0, .null, .int 0, .int 0, .int 0, .int 0, .null]))) (n + 4) (.inl (cy 1, 10, .inl (fun _ => 0)))) o (.inr (1, [.ref (h0 + (n + 0)), .int 0, .ref (h0 + (n + 1)), .int 0, .int (-1), .ref (h0 + (n + 2)), .int 0, .ref (h0 + (n + 3)), .ref (h0 + (n + 4)), .int 0, .null, .int 0, .int 0, .int 0, .int 0, .null]))) (n + 5) (.inl (cy 1, 12, .inl (fun _ => 0)))) o (.inr (1, [.ref (h0 + (n + 0)), .int 0, .ref (h0 + (n + 1)), .int 0, .int (-1), .ref (h0 + (n + 2)), .int 0, .ref (h0 + (n + 3)), .ref (h0 + (n + 4)), .int 0, .ref (h0 + (n + 5)), .int 0, .int 0, .int 0, .int 0, .null]))) o (.inr (1, [.ref (h0 + (n + 0)), .int 0, .ref (h0 + (n + 1)), .int 0, .int (-1), .ref (h0 + (n + 2)), .int 0, .ref (h0 + (n + 3)), .ref (h0 + (n + 4)), .int 0, .ref (h0 + (n + 5)), .int 0, .int 0, .int 0, .int (1), .null]))) (n + 6) (.inr (9, [.int 0, .null, .int 0, .int 0, .int 0, .int 0, .int 0, .int 0]))) (n + 6) (n + 7)) o (.inr (1, [.ref (h0 + (n + 0)), .int 0, .ref (h0 + (n + 1)), .int 0, .int (-1), .ref (h0 + (n + 2)), .int 0, .ref (h0 + (n + 3)), .ref (h0 + (n + 4)), .int 0, .ref (h0 + (n + 5)), .int 0, .int 0, .int 0, .int (1), .ref (h0 + (n + 6))]))) (n + 0) (n + 8) 20) (n + 1) (n + 28) 6) (n + 2) (n + 40) 6
theorem e1_n {cy : Nat → ClassId} {h0 : Nat} {E : Nat → va_E} {o n j : Nat} (h1 : j ≠ o) (h2 : j < n) : e1 cy h0 E o n j = E j := by
  unfold e1
  rw [n_lea (by omega) (by omega), n_law (by omega) (by omega), n_jet (by omega) (by omega)]
  repeat (first | rw [upE_n (by omega)] | rw [e2_n (by omega) (by omega)] | rw [e9_n (by omega) (by omega)])
set_option maxRecDepth 100000 in
set_option maxHeartbeats 4000000 in
theorem c_1 {l : Launch} {D : va_G} {cy : Nat → ClassId} {h0 b0 n o : Nat} {E : Nat → va_E} (ho : o < n) (he : E o = .inr (1, [.null, .int 0, .null, .int 0, .int 0, .null, .int 0, .null, .null, .int 0, .null, .int 0, .int 0, .int 0, .int 0, .null])) : MA l D cy h0 b0 yX1_init cX1_init 2 3 46 270 [.ref (h0 + o)] n E (e1 cy h0 E o n) := by
  refine met_ofA (lv0 := [(0, .ref (h0 + o))]) (by decide) (Nat.le_of_ble_eq_true rfl) rfl (fun p e s m args below meth c X hr hnm => ?_)
  refine a_aload X dX1_init_0 0 rfl rfl ?_
  refine a_obj X m_1_53 ⟨Nat.le_of_ble_eq_true rfl, Nat.le_of_ble_eq_true rfl⟩ dX1_init_1 ?_
  refine a_aload X dX1_init_4 0 rfl rfl ?_
  refine a_bipush X (v := 20) dX1_init_5 (by decide) ?_
  refine a_newq0 X 20 m_1_54 (by decide) (by decide) (Nat.le_of_ble_eq_true rfl) ⟨Nat.le_of_ble_eq_true rfl, Nat.le_of_ble_eq_true rfl⟩ dX1_init_7 ?_
  show GA _ _ _ _ _ _ _ _ _ _ _ _ _ _ _ (upE E (n + 0) (.inl (cy 4, 20, .inr (.inr (.inr (.inr (fun _ => none))))))) 1 20 _ _ _
  have f1_o : (upE E (n + 0) (.inl (cy 4, 20, .inr (.inr (.inr (.inr (fun _ => none))))))) (o) = .inr (1, [.null, .int 0, .null, .int 0, .int 0, .null, .int 0, .null, .null, .int 0, .null, .int 0, .int 0, .int 0, .int 0, .null]) := (upE_n (by omega)).trans he
  have f1_n0 : (upE E (n + 0) (.inl (cy 4, 20, .inr (.inr (.inr (.inr (fun _ => none))))))) ((n + 0)) = .inl (cy 4, 20, .inr (.inr (.inr (.inr (fun _ => none))))) := upE_s
  generalize hE1 : upE E (n + 0) (.inl (cy 4, 20, .inr (.inr (.inr (.inr (fun _ => none)))))) = E1 at f1_o f1_n0 ⊢
  refine a_putF X (ci := 1) (i := 0) (C := RX1) (T := TX1) (N := 16) (ty := tyX1 0) (by omega) f1_o rfl inX1 tyX1 tyX1_ok nmX1 (by decide) rfl rfl hnm rfl (tyX1_ok 0 (by decide)) rfl rfl (Nat.le_of_ble_eq_true rfl) m_1_174 dX1_init_10 ?_
  show GA _ _ _ _ _ _ _ _ _ _ _ _ _ _ _ (upE E1 o (.inr (1, [.ref (h0 + (n + 0)), .int 0, .null, .int 0, .int 0, .null, .int 0, .null, .null, .int 0, .null, .int 0, .int 0, .int 0, .int 0, .null]))) _ _ _ _ _
  have f2_n0 : (upE E1 o (.inr (1, [.ref (h0 + (n + 0)), .int 0, .null, .int 0, .int 0, .null, .int 0, .null, .null, .int 0, .null, .int 0, .int 0, .int 0, .int 0, .null]))) ((n + 0)) = .inl (cy 4, 20, .inr (.inr (.inr (.inr (fun _ => none))))) := (upE_n (by omega)).trans f1_n0
  have f2_o : (upE E1 o (.inr (1, [.ref (h0 + (n + 0)), .int 0, .null, .int 0, .int 0, .null, .int 0, .null, .null, .int 0, .null, .int 0, .int 0, .int 0, .int 0, .null]))) (o) = .inr (1, [.ref (h0 + (n + 0)), .int 0, .null, .int 0, .int 0, .null, .int 0, .null, .null, .int 0, .null, .int 0, .int 0, .int 0, .int 0, .null]) := upE_s
  generalize hE2 : upE E1 o (.inr (1, [.ref (h0 + (n + 0)), .int 0, .null, .int 0, .int 0, .null, .int 0, .null, .null, .int 0, .null, .int 0, .int 0, .int 0, .int 0, .null])) = E2 at f2_n0 f2_o ⊢
  clear f1_o f1_n0
  refine a_aload X dX1_init_13 0 rfl rfl ?_
  refine a_bipush X (v := 6) dX1_init_14 (by decide) ?_
  refine a_newq2 X 6 m_1_56 (by decide) (by decide) (Nat.le_of_ble_eq_true rfl) ⟨Nat.le_of_ble_eq_true rfl, Nat.le_of_ble_eq_true rfl⟩ dX1_init_16 ?_
  show GA _ _ _ _ _ _ _ _ _ _ _ _ _ _ _ (upE E2 (n + 1) (.inl (cy 5, 6, .inr (.inr (.inr (.inr (fun _ => none))))))) 2 26 _ _ _
  have f3_n0 : (upE E2 (n + 1) (.inl (cy 5, 6, .inr (.inr (.inr (.inr (fun _ => none))))))) ((n + 0)) = .inl (cy 4, 20, .inr (.inr (.inr (.inr (fun _ => none))))) := (upE_n (by omega)).trans f2_n0
  have f3_o : (upE E2 (n + 1) (.inl (cy 5, 6, .inr (.inr (.inr (.inr (fun _ => none))))))) (o) = .inr (1, [.ref (h0 + (n + 0)), .int 0, .null, .int 0, .int 0, .null, .int 0, .null, .null, .int 0, .null, .int 0, .int 0, .int 0, .int 0, .null]) := (upE_n (by omega)).trans f2_o
  have f3_n1 : (upE E2 (n + 1) (.inl (cy 5, 6, .inr (.inr (.inr (.inr (fun _ => none))))))) ((n + 1)) = .inl (cy 5, 6, .inr (.inr (.inr (.inr (fun _ => none))))) := upE_s
  generalize hE3 : upE E2 (n + 1) (.inl (cy 5, 6, .inr (.inr (.inr (.inr (fun _ => none)))))) = E3 at f3_n0 f3_o f3_n1 ⊢
  clear f2_n0 f2_o
  refine a_putF X (ci := 1) (i := 2) (C := RX1) (T := TX1) (N := 16) (ty := tyX1 2) (by omega) f3_o rfl inX1 tyX1 tyX1_ok nmX1 (by decide) rfl rfl hnm rfl (tyX1_ok 2 (by decide)) rfl rfl (Nat.le_of_ble_eq_true rfl) m_1_180 dX1_init_19 ?_
  show GA _ _ _ _ _ _ _ _ _ _ _ _ _ _ _ (upE E3 o (.inr (1, [.ref (h0 + (n + 0)), .int 0, .ref (h0 + (n + 1)), .int 0, .int 0, .null, .int 0, .null, .null, .int 0, .null, .int 0, .int 0, .int 0, .int 0, .null]))) _ _ _ _ _
  have f4_n0 : (upE E3 o (.inr (1, [.ref (h0 + (n + 0)), .int 0, .ref (h0 + (n + 1)), .int 0, .int 0, .null, .int 0, .null, .null, .int 0, .null, .int 0, .int 0, .int 0, .int 0, .null]))) ((n + 0)) = .inl (cy 4, 20, .inr (.inr (.inr (.inr (fun _ => none))))) := (upE_n (by omega)).trans f3_n0
  have f4_n1 : (upE E3 o (.inr (1, [.ref (h0 + (n + 0)), .int 0, .ref (h0 + (n + 1)), .int 0, .int 0, .null, .int 0, .null, .null, .int 0, .null, .int 0, .int 0, .int 0, .int 0, .null]))) ((n + 1)) = .inl (cy 5, 6, .inr (.inr (.inr (.inr (fun _ => none))))) := (upE_n (by omega)).trans f3_n1
  have f4_o : (upE E3 o (.inr (1, [.ref (h0 + (n + 0)), .int 0, .ref (h0 + (n + 1)), .int 0, .int 0, .null, .int 0, .null, .null, .int 0, .null, .int 0, .int 0, .int 0, .int 0, .null]))) (o) = .inr (1, [.ref (h0 + (n + 0)), .int 0, .ref (h0 + (n + 1)), .int 0, .int 0, .null, .int 0, .null, .null, .int 0, .null, .int 0, .int 0, .int 0, .int 0, .null]) := upE_s
  generalize hE4 : upE E3 o (.inr (1, [.ref (h0 + (n + 0)), .int 0, .ref (h0 + (n + 1)), .int 0, .int 0, .null, .int 0, .null, .null, .int 0, .null, .int 0, .int 0, .int 0, .int 0, .null])) = E4 at f4_n0 f4_n1 f4_o ⊢
  clear f3_n0 f3_o f3_n1
  refine a_aload X dX1_init_22 0 rfl rfl ?_
  refine a_iconst X (v := -1) dX1_init_23 (by decide) ?_
  refine a_put X (ci := 1) (i := 4) (C := RX1) (T := TX1) (N := 16) (ty := tyX1 4) (by omega) f4_o rfl inX1 tyX1 tyX1_ok nmX1 (by decide) rfl rfl (tyX1_ok 4 (by decide)) rfl rfl (Nat.le_of_ble_eq_true rfl) m_1_184 dX1_init_24 ?_
  show GA _ _ _ _ _ _ _ _ _ _ _ _ _ _ _ (upE E4 o (.inr (1, [.ref (h0 + (n + 0)), .int 0, .ref (h0 + (n + 1)), .int 0, .int (-1), .null, .int 0, .null, .null, .int 0, .null, .int 0, .int 0, .int 0, .int 0, .null]))) _ _ _ _ _
  have f5_n0 : (upE E4 o (.inr (1, [.ref (h0 + (n + 0)), .int 0, .ref (h0 + (n + 1)), .int 0, .int (-1), .null, .int 0, .null, .null, .int 0, .null, .int 0, .int 0, .int 0, .int 0, .null]))) ((n + 0)) = .inl (cy 4, 20, .inr (.inr (.inr (.inr (fun _ => none))))) := (upE_n (by omega)).trans f4_n0
  have f5_n1 : (upE E4 o (.inr (1, [.ref (h0 + (n + 0)), .int 0, .ref (h0 + (n + 1)), .int 0, .int (-1), .null, .int 0, .null, .null, .int 0, .null, .int 0, .int 0, .int 0, .int 0, .null]))) ((n + 1)) = .inl (cy 5, 6, .inr (.inr (.inr (.inr (fun _ => none))))) := (upE_n (by omega)).trans f4_n1
  have f5_o : (upE E4 o (.inr (1, [.ref (h0 + (n + 0)), .int 0, .ref (h0 + (n + 1)), .int 0, .int (-1), .null, .int 0, .null, .null, .int 0, .null, .int 0, .int 0, .int 0, .int 0, .null]))) (o) = .inr (1, [.ref (h0 + (n + 0)), .int 0, .ref (h0 + (n + 1)), .int 0, .int (-1), .null, .int 0, .null, .null, .int 0, .null, .int 0, .int 0, .int 0, .int 0, .null]) := upE_s
  generalize hE5 : upE E4 o (.inr (1, [.ref (h0 + (n + 0)), .int 0, .ref (h0 + (n + 1)), .int 0, .int (-1), .null, .int 0, .null, .null, .int 0, .null, .int 0, .int 0, .int 0, .int 0, .null])) = E5 at f5_n0 f5_n1 f5_o ⊢
  clear f4_n0 f4_n1 f4_o
  refine a_aload X dX1_init_27 0 rfl rfl ?_
  refine a_bipush X (v := 6) dX1_init_28 (by decide) ?_
  refine a_newq3 X 6 m_1_58 (by decide) (by decide) (Nat.le_of_ble_eq_true rfl) ⟨Nat.le_of_ble_eq_true rfl, Nat.le_of_ble_eq_true rfl⟩ dX1_init_30 ?_
  show GA _ _ _ _ _ _ _ _ _ _ _ _ _ _ _ (upE E5 (n + 2) (.inl (cy 6, 6, .inr (.inr (.inr (.inr (fun _ => none))))))) 3 32 _ _ _
  have f6_n0 : (upE E5 (n + 2) (.inl (cy 6, 6, .inr (.inr (.inr (.inr (fun _ => none))))))) ((n + 0)) = .inl (cy 4, 20, .inr (.inr (.inr (.inr (fun _ => none))))) := (upE_n (by omega)).trans f5_n0
  have f6_n1 : (upE E5 (n + 2) (.inl (cy 6, 6, .inr (.inr (.inr (.inr (fun _ => none))))))) ((n + 1)) = .inl (cy 5, 6, .inr (.inr (.inr (.inr (fun _ => none))))) := (upE_n (by omega)).trans f5_n1
  have f6_o : (upE E5 (n + 2) (.inl (cy 6, 6, .inr (.inr (.inr (.inr (fun _ => none))))))) (o) = .inr (1, [.ref (h0 + (n + 0)), .int 0, .ref (h0 + (n + 1)), .int 0, .int (-1), .null, .int 0, .null, .null, .int 0, .null, .int 0, .int 0, .int 0, .int 0, .null]) := (upE_n (by omega)).trans f5_o
  have f6_n2 : (upE E5 (n + 2) (.inl (cy 6, 6, .inr (.inr (.inr (.inr (fun _ => none))))))) ((n + 2)) = .inl (cy 6, 6, .inr (.inr (.inr (.inr (fun _ => none))))) := upE_s
  generalize hE6 : upE E5 (n + 2) (.inl (cy 6, 6, .inr (.inr (.inr (.inr (fun _ => none)))))) = E6 at f6_n0 f6_n1 f6_o f6_n2 ⊢
  clear f5_n0 f5_n1 f5_o
  refine a_putF X (ci := 1) (i := 5) (C := RX1) (T := TX1) (N := 16) (ty := tyX1 5) (by omega) f6_o rfl inX1 tyX1 tyX1_ok nmX1 (by decide) rfl rfl hnm rfl (tyX1_ok 5 (by decide)) rfl rfl (Nat.le_of_ble_eq_true rfl) m_1_186 dX1_init_33 ?_
  show GA _ _ _ _ _ _ _ _ _ _ _ _ _ _ _ (upE E6 o (.inr (1, [.ref (h0 + (n + 0)), .int 0, .ref (h0 + (n + 1)), .int 0, .int (-1), .ref (h0 + (n + 2)), .int 0, .null, .null, .int 0, .null, .int 0, .int 0, .int 0, .int 0, .null]))) _ _ _ _ _
  have f7_n0 : (upE E6 o (.inr (1, [.ref (h0 + (n + 0)), .int 0, .ref (h0 + (n + 1)), .int 0, .int (-1), .ref (h0 + (n + 2)), .int 0, .null, .null, .int 0, .null, .int 0, .int 0, .int 0, .int 0, .null]))) ((n + 0)) = .inl (cy 4, 20, .inr (.inr (.inr (.inr (fun _ => none))))) := (upE_n (by omega)).trans f6_n0
  have f7_n1 : (upE E6 o (.inr (1, [.ref (h0 + (n + 0)), .int 0, .ref (h0 + (n + 1)), .int 0, .int (-1), .ref (h0 + (n + 2)), .int 0, .null, .null, .int 0, .null, .int 0, .int 0, .int 0, .int 0, .null]))) ((n + 1)) = .inl (cy 5, 6, .inr (.inr (.inr (.inr (fun _ => none))))) := (upE_n (by omega)).trans f6_n1
  have f7_n2 : (upE E6 o (.inr (1, [.ref (h0 + (n + 0)), .int 0, .ref (h0 + (n + 1)), .int 0, .int (-1), .ref (h0 + (n + 2)), .int 0, .null, .null, .int 0, .null, .int 0, .int 0, .int 0, .int 0, .null]))) ((n + 2)) = .inl (cy 6, 6, .inr (.inr (.inr (.inr (fun _ => none))))) := (upE_n (by omega)).trans f6_n2
  have f7_o : (upE E6 o (.inr (1, [.ref (h0 + (n + 0)), .int 0, .ref (h0 + (n + 1)), .int 0, .int (-1), .ref (h0 + (n + 2)), .int 0, .null, .null, .int 0, .null, .int 0, .int 0, .int 0, .int 0, .null]))) (o) = .inr (1, [.ref (h0 + (n + 0)), .int 0, .ref (h0 + (n + 1)), .int 0, .int (-1), .ref (h0 + (n + 2)), .int 0, .null, .null, .int 0, .null, .int 0, .int 0, .int 0, .int 0, .null]) := upE_s
  generalize hE7 : upE E6 o (.inr (1, [.ref (h0 + (n + 0)), .int 0, .ref (h0 + (n + 1)), .int 0, .int (-1), .ref (h0 + (n + 2)), .int 0, .null, .null, .int 0, .null, .int 0, .int 0, .int 0, .int 0, .null])) = E7 at f7_n0 f7_n1 f7_n2 f7_o ⊢
  clear f6_n0 f6_n1 f6_o f6_n2
  refine a_aload X dX1_init_36 0 rfl rfl ?_
  refine a_bipush X (v := 10) dX1_init_37 (by decide) ?_
  refine a_newaI X 10 m_1_103 (by decide) (by decide) (Nat.le_of_ble_eq_true rfl) ⟨Nat.le_of_ble_eq_true rfl, Nat.le_of_ble_eq_true rfl⟩ dX1_init_39 ?_
  show GA _ _ _ _ _ _ _ _ _ _ _ _ _ _ _ (upE E7 (n + 3) (.inl (cy 1, 10, .inl (fun _ => 0)))) 4 42 _ _ _
  have f8_n0 : (upE E7 (n + 3) (.inl (cy 1, 10, .inl (fun _ => 0)))) ((n + 0)) = .inl (cy 4, 20, .inr (.inr (.inr (.inr (fun _ => none))))) := (upE_n (by omega)).trans f7_n0
  have f8_n1 : (upE E7 (n + 3) (.inl (cy 1, 10, .inl (fun _ => 0)))) ((n + 1)) = .inl (cy 5, 6, .inr (.inr (.inr (.inr (fun _ => none))))) := (upE_n (by omega)).trans f7_n1
  have f8_n2 : (upE E7 (n + 3) (.inl (cy 1, 10, .inl (fun _ => 0)))) ((n + 2)) = .inl (cy 6, 6, .inr (.inr (.inr (.inr (fun _ => none))))) := (upE_n (by omega)).trans f7_n2
  have f8_o : (upE E7 (n + 3) (.inl (cy 1, 10, .inl (fun _ => 0)))) (o) = .inr (1, [.ref (h0 + (n + 0)), .int 0, .ref (h0 + (n + 1)), .int 0, .int (-1), .ref (h0 + (n + 2)), .int 0, .null, .null, .int 0, .null, .int 0, .int 0, .int 0, .int 0, .null]) := (upE_n (by omega)).trans f7_o
  generalize hE8 : upE E7 (n + 3) (.inl (cy 1, 10, .inl (fun _ => 0))) = E8 at f8_n0 f8_n1 f8_n2 f8_o ⊢
  clear f7_n0 f7_n1 f7_n2 f7_o
  refine a_putF X (ci := 1) (i := 7) (C := RX1) (T := TX1) (N := 16) (ty := tyX1 7) (by omega) f8_o rfl inX1 tyX1 tyX1_ok nmX1 (by decide) rfl rfl hnm rfl (tyX1_ok 7 (by decide)) rfl rfl (Nat.le_of_ble_eq_true rfl) m_1_191 dX1_init_41 ?_
  show GA _ _ _ _ _ _ _ _ _ _ _ _ _ _ _ (upE E8 o (.inr (1, [.ref (h0 + (n + 0)), .int 0, .ref (h0 + (n + 1)), .int 0, .int (-1), .ref (h0 + (n + 2)), .int 0, .ref (h0 + (n + 3)), .null, .int 0, .null, .int 0, .int 0, .int 0, .int 0, .null]))) _ _ _ _ _
  have f9_n0 : (upE E8 o (.inr (1, [.ref (h0 + (n + 0)), .int 0, .ref (h0 + (n + 1)), .int 0, .int (-1), .ref (h0 + (n + 2)), .int 0, .ref (h0 + (n + 3)), .null, .int 0, .null, .int 0, .int 0, .int 0, .int 0, .null]))) ((n + 0)) = .inl (cy 4, 20, .inr (.inr (.inr (.inr (fun _ => none))))) := (upE_n (by omega)).trans f8_n0
  have f9_n1 : (upE E8 o (.inr (1, [.ref (h0 + (n + 0)), .int 0, .ref (h0 + (n + 1)), .int 0, .int (-1), .ref (h0 + (n + 2)), .int 0, .ref (h0 + (n + 3)), .null, .int 0, .null, .int 0, .int 0, .int 0, .int 0, .null]))) ((n + 1)) = .inl (cy 5, 6, .inr (.inr (.inr (.inr (fun _ => none))))) := (upE_n (by omega)).trans f8_n1
  have f9_n2 : (upE E8 o (.inr (1, [.ref (h0 + (n + 0)), .int 0, .ref (h0 + (n + 1)), .int 0, .int (-1), .ref (h0 + (n + 2)), .int 0, .ref (h0 + (n + 3)), .null, .int 0, .null, .int 0, .int 0, .int 0, .int 0, .null]))) ((n + 2)) = .inl (cy 6, 6, .inr (.inr (.inr (.inr (fun _ => none))))) := (upE_n (by omega)).trans f8_n2
  have f9_o : (upE E8 o (.inr (1, [.ref (h0 + (n + 0)), .int 0, .ref (h0 + (n + 1)), .int 0, .int (-1), .ref (h0 + (n + 2)), .int 0, .ref (h0 + (n + 3)), .null, .int 0, .null, .int 0, .int 0, .int 0, .int 0, .null]))) (o) = .inr (1, [.ref (h0 + (n + 0)), .int 0, .ref (h0 + (n + 1)), .int 0, .int (-1), .ref (h0 + (n + 2)), .int 0, .ref (h0 + (n + 3)), .null, .int 0, .null, .int 0, .int 0, .int 0, .int 0, .null]) := upE_s
  generalize hE9 : upE E8 o (.inr (1, [.ref (h0 + (n + 0)), .int 0, .ref (h0 + (n + 1)), .int 0, .int (-1), .ref (h0 + (n + 2)), .int 0, .ref (h0 + (n + 3)), .null, .int 0, .null, .int 0, .int 0, .int 0, .int 0, .null])) = E9 at f9_n0 f9_n1 f9_n2 f9_o ⊢
  clear f8_n0 f8_n1 f8_n2 f8_o
  refine a_aload X dX1_init_44 0 rfl rfl ?_
  refine a_bipush X (v := 10) dX1_init_45 (by decide) ?_
  refine a_newaI X 10 m_1_103 (by decide) (by decide) (Nat.le_of_ble_eq_true rfl) ⟨Nat.le_of_ble_eq_true rfl, Nat.le_of_ble_eq_true rfl⟩ dX1_init_47 ?_
  show GA _ _ _ _ _ _ _ _ _ _ _ _ _ _ _ (upE E9 (n + 4) (.inl (cy 1, 10, .inl (fun _ => 0)))) 5 52 _ _ _
  have f10_n0 : (upE E9 (n + 4) (.inl (cy 1, 10, .inl (fun _ => 0)))) ((n + 0)) = .inl (cy 4, 20, .inr (.inr (.inr (.inr (fun _ => none))))) := (upE_n (by omega)).trans f9_n0
  have f10_n1 : (upE E9 (n + 4) (.inl (cy 1, 10, .inl (fun _ => 0)))) ((n + 1)) = .inl (cy 5, 6, .inr (.inr (.inr (.inr (fun _ => none))))) := (upE_n (by omega)).trans f9_n1
  have f10_n2 : (upE E9 (n + 4) (.inl (cy 1, 10, .inl (fun _ => 0)))) ((n + 2)) = .inl (cy 6, 6, .inr (.inr (.inr (.inr (fun _ => none))))) := (upE_n (by omega)).trans f9_n2
  have f10_o : (upE E9 (n + 4) (.inl (cy 1, 10, .inl (fun _ => 0)))) (o) = .inr (1, [.ref (h0 + (n + 0)), .int 0, .ref (h0 + (n + 1)), .int 0, .int (-1), .ref (h0 + (n + 2)), .int 0, .ref (h0 + (n + 3)), .null, .int 0, .null, .int 0, .int 0, .int 0, .int 0, .null]) := (upE_n (by omega)).trans f9_o
  generalize hE10 : upE E9 (n + 4) (.inl (cy 1, 10, .inl (fun _ => 0))) = E10 at f10_n0 f10_n1 f10_n2 f10_o ⊢
  clear f9_n0 f9_n1 f9_n2 f9_o
  refine a_putF X (ci := 1) (i := 8) (C := RX1) (T := TX1) (N := 16) (ty := tyX1 8) (by omega) f10_o rfl inX1 tyX1 tyX1_ok nmX1 (by decide) rfl rfl hnm rfl (tyX1_ok 8 (by decide)) rfl rfl (Nat.le_of_ble_eq_true rfl) m_1_193 dX1_init_49 ?_
  show GA _ _ _ _ _ _ _ _ _ _ _ _ _ _ _ (upE E10 o (.inr (1, [.ref (h0 + (n + 0)), .int 0, .ref (h0 + (n + 1)), .int 0, .int (-1), .ref (h0 + (n + 2)), .int 0, .ref (h0 + (n + 3)), .ref (h0 + (n + 4)), .int 0, .null, .int 0, .int 0, .int 0, .int 0, .null]))) _ _ _ _ _
  have f11_n0 : (upE E10 o (.inr (1, [.ref (h0 + (n + 0)), .int 0, .ref (h0 + (n + 1)), .int 0, .int (-1), .ref (h0 + (n + 2)), .int 0, .ref (h0 + (n + 3)), .ref (h0 + (n + 4)), .int 0, .null, .int 0, .int 0, .int 0, .int 0, .null]))) ((n + 0)) = .inl (cy 4, 20, .inr (.inr (.inr (.inr (fun _ => none))))) := (upE_n (by omega)).trans f10_n0
  have f11_n1 : (upE E10 o (.inr (1, [.ref (h0 + (n + 0)), .int 0, .ref (h0 + (n + 1)), .int 0, .int (-1), .ref (h0 + (n + 2)), .int 0, .ref (h0 + (n + 3)), .ref (h0 + (n + 4)), .int 0, .null, .int 0, .int 0, .int 0, .int 0, .null]))) ((n + 1)) = .inl (cy 5, 6, .inr (.inr (.inr (.inr (fun _ => none))))) := (upE_n (by omega)).trans f10_n1
  have f11_n2 : (upE E10 o (.inr (1, [.ref (h0 + (n + 0)), .int 0, .ref (h0 + (n + 1)), .int 0, .int (-1), .ref (h0 + (n + 2)), .int 0, .ref (h0 + (n + 3)), .ref (h0 + (n + 4)), .int 0, .null, .int 0, .int 0, .int 0, .int 0, .null]))) ((n + 2)) = .inl (cy 6, 6, .inr (.inr (.inr (.inr (fun _ => none))))) := (upE_n (by omega)).trans f10_n2
  have f11_o : (upE E10 o (.inr (1, [.ref (h0 + (n + 0)), .int 0, .ref (h0 + (n + 1)), .int 0, .int (-1), .ref (h0 + (n + 2)), .int 0, .ref (h0 + (n + 3)), .ref (h0 + (n + 4)), .int 0, .null, .int 0, .int 0, .int 0, .int 0, .null]))) (o) = .inr (1, [.ref (h0 + (n + 0)), .int 0, .ref (h0 + (n + 1)), .int 0, .int (-1), .ref (h0 + (n + 2)), .int 0, .ref (h0 + (n + 3)), .ref (h0 + (n + 4)), .int 0, .null, .int 0, .int 0, .int 0, .int 0, .null]) := upE_s
  generalize hE11 : upE E10 o (.inr (1, [.ref (h0 + (n + 0)), .int 0, .ref (h0 + (n + 1)), .int 0, .int (-1), .ref (h0 + (n + 2)), .int 0, .ref (h0 + (n + 3)), .ref (h0 + (n + 4)), .int 0, .null, .int 0, .int 0, .int 0, .int 0, .null])) = E11 at f11_n0 f11_n1 f11_n2 f11_o ⊢
  clear f10_n0 f10_n1 f10_n2 f10_o
  refine a_aload X dX1_init_52 0 rfl rfl ?_
  refine a_bipush X (v := 12) dX1_init_53 (by decide) ?_
  refine a_newaI X 12 m_1_103 (by decide) (by decide) (Nat.le_of_ble_eq_true rfl) ⟨Nat.le_of_ble_eq_true rfl, Nat.le_of_ble_eq_true rfl⟩ dX1_init_55 ?_
  show GA _ _ _ _ _ _ _ _ _ _ _ _ _ _ _ (upE E11 (n + 5) (.inl (cy 1, 12, .inl (fun _ => 0)))) 6 64 _ _ _
  have f12_n0 : (upE E11 (n + 5) (.inl (cy 1, 12, .inl (fun _ => 0)))) ((n + 0)) = .inl (cy 4, 20, .inr (.inr (.inr (.inr (fun _ => none))))) := (upE_n (by omega)).trans f11_n0
  have f12_n1 : (upE E11 (n + 5) (.inl (cy 1, 12, .inl (fun _ => 0)))) ((n + 1)) = .inl (cy 5, 6, .inr (.inr (.inr (.inr (fun _ => none))))) := (upE_n (by omega)).trans f11_n1
  have f12_n2 : (upE E11 (n + 5) (.inl (cy 1, 12, .inl (fun _ => 0)))) ((n + 2)) = .inl (cy 6, 6, .inr (.inr (.inr (.inr (fun _ => none))))) := (upE_n (by omega)).trans f11_n2
  have f12_o : (upE E11 (n + 5) (.inl (cy 1, 12, .inl (fun _ => 0)))) (o) = .inr (1, [.ref (h0 + (n + 0)), .int 0, .ref (h0 + (n + 1)), .int 0, .int (-1), .ref (h0 + (n + 2)), .int 0, .ref (h0 + (n + 3)), .ref (h0 + (n + 4)), .int 0, .null, .int 0, .int 0, .int 0, .int 0, .null]) := (upE_n (by omega)).trans f11_o
  generalize hE12 : upE E11 (n + 5) (.inl (cy 1, 12, .inl (fun _ => 0))) = E12 at f12_n0 f12_n1 f12_n2 f12_o ⊢
  clear f11_n0 f11_n1 f11_n2 f11_o
  refine a_putF X (ci := 1) (i := 10) (C := RX1) (T := TX1) (N := 16) (ty := tyX1 10) (by omega) f12_o rfl inX1 tyX1 tyX1_ok nmX1 (by decide) rfl rfl hnm rfl (tyX1_ok 10 (by decide)) rfl rfl (Nat.le_of_ble_eq_true rfl) m_1_197 dX1_init_57 ?_
  show GA _ _ _ _ _ _ _ _ _ _ _ _ _ _ _ (upE E12 o (.inr (1, [.ref (h0 + (n + 0)), .int 0, .ref (h0 + (n + 1)), .int 0, .int (-1), .ref (h0 + (n + 2)), .int 0, .ref (h0 + (n + 3)), .ref (h0 + (n + 4)), .int 0, .ref (h0 + (n + 5)), .int 0, .int 0, .int 0, .int 0, .null]))) _ _ _ _ _
  have f13_n0 : (upE E12 o (.inr (1, [.ref (h0 + (n + 0)), .int 0, .ref (h0 + (n + 1)), .int 0, .int (-1), .ref (h0 + (n + 2)), .int 0, .ref (h0 + (n + 3)), .ref (h0 + (n + 4)), .int 0, .ref (h0 + (n + 5)), .int 0, .int 0, .int 0, .int 0, .null]))) ((n + 0)) = .inl (cy 4, 20, .inr (.inr (.inr (.inr (fun _ => none))))) := (upE_n (by omega)).trans f12_n0
  have f13_n1 : (upE E12 o (.inr (1, [.ref (h0 + (n + 0)), .int 0, .ref (h0 + (n + 1)), .int 0, .int (-1), .ref (h0 + (n + 2)), .int 0, .ref (h0 + (n + 3)), .ref (h0 + (n + 4)), .int 0, .ref (h0 + (n + 5)), .int 0, .int 0, .int 0, .int 0, .null]))) ((n + 1)) = .inl (cy 5, 6, .inr (.inr (.inr (.inr (fun _ => none))))) := (upE_n (by omega)).trans f12_n1
  have f13_n2 : (upE E12 o (.inr (1, [.ref (h0 + (n + 0)), .int 0, .ref (h0 + (n + 1)), .int 0, .int (-1), .ref (h0 + (n + 2)), .int 0, .ref (h0 + (n + 3)), .ref (h0 + (n + 4)), .int 0, .ref (h0 + (n + 5)), .int 0, .int 0, .int 0, .int 0, .null]))) ((n + 2)) = .inl (cy 6, 6, .inr (.inr (.inr (.inr (fun _ => none))))) := (upE_n (by omega)).trans f12_n2
  have f13_o : (upE E12 o (.inr (1, [.ref (h0 + (n + 0)), .int 0, .ref (h0 + (n + 1)), .int 0, .int (-1), .ref (h0 + (n + 2)), .int 0, .ref (h0 + (n + 3)), .ref (h0 + (n + 4)), .int 0, .ref (h0 + (n + 5)), .int 0, .int 0, .int 0, .int 0, .null]))) (o) = .inr (1, [.ref (h0 + (n + 0)), .int 0, .ref (h0 + (n + 1)), .int 0, .int (-1), .ref (h0 + (n + 2)), .int 0, .ref (h0 + (n + 3)), .ref (h0 + (n + 4)), .int 0, .ref (h0 + (n + 5)), .int 0, .int 0, .int 0, .int 0, .null]) := upE_s
  generalize hE13 : upE E12 o (.inr (1, [.ref (h0 + (n + 0)), .int 0, .ref (h0 + (n + 1)), .int 0, .int (-1), .ref (h0 + (n + 2)), .int 0, .ref (h0 + (n + 3)), .ref (h0 + (n + 4)), .int 0, .ref (h0 + (n + 5)), .int 0, .int 0, .int 0, .int 0, .null])) = E13 at f13_n0 f13_n1 f13_n2 f13_o ⊢
  clear f12_n0 f12_n1 f12_n2 f12_o
  refine a_aload X dX1_init_60 0 rfl rfl ?_
  refine a_iconst X (v := 1) dX1_init_61 (by decide) ?_
  refine a_put X (ci := 1) (i := 14) (C := RX1) (T := TX1) (N := 16) (ty := tyX1 14) (by omega) f13_o rfl inX1 tyX1 tyX1_ok nmX1 (by decide) rfl rfl (tyX1_ok 14 (by decide)) rfl rfl (Nat.le_of_ble_eq_true rfl) m_1_207 dX1_init_62 ?_
  show GA _ _ _ _ _ _ _ _ _ _ _ _ _ _ _ (upE E13 o (.inr (1, [.ref (h0 + (n + 0)), .int 0, .ref (h0 + (n + 1)), .int 0, .int (-1), .ref (h0 + (n + 2)), .int 0, .ref (h0 + (n + 3)), .ref (h0 + (n + 4)), .int 0, .ref (h0 + (n + 5)), .int 0, .int 0, .int 0, .int (1), .null]))) _ _ _ _ _
  have f14_n0 : (upE E13 o (.inr (1, [.ref (h0 + (n + 0)), .int 0, .ref (h0 + (n + 1)), .int 0, .int (-1), .ref (h0 + (n + 2)), .int 0, .ref (h0 + (n + 3)), .ref (h0 + (n + 4)), .int 0, .ref (h0 + (n + 5)), .int 0, .int 0, .int 0, .int (1), .null]))) ((n + 0)) = .inl (cy 4, 20, .inr (.inr (.inr (.inr (fun _ => none))))) := (upE_n (by omega)).trans f13_n0
  have f14_n1 : (upE E13 o (.inr (1, [.ref (h0 + (n + 0)), .int 0, .ref (h0 + (n + 1)), .int 0, .int (-1), .ref (h0 + (n + 2)), .int 0, .ref (h0 + (n + 3)), .ref (h0 + (n + 4)), .int 0, .ref (h0 + (n + 5)), .int 0, .int 0, .int 0, .int (1), .null]))) ((n + 1)) = .inl (cy 5, 6, .inr (.inr (.inr (.inr (fun _ => none))))) := (upE_n (by omega)).trans f13_n1
  have f14_n2 : (upE E13 o (.inr (1, [.ref (h0 + (n + 0)), .int 0, .ref (h0 + (n + 1)), .int 0, .int (-1), .ref (h0 + (n + 2)), .int 0, .ref (h0 + (n + 3)), .ref (h0 + (n + 4)), .int 0, .ref (h0 + (n + 5)), .int 0, .int 0, .int 0, .int (1), .null]))) ((n + 2)) = .inl (cy 6, 6, .inr (.inr (.inr (.inr (fun _ => none))))) := (upE_n (by omega)).trans f13_n2
  have f14_o : (upE E13 o (.inr (1, [.ref (h0 + (n + 0)), .int 0, .ref (h0 + (n + 1)), .int 0, .int (-1), .ref (h0 + (n + 2)), .int 0, .ref (h0 + (n + 3)), .ref (h0 + (n + 4)), .int 0, .ref (h0 + (n + 5)), .int 0, .int 0, .int 0, .int (1), .null]))) (o) = .inr (1, [.ref (h0 + (n + 0)), .int 0, .ref (h0 + (n + 1)), .int 0, .int (-1), .ref (h0 + (n + 2)), .int 0, .ref (h0 + (n + 3)), .ref (h0 + (n + 4)), .int 0, .ref (h0 + (n + 5)), .int 0, .int 0, .int 0, .int (1), .null]) := upE_s
  generalize hE14 : upE E13 o (.inr (1, [.ref (h0 + (n + 0)), .int 0, .ref (h0 + (n + 1)), .int 0, .int (-1), .ref (h0 + (n + 2)), .int 0, .ref (h0 + (n + 3)), .ref (h0 + (n + 4)), .int 0, .ref (h0 + (n + 5)), .int 0, .int 0, .int 0, .int (1), .null])) = E14 at f14_n0 f14_n1 f14_n2 f14_o ⊢
  clear f13_n0 f13_n1 f13_n2 f13_o
  refine a_aload X dX1_init_65 0 rfl rfl ?_
  refine a_new X (ci := 9) (C := RX9) (T := TX9) (N := 8) rfl inX9 tyX9 tyX9_ok m_1_60 m_1_61 m_1_4 fr_9 ⟨Nat.le_of_ble_eq_true rfl, Nat.le_of_ble_eq_true rfl⟩ dX1_init_66 ?_
  show GA _ _ _ _ _ _ _ _ _ _ _ _ _ _ _ (upE E14 (n + 6) (.inr (9, [.int 0, .null, .int 0, .int 0, .int 0, .int 0, .int 0, .int 0]))) 7 72 _ _ _
  have f15_n0 : (upE E14 (n + 6) (.inr (9, [.int 0, .null, .int 0, .int 0, .int 0, .int 0, .int 0, .int 0]))) ((n + 0)) = .inl (cy 4, 20, .inr (.inr (.inr (.inr (fun _ => none))))) := (upE_n (by omega)).trans f14_n0
  have f15_n1 : (upE E14 (n + 6) (.inr (9, [.int 0, .null, .int 0, .int 0, .int 0, .int 0, .int 0, .int 0]))) ((n + 1)) = .inl (cy 5, 6, .inr (.inr (.inr (.inr (fun _ => none))))) := (upE_n (by omega)).trans f14_n1
  have f15_n2 : (upE E14 (n + 6) (.inr (9, [.int 0, .null, .int 0, .int 0, .int 0, .int 0, .int 0, .int 0]))) ((n + 2)) = .inl (cy 6, 6, .inr (.inr (.inr (.inr (fun _ => none))))) := (upE_n (by omega)).trans f14_n2
  have f15_o : (upE E14 (n + 6) (.inr (9, [.int 0, .null, .int 0, .int 0, .int 0, .int 0, .int 0, .int 0]))) (o) = .inr (1, [.ref (h0 + (n + 0)), .int 0, .ref (h0 + (n + 1)), .int 0, .int (-1), .ref (h0 + (n + 2)), .int 0, .ref (h0 + (n + 3)), .ref (h0 + (n + 4)), .int 0, .ref (h0 + (n + 5)), .int 0, .int 0, .int 0, .int (1), .null]) := (upE_n (by omega)).trans f14_o
  have f15_n6 : (upE E14 (n + 6) (.inr (9, [.int 0, .null, .int 0, .int 0, .int 0, .int 0, .int 0, .int 0]))) ((n + 6)) = .inr (9, [.int 0, .null, .int 0, .int 0, .int 0, .int 0, .int 0, .int 0]) := upE_s
  generalize hE15 : upE E14 (n + 6) (.inr (9, [.int 0, .null, .int 0, .int 0, .int 0, .int 0, .int 0, .int 0])) = E15 at f15_n0 f15_n1 f15_n2 f15_o f15_n6 ⊢
  clear f14_n0 f14_n1 f14_n2 f14_o
  refine a_dup X dX1_init_69 rfl ?_
  refine a_call X wi_9 (c_9 (by omega) f15_n6) m_1_62 ⟨Nat.le_of_ble_eq_true rfl, Nat.le_of_ble_eq_true rfl⟩ ⟨Nat.le_of_ble_eq_true rfl, Nat.le_of_ble_eq_true rfl⟩ (Nat.le_of_ble_eq_true rfl) dX1_init_70 ?_
  show GA _ _ _ _ _ _ _ _ _ _ _ _ _ _ _ (e9 cy h0 E15 (n + 6) (n + 7)) 8 92 _ _ _
  have f16_n0 : (e9 cy h0 E15 (n + 6) (n + 7)) ((n + 0)) = .inl (cy 4, 20, .inr (.inr (.inr (.inr (fun _ => none))))) := (e9_n (by omega) (by omega)).trans f15_n0
  have f16_n1 : (e9 cy h0 E15 (n + 6) (n + 7)) ((n + 1)) = .inl (cy 5, 6, .inr (.inr (.inr (.inr (fun _ => none))))) := (e9_n (by omega) (by omega)).trans f15_n1
  have f16_n2 : (e9 cy h0 E15 (n + 6) (n + 7)) ((n + 2)) = .inl (cy 6, 6, .inr (.inr (.inr (.inr (fun _ => none))))) := (e9_n (by omega) (by omega)).trans f15_n2
  have f16_o : (e9 cy h0 E15 (n + 6) (n + 7)) (o) = .inr (1, [.ref (h0 + (n + 0)), .int 0, .ref (h0 + (n + 1)), .int 0, .int (-1), .ref (h0 + (n + 2)), .int 0, .ref (h0 + (n + 3)), .ref (h0 + (n + 4)), .int 0, .ref (h0 + (n + 5)), .int 0, .int 0, .int 0, .int (1), .null]) := (e9_n (by omega) (by omega)).trans f15_o
  generalize hE16 : e9 cy h0 E15 (n + 6) (n + 7) = E16 at f16_n0 f16_n1 f16_n2 f16_o ⊢
  clear f15_n0 f15_n1 f15_n2 f15_o f15_n6
  refine a_putF X (ci := 1) (i := 15) (C := RX1) (T := TX1) (N := 16) (ty := tyX1 15) (by omega) f16_o rfl inX1 tyX1 tyX1_ok nmX1 (by decide) rfl rfl hnm rfl (tyX1_ok 15 (by decide)) rfl rfl (Nat.le_of_ble_eq_true rfl) m_1_209 dX1_init_73 ?_
  show GA _ _ _ _ _ _ _ _ _ _ _ _ _ _ _ (upE E16 o (.inr (1, [.ref (h0 + (n + 0)), .int 0, .ref (h0 + (n + 1)), .int 0, .int (-1), .ref (h0 + (n + 2)), .int 0, .ref (h0 + (n + 3)), .ref (h0 + (n + 4)), .int 0, .ref (h0 + (n + 5)), .int 0, .int 0, .int 0, .int (1), .ref (h0 + (n + 6))]))) _ _ _ _ _
  have f17_n0 : (upE E16 o (.inr (1, [.ref (h0 + (n + 0)), .int 0, .ref (h0 + (n + 1)), .int 0, .int (-1), .ref (h0 + (n + 2)), .int 0, .ref (h0 + (n + 3)), .ref (h0 + (n + 4)), .int 0, .ref (h0 + (n + 5)), .int 0, .int 0, .int 0, .int (1), .ref (h0 + (n + 6))]))) ((n + 0)) = .inl (cy 4, 20, .inr (.inr (.inr (.inr (fun _ => none))))) := (upE_n (by omega)).trans f16_n0
  have f17_n1 : (upE E16 o (.inr (1, [.ref (h0 + (n + 0)), .int 0, .ref (h0 + (n + 1)), .int 0, .int (-1), .ref (h0 + (n + 2)), .int 0, .ref (h0 + (n + 3)), .ref (h0 + (n + 4)), .int 0, .ref (h0 + (n + 5)), .int 0, .int 0, .int 0, .int (1), .ref (h0 + (n + 6))]))) ((n + 1)) = .inl (cy 5, 6, .inr (.inr (.inr (.inr (fun _ => none))))) := (upE_n (by omega)).trans f16_n1
  have f17_n2 : (upE E16 o (.inr (1, [.ref (h0 + (n + 0)), .int 0, .ref (h0 + (n + 1)), .int 0, .int (-1), .ref (h0 + (n + 2)), .int 0, .ref (h0 + (n + 3)), .ref (h0 + (n + 4)), .int 0, .ref (h0 + (n + 5)), .int 0, .int 0, .int 0, .int (1), .ref (h0 + (n + 6))]))) ((n + 2)) = .inl (cy 6, 6, .inr (.inr (.inr (.inr (fun _ => none))))) := (upE_n (by omega)).trans f16_n2
  have f17_o : (upE E16 o (.inr (1, [.ref (h0 + (n + 0)), .int 0, .ref (h0 + (n + 1)), .int 0, .int (-1), .ref (h0 + (n + 2)), .int 0, .ref (h0 + (n + 3)), .ref (h0 + (n + 4)), .int 0, .ref (h0 + (n + 5)), .int 0, .int 0, .int 0, .int (1), .ref (h0 + (n + 6))]))) (o) = .inr (1, [.ref (h0 + (n + 0)), .int 0, .ref (h0 + (n + 1)), .int 0, .int (-1), .ref (h0 + (n + 2)), .int 0, .ref (h0 + (n + 3)), .ref (h0 + (n + 4)), .int 0, .ref (h0 + (n + 5)), .int 0, .int 0, .int 0, .int (1), .ref (h0 + (n + 6))]) := upE_s
  generalize hE17 : upE E16 o (.inr (1, [.ref (h0 + (n + 0)), .int 0, .ref (h0 + (n + 1)), .int 0, .int (-1), .ref (h0 + (n + 2)), .int 0, .ref (h0 + (n + 3)), .ref (h0 + (n + 4)), .int 0, .ref (h0 + (n + 5)), .int 0, .int 0, .int 0, .int (1), .ref (h0 + (n + 6))])) = E17 at f17_n0 f17_n1 f17_n2 f17_o ⊢
  clear f16_n0 f16_n1 f16_n2 f16_o
  refine a_iconst X (v := 0) dX1_init_76 (by decide) ?_
  refine a_istore X (lu := [(0, .ref (h0 + o)), (1, .int 0)]) dX1_init_77 rfl (by omega) rfl [1, 0] rfl ?_
  rw [← z_jet (lo := n + 8) f17_n0]
  refine lp_jet X (lo := n + 8) (o := o) (a := (n + 0)) (cs := 8) (sl := 92) rfl rfl (by omega) (by omega) (by omega) f17_o (Nat.le_of_ble_eq_true rfl) (Nat.le_of_ble_eq_true rfl) ⟨Nat.le_of_ble_eq_true rfl, Nat.le_of_ble_eq_true rfl⟩ ?_ 20 0 (by omega)
  have f18_n1 : (l_jet cy h0 E17 (n + 0) (n + 8) 20) ((n + 1)) = .inl (cy 5, 6, .inr (.inr (.inr (.inr (fun _ => none))))) := (n_jet (by omega) (by omega)).trans f17_n1
  have f18_n2 : (l_jet cy h0 E17 (n + 0) (n + 8) 20) ((n + 2)) = .inl (cy 6, 6, .inr (.inr (.inr (.inr (fun _ => none))))) := (n_jet (by omega) (by omega)).trans f17_n2
  have f18_o : (l_jet cy h0 E17 (n + 0) (n + 8) 20) (o) = .inr (1, [.ref (h0 + (n + 0)), .int 0, .ref (h0 + (n + 1)), .int 0, .int (-1), .ref (h0 + (n + 2)), .int 0, .ref (h0 + (n + 3)), .ref (h0 + (n + 4)), .int 0, .ref (h0 + (n + 5)), .int 0, .int 0, .int 0, .int (1), .ref (h0 + (n + 6))]) := (n_jet (by omega) (by omega)).trans f17_o
  show GA _ _ _ _ _ _ _ _ _ _ _ _ _ _ _ (l_jet cy h0 E17 (n + 0) (n + 8) 20) 28 192 _ _ _
  generalize hE18 : l_jet cy h0 E17 (n + 0) (n + 8) 20 = E18 at f18_n1 f18_n2 f18_o ⊢
  refine a_iconst X (v := 0) dX1_init_103 (by decide) ?_
  refine a_istore X (lu := [(0, .ref (h0 + o)), (1, .int 0)]) dX1_init_104 rfl (by omega) rfl [1, 0] rfl ?_
  rw [← z_law (lo := n + 28) f18_n1]
  refine lp_law X (lo := n + 28) (o := o) (a := (n + 1)) (cs := 28) (sl := 192) rfl rfl (by omega) (by omega) (by omega) f18_o (Nat.le_of_ble_eq_true rfl) (Nat.le_of_ble_eq_true rfl) ⟨Nat.le_of_ble_eq_true rfl, Nat.le_of_ble_eq_true rfl⟩ ?_ 6 0 (by omega)
  have f19_n2 : (l_law cy h0 E18 (n + 1) (n + 28) 6) ((n + 2)) = .inl (cy 6, 6, .inr (.inr (.inr (.inr (fun _ => none))))) := (n_law (by omega) (by omega)).trans f18_n2
  have f19_o : (l_law cy h0 E18 (n + 1) (n + 28) 6) (o) = .inr (1, [.ref (h0 + (n + 0)), .int 0, .ref (h0 + (n + 1)), .int 0, .int (-1), .ref (h0 + (n + 2)), .int 0, .ref (h0 + (n + 3)), .ref (h0 + (n + 4)), .int 0, .ref (h0 + (n + 5)), .int 0, .int 0, .int 0, .int (1), .ref (h0 + (n + 6))]) := (n_law (by omega) (by omega)).trans f18_o
  show GA _ _ _ _ _ _ _ _ _ _ _ _ _ _ _ (l_law cy h0 E18 (n + 1) (n + 28) 6) 40 252 _ _ _
  generalize hE19 : l_law cy h0 E18 (n + 1) (n + 28) 6 = E19 at f19_n2 f19_o ⊢
  refine a_iconst X (v := 0) dX1_init_130 (by decide) ?_
  refine a_istore X (lu := [(0, .ref (h0 + o)), (1, .int 0)]) dX1_init_131 rfl (by omega) rfl [1, 0] rfl ?_
  rw [← z_lea (lo := n + 40) f19_n2]
  refine lp_lea X (lo := n + 40) (o := o) (a := (n + 2)) (cs := 40) (sl := 252) rfl rfl (by omega) (by omega) (by omega) f19_o (Nat.le_of_ble_eq_true rfl) (Nat.le_of_ble_eq_true rfl) ⟨Nat.le_of_ble_eq_true rfl, Nat.le_of_ble_eq_true rfl⟩ ?_ 6 0 (by omega)
  have f20_o : (l_lea cy h0 E19 (n + 2) (n + 40) 6) (o) = .inr (1, [.ref (h0 + (n + 0)), .int 0, .ref (h0 + (n + 1)), .int 0, .int (-1), .ref (h0 + (n + 2)), .int 0, .ref (h0 + (n + 3)), .ref (h0 + (n + 4)), .int 0, .ref (h0 + (n + 5)), .int 0, .int 0, .int 0, .int (1), .ref (h0 + (n + 6))]) := (n_lea (by omega) (by omega)).trans f19_o
  show GA _ _ _ _ _ _ _ _ _ _ _ _ _ _ _ (l_lea cy h0 E19 (n + 2) (n + 40) 6) 46 270 _ _ _
  generalize hE20 : l_lea cy h0 E19 (n + 2) (n + 40) 6 = E20 at f20_o ⊢
  exact a_ret X hr rfl rfl (by rw [← hE20, ← hE19, ← hE18, ← hE17, ← hE16, ← hE15, ← hE14, ← hE13, ← hE12, ← hE11, ← hE10, ← hE9, ← hE8, ← hE7, ← hE6, ← hE5, ← hE4, ← hE3, ← hE2, ← hE1]; rfl) dX1_init_157
def e10 (cy : Nat → ClassId) (h0 : Nat) (E : Nat → va_E) (o n : Nat) : Nat → va_E := l_she cy h0 (upE (upE (upE (e7 cy h0 (upE (upE (e4 cy h0 (upE (upE (e8 cy h0 (upE (upE (e8 cy h0 (upE (upE (upE (upE (e1 cy h0 (upE (upE (e1 cy h0 (upE (upE (e6 cy h0 (upE (upE (upE (E) (n + 0) (.inl (cy 7, 8, .inr (.inr (.inr (.inr (fun _ => none))))))) o (.inr (10, [.ref (h0 + (n + 0)), .null, .null, .null, .int 0, .null, .null, .null, .null, .null, .null]))) (n + 1) (.inr (6, [.null, .int 0, .int 0]))) (n + 1) (n + 2)) o (.inr (10, [.ref (h0 + (n + 0)), .ref (h0 + (n + 1)), .null, .null, .int 0, .null, .null, .null, .null, .null, .null]))) (n + 3) (.inr (1, [.null, .int 0, .null, .int 0, .int 0, .null, .int 0, .null, .null, .int 0, .null, .int 0, .int 0, .int 0, .int 0, .null]))) (n + 3) (n + 4)) o (.inr (10, [.ref (h0 + (n + 0)), .ref (h0 + (n + 1)), .ref (h0 + (n + 3)), .null, .int 0, .null, .null, .null, .null, .null, .null]))) (n + 50) (.inr (1, [.null, .int 0, .null, .int 0, .int 0, .null, .int 0, .null, .null, .int 0, .null, .int 0, .int 0, .int 0, .int 0, .null]))) (n + 50) (n + 51)) o (.inr (10, [.ref (h0 + (n + 0)), .ref (h0 + (n + 1)), .ref (h0 + (n + 3)), .ref (h0 + (n + 50)), .int 0, .null, .null, .null, .null, .null, .null]))) (n + 97) (.inl (cy 1, 5, .inl (fun _ => 0)))) o (.inr (10, [.ref (h0 + (n + 0)), .ref (h0 + (n + 1)), .ref (h0 + (n + 3)), .ref (h0 + (n + 50)), .int 0, .ref (h0 + (n + 97)), .null, .null, .null, .null, .null]))) (n + 98) (.inr (8, [.null, .null, .int 0]))) (n + 98) (n + 99)) o (.inr (10, [.ref (h0 + (n + 0)), .ref (h0 + (n + 1)), .ref (h0 + (n + 3)), .ref (h0 + (n + 50)), .int 0, .ref (h0 + (n + 97)), .ref (h0 + (n + 98)), .null, .null, .null, .null]))) (n + 101) (.inr (8, [.null, .null, .int 0]))) (n + 101) (n + 102)) o (.inr (10, [.ref (h0 + (n + 0)), .ref (h0 + (n + 1)), .ref (h0 + (n + 3)), .ref (h0 + (n + 50)), .int 0, .ref (h0 + (n + 97)), .ref (h0 + (n + 98)), .ref (h0 + (n + 101)), .null, .null, .null]))) (n + 104) (.inr (4, [.null, .int 0, .int 0, .null, .int 0, .int 0, .int 0, .null, .null, .null]))) (n + 104) (n + 105)) o (.inr (10, [.ref (h0 + (n + 0)), .ref (h0 + (n + 1)), .ref (h0 + (n + 3)), .ref (h0 + (n + 50)), .int 0, .ref (h0 + (n + 97)), .ref (h0 + (n + 98)), .ref (h0 + (n + 101)), .ref (h0 + (n + 104)), .null, .null]))) (n + 109) (.inr (7, [.int 0, .int 0, .int 0, .int 0, .null, .null, .null, .null, .null, .null]))) (n + 109) (n + 110)) o (.inr (10, [.ref (h0 + (n + 0)), .ref (h0 + (n + 1)), .ref (h0 + (n + 3)), .ref (h0 + (n + 50)), .int 0, .ref (h0 + (n + 97)), .ref (h0 + (n + 98)), .ref (h0 + (n + 101)), .ref (h0 + (n + 104)), .ref (h0 + (n + 109)), .null]))) (n + 116) (.inl (cy 1, 40, .inl (fun _ => 0)))) o (.inr (10, [.ref (h0 + (n + 0)), .ref (h0 + (n + 1)), .ref (h0 + (n + 3)), .ref (h0 + (n + 50)), .int 0, .ref (h0 + (n + 97)), .ref (h0 + (n + 98)), .ref (h0 + (n + 101)), .ref (h0 + (n + 104)), .ref (h0 + (n + 109)), .ref (h0 + (n + 116))]))) (n + 0) (n + 117) 8
set_option maxRecDepth 100000 in
set_option maxHeartbeats 4000000 in
theorem c_10 {l : Launch} {D : va_G} {cy : Nat → ClassId} {h0 b0 n o : Nat} {E : Nat → va_E} (ho : o < n) (he : E o = .inr (10, [.null, .null, .null, .null, .int 0, .null, .null, .null, .null, .null, .null])) : MA l D cy h0 b0 yX10_init cX10_init 2 4 133 1337 [.ref (h0 + o)] n E (e10 cy h0 E o n) := by
  refine met_ofA (lv0 := [(0, .ref (h0 + o))]) (by decide) (Nat.le_of_ble_eq_true rfl) rfl (fun p e s m args below meth c X hr hnm => ?_)
  refine a_aload X dX10_init_0 0 rfl rfl ?_
  refine a_obj X m_1_25 ⟨Nat.le_of_ble_eq_true rfl, Nat.le_of_ble_eq_true rfl⟩ dX10_init_1 ?_
  refine a_aload X dX10_init_4 0 rfl rfl ?_
  refine a_bipush X (v := 8) dX10_init_5 (by decide) ?_
  refine a_newq5 X 8 m_1_28 (by decide) (by decide) (Nat.le_of_ble_eq_true rfl) ⟨Nat.le_of_ble_eq_true rfl, Nat.le_of_ble_eq_true rfl⟩ dX10_init_7 ?_
  show GA _ _ _ _ _ _ _ _ _ _ _ _ _ _ _ (upE E (n + 0) (.inl (cy 7, 8, .inr (.inr (.inr (.inr (fun _ => none))))))) 1 8 _ _ _
  have f1_o : (upE E (n + 0) (.inl (cy 7, 8, .inr (.inr (.inr (.inr (fun _ => none))))))) (o) = .inr (10, [.null, .null, .null, .null, .int 0, .null, .null, .null, .null, .null, .null]) := (upE_n (by omega)).trans he
  have f1_n0 : (upE E (n + 0) (.inl (cy 7, 8, .inr (.inr (.inr (.inr (fun _ => none))))))) ((n + 0)) = .inl (cy 7, 8, .inr (.inr (.inr (.inr (fun _ => none))))) := upE_s
  generalize hE1 : upE E (n + 0) (.inl (cy 7, 8, .inr (.inr (.inr (.inr (fun _ => none)))))) = E1 at f1_o f1_n0 ⊢
  refine a_putF X (ci := 10) (i := 0) (C := RX10) (T := TX10) (N := 11) (ty := tyX10 0) (by omega) f1_o rfl inX10 tyX10 tyX10_ok nmX10 (by decide) rfl rfl hnm rfl (tyX10_ok 0 (by decide)) rfl rfl (Nat.le_of_ble_eq_true rfl) m_2_126 dX10_init_10 ?_
  show GA _ _ _ _ _ _ _ _ _ _ _ _ _ _ _ (upE E1 o (.inr (10, [.ref (h0 + (n + 0)), .null, .null, .null, .int 0, .null, .null, .null, .null, .null, .null]))) _ _ _ _ _
  have f2_n0 : (upE E1 o (.inr (10, [.ref (h0 + (n + 0)), .null, .null, .null, .int 0, .null, .null, .null, .null, .null, .null]))) ((n + 0)) = .inl (cy 7, 8, .inr (.inr (.inr (.inr (fun _ => none))))) := (upE_n (by omega)).trans f1_n0
  have f2_o : (upE E1 o (.inr (10, [.ref (h0 + (n + 0)), .null, .null, .null, .int 0, .null, .null, .null, .null, .null, .null]))) (o) = .inr (10, [.ref (h0 + (n + 0)), .null, .null, .null, .int 0, .null, .null, .null, .null, .null, .null]) := upE_s
  generalize hE2 : upE E1 o (.inr (10, [.ref (h0 + (n + 0)), .null, .null, .null, .int 0, .null, .null, .null, .null, .null, .null])) = E2 at f2_n0 f2_o ⊢
  clear f1_o f1_n0
  refine a_aload X dX10_init_13 0 rfl rfl ?_
  refine a_new X (ci := 6) (C := RX6) (T := TX6) (N := 3) rfl inX6 tyX6 tyX6_ok m_1_30 m_1_31 m_1_2 fr_6 ⟨Nat.le_of_ble_eq_true rfl, Nat.le_of_ble_eq_true rfl⟩ dX10_init_14 ?_
  show GA _ _ _ _ _ _ _ _ _ _ _ _ _ _ _ (upE E2 (n + 1) (.inr (6, [.null, .int 0, .int 0]))) 2 11 _ _ _
  have f3_n0 : (upE E2 (n + 1) (.inr (6, [.null, .int 0, .int 0]))) ((n + 0)) = .inl (cy 7, 8, .inr (.inr (.inr (.inr (fun _ => none))))) := (upE_n (by omega)).trans f2_n0
  have f3_o : (upE E2 (n + 1) (.inr (6, [.null, .int 0, .int 0]))) (o) = .inr (10, [.ref (h0 + (n + 0)), .null, .null, .null, .int 0, .null, .null, .null, .null, .null, .null]) := (upE_n (by omega)).trans f2_o
  have f3_n1 : (upE E2 (n + 1) (.inr (6, [.null, .int 0, .int 0]))) ((n + 1)) = .inr (6, [.null, .int 0, .int 0]) := upE_s
  generalize hE3 : upE E2 (n + 1) (.inr (6, [.null, .int 0, .int 0])) = E3 at f3_n0 f3_o f3_n1 ⊢
  clear f2_n0 f2_o
  refine a_dup X dX10_init_17 rfl ?_
  refine a_call X wi_6 (c_6 (by omega) f3_n1) m_1_32 ⟨Nat.le_of_ble_eq_true rfl, Nat.le_of_ble_eq_true rfl⟩ ⟨Nat.le_of_ble_eq_true rfl, Nat.le_of_ble_eq_true rfl⟩ (Nat.le_of_ble_eq_true rfl) dX10_init_18 ?_
  show GA _ _ _ _ _ _ _ _ _ _ _ _ _ _ _ (e6 cy h0 E3 (n + 1) (n + 2)) 3 171 _ _ _
  have f4_n0 : (e6 cy h0 E3 (n + 1) (n + 2)) ((n + 0)) = .inl (cy 7, 8, .inr (.inr (.inr (.inr (fun _ => none))))) := (e6_n (by omega) (by omega)).trans f3_n0
  have f4_o : (e6 cy h0 E3 (n + 1) (n + 2)) (o) = .inr (10, [.ref (h0 + (n + 0)), .null, .null, .null, .int 0, .null, .null, .null, .null, .null, .null]) := (e6_n (by omega) (by omega)).trans f3_o
  generalize hE4 : e6 cy h0 E3 (n + 1) (n + 2) = E4 at f4_n0 f4_o ⊢
  clear f3_n0 f3_o f3_n1
  refine a_putF X (ci := 10) (i := 1) (C := RX10) (T := TX10) (N := 11) (ty := tyX10 1) (by omega) f4_o rfl inX10 tyX10 tyX10_ok nmX10 (by decide) rfl rfl hnm rfl (tyX10_ok 1 (by decide)) rfl rfl (Nat.le_of_ble_eq_true rfl) m_2_127 dX10_init_21 ?_
  show GA _ _ _ _ _ _ _ _ _ _ _ _ _ _ _ (upE E4 o (.inr (10, [.ref (h0 + (n + 0)), .ref (h0 + (n + 1)), .null, .null, .int 0, .null, .null, .null, .null, .null, .null]))) _ _ _ _ _
  have f5_n0 : (upE E4 o (.inr (10, [.ref (h0 + (n + 0)), .ref (h0 + (n + 1)), .null, .null, .int 0, .null, .null, .null, .null, .null, .null]))) ((n + 0)) = .inl (cy 7, 8, .inr (.inr (.inr (.inr (fun _ => none))))) := (upE_n (by omega)).trans f4_n0
  have f5_o : (upE E4 o (.inr (10, [.ref (h0 + (n + 0)), .ref (h0 + (n + 1)), .null, .null, .int 0, .null, .null, .null, .null, .null, .null]))) (o) = .inr (10, [.ref (h0 + (n + 0)), .ref (h0 + (n + 1)), .null, .null, .int 0, .null, .null, .null, .null, .null, .null]) := upE_s
  generalize hE5 : upE E4 o (.inr (10, [.ref (h0 + (n + 0)), .ref (h0 + (n + 1)), .null, .null, .int 0, .null, .null, .null, .null, .null, .null])) = E5 at f5_n0 f5_o ⊢
  clear f4_n0 f4_o
  refine a_aload X dX10_init_24 0 rfl rfl ?_
  refine a_new X (ci := 1) (C := RX1) (T := TX1) (N := 16) rfl inX1 tyX1 tyX1_ok m_1_48 m_1_49 m_1_3 fr_1 ⟨Nat.le_of_ble_eq_true rfl, Nat.le_of_ble_eq_true rfl⟩ dX10_init_25 ?_
  show GA _ _ _ _ _ _ _ _ _ _ _ _ _ _ _ (upE E5 (n + 3) (.inr (1, [.null, .int 0, .null, .int 0, .int 0, .null, .int 0, .null, .null, .int 0, .null, .int 0, .int 0, .int 0, .int 0, .null]))) 4 187 _ _ _
  have f6_n0 : (upE E5 (n + 3) (.inr (1, [.null, .int 0, .null, .int 0, .int 0, .null, .int 0, .null, .null, .int 0, .null, .int 0, .int 0, .int 0, .int 0, .null]))) ((n + 0)) = .inl (cy 7, 8, .inr (.inr (.inr (.inr (fun _ => none))))) := (upE_n (by omega)).trans f5_n0
  have f6_o : (upE E5 (n + 3) (.inr (1, [.null, .int 0, .null, .int 0, .int 0, .null, .int 0, .null, .null, .int 0, .null, .int 0, .int 0, .int 0, .int 0, .null]))) (o) = .inr (10, [.ref (h0 + (n + 0)), .ref (h0 + (n + 1)), .null, .null, .int 0, .null, .null, .null, .null, .null, .null]) := (upE_n (by omega)).trans f5_o
  have f6_n3 : (upE E5 (n + 3) (.inr (1, [.null, .int 0, .null, .int 0, .int 0, .null, .int 0, .null, .null, .int 0, .null, .int 0, .int 0, .int 0, .int 0, .null]))) ((n + 3)) = .inr (1, [.null, .int 0, .null, .int 0, .int 0, .null, .int 0, .null, .null, .int 0, .null, .int 0, .int 0, .int 0, .int 0, .null]) := upE_s
  generalize hE6 : upE E5 (n + 3) (.inr (1, [.null, .int 0, .null, .int 0, .int 0, .null, .int 0, .null, .null, .int 0, .null, .int 0, .int 0, .int 0, .int 0, .null])) = E6 at f6_n0 f6_o f6_n3 ⊢
  clear f5_n0 f5_o
  refine a_dup X dX10_init_28 rfl ?_
  refine a_call X wi_1 (c_1 (by omega) f6_n3) m_1_50 ⟨Nat.le_of_ble_eq_true rfl, Nat.le_of_ble_eq_true rfl⟩ ⟨Nat.le_of_ble_eq_true rfl, Nat.le_of_ble_eq_true rfl⟩ (Nat.le_of_ble_eq_true rfl) dX10_init_29 ?_
  show GA _ _ _ _ _ _ _ _ _ _ _ _ _ _ _ (e1 cy h0 E6 (n + 3) (n + 4)) 50 457 _ _ _
  have f7_n0 : (e1 cy h0 E6 (n + 3) (n + 4)) ((n + 0)) = .inl (cy 7, 8, .inr (.inr (.inr (.inr (fun _ => none))))) := (e1_n (by omega) (by omega)).trans f6_n0
  have f7_o : (e1 cy h0 E6 (n + 3) (n + 4)) (o) = .inr (10, [.ref (h0 + (n + 0)), .ref (h0 + (n + 1)), .null, .null, .int 0, .null, .null, .null, .null, .null, .null]) := (e1_n (by omega) (by omega)).trans f6_o
  generalize hE7 : e1 cy h0 E6 (n + 3) (n + 4) = E7 at f7_n0 f7_o ⊢
  clear f6_n0 f6_o f6_n3
  refine a_putF X (ci := 10) (i := 2) (C := RX10) (T := TX10) (N := 11) (ty := tyX10 2) (by omega) f7_o rfl inX10 tyX10 tyX10_ok nmX10 (by decide) rfl rfl hnm rfl (tyX10_ok 2 (by decide)) rfl rfl (Nat.le_of_ble_eq_true rfl) m_2_128 dX10_init_32 ?_
  show GA _ _ _ _ _ _ _ _ _ _ _ _ _ _ _ (upE E7 o (.inr (10, [.ref (h0 + (n + 0)), .ref (h0 + (n + 1)), .ref (h0 + (n + 3)), .null, .int 0, .null, .null, .null, .null, .null, .null]))) _ _ _ _ _
  have f8_n0 : (upE E7 o (.inr (10, [.ref (h0 + (n + 0)), .ref (h0 + (n + 1)), .ref (h0 + (n + 3)), .null, .int 0, .null, .null, .null, .null, .null, .null]))) ((n + 0)) = .inl (cy 7, 8, .inr (.inr (.inr (.inr (fun _ => none))))) := (upE_n (by omega)).trans f7_n0
  have f8_o : (upE E7 o (.inr (10, [.ref (h0 + (n + 0)), .ref (h0 + (n + 1)), .ref (h0 + (n + 3)), .null, .int 0, .null, .null, .null, .null, .null, .null]))) (o) = .inr (10, [.ref (h0 + (n + 0)), .ref (h0 + (n + 1)), .ref (h0 + (n + 3)), .null, .int 0, .null, .null, .null, .null, .null, .null]) := upE_s
  generalize hE8 : upE E7 o (.inr (10, [.ref (h0 + (n + 0)), .ref (h0 + (n + 1)), .ref (h0 + (n + 3)), .null, .int 0, .null, .null, .null, .null, .null, .null])) = E8 at f8_n0 f8_o ⊢
  clear f7_n0 f7_o
  refine a_aload X dX10_init_35 0 rfl rfl ?_
  refine a_new X (ci := 1) (C := RX1) (T := TX1) (N := 16) rfl inX1 tyX1 tyX1_ok m_1_48 m_1_49 m_1_3 fr_1 ⟨Nat.le_of_ble_eq_true rfl, Nat.le_of_ble_eq_true rfl⟩ dX10_init_36 ?_
  show GA _ _ _ _ _ _ _ _ _ _ _ _ _ _ _ (upE E8 (n + 50) (.inr (1, [.null, .int 0, .null, .int 0, .int 0, .null, .int 0, .null, .null, .int 0, .null, .int 0, .int 0, .int 0, .int 0, .null]))) 51 473 _ _ _
  have f9_n0 : (upE E8 (n + 50) (.inr (1, [.null, .int 0, .null, .int 0, .int 0, .null, .int 0, .null, .null, .int 0, .null, .int 0, .int 0, .int 0, .int 0, .null]))) ((n + 0)) = .inl (cy 7, 8, .inr (.inr (.inr (.inr (fun _ => none))))) := (upE_n (by omega)).trans f8_n0
  have f9_o : (upE E8 (n + 50) (.inr (1, [.null, .int 0, .null, .int 0, .int 0, .null, .int 0, .null, .null, .int 0, .null, .int 0, .int 0, .int 0, .int 0, .null]))) (o) = .inr (10, [.ref (h0 + (n + 0)), .ref (h0 + (n + 1)), .ref (h0 + (n + 3)), .null, .int 0, .null, .null, .null, .null, .null, .null]) := (upE_n (by omega)).trans f8_o
  have f9_n50 : (upE E8 (n + 50) (.inr (1, [.null, .int 0, .null, .int 0, .int 0, .null, .int 0, .null, .null, .int 0, .null, .int 0, .int 0, .int 0, .int 0, .null]))) ((n + 50)) = .inr (1, [.null, .int 0, .null, .int 0, .int 0, .null, .int 0, .null, .null, .int 0, .null, .int 0, .int 0, .int 0, .int 0, .null]) := upE_s
  generalize hE9 : upE E8 (n + 50) (.inr (1, [.null, .int 0, .null, .int 0, .int 0, .null, .int 0, .null, .null, .int 0, .null, .int 0, .int 0, .int 0, .int 0, .null])) = E9 at f9_n0 f9_o f9_n50 ⊢
  clear f8_n0 f8_o
  refine a_dup X dX10_init_39 rfl ?_
  refine a_call X wi_1 (c_1 (by omega) f9_n50) m_1_50 ⟨Nat.le_of_ble_eq_true rfl, Nat.le_of_ble_eq_true rfl⟩ ⟨Nat.le_of_ble_eq_true rfl, Nat.le_of_ble_eq_true rfl⟩ (Nat.le_of_ble_eq_true rfl) dX10_init_40 ?_
  show GA _ _ _ _ _ _ _ _ _ _ _ _ _ _ _ (e1 cy h0 E9 (n + 50) (n + 51)) 97 743 _ _ _
  have f10_n0 : (e1 cy h0 E9 (n + 50) (n + 51)) ((n + 0)) = .inl (cy 7, 8, .inr (.inr (.inr (.inr (fun _ => none))))) := (e1_n (by omega) (by omega)).trans f9_n0
  have f10_o : (e1 cy h0 E9 (n + 50) (n + 51)) (o) = .inr (10, [.ref (h0 + (n + 0)), .ref (h0 + (n + 1)), .ref (h0 + (n + 3)), .null, .int 0, .null, .null, .null, .null, .null, .null]) := (e1_n (by omega) (by omega)).trans f9_o
  generalize hE10 : e1 cy h0 E9 (n + 50) (n + 51) = E10 at f10_n0 f10_o ⊢
  clear f9_n0 f9_o f9_n50
  refine a_putF X (ci := 10) (i := 3) (C := RX10) (T := TX10) (N := 11) (ty := tyX10 3) (by omega) f10_o rfl inX10 tyX10 tyX10_ok nmX10 (by decide) rfl rfl hnm rfl (tyX10_ok 3 (by decide)) rfl rfl (Nat.le_of_ble_eq_true rfl) m_2_129 dX10_init_43 ?_
  show GA _ _ _ _ _ _ _ _ _ _ _ _ _ _ _ (upE E10 o (.inr (10, [.ref (h0 + (n + 0)), .ref (h0 + (n + 1)), .ref (h0 + (n + 3)), .ref (h0 + (n + 50)), .int 0, .null, .null, .null, .null, .null, .null]))) _ _ _ _ _
  have f11_n0 : (upE E10 o (.inr (10, [.ref (h0 + (n + 0)), .ref (h0 + (n + 1)), .ref (h0 + (n + 3)), .ref (h0 + (n + 50)), .int 0, .null, .null, .null, .null, .null, .null]))) ((n + 0)) = .inl (cy 7, 8, .inr (.inr (.inr (.inr (fun _ => none))))) := (upE_n (by omega)).trans f10_n0
  have f11_o : (upE E10 o (.inr (10, [.ref (h0 + (n + 0)), .ref (h0 + (n + 1)), .ref (h0 + (n + 3)), .ref (h0 + (n + 50)), .int 0, .null, .null, .null, .null, .null, .null]))) (o) = .inr (10, [.ref (h0 + (n + 0)), .ref (h0 + (n + 1)), .ref (h0 + (n + 3)), .ref (h0 + (n + 50)), .int 0, .null, .null, .null, .null, .null, .null]) := upE_s
  generalize hE11 : upE E10 o (.inr (10, [.ref (h0 + (n + 0)), .ref (h0 + (n + 1)), .ref (h0 + (n + 3)), .ref (h0 + (n + 50)), .int 0, .null, .null, .null, .null, .null, .null])) = E11 at f11_n0 f11_o ⊢
  clear f10_n0 f10_o
  refine a_aload X dX10_init_46 0 rfl rfl ?_
  refine a_iconst X (v := 5) dX10_init_47 (by decide) ?_
  refine a_newaI X 5 m_1_103 (by decide) (by decide) (Nat.le_of_ble_eq_true rfl) ⟨Nat.le_of_ble_eq_true rfl, Nat.le_of_ble_eq_true rfl⟩ dX10_init_48 ?_
  show GA _ _ _ _ _ _ _ _ _ _ _ _ _ _ _ (upE E11 (n + 97) (.inl (cy 1, 5, .inl (fun _ => 0)))) 98 748 _ _ _
  have f12_n0 : (upE E11 (n + 97) (.inl (cy 1, 5, .inl (fun _ => 0)))) ((n + 0)) = .inl (cy 7, 8, .inr (.inr (.inr (.inr (fun _ => none))))) := (upE_n (by omega)).trans f11_n0
  have f12_o : (upE E11 (n + 97) (.inl (cy 1, 5, .inl (fun _ => 0)))) (o) = .inr (10, [.ref (h0 + (n + 0)), .ref (h0 + (n + 1)), .ref (h0 + (n + 3)), .ref (h0 + (n + 50)), .int 0, .null, .null, .null, .null, .null, .null]) := (upE_n (by omega)).trans f11_o
  generalize hE12 : upE E11 (n + 97) (.inl (cy 1, 5, .inl (fun _ => 0))) = E12 at f12_n0 f12_o ⊢
  clear f11_n0 f11_o
  refine a_putF X (ci := 10) (i := 5) (C := RX10) (T := TX10) (N := 11) (ty := tyX10 5) (by omega) f12_o rfl inX10 tyX10 tyX10_ok nmX10 (by decide) rfl rfl hnm rfl (tyX10_ok 5 (by decide)) rfl rfl (Nat.le_of_ble_eq_true rfl) m_2_131 dX10_init_50 ?_
  show GA _ _ _ _ _ _ _ _ _ _ _ _ _ _ _ (upE E12 o (.inr (10, [.ref (h0 + (n + 0)), .ref (h0 + (n + 1)), .ref (h0 + (n + 3)), .ref (h0 + (n + 50)), .int 0, .ref (h0 + (n + 97)), .null, .null, .null, .null, .null]))) _ _ _ _ _
  have f13_n0 : (upE E12 o (.inr (10, [.ref (h0 + (n + 0)), .ref (h0 + (n + 1)), .ref (h0 + (n + 3)), .ref (h0 + (n + 50)), .int 0, .ref (h0 + (n + 97)), .null, .null, .null, .null, .null]))) ((n + 0)) = .inl (cy 7, 8, .inr (.inr (.inr (.inr (fun _ => none))))) := (upE_n (by omega)).trans f12_n0
  have f13_o : (upE E12 o (.inr (10, [.ref (h0 + (n + 0)), .ref (h0 + (n + 1)), .ref (h0 + (n + 3)), .ref (h0 + (n + 50)), .int 0, .ref (h0 + (n + 97)), .null, .null, .null, .null, .null]))) (o) = .inr (10, [.ref (h0 + (n + 0)), .ref (h0 + (n + 1)), .ref (h0 + (n + 3)), .ref (h0 + (n + 50)), .int 0, .ref (h0 + (n + 97)), .null, .null, .null, .null, .null]) := upE_s
  generalize hE13 : upE E12 o (.inr (10, [.ref (h0 + (n + 0)), .ref (h0 + (n + 1)), .ref (h0 + (n + 3)), .ref (h0 + (n + 50)), .int 0, .ref (h0 + (n + 97)), .null, .null, .null, .null, .null])) = E13 at f13_n0 f13_o ⊢
  clear f12_n0 f12_o
  refine a_aload X dX10_init_53 0 rfl rfl ?_
  refine a_new X (ci := 8) (C := RX8) (T := TX8) (N := 3) rfl inX8 tyX8 tyX8_ok m_2_4 m_2_5 m_1_9 fr_8 ⟨Nat.le_of_ble_eq_true rfl, Nat.le_of_ble_eq_true rfl⟩ dX10_init_54 ?_
  show GA _ _ _ _ _ _ _ _ _ _ _ _ _ _ _ (upE E13 (n + 98) (.inr (8, [.null, .null, .int 0]))) 99 751 _ _ _
  have f14_n0 : (upE E13 (n + 98) (.inr (8, [.null, .null, .int 0]))) ((n + 0)) = .inl (cy 7, 8, .inr (.inr (.inr (.inr (fun _ => none))))) := (upE_n (by omega)).trans f13_n0
  have f14_o : (upE E13 (n + 98) (.inr (8, [.null, .null, .int 0]))) (o) = .inr (10, [.ref (h0 + (n + 0)), .ref (h0 + (n + 1)), .ref (h0 + (n + 3)), .ref (h0 + (n + 50)), .int 0, .ref (h0 + (n + 97)), .null, .null, .null, .null, .null]) := (upE_n (by omega)).trans f13_o
  have f14_n98 : (upE E13 (n + 98) (.inr (8, [.null, .null, .int 0]))) ((n + 98)) = .inr (8, [.null, .null, .int 0]) := upE_s
  generalize hE14 : upE E13 (n + 98) (.inr (8, [.null, .null, .int 0])) = E14 at f14_n0 f14_o f14_n98 ⊢
  clear f13_n0 f13_o
  refine a_dup X dX10_init_57 rfl ?_
  refine a_call X wi_8 (c_8 (by omega) f14_n98) m_2_6 ⟨Nat.le_of_ble_eq_true rfl, Nat.le_of_ble_eq_true rfl⟩ ⟨Nat.le_of_ble_eq_true rfl, Nat.le_of_ble_eq_true rfl⟩ (Nat.le_of_ble_eq_true rfl) dX10_init_58 ?_
  show GA _ _ _ _ _ _ _ _ _ _ _ _ _ _ _ (e8 cy h0 E14 (n + 98) (n + 99)) 101 791 _ _ _
  have f15_n0 : (e8 cy h0 E14 (n + 98) (n + 99)) ((n + 0)) = .inl (cy 7, 8, .inr (.inr (.inr (.inr (fun _ => none))))) := (e8_n (by omega) (by omega)).trans f14_n0
  have f15_o : (e8 cy h0 E14 (n + 98) (n + 99)) (o) = .inr (10, [.ref (h0 + (n + 0)), .ref (h0 + (n + 1)), .ref (h0 + (n + 3)), .ref (h0 + (n + 50)), .int 0, .ref (h0 + (n + 97)), .null, .null, .null, .null, .null]) := (e8_n (by omega) (by omega)).trans f14_o
  generalize hE15 : e8 cy h0 E14 (n + 98) (n + 99) = E15 at f15_n0 f15_o ⊢
  clear f14_n0 f14_o f14_n98
  refine a_putF X (ci := 10) (i := 6) (C := RX10) (T := TX10) (N := 11) (ty := tyX10 6) (by omega) f15_o rfl inX10 tyX10 tyX10_ok nmX10 (by decide) rfl rfl hnm rfl (tyX10_ok 6 (by decide)) rfl rfl (Nat.le_of_ble_eq_true rfl) m_2_132 dX10_init_61 ?_
  show GA _ _ _ _ _ _ _ _ _ _ _ _ _ _ _ (upE E15 o (.inr (10, [.ref (h0 + (n + 0)), .ref (h0 + (n + 1)), .ref (h0 + (n + 3)), .ref (h0 + (n + 50)), .int 0, .ref (h0 + (n + 97)), .ref (h0 + (n + 98)), .null, .null, .null, .null]))) _ _ _ _ _
  have f16_n0 : (upE E15 o (.inr (10, [.ref (h0 + (n + 0)), .ref (h0 + (n + 1)), .ref (h0 + (n + 3)), .ref (h0 + (n + 50)), .int 0, .ref (h0 + (n + 97)), .ref (h0 + (n + 98)), .null, .null, .null, .null]))) ((n + 0)) = .inl (cy 7, 8, .inr (.inr (.inr (.inr (fun _ => none))))) := (upE_n (by omega)).trans f15_n0
  have f16_o : (upE E15 o (.inr (10, [.ref (h0 + (n + 0)), .ref (h0 + (n + 1)), .ref (h0 + (n + 3)), .ref (h0 + (n + 50)), .int 0, .ref (h0 + (n + 97)), .ref (h0 + (n + 98)), .null, .null, .null, .null]))) (o) = .inr (10, [.ref (h0 + (n + 0)), .ref (h0 + (n + 1)), .ref (h0 + (n + 3)), .ref (h0 + (n + 50)), .int 0, .ref (h0 + (n + 97)), .ref (h0 + (n + 98)), .null, .null, .null, .null]) := upE_s
  generalize hE16 : upE E15 o (.inr (10, [.ref (h0 + (n + 0)), .ref (h0 + (n + 1)), .ref (h0 + (n + 3)), .ref (h0 + (n + 50)), .int 0, .ref (h0 + (n + 97)), .ref (h0 + (n + 98)), .null, .null, .null, .null])) = E16 at f16_n0 f16_o ⊢
  clear f15_n0 f15_o
  refine a_aload X dX10_init_64 0 rfl rfl ?_
  refine a_new X (ci := 8) (C := RX8) (T := TX8) (N := 3) rfl inX8 tyX8 tyX8_ok m_2_4 m_2_5 m_1_9 fr_8 ⟨Nat.le_of_ble_eq_true rfl, Nat.le_of_ble_eq_true rfl⟩ dX10_init_65 ?_
  show GA _ _ _ _ _ _ _ _ _ _ _ _ _ _ _ (upE E16 (n + 101) (.inr (8, [.null, .null, .int 0]))) 102 794 _ _ _
  have f17_n0 : (upE E16 (n + 101) (.inr (8, [.null, .null, .int 0]))) ((n + 0)) = .inl (cy 7, 8, .inr (.inr (.inr (.inr (fun _ => none))))) := (upE_n (by omega)).trans f16_n0
  have f17_o : (upE E16 (n + 101) (.inr (8, [.null, .null, .int 0]))) (o) = .inr (10, [.ref (h0 + (n + 0)), .ref (h0 + (n + 1)), .ref (h0 + (n + 3)), .ref (h0 + (n + 50)), .int 0, .ref (h0 + (n + 97)), .ref (h0 + (n + 98)), .null, .null, .null, .null]) := (upE_n (by omega)).trans f16_o
  have f17_n101 : (upE E16 (n + 101) (.inr (8, [.null, .null, .int 0]))) ((n + 101)) = .inr (8, [.null, .null, .int 0]) := upE_s
  generalize hE17 : upE E16 (n + 101) (.inr (8, [.null, .null, .int 0])) = E17 at f17_n0 f17_o f17_n101 ⊢
  clear f16_n0 f16_o
  refine a_dup X dX10_init_68 rfl ?_
  refine a_call X wi_8 (c_8 (by omega) f17_n101) m_2_6 ⟨Nat.le_of_ble_eq_true rfl, Nat.le_of_ble_eq_true rfl⟩ ⟨Nat.le_of_ble_eq_true rfl, Nat.le_of_ble_eq_true rfl⟩ (Nat.le_of_ble_eq_true rfl) dX10_init_69 ?_
  show GA _ _ _ _ _ _ _ _ _ _ _ _ _ _ _ (e8 cy h0 E17 (n + 101) (n + 102)) 104 834 _ _ _
  have f18_n0 : (e8 cy h0 E17 (n + 101) (n + 102)) ((n + 0)) = .inl (cy 7, 8, .inr (.inr (.inr (.inr (fun _ => none))))) := (e8_n (by omega) (by omega)).trans f17_n0
  have f18_o : (e8 cy h0 E17 (n + 101) (n + 102)) (o) = .inr (10, [.ref (h0 + (n + 0)), .ref (h0 + (n + 1)), .ref (h0 + (n + 3)), .ref (h0 + (n + 50)), .int 0, .ref (h0 + (n + 97)), .ref (h0 + (n + 98)), .null, .null, .null, .null]) := (e8_n (by omega) (by omega)).trans f17_o
  generalize hE18 : e8 cy h0 E17 (n + 101) (n + 102) = E18 at f18_n0 f18_o ⊢
  clear f17_n0 f17_o f17_n101
  refine a_putF X (ci := 10) (i := 7) (C := RX10) (T := TX10) (N := 11) (ty := tyX10 7) (by omega) f18_o rfl inX10 tyX10 tyX10_ok nmX10 (by decide) rfl rfl hnm rfl (tyX10_ok 7 (by decide)) rfl rfl (Nat.le_of_ble_eq_true rfl) m_2_133 dX10_init_72 ?_
  show GA _ _ _ _ _ _ _ _ _ _ _ _ _ _ _ (upE E18 o (.inr (10, [.ref (h0 + (n + 0)), .ref (h0 + (n + 1)), .ref (h0 + (n + 3)), .ref (h0 + (n + 50)), .int 0, .ref (h0 + (n + 97)), .ref (h0 + (n + 98)), .ref (h0 + (n + 101)), .null, .null, .null]))) _ _ _ _ _
  have f19_n0 : (upE E18 o (.inr (10, [.ref (h0 + (n + 0)), .ref (h0 + (n + 1)), .ref (h0 + (n + 3)), .ref (h0 + (n + 50)), .int 0, .ref (h0 + (n + 97)), .ref (h0 + (n + 98)), .ref (h0 + (n + 101)), .null, .null, .null]))) ((n + 0)) = .inl (cy 7, 8, .inr (.inr (.inr (.inr (fun _ => none))))) := (upE_n (by omega)).trans f18_n0
  have f19_o : (upE E18 o (.inr (10, [.ref (h0 + (n + 0)), .ref (h0 + (n + 1)), .ref (h0 + (n + 3)), .ref (h0 + (n + 50)), .int 0, .ref (h0 + (n + 97)), .ref (h0 + (n + 98)), .ref (h0 + (n + 101)), .null, .null, .null]))) (o) = .inr (10, [.ref (h0 + (n + 0)), .ref (h0 + (n + 1)), .ref (h0 + (n + 3)), .ref (h0 + (n + 50)), .int 0, .ref (h0 + (n + 97)), .ref (h0 + (n + 98)), .ref (h0 + (n + 101)), .null, .null, .null]) := upE_s
  generalize hE19 : upE E18 o (.inr (10, [.ref (h0 + (n + 0)), .ref (h0 + (n + 1)), .ref (h0 + (n + 3)), .ref (h0 + (n + 50)), .int 0, .ref (h0 + (n + 97)), .ref (h0 + (n + 98)), .ref (h0 + (n + 101)), .null, .null, .null])) = E19 at f19_n0 f19_o ⊢
  clear f18_n0 f18_o
  refine a_aload X dX10_init_75 0 rfl rfl ?_
  refine a_new X (ci := 4) (C := RX4) (T := TX4) (N := 10) rfl inX4 tyX4 tyX4_ok m_2_24 m_2_25 m_1_10 fr_4 ⟨Nat.le_of_ble_eq_true rfl, Nat.le_of_ble_eq_true rfl⟩ dX10_init_76 ?_
  show GA _ _ _ _ _ _ _ _ _ _ _ _ _ _ _ (upE E19 (n + 104) (.inr (4, [.null, .int 0, .int 0, .null, .int 0, .int 0, .int 0, .null, .null, .null]))) 105 844 _ _ _
  have f20_n0 : (upE E19 (n + 104) (.inr (4, [.null, .int 0, .int 0, .null, .int 0, .int 0, .int 0, .null, .null, .null]))) ((n + 0)) = .inl (cy 7, 8, .inr (.inr (.inr (.inr (fun _ => none))))) := (upE_n (by omega)).trans f19_n0
  have f20_o : (upE E19 (n + 104) (.inr (4, [.null, .int 0, .int 0, .null, .int 0, .int 0, .int 0, .null, .null, .null]))) (o) = .inr (10, [.ref (h0 + (n + 0)), .ref (h0 + (n + 1)), .ref (h0 + (n + 3)), .ref (h0 + (n + 50)), .int 0, .ref (h0 + (n + 97)), .ref (h0 + (n + 98)), .ref (h0 + (n + 101)), .null, .null, .null]) := (upE_n (by omega)).trans f19_o
  have f20_n104 : (upE E19 (n + 104) (.inr (4, [.null, .int 0, .int 0, .null, .int 0, .int 0, .int 0, .null, .null, .null]))) ((n + 104)) = .inr (4, [.null, .int 0, .int 0, .null, .int 0, .int 0, .int 0, .null, .null, .null]) := upE_s
  generalize hE20 : upE E19 (n + 104) (.inr (4, [.null, .int 0, .int 0, .null, .int 0, .int 0, .int 0, .null, .null, .null])) = E20 at f20_n0 f20_o f20_n104 ⊢
  clear f19_n0 f19_o
  refine a_dup X dX10_init_79 rfl ?_
  refine a_call X wi_4 (c_4 (by omega) f20_n104) m_2_26 ⟨Nat.le_of_ble_eq_true rfl, Nat.le_of_ble_eq_true rfl⟩ ⟨Nat.le_of_ble_eq_true rfl, Nat.le_of_ble_eq_true rfl⟩ (Nat.le_of_ble_eq_true rfl) dX10_init_80 ?_
  show GA _ _ _ _ _ _ _ _ _ _ _ _ _ _ _ (e4 cy h0 E20 (n + 104) (n + 105)) 109 868 _ _ _
  have f21_n0 : (e4 cy h0 E20 (n + 104) (n + 105)) ((n + 0)) = .inl (cy 7, 8, .inr (.inr (.inr (.inr (fun _ => none))))) := (e4_n (by omega) (by omega)).trans f20_n0
  have f21_o : (e4 cy h0 E20 (n + 104) (n + 105)) (o) = .inr (10, [.ref (h0 + (n + 0)), .ref (h0 + (n + 1)), .ref (h0 + (n + 3)), .ref (h0 + (n + 50)), .int 0, .ref (h0 + (n + 97)), .ref (h0 + (n + 98)), .ref (h0 + (n + 101)), .null, .null, .null]) := (e4_n (by omega) (by omega)).trans f20_o
  generalize hE21 : e4 cy h0 E20 (n + 104) (n + 105) = E21 at f21_n0 f21_o ⊢
  clear f20_n0 f20_o f20_n104
  refine a_putF X (ci := 10) (i := 8) (C := RX10) (T := TX10) (N := 11) (ty := tyX10 8) (by omega) f21_o rfl inX10 tyX10 tyX10_ok nmX10 (by decide) rfl rfl hnm rfl (tyX10_ok 8 (by decide)) rfl rfl (Nat.le_of_ble_eq_true rfl) m_2_134 dX10_init_83 ?_
  show GA _ _ _ _ _ _ _ _ _ _ _ _ _ _ _ (upE E21 o (.inr (10, [.ref (h0 + (n + 0)), .ref (h0 + (n + 1)), .ref (h0 + (n + 3)), .ref (h0 + (n + 50)), .int 0, .ref (h0 + (n + 97)), .ref (h0 + (n + 98)), .ref (h0 + (n + 101)), .ref (h0 + (n + 104)), .null, .null]))) _ _ _ _ _
  have f22_n0 : (upE E21 o (.inr (10, [.ref (h0 + (n + 0)), .ref (h0 + (n + 1)), .ref (h0 + (n + 3)), .ref (h0 + (n + 50)), .int 0, .ref (h0 + (n + 97)), .ref (h0 + (n + 98)), .ref (h0 + (n + 101)), .ref (h0 + (n + 104)), .null, .null]))) ((n + 0)) = .inl (cy 7, 8, .inr (.inr (.inr (.inr (fun _ => none))))) := (upE_n (by omega)).trans f21_n0
  have f22_o : (upE E21 o (.inr (10, [.ref (h0 + (n + 0)), .ref (h0 + (n + 1)), .ref (h0 + (n + 3)), .ref (h0 + (n + 50)), .int 0, .ref (h0 + (n + 97)), .ref (h0 + (n + 98)), .ref (h0 + (n + 101)), .ref (h0 + (n + 104)), .null, .null]))) (o) = .inr (10, [.ref (h0 + (n + 0)), .ref (h0 + (n + 1)), .ref (h0 + (n + 3)), .ref (h0 + (n + 50)), .int 0, .ref (h0 + (n + 97)), .ref (h0 + (n + 98)), .ref (h0 + (n + 101)), .ref (h0 + (n + 104)), .null, .null]) := upE_s
  generalize hE22 : upE E21 o (.inr (10, [.ref (h0 + (n + 0)), .ref (h0 + (n + 1)), .ref (h0 + (n + 3)), .ref (h0 + (n + 50)), .int 0, .ref (h0 + (n + 97)), .ref (h0 + (n + 98)), .ref (h0 + (n + 101)), .ref (h0 + (n + 104)), .null, .null])) = E22 at f22_n0 f22_o ⊢
  clear f21_n0 f21_o
  refine a_aload X dX10_init_86 0 rfl rfl ?_
  refine a_new X (ci := 7) (C := RX7) (T := TX7) (N := 10) rfl inX7 tyX7 tyX7_ok m_2_65 m_2_66 m_1_11 fr_7 ⟨Nat.le_of_ble_eq_true rfl, Nat.le_of_ble_eq_true rfl⟩ dX10_init_87 ?_
  show GA _ _ _ _ _ _ _ _ _ _ _ _ _ _ _ (upE E22 (n + 109) (.inr (7, [.int 0, .int 0, .int 0, .int 0, .null, .null, .null, .null, .null, .null]))) 110 878 _ _ _
  have f23_n0 : (upE E22 (n + 109) (.inr (7, [.int 0, .int 0, .int 0, .int 0, .null, .null, .null, .null, .null, .null]))) ((n + 0)) = .inl (cy 7, 8, .inr (.inr (.inr (.inr (fun _ => none))))) := (upE_n (by omega)).trans f22_n0
  have f23_o : (upE E22 (n + 109) (.inr (7, [.int 0, .int 0, .int 0, .int 0, .null, .null, .null, .null, .null, .null]))) (o) = .inr (10, [.ref (h0 + (n + 0)), .ref (h0 + (n + 1)), .ref (h0 + (n + 3)), .ref (h0 + (n + 50)), .int 0, .ref (h0 + (n + 97)), .ref (h0 + (n + 98)), .ref (h0 + (n + 101)), .ref (h0 + (n + 104)), .null, .null]) := (upE_n (by omega)).trans f22_o
  have f23_n109 : (upE E22 (n + 109) (.inr (7, [.int 0, .int 0, .int 0, .int 0, .null, .null, .null, .null, .null, .null]))) ((n + 109)) = .inr (7, [.int 0, .int 0, .int 0, .int 0, .null, .null, .null, .null, .null, .null]) := upE_s
  generalize hE23 : upE E22 (n + 109) (.inr (7, [.int 0, .int 0, .int 0, .int 0, .null, .null, .null, .null, .null, .null])) = E23 at f23_n0 f23_o f23_n109 ⊢
  clear f22_n0 f22_o
  refine a_dup X dX10_init_90 rfl ?_
  refine a_call X wi_7 (c_7 (by omega) f23_n109) m_2_67 ⟨Nat.le_of_ble_eq_true rfl, Nat.le_of_ble_eq_true rfl⟩ ⟨Nat.le_of_ble_eq_true rfl, Nat.le_of_ble_eq_true rfl⟩ (Nat.le_of_ble_eq_true rfl) dX10_init_91 ?_
  show GA _ _ _ _ _ _ _ _ _ _ _ _ _ _ _ (e7 cy h0 E23 (n + 109) (n + 110)) 116 945 _ _ _
  have f24_n0 : (e7 cy h0 E23 (n + 109) (n + 110)) ((n + 0)) = .inl (cy 7, 8, .inr (.inr (.inr (.inr (fun _ => none))))) := (e7_n (by omega) (by omega)).trans f23_n0
  have f24_o : (e7 cy h0 E23 (n + 109) (n + 110)) (o) = .inr (10, [.ref (h0 + (n + 0)), .ref (h0 + (n + 1)), .ref (h0 + (n + 3)), .ref (h0 + (n + 50)), .int 0, .ref (h0 + (n + 97)), .ref (h0 + (n + 98)), .ref (h0 + (n + 101)), .ref (h0 + (n + 104)), .null, .null]) := (e7_n (by omega) (by omega)).trans f23_o
  generalize hE24 : e7 cy h0 E23 (n + 109) (n + 110) = E24 at f24_n0 f24_o ⊢
  clear f23_n0 f23_o f23_n109
  refine a_putF X (ci := 10) (i := 9) (C := RX10) (T := TX10) (N := 11) (ty := tyX10 9) (by omega) f24_o rfl inX10 tyX10 tyX10_ok nmX10 (by decide) rfl rfl hnm rfl (tyX10_ok 9 (by decide)) rfl rfl (Nat.le_of_ble_eq_true rfl) m_2_135 dX10_init_94 ?_
  show GA _ _ _ _ _ _ _ _ _ _ _ _ _ _ _ (upE E24 o (.inr (10, [.ref (h0 + (n + 0)), .ref (h0 + (n + 1)), .ref (h0 + (n + 3)), .ref (h0 + (n + 50)), .int 0, .ref (h0 + (n + 97)), .ref (h0 + (n + 98)), .ref (h0 + (n + 101)), .ref (h0 + (n + 104)), .ref (h0 + (n + 109)), .null]))) _ _ _ _ _
  have f25_n0 : (upE E24 o (.inr (10, [.ref (h0 + (n + 0)), .ref (h0 + (n + 1)), .ref (h0 + (n + 3)), .ref (h0 + (n + 50)), .int 0, .ref (h0 + (n + 97)), .ref (h0 + (n + 98)), .ref (h0 + (n + 101)), .ref (h0 + (n + 104)), .ref (h0 + (n + 109)), .null]))) ((n + 0)) = .inl (cy 7, 8, .inr (.inr (.inr (.inr (fun _ => none))))) := (upE_n (by omega)).trans f24_n0
  have f25_o : (upE E24 o (.inr (10, [.ref (h0 + (n + 0)), .ref (h0 + (n + 1)), .ref (h0 + (n + 3)), .ref (h0 + (n + 50)), .int 0, .ref (h0 + (n + 97)), .ref (h0 + (n + 98)), .ref (h0 + (n + 101)), .ref (h0 + (n + 104)), .ref (h0 + (n + 109)), .null]))) (o) = .inr (10, [.ref (h0 + (n + 0)), .ref (h0 + (n + 1)), .ref (h0 + (n + 3)), .ref (h0 + (n + 50)), .int 0, .ref (h0 + (n + 97)), .ref (h0 + (n + 98)), .ref (h0 + (n + 101)), .ref (h0 + (n + 104)), .ref (h0 + (n + 109)), .null]) := upE_s
  generalize hE25 : upE E24 o (.inr (10, [.ref (h0 + (n + 0)), .ref (h0 + (n + 1)), .ref (h0 + (n + 3)), .ref (h0 + (n + 50)), .int 0, .ref (h0 + (n + 97)), .ref (h0 + (n + 98)), .ref (h0 + (n + 101)), .ref (h0 + (n + 104)), .ref (h0 + (n + 109)), .null])) = E25 at f25_n0 f25_o ⊢
  clear f24_n0 f24_o
  refine a_aload X dX10_init_97 0 rfl rfl ?_
  refine a_bipush X (v := 40) dX10_init_98 (by decide) ?_
  refine a_newaI X 40 m_1_103 (by decide) (by decide) (Nat.le_of_ble_eq_true rfl) ⟨Nat.le_of_ble_eq_true rfl, Nat.le_of_ble_eq_true rfl⟩ dX10_init_100 ?_
  show GA _ _ _ _ _ _ _ _ _ _ _ _ _ _ _ (upE E25 (n + 116) (.inl (cy 1, 40, .inl (fun _ => 0)))) 117 985 _ _ _
  have f26_n0 : (upE E25 (n + 116) (.inl (cy 1, 40, .inl (fun _ => 0)))) ((n + 0)) = .inl (cy 7, 8, .inr (.inr (.inr (.inr (fun _ => none))))) := (upE_n (by omega)).trans f25_n0
  have f26_o : (upE E25 (n + 116) (.inl (cy 1, 40, .inl (fun _ => 0)))) (o) = .inr (10, [.ref (h0 + (n + 0)), .ref (h0 + (n + 1)), .ref (h0 + (n + 3)), .ref (h0 + (n + 50)), .int 0, .ref (h0 + (n + 97)), .ref (h0 + (n + 98)), .ref (h0 + (n + 101)), .ref (h0 + (n + 104)), .ref (h0 + (n + 109)), .null]) := (upE_n (by omega)).trans f25_o
  generalize hE26 : upE E25 (n + 116) (.inl (cy 1, 40, .inl (fun _ => 0))) = E26 at f26_n0 f26_o ⊢
  clear f25_n0 f25_o
  refine a_putF X (ci := 10) (i := 10) (C := RX10) (T := TX10) (N := 11) (ty := tyX10 10) (by omega) f26_o rfl inX10 tyX10 tyX10_ok nmX10 (by decide) rfl rfl hnm rfl (tyX10_ok 10 (by decide)) rfl rfl (Nat.le_of_ble_eq_true rfl) m_2_136 dX10_init_102 ?_
  show GA _ _ _ _ _ _ _ _ _ _ _ _ _ _ _ (upE E26 o (.inr (10, [.ref (h0 + (n + 0)), .ref (h0 + (n + 1)), .ref (h0 + (n + 3)), .ref (h0 + (n + 50)), .int 0, .ref (h0 + (n + 97)), .ref (h0 + (n + 98)), .ref (h0 + (n + 101)), .ref (h0 + (n + 104)), .ref (h0 + (n + 109)), .ref (h0 + (n + 116))]))) _ _ _ _ _
  have f27_n0 : (upE E26 o (.inr (10, [.ref (h0 + (n + 0)), .ref (h0 + (n + 1)), .ref (h0 + (n + 3)), .ref (h0 + (n + 50)), .int 0, .ref (h0 + (n + 97)), .ref (h0 + (n + 98)), .ref (h0 + (n + 101)), .ref (h0 + (n + 104)), .ref (h0 + (n + 109)), .ref (h0 + (n + 116))]))) ((n + 0)) = .inl (cy 7, 8, .inr (.inr (.inr (.inr (fun _ => none))))) := (upE_n (by omega)).trans f26_n0
  have f27_o : (upE E26 o (.inr (10, [.ref (h0 + (n + 0)), .ref (h0 + (n + 1)), .ref (h0 + (n + 3)), .ref (h0 + (n + 50)), .int 0, .ref (h0 + (n + 97)), .ref (h0 + (n + 98)), .ref (h0 + (n + 101)), .ref (h0 + (n + 104)), .ref (h0 + (n + 109)), .ref (h0 + (n + 116))]))) (o) = .inr (10, [.ref (h0 + (n + 0)), .ref (h0 + (n + 1)), .ref (h0 + (n + 3)), .ref (h0 + (n + 50)), .int 0, .ref (h0 + (n + 97)), .ref (h0 + (n + 98)), .ref (h0 + (n + 101)), .ref (h0 + (n + 104)), .ref (h0 + (n + 109)), .ref (h0 + (n + 116))]) := upE_s
  generalize hE27 : upE E26 o (.inr (10, [.ref (h0 + (n + 0)), .ref (h0 + (n + 1)), .ref (h0 + (n + 3)), .ref (h0 + (n + 50)), .int 0, .ref (h0 + (n + 97)), .ref (h0 + (n + 98)), .ref (h0 + (n + 101)), .ref (h0 + (n + 104)), .ref (h0 + (n + 109)), .ref (h0 + (n + 116))])) = E27 at f27_n0 f27_o ⊢
  clear f26_n0 f26_o
  refine a_iconst X (v := 0) dX10_init_105 (by decide) ?_
  refine a_istore X (lu := [(0, .ref (h0 + o)), (1, .int 0)]) dX10_init_106 rfl (by omega) rfl [1, 0] rfl ?_
  rw [← z_she (lo := n + 117) f27_n0]
  refine lp_she X (lo := n + 117) (o := o) (a := (n + 0)) (cs := 117) (sl := 985) rfl rfl (by omega) (by omega) (by omega) f27_o (Nat.le_of_ble_eq_true rfl) (Nat.le_of_ble_eq_true rfl) ⟨Nat.le_of_ble_eq_true rfl, Nat.le_of_ble_eq_true rfl⟩ ?_ 8 0 (by omega)
  have f28_o : (l_she cy h0 E27 (n + 0) (n + 117) 8) (o) = .inr (10, [.ref (h0 + (n + 0)), .ref (h0 + (n + 1)), .ref (h0 + (n + 3)), .ref (h0 + (n + 50)), .int 0, .ref (h0 + (n + 97)), .ref (h0 + (n + 98)), .ref (h0 + (n + 101)), .ref (h0 + (n + 104)), .ref (h0 + (n + 109)), .ref (h0 + (n + 116))]) := (n_she (by omega) (by omega)).trans f27_o
  show GA _ _ _ _ _ _ _ _ _ _ _ _ _ _ _ (l_she cy h0 E27 (n + 0) (n + 117) 8) 133 1337 _ _ _
  generalize hE28 : l_she cy h0 E27 (n + 0) (n + 117) 8 = E28 at f28_o ⊢
  exact a_ret X hr rfl rfl (by rw [← hE28, ← hE27, ← hE26, ← hE25, ← hE24, ← hE23, ← hE22, ← hE21, ← hE20, ← hE19, ← hE18, ← hE17, ← hE16, ← hE15, ← hE14, ← hE13, ← hE12, ← hE11, ← hE10, ← hE9, ← hE8, ← hE7, ← hE6, ← hE5, ← hE4, ← hE3, ← hE2, ← hE1]; rfl) dX10_init_132
