theorem fr_0 : ∀ j, j < 5 → defaultValue (tyX0 j) = vp_V [.int 0, .int 0, .int 0, .int 0, .int 0] j := by
  intro j hj
  rcases (show j = 0 ∨ j = 1 ∨ j = 2 ∨ j = 3 ∨ j = 4 by omega) with rfl | rfl | rfl | rfl | rfl
  all_goals rfl
theorem fr_1 : ∀ j, j < 17 → defaultValue (tyX1 j) = vp_V [.null, .int 0, .null, .int 0, .int 0, .null, .null, .int 0, .null, .null, .int 0, .null, .int 0, .int 0, .int 0, .int 0, .null] j := by
  intro j hj
  rcases (show j = 0 ∨ j = 1 ∨ j = 2 ∨ j = 3 ∨ j = 4 ∨ j = 5 ∨ j = 6 ∨ j = 7 ∨ j = 8 ∨ j = 9 ∨ j = 10 ∨ j = 11 ∨ j = 12 ∨ j = 13 ∨ j = 14 ∨ j = 15 ∨ j = 16 by omega) with rfl | rfl | rfl | rfl | rfl | rfl | rfl | rfl | rfl | rfl | rfl | rfl | rfl | rfl | rfl | rfl | rfl
  all_goals rfl
theorem fr_2 : ∀ j, j < 1 → defaultValue (tyX2 j) = vp_V [.null] j := by
  intro j hj
  rcases (show j = 0 by omega) with rfl
  all_goals rfl
theorem fr_3 : ∀ j, j < 3 → defaultValue (tyX3 j) = vp_V [.int 0, .int 0, .int 0] j := by
  intro j hj
  rcases (show j = 0 ∨ j = 1 ∨ j = 2 by omega) with rfl | rfl | rfl
  all_goals rfl
theorem fr_4 : ∀ j, j < 10 → defaultValue (tyX4 j) = vp_V [.null, .int 0, .int 0, .null, .int 0, .int 0, .int 0, .null, .null, .null] j := by
  intro j hj
  rcases (show j = 0 ∨ j = 1 ∨ j = 2 ∨ j = 3 ∨ j = 4 ∨ j = 5 ∨ j = 6 ∨ j = 7 ∨ j = 8 ∨ j = 9 by omega) with rfl | rfl | rfl | rfl | rfl | rfl | rfl | rfl | rfl | rfl
  all_goals rfl
theorem fr_5 : ∀ j, j < 4 → defaultValue (tyX5 j) = vp_V [.int 0, .int 0, .int 0, .null] j := by
  intro j hj
  rcases (show j = 0 ∨ j = 1 ∨ j = 2 ∨ j = 3 by omega) with rfl | rfl | rfl | rfl
  all_goals rfl
theorem fr_6 : ∀ j, j < 3 → defaultValue (tyX6 j) = vp_V [.null, .int 0, .int 0] j := by
  intro j hj
  rcases (show j = 0 ∨ j = 1 ∨ j = 2 by omega) with rfl | rfl | rfl
  all_goals rfl
theorem fr_7 : ∀ j, j < 10 → defaultValue (tyX7 j) = vp_V [.int 0, .int 0, .int 0, .int 0, .null, .null, .null, .null, .null, .null] j := by
  intro j hj
  rcases (show j = 0 ∨ j = 1 ∨ j = 2 ∨ j = 3 ∨ j = 4 ∨ j = 5 ∨ j = 6 ∨ j = 7 ∨ j = 8 ∨ j = 9 by omega) with rfl | rfl | rfl | rfl | rfl | rfl | rfl | rfl | rfl | rfl
  all_goals rfl
theorem fr_8 : ∀ j, j < 3 → defaultValue (tyX8 j) = vp_V [.null, .null, .int 0] j := by
  intro j hj
  rcases (show j = 0 ∨ j = 1 ∨ j = 2 by omega) with rfl | rfl | rfl
  all_goals rfl
theorem fr_9 : ∀ j, j < 8 → defaultValue (tyX9 j) = vp_V [.int 0, .null, .int 0, .int 0, .int 0, .int 0, .int 0, .int 0] j := by
  intro j hj
  rcases (show j = 0 ∨ j = 1 ∨ j = 2 ∨ j = 3 ∨ j = 4 ∨ j = 5 ∨ j = 6 ∨ j = 7 by omega) with rfl | rfl | rfl | rfl | rfl | rfl | rfl | rfl
  all_goals rfl
theorem fr_10 : ∀ j, j < 11 → defaultValue (tyX10 j) = vp_V [.null, .null, .null, .null, .int 0, .null, .null, .null, .null, .null, .null] j := by
  intro j hj
  rcases (show j = 0 ∨ j = 1 ∨ j = 2 ∨ j = 3 ∨ j = 4 ∨ j = 5 ∨ j = 6 ∨ j = 7 ∨ j = 8 ∨ j = 9 ∨ j = 10 by omega) with rfl | rfl | rfl | rfl | rfl | rfl | rfl | rfl | rfl | rfl | rfl
  all_goals rfl
theorem fr_11 : ∀ j, j < 28 → defaultValue (tyX11 j) = vp_V [.null, .null, .null, .null, .null, .null, .null, .null, .int 0, .null, .null, .null, .null, .null, .null, .null, .null, .null, .null, .null, .null, .int 0, .null, .null, .null, .null, .null, .null] j := by
  intro j hj
  rcases (show j = 0 ∨ j = 1 ∨ j = 2 ∨ j = 3 ∨ j = 4 ∨ j = 5 ∨ j = 6 ∨ j = 7 ∨ j = 8 ∨ j = 9 ∨ j = 10 ∨ j = 11 ∨ j = 12 ∨ j = 13 ∨ j = 14 ∨ j = 15 ∨ j = 16 ∨ j = 17 ∨ j = 18 ∨ j = 19 ∨ j = 20 ∨ j = 21 ∨ j = 22 ∨ j = 23 ∨ j = 24 ∨ j = 25 ∨ j = 26 ∨ j = 27 by omega) with rfl | rfl | rfl | rfl | rfl | rfl | rfl | rfl | rfl | rfl | rfl | rfl | rfl | rfl | rfl | rfl | rfl | rfl | rfl | rfl | rfl | rfl | rfl | rfl | rfl | rfl | rfl | rfl
  all_goals rfl
theorem wi_0 : CI yX0_init cX0_init 1 := ⟨⟨m_1_127, m_1_7, m_1_128⟩, ⟨by decide, by decide⟩, by decide +kernel, rfl⟩
theorem wi_1 : CI yX1_init cX1_init 2 := ⟨⟨m_1_51, m_1_3, m_1_52⟩, ⟨by decide, by decide⟩, by decide +kernel, rfl⟩
theorem wi_2 : CI yX2_init cX2_init 1 := ⟨⟨m_1_60, m_1_4, m_1_61⟩, ⟨by decide, by decide⟩, by decide +kernel, rfl⟩
theorem wi_3 : CI yX3_init cX3_init 1 := ⟨⟨m_1_157, m_1_8, m_1_158⟩, ⟨by decide, by decide⟩, by decide +kernel, rfl⟩
theorem wi_4 : CI yX4_init cX4_init 1 := ⟨⟨m_2_30, m_1_10, m_2_31⟩, ⟨by decide, by decide⟩, by decide +kernel, rfl⟩
theorem wi_5 : CI yX5_init cX5_init 1 := ⟨⟨m_2_108, m_1_12, m_2_109⟩, ⟨by decide, by decide⟩, by decide +kernel, rfl⟩
theorem wi_6 : CI yX6_init cX6_init 1 := ⟨⟨m_1_33, m_1_2, m_1_34⟩, ⟨by decide, by decide⟩, by decide +kernel, rfl⟩
theorem wi_7 : CI yX7_init cX7_init 1 := ⟨⟨m_2_71, m_1_11, m_2_72⟩, ⟨by decide, by decide⟩, by decide +kernel, rfl⟩
theorem wi_8 : CI yX8_init cX8_init 1 := ⟨⟨m_2_10, m_1_9, m_2_11⟩, ⟨by decide, by decide⟩, by decide +kernel, rfl⟩
theorem wi_9 : CI yX9_init cX9_init 1 := ⟨⟨m_1_85, m_1_6, m_1_86⟩, ⟨by decide, by decide⟩, by decide +kernel, rfl⟩
theorem wi_10 : CI yX10_init cX10_init 2 := ⟨⟨m_1_23, m_1_1, m_1_24⟩, ⟨by decide, by decide⟩, by decide +kernel, rfl⟩
theorem wi_11 : CI yX11_init cX11_init 2 := ⟨⟨m_5_58, m_1_13, m_5_59⟩, ⟨by decide, by decide⟩, by decide +kernel, rfl⟩
theorem upE2 {E : Nat → va_E} {i : Nat} {v w : va_E} : upE (upE E i v) i w = upE E i w := by
  funext j
  unfold upE
  split <;> rfl
theorem upEc {E : Nat → va_E} {i k : Nat} {v w : va_E} (h : i ≠ k) : upE (upE E i v) k w = upE (upE E k w) i v := by
  funext j
  unfold upE
  split
  · rw [if_neg (by omega)]
  · rfl
def blk (E : Nat → va_E) (lo hi : Nat) (g : Nat → va_E) : Nat → va_E := fun i => if lo ≤ i ∧ i < hi then g i else E i
theorem blk_n {E : Nat → va_E} {lo hi i : Nat} {g : Nat → va_E} (h : ¬ (lo ≤ i ∧ i < hi)) : blk E lo hi g i = E i := if_neg h
theorem blk_y {E : Nat → va_E} {lo hi i : Nat} {g : Nat → va_E} (h : lo ≤ i ∧ i < hi) : blk E lo hi g i = g i := if_pos h
set_option maxRecDepth 100000 in
set_option maxHeartbeats 4000000 in
theorem c_0 {l : Launch} {D : va_G} {cy : Nat → ClassId} {h0 b0 n o : Nat} {E : Nat → va_E} (ho : o < n) (he : E o = .inr (0, [.int 0, .int 0, .int 0, .int 0, .int 0])) : MA l D cy h0 b0 yX0_init cX0_init 1 1 0 0 [.ref (h0 + o)] n E E := by
  refine met_ofA (lv0 := [(0, .ref (h0 + o))]) (by decide) (Nat.le_of_ble_eq_true rfl) rfl (fun p e s m args below meth c X hr hnm => ?_)
  refine a_aload X dX0_init_0 0 rfl rfl ?_
  refine a_obj X m_1_129 ⟨Nat.le_of_ble_eq_true rfl, Nat.le_of_ble_eq_true rfl⟩ dX0_init_1 ?_
  exact a_ret X hr rfl rfl rfl dX0_init_4
set_option maxRecDepth 100000 in
set_option maxHeartbeats 4000000 in
theorem c_3 {l : Launch} {D : va_G} {cy : Nat → ClassId} {h0 b0 n o : Nat} {E : Nat → va_E} (ho : o < n) (he : E o = .inr (3, [.int 0, .int 0, .int 0])) : MA l D cy h0 b0 yX3_init cX3_init 1 1 0 0 [.ref (h0 + o)] n E E := by
  refine met_ofA (lv0 := [(0, .ref (h0 + o))]) (by decide) (Nat.le_of_ble_eq_true rfl) rfl (fun p e s m args below meth c X hr hnm => ?_)
  refine a_aload X dX3_init_0 0 rfl rfl ?_
  refine a_obj X m_1_159 ⟨Nat.le_of_ble_eq_true rfl, Nat.le_of_ble_eq_true rfl⟩ dX3_init_1 ?_
  exact a_ret X hr rfl rfl rfl dX3_init_4
def e4 (cy : Nat → ClassId) (h0 : Nat) (E : Nat → va_E) (o n : Nat) : Nat → va_E := upE (upE (upE (upE (upE (upE (upE (upE (E) (n + 0) (.inl (cy 1, 6, .inl (fun _ => 0)))) o (.inr (4, [.ref (h0 + (n + 0)), .int 0, .int 0, .null, .int 0, .int 0, .int 0, .null, .null, .null]))) (n + (0 + 1)) (.inl (cy 1, 6, .inl (fun _ => 0)))) o (.inr (4, [.ref (h0 + (n + 0)), .int 0, .int 0, .null, .int 0, .int 0, .int 0, .ref (h0 + (n + (0 + 1))), .null, .null]))) (n + ((0 + 1) + 1)) (.inl (cy 3, 6, .inl (fun _ => 0)))) o (.inr (4, [.ref (h0 + (n + 0)), .int 0, .int 0, .null, .int 0, .int 0, .int 0, .ref (h0 + (n + (0 + 1))), .ref (h0 + (n + ((0 + 1) + 1))), .null]))) (n + (((0 + 1) + 1) + 1)) (.inl (cy 1, 6, .inl (fun _ => 0)))) o (.inr (4, [.ref (h0 + (n + 0)), .int 0, .int 0, .null, .int 0, .int 0, .int 0, .ref (h0 + (n + (0 + 1))), .ref (h0 + (n + ((0 + 1) + 1))), .ref (h0 + (n + (((0 + 1) + 1) + 1)))]))
theorem e4_n {cy : Nat → ClassId} {h0 : Nat} {E : Nat → va_E} {o n j : Nat} (h1 : j ≠ o) (h2 : j < n) : e4 cy h0 E o n j = E j := by
  unfold e4 upE
  repeat rw [if_neg (by omega)]
set_option maxRecDepth 100000 in
set_option maxHeartbeats 4000000 in
theorem c_4 {l : Launch} {D : va_G} {cy : Nat → ClassId} {h0 b0 n o : Nat} {E : Nat → va_E} (ho : o < n) (he : E o = .inr (4, [.null, .int 0, .int 0, .null, .int 0, .int 0, .int 0, .null, .null, .null])) : MA l D cy h0 b0 yX4_init cX4_init 1 1 4 24 [.ref (h0 + o)] n E (e4 cy h0 E o n) := by
  refine met_ofA (lv0 := [(0, .ref (h0 + o))]) (by decide) (Nat.le_of_ble_eq_true rfl) rfl (fun p e s m args below meth c X hr hnm => ?_)
  refine a_aload X dX4_init_0 0 rfl rfl ?_
  refine a_obj X m_2_32 ⟨Nat.le_of_ble_eq_true rfl, Nat.le_of_ble_eq_true rfl⟩ dX4_init_1 ?_
  refine a_aload X dX4_init_4 0 rfl rfl ?_
  refine a_bipush X (v := 6) dX4_init_5 (by decide) ?_
  refine a_newaI X 6 m_1_79 (by decide) (by decide) (Nat.le_of_ble_eq_true rfl) ⟨Nat.le_of_ble_eq_true rfl, Nat.le_of_ble_eq_true rfl⟩ dX4_init_7 ?_
  have f1_o : (upE E (n + 0) (.inl (cy 1, 6, .inl (fun _ => 0)))) (o) = .inr (4, [.null, .int 0, .int 0, .null, .int 0, .int 0, .int 0, .null, .null, .null]) := (upE_n (by omega)).trans he
  generalize hE1 : upE E (n + 0) (.inl (cy 1, 6, .inl (fun _ => 0))) = E1 at f1_o ⊢
  refine a_putF X (ci := 4) (i := 0) (C := RX4) (T := TX4) (N := 10) (ty := tyX4 0) (by omega) f1_o rfl inX4 tyX4 tyX4_ok nmX4 (by decide) rfl rfl hnm rfl (tyX4_ok 0 (by decide)) rfl rfl (Nat.le_of_ble_eq_true rfl) m_2_33 dX4_init_9 ?_
  show GA _ _ _ _ _ _ _ _ _ _ _ _ _ _ _ (upE E1 o (.inr (4, [.ref (h0 + (n + 0)), .int 0, .int 0, .null, .int 0, .int 0, .int 0, .null, .null, .null]))) _ _ _ _ _
  have f2_o : (upE E1 o (.inr (4, [.ref (h0 + (n + 0)), .int 0, .int 0, .null, .int 0, .int 0, .int 0, .null, .null, .null]))) (o) = .inr (4, [.ref (h0 + (n + 0)), .int 0, .int 0, .null, .int 0, .int 0, .int 0, .null, .null, .null]) := upE_s
  generalize hE2 : upE E1 o (.inr (4, [.ref (h0 + (n + 0)), .int 0, .int 0, .null, .int 0, .int 0, .int 0, .null, .null, .null])) = E2 at f2_o ⊢
  refine a_aload X dX4_init_12 0 rfl rfl ?_
  refine a_bipush X (v := 6) dX4_init_13 (by decide) ?_
  refine a_newaI X 6 m_1_79 (by decide) (by decide) (Nat.le_of_ble_eq_true rfl) ⟨Nat.le_of_ble_eq_true rfl, Nat.le_of_ble_eq_true rfl⟩ dX4_init_15 ?_
  have f3_o : (upE E2 (n + (0 + 1)) (.inl (cy 1, 6, .inl (fun _ => 0)))) (o) = .inr (4, [.ref (h0 + (n + 0)), .int 0, .int 0, .null, .int 0, .int 0, .int 0, .null, .null, .null]) := (upE_n (by omega)).trans f2_o
  generalize hE3 : upE E2 (n + (0 + 1)) (.inl (cy 1, 6, .inl (fun _ => 0))) = E3 at f3_o ⊢
  refine a_putF X (ci := 4) (i := 7) (C := RX4) (T := TX4) (N := 10) (ty := tyX4 7) (by omega) f3_o rfl inX4 tyX4 tyX4_ok nmX4 (by decide) rfl rfl hnm rfl (tyX4_ok 7 (by decide)) rfl rfl (Nat.le_of_ble_eq_true rfl) m_2_43 dX4_init_17 ?_
  show GA _ _ _ _ _ _ _ _ _ _ _ _ _ _ _ (upE E3 o (.inr (4, [.ref (h0 + (n + 0)), .int 0, .int 0, .null, .int 0, .int 0, .int 0, .ref (h0 + (n + (0 + 1))), .null, .null]))) _ _ _ _ _
  have f4_o : (upE E3 o (.inr (4, [.ref (h0 + (n + 0)), .int 0, .int 0, .null, .int 0, .int 0, .int 0, .ref (h0 + (n + (0 + 1))), .null, .null]))) (o) = .inr (4, [.ref (h0 + (n + 0)), .int 0, .int 0, .null, .int 0, .int 0, .int 0, .ref (h0 + (n + (0 + 1))), .null, .null]) := upE_s
  generalize hE4 : upE E3 o (.inr (4, [.ref (h0 + (n + 0)), .int 0, .int 0, .null, .int 0, .int 0, .int 0, .ref (h0 + (n + (0 + 1))), .null, .null])) = E4 at f4_o ⊢
  refine a_aload X dX4_init_20 0 rfl rfl ?_
  refine a_bipush X (v := 6) dX4_init_21 (by decide) ?_
  refine a_newaZ X 6 m_2_67 (by decide) (by decide) (Nat.le_of_ble_eq_true rfl) ⟨Nat.le_of_ble_eq_true rfl, Nat.le_of_ble_eq_true rfl⟩ dX4_init_23 ?_
  have f5_o : (upE E4 (n + ((0 + 1) + 1)) (.inl (cy 3, 6, .inl (fun _ => 0)))) (o) = .inr (4, [.ref (h0 + (n + 0)), .int 0, .int 0, .null, .int 0, .int 0, .int 0, .ref (h0 + (n + (0 + 1))), .null, .null]) := (upE_n (by omega)).trans f4_o
  generalize hE5 : upE E4 (n + ((0 + 1) + 1)) (.inl (cy 3, 6, .inl (fun _ => 0))) = E5 at f5_o ⊢
  refine a_putF X (ci := 4) (i := 8) (C := RX4) (T := TX4) (N := 10) (ty := tyX4 8) (by omega) f5_o rfl inX4 tyX4 tyX4_ok nmX4 (by decide) rfl rfl hnm rfl (tyX4_ok 8 (by decide)) rfl rfl (Nat.le_of_ble_eq_true rfl) m_2_44 dX4_init_25 ?_
  show GA _ _ _ _ _ _ _ _ _ _ _ _ _ _ _ (upE E5 o (.inr (4, [.ref (h0 + (n + 0)), .int 0, .int 0, .null, .int 0, .int 0, .int 0, .ref (h0 + (n + (0 + 1))), .ref (h0 + (n + ((0 + 1) + 1))), .null]))) _ _ _ _ _
  have f6_o : (upE E5 o (.inr (4, [.ref (h0 + (n + 0)), .int 0, .int 0, .null, .int 0, .int 0, .int 0, .ref (h0 + (n + (0 + 1))), .ref (h0 + (n + ((0 + 1) + 1))), .null]))) (o) = .inr (4, [.ref (h0 + (n + 0)), .int 0, .int 0, .null, .int 0, .int 0, .int 0, .ref (h0 + (n + (0 + 1))), .ref (h0 + (n + ((0 + 1) + 1))), .null]) := upE_s
  generalize hE6 : upE E5 o (.inr (4, [.ref (h0 + (n + 0)), .int 0, .int 0, .null, .int 0, .int 0, .int 0, .ref (h0 + (n + (0 + 1))), .ref (h0 + (n + ((0 + 1) + 1))), .null])) = E6 at f6_o ⊢
  refine a_aload X dX4_init_28 0 rfl rfl ?_
  refine a_bipush X (v := 6) dX4_init_29 (by decide) ?_
  refine a_newaI X 6 m_1_79 (by decide) (by decide) (Nat.le_of_ble_eq_true rfl) ⟨Nat.le_of_ble_eq_true rfl, Nat.le_of_ble_eq_true rfl⟩ dX4_init_31 ?_
  have f7_o : (upE E6 (n + (((0 + 1) + 1) + 1)) (.inl (cy 1, 6, .inl (fun _ => 0)))) (o) = .inr (4, [.ref (h0 + (n + 0)), .int 0, .int 0, .null, .int 0, .int 0, .int 0, .ref (h0 + (n + (0 + 1))), .ref (h0 + (n + ((0 + 1) + 1))), .null]) := (upE_n (by omega)).trans f6_o
  generalize hE7 : upE E6 (n + (((0 + 1) + 1) + 1)) (.inl (cy 1, 6, .inl (fun _ => 0))) = E7 at f7_o ⊢
  refine a_putF X (ci := 4) (i := 9) (C := RX4) (T := TX4) (N := 10) (ty := tyX4 9) (by omega) f7_o rfl inX4 tyX4 tyX4_ok nmX4 (by decide) rfl rfl hnm rfl (tyX4_ok 9 (by decide)) rfl rfl (Nat.le_of_ble_eq_true rfl) m_2_45 dX4_init_33 ?_
  show GA _ _ _ _ _ _ _ _ _ _ _ _ _ _ _ (upE E7 o (.inr (4, [.ref (h0 + (n + 0)), .int 0, .int 0, .null, .int 0, .int 0, .int 0, .ref (h0 + (n + (0 + 1))), .ref (h0 + (n + ((0 + 1) + 1))), .ref (h0 + (n + (((0 + 1) + 1) + 1)))]))) _ _ _ _ _
  have f8_o : (upE E7 o (.inr (4, [.ref (h0 + (n + 0)), .int 0, .int 0, .null, .int 0, .int 0, .int 0, .ref (h0 + (n + (0 + 1))), .ref (h0 + (n + ((0 + 1) + 1))), .ref (h0 + (n + (((0 + 1) + 1) + 1)))]))) (o) = .inr (4, [.ref (h0 + (n + 0)), .int 0, .int 0, .null, .int 0, .int 0, .int 0, .ref (h0 + (n + (0 + 1))), .ref (h0 + (n + ((0 + 1) + 1))), .ref (h0 + (n + (((0 + 1) + 1) + 1)))]) := upE_s
  generalize hE8 : upE E7 o (.inr (4, [.ref (h0 + (n + 0)), .int 0, .int 0, .null, .int 0, .int 0, .int 0, .ref (h0 + (n + (0 + 1))), .ref (h0 + (n + ((0 + 1) + 1))), .ref (h0 + (n + (((0 + 1) + 1) + 1)))])) = E8 at f8_o ⊢
  exact a_ret X hr rfl rfl (by rw [← hE8, ← hE7, ← hE6, ← hE5, ← hE4, ← hE3, ← hE2, ← hE1]; rfl) dX4_init_36
def e5 (cy : Nat → ClassId) (h0 : Nat) (E : Nat → va_E) (o n : Nat) : Nat → va_E := upE (upE (upE (upE (E) o (.inr (5, [.int (-1), .int 0, .int 0, .null]))) o (.inr (5, [.int (-1), .int 0, .int (-1), .null]))) (n + 0) (.inl (cy 2, 40, .inr (.inl (fun _ => 0))))) o (.inr (5, [.int (-1), .int 0, .int (-1), .ref (h0 + (n + 0))]))
theorem e5_n {cy : Nat → ClassId} {h0 : Nat} {E : Nat → va_E} {o n j : Nat} (h1 : j ≠ o) (h2 : j < n) : e5 cy h0 E o n j = E j := by
  unfold e5 upE
  repeat rw [if_neg (by omega)]
set_option maxRecDepth 100000 in
set_option maxHeartbeats 4000000 in
theorem c_5 {l : Launch} {D : va_G} {cy : Nat → ClassId} {h0 b0 n o : Nat} {E : Nat → va_E} (ho : o < n) (he : E o = .inr (5, [.int 0, .int 0, .int 0, .null])) : MA l D cy h0 b0 yX5_init cX5_init 1 1 1 40 [.ref (h0 + o)] n E (e5 cy h0 E o n) := by
  refine met_ofA (lv0 := [(0, .ref (h0 + o))]) (by decide) (Nat.le_of_ble_eq_true rfl) rfl (fun p e s m args below meth c X hr hnm => ?_)
  refine a_aload X dX5_init_0 0 rfl rfl ?_
  refine a_obj X m_2_110 ⟨Nat.le_of_ble_eq_true rfl, Nat.le_of_ble_eq_true rfl⟩ dX5_init_1 ?_
  refine a_aload X dX5_init_4 0 rfl rfl ?_
  refine a_iconst X (v := -1) dX5_init_5 (by decide) ?_
  refine a_put X (ci := 5) (i := 0) (C := RX5) (T := TX5) (N := 4) (ty := tyX5 0) (by omega) he rfl inX5 tyX5 tyX5_ok nmX5 (by decide) rfl rfl (tyX5_ok 0 (by decide)) rfl rfl (Nat.le_of_ble_eq_true rfl) m_2_111 dX5_init_6 ?_
  show GA _ _ _ _ _ _ _ _ _ _ _ _ _ _ _ (upE E o (.inr (5, [.int (-1), .int 0, .int 0, .null]))) _ _ _ _ _
  have f1_o : (upE E o (.inr (5, [.int (-1), .int 0, .int 0, .null]))) (o) = .inr (5, [.int (-1), .int 0, .int 0, .null]) := upE_s
  generalize hE1 : upE E o (.inr (5, [.int (-1), .int 0, .int 0, .null])) = E1 at f1_o ⊢
  refine a_aload X dX5_init_9 0 rfl rfl ?_
  refine a_iconst X (v := -1) dX5_init_10 (by decide) ?_
  refine a_put X (ci := 5) (i := 2) (C := RX5) (T := TX5) (N := 4) (ty := tyX5 2) (by omega) f1_o rfl inX5 tyX5 tyX5_ok nmX5 (by decide) rfl rfl (tyX5_ok 2 (by decide)) rfl rfl (Nat.le_of_ble_eq_true rfl) m_2_115 dX5_init_11 ?_
  show GA _ _ _ _ _ _ _ _ _ _ _ _ _ _ _ (upE E1 o (.inr (5, [.int (-1), .int 0, .int (-1), .null]))) _ _ _ _ _
  have f2_o : (upE E1 o (.inr (5, [.int (-1), .int 0, .int (-1), .null]))) (o) = .inr (5, [.int (-1), .int 0, .int (-1), .null]) := upE_s
  generalize hE2 : upE E1 o (.inr (5, [.int (-1), .int 0, .int (-1), .null])) = E2 at f2_o ⊢
  refine a_aload X dX5_init_14 0 rfl rfl ?_
  refine a_bipush X (v := 40) dX5_init_15 (by decide) ?_
  refine a_newaJ X 40 m_2_128 (by decide) (by decide) (Nat.le_of_ble_eq_true rfl) ⟨Nat.le_of_ble_eq_true rfl, Nat.le_of_ble_eq_true rfl⟩ dX5_init_17 ?_
  have f3_o : (upE E2 (n + 0) (.inl (cy 2, 40, .inr (.inl (fun _ => 0))))) (o) = .inr (5, [.int (-1), .int 0, .int (-1), .null]) := (upE_n (by omega)).trans f2_o
  generalize hE3 : upE E2 (n + 0) (.inl (cy 2, 40, .inr (.inl (fun _ => 0)))) = E3 at f3_o ⊢
  refine a_putF X (ci := 5) (i := 3) (C := RX5) (T := TX5) (N := 4) (ty := tyX5 3) (by omega) f3_o rfl inX5 tyX5 tyX5_ok nmX5 (by decide) rfl rfl hnm rfl (tyX5_ok 3 (by decide)) rfl rfl (Nat.le_of_ble_eq_true rfl) m_2_117 dX5_init_19 ?_
  show GA _ _ _ _ _ _ _ _ _ _ _ _ _ _ _ (upE E3 o (.inr (5, [.int (-1), .int 0, .int (-1), .ref (h0 + (n + 0))]))) _ _ _ _ _
  have f4_o : (upE E3 o (.inr (5, [.int (-1), .int 0, .int (-1), .ref (h0 + (n + 0))]))) (o) = .inr (5, [.int (-1), .int 0, .int (-1), .ref (h0 + (n + 0))]) := upE_s
  generalize hE4 : upE E3 o (.inr (5, [.int (-1), .int 0, .int (-1), .ref (h0 + (n + 0))])) = E4 at f4_o ⊢
  exact a_ret X hr rfl rfl (by rw [← hE4, ← hE3, ← hE2, ← hE1]; rfl) dX5_init_22
def e6 (cy : Nat → ClassId) (h0 : Nat) (E : Nat → va_E) (o n : Nat) : Nat → va_E := upE (upE (E) (n + 0) (.inl (cy 0, 160, .inl (fun _ => 0)))) o (.inr (6, [.ref (h0 + (n + 0)), .int 0, .int 0]))
theorem e6_n {cy : Nat → ClassId} {h0 : Nat} {E : Nat → va_E} {o n j : Nat} (h1 : j ≠ o) (h2 : j < n) : e6 cy h0 E o n j = E j := by
  unfold e6 upE
  repeat rw [if_neg (by omega)]
set_option maxRecDepth 100000 in
set_option maxHeartbeats 4000000 in
theorem c_6 {l : Launch} {D : va_G} {cy : Nat → ClassId} {h0 b0 n o : Nat} {E : Nat → va_E} (ho : o < n) (he : E o = .inr (6, [.null, .int 0, .int 0])) : MA l D cy h0 b0 yX6_init cX6_init 1 1 1 160 [.ref (h0 + o)] n E (e6 cy h0 E o n) := by
  refine met_ofA (lv0 := [(0, .ref (h0 + o))]) (by decide) (Nat.le_of_ble_eq_true rfl) rfl (fun p e s m args below meth c X hr hnm => ?_)
  refine a_aload X dX6_init_0 0 rfl rfl ?_
  refine a_obj X m_1_35 ⟨Nat.le_of_ble_eq_true rfl, Nat.le_of_ble_eq_true rfl⟩ dX6_init_1 ?_
  refine a_aload X dX6_init_4 0 rfl rfl ?_
  refine a_sipush X (v := 160) dX6_init_5 (by decide) ?_
  refine a_newaB X 160 m_1_47 (by decide) (by decide) (Nat.le_of_ble_eq_true rfl) ⟨Nat.le_of_ble_eq_true rfl, Nat.le_of_ble_eq_true rfl⟩ dX6_init_8 ?_
  have f1_o : (upE E (n + 0) (.inl (cy 0, 160, .inl (fun _ => 0)))) (o) = .inr (6, [.null, .int 0, .int 0]) := (upE_n (by omega)).trans he
  generalize hE1 : upE E (n + 0) (.inl (cy 0, 160, .inl (fun _ => 0))) = E1 at f1_o ⊢
  refine a_putF X (ci := 6) (i := 0) (C := RX6) (T := TX6) (N := 3) (ty := tyX6 0) (by omega) f1_o rfl inX6 tyX6 tyX6_ok nmX6 (by decide) rfl rfl hnm rfl (tyX6_ok 0 (by decide)) rfl rfl (Nat.le_of_ble_eq_true rfl) m_1_36 dX6_init_10 ?_
  show GA _ _ _ _ _ _ _ _ _ _ _ _ _ _ _ (upE E1 o (.inr (6, [.ref (h0 + (n + 0)), .int 0, .int 0]))) _ _ _ _ _
  have f2_o : (upE E1 o (.inr (6, [.ref (h0 + (n + 0)), .int 0, .int 0]))) (o) = .inr (6, [.ref (h0 + (n + 0)), .int 0, .int 0]) := upE_s
  generalize hE2 : upE E1 o (.inr (6, [.ref (h0 + (n + 0)), .int 0, .int 0])) = E2 at f2_o ⊢
  exact a_ret X hr rfl rfl (by rw [← hE2, ← hE1]; rfl) dX6_init_13
def e7 (cy : Nat → ClassId) (h0 : Nat) (E : Nat → va_E) (o n : Nat) : Nat → va_E := upE (upE (upE (upE (upE (upE (upE (upE (upE (upE (upE (upE (E) (n + 0) (.inl (cy 1, 6, .inl (fun _ => 0)))) o (.inr (7, [.int 0, .int 0, .int 0, .int 0, .ref (h0 + (n + 0)), .null, .null, .null, .null, .null]))) (n + (0 + 1)) (.inl (cy 1, 36, .inl (fun _ => 0)))) o (.inr (7, [.int 0, .int 0, .int 0, .int 0, .ref (h0 + (n + 0)), .ref (h0 + (n + (0 + 1))), .null, .null, .null, .null]))) (n + ((0 + 1) + 1)) (.inl (cy 1, 7, .inl (fun _ => 0)))) o (.inr (7, [.int 0, .int 0, .int 0, .int 0, .ref (h0 + (n + 0)), .ref (h0 + (n + (0 + 1))), .ref (h0 + (n + ((0 + 1) + 1))), .null, .null, .null]))) (n + (((0 + 1) + 1) + 1)) (.inl (cy 1, 6, .inl (fun _ => 0)))) o (.inr (7, [.int 0, .int 0, .int 0, .int 0, .ref (h0 + (n + 0)), .ref (h0 + (n + (0 + 1))), .ref (h0 + (n + ((0 + 1) + 1))), .ref (h0 + (n + (((0 + 1) + 1) + 1))), .null, .null]))) (n + ((((0 + 1) + 1) + 1) + 1)) (.inl (cy 1, 6, .inl (fun _ => 0)))) o (.inr (7, [.int 0, .int 0, .int 0, .int 0, .ref (h0 + (n + 0)), .ref (h0 + (n + (0 + 1))), .ref (h0 + (n + ((0 + 1) + 1))), .ref (h0 + (n + (((0 + 1) + 1) + 1))), .ref (h0 + (n + ((((0 + 1) + 1) + 1) + 1))), .null]))) (n + (((((0 + 1) + 1) + 1) + 1) + 1)) (.inl (cy 1, 6, .inl (fun _ => 0)))) o (.inr (7, [.int 0, .int 0, .int 0, .int 0, .ref (h0 + (n + 0)), .ref (h0 + (n + (0 + 1))), .ref (h0 + (n + ((0 + 1) + 1))), .ref (h0 + (n + (((0 + 1) + 1) + 1))), .ref (h0 + (n + ((((0 + 1) + 1) + 1) + 1))), .ref (h0 + (n + (((((0 + 1) + 1) + 1) + 1) + 1)))]))
theorem e7_n {cy : Nat → ClassId} {h0 : Nat} {E : Nat → va_E} {o n j : Nat} (h1 : j ≠ o) (h2 : j < n) : e7 cy h0 E o n j = E j := by
  unfold e7 upE
  repeat rw [if_neg (by omega)]
set_option maxRecDepth 100000 in
set_option maxHeartbeats 4000000 in
theorem c_7 {l : Launch} {D : va_G} {cy : Nat → ClassId} {h0 b0 n o : Nat} {E : Nat → va_E} (ho : o < n) (he : E o = .inr (7, [.int 0, .int 0, .int 0, .int 0, .null, .null, .null, .null, .null, .null])) : MA l D cy h0 b0 yX7_init cX7_init 1 1 6 67 [.ref (h0 + o)] n E (e7 cy h0 E o n) := by
  refine met_ofA (lv0 := [(0, .ref (h0 + o))]) (by decide) (Nat.le_of_ble_eq_true rfl) rfl (fun p e s m args below meth c X hr hnm => ?_)
  refine a_aload X dX7_init_0 0 rfl rfl ?_
  refine a_obj X m_2_73 ⟨Nat.le_of_ble_eq_true rfl, Nat.le_of_ble_eq_true rfl⟩ dX7_init_1 ?_
  refine a_aload X dX7_init_4 0 rfl rfl ?_
  refine a_bipush X (v := 6) dX7_init_5 (by decide) ?_
  refine a_newaI X 6 m_1_79 (by decide) (by decide) (Nat.le_of_ble_eq_true rfl) ⟨Nat.le_of_ble_eq_true rfl, Nat.le_of_ble_eq_true rfl⟩ dX7_init_7 ?_
  have f1_o : (upE E (n + 0) (.inl (cy 1, 6, .inl (fun _ => 0)))) (o) = .inr (7, [.int 0, .int 0, .int 0, .int 0, .null, .null, .null, .null, .null, .null]) := (upE_n (by omega)).trans he
  generalize hE1 : upE E (n + 0) (.inl (cy 1, 6, .inl (fun _ => 0))) = E1 at f1_o ⊢
  refine a_putF X (ci := 7) (i := 4) (C := RX7) (T := TX7) (N := 10) (ty := tyX7 4) (by omega) f1_o rfl inX7 tyX7 tyX7_ok nmX7 (by decide) rfl rfl hnm rfl (tyX7_ok 4 (by decide)) rfl rfl (Nat.le_of_ble_eq_true rfl) m_2_79 dX7_init_9 ?_
  show GA _ _ _ _ _ _ _ _ _ _ _ _ _ _ _ (upE E1 o (.inr (7, [.int 0, .int 0, .int 0, .int 0, .ref (h0 + (n + 0)), .null, .null, .null, .null, .null]))) _ _ _ _ _
  have f2_o : (upE E1 o (.inr (7, [.int 0, .int 0, .int 0, .int 0, .ref (h0 + (n + 0)), .null, .null, .null, .null, .null]))) (o) = .inr (7, [.int 0, .int 0, .int 0, .int 0, .ref (h0 + (n + 0)), .null, .null, .null, .null, .null]) := upE_s
  generalize hE2 : upE E1 o (.inr (7, [.int 0, .int 0, .int 0, .int 0, .ref (h0 + (n + 0)), .null, .null, .null, .null, .null])) = E2 at f2_o ⊢
  refine a_aload X dX7_init_12 0 rfl rfl ?_
  refine a_bipush X (v := 36) dX7_init_13 (by decide) ?_
  refine a_newaI X 36 m_1_79 (by decide) (by decide) (Nat.le_of_ble_eq_true rfl) ⟨Nat.le_of_ble_eq_true rfl, Nat.le_of_ble_eq_true rfl⟩ dX7_init_15 ?_
  have f3_o : (upE E2 (n + (0 + 1)) (.inl (cy 1, 36, .inl (fun _ => 0)))) (o) = .inr (7, [.int 0, .int 0, .int 0, .int 0, .ref (h0 + (n + 0)), .null, .null, .null, .null, .null]) := (upE_n (by omega)).trans f2_o
  generalize hE3 : upE E2 (n + (0 + 1)) (.inl (cy 1, 36, .inl (fun _ => 0))) = E3 at f3_o ⊢
  refine a_putF X (ci := 7) (i := 5) (C := RX7) (T := TX7) (N := 10) (ty := tyX7 5) (by omega) f3_o rfl inX7 tyX7 tyX7_ok nmX7 (by decide) rfl rfl hnm rfl (tyX7_ok 5 (by decide)) rfl rfl (Nat.le_of_ble_eq_true rfl) m_2_80 dX7_init_17 ?_
  show GA _ _ _ _ _ _ _ _ _ _ _ _ _ _ _ (upE E3 o (.inr (7, [.int 0, .int 0, .int 0, .int 0, .ref (h0 + (n + 0)), .ref (h0 + (n + (0 + 1))), .null, .null, .null, .null]))) _ _ _ _ _
  have f4_o : (upE E3 o (.inr (7, [.int 0, .int 0, .int 0, .int 0, .ref (h0 + (n + 0)), .ref (h0 + (n + (0 + 1))), .null, .null, .null, .null]))) (o) = .inr (7, [.int 0, .int 0, .int 0, .int 0, .ref (h0 + (n + 0)), .ref (h0 + (n + (0 + 1))), .null, .null, .null, .null]) := upE_s
  generalize hE4 : upE E3 o (.inr (7, [.int 0, .int 0, .int 0, .int 0, .ref (h0 + (n + 0)), .ref (h0 + (n + (0 + 1))), .null, .null, .null, .null])) = E4 at f4_o ⊢
  refine a_aload X dX7_init_20 0 rfl rfl ?_
  refine a_bipush X (v := 7) dX7_init_21 (by decide) ?_
  refine a_newaI X 7 m_1_79 (by decide) (by decide) (Nat.le_of_ble_eq_true rfl) ⟨Nat.le_of_ble_eq_true rfl, Nat.le_of_ble_eq_true rfl⟩ dX7_init_23 ?_
  have f5_o : (upE E4 (n + ((0 + 1) + 1)) (.inl (cy 1, 7, .inl (fun _ => 0)))) (o) = .inr (7, [.int 0, .int 0, .int 0, .int 0, .ref (h0 + (n + 0)), .ref (h0 + (n + (0 + 1))), .null, .null, .null, .null]) := (upE_n (by omega)).trans f4_o
  generalize hE5 : upE E4 (n + ((0 + 1) + 1)) (.inl (cy 1, 7, .inl (fun _ => 0))) = E5 at f5_o ⊢
  refine a_putF X (ci := 7) (i := 6) (C := RX7) (T := TX7) (N := 10) (ty := tyX7 6) (by omega) f5_o rfl inX7 tyX7 tyX7_ok nmX7 (by decide) rfl rfl hnm rfl (tyX7_ok 6 (by decide)) rfl rfl (Nat.le_of_ble_eq_true rfl) m_2_81 dX7_init_25 ?_
  show GA _ _ _ _ _ _ _ _ _ _ _ _ _ _ _ (upE E5 o (.inr (7, [.int 0, .int 0, .int 0, .int 0, .ref (h0 + (n + 0)), .ref (h0 + (n + (0 + 1))), .ref (h0 + (n + ((0 + 1) + 1))), .null, .null, .null]))) _ _ _ _ _
  have f6_o : (upE E5 o (.inr (7, [.int 0, .int 0, .int 0, .int 0, .ref (h0 + (n + 0)), .ref (h0 + (n + (0 + 1))), .ref (h0 + (n + ((0 + 1) + 1))), .null, .null, .null]))) (o) = .inr (7, [.int 0, .int 0, .int 0, .int 0, .ref (h0 + (n + 0)), .ref (h0 + (n + (0 + 1))), .ref (h0 + (n + ((0 + 1) + 1))), .null, .null, .null]) := upE_s
  generalize hE6 : upE E5 o (.inr (7, [.int 0, .int 0, .int 0, .int 0, .ref (h0 + (n + 0)), .ref (h0 + (n + (0 + 1))), .ref (h0 + (n + ((0 + 1) + 1))), .null, .null, .null])) = E6 at f6_o ⊢
  refine a_aload X dX7_init_28 0 rfl rfl ?_
  refine a_bipush X (v := 6) dX7_init_29 (by decide) ?_
  refine a_newaI X 6 m_1_79 (by decide) (by decide) (Nat.le_of_ble_eq_true rfl) ⟨Nat.le_of_ble_eq_true rfl, Nat.le_of_ble_eq_true rfl⟩ dX7_init_31 ?_
  have f7_o : (upE E6 (n + (((0 + 1) + 1) + 1)) (.inl (cy 1, 6, .inl (fun _ => 0)))) (o) = .inr (7, [.int 0, .int 0, .int 0, .int 0, .ref (h0 + (n + 0)), .ref (h0 + (n + (0 + 1))), .ref (h0 + (n + ((0 + 1) + 1))), .null, .null, .null]) := (upE_n (by omega)).trans f6_o
  generalize hE7 : upE E6 (n + (((0 + 1) + 1) + 1)) (.inl (cy 1, 6, .inl (fun _ => 0))) = E7 at f7_o ⊢
  refine a_putF X (ci := 7) (i := 7) (C := RX7) (T := TX7) (N := 10) (ty := tyX7 7) (by omega) f7_o rfl inX7 tyX7 tyX7_ok nmX7 (by decide) rfl rfl hnm rfl (tyX7_ok 7 (by decide)) rfl rfl (Nat.le_of_ble_eq_true rfl) m_2_82 dX7_init_33 ?_
  show GA _ _ _ _ _ _ _ _ _ _ _ _ _ _ _ (upE E7 o (.inr (7, [.int 0, .int 0, .int 0, .int 0, .ref (h0 + (n + 0)), .ref (h0 + (n + (0 + 1))), .ref (h0 + (n + ((0 + 1) + 1))), .ref (h0 + (n + (((0 + 1) + 1) + 1))), .null, .null]))) _ _ _ _ _
  have f8_o : (upE E7 o (.inr (7, [.int 0, .int 0, .int 0, .int 0, .ref (h0 + (n + 0)), .ref (h0 + (n + (0 + 1))), .ref (h0 + (n + ((0 + 1) + 1))), .ref (h0 + (n + (((0 + 1) + 1) + 1))), .null, .null]))) (o) = .inr (7, [.int 0, .int 0, .int 0, .int 0, .ref (h0 + (n + 0)), .ref (h0 + (n + (0 + 1))), .ref (h0 + (n + ((0 + 1) + 1))), .ref (h0 + (n + (((0 + 1) + 1) + 1))), .null, .null]) := upE_s
  generalize hE8 : upE E7 o (.inr (7, [.int 0, .int 0, .int 0, .int 0, .ref (h0 + (n + 0)), .ref (h0 + (n + (0 + 1))), .ref (h0 + (n + ((0 + 1) + 1))), .ref (h0 + (n + (((0 + 1) + 1) + 1))), .null, .null])) = E8 at f8_o ⊢
  refine a_aload X dX7_init_36 0 rfl rfl ?_
  refine a_bipush X (v := 6) dX7_init_37 (by decide) ?_
  refine a_newaI X 6 m_1_79 (by decide) (by decide) (Nat.le_of_ble_eq_true rfl) ⟨Nat.le_of_ble_eq_true rfl, Nat.le_of_ble_eq_true rfl⟩ dX7_init_39 ?_
  have f9_o : (upE E8 (n + ((((0 + 1) + 1) + 1) + 1)) (.inl (cy 1, 6, .inl (fun _ => 0)))) (o) = .inr (7, [.int 0, .int 0, .int 0, .int 0, .ref (h0 + (n + 0)), .ref (h0 + (n + (0 + 1))), .ref (h0 + (n + ((0 + 1) + 1))), .ref (h0 + (n + (((0 + 1) + 1) + 1))), .null, .null]) := (upE_n (by omega)).trans f8_o
  generalize hE9 : upE E8 (n + ((((0 + 1) + 1) + 1) + 1)) (.inl (cy 1, 6, .inl (fun _ => 0))) = E9 at f9_o ⊢
  refine a_putF X (ci := 7) (i := 8) (C := RX7) (T := TX7) (N := 10) (ty := tyX7 8) (by omega) f9_o rfl inX7 tyX7 tyX7_ok nmX7 (by decide) rfl rfl hnm rfl (tyX7_ok 8 (by decide)) rfl rfl (Nat.le_of_ble_eq_true rfl) m_2_83 dX7_init_41 ?_
  show GA _ _ _ _ _ _ _ _ _ _ _ _ _ _ _ (upE E9 o (.inr (7, [.int 0, .int 0, .int 0, .int 0, .ref (h0 + (n + 0)), .ref (h0 + (n + (0 + 1))), .ref (h0 + (n + ((0 + 1) + 1))), .ref (h0 + (n + (((0 + 1) + 1) + 1))), .ref (h0 + (n + ((((0 + 1) + 1) + 1) + 1))), .null]))) _ _ _ _ _
  have f10_o : (upE E9 o (.inr (7, [.int 0, .int 0, .int 0, .int 0, .ref (h0 + (n + 0)), .ref (h0 + (n + (0 + 1))), .ref (h0 + (n + ((0 + 1) + 1))), .ref (h0 + (n + (((0 + 1) + 1) + 1))), .ref (h0 + (n + ((((0 + 1) + 1) + 1) + 1))), .null]))) (o) = .inr (7, [.int 0, .int 0, .int 0, .int 0, .ref (h0 + (n + 0)), .ref (h0 + (n + (0 + 1))), .ref (h0 + (n + ((0 + 1) + 1))), .ref (h0 + (n + (((0 + 1) + 1) + 1))), .ref (h0 + (n + ((((0 + 1) + 1) + 1) + 1))), .null]) := upE_s
  generalize hE10 : upE E9 o (.inr (7, [.int 0, .int 0, .int 0, .int 0, .ref (h0 + (n + 0)), .ref (h0 + (n + (0 + 1))), .ref (h0 + (n + ((0 + 1) + 1))), .ref (h0 + (n + (((0 + 1) + 1) + 1))), .ref (h0 + (n + ((((0 + 1) + 1) + 1) + 1))), .null])) = E10 at f10_o ⊢
  refine a_aload X dX7_init_44 0 rfl rfl ?_
  refine a_bipush X (v := 6) dX7_init_45 (by decide) ?_
  refine a_newaI X 6 m_1_79 (by decide) (by decide) (Nat.le_of_ble_eq_true rfl) ⟨Nat.le_of_ble_eq_true rfl, Nat.le_of_ble_eq_true rfl⟩ dX7_init_47 ?_
  have f11_o : (upE E10 (n + (((((0 + 1) + 1) + 1) + 1) + 1)) (.inl (cy 1, 6, .inl (fun _ => 0)))) (o) = .inr (7, [.int 0, .int 0, .int 0, .int 0, .ref (h0 + (n + 0)), .ref (h0 + (n + (0 + 1))), .ref (h0 + (n + ((0 + 1) + 1))), .ref (h0 + (n + (((0 + 1) + 1) + 1))), .ref (h0 + (n + ((((0 + 1) + 1) + 1) + 1))), .null]) := (upE_n (by omega)).trans f10_o
  generalize hE11 : upE E10 (n + (((((0 + 1) + 1) + 1) + 1) + 1)) (.inl (cy 1, 6, .inl (fun _ => 0))) = E11 at f11_o ⊢
  refine a_putF X (ci := 7) (i := 9) (C := RX7) (T := TX7) (N := 10) (ty := tyX7 9) (by omega) f11_o rfl inX7 tyX7 tyX7_ok nmX7 (by decide) rfl rfl hnm rfl (tyX7_ok 9 (by decide)) rfl rfl (Nat.le_of_ble_eq_true rfl) m_2_84 dX7_init_49 ?_
  show GA _ _ _ _ _ _ _ _ _ _ _ _ _ _ _ (upE E11 o (.inr (7, [.int 0, .int 0, .int 0, .int 0, .ref (h0 + (n + 0)), .ref (h0 + (n + (0 + 1))), .ref (h0 + (n + ((0 + 1) + 1))), .ref (h0 + (n + (((0 + 1) + 1) + 1))), .ref (h0 + (n + ((((0 + 1) + 1) + 1) + 1))), .ref (h0 + (n + (((((0 + 1) + 1) + 1) + 1) + 1)))]))) _ _ _ _ _
  have f12_o : (upE E11 o (.inr (7, [.int 0, .int 0, .int 0, .int 0, .ref (h0 + (n + 0)), .ref (h0 + (n + (0 + 1))), .ref (h0 + (n + ((0 + 1) + 1))), .ref (h0 + (n + (((0 + 1) + 1) + 1))), .ref (h0 + (n + ((((0 + 1) + 1) + 1) + 1))), .ref (h0 + (n + (((((0 + 1) + 1) + 1) + 1) + 1)))]))) (o) = .inr (7, [.int 0, .int 0, .int 0, .int 0, .ref (h0 + (n + 0)), .ref (h0 + (n + (0 + 1))), .ref (h0 + (n + ((0 + 1) + 1))), .ref (h0 + (n + (((0 + 1) + 1) + 1))), .ref (h0 + (n + ((((0 + 1) + 1) + 1) + 1))), .ref (h0 + (n + (((((0 + 1) + 1) + 1) + 1) + 1)))]) := upE_s
  generalize hE12 : upE E11 o (.inr (7, [.int 0, .int 0, .int 0, .int 0, .ref (h0 + (n + 0)), .ref (h0 + (n + (0 + 1))), .ref (h0 + (n + ((0 + 1) + 1))), .ref (h0 + (n + (((0 + 1) + 1) + 1))), .ref (h0 + (n + ((((0 + 1) + 1) + 1) + 1))), .ref (h0 + (n + (((((0 + 1) + 1) + 1) + 1) + 1)))])) = E12 at f12_o ⊢
  exact a_ret X hr rfl rfl (by rw [← hE12, ← hE11, ← hE10, ← hE9, ← hE8, ← hE7, ← hE6, ← hE5, ← hE4, ← hE3, ← hE2, ← hE1]; rfl) dX7_init_52
def e8 (cy : Nat → ClassId) (h0 : Nat) (E : Nat → va_E) (o n : Nat) : Nat → va_E := upE (upE (upE (upE (E) (n + 0) (.inl (cy 1, 20, .inl (fun _ => 0)))) o (.inr (8, [.ref (h0 + (n + 0)), .null, .int 0]))) (n + (0 + 1)) (.inl (cy 1, 20, .inl (fun _ => 0)))) o (.inr (8, [.ref (h0 + (n + 0)), .ref (h0 + (n + (0 + 1))), .int 0]))
theorem e8_n {cy : Nat → ClassId} {h0 : Nat} {E : Nat → va_E} {o n j : Nat} (h1 : j ≠ o) (h2 : j < n) : e8 cy h0 E o n j = E j := by
  unfold e8 upE
  repeat rw [if_neg (by omega)]
set_option maxRecDepth 100000 in
set_option maxHeartbeats 4000000 in
theorem c_8 {l : Launch} {D : va_G} {cy : Nat → ClassId} {h0 b0 n o : Nat} {E : Nat → va_E} (ho : o < n) (he : E o = .inr (8, [.null, .null, .int 0])) : MA l D cy h0 b0 yX8_init cX8_init 1 1 2 40 [.ref (h0 + o)] n E (e8 cy h0 E o n) := by
  refine met_ofA (lv0 := [(0, .ref (h0 + o))]) (by decide) (Nat.le_of_ble_eq_true rfl) rfl (fun p e s m args below meth c X hr hnm => ?_)
  refine a_aload X dX8_init_0 0 rfl rfl ?_
  refine a_obj X m_2_12 ⟨Nat.le_of_ble_eq_true rfl, Nat.le_of_ble_eq_true rfl⟩ dX8_init_1 ?_
  refine a_aload X dX8_init_4 0 rfl rfl ?_
  refine a_bipush X (v := 20) dX8_init_5 (by decide) ?_
  refine a_newaI X 20 m_1_79 (by decide) (by decide) (Nat.le_of_ble_eq_true rfl) ⟨Nat.le_of_ble_eq_true rfl, Nat.le_of_ble_eq_true rfl⟩ dX8_init_7 ?_
  have f1_o : (upE E (n + 0) (.inl (cy 1, 20, .inl (fun _ => 0)))) (o) = .inr (8, [.null, .null, .int 0]) := (upE_n (by omega)).trans he
  generalize hE1 : upE E (n + 0) (.inl (cy 1, 20, .inl (fun _ => 0))) = E1 at f1_o ⊢
  refine a_putF X (ci := 8) (i := 0) (C := RX8) (T := TX8) (N := 3) (ty := tyX8 0) (by omega) f1_o rfl inX8 tyX8 tyX8_ok nmX8 (by decide) rfl rfl hnm rfl (tyX8_ok 0 (by decide)) rfl rfl (Nat.le_of_ble_eq_true rfl) m_2_13 dX8_init_9 ?_
  show GA _ _ _ _ _ _ _ _ _ _ _ _ _ _ _ (upE E1 o (.inr (8, [.ref (h0 + (n + 0)), .null, .int 0]))) _ _ _ _ _
  have f2_o : (upE E1 o (.inr (8, [.ref (h0 + (n + 0)), .null, .int 0]))) (o) = .inr (8, [.ref (h0 + (n + 0)), .null, .int 0]) := upE_s
  generalize hE2 : upE E1 o (.inr (8, [.ref (h0 + (n + 0)), .null, .int 0])) = E2 at f2_o ⊢
  refine a_aload X dX8_init_12 0 rfl rfl ?_
  refine a_bipush X (v := 20) dX8_init_13 (by decide) ?_
  refine a_newaI X 20 m_1_79 (by decide) (by decide) (Nat.le_of_ble_eq_true rfl) ⟨Nat.le_of_ble_eq_true rfl, Nat.le_of_ble_eq_true rfl⟩ dX8_init_15 ?_
  have f3_o : (upE E2 (n + (0 + 1)) (.inl (cy 1, 20, .inl (fun _ => 0)))) (o) = .inr (8, [.ref (h0 + (n + 0)), .null, .int 0]) := (upE_n (by omega)).trans f2_o
  generalize hE3 : upE E2 (n + (0 + 1)) (.inl (cy 1, 20, .inl (fun _ => 0))) = E3 at f3_o ⊢
  refine a_putF X (ci := 8) (i := 1) (C := RX8) (T := TX8) (N := 3) (ty := tyX8 1) (by omega) f3_o rfl inX8 tyX8 tyX8_ok nmX8 (by decide) rfl rfl hnm rfl (tyX8_ok 1 (by decide)) rfl rfl (Nat.le_of_ble_eq_true rfl) m_2_16 dX8_init_17 ?_
  show GA _ _ _ _ _ _ _ _ _ _ _ _ _ _ _ (upE E3 o (.inr (8, [.ref (h0 + (n + 0)), .ref (h0 + (n + (0 + 1))), .int 0]))) _ _ _ _ _
  have f4_o : (upE E3 o (.inr (8, [.ref (h0 + (n + 0)), .ref (h0 + (n + (0 + 1))), .int 0]))) (o) = .inr (8, [.ref (h0 + (n + 0)), .ref (h0 + (n + (0 + 1))), .int 0]) := upE_s
  generalize hE4 : upE E3 o (.inr (8, [.ref (h0 + (n + 0)), .ref (h0 + (n + (0 + 1))), .int 0])) = E4 at f4_o ⊢
  exact a_ret X hr rfl rfl (by rw [← hE4, ← hE3, ← hE2, ← hE1]; rfl) dX8_init_20
def e9 (cy : Nat → ClassId) (h0 : Nat) (E : Nat → va_E) (o n : Nat) : Nat → va_E := upE (upE (upE (E) o (.inr (9, [.int (-1), .null, .int 0, .int 0, .int 0, .int 0, .int 0, .int 0]))) (n + 0) (.inl (cy 1, 20, .inl (fun _ => 0)))) o (.inr (9, [.int (-1), .ref (h0 + (n + 0)), .int 0, .int 0, .int 0, .int 0, .int 0, .int 0]))
theorem e9_n {cy : Nat → ClassId} {h0 : Nat} {E : Nat → va_E} {o n j : Nat} (h1 : j ≠ o) (h2 : j < n) : e9 cy h0 E o n j = E j := by
  unfold e9 upE
  repeat rw [if_neg (by omega)]
set_option maxRecDepth 100000 in
set_option maxHeartbeats 4000000 in
theorem c_9 {l : Launch} {D : va_G} {cy : Nat → ClassId} {h0 b0 n o : Nat} {E : Nat → va_E} (ho : o < n) (he : E o = .inr (9, [.int 0, .null, .int 0, .int 0, .int 0, .int 0, .int 0, .int 0])) : MA l D cy h0 b0 yX9_init cX9_init 1 1 1 20 [.ref (h0 + o)] n E (e9 cy h0 E o n) := by
  refine met_ofA (lv0 := [(0, .ref (h0 + o))]) (by decide) (Nat.le_of_ble_eq_true rfl) rfl (fun p e s m args below meth c X hr hnm => ?_)
  refine a_aload X dX9_init_0 0 rfl rfl ?_
  refine a_obj X m_1_87 ⟨Nat.le_of_ble_eq_true rfl, Nat.le_of_ble_eq_true rfl⟩ dX9_init_1 ?_
  refine a_aload X dX9_init_4 0 rfl rfl ?_
  refine a_iconst X (v := -1) dX9_init_5 (by decide) ?_
  refine a_put X (ci := 9) (i := 0) (C := RX9) (T := TX9) (N := 8) (ty := tyX9 0) (by omega) he rfl inX9 tyX9 tyX9_ok nmX9 (by decide) rfl rfl (tyX9_ok 0 (by decide)) rfl rfl (Nat.le_of_ble_eq_true rfl) m_1_88 dX9_init_6 ?_
  show GA _ _ _ _ _ _ _ _ _ _ _ _ _ _ _ (upE E o (.inr (9, [.int (-1), .null, .int 0, .int 0, .int 0, .int 0, .int 0, .int 0]))) _ _ _ _ _
  have f1_o : (upE E o (.inr (9, [.int (-1), .null, .int 0, .int 0, .int 0, .int 0, .int 0, .int 0]))) (o) = .inr (9, [.int (-1), .null, .int 0, .int 0, .int 0, .int 0, .int 0, .int 0]) := upE_s
  generalize hE1 : upE E o (.inr (9, [.int (-1), .null, .int 0, .int 0, .int 0, .int 0, .int 0, .int 0])) = E1 at f1_o ⊢
  refine a_aload X dX9_init_9 0 rfl rfl ?_
  refine a_bipush X (v := 20) dX9_init_10 (by decide) ?_
  refine a_newaI X 20 m_1_79 (by decide) (by decide) (Nat.le_of_ble_eq_true rfl) ⟨Nat.le_of_ble_eq_true rfl, Nat.le_of_ble_eq_true rfl⟩ dX9_init_12 ?_
  have f2_o : (upE E1 (n + 0) (.inl (cy 1, 20, .inl (fun _ => 0)))) (o) = .inr (9, [.int (-1), .null, .int 0, .int 0, .int 0, .int 0, .int 0, .int 0]) := (upE_n (by omega)).trans f1_o
  generalize hE2 : upE E1 (n + 0) (.inl (cy 1, 20, .inl (fun _ => 0))) = E2 at f2_o ⊢
  refine a_putF X (ci := 9) (i := 1) (C := RX9) (T := TX9) (N := 8) (ty := tyX9 1) (by omega) f2_o rfl inX9 tyX9 tyX9_ok nmX9 (by decide) rfl rfl hnm rfl (tyX9_ok 1 (by decide)) rfl rfl (Nat.le_of_ble_eq_true rfl) m_1_91 dX9_init_14 ?_
  show GA _ _ _ _ _ _ _ _ _ _ _ _ _ _ _ (upE E2 o (.inr (9, [.int (-1), .ref (h0 + (n + 0)), .int 0, .int 0, .int 0, .int 0, .int 0, .int 0]))) _ _ _ _ _
  have f3_o : (upE E2 o (.inr (9, [.int (-1), .ref (h0 + (n + 0)), .int 0, .int 0, .int 0, .int 0, .int 0, .int 0]))) (o) = .inr (9, [.int (-1), .ref (h0 + (n + 0)), .int 0, .int 0, .int 0, .int 0, .int 0, .int 0]) := upE_s
  generalize hE3 : upE E2 o (.inr (9, [.int (-1), .ref (h0 + (n + 0)), .int 0, .int 0, .int 0, .int 0, .int 0, .int 0])) = E3 at f3_o ⊢
  exact a_ret X hr rfl rfl (by rw [← hE3, ← hE2, ← hE1]; rfl) dX9_init_17
