theorem fr_0 : ∀ j, j < 5 → defaultValue (tyX0 j) = vp_V [.int 0, .int 0, .int 0, .int 0, .int 0] j := by
  intro j hj
  rcases (show j = 0 ∨ j = 1 ∨ j = 2 ∨ j = 3 ∨ j = 4 by omega) with rfl | rfl | rfl | rfl | rfl
  all_goals rfl
theorem fr_1 : ∀ j, j < 16 → defaultValue (tyX1 j) = vp_V [.null, .int 0, .null, .int 0, .int 0, .null, .int 0, .null, .null, .int 0, .null, .int 0, .int 0, .int 0, .int 0, .null] j := by
  intro j hj
  rcases (show j = 0 ∨ j = 1 ∨ j = 2 ∨ j = 3 ∨ j = 4 ∨ j = 5 ∨ j = 6 ∨ j = 7 ∨ j = 8 ∨ j = 9 ∨ j = 10 ∨ j = 11 ∨ j = 12 ∨ j = 13 ∨ j = 14 ∨ j = 15 by omega) with rfl | rfl | rfl | rfl | rfl | rfl | rfl | rfl | rfl | rfl | rfl | rfl | rfl | rfl | rfl | rfl
  all_goals rfl
theorem fr_2 : ∀ j, j < 1 → defaultValue (tyX2 j) = vp_V [.null] j := by
  intro j hj
  rcases (show j = 0 by omega) with rfl
  all_goals rfl
theorem fr_3 : ∀ j, j < 3 → defaultValue (tyX3 j) = vp_V [.int 0, .int 0, .int 0] j := by
  intro j hj
  rcases (show j = 0 ∨ j = 1 ∨ j = 2 by omega) with rfl | rfl | rfl
  all_goals rfl
theorem fr_4 : ∀ j, j < 10 → defaultValue (tyX4 j) = vp_V [.null, .int 0, .int 0, .null, .int 0, .int 0, .int 0, .null, .null, .null] j := by
  intro j hj
  rcases (show j = 0 ∨ j = 1 ∨ j = 2 ∨ j = 3 ∨ j = 4 ∨ j = 5 ∨ j = 6 ∨ j = 7 ∨ j = 8 ∨ j = 9 by omega) with rfl | rfl | rfl | rfl | rfl | rfl | rfl | rfl | rfl | rfl
  all_goals rfl
theorem fr_5 : ∀ j, j < 4 → defaultValue (tyX5 j) = vp_V [.int 0, .int 0, .int 0, .null] j := by
  intro j hj
  rcases (show j = 0 ∨ j = 1 ∨ j = 2 ∨ j = 3 by omega) with rfl | rfl | rfl | rfl
  all_goals rfl
theorem fr_6 : ∀ j, j < 3 → defaultValue (tyX6 j) = vp_V [.null, .int 0, .int 0] j := by
  intro j hj
  rcases (show j = 0 ∨ j = 1 ∨ j = 2 by omega) with rfl | rfl | rfl
  all_goals rfl
theorem fr_7 : ∀ j, j < 10 → defaultValue (tyX7 j) = vp_V [.int 0, .int 0, .int 0, .int 0, .null, .null, .null, .null, .null, .null] j := by
  intro j hj
  rcases (show j = 0 ∨ j = 1 ∨ j = 2 ∨ j = 3 ∨ j = 4 ∨ j = 5 ∨ j = 6 ∨ j = 7 ∨ j = 8 ∨ j = 9 by omega) with rfl | rfl | rfl | rfl | rfl | rfl | rfl | rfl | rfl | rfl
  all_goals rfl
theorem fr_8 : ∀ j, j < 3 → defaultValue (tyX8 j) = vp_V [.null, .null, .int 0] j := by
  intro j hj
  rcases (show j = 0 ∨ j = 1 ∨ j = 2 by omega) with rfl | rfl | rfl
  all_goals rfl
theorem fr_9 : ∀ j, j < 8 → defaultValue (tyX9 j) = vp_V [.int 0, .null, .int 0, .int 0, .int 0, .int 0, .int 0, .int 0] j := by
  intro j hj
  rcases (show j = 0 ∨ j = 1 ∨ j = 2 ∨ j = 3 ∨ j = 4 ∨ j = 5 ∨ j = 6 ∨ j = 7 by omega) with rfl | rfl | rfl | rfl | rfl | rfl | rfl | rfl
  all_goals rfl
theorem fr_10 : ∀ j, j < 11 → defaultValue (tyX10 j) = vp_V [.null, .null, .null, .null, .int 0, .null, .null, .null, .null, .null, .null] j := by
  intro j hj
  rcases (show j = 0 ∨ j = 1 ∨ j = 2 ∨ j = 3 ∨ j = 4 ∨ j = 5 ∨ j = 6 ∨ j = 7 ∨ j = 8 ∨ j = 9 ∨ j = 10 by omega) with rfl | rfl | rfl | rfl | rfl | rfl | rfl | rfl | rfl | rfl | rfl
  all_goals rfl
theorem fr_11 : ∀ j, j < 28 → defaultValue (tyX11 j) = vp_V [.null, .null, .null, .null, .null, .null, .null, .null, .int 0, .null, .null, .null, .null, .null, .null, .null, .null, .null, .null, .null, .null, .int 0, .null, .null, .null, .null, .null, .null] j := by
  intro j hj
  rcases (show j = 0 ∨ j = 1 ∨ j = 2 ∨ j = 3 ∨ j = 4 ∨ j = 5 ∨ j = 6 ∨ j = 7 ∨ j = 8 ∨ j = 9 ∨ j = 10 ∨ j = 11 ∨ j = 12 ∨ j = 13 ∨ j = 14 ∨ j = 15 ∨ j = 16 ∨ j = 17 ∨ j = 18 ∨ j = 19 ∨ j = 20 ∨ j = 21 ∨ j = 22 ∨ j = 23 ∨ j = 24 ∨ j = 25 ∨ j = 26 ∨ j = 27 by omega) with rfl | rfl | rfl | rfl | rfl | rfl | rfl | rfl | rfl | rfl | rfl | rfl | rfl | rfl | rfl | rfl | rfl | rfl | rfl | rfl | rfl | rfl | rfl | rfl | rfl | rfl | rfl | rfl
  all_goals rfl
theorem wi_0 : CI yX0_init cX0_init 1 := ⟨⟨m_1_106, m_1_5, m_1_107⟩, ⟨by decide, by decide⟩, by decide +kernel, rfl⟩
theorem wi_1 : CI yX1_init cX1_init 2 := ⟨⟨m_1_51, m_1_3, m_1_52⟩, ⟨by decide, by decide⟩, by decide +kernel, rfl⟩
theorem wi_2 : CI yX2_init cX2_init 1 := ⟨⟨m_1_136, m_1_6, m_1_137⟩, ⟨by decide, by decide⟩, by decide +kernel, rfl⟩
theorem wi_3 : CI yX3_init cX3_init 1 := ⟨⟨m_1_157, m_1_8, m_1_158⟩, ⟨by decide, by decide⟩, by decide +kernel, rfl⟩
theorem wi_4 : CI yX4_init cX4_init 1 := ⟨⟨m_2_27, m_1_10, m_2_28⟩, ⟨by decide, by decide⟩, by decide +kernel, rfl⟩
theorem wi_5 : CI yX5_init cX5_init 1 := ⟨⟨m_2_105, m_1_12, m_2_106⟩, ⟨by decide, by decide⟩, by decide +kernel, rfl⟩
theorem wi_6 : CI yX6_init cX6_init 1 := ⟨⟨m_1_33, m_1_2, m_1_34⟩, ⟨by decide, by decide⟩, by decide +kernel, rfl⟩
theorem wi_7 : CI yX7_init cX7_init 1 := ⟨⟨m_2_68, m_1_11, m_2_69⟩, ⟨by decide, by decide⟩, by decide +kernel, rfl⟩
theorem wi_8 : CI yX8_init cX8_init 1 := ⟨⟨m_2_7, m_1_9, m_2_8⟩, ⟨by decide, by decide⟩, by decide +kernel, rfl⟩
theorem wi_9 : CI yX9_init cX9_init 1 := ⟨⟨m_1_63, m_1_4, m_1_64⟩, ⟨by decide, by decide⟩, by decide +kernel, rfl⟩
theorem wi_10 : CI yX10_init cX10_init 2 := ⟨⟨m_1_23, m_1_1, m_1_24⟩, ⟨by decide, by decide⟩, by decide +kernel, rfl⟩
theorem wi_11 : CI yX11_init cX11_init 2 := ⟨⟨m_5_54, m_1_13, m_5_55⟩, ⟨by decide, by decide⟩, by decide +kernel, rfl⟩
theorem upE2 {E : Nat → va_E} {i : Nat} {v w : va_E} : upE (upE E i v) i w = upE E i w := by
  funext j
  unfold upE
  split <;> rfl
theorem upEc {E : Nat → va_E} {i k : Nat} {v w : va_E} (h : i ≠ k) : upE (upE E i v) k w = upE (upE E k w) i v := by
  funext j
  unfold upE
  split
  · rw [if_neg (by omega)]
  · rfl
def blk (E : Nat → va_E) (lo hi : Nat) (g : Nat → va_E) : Nat → va_E := fun i => if lo ≤ i ∧ i < hi then g i else E i
theorem blk_n {E : Nat → va_E} {lo hi i : Nat} {g : Nat → va_E} (h : ¬ (lo ≤ i ∧ i < hi)) : blk E lo hi g i = E i := if_neg h
theorem blk_y {E : Nat → va_E} {lo hi i : Nat} {g : Nat → va_E} (h : lo ≤ i ∧ i < hi) : blk E lo hi g i = g i := if_pos h
set_option maxRecDepth 100000 in
set_option maxHeartbeats 4000000 in
theorem c_0 {l : Launch} {D : va_G} {cy : Nat → ClassId} {h0 b0 n o : Nat} {E : Nat → va_E} (ho : o < n) (he : E o = .inr (0, [.int 0, .int 0, .int 0, .int 0, .int 0])) : MA l D cy h0 b0 yX0_init cX0_init 1 1 0 0 [.ref (h0 + o)] n E E := by
  refine met_ofA (lv0 := [(0, .ref (h0 + o))]) (by decide) (Nat.le_of_ble_eq_true rfl) rfl (fun p e s m args below meth c X hr hnm => ?_)
  refine a_aload X dX0_init_0 0 rfl rfl ?_
  refine a_obj X m_1_108 ⟨Nat.le_of_ble_eq_true rfl, Nat.le_of_ble_eq_true rfl⟩ dX0_init_1 ?_
  exact a_ret X hr rfl rfl rfl dX0_init_4
set_option maxRecDepth 100000 in
set_option maxHeartbeats 4000000 in
theorem c_3 {l : Launch} {D : va_G} {cy : Nat → ClassId} {h0 b0 n o : Nat} {E : Nat → va_E} (ho : o < n) (he : E o = .inr (3, [.int 0, .int 0, .int 0])) : MA l D cy h0 b0 yX3_init cX3_init 1 1 0 0 [.ref (h0 + o)] n E E := by
  refine met_ofA (lv0 := [(0, .ref (h0 + o))]) (by decide) (Nat.le_of_ble_eq_true rfl) rfl (fun p e s m args below meth c X hr hnm => ?_)
  refine a_aload X dX3_init_0 0 rfl rfl ?_
  refine a_obj X m_1_159 ⟨Nat.le_of_ble_eq_true rfl, Nat.le_of_ble_eq_true rfl⟩ dX3_init_1 ?_
  exact a_ret X hr rfl rfl rfl dX3_init_4
def e4 (cy : Nat → ClassId) (h0 : Nat) (E : Nat → va_E) (o n : Nat) : Nat → va_E := upE (upE (upE (upE (upE (upE (upE (upE (E) (n + 0) (.inl (cy 1, 6, .inl (fun _ => 0)))) o (.inr (4, [.ref (h0 + (n + 0)), .int 0, .int 0, .null, .int 0, .int 0, .int 0, .null, .null, .null]))) (n + 1) (.inl (cy 1, 6, .inl (fun _ => 0)))) o (.inr (4, [.ref (h0 + (n + 0)), .int 0, .int 0, .null, .int 0, .int 0, .int 0, .ref (h0 + (n + 1)), .null, .null]))) (n + 2) (.inl (cy 3, 6, .inl (fun _ => 0)))) o (.inr (4, [.ref (h0 + (n + 0)), .int 0, .int 0, .null, .int 0, .int 0, .int 0, .ref (h0 + (n + 1)), .ref (h0 + (n + 2)), .null]))) (n + 3) (.inl (cy 1, 6, .inl (fun _ => 0)))) o (.inr (4, [.ref (h0 + (n + 0)), .int 0, .int 0, .null, .int 0, .int 0, .int 0, .ref (h0 + (n + 1)), .ref (h0 + (n + 2)), .ref (h0 + (n + 3))]))
theorem e4_n {cy : Nat → ClassId} {h0 : Nat} {E : Nat → va_E} {o n j : Nat} (h1 : j ≠ o) (h2 : j < n) : e4 cy h0 E o n j = E j := by
  unfold e4 upE
  repeat rw [if_neg (by omega)]
set_option maxRecDepth 100000 in
set_option maxHeartbeats 4000000 in
theorem c_4 {l : Launch} {D : va_G} {cy : Nat → ClassId} {h0 b0 n o : Nat} {E : Nat → va_E} (ho : o < n) (he : E o = .inr (4, [.null, .int 0, .int 0, .null, .int 0, .int 0, .int 0, .null, .null, .null])) : MA l D cy h0 b0 yX4_init cX4_init 1 1 4 24 [.ref (h0 + o)] n E (e4 cy h0 E o n) := by
  refine met_ofA (lv0 := [(0, .ref (h0 + o))]) (by decide) (Nat.le_of_ble_eq_true rfl) rfl (fun p e s m args below meth c X hr hnm => ?_)
  refine a_aload X dX4_init_0 0 rfl rfl ?_
  refine a_obj X m_2_29 ⟨Nat.le_of_ble_eq_true rfl, Nat.le_of_ble_eq_true rfl⟩ dX4_init_1 ?_
  refine a_aload X dX4_init_4 0 rfl rfl ?_
  refine a_bipush X (v := 6) dX4_init_5 (by decide) ?_
  refine a_newaI X 6 m_1_103 (by decide) (by decide) (Nat.le_of_ble_eq_true rfl) ⟨Nat.le_of_ble_eq_true rfl, Nat.le_of_ble_eq_true rfl⟩ dX4_init_7 ?_
  show GA _ _ _ _ _ _ _ _ _ _ _ _ _ _ _ (upE E (n + 0) (.inl (cy 1, 6, .inl (fun _ => 0)))) 1 6 _ _ _
  have f1_o : (upE E (n + 0) (.inl (cy 1, 6, .inl (fun _ => 0)))) (o) = .inr (4, [.null, .int 0, .int 0, .null, .int 0, .int 0, .int 0, .null, .null, .null]) := (upE_n (by omega)).trans he
  generalize hE1 : upE E (n + 0) (.inl (cy 1, 6, .inl (fun _ => 0))) = E1 at f1_o ⊢
  refine a_putF X (ci := 4) (i := 0) (C := RX4) (T := TX4) (N := 10) (ty := tyX4 0) (by omega) f1_o rfl inX4 tyX4 tyX4_ok nmX4 (by decide) rfl rfl hnm rfl (tyX4_ok 0 (by decide)) rfl rfl (Nat.le_of_ble_eq_true rfl) m_2_30 dX4_init_9 ?_
  show GA _ _ _ _ _ _ _ _ _ _ _ _ _ _ _ (upE E1 o (.inr (4, [.ref (h0 + (n + 0)), .int 0, .int 0, .null, .int 0, .int 0, .int 0, .null, .null, .null]))) _ _ _ _ _
  have f2_o : (upE E1 o (.inr (4, [.ref (h0 + (n + 0)), .int 0, .int 0, .null, .int 0, .int 0, .int 0, .null, .null, .null]))) (o) = .inr (4, [.ref (h0 + (n + 0)), .int 0, .int 0, .null, .int 0, .int 0, .int 0, .null, .null, .null]) := upE_s
  generalize hE2 : upE E1 o (.inr (4, [.ref (h0 + (n + 0)), .int 0, .int 0, .null, .int 0, .int 0, .int 0, .null, .null, .null])) = E2 at f2_o ⊢
  clear f1_o
  refine a_aload X dX4_init_12 0 rfl rfl ?_
  refine a_bipush X (v := 6) dX4_init_13 (by decide) ?_
  refine a_newaI X 6 m_1_103 (by decide) (by decide) (Nat.le_of_ble_eq_true rfl) ⟨Nat.le_of_ble_eq_true rfl, Nat.le_of_ble_eq_true rfl⟩ dX4_init_15 ?_
  show GA _ _ _ _ _ _ _ _ _ _ _ _ _ _ _ (upE E2 (n + 1) (.inl (cy 1, 6, .inl (fun _ => 0)))) 2 12 _ _ _
  have f3_o : (upE E2 (n + 1) (.inl (cy 1, 6, .inl (fun _ => 0)))) (o) = .inr (4, [.ref (h0 + (n + 0)), .int 0, .int 0, .null, .int 0, .int 0, .int 0, .null, .null, .null]) := (upE_n (by omega)).trans f2_o
  generalize hE3 : upE E2 (n + 1) (.inl (cy 1, 6, .inl (fun _ => 0))) = E3 at f3_o ⊢
  clear f2_o
  refine a_putF X (ci := 4) (i := 7) (C := RX4) (T := TX4) (N := 10) (ty := tyX4 7) (by omega) f3_o rfl inX4 tyX4 tyX4_ok nmX4 (by decide) rfl rfl hnm rfl (tyX4_ok 7 (by decide)) rfl rfl (Nat.le_of_ble_eq_true rfl) m_2_40 dX4_init_17 ?_
  show GA _ _ _ _ _ _ _ _ _ _ _ _ _ _ _ (upE E3 o (.inr (4, [.ref (h0 + (n + 0)), .int 0, .int 0, .null, .int 0, .int 0, .int 0, .ref (h0 + (n + 1)), .null, .null]))) _ _ _ _ _
  have f4_o : (upE E3 o (.inr (4, [.ref (h0 + (n + 0)), .int 0, .int 0, .null, .int 0, .int 0, .int 0, .ref (h0 + (n + 1)), .null, .null]))) (o) = .inr (4, [.ref (h0 + (n + 0)), .int 0, .int 0, .null, .int 0, .int 0, .int 0, .ref (h0 + (n + 1)), .null, .null]) := upE_s
  generalize hE4 : upE E3 o (.inr (4, [.ref (h0 + (n + 0)), .int 0, .int 0, .null, .int 0, .int 0, .int 0, .ref (h0 + (n + 1)), .null, .null])) = E4 at f4_o ⊢
  clear f3_o
  refine a_aload X dX4_init_20 0 rfl rfl ?_
  refine a_bipush X (v := 6) dX4_init_21 (by decide) ?_
  refine a_newaZ X 6 m_2_64 (by decide) (by decide) (Nat.le_of_ble_eq_true rfl) ⟨Nat.le_of_ble_eq_true rfl, Nat.le_of_ble_eq_true rfl⟩ dX4_init_23 ?_
  show GA _ _ _ _ _ _ _ _ _ _ _ _ _ _ _ (upE E4 (n + 2) (.inl (cy 3, 6, .inl (fun _ => 0)))) 3 18 _ _ _
  have f5_o : (upE E4 (n + 2) (.inl (cy 3, 6, .inl (fun _ => 0)))) (o) = .inr (4, [.ref (h0 + (n + 0)), .int 0, .int 0, .null, .int 0, .int 0, .int 0, .ref (h0 + (n + 1)), .null, .null]) := (upE_n (by omega)).trans f4_o
  generalize hE5 : upE E4 (n + 2) (.inl (cy 3, 6, .inl (fun _ => 0))) = E5 at f5_o ⊢
  clear f4_o
  refine a_putF X (ci := 4) (i := 8) (C := RX4) (T := TX4) (N := 10) (ty := tyX4 8) (by omega) f5_o rfl inX4 tyX4 tyX4_ok nmX4 (by decide) rfl rfl hnm rfl (tyX4_ok 8 (by decide)) rfl rfl (Nat.le_of_ble_eq_true rfl) m_2_41 dX4_init_25 ?_
  show GA _ _ _ _ _ _ _ _ _ _ _ _ _ _ _ (upE E5 o (.inr (4, [.ref (h0 + (n + 0)), .int 0, .int 0, .null, .int 0, .int 0, .int 0, .ref (h0 + (n + 1)), .ref (h0 + (n + 2)), .null]))) _ _ _ _ _
  have f6_o : (upE E5 o (.inr (4, [.ref (h0 + (n + 0)), .int 0, .int 0, .null, .int 0, .int 0, .int 0, .ref (h0 + (n + 1)), .ref (h0 + (n + 2)), .null]))) (o) = .inr (4, [.ref (h0 + (n + 0)), .int 0, .int 0, .null, .int 0, .int 0, .int 0, .ref (h0 + (n + 1)), .ref (h0 + (n + 2)), .null]) := upE_s
  generalize hE6 : upE E5 o (.inr (4, [.ref (h0 + (n + 0)), .int 0, .int 0, .null, .int 0, .int 0, .int 0, .ref (h0 + (n + 1)), .ref (h0 + (n + 2)), .null])) = E6 at f6_o ⊢
  clear f5_o
  refine a_aload X dX4_init_28 0 rfl rfl ?_
  refine a_bipush X (v := 6) dX4_init_29 (by decide) ?_
  refine a_newaI X 6 m_1_103 (by decide) (by decide) (Nat.le_of_ble_eq_true rfl) ⟨Nat.le_of_ble_eq_true rfl, Nat.le_of_ble_eq_true rfl⟩ dX4_init_31 ?_
  show GA _ _ _ _ _ _ _ _ _ _ _ _ _ _ _ (upE E6 (n + 3) (.inl (cy 1, 6, .inl (fun _ => 0)))) 4 24 _ _ _
  have f7_o : (upE E6 (n + 3) (.inl (cy 1, 6, .inl (fun _ => 0)))) (o) = .inr (4, [.ref (h0 + (n + 0)), .int 0, .int 0, .null, .int 0, .int 0, .int 0, .ref (h0 + (n + 1)), .ref (h0 + (n + 2)), .null]) := (upE_n (by omega)).trans f6_o
  generalize hE7 : upE E6 (n + 3) (.inl (cy 1, 6, .inl (fun _ => 0))) = E7 at f7_o ⊢
  clear f6_o
  refine a_putF X (ci := 4) (i := 9) (C := RX4) (T := TX4) (N := 10) (ty := tyX4 9) (by omega) f7_o rfl inX4 tyX4 tyX4_ok nmX4 (by decide) rfl rfl hnm rfl (tyX4_ok 9 (by decide)) rfl rfl (Nat.le_of_ble_eq_true rfl) m_2_42 dX4_init_33 ?_
  show GA _ _ _ _ _ _ _ _ _ _ _ _ _ _ _ (upE E7 o (.inr (4, [.ref (h0 + (n + 0)), .int 0, .int 0, .null, .int 0, .int 0, .int 0, .ref (h0 + (n + 1)), .ref (h0 + (n + 2)), .ref (h0 + (n + 3))]))) _ _ _ _ _
  have f8_o : (upE E7 o (.inr (4, [.ref (h0 + (n + 0)), .int 0, .int 0, .null, .int 0, .int 0, .int 0, .ref (h0 + (n + 1)), .ref (h0 + (n + 2)), .ref (h0 + (n + 3))]))) (o) = .inr (4, [.ref (h0 + (n + 0)), .int 0, .int 0, .null, .int 0, .int 0, .int 0, .ref (h0 + (n + 1)), .ref (h0 + (n + 2)), .ref (h0 + (n + 3))]) := upE_s
  generalize hE8 : upE E7 o (.inr (4, [.ref (h0 + (n + 0)), .int 0, .int 0, .null, .int 0, .int 0, .int 0, .ref (h0 + (n + 1)), .ref (h0 + (n + 2)), .ref (h0 + (n + 3))])) = E8 at f8_o ⊢
  clear f7_o
  exact a_ret X hr rfl rfl (by rw [← hE8, ← hE7, ← hE6, ← hE5, ← hE4, ← hE3, ← hE2, ← hE1]; rfl) dX4_init_36
def e5 (cy : Nat → ClassId) (h0 : Nat) (E : Nat → va_E) (o n : Nat) : Nat → va_E := upE (upE (upE (upE (E) o (.inr (5, [.int (-1), .int 0, .int 0, .null]))) o (.inr (5, [.int (-1), .int 0, .int (-1), .null]))) (n + 0) (.inl (cy 2, 40, .inr (.inl (fun _ => 0))))) o (.inr (5, [.int (-1), .int 0, .int (-1), .ref (h0 + (n + 0))]))
theorem e5_n {cy : Nat → ClassId} {h0 : Nat} {E : Nat → va_E} {o n j : Nat} (h1 : j ≠ o) (h2 : j < n) : e5 cy h0 E o n j = E j := by
  unfold e5 upE
  repeat rw [if_neg (by omega)]
set_option maxRecDepth 100000 in
set_option maxHeartbeats 4000000 in
theorem c_5 {l : Launch} {D : va_G} {cy : Nat → ClassId} {h0 b0 n o : Nat} {E : Nat → va_E} (ho : o < n) (he : E o = .inr (5, [.int 0, .int 0, .int 0, .null])) : MA l D cy h0 b0 yX5_init cX5_init 1 1 1 40 [.ref (h0 + o)] n E (e5 cy h0 E o n) := by
  refine met_ofA (lv0 := [(0, .ref (h0 + o))]) (by decide) (Nat.le_of_ble_eq_true rfl) rfl (fun p e s m args below meth c X hr hnm => ?_)
  refine a_aload X dX5_init_0 0 rfl rfl ?_
  refine a_obj X m_2_107 ⟨Nat.le_of_ble_eq_true rfl, Nat.le_of_ble_eq_true rfl⟩ dX5_init_1 ?_
  refine a_aload X dX5_init_4 0 rfl rfl ?_
  refine a_iconst X (v := -1) dX5_init_5 (by decide) ?_
  refine a_put X (ci := 5) (i := 0) (C := RX5) (T := TX5) (N := 4) (ty := tyX5 0) (by omega) he rfl inX5 tyX5 tyX5_ok nmX5 (by decide) rfl rfl (tyX5_ok 0 (by decide)) rfl rfl (Nat.le_of_ble_eq_true rfl) m_2_108 dX5_init_6 ?_
  show GA _ _ _ _ _ _ _ _ _ _ _ _ _ _ _ (upE E o (.inr (5, [.int (-1), .int 0, .int 0, .null]))) _ _ _ _ _
  have f1_o : (upE E o (.inr (5, [.int (-1), .int 0, .int 0, .null]))) (o) = .inr (5, [.int (-1), .int 0, .int 0, .null]) := upE_s
  generalize hE1 : upE E o (.inr (5, [.int (-1), .int 0, .int 0, .null])) = E1 at f1_o ⊢
  refine a_aload X dX5_init_9 0 rfl rfl ?_
  refine a_iconst X (v := -1) dX5_init_10 (by decide) ?_
  refine a_put X (ci := 5) (i := 2) (C := RX5) (T := TX5) (N := 4) (ty := tyX5 2) (by omega) f1_o rfl inX5 tyX5 tyX5_ok nmX5 (by decide) rfl rfl (tyX5_ok 2 (by decide)) rfl rfl (Nat.le_of_ble_eq_true rfl) m_2_112 dX5_init_11 ?_
  show GA _ _ _ _ _ _ _ _ _ _ _ _ _ _ _ (upE E1 o (.inr (5, [.int (-1), .int 0, .int (-1), .null]))) _ _ _ _ _
  have f2_o : (upE E1 o (.inr (5, [.int (-1), .int 0, .int (-1), .null]))) (o) = .inr (5, [.int (-1), .int 0, .int (-1), .null]) := upE_s
  generalize hE2 : upE E1 o (.inr (5, [.int (-1), .int 0, .int (-1), .null])) = E2 at f2_o ⊢
  clear f1_o
  refine a_aload X dX5_init_14 0 rfl rfl ?_
  refine a_bipush X (v := 40) dX5_init_15 (by decide) ?_
  refine a_newaJ X 40 m_2_125 (by decide) (by decide) (Nat.le_of_ble_eq_true rfl) ⟨Nat.le_of_ble_eq_true rfl, Nat.le_of_ble_eq_true rfl⟩ dX5_init_17 ?_
  show GA _ _ _ _ _ _ _ _ _ _ _ _ _ _ _ (upE E2 (n + 0) (.inl (cy 2, 40, .inr (.inl (fun _ => 0))))) 1 40 _ _ _
  have f3_o : (upE E2 (n + 0) (.inl (cy 2, 40, .inr (.inl (fun _ => 0))))) (o) = .inr (5, [.int (-1), .int 0, .int (-1), .null]) := (upE_n (by omega)).trans f2_o
  generalize hE3 : upE E2 (n + 0) (.inl (cy 2, 40, .inr (.inl (fun _ => 0)))) = E3 at f3_o ⊢
  clear f2_o
  refine a_putF X (ci := 5) (i := 3) (C := RX5) (T := TX5) (N := 4) (ty := tyX5 3) (by omega) f3_o rfl inX5 tyX5 tyX5_ok nmX5 (by decide) rfl rfl hnm rfl (tyX5_ok 3 (by decide)) rfl rfl (Nat.le_of_ble_eq_true rfl) m_2_114 dX5_init_19 ?_
  show GA _ _ _ _ _ _ _ _ _ _ _ _ _ _ _ (upE E3 o (.inr (5, [.int (-1), .int 0, .int (-1), .ref (h0 + (n + 0))]))) _ _ _ _ _
  have f4_o : (upE E3 o (.inr (5, [.int (-1), .int 0, .int (-1), .ref (h0 + (n + 0))]))) (o) = .inr (5, [.int (-1), .int 0, .int (-1), .ref (h0 + (n + 0))]) := upE_s
  generalize hE4 : upE E3 o (.inr (5, [.int (-1), .int 0, .int (-1), .ref (h0 + (n + 0))])) = E4 at f4_o ⊢
  clear f3_o
  exact a_ret X hr rfl rfl (by rw [← hE4, ← hE3, ← hE2, ← hE1]; rfl) dX5_init_22
def e6 (cy : Nat → ClassId) (h0 : Nat) (E : Nat → va_E) (o n : Nat) : Nat → va_E := upE (upE (E) (n + 0) (.inl (cy 0, 160, .inl (fun _ => 0)))) o (.inr (6, [.ref (h0 + (n + 0)), .int 0, .int 0]))
theorem e6_n {cy : Nat → ClassId} {h0 : Nat} {E : Nat → va_E} {o n j : Nat} (h1 : j ≠ o) (h2 : j < n) : e6 cy h0 E o n j = E j := by
  unfold e6 upE
  repeat rw [if_neg (by omega)]
set_option maxRecDepth 100000 in
set_option maxHeartbeats 4000000 in
theorem c_6 {l : Launch} {D : va_G} {cy : Nat → ClassId} {h0 b0 n o : Nat} {E : Nat → va_E} (ho : o < n) (he : E o = .inr (6, [.null, .int 0, .int 0])) : MA l D cy h0 b0 yX6_init cX6_init 1 1 1 160 [.ref (h0 + o)] n E (e6 cy h0 E o n) := by
  refine met_ofA (lv0 := [(0, .ref (h0 + o))]) (by decide) (Nat.le_of_ble_eq_true rfl) rfl (fun p e s m args below meth c X hr hnm => ?_)
  refine a_aload X dX6_init_0 0 rfl rfl ?_
  refine a_obj X m_1_35 ⟨Nat.le_of_ble_eq_true rfl, Nat.le_of_ble_eq_true rfl⟩ dX6_init_1 ?_
  refine a_aload X dX6_init_4 0 rfl rfl ?_
  refine a_sipush X (v := 160) dX6_init_5 (by decide) ?_
  refine a_newaB X 160 m_1_47 (by decide) (by decide) (Nat.le_of_ble_eq_true rfl) ⟨Nat.le_of_ble_eq_true rfl, Nat.le_of_ble_eq_true rfl⟩ dX6_init_8 ?_
  show GA _ _ _ _ _ _ _ _ _ _ _ _ _ _ _ (upE E (n + 0) (.inl (cy 0, 160, .inl (fun _ => 0)))) 1 160 _ _ _
  have f1_o : (upE E (n + 0) (.inl (cy 0, 160, .inl (fun _ => 0)))) (o) = .inr (6, [.null, .int 0, .int 0]) := (upE_n (by omega)).trans he
  generalize hE1 : upE E (n + 0) (.inl (cy 0, 160, .inl (fun _ => 0))) = E1 at f1_o ⊢
  refine a_putF X (ci := 6) (i := 0) (C := RX6) (T := TX6) (N := 3) (ty := tyX6 0) (by omega) f1_o rfl inX6 tyX6 tyX6_ok nmX6 (by decide) rfl rfl hnm rfl (tyX6_ok 0 (by decide)) rfl rfl (Nat.le_of_ble_eq_true rfl) m_1_36 dX6_init_10 ?_
  show GA _ _ _ _ _ _ _ _ _ _ _ _ _ _ _ (upE E1 o (.inr (6, [.ref (h0 + (n + 0)), .int 0, .int 0]))) _ _ _ _ _
  have f2_o : (upE E1 o (.inr (6, [.ref (h0 + (n + 0)), .int 0, .int 0]))) (o) = .inr (6, [.ref (h0 + (n + 0)), .int 0, .int 0]) := upE_s
  generalize hE2 : upE E1 o (.inr (6, [.ref (h0 + (n + 0)), .int 0, .int 0])) = E2 at f2_o ⊢
  clear f1_o
  exact a_ret X hr rfl rfl (by rw [← hE2, ← hE1]; rfl) dX6_init_13
def e7 (cy : Nat → ClassId) (h0 : Nat) (E : Nat → va_E) (o n : Nat) : Nat → va_E := upE (upE (upE (upE (upE (upE (upE (upE (upE (upE (upE (upE (E) (n + 0) (.inl (cy 1, 6, .inl (fun _ => 0)))) o (.inr (7, [.int 0, .int 0, .int 0, .int 0, .ref (h0 + (n + 0)), .null, .null, .null, .null, .null]))) (n + 1) (.inl (cy 1, 36, .inl (fun _ => 0)))) o (.inr (7, [.int 0, .int 0, .int 0, .int 0, .ref (h0 + (n + 0)), .ref (h0 + (n + 1)), .null, .null, .null, .null]))) (n + 2) (.inl (cy 1, 7, .inl (fun _ => 0)))) o (.inr (7, [.int 0, .int 0, .int 0, .int 0, .ref (h0 + (n + 0)), .ref (h0 + (n + 1)), .ref (h0 + (n + 2)), .null, .null, .null]))) (n + 3) (.inl (cy 1, 6, .inl (fun _ => 0)))) o (.inr (7, [.int 0, .int 0, .int 0, .int 0, .ref (h0 + (n + 0)), .ref (h0 + (n + 1)), .ref (h0 + (n + 2)), .ref (h0 + (n + 3)), .null, .null]))) (n + 4) (.inl (cy 1, 6, .inl (fun _ => 0)))) o (.inr (7, [.int 0, .int 0, .int 0, .int 0, .ref (h0 + (n + 0)), .ref (h0 + (n + 1)), .ref (h0 + (n + 2)), .ref (h0 + (n + 3)), .ref (h0 + (n + 4)), .null]))) (n + 5) (.inl (cy 1, 6, .inl (fun _ => 0)))) o (.inr (7, [.int 0, .int 0, .int 0, .int 0, .ref (h0 + (n + 0)), .ref (h0 + (n + 1)), .ref (h0 + (n + 2)), .ref (h0 + (n + 3)), .ref (h0 + (n + 4)), .ref (h0 + (n + 5))]))
theorem e7_n {cy : Nat → ClassId} {h0 : Nat} {E : Nat → va_E} {o n j : Nat} (h1 : j ≠ o) (h2 : j < n) : e7 cy h0 E o n j = E j := by
  unfold e7 upE
  repeat rw [if_neg (by omega)]
set_option maxRecDepth 100000 in
set_option maxHeartbeats 4000000 in
theorem c_7 {l : Launch} {D : va_G} {cy : Nat → ClassId} {h0 b0 n o : Nat} {E : Nat → va_E} (ho : o < n) (he : E o = .inr (7, [.int 0, .int 0, .int 0, .int 0, .null, .null, .null, .null, .null, .null])) : MA l D cy h0 b0 yX7_init cX7_init 1 1 6 67 [.ref (h0 + o)] n E (e7 cy h0 E o n) := by
  refine met_ofA (lv0 := [(0, .ref (h0 + o))]) (by decide) (Nat.le_of_ble_eq_true rfl) rfl (fun p e s m args below meth c X hr hnm => ?_)
  refine a_aload X dX7_init_0 0 rfl rfl ?_
  refine a_obj X m_2_70 ⟨Nat.le_of_ble_eq_true rfl, Nat.le_of_ble_eq_true rfl⟩ dX7_init_1 ?_
  refine a_aload X dX7_init_4 0 rfl rfl ?_
  refine a_bipush X (v := 6) dX7_init_5 (by decide) ?_
  refine a_newaI X 6 m_1_103 (by decide) (by decide) (Nat.le_of_ble_eq_true rfl) ⟨Nat.le_of_ble_eq_true rfl, Nat.le_of_ble_eq_true rfl⟩ dX7_init_7 ?_
  show GA _ _ _ _ _ _ _ _ _ _ _ _ _ _ _ (upE E (n + 0) (.inl (cy 1, 6, .inl (fun _ => 0)))) 1 6 _ _ _
  have f1_o : (upE E (n + 0) (.inl (cy 1, 6, .inl (fun _ => 0)))) (o) = .inr (7, [.int 0, .int 0, .int 0, .int 0, .null, .null, .null, .null, .null, .null]) := (upE_n (by omega)).trans he
  generalize hE1 : upE E (n + 0) (.inl (cy 1, 6, .inl (fun _ => 0))) = E1 at f1_o ⊢
  refine a_putF X (ci := 7) (i := 4) (C := RX7) (T := TX7) (N := 10) (ty := tyX7 4) (by omega) f1_o rfl inX7 tyX7 tyX7_ok nmX7 (by decide) rfl rfl hnm rfl (tyX7_ok 4 (by decide)) rfl rfl (Nat.le_of_ble_eq_true rfl) m_2_76 dX7_init_9 ?_
  show GA _ _ _ _ _ _ _ _ _ _ _ _ _ _ _ (upE E1 o (.inr (7, [.int 0, .int 0, .int 0, .int 0, .ref (h0 + (n + 0)), .null, .null, .null, .null, .null]))) _ _ _ _ _
  have f2_o : (upE E1 o (.inr (7, [.int 0, .int 0, .int 0, .int 0, .ref (h0 + (n + 0)), .null, .null, .null, .null, .null]))) (o) = .inr (7, [.int 0, .int 0, .int 0, .int 0, .ref (h0 + (n + 0)), .null, .null, .null, .null, .null]) := upE_s
  generalize hE2 : upE E1 o (.inr (7, [.int 0, .int 0, .int 0, .int 0, .ref (h0 + (n + 0)), .null, .null, .null, .null, .null])) = E2 at f2_o ⊢
  clear f1_o
  refine a_aload X dX7_init_12 0 rfl rfl ?_
  refine a_bipush X (v := 36) dX7_init_13 (by decide) ?_
  refine a_newaI X 36 m_1_103 (by decide) (by decide) (Nat.le_of_ble_eq_true rfl) ⟨Nat.le_of_ble_eq_true rfl, Nat.le_of_ble_eq_true rfl⟩ dX7_init_15 ?_
  show GA _ _ _ _ _ _ _ _ _ _ _ _ _ _ _ (upE E2 (n + 1) (.inl (cy 1, 36, .inl (fun _ => 0)))) 2 42 _ _ _
  have f3_o : (upE E2 (n + 1) (.inl (cy 1, 36, .inl (fun _ => 0)))) (o) = .inr (7, [.int 0, .int 0, .int 0, .int 0, .ref (h0 + (n + 0)), .null, .null, .null, .null, .null]) := (upE_n (by omega)).trans f2_o
  generalize hE3 : upE E2 (n + 1) (.inl (cy 1, 36, .inl (fun _ => 0))) = E3 at f3_o ⊢
  clear f2_o
  refine a_putF X (ci := 7) (i := 5) (C := RX7) (T := TX7) (N := 10) (ty := tyX7 5) (by omega) f3_o rfl inX7 tyX7 tyX7_ok nmX7 (by decide) rfl rfl hnm rfl (tyX7_ok 5 (by decide)) rfl rfl (Nat.le_of_ble_eq_true rfl) m_2_77 dX7_init_17 ?_
  show GA _ _ _ _ _ _ _ _ _ _ _ _ _ _ _ (upE E3 o (.inr (7, [.int 0, .int 0, .int 0, .int 0, .ref (h0 + (n + 0)), .ref (h0 + (n + 1)), .null, .null, .null, .null]))) _ _ _ _ _
  have f4_o : (upE E3 o (.inr (7, [.int 0, .int 0, .int 0, .int 0, .ref (h0 + (n + 0)), .ref (h0 + (n + 1)), .null, .null, .null, .null]))) (o) = .inr (7, [.int 0, .int 0, .int 0, .int 0, .ref (h0 + (n + 0)), .ref (h0 + (n + 1)), .null, .null, .null, .null]) := upE_s
  generalize hE4 : upE E3 o (.inr (7, [.int 0, .int 0, .int 0, .int 0, .ref (h0 + (n + 0)), .ref (h0 + (n + 1)), .null, .null, .null, .null])) = E4 at f4_o ⊢
  clear f3_o
  refine a_aload X dX7_init_20 0 rfl rfl ?_
  refine a_bipush X (v := 7) dX7_init_21 (by decide) ?_
  refine a_newaI X 7 m_1_103 (by decide) (by decide) (Nat.le_of_ble_eq_true rfl) ⟨Nat.le_of_ble_eq_true rfl, Nat.le_of_ble_eq_true rfl⟩ dX7_init_23 ?_
  show GA _ _ _ _ _ _ _ _ _ _ _ _ _ _ _ (upE E4 (n + 2) (.inl (cy 1, 7, .inl (fun _ => 0)))) 3 49 _ _ _
  have f5_o : (upE E4 (n + 2) (.inl (cy 1, 7, .inl (fun _ => 0)))) (o) = .inr (7, [.int 0, .int 0, .int 0, .int 0, .ref (h0 + (n + 0)), .ref (h0 + (n + 1)), .null, .null, .null, .null]) := (upE_n (by omega)).trans f4_o
  generalize hE5 : upE E4 (n + 2) (.inl (cy 1, 7, .inl (fun _ => 0))) = E5 at f5_o ⊢
  clear f4_o
  refine a_putF X (ci := 7) (i := 6) (C := RX7) (T := TX7) (N := 10) (ty := tyX7 6) (by omega) f5_o rfl inX7 tyX7 tyX7_ok nmX7 (by decide) rfl rfl hnm rfl (tyX7_ok 6 (by decide)) rfl rfl (Nat.le_of_ble_eq_true rfl) m_2_78 dX7_init_25 ?_
  show GA _ _ _ _ _ _ _ _ _ _ _ _ _ _ _ (upE E5 o (.inr (7, [.int 0, .int 0, .int 0, .int 0, .ref (h0 + (n + 0)), .ref (h0 + (n + 1)), .ref (h0 + (n + 2)), .null, .null, .null]))) _ _ _ _ _
  have f6_o : (upE E5 o (.inr (7, [.int 0, .int 0, .int 0, .int 0, .ref (h0 + (n + 0)), .ref (h0 + (n + 1)), .ref (h0 + (n + 2)), .null, .null, .null]))) (o) = .inr (7, [.int 0, .int 0, .int 0, .int 0, .ref (h0 + (n + 0)), .ref (h0 + (n + 1)), .ref (h0 + (n + 2)), .null, .null, .null]) := upE_s
  generalize hE6 : upE E5 o (.inr (7, [.int 0, .int 0, .int 0, .int 0, .ref (h0 + (n + 0)), .ref (h0 + (n + 1)), .ref (h0 + (n + 2)), .null, .null, .null])) = E6 at f6_o ⊢
  clear f5_o
  refine a_aload X dX7_init_28 0 rfl rfl ?_
  refine a_bipush X (v := 6) dX7_init_29 (by decide) ?_
  refine a_newaI X 6 m_1_103 (by decide) (by decide) (Nat.le_of_ble_eq_true rfl) ⟨Nat.le_of_ble_eq_true rfl, Nat.le_of_ble_eq_true rfl⟩ dX7_init_31 ?_
  show GA _ _ _ _ _ _ _ _ _ _ _ _ _ _ _ (upE E6 (n + 3) (.inl (cy 1, 6, .inl (fun _ => 0)))) 4 55 _ _ _
  have f7_o : (upE E6 (n + 3) (.inl (cy 1, 6, .inl (fun _ => 0)))) (o) = .inr (7, [.int 0, .int 0, .int 0, .int 0, .ref (h0 + (n + 0)), .ref (h0 + (n + 1)), .ref (h0 + (n + 2)), .null, .null, .null]) := (upE_n (by omega)).trans f6_o
  generalize hE7 : upE E6 (n + 3) (.inl (cy 1, 6, .inl (fun _ => 0))) = E7 at f7_o ⊢
  clear f6_o
  refine a_putF X (ci := 7) (i := 7) (C := RX7) (T := TX7) (N := 10) (ty := tyX7 7) (by omega) f7_o rfl inX7 tyX7 tyX7_ok nmX7 (by decide) rfl rfl hnm rfl (tyX7_ok 7 (by decide)) rfl rfl (Nat.le_of_ble_eq_true rfl) m_2_79 dX7_init_33 ?_
  show GA _ _ _ _ _ _ _ _ _ _ _ _ _ _ _ (upE E7 o (.inr (7, [.int 0, .int 0, .int 0, .int 0, .ref (h0 + (n + 0)), .ref (h0 + (n + 1)), .ref (h0 + (n + 2)), .ref (h0 + (n + 3)), .null, .null]))) _ _ _ _ _
  have f8_o : (upE E7 o (.inr (7, [.int 0, .int 0, .int 0, .int 0, .ref (h0 + (n + 0)), .ref (h0 + (n + 1)), .ref (h0 + (n + 2)), .ref (h0 + (n + 3)), .null, .null]))) (o) = .inr (7, [.int 0, .int 0, .int 0, .int 0, .ref (h0 + (n + 0)), .ref (h0 + (n + 1)), .ref (h0 + (n + 2)), .ref (h0 + (n + 3)), .null, .null]) := upE_s
  generalize hE8 : upE E7 o (.inr (7, [.int 0, .int 0, .int 0, .int 0, .ref (h0 + (n + 0)), .ref (h0 + (n + 1)), .ref (h0 + (n + 2)), .ref (h0 + (n + 3)), .null, .null])) = E8 at f8_o ⊢
  clear f7_o
  refine a_aload X dX7_init_36 0 rfl rfl ?_
  refine a_bipush X (v := 6) dX7_init_37 (by decide) ?_
  refine a_newaI X 6 m_1_103 (by decide) (by decide) (Nat.le_of_ble_eq_true rfl) ⟨Nat.le_of_ble_eq_true rfl, Nat.le_of_ble_eq_true rfl⟩ dX7_init_39 ?_
  show GA _ _ _ _ _ _ _ _ _ _ _ _ _ _ _ (upE E8 (n + 4) (.inl (cy 1, 6, .inl (fun _ => 0)))) 5 61 _ _ _
  have f9_o : (upE E8 (n + 4) (.inl (cy 1, 6, .inl (fun _ => 0)))) (o) = .inr (7, [.int 0, .int 0, .int 0, .int 0, .ref (h0 + (n + 0)), .ref (h0 + (n + 1)), .ref (h0 + (n + 2)), .ref (h0 + (n + 3)), .null, .null]) := (upE_n (by omega)).trans f8_o
  generalize hE9 : upE E8 (n + 4) (.inl (cy 1, 6, .inl (fun _ => 0))) = E9 at f9_o ⊢
  clear f8_o
  refine a_putF X (ci := 7) (i := 8) (C := RX7) (T := TX7) (N := 10) (ty := tyX7 8) (by omega) f9_o rfl inX7 tyX7 tyX7_ok nmX7 (by decide) rfl rfl hnm rfl (tyX7_ok 8 (by decide)) rfl rfl (Nat.le_of_ble_eq_true rfl) m_2_80 dX7_init_41 ?_
  show GA _ _ _ _ _ _ _ _ _ _ _ _ _ _ _ (upE E9 o (.inr (7, [.int 0, .int 0, .int 0, .int 0, .ref (h0 + (n + 0)), .ref (h0 + (n + 1)), .ref (h0 + (n + 2)), .ref (h0 + (n + 3)), .ref (h0 + (n + 4)), .null]))) _ _ _ _ _
  have f10_o : (upE E9 o (.inr (7, [.int 0, .int 0, .int 0, .int 0, .ref (h0 + (n + 0)), .ref (h0 + (n + 1)), .ref (h0 + (n + 2)), .ref (h0 + (n + 3)), .ref (h0 + (n + 4)), .null]))) (o) = .inr (7, [.int 0, .int 0, .int 0, .int 0, .ref (h0 + (n + 0)), .ref (h0 + (n + 1)), .ref (h0 + (n + 2)), .ref (h0 + (n + 3)), .ref (h0 + (n + 4)), .null]) := upE_s
  generalize hE10 : upE E9 o (.inr (7, [.int 0, .int 0, .int 0, .int 0, .ref (h0 + (n + 0)), .ref (h0 + (n + 1)), .ref (h0 + (n + 2)), .ref (h0 + (n + 3)), .ref (h0 + (n + 4)), .null])) = E10 at f10_o ⊢
  clear f9_o
  refine a_aload X dX7_init_44 0 rfl rfl ?_
  refine a_bipush X (v := 6) dX7_init_45 (by decide) ?_
  refine a_newaI X 6 m_1_103 (by decide) (by decide) (Nat.le_of_ble_eq_true rfl) ⟨Nat.le_of_ble_eq_true rfl, Nat.le_of_ble_eq_true rfl⟩ dX7_init_47 ?_
  show GA _ _ _ _ _ _ _ _ _ _ _ _ _ _ _ (upE E10 (n + 5) (.inl (cy 1, 6, .inl (fun _ => 0)))) 6 67 _ _ _
  have f11_o : (upE E10 (n + 5) (.inl (cy 1, 6, .inl (fun _ => 0)))) (o) = .inr (7, [.int 0, .int 0, .int 0, .int 0, .ref (h0 + (n + 0)), .ref (h0 + (n + 1)), .ref (h0 + (n + 2)), .ref (h0 + (n + 3)), .ref (h0 + (n + 4)), .null]) := (upE_n (by omega)).trans f10_o
  generalize hE11 : upE E10 (n + 5) (.inl (cy 1, 6, .inl (fun _ => 0))) = E11 at f11_o ⊢
  clear f10_o
  refine a_putF X (ci := 7) (i := 9) (C := RX7) (T := TX7) (N := 10) (ty := tyX7 9) (by omega) f11_o rfl inX7 tyX7 tyX7_ok nmX7 (by decide) rfl rfl hnm rfl (tyX7_ok 9 (by decide)) rfl rfl (Nat.le_of_ble_eq_true rfl) m_2_81 dX7_init_49 ?_
  show GA _ _ _ _ _ _ _ _ _ _ _ _ _ _ _ (upE E11 o (.inr (7, [.int 0, .int 0, .int 0, .int 0, .ref (h0 + (n + 0)), .ref (h0 + (n + 1)), .ref (h0 + (n + 2)), .ref (h0 + (n + 3)), .ref (h0 + (n + 4)), .ref (h0 + (n + 5))]))) _ _ _ _ _
  have f12_o : (upE E11 o (.inr (7, [.int 0, .int 0, .int 0, .int 0, .ref (h0 + (n + 0)), .ref (h0 + (n + 1)), .ref (h0 + (n + 2)), .ref (h0 + (n + 3)), .ref (h0 + (n + 4)), .ref (h0 + (n + 5))]))) (o) = .inr (7, [.int 0, .int 0, .int 0, .int 0, .ref (h0 + (n + 0)), .ref (h0 + (n + 1)), .ref (h0 + (n + 2)), .ref (h0 + (n + 3)), .ref (h0 + (n + 4)), .ref (h0 + (n + 5))]) := upE_s
  generalize hE12 : upE E11 o (.inr (7, [.int 0, .int 0, .int 0, .int 0, .ref (h0 + (n + 0)), .ref (h0 + (n + 1)), .ref (h0 + (n + 2)), .ref (h0 + (n + 3)), .ref (h0 + (n + 4)), .ref (h0 + (n + 5))])) = E12 at f12_o ⊢
  clear f11_o
  exact a_ret X hr rfl rfl (by rw [← hE12, ← hE11, ← hE10, ← hE9, ← hE8, ← hE7, ← hE6, ← hE5, ← hE4, ← hE3, ← hE2, ← hE1]; rfl) dX7_init_52
def e8 (cy : Nat → ClassId) (h0 : Nat) (E : Nat → va_E) (o n : Nat) : Nat → va_E := upE (upE (upE (upE (E) (n + 0) (.inl (cy 1, 20, .inl (fun _ => 0)))) o (.inr (8, [.ref (h0 + (n + 0)), .null, .int 0]))) (n + 1) (.inl (cy 1, 20, .inl (fun _ => 0)))) o (.inr (8, [.ref (h0 + (n + 0)), .ref (h0 + (n + 1)), .int 0]))
theorem e8_n {cy : Nat → ClassId} {h0 : Nat} {E : Nat → va_E} {o n j : Nat} (h1 : j ≠ o) (h2 : j < n) : e8 cy h0 E o n j = E j := by
  unfold e8 upE
  repeat rw [if_neg (by omega)]
set_option maxRecDepth 100000 in
set_option maxHeartbeats 4000000 in
theorem c_8 {l : Launch} {D : va_G} {cy : Nat → ClassId} {h0 b0 n o : Nat} {E : Nat → va_E} (ho : o < n) (he : E o = .inr (8, [.null, .null, .int 0])) : MA l D cy h0 b0 yX8_init cX8_init 1 1 2 40 [.ref (h0 + o)] n E (e8 cy h0 E o n) := by
  refine met_ofA (lv0 := [(0, .ref (h0 + o))]) (by decide) (Nat.le_of_ble_eq_true rfl) rfl (fun p e s m args below meth c X hr hnm => ?_)
  refine a_aload X dX8_init_0 0 rfl rfl ?_
  refine a_obj X m_2_9 ⟨Nat.le_of_ble_eq_true rfl, Nat.le_of_ble_eq_true rfl⟩ dX8_init_1 ?_
  refine a_aload X dX8_init_4 0 rfl rfl ?_
  refine a_bipush X (v := 20) dX8_init_5 (by decide) ?_
  refine a_newaI X 20 m_1_103 (by decide) (by decide) (Nat.le_of_ble_eq_true rfl) ⟨Nat.le_of_ble_eq_true rfl, Nat.le_of_ble_eq_true rfl⟩ dX8_init_7 ?_
  show GA _ _ _ _ _ _ _ _ _ _ _ _ _ _ _ (upE E (n + 0) (.inl (cy 1, 20, .inl (fun _ => 0)))) 1 20 _ _ _
  have f1_o : (upE E (n + 0) (.inl (cy 1, 20, .inl (fun _ => 0)))) (o) = .inr (8, [.null, .null, .int 0]) := (upE_n (by omega)).trans he
  generalize hE1 : upE E (n + 0) (.inl (cy 1, 20, .inl (fun _ => 0))) = E1 at f1_o ⊢
  refine a_putF X (ci := 8) (i := 0) (C := RX8) (T := TX8) (N := 3) (ty := tyX8 0) (by omega) f1_o rfl inX8 tyX8 tyX8_ok nmX8 (by decide) rfl rfl hnm rfl (tyX8_ok 0 (by decide)) rfl rfl (Nat.le_of_ble_eq_true rfl) m_2_10 dX8_init_9 ?_
  show GA _ _ _ _ _ _ _ _ _ _ _ _ _ _ _ (upE E1 o (.inr (8, [.ref (h0 + (n + 0)), .null, .int 0]))) _ _ _ _ _
  have f2_o : (upE E1 o (.inr (8, [.ref (h0 + (n + 0)), .null, .int 0]))) (o) = .inr (8, [.ref (h0 + (n + 0)), .null, .int 0]) := upE_s
  generalize hE2 : upE E1 o (.inr (8, [.ref (h0 + (n + 0)), .null, .int 0])) = E2 at f2_o ⊢
  clear f1_o
  refine a_aload X dX8_init_12 0 rfl rfl ?_
  refine a_bipush X (v := 20) dX8_init_13 (by decide) ?_
  refine a_newaI X 20 m_1_103 (by decide) (by decide) (Nat.le_of_ble_eq_true rfl) ⟨Nat.le_of_ble_eq_true rfl, Nat.le_of_ble_eq_true rfl⟩ dX8_init_15 ?_
  show GA _ _ _ _ _ _ _ _ _ _ _ _ _ _ _ (upE E2 (n + 1) (.inl (cy 1, 20, .inl (fun _ => 0)))) 2 40 _ _ _
  have f3_o : (upE E2 (n + 1) (.inl (cy 1, 20, .inl (fun _ => 0)))) (o) = .inr (8, [.ref (h0 + (n + 0)), .null, .int 0]) := (upE_n (by omega)).trans f2_o
  generalize hE3 : upE E2 (n + 1) (.inl (cy 1, 20, .inl (fun _ => 0))) = E3 at f3_o ⊢
  clear f2_o
  refine a_putF X (ci := 8) (i := 1) (C := RX8) (T := TX8) (N := 3) (ty := tyX8 1) (by omega) f3_o rfl inX8 tyX8 tyX8_ok nmX8 (by decide) rfl rfl hnm rfl (tyX8_ok 1 (by decide)) rfl rfl (Nat.le_of_ble_eq_true rfl) m_2_13 dX8_init_17 ?_
  show GA _ _ _ _ _ _ _ _ _ _ _ _ _ _ _ (upE E3 o (.inr (8, [.ref (h0 + (n + 0)), .ref (h0 + (n + 1)), .int 0]))) _ _ _ _ _
  have f4_o : (upE E3 o (.inr (8, [.ref (h0 + (n + 0)), .ref (h0 + (n + 1)), .int 0]))) (o) = .inr (8, [.ref (h0 + (n + 0)), .ref (h0 + (n + 1)), .int 0]) := upE_s
  generalize hE4 : upE E3 o (.inr (8, [.ref (h0 + (n + 0)), .ref (h0 + (n + 1)), .int 0])) = E4 at f4_o ⊢
  clear f3_o
  exact a_ret X hr rfl rfl (by rw [← hE4, ← hE3, ← hE2, ← hE1]; rfl) dX8_init_20
def e9 (cy : Nat → ClassId) (h0 : Nat) (E : Nat → va_E) (o n : Nat) : Nat → va_E := upE (upE (upE (E) o (.inr (9, [.int (-1), .null, .int 0, .int 0, .int 0, .int 0, .int 0, .int 0]))) (n + 0) (.inl (cy 1, 20, .inl (fun _ => 0)))) o (.inr (9, [.int (-1), .ref (h0 + (n + 0)), .int 0, .int 0, .int 0, .int 0, .int 0, .int 0]))
theorem e9_n {cy : Nat → ClassId} {h0 : Nat} {E : Nat → va_E} {o n j : Nat} (h1 : j ≠ o) (h2 : j < n) : e9 cy h0 E o n j = E j := by
  unfold e9 upE
  repeat rw [if_neg (by omega)]
set_option maxRecDepth 100000 in
set_option maxHeartbeats 4000000 in
theorem c_9 {l : Launch} {D : va_G} {cy : Nat → ClassId} {h0 b0 n o : Nat} {E : Nat → va_E} (ho : o < n) (he : E o = .inr (9, [.int 0, .null, .int 0, .int 0, .int 0, .int 0, .int 0, .int 0])) : MA l D cy h0 b0 yX9_init cX9_init 1 1 1 20 [.ref (h0 + o)] n E (e9 cy h0 E o n) := by
  refine met_ofA (lv0 := [(0, .ref (h0 + o))]) (by decide) (Nat.le_of_ble_eq_true rfl) rfl (fun p e s m args below meth c X hr hnm => ?_)
  refine a_aload X dX9_init_0 0 rfl rfl ?_
  refine a_obj X m_1_65 ⟨Nat.le_of_ble_eq_true rfl, Nat.le_of_ble_eq_true rfl⟩ dX9_init_1 ?_
  refine a_aload X dX9_init_4 0 rfl rfl ?_
  refine a_iconst X (v := -1) dX9_init_5 (by decide) ?_
  refine a_put X (ci := 9) (i := 0) (C := RX9) (T := TX9) (N := 8) (ty := tyX9 0) (by omega) he rfl inX9 tyX9 tyX9_ok nmX9 (by decide) rfl rfl (tyX9_ok 0 (by decide)) rfl rfl (Nat.le_of_ble_eq_true rfl) m_1_66 dX9_init_6 ?_
  show GA _ _ _ _ _ _ _ _ _ _ _ _ _ _ _ (upE E o (.inr (9, [.int (-1), .null, .int 0, .int 0, .int 0, .int 0, .int 0, .int 0]))) _ _ _ _ _
  have f1_o : (upE E o (.inr (9, [.int (-1), .null, .int 0, .int 0, .int 0, .int 0, .int 0, .int 0]))) (o) = .inr (9, [.int (-1), .null, .int 0, .int 0, .int 0, .int 0, .int 0, .int 0]) := upE_s
  generalize hE1 : upE E o (.inr (9, [.int (-1), .null, .int 0, .int 0, .int 0, .int 0, .int 0, .int 0])) = E1 at f1_o ⊢
  refine a_aload X dX9_init_9 0 rfl rfl ?_
  refine a_bipush X (v := 20) dX9_init_10 (by decide) ?_
  refine a_newaI X 20 m_1_103 (by decide) (by decide) (Nat.le_of_ble_eq_true rfl) ⟨Nat.le_of_ble_eq_true rfl, Nat.le_of_ble_eq_true rfl⟩ dX9_init_12 ?_
  show GA _ _ _ _ _ _ _ _ _ _ _ _ _ _ _ (upE E1 (n + 0) (.inl (cy 1, 20, .inl (fun _ => 0)))) 1 20 _ _ _
  have f2_o : (upE E1 (n + 0) (.inl (cy 1, 20, .inl (fun _ => 0)))) (o) = .inr (9, [.int (-1), .null, .int 0, .int 0, .int 0, .int 0, .int 0, .int 0]) := (upE_n (by omega)).trans f1_o
  generalize hE2 : upE E1 (n + 0) (.inl (cy 1, 20, .inl (fun _ => 0))) = E2 at f2_o ⊢
  clear f1_o
  refine a_putF X (ci := 9) (i := 1) (C := RX9) (T := TX9) (N := 8) (ty := tyX9 1) (by omega) f2_o rfl inX9 tyX9 tyX9_ok nmX9 (by decide) rfl rfl hnm rfl (tyX9_ok 1 (by decide)) rfl rfl (Nat.le_of_ble_eq_true rfl) m_1_69 dX9_init_14 ?_
  show GA _ _ _ _ _ _ _ _ _ _ _ _ _ _ _ (upE E2 o (.inr (9, [.int (-1), .ref (h0 + (n + 0)), .int 0, .int 0, .int 0, .int 0, .int 0, .int 0]))) _ _ _ _ _
  have f3_o : (upE E2 o (.inr (9, [.int (-1), .ref (h0 + (n + 0)), .int 0, .int 0, .int 0, .int 0, .int 0, .int 0]))) (o) = .inr (9, [.int (-1), .ref (h0 + (n + 0)), .int 0, .int 0, .int 0, .int 0, .int 0, .int 0]) := upE_s
  generalize hE3 : upE E2 o (.inr (9, [.int (-1), .ref (h0 + (n + 0)), .int 0, .int 0, .int 0, .int 0, .int 0, .int 0])) = E3 at f3_o ⊢
  clear f2_o
  exact a_ret X hr rfl rfl (by rw [← hE3, ← hE2, ← hE1]; rfl) dX9_init_17
theorem c_reset {l : Launch} {D : va_G} {cy : Nat → ClassId} {h0 b0 n o : Nat} {E : Nat → va_E} {v : Nat} {f : Nat → Int32} (ho : o < n) (hv : v < n) (he : E o = .inr (2, [.ref (h0 + v)])) (hf : E v = .inl (cy 1, 9, .inl f)) : MA l D cy h0 b0 yX2_reset cX2_reset 1 1 0 0 [.ref (h0 + o)] n E (upE E v (.inl (cy 1, 9, .inl (va_cpy (fun j => sv0.getD j 0) f 0 0 9)))) := by
  refine met_ofA (lv0 := [(0, .ref (h0 + o))]) (by decide) (Nat.le_of_ble_eq_true rfl) rfl (fun p e s m args below meth c X hr hnm => ?_)
  refine a_gs X m_1_143 dX2_reset_0 ?_
  refine a_iconst X (v := 0) dX2_reset_3 (by decide) ?_
  refine a_aload X dX2_reset_4 0 rfl rfl ?_
  refine a_get X (ci := 2) (i := 0) (C := RX2) (T := TX2) (N := 1) (by omega) he rfl inX2 (by decide) rfl m_1_148 rfl dX2_reset_5 ?_
  refine a_iconst X (v := 0) dX2_reset_8 (by decide) ?_
  refine a_bipush X (v := 9) dX2_reset_9 (by decide) ?_
  refine a_cp X (by omega) hf m_1_145 ⟨Nat.le_of_ble_eq_true rfl, ?_⟩ dX2_reset_11 ?_
  · exact (hR2 (k := 1) (n := 0) (by decide) (by decide)).2
  exact a_ret X hr rfl rfl rfl dX2_reset_14
def lawrow : Nat → Int32 := va_cpy (fun j => sv0.getD j 0) (fun _ => 0) 0 0 9
def e2 (cy : Nat → ClassId) (h0 : Nat) (E : Nat → va_E) (o n : Nat) : Nat → va_E := upE (upE (upE E (n + 0) (.inl (cy 1, 9, .inl (fun _ => 0)))) o (.inr (2, [.ref (h0 + (n + 0))]))) (n + 0) (.inl (cy 1, 9, .inl lawrow))
theorem e2_n {cy : Nat → ClassId} {h0 : Nat} {E : Nat → va_E} {o n j : Nat} (h1 : j ≠ o) (h2 : j < n) : e2 cy h0 E o n j = E j := by
  unfold e2 upE
  repeat rw [if_neg (by omega)]
set_option maxRecDepth 100000 in
set_option maxHeartbeats 4000000 in
theorem c_2 {l : Launch} {D : va_G} {cy : Nat → ClassId} {h0 b0 n o : Nat} {E : Nat → va_E} (ho : o < n) (he : E o = .inr (2, [.null])) : MA l D cy h0 b0 yX2_init cX2_init 1 2 1 9 [.ref (h0 + o)] n E (e2 cy h0 E o n) := by
  refine met_ofA (lv0 := [(0, .ref (h0 + o))]) (by decide) (Nat.le_of_ble_eq_true rfl) rfl (fun p e s m args below meth c X hr hnm => ?_)
  refine a_aload X dX2_init_0 0 rfl rfl ?_
  refine a_obj X m_1_138 ⟨Nat.le_of_ble_eq_true rfl, Nat.le_of_ble_eq_true rfl⟩ dX2_init_1 ?_
  refine a_aload X dX2_init_4 0 rfl rfl ?_
  refine a_bipush X (v := 9) dX2_init_5 (by decide) ?_
  refine a_newaI X 9 m_1_103 (by decide) (by decide) (Nat.le_of_ble_eq_true rfl) ⟨Nat.le_of_ble_eq_true rfl, Nat.le_of_ble_eq_true rfl⟩ dX2_init_7 ?_
  refine a_putF X (ci := 2) (i := 0) (C := RX2) (T := TX2) (N := 1) (ty := tyX2 0) (by omega) ((upE_n (by omega)).trans he) rfl inX2 tyX2 tyX2_ok nmX2 (by decide) rfl rfl hnm rfl (tyX2_ok 0 (by decide)) rfl rfl (Nat.le_of_ble_eq_true rfl) m_1_148 dX2_init_9 ?_
  refine a_aload X dX2_init_12 0 rfl rfl ?_
  refine a_callV X (ci := 2) (N := 1) (T := TX2) wkX2_reset (c_reset (v := n + 0) (by omega) (by omega) upE_s ((upE_n (by omega)).trans upE_s)) (by omega) upE_s rfl m_1_139 ⟨Nat.le_of_ble_eq_true rfl, Nat.le_of_ble_eq_true rfl⟩ ⟨Nat.le_of_ble_eq_true rfl, Nat.le_of_ble_eq_true rfl⟩ (Nat.le_of_ble_eq_true rfl) dX2_init_13 ?_
  exact a_ret X hr rfl rfl rfl dX2_init_16
def g_jet (cy : Nat → ClassId) (h0 lo : Nat) : Nat → va_E := fun i => .inr (0, [.int 0, .int 0, .int 0, .int 0, .int 0])
def l_jet (cy : Nat → ClassId) (h0 : Nat) (E : Nat → va_E) (a lo j : Nat) : Nat → va_E := upE (blk E lo (lo + j) (g_jet cy h0 lo)) a (.inl (cy 4, 20, .inr (.inr (.inr (.inr (fun i => if i < j then some (h0 + (lo + i)) else none))))))
theorem s_jet {cy : Nat → ClassId} {h0 : Nat} {E : Nat → va_E} {a lo j : Nat} (ha : a < lo) : upE (upE (l_jet cy h0 E a lo j) (lo + j) (.inr (0, [.int 0, .int 0, .int 0, .int 0, .int 0]))) a (.inl (cy 4, 20, .inr (.inr (.inr (.inr (va_up (fun i => if i < j then some (h0 + (lo + i)) else none) j (some (h0 + (lo + j))))))))) = l_jet cy h0 E a lo (j + 1) := by
  have ef : va_up (fun i => if i < j then some (h0 + (lo + i)) else none) j (some (h0 + (lo + j))) = (fun i => if i < (j + 1) then some (h0 + (lo + i)) else none) := by
    funext i
    unfold va_up
    by_cases h : i = j
    · rw [if_pos h, if_pos (by omega), h]
    · rw [if_neg h]
      dsimp only
      by_cases h2 : i < j
      · rw [if_pos h2, if_pos (by omega)]
      · rw [if_neg h2, if_neg (by omega)]
  rw [ef]
  funext i
  by_cases h1 : i = a
  · rw [h1, upE_s]
    unfold l_jet
    rw [upE_s]
  · rw [upE_n h1]
    have e1 : l_jet cy h0 E a lo (j + 1) i = blk E lo (lo + (j + 1)) (g_jet cy h0 lo) i := upE_n h1
    have e0 : l_jet cy h0 E a lo j i = blk E lo (lo + j) (g_jet cy h0 lo) i := upE_n h1
    rw [e1]
    by_cases h2 : i = lo + j
    · rw [h2, upE_s, blk_y (by omega)]
      rfl
    · rw [upE_n h2, e0]
      by_cases h3 : lo ≤ i ∧ i < lo + j
      · rw [blk_y h3, blk_y (by omega)]
      · rw [blk_n h3, blk_n (by omega)]
set_option maxRecDepth 100000 in
set_option maxHeartbeats 4000000 in
theorem lp_jet {p : Program} {l : Launch} {e : Env} {R : Room} {s : State} {m : MethodId} {args : Array Value} {below : List Frame} {meth : Method} {c : Code} {D : va_G} {cy : Nat → ClassId} {h0 n0 b0 : Nat} {cs sl o a lo : Nat} {Q : State → Prop} {E : Nat → va_E} {fsL : List Value} (X : CxA p s m args meth c cX1_init 2 RX1 D cy h0 b0 n0) (hfi : fsL[0]? = some (.ref (h0 + a))) (hlo : lo = n0 + cs) (ho : o < lo) (ha : a < lo) (hoa : o ≠ a) (he : E o = .inr (1, fsL)) (hc : cs + 20 ≤ R.cells) (hs : sl + 100 ≤ R.slots) (hR : 1 + 1 ≤ R.frames ∧ 8 + (1 + 11) + 64 * 1 ≤ R.locals) (K : GA p l e R s m args below meth c 2 D h0 n0 Q (l_jet cy h0 E a lo 20) (cs + 20) (sl + 100) 103 [(0, .ref (h0 + o)), (1, .int 20)] []) : ∀ (k j : Nat), j + k = 20 → GA p l e R s m args below meth c 2 D h0 n0 Q (l_jet cy h0 E a lo j) (cs + j) (sl + 5 * j) 78 [(0, .ref (h0 + o)), (1, .int (nI j))] [] := by
  have hE : ∀ j, l_jet cy h0 E a lo j o = .inr (1, fsL) := fun j => by
    unfold l_jet
    rw [upE_n hoa, blk_n (by omega), he]
  have hA : ∀ j, l_jet cy h0 E a lo j a = .inl (cy 4, 20, .inr (.inr (.inr (.inr (fun i => if i < j then some (h0 + (lo + i)) else none))))) := fun j => upE_s
  have tN : (20 : Int32).toInt = 20 := rfl
  intro k
  induction k with
  | zero =>
    intro j hj
    obtain rfl : j = 20 := by omega
    refine a_iload X dX1_init_78 1 rfl rfl ?_
    refine a_bipush X (v := 20) dX1_init_79 (by decide) ?_
    refine a_geT X (by decide) 103 (by decide) dX1_init_81 ?_
    exact K
  | succ k ih =>
    intro j hj
    have tj := t_nI (show j < 2147483648 by omega)
    refine a_iload X dX1_init_78 1 rfl rfl ?_
    refine a_bipush X (v := 20) dX1_init_79 (by decide) ?_
    refine a_geF X (by rw [t_le, tj, tN]; omega) 103 (by decide) dX1_init_81 ?_
    refine a_aload X dX1_init_84 0 rfl rfl ?_
    refine a_get X (ci := 1) (i := 0) (C := RX1) (T := TX1) (N := 16) (by omega) (hE j) rfl inX1 (by decide) rfl m_1_174 hfi dX1_init_85 ?_
    refine a_iload X dX1_init_88 1 rfl rfl ?_
    refine a_new X (ci := 0) (C := RX0) (T := TX0) (N := 5) rfl inX0 tyX0 tyX0_ok m_1_54 m_1_104 m_1_5 fr_0 ⟨by omega, by omega⟩ dX1_init_89 ?_
    have elo : n0 + (cs + j) = lo + j := by omega
    rw [elo]
    refine a_dup X dX1_init_92 rfl ?_
    refine a_call X wi_0 (c_0 (o := lo + j) (by omega) upE_s) m_1_105 hR ⟨by omega, by omega⟩ (Nat.le_of_ble_eq_true rfl) dX1_init_93 ?_
    refine a_aast0 X (o := a) (k := lo + j) (by omega) (by omega) ((upE_n (by omega)).trans (hA j)) upE_s (vp_in_iff.mpr ⟨by omega, by omega⟩) dX1_init_96 ?_
    refine a_iinc X (k := 1) (v := nI (j + 1)) dX1_init_97 rfl (by show nI j + 1 = _; rw [nI_1]) (by omega) rfl [1, 0] rfl ?_
    refine a_goto X 78 (by decide) dX1_init_100 ?_
    have ej : (nI j).toNatClampNeg = j := ix_nI (by omega)
    rw [ej, s_jet (by omega), show cs + j + 1 + 0 = cs + (j + 1) by omega, show sl + 5 * j + 5 + 0 = sl + 5 * (j + 1) by omega]
    exact ih (j + 1) (by omega)
def g_law (cy : Nat → ClassId) (h0 lo : Nat) : Nat → va_E := fun i => if (i - lo) % 2 = 0 then .inr (2, [.ref (h0 + (i + 1 + 0))]) else .inl (cy 1, 9, .inl lawrow)
def l_law (cy : Nat → ClassId) (h0 : Nat) (E : Nat → va_E) (a lo j : Nat) : Nat → va_E := upE (blk E lo (lo + 2 * j) (g_law cy h0 lo)) a (.inl (cy 5, 6, .inr (.inr (.inr (.inr (fun i => if i < j then some (h0 + (lo + 2 * i)) else none))))))
theorem s_law {cy : Nat → ClassId} {h0 : Nat} {E : Nat → va_E} {a lo j : Nat} (ha : a < lo) : upE (e2 cy h0 (upE (l_law cy h0 E a lo j) (lo + 2 * j) (.inr (2, [.null]))) (lo + 2 * j) (lo + 2 * j + 1)) a (.inl (cy 5, 6, .inr (.inr (.inr (.inr (va_up (fun i => if i < j then some (h0 + (lo + 2 * i)) else none) j (some (h0 + (lo + 2 * j))))))))) = l_law cy h0 E a lo (j + 1) := by
  have ef : va_up (fun i => if i < j then some (h0 + (lo + 2 * i)) else none) j (some (h0 + (lo + 2 * j))) = (fun i => if i < (j + 1) then some (h0 + (lo + 2 * i)) else none) := by
    funext i
    unfold va_up
    by_cases h : i = j
    · rw [if_pos h, if_pos (by omega), h]
    · rw [if_neg h]
      dsimp only
      by_cases h2 : i < j
      · rw [if_pos h2, if_pos (by omega)]
      · rw [if_neg h2, if_neg (by omega)]
  rw [ef]
  funext i
  by_cases h1 : i = a
  · rw [h1, upE_s]
    unfold l_law
    rw [upE_s]
  · rw [upE_n h1]
    have e1 : l_law cy h0 E a lo (j + 1) i = blk E lo (lo + 2 * (j + 1)) (g_law cy h0 lo) i := upE_n h1
    have e0 : l_law cy h0 E a lo j i = blk E lo (lo + 2 * j) (g_law cy h0 lo) i := upE_n h1
    rw [e1]
    by_cases h2 : i = lo + 2 * j
    · rw [h2, blk_y (by omega)]
      unfold e2 g_law
      rw [if_pos (by omega)]
      simp [upE]
    · by_cases h4 : i = lo + 2 * j + 1
      · rw [h4, blk_y (by omega)]
        unfold e2 g_law
        rw [if_neg (by omega)]
        simp [upE]
      · have e3 : e2 cy h0 (upE (l_law cy h0 E a lo j) (lo + 2 * j) (.inr (2, [.null]))) (lo + 2 * j) (lo + 2 * j + 1) i = l_law cy h0 E a lo j i := by
          unfold e2 upE
          repeat rw [if_neg (by omega)]
        rw [e3, e0]
        by_cases h3 : lo ≤ i ∧ i < lo + 2 * j
        · rw [blk_y h3, blk_y (by omega)]
        · rw [blk_n h3, blk_n (by omega)]
set_option maxRecDepth 100000 in
set_option maxHeartbeats 4000000 in
theorem lp_law {p : Program} {l : Launch} {e : Env} {R : Room} {s : State} {m : MethodId} {args : Array Value} {below : List Frame} {meth : Method} {c : Code} {D : va_G} {cy : Nat → ClassId} {h0 n0 b0 : Nat} {cs sl o a lo : Nat} {Q : State → Prop} {E : Nat → va_E} {fsL : List Value} (X : CxA p s m args meth c cX1_init 2 RX1 D cy h0 b0 n0) (hfi : fsL[2]? = some (.ref (h0 + a))) (hlo : lo = n0 + cs) (ho : o < lo) (ha : a < lo) (hoa : o ≠ a) (he : E o = .inr (1, fsL)) (hc : cs + 12 ≤ R.cells) (hs : sl + 60 ≤ R.slots) (hR : 2 + 1 ≤ R.frames ∧ 8 + (1 + 11) + 64 * 2 ≤ R.locals) (K : GA p l e R s m args below meth c 2 D h0 n0 Q (l_law cy h0 E a lo 6) (cs + 12) (sl + 60) 130 [(0, .ref (h0 + o)), (1, .int 6)] []) : ∀ (k j : Nat), j + k = 6 → GA p l e R s m args below meth c 2 D h0 n0 Q (l_law cy h0 E a lo j) (cs + 2 * j) (sl + 10 * j) 105 [(0, .ref (h0 + o)), (1, .int (nI j))] [] := by
  have hE : ∀ j, l_law cy h0 E a lo j o = .inr (1, fsL) := fun j => by
    unfold l_law
    rw [upE_n hoa, blk_n (by omega), he]
  have hA : ∀ j, l_law cy h0 E a lo j a = .inl (cy 5, 6, .inr (.inr (.inr (.inr (fun i => if i < j then some (h0 + (lo + 2 * i)) else none))))) := fun j => upE_s
  have tN : (6 : Int32).toInt = 6 := rfl
  intro k
  induction k with
  | zero =>
    intro j hj
    obtain rfl : j = 6 := by omega
    refine a_iload X dX1_init_105 1 rfl rfl ?_
    refine a_bipush X (v := 6) dX1_init_106 (by decide) ?_
    refine a_geT X (by decide) 130 (by decide) dX1_init_108 ?_
    exact K
  | succ k ih =>
    intro j hj
    have tj := t_nI (show j < 2147483648 by omega)
    refine a_iload X dX1_init_105 1 rfl rfl ?_
    refine a_bipush X (v := 6) dX1_init_106 (by decide) ?_
    refine a_geF X (by rw [t_le, tj, tN]; omega) 130 (by decide) dX1_init_108 ?_
    refine a_aload X dX1_init_111 0 rfl rfl ?_
    refine a_get X (ci := 1) (i := 2) (C := RX1) (T := TX1) (N := 16) (by omega) (hE j) rfl inX1 (by decide) rfl m_1_180 hfi dX1_init_112 ?_
    refine a_iload X dX1_init_115 1 rfl rfl ?_
    refine a_new X (ci := 2) (C := RX2) (T := TX2) (N := 1) rfl inX2 tyX2 tyX2_ok m_1_56 m_1_134 m_1_6 fr_2 ⟨by omega, by omega⟩ dX1_init_116 ?_
    have elo : n0 + (cs + 2 * j) = lo + 2 * j := by omega
    rw [elo]
    refine a_dup X dX1_init_119 rfl ?_
    have elo2 : n0 + (cs + 2 * j + 1) = lo + 2 * j + 1 := by omega
    have hM := c_2 (l := l) (D := D) (cy := cy) (h0 := h0) (b0 := b0) (n := lo + 2 * j + 1) (o := lo + 2 * j) (E := upE (l_law cy h0 E a lo j) (lo + 2 * j) (.inr (2, [.null]))) (by omega) upE_s
    rw [← elo2] at hM
    refine a_call X wi_2 hM m_1_135 hR ⟨by omega, by omega⟩ (Nat.le_of_ble_eq_true rfl) dX1_init_120 ?_
    rw [elo2]
    have ho2 : e2 cy h0 (upE (l_law cy h0 E a lo j) (lo + 2 * j) (.inr (2, [.null]))) (lo + 2 * j) (lo + 2 * j + 1) (lo + 2 * j) = g_law cy h0 lo (lo + 2 * j) := by
      unfold e2 g_law
      rw [if_pos (by omega)]
      simp [upE]
    obtain ⟨vs, ho3⟩ : ∃ vs, g_law cy h0 lo (lo + 2 * j) = .inr (2, vs) := by
      unfold g_law
      rw [if_pos (by omega)]
      exact ⟨_, rfl⟩
    refine a_aast2 X (o := a) (k := lo + 2 * j) (by omega) (by omega) ((e2_n (by omega) (by omega)).trans ((upE_n (by omega)).trans (hA j))) (ho2.trans ho3) (vp_in_iff.mpr ⟨by omega, by omega⟩) dX1_init_123 ?_
    refine a_iinc X (k := 1) (v := nI (j + 1)) dX1_init_124 rfl (by show nI j + 1 = _; rw [nI_1]) (by omega) rfl [1, 0] rfl ?_
    refine a_goto X 105 (by decide) dX1_init_127 ?_
    have ej : (nI j).toNatClampNeg = j := ix_nI (by omega)
    rw [ej, s_law (by omega), show cs + 2 * j + 1 + 1 = cs + 2 * (j + 1) by omega, show sl + 10 * j + 1 + 9 = sl + 10 * (j + 1) by omega]
    exact ih (j + 1) (by omega)
def g_lea (cy : Nat → ClassId) (h0 lo : Nat) : Nat → va_E := fun i => .inr (3, [.int 0, .int 0, .int 0])
def l_lea (cy : Nat → ClassId) (h0 : Nat) (E : Nat → va_E) (a lo j : Nat) : Nat → va_E := upE (blk E lo (lo + j) (g_lea cy h0 lo)) a (.inl (cy 6, 6, .inr (.inr (.inr (.inr (fun i => if i < j then some (h0 + (lo + i)) else none))))))
theorem s_lea {cy : Nat → ClassId} {h0 : Nat} {E : Nat → va_E} {a lo j : Nat} (ha : a < lo) : upE (upE (l_lea cy h0 E a lo j) (lo + j) (.inr (3, [.int 0, .int 0, .int 0]))) a (.inl (cy 6, 6, .inr (.inr (.inr (.inr (va_up (fun i => if i < j then some (h0 + (lo + i)) else none) j (some (h0 + (lo + j))))))))) = l_lea cy h0 E a lo (j + 1) := by
  have ef : va_up (fun i => if i < j then some (h0 + (lo + i)) else none) j (some (h0 + (lo + j))) = (fun i => if i < (j + 1) then some (h0 + (lo + i)) else none) := by
    funext i
    unfold va_up
    by_cases h : i = j
    · rw [if_pos h, if_pos (by omega), h]
    · rw [if_neg h]
      dsimp only
      by_cases h2 : i < j
      · rw [if_pos h2, if_pos (by omega)]
      · rw [if_neg h2, if_neg (by omega)]
  rw [ef]
  funext i
  by_cases h1 : i = a
  · rw [h1, upE_s]
    unfold l_lea
    rw [upE_s]
  · rw [upE_n h1]
    have e1 : l_lea cy h0 E a lo (j + 1) i = blk E lo (lo + (j + 1)) (g_lea cy h0 lo) i := upE_n h1
    have e0 : l_lea cy h0 E a lo j i = blk E lo (lo + j) (g_lea cy h0 lo) i := upE_n h1
    rw [e1]
    by_cases h2 : i = lo + j
    · rw [h2, upE_s, blk_y (by omega)]
      rfl
    · rw [upE_n h2, e0]
      by_cases h3 : lo ≤ i ∧ i < lo + j
      · rw [blk_y h3, blk_y (by omega)]
      · rw [blk_n h3, blk_n (by omega)]
set_option maxRecDepth 100000 in
set_option maxHeartbeats 4000000 in
theorem lp_lea {p : Program} {l : Launch} {e : Env} {R : Room} {s : State} {m : MethodId} {args : Array Value} {below : List Frame} {meth : Method} {c : Code} {D : va_G} {cy : Nat → ClassId} {h0 n0 b0 : Nat} {cs sl o a lo : Nat} {Q : State → Prop} {E : Nat → va_E} {fsL : List Value} (X : CxA p s m args meth c cX1_init 2 RX1 D cy h0 b0 n0) (hfi : fsL[5]? = some (.ref (h0 + a))) (hlo : lo = n0 + cs) (ho : o < lo) (ha : a < lo) (hoa : o ≠ a) (he : E o = .inr (1, fsL)) (hc : cs + 6 ≤ R.cells) (hs : sl + 18 ≤ R.slots) (hR : 1 + 1 ≤ R.frames ∧ 8 + (1 + 11) + 64 * 1 ≤ R.locals) (K : GA p l e R s m args below meth c 2 D h0 n0 Q (l_lea cy h0 E a lo 6) (cs + 6) (sl + 18) 157 [(0, .ref (h0 + o)), (1, .int 6)] []) : ∀ (k j : Nat), j + k = 6 → GA p l e R s m args below meth c 2 D h0 n0 Q (l_lea cy h0 E a lo j) (cs + j) (sl + 3 * j) 132 [(0, .ref (h0 + o)), (1, .int (nI j))] [] := by
  have hE : ∀ j, l_lea cy h0 E a lo j o = .inr (1, fsL) := fun j => by
    unfold l_lea
    rw [upE_n hoa, blk_n (by omega), he]
  have hA : ∀ j, l_lea cy h0 E a lo j a = .inl (cy 6, 6, .inr (.inr (.inr (.inr (fun i => if i < j then some (h0 + (lo + i)) else none))))) := fun j => upE_s
  have tN : (6 : Int32).toInt = 6 := rfl
  intro k
  induction k with
  | zero =>
    intro j hj
    obtain rfl : j = 6 := by omega
    refine a_iload X dX1_init_132 1 rfl rfl ?_
    refine a_bipush X (v := 6) dX1_init_133 (by decide) ?_
    refine a_geT X (by decide) 157 (by decide) dX1_init_135 ?_
    exact K
  | succ k ih =>
    intro j hj
    have tj := t_nI (show j < 2147483648 by omega)
    refine a_iload X dX1_init_132 1 rfl rfl ?_
    refine a_bipush X (v := 6) dX1_init_133 (by decide) ?_
    refine a_geF X (by rw [t_le, tj, tN]; omega) 157 (by decide) dX1_init_135 ?_
    refine a_aload X dX1_init_138 0 rfl rfl ?_
    refine a_get X (ci := 1) (i := 5) (C := RX1) (T := TX1) (N := 16) (by omega) (hE j) rfl inX1 (by decide) rfl m_1_186 hfi dX1_init_139 ?_
    refine a_iload X dX1_init_142 1 rfl rfl ?_
    refine a_new X (ci := 3) (C := RX3) (T := TX3) (N := 3) rfl inX3 tyX3 tyX3_ok m_1_58 m_1_155 m_1_8 fr_3 ⟨by omega, by omega⟩ dX1_init_143 ?_
    have elo : n0 + (cs + j) = lo + j := by omega
    rw [elo]
    refine a_dup X dX1_init_146 rfl ?_
    refine a_call X wi_3 (c_3 (o := lo + j) (by omega) upE_s) m_1_156 hR ⟨by omega, by omega⟩ (Nat.le_of_ble_eq_true rfl) dX1_init_147 ?_
    refine a_aast3 X (o := a) (k := lo + j) (by omega) (by omega) ((upE_n (by omega)).trans (hA j)) upE_s (vp_in_iff.mpr ⟨by omega, by omega⟩) dX1_init_150 ?_
    refine a_iinc X (k := 1) (v := nI (j + 1)) dX1_init_151 rfl (by show nI j + 1 = _; rw [nI_1]) (by omega) rfl [1, 0] rfl ?_
    refine a_goto X 132 (by decide) dX1_init_154 ?_
    have ej : (nI j).toNatClampNeg = j := ix_nI (by omega)
    rw [ej, s_lea (by omega), show cs + j + 1 + 0 = cs + (j + 1) by omega, show sl + 3 * j + 3 + 0 = sl + 3 * (j + 1) by omega]
    exact ih (j + 1) (by omega)
def g_she (cy : Nat → ClassId) (h0 lo : Nat) : Nat → va_E := fun i => if (i - lo) % 2 = 0 then .inr (5, [.int (-1), .int 0, .int (-1), .ref (h0 + (i + 1 + 0))]) else .inl (cy 2, 40, .inr (.inl (fun _ => 0)))
def l_she (cy : Nat → ClassId) (h0 : Nat) (E : Nat → va_E) (a lo j : Nat) : Nat → va_E := upE (blk E lo (lo + 2 * j) (g_she cy h0 lo)) a (.inl (cy 7, 8, .inr (.inr (.inr (.inr (fun i => if i < j then some (h0 + (lo + 2 * i)) else none))))))
theorem s_she {cy : Nat → ClassId} {h0 : Nat} {E : Nat → va_E} {a lo j : Nat} (ha : a < lo) : upE (e5 cy h0 (upE (l_she cy h0 E a lo j) (lo + 2 * j) (.inr (5, [.int 0, .int 0, .int 0, .null]))) (lo + 2 * j) (lo + 2 * j + 1)) a (.inl (cy 7, 8, .inr (.inr (.inr (.inr (va_up (fun i => if i < j then some (h0 + (lo + 2 * i)) else none) j (some (h0 + (lo + 2 * j))))))))) = l_she cy h0 E a lo (j + 1) := by
  have ef : va_up (fun i => if i < j then some (h0 + (lo + 2 * i)) else none) j (some (h0 + (lo + 2 * j))) = (fun i => if i < (j + 1) then some (h0 + (lo + 2 * i)) else none) := by
    funext i
    unfold va_up
    by_cases h : i = j
    · rw [if_pos h, if_pos (by omega), h]
    · rw [if_neg h]
      dsimp only
      by_cases h2 : i < j
      · rw [if_pos h2, if_pos (by omega)]
      · rw [if_neg h2, if_neg (by omega)]
  rw [ef]
  funext i
  by_cases h1 : i = a
  · rw [h1, upE_s]
    unfold l_she
    rw [upE_s]
  · rw [upE_n h1]
    have e1 : l_she cy h0 E a lo (j + 1) i = blk E lo (lo + 2 * (j + 1)) (g_she cy h0 lo) i := upE_n h1
    have e0 : l_she cy h0 E a lo j i = blk E lo (lo + 2 * j) (g_she cy h0 lo) i := upE_n h1
    rw [e1]
    by_cases h2 : i = lo + 2 * j
    · rw [h2, blk_y (by omega)]
      unfold e5 g_she
      rw [if_pos (by omega)]
      simp [upE]
    · by_cases h4 : i = lo + 2 * j + 1
      · rw [h4, blk_y (by omega)]
        unfold e5 g_she
        rw [if_neg (by omega)]
        simp [upE]
      · have e3 : e5 cy h0 (upE (l_she cy h0 E a lo j) (lo + 2 * j) (.inr (5, [.int 0, .int 0, .int 0, .null]))) (lo + 2 * j) (lo + 2 * j + 1) i = l_she cy h0 E a lo j i := by
          unfold e5 upE
          repeat rw [if_neg (by omega)]
        rw [e3, e0]
        by_cases h3 : lo ≤ i ∧ i < lo + 2 * j
        · rw [blk_y h3, blk_y (by omega)]
        · rw [blk_n h3, blk_n (by omega)]
set_option maxRecDepth 100000 in
set_option maxHeartbeats 4000000 in
theorem lp_she {p : Program} {l : Launch} {e : Env} {R : Room} {s : State} {m : MethodId} {args : Array Value} {below : List Frame} {meth : Method} {c : Code} {D : va_G} {cy : Nat → ClassId} {h0 n0 b0 : Nat} {cs sl o a lo : Nat} {Q : State → Prop} {E : Nat → va_E} {fsL : List Value} (X : CxA p s m args meth c cX10_init 2 RX10 D cy h0 b0 n0) (hfi : fsL[0]? = some (.ref (h0 + a))) (hlo : lo = n0 + cs) (ho : o < lo) (ha : a < lo) (hoa : o ≠ a) (he : E o = .inr (10, fsL)) (hc : cs + 16 ≤ R.cells) (hs : sl + 352 ≤ R.slots) (hR : 1 + 1 ≤ R.frames ∧ 8 + (1 + 11) + 64 * 1 ≤ R.locals) (K : GA p l e R s m args below meth c 2 D h0 n0 Q (l_she cy h0 E a lo 8) (cs + 16) (sl + 352) 132 [(0, .ref (h0 + o)), (1, .int 8)] []) : ∀ (k j : Nat), j + k = 8 → GA p l e R s m args below meth c 2 D h0 n0 Q (l_she cy h0 E a lo j) (cs + 2 * j) (sl + 44 * j) 107 [(0, .ref (h0 + o)), (1, .int (nI j))] [] := by
  have hE : ∀ j, l_she cy h0 E a lo j o = .inr (10, fsL) := fun j => by
    unfold l_she
    rw [upE_n hoa, blk_n (by omega), he]
  have hA : ∀ j, l_she cy h0 E a lo j a = .inl (cy 7, 8, .inr (.inr (.inr (.inr (fun i => if i < j then some (h0 + (lo + 2 * i)) else none))))) := fun j => upE_s
  have tN : (8 : Int32).toInt = 8 := rfl
  intro k
  induction k with
  | zero =>
    intro j hj
    obtain rfl : j = 8 := by omega
    refine a_iload X dX10_init_107 1 rfl rfl ?_
    refine a_bipush X (v := 8) dX10_init_108 (by decide) ?_
    refine a_geT X (by decide) 132 (by decide) dX10_init_110 ?_
    exact K
  | succ k ih =>
    intro j hj
    have tj := t_nI (show j < 2147483648 by omega)
    refine a_iload X dX10_init_107 1 rfl rfl ?_
    refine a_bipush X (v := 8) dX10_init_108 (by decide) ?_
    refine a_geF X (by rw [t_le, tj, tN]; omega) 132 (by decide) dX10_init_110 ?_
    refine a_aload X dX10_init_113 0 rfl rfl ?_
    refine a_get X (ci := 10) (i := 0) (C := RX10) (T := TX10) (N := 11) (by omega) (hE j) rfl inX10 (by decide) rfl m_2_126 hfi dX10_init_114 ?_
    refine a_iload X dX10_init_117 1 rfl rfl ?_
    refine a_new X (ci := 5) (C := RX5) (T := TX5) (N := 4) rfl inX5 tyX5 tyX5_ok m_1_28 m_2_103 m_1_12 fr_5 ⟨by omega, by omega⟩ dX10_init_118 ?_
    have elo : n0 + (cs + 2 * j) = lo + 2 * j := by omega
    rw [elo]
    refine a_dup X dX10_init_121 rfl ?_
    have elo2 : n0 + (cs + 2 * j + 1) = lo + 2 * j + 1 := by omega
    have hM := c_5 (l := l) (D := D) (cy := cy) (h0 := h0) (b0 := b0) (n := lo + 2 * j + 1) (o := lo + 2 * j) (E := upE (l_she cy h0 E a lo j) (lo + 2 * j) (.inr (5, [.int 0, .int 0, .int 0, .null]))) (by omega) upE_s
    rw [← elo2] at hM
    refine a_call X wi_5 hM m_2_104 hR ⟨by omega, by omega⟩ (Nat.le_of_ble_eq_true rfl) dX10_init_122 ?_
    rw [elo2]
    have ho2 : e5 cy h0 (upE (l_she cy h0 E a lo j) (lo + 2 * j) (.inr (5, [.int 0, .int 0, .int 0, .null]))) (lo + 2 * j) (lo + 2 * j + 1) (lo + 2 * j) = g_she cy h0 lo (lo + 2 * j) := by
      unfold e5 g_she
      rw [if_pos (by omega)]
      simp [upE]
    obtain ⟨vs, ho3⟩ : ∃ vs, g_she cy h0 lo (lo + 2 * j) = .inr (5, vs) := by
      unfold g_she
      rw [if_pos (by omega)]
      exact ⟨_, rfl⟩
    refine a_aast5 X (o := a) (k := lo + 2 * j) (by omega) (by omega) ((e5_n (by omega) (by omega)).trans ((upE_n (by omega)).trans (hA j))) (ho2.trans ho3) (vp_in_iff.mpr ⟨by omega, by omega⟩) dX10_init_125 ?_
    refine a_iinc X (k := 1) (v := nI (j + 1)) dX10_init_126 rfl (by show nI j + 1 = _; rw [nI_1]) (by omega) rfl [1, 0] rfl ?_
    refine a_goto X 107 (by decide) dX10_init_129 ?_
    have ej : (nI j).toNatClampNeg = j := ix_nI (by omega)
    rw [ej, s_she (by omega), show cs + 2 * j + 1 + 1 = cs + 2 * (j + 1) by omega, show sl + 44 * j + 4 + 40 = sl + 44 * (j + 1) by omega]
    exact ih (j + 1) (by omega)
