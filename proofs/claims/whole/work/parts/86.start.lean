-- the memory behind the constructors
def piL : List Nat := [0, 1, 118, 120, 122, 124, 126, 128, 130, 132, 119, 121, 123, 125, 127, 129, 131, 133, 2, 3, 4, 5, 13, 14, 15, 16, 17, 18, 19, 20, 21, 22, 23, 24, 25, 26, 27, 28, 29, 30, 31, 32, 6, 33, 35, 37, 39, 41, 43, 161, 34, 36, 38, 40, 42, 44, 162, 7, 45, 46, 47, 48, 49, 50, 8, 9, 10, 11, 12, 51, 52, 60, 61, 62, 63, 64, 65, 66, 67, 68, 69, 70, 71, 72, 73, 74, 75, 76, 77, 78, 79, 53, 80, 82, 84, 86, 88, 90, 163, 81, 83, 85, 87, 89, 91, 164, 54, 92, 93, 94, 95, 96, 97, 55, 56, 57, 58, 59, 98, 99, 100, 101, 102, 103, 104, 105, 106, 107, 108, 109, 110, 111, 112, 113, 114, 115, 116, 117, 134, 135, 136, 137, 138, 139, 140, 141, 142, 143, 144, 145, 146, 147, 148, 149, 150, 151, 152, 153, 154, 155, 156, 157, 158, 159, 160]
def adf (h0 : Nat) (sa : Nat → Nat) : Nat → Nat := fun k => if k < 165 then h0 + piL.getD k 0 else sa k
def C00 : Nat → Nat → Int32 := fun k => if 2 ≤ k ∧ k < 10 then (fun i => if i = 0 then -1 else if i = 2 then -1 else 0) else if k = 20 ∨ k = 69 then (fun i => if i = 4 then -1 else if i = 15 then 1 else 0) else if (50 ≤ k ∧ k < 57) ∨ (99 ≤ k ∧ k < 106) then lawrow else if k = 67 ∨ k = 116 then (fun i => if i = 0 then -1 else 0) else fun _ => 0
def C0 : Mem := (C00, fun _ _ => 0)
def hold0 : Nat → Int32 := upd (upd (upd (upd (upd (upd (upd (upd (fun _ => 0) 0 (-1)) 1 (-1)) 2 (-1)) 3 (-1)) 4 (-1)) 5 (-1)) 6 (-1)) 7 (-1)
def lake0 : Nat → Int32 := upd (upd (fun _ => 0) 4 (-1)) 8 1
def N0 : Mem := (fun k => if k = 139 then hold0 else if k = 156 then lake0 else fun _ => 0, fun _ _ => 0)
def Ea : Nat → va_E := upE (fun _ => .inr (0, [])) 0 (.inr (10, [.null, .null, .null, .null, .int 0, .null, .null, .null, .null, .null, .null]))
def Eb (cy : Nat → ClassId) (h0 : Nat) : Nat → va_E := e10 cy h0 Ea 0 1
def Ec (cy : Nat → ClassId) (h0 : Nat) : Nat → va_E := upE (Eb cy h0) 134 (.inr (11, [.null, .null, .null, .null, .null, .null, .null, .null, .int 0, .null, .null, .null, .null, .null, .null, .null, .null, .null, .null, .null, .null, .int 0, .null, .null, .null, .null, .null, .null]))
def Ed (cy : Nat → ClassId) (h0 : Nat) : Nat → va_E := e11 cy h0 (Ec cy h0) 134 135
def ceq (x y : va_E) : Prop := x = y ∨ ∃ (cA : ClassId) (n : Nat) (f g : Nat → Option Nat), x = .inl (cA, n, .inr (.inr (.inr (.inr f)))) ∧ y = .inl (cA, n, .inr (.inr (.inr (.inr g)))) ∧ ∀ j, j < n → f j = g j
set_option maxRecDepth 100000 in
set_option maxHeartbeats 4000000 in
theorem pk_0 (cy : Nat → ClassId) (h0 : Nat) (sa : Nat → Nat) : ceq (Ed cy h0 0) (mk cy (adf h0 sa) (kd 0) 0 ((cmb C0 N0).1 0) ((cmb C0 N0).2 0)) := Or.inl rfl
set_option maxRecDepth 100000 in
set_option maxHeartbeats 4000000 in
theorem pk_1 (cy : Nat → ClassId) (h0 : Nat) (sa : Nat → Nat) : ceq (Ed cy h0 1) (mk cy (adf h0 sa) (kd 1) 1 ((cmb C0 N0).1 1) ((cmb C0 N0).2 1)) := Or.inr ⟨cy 7, 8, _, _, rfl, rfl, fun j hj => by
  rcases (show j = 0 ∨ j = 1 ∨ j = 2 ∨ j = 3 ∨ j = 4 ∨ j = 5 ∨ j = 6 ∨ j = 7 by omega) with rfl | rfl | rfl | rfl | rfl | rfl | rfl | rfl
  all_goals rfl⟩
set_option maxRecDepth 100000 in
set_option maxHeartbeats 4000000 in
theorem pk_2 (cy : Nat → ClassId) (h0 : Nat) (sa : Nat → Nat) : ceq (Ed cy h0 118) (mk cy (adf h0 sa) (kd 2) 2 ((cmb C0 N0).1 2) ((cmb C0 N0).2 2)) := Or.inl rfl
set_option maxRecDepth 100000 in
set_option maxHeartbeats 4000000 in
theorem pk_3 (cy : Nat → ClassId) (h0 : Nat) (sa : Nat → Nat) : ceq (Ed cy h0 120) (mk cy (adf h0 sa) (kd 3) 3 ((cmb C0 N0).1 3) ((cmb C0 N0).2 3)) := Or.inl rfl
set_option maxRecDepth 100000 in
set_option maxHeartbeats 4000000 in
theorem pk_4 (cy : Nat → ClassId) (h0 : Nat) (sa : Nat → Nat) : ceq (Ed cy h0 122) (mk cy (adf h0 sa) (kd 4) 4 ((cmb C0 N0).1 4) ((cmb C0 N0).2 4)) := Or.inl rfl
set_option maxRecDepth 100000 in
set_option maxHeartbeats 4000000 in
theorem pk_5 (cy : Nat → ClassId) (h0 : Nat) (sa : Nat → Nat) : ceq (Ed cy h0 124) (mk cy (adf h0 sa) (kd 5) 5 ((cmb C0 N0).1 5) ((cmb C0 N0).2 5)) := Or.inl rfl
set_option maxRecDepth 100000 in
set_option maxHeartbeats 4000000 in
theorem pk_6 (cy : Nat → ClassId) (h0 : Nat) (sa : Nat → Nat) : ceq (Ed cy h0 126) (mk cy (adf h0 sa) (kd 6) 6 ((cmb C0 N0).1 6) ((cmb C0 N0).2 6)) := Or.inl rfl
set_option maxRecDepth 100000 in
set_option maxHeartbeats 4000000 in
theorem pk_7 (cy : Nat → ClassId) (h0 : Nat) (sa : Nat → Nat) : ceq (Ed cy h0 128) (mk cy (adf h0 sa) (kd 7) 7 ((cmb C0 N0).1 7) ((cmb C0 N0).2 7)) := Or.inl rfl
set_option maxRecDepth 100000 in
set_option maxHeartbeats 4000000 in
theorem pk_8 (cy : Nat → ClassId) (h0 : Nat) (sa : Nat → Nat) : ceq (Ed cy h0 130) (mk cy (adf h0 sa) (kd 8) 8 ((cmb C0 N0).1 8) ((cmb C0 N0).2 8)) := Or.inl rfl
set_option maxRecDepth 100000 in
set_option maxHeartbeats 4000000 in
theorem pk_9 (cy : Nat → ClassId) (h0 : Nat) (sa : Nat → Nat) : ceq (Ed cy h0 132) (mk cy (adf h0 sa) (kd 9) 9 ((cmb C0 N0).1 9) ((cmb C0 N0).2 9)) := Or.inl rfl
set_option maxRecDepth 100000 in
set_option maxHeartbeats 4000000 in
theorem pk_10 (cy : Nat → ClassId) (h0 : Nat) (sa : Nat → Nat) : ceq (Ed cy h0 119) (mk cy (adf h0 sa) (kd 10) 10 ((cmb C0 N0).1 10) ((cmb C0 N0).2 10)) := Or.inl rfl
set_option maxRecDepth 100000 in
set_option maxHeartbeats 4000000 in
theorem pk_11 (cy : Nat → ClassId) (h0 : Nat) (sa : Nat → Nat) : ceq (Ed cy h0 121) (mk cy (adf h0 sa) (kd 11) 11 ((cmb C0 N0).1 11) ((cmb C0 N0).2 11)) := Or.inl rfl
set_option maxRecDepth 100000 in
set_option maxHeartbeats 4000000 in
theorem pk_12 (cy : Nat → ClassId) (h0 : Nat) (sa : Nat → Nat) : ceq (Ed cy h0 123) (mk cy (adf h0 sa) (kd 12) 12 ((cmb C0 N0).1 12) ((cmb C0 N0).2 12)) := Or.inl rfl
set_option maxRecDepth 100000 in
set_option maxHeartbeats 4000000 in
theorem pk_13 (cy : Nat → ClassId) (h0 : Nat) (sa : Nat → Nat) : ceq (Ed cy h0 125) (mk cy (adf h0 sa) (kd 13) 13 ((cmb C0 N0).1 13) ((cmb C0 N0).2 13)) := Or.inl rfl
set_option maxRecDepth 100000 in
set_option maxHeartbeats 4000000 in
theorem pk_14 (cy : Nat → ClassId) (h0 : Nat) (sa : Nat → Nat) : ceq (Ed cy h0 127) (mk cy (adf h0 sa) (kd 14) 14 ((cmb C0 N0).1 14) ((cmb C0 N0).2 14)) := Or.inl rfl
set_option maxRecDepth 100000 in
set_option maxHeartbeats 4000000 in
theorem pk_15 (cy : Nat → ClassId) (h0 : Nat) (sa : Nat → Nat) : ceq (Ed cy h0 129) (mk cy (adf h0 sa) (kd 15) 15 ((cmb C0 N0).1 15) ((cmb C0 N0).2 15)) := Or.inl rfl
set_option maxRecDepth 100000 in
set_option maxHeartbeats 4000000 in
theorem pk_16 (cy : Nat → ClassId) (h0 : Nat) (sa : Nat → Nat) : ceq (Ed cy h0 131) (mk cy (adf h0 sa) (kd 16) 16 ((cmb C0 N0).1 16) ((cmb C0 N0).2 16)) := Or.inl rfl
set_option maxRecDepth 100000 in
set_option maxHeartbeats 4000000 in
theorem pk_17 (cy : Nat → ClassId) (h0 : Nat) (sa : Nat → Nat) : ceq (Ed cy h0 133) (mk cy (adf h0 sa) (kd 17) 17 ((cmb C0 N0).1 17) ((cmb C0 N0).2 17)) := Or.inl rfl
set_option maxRecDepth 100000 in
set_option maxHeartbeats 4000000 in
theorem pk_18 (cy : Nat → ClassId) (h0 : Nat) (sa : Nat → Nat) : ceq (Ed cy h0 2) (mk cy (adf h0 sa) (kd 18) 18 ((cmb C0 N0).1 18) ((cmb C0 N0).2 18)) := Or.inl rfl
set_option maxRecDepth 100000 in
set_option maxHeartbeats 4000000 in
theorem pk_19 (cy : Nat → ClassId) (h0 : Nat) (sa : Nat → Nat) : ceq (Ed cy h0 3) (mk cy (adf h0 sa) (kd 19) 19 ((cmb C0 N0).1 19) ((cmb C0 N0).2 19)) := Or.inl rfl
set_option maxRecDepth 100000 in
set_option maxHeartbeats 4000000 in
theorem pk_20 (cy : Nat → ClassId) (h0 : Nat) (sa : Nat → Nat) : ceq (Ed cy h0 4) (mk cy (adf h0 sa) (kd 20) 20 ((cmb C0 N0).1 20) ((cmb C0 N0).2 20)) := Or.inl rfl
set_option maxRecDepth 100000 in
set_option maxHeartbeats 4000000 in
theorem pk_21 (cy : Nat → ClassId) (h0 : Nat) (sa : Nat → Nat) : ceq (Ed cy h0 5) (mk cy (adf h0 sa) (kd 21) 21 ((cmb C0 N0).1 21) ((cmb C0 N0).2 21)) := Or.inr ⟨cy 4, 20, _, _, rfl, rfl, fun j hj => by
  rcases (show j = 0 ∨ j = 1 ∨ j = 2 ∨ j = 3 ∨ j = 4 ∨ j = 5 ∨ j = 6 ∨ j = 7 ∨ j = 8 ∨ j = 9 ∨ j = 10 ∨ j = 11 ∨ j = 12 ∨ j = 13 ∨ j = 14 ∨ j = 15 ∨ j = 16 ∨ j = 17 ∨ j = 18 ∨ j = 19 by omega) with rfl | rfl | rfl | rfl | rfl | rfl | rfl | rfl | rfl | rfl | rfl | rfl | rfl | rfl | rfl | rfl | rfl | rfl | rfl | rfl
  all_goals rfl⟩
set_option maxRecDepth 100000 in
set_option maxHeartbeats 4000000 in
theorem pk_22 (cy : Nat → ClassId) (h0 : Nat) (sa : Nat → Nat) : ceq (Ed cy h0 13) (mk cy (adf h0 sa) (kd 22) 22 ((cmb C0 N0).1 22) ((cmb C0 N0).2 22)) := Or.inl rfl
set_option maxRecDepth 100000 in
set_option maxHeartbeats 4000000 in
theorem pk_23 (cy : Nat → ClassId) (h0 : Nat) (sa : Nat → Nat) : ceq (Ed cy h0 14) (mk cy (adf h0 sa) (kd 23) 23 ((cmb C0 N0).1 23) ((cmb C0 N0).2 23)) := Or.inl rfl
set_option maxRecDepth 100000 in
set_option maxHeartbeats 4000000 in
theorem pk_24 (cy : Nat → ClassId) (h0 : Nat) (sa : Nat → Nat) : ceq (Ed cy h0 15) (mk cy (adf h0 sa) (kd 24) 24 ((cmb C0 N0).1 24) ((cmb C0 N0).2 24)) := Or.inl rfl
set_option maxRecDepth 100000 in
set_option maxHeartbeats 4000000 in
theorem pk_25 (cy : Nat → ClassId) (h0 : Nat) (sa : Nat → Nat) : ceq (Ed cy h0 16) (mk cy (adf h0 sa) (kd 25) 25 ((cmb C0 N0).1 25) ((cmb C0 N0).2 25)) := Or.inl rfl
set_option maxRecDepth 100000 in
set_option maxHeartbeats 4000000 in
theorem pk_26 (cy : Nat → ClassId) (h0 : Nat) (sa : Nat → Nat) : ceq (Ed cy h0 17) (mk cy (adf h0 sa) (kd 26) 26 ((cmb C0 N0).1 26) ((cmb C0 N0).2 26)) := Or.inl rfl
set_option maxRecDepth 100000 in
set_option maxHeartbeats 4000000 in
theorem pk_27 (cy : Nat → ClassId) (h0 : Nat) (sa : Nat → Nat) : ceq (Ed cy h0 18) (mk cy (adf h0 sa) (kd 27) 27 ((cmb C0 N0).1 27) ((cmb C0 N0).2 27)) := Or.inl rfl
set_option maxRecDepth 100000 in
set_option maxHeartbeats 4000000 in
theorem pk_28 (cy : Nat → ClassId) (h0 : Nat) (sa : Nat → Nat) : ceq (Ed cy h0 19) (mk cy (adf h0 sa) (kd 28) 28 ((cmb C0 N0).1 28) ((cmb C0 N0).2 28)) := Or.inl rfl
set_option maxRecDepth 100000 in
set_option maxHeartbeats 4000000 in
theorem pk_29 (cy : Nat → ClassId) (h0 : Nat) (sa : Nat → Nat) : ceq (Ed cy h0 20) (mk cy (adf h0 sa) (kd 29) 29 ((cmb C0 N0).1 29) ((cmb C0 N0).2 29)) := Or.inl rfl
set_option maxRecDepth 100000 in
set_option maxHeartbeats 4000000 in
theorem pk_30 (cy : Nat → ClassId) (h0 : Nat) (sa : Nat → Nat) : ceq (Ed cy h0 21) (mk cy (adf h0 sa) (kd 30) 30 ((cmb C0 N0).1 30) ((cmb C0 N0).2 30)) := Or.inl rfl
set_option maxRecDepth 100000 in
set_option maxHeartbeats 4000000 in
theorem pk_31 (cy : Nat → ClassId) (h0 : Nat) (sa : Nat → Nat) : ceq (Ed cy h0 22) (mk cy (adf h0 sa) (kd 31) 31 ((cmb C0 N0).1 31) ((cmb C0 N0).2 31)) := Or.inl rfl
set_option maxRecDepth 100000 in
set_option maxHeartbeats 4000000 in
theorem pk_32 (cy : Nat → ClassId) (h0 : Nat) (sa : Nat → Nat) : ceq (Ed cy h0 23) (mk cy (adf h0 sa) (kd 32) 32 ((cmb C0 N0).1 32) ((cmb C0 N0).2 32)) := Or.inl rfl
set_option maxRecDepth 100000 in
set_option maxHeartbeats 4000000 in
theorem pk_33 (cy : Nat → ClassId) (h0 : Nat) (sa : Nat → Nat) : ceq (Ed cy h0 24) (mk cy (adf h0 sa) (kd 33) 33 ((cmb C0 N0).1 33) ((cmb C0 N0).2 33)) := Or.inl rfl
set_option maxRecDepth 100000 in
set_option maxHeartbeats 4000000 in
theorem pk_34 (cy : Nat → ClassId) (h0 : Nat) (sa : Nat → Nat) : ceq (Ed cy h0 25) (mk cy (adf h0 sa) (kd 34) 34 ((cmb C0 N0).1 34) ((cmb C0 N0).2 34)) := Or.inl rfl
set_option maxRecDepth 100000 in
set_option maxHeartbeats 4000000 in
theorem pk_35 (cy : Nat → ClassId) (h0 : Nat) (sa : Nat → Nat) : ceq (Ed cy h0 26) (mk cy (adf h0 sa) (kd 35) 35 ((cmb C0 N0).1 35) ((cmb C0 N0).2 35)) := Or.inl rfl
set_option maxRecDepth 100000 in
set_option maxHeartbeats 4000000 in
theorem pk_36 (cy : Nat → ClassId) (h0 : Nat) (sa : Nat → Nat) : ceq (Ed cy h0 27) (mk cy (adf h0 sa) (kd 36) 36 ((cmb C0 N0).1 36) ((cmb C0 N0).2 36)) := Or.inl rfl
set_option maxRecDepth 100000 in
set_option maxHeartbeats 4000000 in
theorem pk_37 (cy : Nat → ClassId) (h0 : Nat) (sa : Nat → Nat) : ceq (Ed cy h0 28) (mk cy (adf h0 sa) (kd 37) 37 ((cmb C0 N0).1 37) ((cmb C0 N0).2 37)) := Or.inl rfl
set_option maxRecDepth 100000 in
set_option maxHeartbeats 4000000 in
theorem pk_38 (cy : Nat → ClassId) (h0 : Nat) (sa : Nat → Nat) : ceq (Ed cy h0 29) (mk cy (adf h0 sa) (kd 38) 38 ((cmb C0 N0).1 38) ((cmb C0 N0).2 38)) := Or.inl rfl
set_option maxRecDepth 100000 in
set_option maxHeartbeats 4000000 in
theorem pk_39 (cy : Nat → ClassId) (h0 : Nat) (sa : Nat → Nat) : ceq (Ed cy h0 30) (mk cy (adf h0 sa) (kd 39) 39 ((cmb C0 N0).1 39) ((cmb C0 N0).2 39)) := Or.inl rfl
set_option maxRecDepth 100000 in
set_option maxHeartbeats 4000000 in
theorem pk_40 (cy : Nat → ClassId) (h0 : Nat) (sa : Nat → Nat) : ceq (Ed cy h0 31) (mk cy (adf h0 sa) (kd 40) 40 ((cmb C0 N0).1 40) ((cmb C0 N0).2 40)) := Or.inl rfl
set_option maxRecDepth 100000 in
set_option maxHeartbeats 4000000 in
theorem pk_41 (cy : Nat → ClassId) (h0 : Nat) (sa : Nat → Nat) : ceq (Ed cy h0 32) (mk cy (adf h0 sa) (kd 41) 41 ((cmb C0 N0).1 41) ((cmb C0 N0).2 41)) := Or.inl rfl
set_option maxRecDepth 100000 in
set_option maxHeartbeats 4000000 in
theorem pk_42 (cy : Nat → ClassId) (h0 : Nat) (sa : Nat → Nat) : ceq (Ed cy h0 6) (mk cy (adf h0 sa) (kd 42) 42 ((cmb C0 N0).1 42) ((cmb C0 N0).2 42)) := Or.inr ⟨cy 5, 6, _, _, rfl, rfl, fun j hj => by
  rcases (show j = 0 ∨ j = 1 ∨ j = 2 ∨ j = 3 ∨ j = 4 ∨ j = 5 by omega) with rfl | rfl | rfl | rfl | rfl | rfl
  all_goals rfl⟩
set_option maxRecDepth 100000 in
set_option maxHeartbeats 4000000 in
theorem pk_43 (cy : Nat → ClassId) (h0 : Nat) (sa : Nat → Nat) : ceq (Ed cy h0 33) (mk cy (adf h0 sa) (kd 43) 43 ((cmb C0 N0).1 43) ((cmb C0 N0).2 43)) := Or.inl rfl
set_option maxRecDepth 100000 in
set_option maxHeartbeats 4000000 in
theorem pk_44 (cy : Nat → ClassId) (h0 : Nat) (sa : Nat → Nat) : ceq (Ed cy h0 35) (mk cy (adf h0 sa) (kd 44) 44 ((cmb C0 N0).1 44) ((cmb C0 N0).2 44)) := Or.inl rfl
set_option maxRecDepth 100000 in
set_option maxHeartbeats 4000000 in
theorem pk_45 (cy : Nat → ClassId) (h0 : Nat) (sa : Nat → Nat) : ceq (Ed cy h0 37) (mk cy (adf h0 sa) (kd 45) 45 ((cmb C0 N0).1 45) ((cmb C0 N0).2 45)) := Or.inl rfl
set_option maxRecDepth 100000 in
set_option maxHeartbeats 4000000 in
theorem pk_46 (cy : Nat → ClassId) (h0 : Nat) (sa : Nat → Nat) : ceq (Ed cy h0 39) (mk cy (adf h0 sa) (kd 46) 46 ((cmb C0 N0).1 46) ((cmb C0 N0).2 46)) := Or.inl rfl
set_option maxRecDepth 100000 in
set_option maxHeartbeats 4000000 in
theorem pk_47 (cy : Nat → ClassId) (h0 : Nat) (sa : Nat → Nat) : ceq (Ed cy h0 41) (mk cy (adf h0 sa) (kd 47) 47 ((cmb C0 N0).1 47) ((cmb C0 N0).2 47)) := Or.inl rfl
set_option maxRecDepth 100000 in
set_option maxHeartbeats 4000000 in
theorem pk_48 (cy : Nat → ClassId) (h0 : Nat) (sa : Nat → Nat) : ceq (Ed cy h0 43) (mk cy (adf h0 sa) (kd 48) 48 ((cmb C0 N0).1 48) ((cmb C0 N0).2 48)) := Or.inl rfl
set_option maxRecDepth 100000 in
set_option maxHeartbeats 4000000 in
theorem pk_50 (cy : Nat → ClassId) (h0 : Nat) (sa : Nat → Nat) : ceq (Ed cy h0 34) (mk cy (adf h0 sa) (kd 50) 50 ((cmb C0 N0).1 50) ((cmb C0 N0).2 50)) := Or.inl rfl
set_option maxRecDepth 100000 in
set_option maxHeartbeats 4000000 in
theorem pk_51 (cy : Nat → ClassId) (h0 : Nat) (sa : Nat → Nat) : ceq (Ed cy h0 36) (mk cy (adf h0 sa) (kd 51) 51 ((cmb C0 N0).1 51) ((cmb C0 N0).2 51)) := Or.inl rfl
set_option maxRecDepth 100000 in
set_option maxHeartbeats 4000000 in
theorem pk_52 (cy : Nat → ClassId) (h0 : Nat) (sa : Nat → Nat) : ceq (Ed cy h0 38) (mk cy (adf h0 sa) (kd 52) 52 ((cmb C0 N0).1 52) ((cmb C0 N0).2 52)) := Or.inl rfl
set_option maxRecDepth 100000 in
set_option maxHeartbeats 4000000 in
theorem pk_53 (cy : Nat → ClassId) (h0 : Nat) (sa : Nat → Nat) : ceq (Ed cy h0 40) (mk cy (adf h0 sa) (kd 53) 53 ((cmb C0 N0).1 53) ((cmb C0 N0).2 53)) := Or.inl rfl
set_option maxRecDepth 100000 in
set_option maxHeartbeats 4000000 in
theorem pk_54 (cy : Nat → ClassId) (h0 : Nat) (sa : Nat → Nat) : ceq (Ed cy h0 42) (mk cy (adf h0 sa) (kd 54) 54 ((cmb C0 N0).1 54) ((cmb C0 N0).2 54)) := Or.inl rfl
set_option maxRecDepth 100000 in
set_option maxHeartbeats 4000000 in
theorem pk_55 (cy : Nat → ClassId) (h0 : Nat) (sa : Nat → Nat) : ceq (Ed cy h0 44) (mk cy (adf h0 sa) (kd 55) 55 ((cmb C0 N0).1 55) ((cmb C0 N0).2 55)) := Or.inl rfl
set_option maxRecDepth 100000 in
set_option maxHeartbeats 4000000 in
theorem pk_57 (cy : Nat → ClassId) (h0 : Nat) (sa : Nat → Nat) : ceq (Ed cy h0 7) (mk cy (adf h0 sa) (kd 57) 57 ((cmb C0 N0).1 57) ((cmb C0 N0).2 57)) := Or.inr ⟨cy 6, 6, _, _, rfl, rfl, fun j hj => by
  rcases (show j = 0 ∨ j = 1 ∨ j = 2 ∨ j = 3 ∨ j = 4 ∨ j = 5 by omega) with rfl | rfl | rfl | rfl | rfl | rfl
  all_goals rfl⟩
set_option maxRecDepth 100000 in
set_option maxHeartbeats 4000000 in
theorem pk_58 (cy : Nat → ClassId) (h0 : Nat) (sa : Nat → Nat) : ceq (Ed cy h0 45) (mk cy (adf h0 sa) (kd 58) 58 ((cmb C0 N0).1 58) ((cmb C0 N0).2 58)) := Or.inl rfl
set_option maxRecDepth 100000 in
set_option maxHeartbeats 4000000 in
theorem pk_59 (cy : Nat → ClassId) (h0 : Nat) (sa : Nat → Nat) : ceq (Ed cy h0 46) (mk cy (adf h0 sa) (kd 59) 59 ((cmb C0 N0).1 59) ((cmb C0 N0).2 59)) := Or.inl rfl
set_option maxRecDepth 100000 in
set_option maxHeartbeats 4000000 in
theorem pk_60 (cy : Nat → ClassId) (h0 : Nat) (sa : Nat → Nat) : ceq (Ed cy h0 47) (mk cy (adf h0 sa) (kd 60) 60 ((cmb C0 N0).1 60) ((cmb C0 N0).2 60)) := Or.inl rfl
set_option maxRecDepth 100000 in
set_option maxHeartbeats 4000000 in
theorem pk_61 (cy : Nat → ClassId) (h0 : Nat) (sa : Nat → Nat) : ceq (Ed cy h0 48) (mk cy (adf h0 sa) (kd 61) 61 ((cmb C0 N0).1 61) ((cmb C0 N0).2 61)) := Or.inl rfl
set_option maxRecDepth 100000 in
set_option maxHeartbeats 4000000 in
theorem pk_62 (cy : Nat → ClassId) (h0 : Nat) (sa : Nat → Nat) : ceq (Ed cy h0 49) (mk cy (adf h0 sa) (kd 62) 62 ((cmb C0 N0).1 62) ((cmb C0 N0).2 62)) := Or.inl rfl
set_option maxRecDepth 100000 in
set_option maxHeartbeats 4000000 in
theorem pk_63 (cy : Nat → ClassId) (h0 : Nat) (sa : Nat → Nat) : ceq (Ed cy h0 50) (mk cy (adf h0 sa) (kd 63) 63 ((cmb C0 N0).1 63) ((cmb C0 N0).2 63)) := Or.inl rfl
set_option maxRecDepth 100000 in
set_option maxHeartbeats 4000000 in
theorem pk_64 (cy : Nat → ClassId) (h0 : Nat) (sa : Nat → Nat) : ceq (Ed cy h0 8) (mk cy (adf h0 sa) (kd 64) 64 ((cmb C0 N0).1 64) ((cmb C0 N0).2 64)) := Or.inl rfl
set_option maxRecDepth 100000 in
set_option maxHeartbeats 4000000 in
theorem pk_65 (cy : Nat → ClassId) (h0 : Nat) (sa : Nat → Nat) : ceq (Ed cy h0 9) (mk cy (adf h0 sa) (kd 65) 65 ((cmb C0 N0).1 65) ((cmb C0 N0).2 65)) := Or.inl rfl
set_option maxRecDepth 100000 in
set_option maxHeartbeats 4000000 in
theorem pk_66 (cy : Nat → ClassId) (h0 : Nat) (sa : Nat → Nat) : ceq (Ed cy h0 10) (mk cy (adf h0 sa) (kd 66) 66 ((cmb C0 N0).1 66) ((cmb C0 N0).2 66)) := Or.inl rfl
set_option maxRecDepth 100000 in
set_option maxHeartbeats 4000000 in
theorem pk_67 (cy : Nat → ClassId) (h0 : Nat) (sa : Nat → Nat) : ceq (Ed cy h0 11) (mk cy (adf h0 sa) (kd 67) 67 ((cmb C0 N0).1 67) ((cmb C0 N0).2 67)) := Or.inl rfl
set_option maxRecDepth 100000 in
set_option maxHeartbeats 4000000 in
theorem pk_68 (cy : Nat → ClassId) (h0 : Nat) (sa : Nat → Nat) : ceq (Ed cy h0 12) (mk cy (adf h0 sa) (kd 68) 68 ((cmb C0 N0).1 68) ((cmb C0 N0).2 68)) := Or.inl rfl
set_option maxRecDepth 100000 in
set_option maxHeartbeats 4000000 in
theorem pk_69 (cy : Nat → ClassId) (h0 : Nat) (sa : Nat → Nat) : ceq (Ed cy h0 51) (mk cy (adf h0 sa) (kd 69) 69 ((cmb C0 N0).1 69) ((cmb C0 N0).2 69)) := Or.inl rfl
set_option maxRecDepth 100000 in
set_option maxHeartbeats 4000000 in
theorem pk_70 (cy : Nat → ClassId) (h0 : Nat) (sa : Nat → Nat) : ceq (Ed cy h0 52) (mk cy (adf h0 sa) (kd 70) 70 ((cmb C0 N0).1 70) ((cmb C0 N0).2 70)) := Or.inr ⟨cy 4, 20, _, _, rfl, rfl, fun j hj => by
  rcases (show j = 0 ∨ j = 1 ∨ j = 2 ∨ j = 3 ∨ j = 4 ∨ j = 5 ∨ j = 6 ∨ j = 7 ∨ j = 8 ∨ j = 9 ∨ j = 10 ∨ j = 11 ∨ j = 12 ∨ j = 13 ∨ j = 14 ∨ j = 15 ∨ j = 16 ∨ j = 17 ∨ j = 18 ∨ j = 19 by omega) with rfl | rfl | rfl | rfl | rfl | rfl | rfl | rfl | rfl | rfl | rfl | rfl | rfl | rfl | rfl | rfl | rfl | rfl | rfl | rfl
  all_goals rfl⟩
set_option maxRecDepth 100000 in
set_option maxHeartbeats 4000000 in
theorem pk_71 (cy : Nat → ClassId) (h0 : Nat) (sa : Nat → Nat) : ceq (Ed cy h0 60) (mk cy (adf h0 sa) (kd 71) 71 ((cmb C0 N0).1 71) ((cmb C0 N0).2 71)) := Or.inl rfl
set_option maxRecDepth 100000 in
set_option maxHeartbeats 4000000 in
theorem pk_72 (cy : Nat → ClassId) (h0 : Nat) (sa : Nat → Nat) : ceq (Ed cy h0 61) (mk cy (adf h0 sa) (kd 72) 72 ((cmb C0 N0).1 72) ((cmb C0 N0).2 72)) := Or.inl rfl
set_option maxRecDepth 100000 in
set_option maxHeartbeats 4000000 in
theorem pk_73 (cy : Nat → ClassId) (h0 : Nat) (sa : Nat → Nat) : ceq (Ed cy h0 62) (mk cy (adf h0 sa) (kd 73) 73 ((cmb C0 N0).1 73) ((cmb C0 N0).2 73)) := Or.inl rfl
set_option maxRecDepth 100000 in
set_option maxHeartbeats 4000000 in
theorem pk_74 (cy : Nat → ClassId) (h0 : Nat) (sa : Nat → Nat) : ceq (Ed cy h0 63) (mk cy (adf h0 sa) (kd 74) 74 ((cmb C0 N0).1 74) ((cmb C0 N0).2 74)) := Or.inl rfl
set_option maxRecDepth 100000 in
set_option maxHeartbeats 4000000 in
theorem pk_75 (cy : Nat → ClassId) (h0 : Nat) (sa : Nat → Nat) : ceq (Ed cy h0 64) (mk cy (adf h0 sa) (kd 75) 75 ((cmb C0 N0).1 75) ((cmb C0 N0).2 75)) := Or.inl rfl
set_option maxRecDepth 100000 in
set_option maxHeartbeats 4000000 in
theorem pk_76 (cy : Nat → ClassId) (h0 : Nat) (sa : Nat → Nat) : ceq (Ed cy h0 65) (mk cy (adf h0 sa) (kd 76) 76 ((cmb C0 N0).1 76) ((cmb C0 N0).2 76)) := Or.inl rfl
set_option maxRecDepth 100000 in
set_option maxHeartbeats 4000000 in
theorem pk_77 (cy : Nat → ClassId) (h0 : Nat) (sa : Nat → Nat) : ceq (Ed cy h0 66) (mk cy (adf h0 sa) (kd 77) 77 ((cmb C0 N0).1 77) ((cmb C0 N0).2 77)) := Or.inl rfl
set_option maxRecDepth 100000 in
set_option maxHeartbeats 4000000 in
theorem pk_78 (cy : Nat → ClassId) (h0 : Nat) (sa : Nat → Nat) : ceq (Ed cy h0 67) (mk cy (adf h0 sa) (kd 78) 78 ((cmb C0 N0).1 78) ((cmb C0 N0).2 78)) := Or.inl rfl
set_option maxRecDepth 100000 in
set_option maxHeartbeats 4000000 in
theorem pk_79 (cy : Nat → ClassId) (h0 : Nat) (sa : Nat → Nat) : ceq (Ed cy h0 68) (mk cy (adf h0 sa) (kd 79) 79 ((cmb C0 N0).1 79) ((cmb C0 N0).2 79)) := Or.inl rfl
set_option maxRecDepth 100000 in
set_option maxHeartbeats 4000000 in
theorem pk_80 (cy : Nat → ClassId) (h0 : Nat) (sa : Nat → Nat) : ceq (Ed cy h0 69) (mk cy (adf h0 sa) (kd 80) 80 ((cmb C0 N0).1 80) ((cmb C0 N0).2 80)) := Or.inl rfl
set_option maxRecDepth 100000 in
set_option maxHeartbeats 4000000 in
theorem pk_81 (cy : Nat → ClassId) (h0 : Nat) (sa : Nat → Nat) : ceq (Ed cy h0 70) (mk cy (adf h0 sa) (kd 81) 81 ((cmb C0 N0).1 81) ((cmb C0 N0).2 81)) := Or.inl rfl
set_option maxRecDepth 100000 in
set_option maxHeartbeats 4000000 in
theorem pk_82 (cy : Nat → ClassId) (h0 : Nat) (sa : Nat → Nat) : ceq (Ed cy h0 71) (mk cy (adf h0 sa) (kd 82) 82 ((cmb C0 N0).1 82) ((cmb C0 N0).2 82)) := Or.inl rfl
set_option maxRecDepth 100000 in
set_option maxHeartbeats 4000000 in
theorem pk_83 (cy : Nat → ClassId) (h0 : Nat) (sa : Nat → Nat) : ceq (Ed cy h0 72) (mk cy (adf h0 sa) (kd 83) 83 ((cmb C0 N0).1 83) ((cmb C0 N0).2 83)) := Or.inl rfl
set_option maxRecDepth 100000 in
set_option maxHeartbeats 4000000 in
theorem pk_84 (cy : Nat → ClassId) (h0 : Nat) (sa : Nat → Nat) : ceq (Ed cy h0 73) (mk cy (adf h0 sa) (kd 84) 84 ((cmb C0 N0).1 84) ((cmb C0 N0).2 84)) := Or.inl rfl
set_option maxRecDepth 100000 in
set_option maxHeartbeats 4000000 in
theorem pk_85 (cy : Nat → ClassId) (h0 : Nat) (sa : Nat → Nat) : ceq (Ed cy h0 74) (mk cy (adf h0 sa) (kd 85) 85 ((cmb C0 N0).1 85) ((cmb C0 N0).2 85)) := Or.inl rfl
set_option maxRecDepth 100000 in
set_option maxHeartbeats 4000000 in
theorem pk_86 (cy : Nat → ClassId) (h0 : Nat) (sa : Nat → Nat) : ceq (Ed cy h0 75) (mk cy (adf h0 sa) (kd 86) 86 ((cmb C0 N0).1 86) ((cmb C0 N0).2 86)) := Or.inl rfl
set_option maxRecDepth 100000 in
set_option maxHeartbeats 4000000 in
theorem pk_87 (cy : Nat → ClassId) (h0 : Nat) (sa : Nat → Nat) : ceq (Ed cy h0 76) (mk cy (adf h0 sa) (kd 87) 87 ((cmb C0 N0).1 87) ((cmb C0 N0).2 87)) := Or.inl rfl
set_option maxRecDepth 100000 in
set_option maxHeartbeats 4000000 in
theorem pk_88 (cy : Nat → ClassId) (h0 : Nat) (sa : Nat → Nat) : ceq (Ed cy h0 77) (mk cy (adf h0 sa) (kd 88) 88 ((cmb C0 N0).1 88) ((cmb C0 N0).2 88)) := Or.inl rfl
set_option maxRecDepth 100000 in
set_option maxHeartbeats 4000000 in
theorem pk_89 (cy : Nat → ClassId) (h0 : Nat) (sa : Nat → Nat) : ceq (Ed cy h0 78) (mk cy (adf h0 sa) (kd 89) 89 ((cmb C0 N0).1 89) ((cmb C0 N0).2 89)) := Or.inl rfl
set_option maxRecDepth 100000 in
set_option maxHeartbeats 4000000 in
theorem pk_90 (cy : Nat → ClassId) (h0 : Nat) (sa : Nat → Nat) : ceq (Ed cy h0 79) (mk cy (adf h0 sa) (kd 90) 90 ((cmb C0 N0).1 90) ((cmb C0 N0).2 90)) := Or.inl rfl
set_option maxRecDepth 100000 in
set_option maxHeartbeats 4000000 in
theorem pk_91 (cy : Nat → ClassId) (h0 : Nat) (sa : Nat → Nat) : ceq (Ed cy h0 53) (mk cy (adf h0 sa) (kd 91) 91 ((cmb C0 N0).1 91) ((cmb C0 N0).2 91)) := Or.inr ⟨cy 5, 6, _, _, rfl, rfl, fun j hj => by
  rcases (show j = 0 ∨ j = 1 ∨ j = 2 ∨ j = 3 ∨ j = 4 ∨ j = 5 by omega) with rfl | rfl | rfl | rfl | rfl | rfl
  all_goals rfl⟩
set_option maxRecDepth 100000 in
set_option maxHeartbeats 4000000 in
theorem pk_92 (cy : Nat → ClassId) (h0 : Nat) (sa : Nat → Nat) : ceq (Ed cy h0 80) (mk cy (adf h0 sa) (kd 92) 92 ((cmb C0 N0).1 92) ((cmb C0 N0).2 92)) := Or.inl rfl
set_option maxRecDepth 100000 in
set_option maxHeartbeats 4000000 in
theorem pk_93 (cy : Nat → ClassId) (h0 : Nat) (sa : Nat → Nat) : ceq (Ed cy h0 82) (mk cy (adf h0 sa) (kd 93) 93 ((cmb C0 N0).1 93) ((cmb C0 N0).2 93)) := Or.inl rfl
set_option maxRecDepth 100000 in
set_option maxHeartbeats 4000000 in
theorem pk_94 (cy : Nat → ClassId) (h0 : Nat) (sa : Nat → Nat) : ceq (Ed cy h0 84) (mk cy (adf h0 sa) (kd 94) 94 ((cmb C0 N0).1 94) ((cmb C0 N0).2 94)) := Or.inl rfl
set_option maxRecDepth 100000 in
set_option maxHeartbeats 4000000 in
theorem pk_95 (cy : Nat → ClassId) (h0 : Nat) (sa : Nat → Nat) : ceq (Ed cy h0 86) (mk cy (adf h0 sa) (kd 95) 95 ((cmb C0 N0).1 95) ((cmb C0 N0).2 95)) := Or.inl rfl
set_option maxRecDepth 100000 in
set_option maxHeartbeats 4000000 in
theorem pk_96 (cy : Nat → ClassId) (h0 : Nat) (sa : Nat → Nat) : ceq (Ed cy h0 88) (mk cy (adf h0 sa) (kd 96) 96 ((cmb C0 N0).1 96) ((cmb C0 N0).2 96)) := Or.inl rfl
set_option maxRecDepth 100000 in
set_option maxHeartbeats 4000000 in
theorem pk_97 (cy : Nat → ClassId) (h0 : Nat) (sa : Nat → Nat) : ceq (Ed cy h0 90) (mk cy (adf h0 sa) (kd 97) 97 ((cmb C0 N0).1 97) ((cmb C0 N0).2 97)) := Or.inl rfl
set_option maxRecDepth 100000 in
set_option maxHeartbeats 4000000 in
theorem pk_99 (cy : Nat → ClassId) (h0 : Nat) (sa : Nat → Nat) : ceq (Ed cy h0 81) (mk cy (adf h0 sa) (kd 99) 99 ((cmb C0 N0).1 99) ((cmb C0 N0).2 99)) := Or.inl rfl
set_option maxRecDepth 100000 in
set_option maxHeartbeats 4000000 in
theorem pk_100 (cy : Nat → ClassId) (h0 : Nat) (sa : Nat → Nat) : ceq (Ed cy h0 83) (mk cy (adf h0 sa) (kd 100) 100 ((cmb C0 N0).1 100) ((cmb C0 N0).2 100)) := Or.inl rfl
set_option maxRecDepth 100000 in
set_option maxHeartbeats 4000000 in
theorem pk_101 (cy : Nat → ClassId) (h0 : Nat) (sa : Nat → Nat) : ceq (Ed cy h0 85) (mk cy (adf h0 sa) (kd 101) 101 ((cmb C0 N0).1 101) ((cmb C0 N0).2 101)) := Or.inl rfl
set_option maxRecDepth 100000 in
set_option maxHeartbeats 4000000 in
theorem pk_102 (cy : Nat → ClassId) (h0 : Nat) (sa : Nat → Nat) : ceq (Ed cy h0 87) (mk cy (adf h0 sa) (kd 102) 102 ((cmb C0 N0).1 102) ((cmb C0 N0).2 102)) := Or.inl rfl
set_option maxRecDepth 100000 in
set_option maxHeartbeats 4000000 in
theorem pk_103 (cy : Nat → ClassId) (h0 : Nat) (sa : Nat → Nat) : ceq (Ed cy h0 89) (mk cy (adf h0 sa) (kd 103) 103 ((cmb C0 N0).1 103) ((cmb C0 N0).2 103)) := Or.inl rfl
set_option maxRecDepth 100000 in
set_option maxHeartbeats 4000000 in
theorem pk_104 (cy : Nat → ClassId) (h0 : Nat) (sa : Nat → Nat) : ceq (Ed cy h0 91) (mk cy (adf h0 sa) (kd 104) 104 ((cmb C0 N0).1 104) ((cmb C0 N0).2 104)) := Or.inl rfl
set_option maxRecDepth 100000 in
set_option maxHeartbeats 4000000 in
theorem pk_106 (cy : Nat → ClassId) (h0 : Nat) (sa : Nat → Nat) : ceq (Ed cy h0 54) (mk cy (adf h0 sa) (kd 106) 106 ((cmb C0 N0).1 106) ((cmb C0 N0).2 106)) := Or.inr ⟨cy 6, 6, _, _, rfl, rfl, fun j hj => by
  rcases (show j = 0 ∨ j = 1 ∨ j = 2 ∨ j = 3 ∨ j = 4 ∨ j = 5 by omega) with rfl | rfl | rfl | rfl | rfl | rfl
  all_goals rfl⟩
set_option maxRecDepth 100000 in
set_option maxHeartbeats 4000000 in
theorem pk_107 (cy : Nat → ClassId) (h0 : Nat) (sa : Nat → Nat) : ceq (Ed cy h0 92) (mk cy (adf h0 sa) (kd 107) 107 ((cmb C0 N0).1 107) ((cmb C0 N0).2 107)) := Or.inl rfl
set_option maxRecDepth 100000 in
set_option maxHeartbeats 4000000 in
theorem pk_108 (cy : Nat → ClassId) (h0 : Nat) (sa : Nat → Nat) : ceq (Ed cy h0 93) (mk cy (adf h0 sa) (kd 108) 108 ((cmb C0 N0).1 108) ((cmb C0 N0).2 108)) := Or.inl rfl
set_option maxRecDepth 100000 in
set_option maxHeartbeats 4000000 in
theorem pk_109 (cy : Nat → ClassId) (h0 : Nat) (sa : Nat → Nat) : ceq (Ed cy h0 94) (mk cy (adf h0 sa) (kd 109) 109 ((cmb C0 N0).1 109) ((cmb C0 N0).2 109)) := Or.inl rfl
set_option maxRecDepth 100000 in
set_option maxHeartbeats 4000000 in
theorem pk_110 (cy : Nat → ClassId) (h0 : Nat) (sa : Nat → Nat) : ceq (Ed cy h0 95) (mk cy (adf h0 sa) (kd 110) 110 ((cmb C0 N0).1 110) ((cmb C0 N0).2 110)) := Or.inl rfl
set_option maxRecDepth 100000 in
set_option maxHeartbeats 4000000 in
theorem pk_111 (cy : Nat → ClassId) (h0 : Nat) (sa : Nat → Nat) : ceq (Ed cy h0 96) (mk cy (adf h0 sa) (kd 111) 111 ((cmb C0 N0).1 111) ((cmb C0 N0).2 111)) := Or.inl rfl
set_option maxRecDepth 100000 in
set_option maxHeartbeats 4000000 in
theorem pk_112 (cy : Nat → ClassId) (h0 : Nat) (sa : Nat → Nat) : ceq (Ed cy h0 97) (mk cy (adf h0 sa) (kd 112) 112 ((cmb C0 N0).1 112) ((cmb C0 N0).2 112)) := Or.inl rfl
set_option maxRecDepth 100000 in
set_option maxHeartbeats 4000000 in
theorem pk_113 (cy : Nat → ClassId) (h0 : Nat) (sa : Nat → Nat) : ceq (Ed cy h0 55) (mk cy (adf h0 sa) (kd 113) 113 ((cmb C0 N0).1 113) ((cmb C0 N0).2 113)) := Or.inl rfl
set_option maxRecDepth 100000 in
set_option maxHeartbeats 4000000 in
theorem pk_114 (cy : Nat → ClassId) (h0 : Nat) (sa : Nat → Nat) : ceq (Ed cy h0 56) (mk cy (adf h0 sa) (kd 114) 114 ((cmb C0 N0).1 114) ((cmb C0 N0).2 114)) := Or.inl rfl
set_option maxRecDepth 100000 in
set_option maxHeartbeats 4000000 in
theorem pk_115 (cy : Nat → ClassId) (h0 : Nat) (sa : Nat → Nat) : ceq (Ed cy h0 57) (mk cy (adf h0 sa) (kd 115) 115 ((cmb C0 N0).1 115) ((cmb C0 N0).2 115)) := Or.inl rfl
set_option maxRecDepth 100000 in
set_option maxHeartbeats 4000000 in
theorem pk_116 (cy : Nat → ClassId) (h0 : Nat) (sa : Nat → Nat) : ceq (Ed cy h0 58) (mk cy (adf h0 sa) (kd 116) 116 ((cmb C0 N0).1 116) ((cmb C0 N0).2 116)) := Or.inl rfl
set_option maxRecDepth 100000 in
set_option maxHeartbeats 4000000 in
theorem pk_117 (cy : Nat → ClassId) (h0 : Nat) (sa : Nat → Nat) : ceq (Ed cy h0 59) (mk cy (adf h0 sa) (kd 117) 117 ((cmb C0 N0).1 117) ((cmb C0 N0).2 117)) := Or.inl rfl
set_option maxRecDepth 100000 in
set_option maxHeartbeats 4000000 in
theorem pk_118 (cy : Nat → ClassId) (h0 : Nat) (sa : Nat → Nat) : ceq (Ed cy h0 98) (mk cy (adf h0 sa) (kd 118) 118 ((cmb C0 N0).1 118) ((cmb C0 N0).2 118)) := Or.inl rfl
set_option maxRecDepth 100000 in
set_option maxHeartbeats 4000000 in
theorem pk_119 (cy : Nat → ClassId) (h0 : Nat) (sa : Nat → Nat) : ceq (Ed cy h0 99) (mk cy (adf h0 sa) (kd 119) 119 ((cmb C0 N0).1 119) ((cmb C0 N0).2 119)) := Or.inl rfl
set_option maxRecDepth 100000 in
set_option maxHeartbeats 4000000 in
theorem pk_120 (cy : Nat → ClassId) (h0 : Nat) (sa : Nat → Nat) : ceq (Ed cy h0 100) (mk cy (adf h0 sa) (kd 120) 120 ((cmb C0 N0).1 120) ((cmb C0 N0).2 120)) := Or.inl rfl
set_option maxRecDepth 100000 in
set_option maxHeartbeats 4000000 in
theorem pk_121 (cy : Nat → ClassId) (h0 : Nat) (sa : Nat → Nat) : ceq (Ed cy h0 101) (mk cy (adf h0 sa) (kd 121) 121 ((cmb C0 N0).1 121) ((cmb C0 N0).2 121)) := Or.inl rfl
set_option maxRecDepth 100000 in
set_option maxHeartbeats 4000000 in
theorem pk_122 (cy : Nat → ClassId) (h0 : Nat) (sa : Nat → Nat) : ceq (Ed cy h0 102) (mk cy (adf h0 sa) (kd 122) 122 ((cmb C0 N0).1 122) ((cmb C0 N0).2 122)) := Or.inl rfl
set_option maxRecDepth 100000 in
set_option maxHeartbeats 4000000 in
theorem pk_123 (cy : Nat → ClassId) (h0 : Nat) (sa : Nat → Nat) : ceq (Ed cy h0 103) (mk cy (adf h0 sa) (kd 123) 123 ((cmb C0 N0).1 123) ((cmb C0 N0).2 123)) := Or.inl rfl
set_option maxRecDepth 100000 in
set_option maxHeartbeats 4000000 in
theorem pk_124 (cy : Nat → ClassId) (h0 : Nat) (sa : Nat → Nat) : ceq (Ed cy h0 104) (mk cy (adf h0 sa) (kd 124) 124 ((cmb C0 N0).1 124) ((cmb C0 N0).2 124)) := Or.inl rfl
set_option maxRecDepth 100000 in
set_option maxHeartbeats 4000000 in
theorem pk_125 (cy : Nat → ClassId) (h0 : Nat) (sa : Nat → Nat) : ceq (Ed cy h0 105) (mk cy (adf h0 sa) (kd 125) 125 ((cmb C0 N0).1 125) ((cmb C0 N0).2 125)) := Or.inl rfl
set_option maxRecDepth 100000 in
set_option maxHeartbeats 4000000 in
theorem pk_126 (cy : Nat → ClassId) (h0 : Nat) (sa : Nat → Nat) : ceq (Ed cy h0 106) (mk cy (adf h0 sa) (kd 126) 126 ((cmb C0 N0).1 126) ((cmb C0 N0).2 126)) := Or.inl rfl
set_option maxRecDepth 100000 in
set_option maxHeartbeats 4000000 in
theorem pk_127 (cy : Nat → ClassId) (h0 : Nat) (sa : Nat → Nat) : ceq (Ed cy h0 107) (mk cy (adf h0 sa) (kd 127) 127 ((cmb C0 N0).1 127) ((cmb C0 N0).2 127)) := Or.inl rfl
set_option maxRecDepth 100000 in
set_option maxHeartbeats 4000000 in
theorem pk_128 (cy : Nat → ClassId) (h0 : Nat) (sa : Nat → Nat) : ceq (Ed cy h0 108) (mk cy (adf h0 sa) (kd 128) 128 ((cmb C0 N0).1 128) ((cmb C0 N0).2 128)) := Or.inl rfl
set_option maxRecDepth 100000 in
set_option maxHeartbeats 4000000 in
theorem pk_129 (cy : Nat → ClassId) (h0 : Nat) (sa : Nat → Nat) : ceq (Ed cy h0 109) (mk cy (adf h0 sa) (kd 129) 129 ((cmb C0 N0).1 129) ((cmb C0 N0).2 129)) := Or.inl rfl
set_option maxRecDepth 100000 in
set_option maxHeartbeats 4000000 in
theorem pk_130 (cy : Nat → ClassId) (h0 : Nat) (sa : Nat → Nat) : ceq (Ed cy h0 110) (mk cy (adf h0 sa) (kd 130) 130 ((cmb C0 N0).1 130) ((cmb C0 N0).2 130)) := Or.inl rfl
set_option maxRecDepth 100000 in
set_option maxHeartbeats 4000000 in
theorem pk_131 (cy : Nat → ClassId) (h0 : Nat) (sa : Nat → Nat) : ceq (Ed cy h0 111) (mk cy (adf h0 sa) (kd 131) 131 ((cmb C0 N0).1 131) ((cmb C0 N0).2 131)) := Or.inl rfl
set_option maxRecDepth 100000 in
set_option maxHeartbeats 4000000 in
theorem pk_132 (cy : Nat → ClassId) (h0 : Nat) (sa : Nat → Nat) : ceq (Ed cy h0 112) (mk cy (adf h0 sa) (kd 132) 132 ((cmb C0 N0).1 132) ((cmb C0 N0).2 132)) := Or.inl rfl
set_option maxRecDepth 100000 in
set_option maxHeartbeats 4000000 in
theorem pk_133 (cy : Nat → ClassId) (h0 : Nat) (sa : Nat → Nat) : ceq (Ed cy h0 113) (mk cy (adf h0 sa) (kd 133) 133 ((cmb C0 N0).1 133) ((cmb C0 N0).2 133)) := Or.inl rfl
set_option maxRecDepth 100000 in
set_option maxHeartbeats 4000000 in
theorem pk_134 (cy : Nat → ClassId) (h0 : Nat) (sa : Nat → Nat) : ceq (Ed cy h0 114) (mk cy (adf h0 sa) (kd 134) 134 ((cmb C0 N0).1 134) ((cmb C0 N0).2 134)) := Or.inl rfl
set_option maxRecDepth 100000 in
set_option maxHeartbeats 4000000 in
theorem pk_135 (cy : Nat → ClassId) (h0 : Nat) (sa : Nat → Nat) : ceq (Ed cy h0 115) (mk cy (adf h0 sa) (kd 135) 135 ((cmb C0 N0).1 135) ((cmb C0 N0).2 135)) := Or.inl rfl
set_option maxRecDepth 100000 in
set_option maxHeartbeats 4000000 in
theorem pk_136 (cy : Nat → ClassId) (h0 : Nat) (sa : Nat → Nat) : ceq (Ed cy h0 116) (mk cy (adf h0 sa) (kd 136) 136 ((cmb C0 N0).1 136) ((cmb C0 N0).2 136)) := Or.inl rfl
set_option maxRecDepth 100000 in
set_option maxHeartbeats 4000000 in
theorem pk_137 (cy : Nat → ClassId) (h0 : Nat) (sa : Nat → Nat) : ceq (Ed cy h0 117) (mk cy (adf h0 sa) (kd 137) 137 ((cmb C0 N0).1 137) ((cmb C0 N0).2 137)) := Or.inl rfl
set_option maxRecDepth 100000 in
set_option maxHeartbeats 4000000 in
theorem pk_138 (cy : Nat → ClassId) (h0 : Nat) (sa : Nat → Nat) : ceq (Ed cy h0 134) (mk cy (adf h0 sa) (kd 138) 138 ((cmb C0 N0).1 138) ((cmb C0 N0).2 138)) := Or.inl rfl
set_option maxRecDepth 100000 in
set_option maxHeartbeats 4000000 in
theorem pk_139 (cy : Nat → ClassId) (h0 : Nat) (sa : Nat → Nat) : ceq (Ed cy h0 135) (mk cy (adf h0 sa) (kd 139) 139 ((cmb C0 N0).1 139) ((cmb C0 N0).2 139)) := Or.inl rfl
set_option maxRecDepth 100000 in
set_option maxHeartbeats 4000000 in
theorem pk_140 (cy : Nat → ClassId) (h0 : Nat) (sa : Nat → Nat) : ceq (Ed cy h0 136) (mk cy (adf h0 sa) (kd 140) 140 ((cmb C0 N0).1 140) ((cmb C0 N0).2 140)) := Or.inl rfl
set_option maxRecDepth 100000 in
set_option maxHeartbeats 4000000 in
theorem pk_141 (cy : Nat → ClassId) (h0 : Nat) (sa : Nat → Nat) : ceq (Ed cy h0 137) (mk cy (adf h0 sa) (kd 141) 141 ((cmb C0 N0).1 141) ((cmb C0 N0).2 141)) := Or.inl rfl
set_option maxRecDepth 100000 in
set_option maxHeartbeats 4000000 in
theorem pk_142 (cy : Nat → ClassId) (h0 : Nat) (sa : Nat → Nat) : ceq (Ed cy h0 138) (mk cy (adf h0 sa) (kd 142) 142 ((cmb C0 N0).1 142) ((cmb C0 N0).2 142)) := Or.inl rfl
set_option maxRecDepth 100000 in
set_option maxHeartbeats 4000000 in
theorem pk_143 (cy : Nat → ClassId) (h0 : Nat) (sa : Nat → Nat) : ceq (Ed cy h0 139) (mk cy (adf h0 sa) (kd 143) 143 ((cmb C0 N0).1 143) ((cmb C0 N0).2 143)) := Or.inl rfl
set_option maxRecDepth 100000 in
set_option maxHeartbeats 4000000 in
theorem pk_144 (cy : Nat → ClassId) (h0 : Nat) (sa : Nat → Nat) : ceq (Ed cy h0 140) (mk cy (adf h0 sa) (kd 144) 144 ((cmb C0 N0).1 144) ((cmb C0 N0).2 144)) := Or.inl rfl
set_option maxRecDepth 100000 in
set_option maxHeartbeats 4000000 in
theorem pk_145 (cy : Nat → ClassId) (h0 : Nat) (sa : Nat → Nat) : ceq (Ed cy h0 141) (mk cy (adf h0 sa) (kd 145) 145 ((cmb C0 N0).1 145) ((cmb C0 N0).2 145)) := Or.inl rfl
set_option maxRecDepth 100000 in
set_option maxHeartbeats 4000000 in
theorem pk_146 (cy : Nat → ClassId) (h0 : Nat) (sa : Nat → Nat) : ceq (Ed cy h0 142) (mk cy (adf h0 sa) (kd 146) 146 ((cmb C0 N0).1 146) ((cmb C0 N0).2 146)) := Or.inl rfl
set_option maxRecDepth 100000 in
set_option maxHeartbeats 4000000 in
theorem pk_147 (cy : Nat → ClassId) (h0 : Nat) (sa : Nat → Nat) : ceq (Ed cy h0 143) (mk cy (adf h0 sa) (kd 147) 147 ((cmb C0 N0).1 147) ((cmb C0 N0).2 147)) := Or.inl rfl
set_option maxRecDepth 100000 in
set_option maxHeartbeats 4000000 in
theorem pk_148 (cy : Nat → ClassId) (h0 : Nat) (sa : Nat → Nat) : ceq (Ed cy h0 144) (mk cy (adf h0 sa) (kd 148) 148 ((cmb C0 N0).1 148) ((cmb C0 N0).2 148)) := Or.inl rfl
set_option maxRecDepth 100000 in
set_option maxHeartbeats 4000000 in
theorem pk_149 (cy : Nat → ClassId) (h0 : Nat) (sa : Nat → Nat) : ceq (Ed cy h0 145) (mk cy (adf h0 sa) (kd 149) 149 ((cmb C0 N0).1 149) ((cmb C0 N0).2 149)) := Or.inl rfl
set_option maxRecDepth 100000 in
set_option maxHeartbeats 4000000 in
theorem pk_150 (cy : Nat → ClassId) (h0 : Nat) (sa : Nat → Nat) : ceq (Ed cy h0 146) (mk cy (adf h0 sa) (kd 150) 150 ((cmb C0 N0).1 150) ((cmb C0 N0).2 150)) := Or.inl rfl
set_option maxRecDepth 100000 in
set_option maxHeartbeats 4000000 in
theorem pk_151 (cy : Nat → ClassId) (h0 : Nat) (sa : Nat → Nat) : ceq (Ed cy h0 147) (mk cy (adf h0 sa) (kd 151) 151 ((cmb C0 N0).1 151) ((cmb C0 N0).2 151)) := Or.inl rfl
set_option maxRecDepth 100000 in
set_option maxHeartbeats 4000000 in
theorem pk_152 (cy : Nat → ClassId) (h0 : Nat) (sa : Nat → Nat) : ceq (Ed cy h0 148) (mk cy (adf h0 sa) (kd 152) 152 ((cmb C0 N0).1 152) ((cmb C0 N0).2 152)) := Or.inl rfl
set_option maxRecDepth 100000 in
set_option maxHeartbeats 4000000 in
theorem pk_153 (cy : Nat → ClassId) (h0 : Nat) (sa : Nat → Nat) : ceq (Ed cy h0 149) (mk cy (adf h0 sa) (kd 153) 153 ((cmb C0 N0).1 153) ((cmb C0 N0).2 153)) := Or.inl rfl
set_option maxRecDepth 100000 in
set_option maxHeartbeats 4000000 in
theorem pk_154 (cy : Nat → ClassId) (h0 : Nat) (sa : Nat → Nat) : ceq (Ed cy h0 150) (mk cy (adf h0 sa) (kd 154) 154 ((cmb C0 N0).1 154) ((cmb C0 N0).2 154)) := Or.inl rfl
set_option maxRecDepth 100000 in
set_option maxHeartbeats 4000000 in
theorem pk_155 (cy : Nat → ClassId) (h0 : Nat) (sa : Nat → Nat) : ceq (Ed cy h0 151) (mk cy (adf h0 sa) (kd 155) 155 ((cmb C0 N0).1 155) ((cmb C0 N0).2 155)) := Or.inl rfl
set_option maxRecDepth 100000 in
set_option maxHeartbeats 4000000 in
theorem pk_156 (cy : Nat → ClassId) (h0 : Nat) (sa : Nat → Nat) : ceq (Ed cy h0 152) (mk cy (adf h0 sa) (kd 156) 156 ((cmb C0 N0).1 156) ((cmb C0 N0).2 156)) := Or.inl rfl
set_option maxRecDepth 100000 in
set_option maxHeartbeats 4000000 in
theorem pk_157 (cy : Nat → ClassId) (h0 : Nat) (sa : Nat → Nat) : ceq (Ed cy h0 153) (mk cy (adf h0 sa) (kd 157) 157 ((cmb C0 N0).1 157) ((cmb C0 N0).2 157)) := Or.inl rfl
set_option maxRecDepth 100000 in
set_option maxHeartbeats 4000000 in
theorem pk_158 (cy : Nat → ClassId) (h0 : Nat) (sa : Nat → Nat) : ceq (Ed cy h0 154) (mk cy (adf h0 sa) (kd 158) 158 ((cmb C0 N0).1 158) ((cmb C0 N0).2 158)) := Or.inl rfl
set_option maxRecDepth 100000 in
set_option maxHeartbeats 4000000 in
theorem pk_159 (cy : Nat → ClassId) (h0 : Nat) (sa : Nat → Nat) : ceq (Ed cy h0 155) (mk cy (adf h0 sa) (kd 159) 159 ((cmb C0 N0).1 159) ((cmb C0 N0).2 159)) := Or.inl rfl
set_option maxRecDepth 100000 in
set_option maxHeartbeats 4000000 in
theorem pk_160 (cy : Nat → ClassId) (h0 : Nat) (sa : Nat → Nat) : ceq (Ed cy h0 156) (mk cy (adf h0 sa) (kd 160) 160 ((cmb C0 N0).1 160) ((cmb C0 N0).2 160)) := Or.inl rfl
set_option maxRecDepth 100000 in
set_option maxHeartbeats 4000000 in
theorem pk_161 (cy : Nat → ClassId) (h0 : Nat) (sa : Nat → Nat) : ceq (Ed cy h0 157) (mk cy (adf h0 sa) (kd 161) 161 ((cmb C0 N0).1 161) ((cmb C0 N0).2 161)) := Or.inl rfl
set_option maxRecDepth 100000 in
set_option maxHeartbeats 4000000 in
theorem pk_162 (cy : Nat → ClassId) (h0 : Nat) (sa : Nat → Nat) : ceq (Ed cy h0 158) (mk cy (adf h0 sa) (kd 162) 162 ((cmb C0 N0).1 162) ((cmb C0 N0).2 162)) := Or.inl rfl
set_option maxRecDepth 100000 in
set_option maxHeartbeats 4000000 in
theorem pk_163 (cy : Nat → ClassId) (h0 : Nat) (sa : Nat → Nat) : ceq (Ed cy h0 159) (mk cy (adf h0 sa) (kd 163) 163 ((cmb C0 N0).1 163) ((cmb C0 N0).2 163)) := Or.inl rfl
set_option maxRecDepth 100000 in
set_option maxHeartbeats 4000000 in
theorem pk_164 (cy : Nat → ClassId) (h0 : Nat) (sa : Nat → Nat) : ceq (Ed cy h0 160) (mk cy (adf h0 sa) (kd 164) 164 ((cmb C0 N0).1 164) ((cmb C0 N0).2 164)) := Or.inl rfl
theorem pk_all (cy : Nat → ClassId) (h0 : Nat) (sa : Nat → Nat) : ∀ k, isp k → ceq (Ed cy h0 (piL.getD k 0)) (mk cy (adf h0 sa) (kd k) k ((cmb C0 N0).1 k) ((cmb C0 N0).2 k)) := by
  intro k ⟨hk, hk0⟩
  rcases (show k = 0 ∨ k = 1 ∨ k = 2 ∨ k = 3 ∨ k = 4 ∨ k = 5 ∨ k = 6 ∨ k = 7 ∨ k = 8 ∨ k = 9 ∨ k = 10 ∨ k = 11 ∨ k = 12 ∨ k = 13 ∨ k = 14 ∨ k = 15 ∨ k = 16 ∨ k = 17 ∨ k = 18 ∨ k = 19 ∨ k = 20 ∨ k = 21 ∨ k = 22 ∨ k = 23 ∨ k = 24 ∨ k = 25 ∨ k = 26 ∨ k = 27 ∨ k = 28 ∨ k = 29 ∨ k = 30 ∨ k = 31 ∨ k = 32 ∨ k = 33 ∨ k = 34 ∨ k = 35 ∨ k = 36 ∨ k = 37 ∨ k = 38 ∨ k = 39 ∨ k = 40 ∨ k = 41 ∨ k = 42 ∨ k = 43 ∨ k = 44 ∨ k = 45 ∨ k = 46 ∨ k = 47 ∨ k = 48 ∨ k = 49 ∨ k = 50 ∨ k = 51 ∨ k = 52 ∨ k = 53 ∨ k = 54 ∨ k = 55 ∨ k = 56 ∨ k = 57 ∨ k = 58 ∨ k = 59 ∨ k = 60 ∨ k = 61 ∨ k = 62 ∨ k = 63 ∨ k = 64 ∨ k = 65 ∨ k = 66 ∨ k = 67 ∨ k = 68 ∨ k = 69 ∨ k = 70 ∨ k = 71 ∨ k = 72 ∨ k = 73 ∨ k = 74 ∨ k = 75 ∨ k = 76 ∨ k = 77 ∨ k = 78 ∨ k = 79 ∨ k = 80 ∨ k = 81 ∨ k = 82 ∨ k = 83 ∨ k = 84 ∨ k = 85 ∨ k = 86 ∨ k = 87 ∨ k = 88 ∨ k = 89 ∨ k = 90 ∨ k = 91 ∨ k = 92 ∨ k = 93 ∨ k = 94 ∨ k = 95 ∨ k = 96 ∨ k = 97 ∨ k = 98 ∨ k = 99 ∨ k = 100 ∨ k = 101 ∨ k = 102 ∨ k = 103 ∨ k = 104 ∨ k = 105 ∨ k = 106 ∨ k = 107 ∨ k = 108 ∨ k = 109 ∨ k = 110 ∨ k = 111 ∨ k = 112 ∨ k = 113 ∨ k = 114 ∨ k = 115 ∨ k = 116 ∨ k = 117 ∨ k = 118 ∨ k = 119 ∨ k = 120 ∨ k = 121 ∨ k = 122 ∨ k = 123 ∨ k = 124 ∨ k = 125 ∨ k = 126 ∨ k = 127 ∨ k = 128 ∨ k = 129 ∨ k = 130 ∨ k = 131 ∨ k = 132 ∨ k = 133 ∨ k = 134 ∨ k = 135 ∨ k = 136 ∨ k = 137 ∨ k = 138 ∨ k = 139 ∨ k = 140 ∨ k = 141 ∨ k = 142 ∨ k = 143 ∨ k = 144 ∨ k = 145 ∨ k = 146 ∨ k = 147 ∨ k = 148 ∨ k = 149 ∨ k = 150 ∨ k = 151 ∨ k = 152 ∨ k = 153 ∨ k = 154 ∨ k = 155 ∨ k = 156 ∨ k = 157 ∨ k = 158 ∨ k = 159 ∨ k = 160 ∨ k = 161 ∨ k = 162 ∨ k = 163 ∨ k = 164 by omega) with rfl | rfl | rfl | rfl | rfl | rfl | rfl | rfl | rfl | rfl | rfl | rfl | rfl | rfl | rfl | rfl | rfl | rfl | rfl | rfl | rfl | rfl | rfl | rfl | rfl | rfl | rfl | rfl | rfl | rfl | rfl | rfl | rfl | rfl | rfl | rfl | rfl | rfl | rfl | rfl | rfl | rfl | rfl | rfl | rfl | rfl | rfl | rfl | rfl | rfl | rfl | rfl | rfl | rfl | rfl | rfl | rfl | rfl | rfl | rfl | rfl | rfl | rfl | rfl | rfl | rfl | rfl | rfl | rfl | rfl | rfl | rfl | rfl | rfl | rfl | rfl | rfl | rfl | rfl | rfl | rfl | rfl | rfl | rfl | rfl | rfl | rfl | rfl | rfl | rfl | rfl | rfl | rfl | rfl | rfl | rfl | rfl | rfl | rfl | rfl | rfl | rfl | rfl | rfl | rfl | rfl | rfl | rfl | rfl | rfl | rfl | rfl | rfl | rfl | rfl | rfl | rfl | rfl | rfl | rfl | rfl | rfl | rfl | rfl | rfl | rfl | rfl | rfl | rfl | rfl | rfl | rfl | rfl | rfl | rfl | rfl | rfl | rfl | rfl | rfl | rfl | rfl | rfl | rfl | rfl | rfl | rfl | rfl | rfl | rfl | rfl | rfl | rfl | rfl | rfl | rfl | rfl | rfl | rfl | rfl | rfl | rfl | rfl | rfl | rfl
  · exact pk_0 cy h0 sa
  · exact pk_1 cy h0 sa
  · exact pk_2 cy h0 sa
  · exact pk_3 cy h0 sa
  · exact pk_4 cy h0 sa
  · exact pk_5 cy h0 sa
  · exact pk_6 cy h0 sa
  · exact pk_7 cy h0 sa
  · exact pk_8 cy h0 sa
  · exact pk_9 cy h0 sa
  · exact pk_10 cy h0 sa
  · exact pk_11 cy h0 sa
  · exact pk_12 cy h0 sa
  · exact pk_13 cy h0 sa
  · exact pk_14 cy h0 sa
  · exact pk_15 cy h0 sa
  · exact pk_16 cy h0 sa
  · exact pk_17 cy h0 sa
  · exact pk_18 cy h0 sa
  · exact pk_19 cy h0 sa
  · exact pk_20 cy h0 sa
  · exact pk_21 cy h0 sa
  · exact pk_22 cy h0 sa
  · exact pk_23 cy h0 sa
  · exact pk_24 cy h0 sa
  · exact pk_25 cy h0 sa
  · exact pk_26 cy h0 sa
  · exact pk_27 cy h0 sa
  · exact pk_28 cy h0 sa
  · exact pk_29 cy h0 sa
  · exact pk_30 cy h0 sa
  · exact pk_31 cy h0 sa
  · exact pk_32 cy h0 sa
  · exact pk_33 cy h0 sa
  · exact pk_34 cy h0 sa
  · exact pk_35 cy h0 sa
  · exact pk_36 cy h0 sa
  · exact pk_37 cy h0 sa
  · exact pk_38 cy h0 sa
  · exact pk_39 cy h0 sa
  · exact pk_40 cy h0 sa
  · exact pk_41 cy h0 sa
  · exact pk_42 cy h0 sa
  · exact pk_43 cy h0 sa
  · exact pk_44 cy h0 sa
  · exact pk_45 cy h0 sa
  · exact pk_46 cy h0 sa
  · exact pk_47 cy h0 sa
  · exact pk_48 cy h0 sa
  · exact absurd rfl hk0
  · exact pk_50 cy h0 sa
  · exact pk_51 cy h0 sa
  · exact pk_52 cy h0 sa
  · exact pk_53 cy h0 sa
  · exact pk_54 cy h0 sa
  · exact pk_55 cy h0 sa
  · exact absurd rfl hk0
  · exact pk_57 cy h0 sa
  · exact pk_58 cy h0 sa
  · exact pk_59 cy h0 sa
  · exact pk_60 cy h0 sa
  · exact pk_61 cy h0 sa
  · exact pk_62 cy h0 sa
  · exact pk_63 cy h0 sa
  · exact pk_64 cy h0 sa
  · exact pk_65 cy h0 sa
  · exact pk_66 cy h0 sa
  · exact pk_67 cy h0 sa
  · exact pk_68 cy h0 sa
  · exact pk_69 cy h0 sa
  · exact pk_70 cy h0 sa
  · exact pk_71 cy h0 sa
  · exact pk_72 cy h0 sa
  · exact pk_73 cy h0 sa
  · exact pk_74 cy h0 sa
  · exact pk_75 cy h0 sa
  · exact pk_76 cy h0 sa
  · exact pk_77 cy h0 sa
  · exact pk_78 cy h0 sa
  · exact pk_79 cy h0 sa
  · exact pk_80 cy h0 sa
  · exact pk_81 cy h0 sa
  · exact pk_82 cy h0 sa
  · exact pk_83 cy h0 sa
  · exact pk_84 cy h0 sa
  · exact pk_85 cy h0 sa
  · exact pk_86 cy h0 sa
  · exact pk_87 cy h0 sa
  · exact pk_88 cy h0 sa
  · exact pk_89 cy h0 sa
  · exact pk_90 cy h0 sa
  · exact pk_91 cy h0 sa
  · exact pk_92 cy h0 sa
  · exact pk_93 cy h0 sa
  · exact pk_94 cy h0 sa
  · exact pk_95 cy h0 sa
  · exact pk_96 cy h0 sa
  · exact pk_97 cy h0 sa
  · exact absurd rfl hk0
  · exact pk_99 cy h0 sa
  · exact pk_100 cy h0 sa
  · exact pk_101 cy h0 sa
  · exact pk_102 cy h0 sa
  · exact pk_103 cy h0 sa
  · exact pk_104 cy h0 sa
  · exact absurd rfl hk0
  · exact pk_106 cy h0 sa
  · exact pk_107 cy h0 sa
  · exact pk_108 cy h0 sa
  · exact pk_109 cy h0 sa
  · exact pk_110 cy h0 sa
  · exact pk_111 cy h0 sa
  · exact pk_112 cy h0 sa
  · exact pk_113 cy h0 sa
  · exact pk_114 cy h0 sa
  · exact pk_115 cy h0 sa
  · exact pk_116 cy h0 sa
  · exact pk_117 cy h0 sa
  · exact pk_118 cy h0 sa
  · exact pk_119 cy h0 sa
  · exact pk_120 cy h0 sa
  · exact pk_121 cy h0 sa
  · exact pk_122 cy h0 sa
  · exact pk_123 cy h0 sa
  · exact pk_124 cy h0 sa
  · exact pk_125 cy h0 sa
  · exact pk_126 cy h0 sa
  · exact pk_127 cy h0 sa
  · exact pk_128 cy h0 sa
  · exact pk_129 cy h0 sa
  · exact pk_130 cy h0 sa
  · exact pk_131 cy h0 sa
  · exact pk_132 cy h0 sa
  · exact pk_133 cy h0 sa
  · exact pk_134 cy h0 sa
  · exact pk_135 cy h0 sa
  · exact pk_136 cy h0 sa
  · exact pk_137 cy h0 sa
  · exact pk_138 cy h0 sa
  · exact pk_139 cy h0 sa
  · exact pk_140 cy h0 sa
  · exact pk_141 cy h0 sa
  · exact pk_142 cy h0 sa
  · exact pk_143 cy h0 sa
  · exact pk_144 cy h0 sa
  · exact pk_145 cy h0 sa
  · exact pk_146 cy h0 sa
  · exact pk_147 cy h0 sa
  · exact pk_148 cy h0 sa
  · exact pk_149 cy h0 sa
  · exact pk_150 cy h0 sa
  · exact pk_151 cy h0 sa
  · exact pk_152 cy h0 sa
  · exact pk_153 cy h0 sa
  · exact pk_154 cy h0 sa
  · exact pk_155 cy h0 sa
  · exact pk_156 cy h0 sa
  · exact pk_157 cy h0 sa
  · exact pk_158 cy h0 sa
  · exact pk_159 cy h0 sa
  · exact pk_160 cy h0 sa
  · exact pk_161 cy h0 sa
  · exact pk_162 cy h0 sa
  · exact pk_163 cy h0 sa
  · exact pk_164 cy h0 sa
theorem pi_inj : ∀ i, i < 165 → ∀ j, j < 165 → piL.getD i 0 = piL.getD j 0 → i = j := by decide +kernel
theorem pi_lt0 : ∀ i, i < 165 → kd i ≠ 98 → piL.getD i 0 < 161 := by decide +kernel
theorem pi_lt {i : Nat} (h : isp i) : piL.getD i 0 < 161 := pi_lt0 i h.1 h.2
theorem adf_lt {h0 : Nat} {sa : Nat → Nat} {k : Nat} (h : k < 165) : adf h0 sa k = h0 + piL.getD k 0 := if_pos h
theorem adf_ge {h0 : Nat} {sa : Nat → Nat} {k : Nat} (h : ¬ k < 165) : adf h0 sa k = sa k := if_neg h
theorem adf_adj {h0 : Nat} {sa : Nat → Nat} : adj (adf h0 sa) := fun i j hi hj e => by
  rw [adf_lt hi, adf_lt hj] at e
  exact pi_inj i hi j hj (by omega)
