noncomputable section FUNS
def fc_isBelow (M : Mem) (a0 : Int32) (a1 : Int32) : Option Int32 := (if a0 < 0 then (some 0) else (if a1 ≤ a0 then (some 0) else (some 1)))
def fc_isBelowT (M : Mem) (a0 : Int32) (a1 : Int32) : Int32 := (if a0 < 0 then (0) else (if a1 ≤ a0 then (0) else (1)))
theorem fc_isBelowE (M : Mem) (a0 : Int32) (a1 : Int32) : fc_isBelow M a0 a1 = some (fc_isBelowT M a0 a1) := by
  unfold fc_isBelow fc_isBelowT
  repeat' split
  all_goals first | rfl | simp_all
theorem fc_isBelowB (M : Mem) (a0 : Int32) (a1 : Int32) : isB (fc_isBelowT M a0 a1) := by
  unfold fc_isBelowT
  repeat' split
  all_goals first | exact Or.inl rfl | exact Or.inr rfl
def fc_isShelf (M : Mem) (a0 : Int32) : Option Int32 := (some (fc_isBelowT M a0 8))
def fc_isShelfT (M : Mem) (a0 : Int32) : Int32 := ((fc_isBelowT M a0 8))
theorem fc_isShelfE (M : Mem) (a0 : Int32) : fc_isShelf M a0 = some (fc_isShelfT M a0) := by
  unfold fc_isShelf fc_isShelfT
  repeat' split
  all_goals first | rfl | simp_all
theorem fc_isShelfB (M : Mem) (a0 : Int32) : isB (fc_isShelfT M a0) := by
  unfold fc_isShelfT
  repeat' split
  all_goals first | exact Or.inl rfl | exact Or.inr rfl | exact fc_isBelowB _ _ _
def fc_refuse (M : Mem) (a1 : Int32) : Option (Int32 × Mem) := (ilet (((-2) : Int32) - a1) (fun v1 => (if (fc_isBelowT M v1 5) = 0 then (some (a1, M)) else (gd (inb v1 5) (gd (inb v1 5) (mlet (wI M 118 (ix v1) ((M.1 118 (ix v1)) + 1)) (fun M4 => (some (a1, M4)))))))))
def fc_isWithin (M : Mem) (a0 : Int32) (a1 : Int32) (a2 : Int32) : Option Int32 := (if a0 < a1 then (some 0) else (if a2 < a0 then (some 0) else (some 1)))
def fc_isWithinT (M : Mem) (a0 : Int32) (a1 : Int32) (a2 : Int32) : Int32 := (if a0 < a1 then (0) else (if a2 < a0 then (0) else (1)))
theorem fc_isWithinE (M : Mem) (a0 : Int32) (a1 : Int32) (a2 : Int32) : fc_isWithin M a0 a1 a2 = some (fc_isWithinT M a0 a1 a2) := by
  unfold fc_isWithin fc_isWithinT
  repeat' split
  all_goals first | rfl | simp_all
theorem fc_isWithinB (M : Mem) (a0 : Int32) (a1 : Int32) (a2 : Int32) : isB (fc_isWithinT M a0 a1 a2) := by
  unfold fc_isWithinT
  repeat' split
  all_goals first | exact Or.inl rfl | exact Or.inr rfl
def fShelf_takeRow_L17 (b0 : Nat) : Nat → Int32 → Mem → Option Mem
  | 0, _, _ => none
  | n + 1, x3, M => (if (40 : Int32) ≤ x3 then (some M) else (gd (inb x3 40) (mlet (wL M (b0 + 10) (ix x3) 0) (fun M5 => (fShelf_takeRow_L17 b0 n (x3 + 1) M5)))))
def fShelf_takeRow (M : Mem) (a0 : Nat) (a1 : Int32) (a2 : Int32) : Option Mem := (mlet (wI M (a0 + 2) 0 a1) (fun M1 => (mlet (wI M1 (a0 + 2) 1 a2) (fun M2 => (mlet (wI M2 (a0 + 2) 2 (-1)) (fun M3 => (fShelf_takeRow_L17 a0 FU 0 M3)))))))
def fc_row (M : Mem) (a1 : Int32) (a2 : Int32) (a3 : Int32) : Option (Int32 × Mem) := (if (fc_isShelfT M a1) = 0 then (Option.bind (fc_refuse M (-2)) (fun u2 => (some (u2.1, u2.2)))) else (if (fc_isBelowT M a2 5) = 0 then (Option.bind (fc_refuse M (-2)) (fun u4 => (some (u4.1, u4.2)))) else (if (fc_isWithinT M a3 0 40) = 0 then (Option.bind (fc_refuse M (-2)) (fun u8 => (some (u8.1, u8.2)))) else (gd (inb a1 8) (Option.bind (fShelf_takeRow M (ix a1) a2 a3) (fun M6 => (some (1, M6))))))))
def fShelf_isEmpty (M : Mem) (a0 : Nat) : Option Int32 := (if (M.1 (a0 + 2) 0) = ((-1) : Int32) then (if (M.1 (a0 + 2) 2) = ((-1) : Int32) then (some 1) else (some 0)) else (some 0))
def fShelf_isEmptyT (M : Mem) (a0 : Nat) : Int32 := (if (M.1 (a0 + 2) 0) = ((-1) : Int32) then (if (M.1 (a0 + 2) 2) = ((-1) : Int32) then (1) else (0)) else (0))
theorem fShelf_isEmptyE (M : Mem) (a0 : Nat) : fShelf_isEmpty M a0 = some (fShelf_isEmptyT M a0) := by
  unfold fShelf_isEmpty fShelf_isEmptyT
  repeat' split
  all_goals first | rfl | simp_all
theorem fShelf_isEmptyB (M : Mem) (a0 : Nat) : isB (fShelf_isEmptyT M a0) := by
  unfold fShelf_isEmptyT
  repeat' split
  all_goals first | exact Or.inl rfl | exact Or.inr rfl
def fc_rowTrouble (M : Mem) (a1 : Int32) (a2 : Int32) : Option Int32 := (if (fc_isShelfT M a1) = 0 then (some (-2)) else (if (fc_isShelfT M a2) = 0 then (some (-2)) else (gd (inb a1 8) (if (M.1 ((ix a1) + 2) 2) = ((-1) : Int32) then (gd (inb a2 8) (if (M.1 ((ix a2) + 2) 2) = ((-1) : Int32) then (gd (inb a1 8) (if (fShelf_isEmptyT M (ix a1)) = 0 then (gd (inb a2 8) (if (fShelf_isEmptyT M (ix a2)) = 0 then (some 0) else (some (-4)))) else (some (-4)))) else (some (-3)))) else (some (-3))))))
def fShelf_lowestBits (M : Mem) (a0 : Nat) (a1 : Int64) : Option Int64 := (if (M.1 (a0 + 2) 0) = 0 then (some (Int32.toInt64 (Int8.toInt32 (Int32.toInt8 (Int64.toInt32 a1))))) else (if (M.1 (a0 + 2) 0) = 1 then (some (Int32.toInt64 (Int16.toInt32 (Int32.toInt16 (Int64.toInt32 a1))))) else (if (M.1 (a0 + 2) 0) = 2 then (some (Int32.toInt64 (Int64.toInt32 a1))) else (if (M.1 (a0 + 2) 0) = 3 then (some a1) else (if (lg_cmp a1 0) = 0 then (some 0) else (some 1))))))
def fShelf_put (M : Mem) (a0 : Nat) (a1 : Int32) (a2 : Int64) : Option Mem := (if (fc_isBelowT M a1 (M.1 (a0 + 2) 1)) = 0 then (some M) else (Option.bind (fShelf_lowestBits M a0 a2) (fun r1 => (gd (inb a1 40) (mlet (wL M (a0 + 10) (ix a1) r1) (fun M3 => (some M3)))))))
def fc_set (M : Mem) (a1 : Int32) (a2 : Int32) (a3 : Int64) : Option (Int32 × Mem) := (Option.bind (fc_rowTrouble M a1 a1) (fun r1 => (if r1 = 0 then (gd (inb a1 8) (if (fc_isBelowT M a2 (M.1 ((ix a1) + 2) 1)) = 0 then (Option.bind (fc_refuse M (-2)) (fun u6 => (some (u6.1, u6.2)))) else (gd (inb a1 8) (Option.bind (fShelf_put M (ix a1) a2 a3) (fun M4 => (some (1, M4))))))) else (Option.bind (fc_refuse M r1) (fun u8 => (some (u8.1, u8.2)))))))
def fShelf_hasPart (M : Mem) (a0 : Nat) (a1 : Int32) (a2 : Int32) : Option Int32 := (if a1 < 0 then (some 0) else (if a2 < 0 then (some 0) else (if (M.1 (a0 + 2) 1) < a1 then (some 0) else (if ((M.1 (a0 + 2) 1) - a1) < a2 then (some 0) else (some 1)))))
def fShelf_hasPartT (M : Mem) (a0 : Nat) (a1 : Int32) (a2 : Int32) : Int32 := (if a1 < 0 then (0) else (if a2 < 0 then (0) else (if (M.1 (a0 + 2) 1) < a1 then (0) else (if ((M.1 (a0 + 2) 1) - a1) < a2 then (0) else (1)))))
theorem fShelf_hasPartE (M : Mem) (a0 : Nat) (a1 : Int32) (a2 : Int32) : fShelf_hasPart M a0 a1 a2 = some (fShelf_hasPartT M a0 a1 a2) := by
  unfold fShelf_hasPart fShelf_hasPartT
  repeat' split
  all_goals first | rfl | simp_all
theorem fShelf_hasPartB (M : Mem) (a0 : Nat) (a1 : Int32) (a2 : Int32) : isB (fShelf_hasPartT M a0 a1 a2) := by
  unfold fShelf_hasPartT
  repeat' split
  all_goals first | exact Or.inl rfl | exact Or.inr rfl
def fc_copy (M : Mem) (a1 : Int32) (a2 : Int32) (a3 : Int32) (a4 : Int32) (a5 : Int32) : Option (Int32 × Mem) := (Option.bind (fc_rowTrouble M a1 a2) (fun r1 => (if r1 = 0 then (gd (inb a1 8) (gd (inb a2 8) (if (M.1 ((ix a1) + 2) 0) = (M.1 ((ix a2) + 2) 0) then (if (fShelf_hasPartT M (ix a1) a3 a5) = 0 then (Option.bind (fc_refuse M (-2)) (fun u5 => (some (u5.1, u5.2)))) else (if (fShelf_hasPartT M (ix a2) a4 a5) = 0 then (Option.bind (fc_refuse M (-2)) (fun u8 => (some (u8.1, u8.2)))) else (gd (cpokB a3 a4 a5 40 40) (mlet (cpL M ((ix a1) + 10) ((ix a2) + 10) a3 a4 a5) (fun M6 => (some (a5, M6))))))) else (Option.bind (fc_refuse M (-3)) (fun u10 => (some (u10.1, u10.2))))))) else (Option.bind (fc_refuse M r1) (fun u12 => (some (u12.1, u12.2)))))))
def fShelf_at (M : Mem) (a0 : Nat) (a1 : Int32) : Option Int64 := (if (fc_isBelowT M a1 (M.1 (a0 + 2) 1)) = 0 then (some 0) else (gd (inb a1 40) (some (M.2 (a0 + 10) (ix a1)))))
def fc_element (M : Mem) (a1 : Int32) (a2 : Int32) : Option Int64 := (if (fc_isShelfT M a1) = 0 then (some 0) else (gd (inb a1 8) (Option.bind (fShelf_at M (ix a1) a2) (fun r2 => (some r2)))))
def fc_holds (M : Mem) (a1 : Int32) : Option Int32 := (if (fc_isShelfT M a1) = 0 then (some (-1)) else (gd (inb a1 8) (if (M.1 ((ix a1) + 2) 2) = ((-1) : Int32) then (some (M.1 ((ix a1) + 2) 0)) else (some ((10 : Int32) + (M.1 ((ix a1) + 2) 2))))))
def fShelf_takeJetty (M : Mem) (a0 : Nat) (a1 : Int32) : Option Mem := (mlet (wI M (a0 + 2) 0 (-1)) (fun M1 => (mlet (wI M1 (a0 + 2) 1 0) (fun M2 => (mlet (wI M2 (a0 + 2) 2 a1) (fun M3 => (some M3)))))))
def fc_isJetty (M : Mem) (a1 : Int32) : Option Int32 := (some (fc_isBelowT M a1 (M.1 20 1)))
def fc_isJettyT (M : Mem) (a1 : Int32) : Int32 := ((fc_isBelowT M a1 (M.1 20 1)))
theorem fc_isJettyE (M : Mem) (a1 : Int32) : fc_isJetty M a1 = some (fc_isJettyT M a1) := by
  unfold fc_isJetty fc_isJettyT
  repeat' split
  all_goals first | rfl | simp_all
theorem fc_isJettyB (M : Mem) (a1 : Int32) : isB (fc_isJettyT M a1) := by
  unfold fc_isJettyT
  repeat' split
  all_goals first | exact Or.inl rfl | exact Or.inr rfl | exact fc_isBelowB _ _ _
def fc_show (M : Mem) (a1 : Int32) (a2 : Int32) : Option (Int32 × Mem) := (if (fc_isShelfT M a1) = 0 then (Option.bind (fc_refuse M (-2)) (fun u2 => (some (u2.1, u2.2)))) else (if a2 = ((-1) : Int32) then (gd (inb a1 8) (Option.bind (fShelf_takeJetty M (ix a1) a2) (fun M4 => (some (1, M4))))) else (if (fc_isJettyT M a2) = 0 then (Option.bind (fc_refuse M (-2)) (fun u8 => (some (u8.1, u8.2)))) else (gd (inb a1 8) (Option.bind (fShelf_takeJetty M (ix a1) a2) (fun M6 => (some (1, M6))))))))
def fJetty_isOfKind_L7 (M : Mem) (b1 : Int32) : Nat → Int32 → Int32 → Option Int32
  | 0, _, _ => none
  | n + 1, x2, x3 => (if (6 : Int32) ≤ x3 then (some 0) else (if (fc_isBelowT M x2 6) = 0 then (some 0) else (if x2 = b1 then (some 1) else (gd (inb x2 6) (ilet (sv3.getD (ix x2) 0) (fun v3 => (fJetty_isOfKind_L7 M b1 n v3 (x3 + 1))))))))
def fJetty_isOfKind (M : Mem) (a0 : Nat) (a1 : Int32) : Option Int32 := (ilet (M.1 (a0 + 22) 0) (fun v1 => (fJetty_isOfKind_L7 M a1 FU v1 0)))
def fJetty_paces (M : Mem) (a0 : Nat) : Option Int32 := (if (M.1 (a0 + 22) 0) = 1 then (some ((2 : Int32) * (M.1 (a0 + 22) 2))) else (if (M.1 (a0 + 22) 0) = 2 then (some (((2 : Int32) * (M.1 (a0 + 22) 2)) + 4)) else (if (M.1 (a0 + 22) 0) = 4 then (some ((M.1 (a0 + 22) 2) + 2)) else (if (M.1 (a0 + 22) 0) = 5 then (some 1) else (some (M.1 (a0 + 22) 2))))))
def fJetty_pacesT (M : Mem) (a0 : Nat) : Int32 := (if (M.1 (a0 + 22) 0) = 1 then (((2 : Int32) * (M.1 (a0 + 22) 2))) else (if (M.1 (a0 + 22) 0) = 2 then ((((2 : Int32) * (M.1 (a0 + 22) 2)) + 4)) else (if (M.1 (a0 + 22) 0) = 4 then (((M.1 (a0 + 22) 2) + 2)) else (if (M.1 (a0 + 22) 0) = 5 then (1) else ((M.1 (a0 + 22) 2))))))
theorem fJetty_pacesE (M : Mem) (a0 : Nat) : fJetty_paces M a0 = some (fJetty_pacesT M a0) := by
  unfold fJetty_paces fJetty_pacesT
  repeat' split
  all_goals first | rfl | simp_all
def fJetty_riseAt (M : Mem) (a0 : Nat) (a1 : Int32) : Option Int32 := (if (M.1 (a0 + 22) 0) = 1 then (some (((M.1 (a0 + 22) 3) - a1) - 10)) else (if (M.1 (a0 + 22) 0) = 2 then (some (if (0 : Int32) < (((M.1 (a0 + 22) 3) - a1) - 10) then (((M.1 (a0 + 22) 3) - a1) - 10) else 0)) else (if (M.1 (a0 + 22) 0) = 3 then (some (M.1 (a0 + 22) 3)) else (if (M.1 (a0 + 22) 0) = 4 then (some ((M.1 (a0 + 22) 3) / 2)) else (some ((M.1 (a0 + 22) 3) - a1))))))
def fJetty_riseAtT (M : Mem) (a0 : Nat) (a1 : Int32) : Int32 := (if (M.1 (a0 + 22) 0) = 1 then ((((M.1 (a0 + 22) 3) - a1) - 10)) else (if (M.1 (a0 + 22) 0) = 2 then ((if (0 : Int32) < (((M.1 (a0 + 22) 3) - a1) - 10) then (((M.1 (a0 + 22) 3) - a1) - 10) else 0)) else (if (M.1 (a0 + 22) 0) = 3 then ((M.1 (a0 + 22) 3)) else (if (M.1 (a0 + 22) 0) = 4 then (((M.1 (a0 + 22) 3) / 2)) else (((M.1 (a0 + 22) 3) - a1))))))
theorem fJetty_riseAtE (M : Mem) (a0 : Nat) (a1 : Int32) : fJetty_riseAt M a0 a1 = some (fJetty_riseAtT M a0 a1) := by
  unfold fJetty_riseAt fJetty_riseAtT
  repeat' split
  all_goals first | rfl | simp_all
def fc_toNumber (M : Mem) (a0 : Int32) : Option Int32 := (if a0 = 0 then (some 0) else (some 1))
def fc_toNumberT (M : Mem) (a0 : Int32) : Int32 := (if a0 = 0 then (0) else (1))
theorem fc_toNumberE (M : Mem) (a0 : Int32) : fc_toNumber M a0 = some (fc_toNumberT M a0) := by
  unfold fc_toNumber fc_toNumberT
  repeat' split
  all_goals first | rfl | simp_all
def fc_saying (M : Mem) (a1 : Nat) (a2 : Int32) : Option Int32 := (if a2 = 1 then (some (fJetty_pacesT M a1)) else (if a2 = 2 then (some (fJetty_pacesT M a1)) else (if a2 = 3 then (some (fJetty_riseAtT M a1 (M.1 20 12))) else (if a2 = 4 then (some (fJetty_riseAtT M a1 (M.1 20 12))) else (if a2 = 5 then (some (fc_toNumberT M (M.1 (a1 + 22) 4))) else (some (M.1 (a1 + 22) 1)))))))
def fc_sayingT (M : Mem) (a1 : Nat) (a2 : Int32) : Int32 := (if a2 = 1 then ((fJetty_pacesT M a1)) else (if a2 = 2 then ((fJetty_pacesT M a1)) else (if a2 = 3 then ((fJetty_riseAtT M a1 (M.1 20 12))) else (if a2 = 4 then ((fJetty_riseAtT M a1 (M.1 20 12))) else (if a2 = 5 then ((fc_toNumberT M (M.1 (a1 + 22) 4))) else ((M.1 (a1 + 22) 1)))))))
theorem fc_sayingE (M : Mem) (a1 : Nat) (a2 : Int32) : fc_saying M a1 a2 = some (fc_sayingT M a1 a2) := by
  unfold fc_saying fc_sayingT
  repeat' split
  all_goals first | rfl | simp_all
def fc_says (M : Mem) (a1 : Int32) (a2 : Int32) : Option (Int32 × Mem) := (if (fc_isShelfT M a1) = 0 then (Option.bind (fc_refuse M (-2)) (fun u2 => (some (u2.1, u2.2)))) else (if (fc_isBelowT M a2 6) = 0 then (Option.bind (fc_refuse M (-2)) (fun u13 => (some (u13.1, u13.2)))) else (gd (inb a1 8) (if (M.1 ((ix a1) + 2) 0) = ((-1) : Int32) then (if (fc_isJettyT M (M.1 ((ix a1) + 2) 2)) = 0 then (Option.bind (fc_refuse M (-4)) (fun u9 => (some (u9.1, u9.2)))) else (gd (inb (M.1 ((ix a1) + 2) 2) 20) (Option.bind (fJetty_isOfKind M (ix (M.1 ((ix a1) + 2) 2)) a2) (fun r5 => (if r5 = 0 then (Option.bind (fc_refuse M (-3)) (fun u7 => (some (u7.1, u7.2)))) else (some ((fc_sayingT M (ix (M.1 ((ix a1) + 2) 2)) a2), M))))))) else (Option.bind (fc_refuse M (-3)) (fun u11 => (some (u11.1, u11.2))))))))
def fJetty_build (M : Mem) (a0 : Nat) (a1 : Int32) (a2 : Int32) (a3 : Int32) (a4 : Int32) : Option Mem := (mlet (wI M (a0 + 22) 0 a1) (fun M1 => (mlet (wI M1 (a0 + 22) 1 a2) (fun M2 => (mlet (wI M2 (a0 + 22) 2 a3) (fun M3 => (mlet (wI M3 (a0 + 22) 3 a4) (fun M4 => (mlet (wI M4 (a0 + 22) 4 0) (fun M5 => (some M5)))))))))))
def fc_jetty (M : Mem) (a1 : Int32) (a2 : Int32) (a3 : Int32) (a4 : Int32) : Option (Int32 × Mem) := (if (fc_isBelowT M a1 6) = 0 then (Option.bind (fc_refuse M (-2)) (fun u2 => (some (u2.1, u2.2)))) else (if (fc_isBelowT M a2 256) = 0 then (Option.bind (fc_refuse M (-2)) (fun u4 => (some (u4.1, u4.2)))) else (if (fc_isWithinT M a3 1 30) = 0 then (Option.bind (fc_refuse M (-2)) (fun u6 => (some (u6.1, u6.2)))) else (if (fc_isWithinT M a4 0 99) = 0 then (Option.bind (fc_refuse M (-2)) (fun u13 => (some (u13.1, u13.2)))) else (if (M.1 20 1) < (20 : Int32) then (gd (inb (M.1 20 1) 20) (Option.bind (fJetty_build M (ix (M.1 20 1)) a1 a2 a3 a4) (fun M8 => (mlet (wI M8 20 1 ((M8.1 20 1) + 1)) (fun M9 => (some (((M9.1 20 1) - 1), M9))))))) else (Option.bind (fc_refuse M (-6)) (fun u11 => (some (u11.1, u11.2)))))))))
def fLake_deck (M : Mem) : Option Int32 := (some ((20 : Int32) - ((M.1 20 13) / 4)))
def fLake_deckT (M : Mem) : Int32 := (((20 : Int32) - ((M.1 20 13) / 4)))
theorem fLake_deckE (M : Mem) : fLake_deck M = some (fLake_deckT M) := by
  unfold fLake_deck fLake_deckT
  repeat' split
  all_goals first | rfl | simp_all
def fLake_isOut (M : Mem) (a1 : Nat) (a2 : Int32) : Option Int32 := (if (if 0 ≤ ((fJetty_riseAtT M a1 a2) - (fLake_deckT M)) then ((fJetty_riseAtT M a1 a2) - (fLake_deckT M)) else 0 - ((fJetty_riseAtT M a1 a2) - (fLake_deckT M))) ≤ (60 : Int32) then (some 0) else (some 1))
def fLake_isOutT (M : Mem) (a1 : Nat) (a2 : Int32) : Int32 := (if (if 0 ≤ ((fJetty_riseAtT M a1 a2) - (fLake_deckT M)) then ((fJetty_riseAtT M a1 a2) - (fLake_deckT M)) else 0 - ((fJetty_riseAtT M a1 a2) - (fLake_deckT M))) ≤ (60 : Int32) then (0) else (1))
theorem fLake_isOutE (M : Mem) (a1 : Nat) (a2 : Int32) : fLake_isOut M a1 a2 = some (fLake_isOutT M a1 a2) := by
  unfold fLake_isOut fLake_isOutT
  repeat' split
  all_goals first | rfl | simp_all
theorem fLake_isOutB (M : Mem) (a1 : Nat) (a2 : Int32) : isB (fLake_isOutT M a1 a2) := by
  unfold fLake_isOutT
  repeat' split
  all_goals first | exact Or.inl rfl | exact Or.inr rfl
def fLake_lawValue (M : Mem) (a1 : Int32) : Option Int32 := (jlet (fun z23 : Int32 => (if z23 = 0 then (gd (inb a1 9) (some (sv0.getD (ix a1) 0))) else (gd (inb (M.1 20 4) 6) (gd (inb a1 9) (some (M.1 ((ix (M.1 20 4)) + 50) (ix a1))))))) (fun J23 => (jlet (fun z22 : Unit => (J23 0)) (fun J22 => (if (M.1 20 4) < 0 then (J22 ()) else (if (M.1 20 3) ≤ (M.1 20 4) then (J22 ()) else (J23 1)))))))
def fLake_speed (M : Mem) : Option Int32 := (Option.bind (fLake_lawValue M 1) (fun r1 => (some r1)))
def fc_roundedUpBy (M : Mem) (a0 : Int32) (a1 : Int32) : Option Int32 := (if (1 : Int32) ≤ a1 then (gd (¬ a1 = 0) (some (((a0 + a1) - 1) / a1))) else (some 0))
def fc_cutBy (M : Mem) (a0 : Int32) (a1 : Int32) : Option Int32 := (if (1 : Int32) ≤ a1 then (gd (¬ a1 = 0) (some (a0 / a1))) else (some 0))
def fLake_hasTime (M : Mem) (a1 : Nat) (a2 : Int32) : Option Int32 := (Option.bind (fLake_lawValue M 2) (fun r1 => (Option.bind (fc_roundedUpBy M ((2 : Int32) * (fJetty_pacesT M a1)) r1) (fun r2 => (Option.bind (fLake_lawValue M 3) (fun r3 => (ilet (r2 + r3) (fun v4 => (Option.bind (fLake_lawValue M 0) (fun r5 => (Option.bind (fc_cutBy M r5 a2) (fun r6 => (if r6 < v4 then (some 0) else (some 1))))))))))))))
def fc_jettyOf (M : Mem) (a1 : Int32) (a2 : Int32) : Option (Int32 × Mem) := (if (fc_isJettyT M a1) = 0 then (Option.bind (fc_refuse M (-2)) (fun u7 => (some (u7.1, u7.2)))) else (gd (inb a1 20) (if a2 = 0 then (some ((M.1 ((ix a1) + 22) 0), M)) else (if a2 = 1 then (some ((M.1 ((ix a1) + 22) 1), M)) else (if a2 = 2 then (some ((M.1 ((ix a1) + 22) 2), M)) else (if a2 = 3 then (some ((M.1 ((ix a1) + 22) 3), M)) else (if a2 = 4 then (some ((fJetty_pacesT M (ix a1)), M)) else (if a2 = 5 then (some ((fc_toNumberT M (M.1 ((ix a1) + 22) 4)), M)) else (if a2 = 6 then (some ((fc_toNumberT M (fLake_isOutT M (ix a1) (M.1 20 12))), M)) else (if a2 = 7 then (Option.bind (fLake_speed M) (fun r2 => (Option.bind (fLake_hasTime M (ix a1) r2) (fun r3 => (some ((fc_toNumberT M r3), M)))))) else (Option.bind (fc_refuse M (-2)) (fun u5 => (some (u5.1, u5.2))))))))))))))
def fc_wet (M : Mem) (a1 : Int32) (a2 : Int32) : Option (Int32 × Mem) := (if (fc_isJettyT M a1) = 0 then (Option.bind (fc_refuse M (-2)) (fun u5 => (some (u5.1, u5.2)))) else (gd (inb a1 20) (ilet (M.1 ((ix a1) + 22) 4) (fun v2 => (gd (isB a2) (mlet (wI M ((ix a1) + 22) 4 a2) (fun M3 => (some ((fc_toNumberT M3 v2), M3)))))))))
def fc_rise (M : Mem) (a1 : Int32) (a2 : Int32) : Option (Int32 × Mem) := (if (fc_isJettyT M a1) = 0 then (Option.bind (fc_refuse M (-2)) (fun u2 => (some ((((-1000) : Int32) + u2.1), u2.2)))) else (if (fc_isWithinT M a2 (-50) 50) = 0 then (Option.bind (fc_refuse M (-2)) (fun u5 => (some ((((-1000) : Int32) + u5.1), u5.2)))) else (gd (inb a1 20) (some ((fJetty_riseAtT M (ix a1) a2), M)))))
def fc_lake (M : Mem) (a1 : Int32) (a2 : Int32) : Option (Int32 × Mem) := (jlet (fun z34 : Unit => (jlet (fun z68 : Unit => (if a1 = (2 : Int32) then (if (fc_isBelowT M a2 256) = 0 then (Option.bind (fc_refuse M (-2)) (fun u4 => (some (u4.1, u4.2)))) else (ilet (M.1 20 14) (fun v5 => (mlet (wI M 20 14 a2) (fun M6 => (if v5 = a2 then (some ((fc_toNumberT M6 0), M6)) else (some ((fc_toNumberT M6 1), M6)))))))) else (Option.bind (fc_refuse M (-2)) (fun u2 => (some (u2.1, u2.2)))))) (fun J68 => (if a1 = (1 : Int32) then (if (fc_isWithinT M a2 0 60) = 0 then (J68 ()) else (ilet (M.1 20 13) (fun v7 => (mlet (wI M 20 13 a2) (fun M8 => (if v7 = a2 then (some ((fc_toNumberT M8 0), M8)) else (some ((fc_toNumberT M8 1), M8)))))))) else (J68 ()))))) (fun J34 => (if a1 = 0 then (if (fc_isWithinT M a2 (-50) 50) = 0 then (J34 ()) else (ilet (M.1 20 12) (fun v9 => (mlet (wI M 20 12 a2) (fun M10 => (if v9 = a2 then (some ((fc_toNumberT M10 0), M10)) else (some ((fc_toNumberT M10 1), M10)))))))) else (J34 ()))))
def fc_isHour (M : Mem) (a0 : Int32) : Option Int32 := (some (fc_isBelowT M a0 12))
def fc_isHourT (M : Mem) (a0 : Int32) : Int32 := ((fc_isBelowT M a0 12))
theorem fc_isHourE (M : Mem) (a0 : Int32) : fc_isHour M a0 = some (fc_isHourT M a0) := by
  unfold fc_isHour fc_isHourT
  repeat' split
  all_goals first | rfl | simp_all
theorem fc_isHourB (M : Mem) (a0 : Int32) : isB (fc_isHourT M a0) := by
  unfold fc_isHourT
  repeat' split
  all_goals first | exact Or.inl rfl | exact Or.inr rfl | exact fc_isBelowB _ _ _
def fc_wind (M : Mem) (a1 : Int32) (a2 : Int32) : Option (Int32 × Mem) := (if (fc_isHourT M a1) = 0 then (Option.bind (fc_refuse M (-2)) (fun u2 => (some (u2.1, u2.2)))) else (if (fc_isWithinT M a2 0 9) = 0 then (Option.bind (fc_refuse M (-2)) (fun u8 => (some (u8.1, u8.2)))) else (gd (inb a1 12) (ilet (M.1 66 (ix a1)) (fun v4 => (gd (inb a1 12) (mlet (wI M 66 (ix a1) a2) (fun M6 => (some (v4, M6))))))))))
def fc_winds_L35 (b1 : Int32) (b3 : Int32) : Nat → Int32 → Mem → Option (Int32 × Mem)
  | 0, _, _ => none
  | n + 1, x4, M => (if b3 ≤ x4 then (some (b3, M)) else (gd (inb b1 8) (Option.bind (fShelf_at M (ix b1) x4) (fun r5 => (if (lg_cmp r5 0) < 0 then (some (x4, M)) else (if (lg_cmp r5 9) ≤ 0 then (gd (inb x4 12) (mlet (wI M 66 (ix x4) (Int64.toInt32 r5)) (fun M7 => (fc_winds_L35 b1 b3 n (x4 + 1) M7)))) else (some (x4, M))))))))
def fc_winds (M : Mem) (a1 : Int32) : Option (Int32 × Mem) := (Option.bind (fc_rowTrouble M a1 a1) (fun r1 => (if r1 = 0 then (gd (inb a1 8) (ilet (if (M.1 ((ix a1) + 2) 1) < (12 : Int32) then (M.1 ((ix a1) + 2) 1) else 12) (fun v3 => (fc_winds_L35 a1 v3 FU 0 M)))) else (Option.bind (fc_refuse M r1) (fun u9 => (some (u9.1, u9.2)))))))
def fTape_append_L4 (b1 : Int32) : Nat → Int32 → Mem → Option Mem
  | 0, _, _ => none
  | n + 1, x3, M => (if x3 < 0 then (some M) else (if (160 : Int32) ≤ (M.1 18 1) then (some M) else (gd (inb (M.1 18 1) 160) (mlet (wI M 19 (ix (M.1 18 1)) (Int8.toInt32 (Int32.toInt8 (b1 >>> (((8 : Int32) * x3) &&& 31))))) (fun M3 => (mlet (wI M3 18 1 ((M3.1 18 1) + 1)) (fun M4 => (fTape_append_L4 b1 n (x3 + (-1)) M4))))))))
def fTape_append (M : Mem) (a1 : Int32) (a2 : Int32) : Option Mem := (ilet (a2 - 1) (fun v1 => (fTape_append_L4 a1 FU v1 M)))
def fc_feed (M : Mem) (a1 : Int32) (a2 : Int32) : Option (Int32 × Mem) := (if (fc_isWithinT M a2 1 4) = 0 then (Option.bind (fc_refuse M (-2)) (fun u5 => (some (u5.1, u5.2)))) else (if a2 ≤ ((160 : Int32) - (M.1 18 1)) then (Option.bind (fTape_append M a1 a2) (fun M1 => (some ((M1.1 18 1), M1)))) else (Option.bind (fc_refuse M (-6)) (fun u3 => (some (u3.1, u3.2))))))
def fc_wipe (M : Mem) : Option (Int32 × Mem) := (ilet (M.1 18 1) (fun v1 => (mlet (wI M 18 1 0) (fun M2 => (some (v1, M2))))))
def fLaw_reset (M : Mem) (a0 : Nat) : Option Mem := (gd (cpokB 0 0 9 9 9) (mlet (cpS M (a0 + 50) 0 0 9) (fun M1 => (some M1))))
def fTape_skipBlanks_L0 : Nat → Mem → Option Mem
  | 0, _ => none
  | n + 1, M => (if (M.1 18 1) ≤ (M.1 18 2) then (some M) else (gd (inb (M.1 18 2) 160) (if (M.1 19 (ix (M.1 18 2))) = (32 : Int32) then (mlet (wI M 18 2 ((M.1 18 2) + 1)) (fun M4 => (fTape_skipBlanks_L0 n M4))) else (some M))))
def fTape_skipBlanks (M : Mem) : Option Mem := (if (M.1 18 1) ≤ (M.1 18 2) then (some M) else (gd (inb (M.1 18 2) 160) (if (M.1 19 (ix (M.1 18 2))) = (32 : Int32) then (mlet (wI M 18 2 ((M.1 18 2) + 1)) (fun M2 => (fTape_skipBlanks_L0 FU M2))) else (some M))))
def fTape_endOfRun_L5 (M : Mem) (b1 : Int32) (b2 : Int32) : Nat → Int32 → Option Int32
  | 0, _ => none
  | n + 1, x3 => (if (M.1 18 1) ≤ x3 then (some x3) else (gd (inb x3 160) (if (M.1 19 (ix x3)) < b1 then (some x3) else (gd (inb x3 160) (if b2 < (M.1 19 (ix x3)) then (some x3) else (fTape_endOfRun_L5 M b1 b2 n (x3 + 1)))))))
def fTape_endOfRun (M : Mem) (a1 : Int32) (a2 : Int32) : Option Int32 := (ilet (M.1 18 2) (fun v1 => (fTape_endOfRun_L5 M a1 a2 FU v1)))
def fTape_lawWord (M : Mem) (a0 : Int32) : Option Nat := (if a0 = 0 then (some 0) else (if a0 = 1 then (some 1) else (if a0 = 2 then (some 2) else (if a0 = 3 then (some 3) else (if a0 = 4 then (some 4) else (if a0 = 5 then (some 5) else (if a0 = 6 then (some 6) else (if a0 = 7 then (some 7) else (some 8)))))))))
def fTape_lawWordT (M : Mem) (a0 : Int32) : Nat := (if a0 = 0 then (0) else (if a0 = 1 then (1) else (if a0 = 2 then (2) else (if a0 = 3 then (3) else (if a0 = 4 then (4) else (if a0 = 5 then (5) else (if a0 = 6 then (6) else (if a0 = 7 then (7) else (8)))))))))
theorem fTape_lawWordE (M : Mem) (a0 : Int32) : fTape_lawWord M a0 = some (fTape_lawWordT M a0) := by
  unfold fTape_lawWord fTape_lawWordT
  repeat' split
  all_goals first | rfl | simp_all
theorem fTape_lawWord_lt (M : Mem) (a0 : Int32) : fTape_lawWordT M a0 < 9 := by
  unfold fTape_lawWordT
  repeat' split
  all_goals decide
def fTape_stands_L17 (M : Mem) (b1 : Nat) : Nat → Int32 → Option Int32
  | 0, _ => none
  | n + 1, x3 => (if (nI (svN.getD b1 0)) ≤ x3 then (some 1) else (gd (inb x3 (svN.getD b1 0)) (gd (inb ((M.1 18 2) + x3) 160) (if (svc b1 (ix x3)) = (M.1 19 (ix ((M.1 18 2) + x3))) then (fTape_stands_L17 M b1 n (x3 + 1)) else (some 0)))))
def fTape_stands (M : Mem) (a1 : Nat) (a2 : Int32) : Option Int32 := (if (nI (svN.getD a1 0)) = (a2 - (M.1 18 2)) then (fTape_stands_L17 M a1 FU 0) else (some 0))
def fTape_readWord_L11 (M : Mem) (b1 : Int32) (kx29 : Int32 → Option (Int32 × Mem)) : Nat → Int32 → Option (Int32 × Mem)
  | 0, _ => none
  | n + 1, x2 => (if (9 : Int32) ≤ x2 then (some ((-1), M)) else (Option.bind (fTape_stands M (fTape_lawWordT M x2) b1) (fun r2 => (if r2 = 0 then (fTape_readWord_L11 M b1 kx29 n (x2 + 1)) else (kx29 x2)))))
def fTape_readWord (M : Mem) : Option (Int32 × Mem) := (Option.bind (fTape_endOfRun M 97 122) (fun r1 => (fTape_readWord_L11 M r1 (fun w3 => (mlet (wI M 18 2 r1) (fun M4 => (some (w3, M4))))) FU 0)))
def fTape_readNumber_L30 (b1 : Int32) : Nat → Int32 → Mem → Option (Int32 × Mem)
  | 0, _, _ => none
  | n + 1, x3, M => (if b1 ≤ (M.1 18 2) then (some (x3, M)) else (gd (inb (M.1 18 2) 160) (ilet ((((10 : Int32) * x3) + (M.1 19 (ix (M.1 18 2)))) - 48) (fun v4 => (mlet (wI M 18 2 ((M.1 18 2) + 1)) (fun M5 => (fTape_readNumber_L30 b1 n v4 M5)))))))
def fTape_readNumber (M : Mem) : Option (Int32 × Mem) := (Option.bind (fTape_endOfRun M 48 57) (fun r1 => (ilet (r1 - (M.1 18 2)) (fun v2 => (if v2 < (1 : Int32) then (some ((-1), M)) else (if v2 ≤ (2 : Int32) then (fTape_readNumber_L30 r1 FU 0 M) else (some ((-1), M))))))))
def fTape_readInto_L11 (b1 : Nat) (kx134 : Mem → Option (Int32 × Mem)) (kx32 : Mem → Option (Int32 × Mem)) (kx113 : Mem → Option (Int32 × Mem)) : Nat → Int32 → Mem → Option (Int32 × Mem)
  | 0, _, _ => none
  | n + 1, x2, M => (if (160 : Int32) ≤ x2 then (kx134 M) else (Option.bind (fTape_skipBlanks M) (fun M3 => (Option.bind (fTape_readWord M3) (fun u5 => (if u5.1 = ((-1) : Int32) then (kx32 u5.2) else (Option.bind (fTape_skipBlanks u5.2) (fun M6 => (ilet (M6.1 18 2) (fun v7 => (Option.bind (fTape_readNumber M6) (fun u9 => (gd (inb u5.1 9) (gd (inb u5.1 9) (if (fc_isWithinT u9.2 u9.1 (sv1.getD (ix u5.1) 0) (sv2.getD (ix u5.1) 0)) = 0 then (some (v7, u9.2)) else (gd (inb u5.1 9) (mlet (wI u9.2 (b1 + 50) (ix u5.1) u9.1) (fun M13 => (Option.bind (fTape_skipBlanks M13) (fun M14 => (if (M14.1 18 2) < (M14.1 18 1) then (gd (inb (M14.1 18 2) 160) (if (M14.1 19 (ix (M14.1 18 2))) = (59 : Int32) then (mlet (wI M14 18 2 ((M14.1 18 2) + 1)) (fun M16 => (fTape_readInto_L11 b1 kx134 kx32 kx113 n (x2 + 1) M16))) else (kx113 M14))) else (some ((-1), M14)))))))))))))))))))))))
def fTape_readInto (M : Mem) (a1 : Nat) : Option (Int32 × Mem) := (Option.bind (fLaw_reset M a1) (fun M1 => (mlet (wI M1 18 2 0) (fun M2 => (fTape_readInto_L11 a1 (fun M17 => (some ((M17.1 18 2), M17))) (fun M18 => (some ((M18.1 18 2), M18))) (fun M19 => (some ((M19.1 18 2), M19))) FU 0 M2)))))
def fc_law (M : Mem) : Option (Int32 × Mem) := (if (M.1 20 3) < (6 : Int32) then (gd (inb (M.1 20 3) 6) (Option.bind (fTape_readInto M (ix (M.1 20 3))) (fun u3 => (mlet (wI u3.2 18 1 0) (fun M4 => (if u3.1 = ((-1) : Int32) then (mlet (wI M4 20 3 ((M4.1 20 3) + 1)) (fun M5 => (some (((M5.1 20 3) - 1), M5)))) else (Option.bind (fc_refuse M4 (-2)) (fun u7 => (some ((((-20) : Int32) - u3.1), u7.2)))))))))) else (Option.bind (fc_refuse M (-6)) (fun u9 => (some (u9.1, u9.2)))))
def fc_isLaw (M : Mem) (a1 : Int32) : Option Int32 := (some (fc_isBelowT M a1 (M.1 20 3)))
def fc_isLawT (M : Mem) (a1 : Int32) : Int32 := ((fc_isBelowT M a1 (M.1 20 3)))
theorem fc_isLawE (M : Mem) (a1 : Int32) : fc_isLaw M a1 = some (fc_isLawT M a1) := by
  unfold fc_isLaw fc_isLawT
  repeat' split
  all_goals first | rfl | simp_all
theorem fc_isLawB (M : Mem) (a1 : Int32) : isB (fc_isLawT M a1) := by
  unfold fc_isLawT
  repeat' split
  all_goals first | exact Or.inl rfl | exact Or.inr rfl | exact fc_isBelowB _ _ _
def fc_lawOf (M : Mem) (a1 : Int32) (a2 : Int32) : Option (Int32 × Mem) := (if (fc_isLawT M a1) = 0 then (Option.bind (fc_refuse M (-2)) (fun u2 => (some (u2.1, u2.2)))) else (if (fc_isBelowT M a2 9) = 0 then (Option.bind (fc_refuse M (-2)) (fun u6 => (some (u6.1, u6.2)))) else (gd (inb a1 6) (gd (inb a2 9) (some ((M.1 ((ix a1) + 50) (ix a2)), M))))))
def fc_force (M : Mem) (a1 : Int32) : Option (Int32 × Mem) := (if a1 = ((-1) : Int32) then (ilet (M.1 20 4) (fun v1 => (mlet (wI M 20 4 a1) (fun M2 => (some (v1, M2)))))) else (if (fc_isLawT M a1) = 0 then (Option.bind (fc_refuse M (-2)) (fun u6 => (some (u6.1, u6.2)))) else (ilet (M.1 20 4) (fun v3 => (mlet (wI M 20 4 a1) (fun M4 => (some (v3, M4))))))))
def fLeaper_join (M : Mem) (a0 : Nat) (a1 : Int32) : Option Mem := (mlet (wI M (a0 + 58) 0 a1) (fun M1 => (mlet (wI M1 (a0 + 58) 1 0) (fun M2 => (mlet (wI M2 (a0 + 58) 2 0) (fun M3 => (some M3)))))))
def fc_leaper (M : Mem) (a1 : Int32) : Option (Int32 × Mem) := (if (fc_isWithinT M a1 0 99) = 0 then (Option.bind (fc_refuse M (-2)) (fun u7 => (some (u7.1, u7.2)))) else (if (M.1 20 7) < (6 : Int32) then (gd (inb (M.1 20 7) 6) (Option.bind (fLeaper_join M (ix (M.1 20 7)) a1) (fun M2 => (mlet (wI M2 20 7 ((M2.1 20 7) + 1)) (fun M3 => (some (((M3.1 20 7) - 1), M3))))))) else (Option.bind (fc_refuse M (-6)) (fun u5 => (some (u5.1, u5.2))))))
def fc_isLeaper (M : Mem) (a1 : Int32) : Option Int32 := (some (fc_isBelowT M a1 (M.1 20 7)))
def fc_isLeaperT (M : Mem) (a1 : Int32) : Int32 := ((fc_isBelowT M a1 (M.1 20 7)))
theorem fc_isLeaperE (M : Mem) (a1 : Int32) : fc_isLeaper M a1 = some (fc_isLeaperT M a1) := by
  unfold fc_isLeaper fc_isLeaperT
  repeat' split
  all_goals first | rfl | simp_all
theorem fc_isLeaperB (M : Mem) (a1 : Int32) : isB (fc_isLeaperT M a1) := by
  unfold fc_isLeaperT
  repeat' split
  all_goals first | exact Or.inl rfl | exact Or.inr rfl | exact fc_isBelowB _ _ _
def fc_leaperOf (M : Mem) (a1 : Int32) (a2 : Int32) : Option (Int32 × Mem) := (if (fc_isLeaperT M a1) = 0 then (Option.bind (fc_refuse M (-2)) (fun u7 => (some (u7.1, u7.2)))) else (if a2 = 0 then (gd (inb a1 6) (some ((M.1 ((ix a1) + 58) 0), M))) else (if a2 = 1 then (gd (inb a1 6) (some ((M.1 ((ix a1) + 58) 1), M))) else (if a2 = 2 then (gd (inb a1 6) (some ((M.1 ((ix a1) + 58) 2), M))) else (Option.bind (fc_refuse M (-2)) (fun u5 => (some (u5.1, u5.2))))))))
def fLeaper_count (M : Mem) (a0 : Nat) (a1 : Int32) (a2 : Int32) : Option Mem := (mlet (wI M (a0 + 58) 1 ((M.1 (a0 + 58) 1) + a1)) (fun M1 => (mlet (wI M1 (a0 + 58) 2 ((M1.1 (a0 + 58) 2) + a2)) (fun M2 => (some M2)))))
def fc_tried (M : Mem) (a1 : Int32) (a2 : Int32) (a3 : Int32) : Option (Int32 × Mem) := (if (fc_isLeaperT M a1) = 0 then (Option.bind (fc_refuse M (-2)) (fun u2 => (some (u2.1, u2.2)))) else (if (fc_isWithinT M a2 1 99) = 0 then (Option.bind (fc_refuse M (-2)) (fun u4 => (some (u4.1, u4.2)))) else (if (fc_isWithinT M a3 0 a2) = 0 then (Option.bind (fc_refuse M (-2)) (fun u9 => (some (u9.1, u9.2)))) else (gd (inb a1 6) (Option.bind (fLeaper_count M (ix a1) a2 a3) (fun M6 => (gd (inb a1 6) (some ((M6.1 ((ix a1) + 58) 1), M6)))))))))
def fLeaper_learntSkill (M : Mem) (a0 : Nat) : Option Int32 := (Option.bind (fc_cutBy M (((100 : Int32) * ((M.1 (a0 + 58) 1) - (M.1 (a0 + 58) 2))) + 50) ((M.1 (a0 + 58) 1) + 1)) (fun r1 => (some (if r1 < (99 : Int32) then r1 else 99))))
def fc_learnt (M : Mem) (a1 : Int32) : Option (Int32 × Mem) := (if (fc_isLeaperT M a1) = 0 then (Option.bind (fc_refuse M (-2)) (fun u2 => (some (u2.1, u2.2)))) else (gd (inb a1 6) (Option.bind (fLeaper_learntSkill M (ix a1)) (fun r4 => (some (r4, M))))))
def fc_learn (M : Mem) (a1 : Int32) : Option (Int32 × Mem) := (if (fc_isLeaperT M a1) = 0 then (Option.bind (fc_refuse M (-2)) (fun u6 => (some (u6.1, u6.2)))) else (gd (inb a1 6) (ilet (M.1 ((ix a1) + 58) 0) (fun v2 => (Option.bind (fLeaper_learntSkill M (ix a1)) (fun r3 => (mlet (wI M ((ix a1) + 58) 0 r3) (fun M4 => (some (v2, M4))))))))))
def fLake_isHopeless (M : Mem) (a1 : Nat) : Option Int32 := (if (fLake_isOutT M a1 (M.1 20 12)) = 0 then (Option.bind (fLake_speed M) (fun r1 => (Option.bind (fLake_hasTime M a1 r1) (fun r2 => (if r2 = 0 then (some 1) else (some 0)))))) else (some 1))
def fLake_riskOf (M : Mem) (a1 : Int32) (a2 : Int32) (a3 : Int32) : Option Int32 := (gd (inb a2 20) (Option.bind (fLake_isHopeless M (ix a2)) (fun r2 => (if r2 = 0 then (Option.bind (fLake_lawValue M 4) (fun r3 => (jlet (fun z61 : Int32 => (Option.bind (fLake_lawValue M 6) (fun r4 => (gd (inb a3 12) (Option.bind (fLake_lawValue M 7) (fun r6 => (gd (inb a1 6) (ilet ((((r3 * (if 0 ≤ ((fJetty_riseAtT M (ix a2) (M.1 20 12)) - (fLake_deckT M)) then ((fJetty_riseAtT M (ix a2) (M.1 20 12)) - (fLake_deckT M)) else 0 - ((fJetty_riseAtT M (ix a2) (M.1 20 12)) - (fLake_deckT M)))) + z61) + (r4 * (M.1 66 (ix a3)))) - (r6 * (M.1 ((ix a1) + 58) 0))) (fun v8 => (some (if (0 : Int32) < (if v8 < (1000 : Int32) then v8 else 1000) then (if v8 < (1000 : Int32) then v8 else 1000) else 0))))))))))) (fun J61 => (if (M.1 ((ix a2) + 22) 4) = 0 then (J61 0) else (Option.bind (fLake_lawValue M 5) (fun r9 => (J61 r9)))))))) else (some 1000)))))
def fc_risk (M : Mem) (a1 : Int32) (a2 : Int32) (a3 : Int32) : Option (Int32 × Mem) := (if (fc_isLeaperT M a1) = 0 then (Option.bind (fc_refuse M (-2)) (fun u2 => (some (u2.1, u2.2)))) else (if (fc_isJettyT M a2) = 0 then (Option.bind (fc_refuse M (-2)) (fun u4 => (some (u4.1, u4.2)))) else (if (fc_isHourT M a3) = 0 then (Option.bind (fc_refuse M (-2)) (fun u7 => (some (u7.1, u7.2)))) else (Option.bind (fLake_riskOf M a1 a2 a3) (fun r5 => (some (r5, M)))))))
def fc_calm_L40 (M : Mem) (b1 : Int32) (b2 : Int32) : Nat → Int32 → Int32 → Int32 → Option (Int32 × Mem)
  | 0, _, _, _ => none
  | n + 1, x3, x4, x5 => (if (12 : Int32) ≤ x5 then (some (x3, M)) else (Option.bind (fLake_riskOf M b1 b2 x5) (fun r4 => (jlet (fun z74 : Int32 × Int32 => (fc_calm_L40 M b1 b2 n (z74.1) (z74.2) (x5 + 1))) (fun J74 => (if x4 ≤ r4 then (J74 (x3, x4)) else (J74 (x5, r4))))))))
def fc_calm (M : Mem) (a1 : Int32) (a2 : Int32) : Option (Int32 × Mem) := (if (fc_isLeaperT M a1) = 0 then (Option.bind (fc_refuse M (-2)) (fun u2 => (some (u2.1, u2.2)))) else (if (fc_isJettyT M a2) = 0 then (Option.bind (fc_refuse M (-2)) (fun u6 => (some (u6.1, u6.2)))) else (Option.bind (fLake_riskOf M a1 a2 0) (fun r3 => (fc_calm_L40 M a1 a2 FU 0 r3 1)))))
def fLake_legMinutes (M : Mem) (a1 : Int32) (a2 : Int32) (a3 : Int32) : Option Int32 := (ilet (if 0 ≤ ((a1 / 16) - (a2 / 16)) then ((a1 / 16) - (a2 / 16)) else 0 - ((a1 / 16) - (a2 / 16))) (fun v1 => (ilet (if 0 ≤ ((a1 - a1 / 16 * 16) - (a2 - a2 / 16 * 16)) then ((a1 - a1 / 16 * 16) - (a2 - a2 / 16 * 16)) else 0 - ((a1 - a1 / 16 * 16) - (a2 - a2 / 16 * 16))) (fun v2 => (Option.bind (fLake_lawValue M 8) (fun r3 => (Option.bind (fc_roundedUpBy M (r3 * (v1 + v2)) a3) (fun r4 => (some r4)))))))))
def fc_leg (M : Mem) (a1 : Int32) (a2 : Int32) : Option (Int32 × Mem) := (if (fc_isBelowT M a1 256) = 0 then (Option.bind (fc_refuse M (-2)) (fun u2 => (some (u2.1, u2.2)))) else (if (fc_isBelowT M a2 256) = 0 then (Option.bind (fc_refuse M (-2)) (fun u6 => (some (u6.1, u6.2)))) else (Option.bind (fLake_speed M) (fun r3 => (Option.bind (fLake_legMinutes M a1 a2 r3) (fun r4 => (some (r4, M))))))))
def fc_tellsJetties_L20 (M : Mem) (b2 : Int32) (b3 : Nat) : Nat → Int32 → Option Int32
  | 0, _ => none
  | n + 1, x4 => (if b2 ≤ x4 then (some 1) else (Option.bind (fShelf_at M b3 x4) (fun r2 => (if (lg_cmp r2 0) < 0 then (some 0) else (if (lg_cmp r2 (Int32.toInt64 (M.1 20 1))) < 0 then (fc_tellsJetties_L20 M b2 b3 n (x4 + 1)) else (some 0))))))
def fc_tellsJetties (M : Mem) (a1 : Int32) (a2 : Int32) : Option Int32 := (gd (inb a1 8) (if a2 ≤ (M.1 ((ix a1) + 2) 1) then (fc_tellsJetties_L20 M a2 (ix a1) FU 0) else (some 0)))
def fc_roundTrouble (M : Mem) (a1 : Int32) (a2 : Int32) : Option Int32 := (if (fc_isWithinT M a2 0 20) = 0 then (some (-2)) else (Option.bind (fc_rowTrouble M a1 a1) (fun r1 => (if r1 = 0 then (Option.bind (fc_tellsJetties M a1 a2) (fun r2 => (if r2 = 0 then (some (-2)) else (some 0)))) else (some r1)))))
def fc_readTour_L8 (b2 : Int32) (b3 : Int32) : Nat → Int32 → Mem → Option Mem
  | 0, _, _ => none
  | n + 1, x4, M => (if b3 ≤ x4 then (some M) else (gd (inb b2 8) (Option.bind (fShelf_at M (ix b2) x4) (fun r3 => (gd (inb x4 20) (mlet (wI M 120 (ix x4) (Int64.toInt32 r3)) (fun M5 => (fc_readTour_L8 b2 b3 n (x4 + 1) M5))))))))
def fc_readTour (M : Mem) (a2 : Int32) (a3 : Int32) : Option Mem := (mlet (wI M 119 2 a3) (fun M1 => (fc_readTour_L8 a2 a3 FU 0 M1)))
def fTour_sail_L12 (b2 : Int32) (b3 : Int32) : Nat → Int32 → Int32 → Int32 → Mem → Option Mem
  | 0, _, _, _, _ => none
  | n + 1, x4, x5, x6, M => (if (M.1 119 2) ≤ x6 then (some M) else (gd (inb x6 20) (gd (inb (M.1 120 (ix x6)) 20) (ilet (M.1 ((ix (M.1 120 (ix x6))) + 22) 1) (fun v4 => (Option.bind (fLake_legMinutes M x4 v4 b2) (fun r5 => (gd (inb x6 20) (mlet (wI M 121 (ix x6) (x5 + r5)) (fun M7 => (gd (inb x6 20) (ilet ((M7.1 121 (ix x6)) + 1) (fun v9 => (jlet (fun z82 : Int32 => (fTour_sail_L12 b2 b3 n v4 z82 (x6 + 1) M7)) (fun J82 => (if x6 = b3 then (ilet (v9 + ((3 : Int32) * b2)) (fun v10 => (J82 v10))) else (J82 v9)))))))))))))))))
def fTour_sail (M : Mem) (a2 : Int32) (a3 : Int32) : Option Mem := (ilet (M.1 20 14) (fun v1 => (fTour_sail_L12 a2 a3 FU v1 0 0 M)))
def fTour_end (M : Mem) : Option Int32 := (if (1 : Int32) ≤ (M.1 119 2) then (gd (inb ((M.1 119 2) - 1) 20) (some (M.1 121 (ix ((M.1 119 2) - 1))))) else (some 0))
def fc_hourOf (M : Mem) (a0 : Int32) : Option Int32 := (some (if (a0 / 60) < (11 : Int32) then (a0 / 60) else 11))
def fc_hourOfT (M : Mem) (a0 : Int32) : Int32 := ((if (a0 / 60) < (11 : Int32) then (a0 / 60) else 11))
theorem fc_hourOfE (M : Mem) (a0 : Int32) : fc_hourOf M a0 = some (fc_hourOfT M a0) := by
  unfold fc_hourOf fc_hourOfT
  repeat' split
  all_goals first | rfl | simp_all
def fTour_riskBy_L5 (M : Mem) (b2 : Int32) : Nat → Int32 → Int32 → Option Int32
  | 0, _, _ => none
  | n + 1, x3, x4 => (if (M.1 119 2) ≤ x4 then (some x3) else (gd (inb x4 20) (gd (inb x4 20) (Option.bind (fLake_riskOf M b2 (M.1 120 (ix x4)) (fc_hourOfT M (M.1 121 (ix x4)))) (fun r3 => (ilet (x3 + r3) (fun v4 => (fTour_riskBy_L5 M b2 n v4 (x4 + 1)))))))))
def fTour_riskBy (M : Mem) (a2 : Int32) : Option Int32 := (fTour_riskBy_L5 M a2 FU 0 0)
def fTour_hopeless_L4 (M : Mem) : Nat → Int32 → Int32 → Option Int32
  | 0, _, _ => none
  | n + 1, x2, x3 => (if (M.1 119 2) ≤ x3 then (some x2) else (gd (inb x3 20) (gd (inb (M.1 120 (ix x3)) 20) (Option.bind (fLake_isHopeless M (ix (M.1 120 (ix x3)))) (fun r3 => (ilet (x2 + (fc_toNumberT M r3)) (fun v4 => (fTour_hopeless_L4 M n v4 (x3 + 1)))))))))
def fTour_hopeless (M : Mem) : Option Int32 := (fTour_hopeless_L4 M FU 0 0)
def fc_round (M : Mem) (a1 : Int32) (a2 : Int32) (a3 : Int32) (a4 : Int32) : Option (Int32 × Mem) := (if (fc_isLeaperT M a1) = 0 then (Option.bind (fc_refuse M (-2)) (fun u2 => (some (u2.1, u2.2)))) else (if (fc_isWithinT M a4 0 2) = 0 then (Option.bind (fc_refuse M (-2)) (fun u13 => (some (u13.1, u13.2)))) else (Option.bind (fc_roundTrouble M a2 a3) (fun r3 => (if r3 = 0 then (Option.bind (fc_readTour M a2 a3) (fun M4 => (if a4 = (2 : Int32) then (Option.bind (fTour_hopeless M4) (fun r9 => (some (r9, M4)))) else (Option.bind (fLake_speed M4) (fun r5 => (Option.bind (fTour_sail M4 r5 (-1)) (fun M6 => (if a4 = 0 then (Option.bind (fTour_riskBy M6 a1) (fun r8 => (some (r8, M6)))) else (Option.bind (fTour_end M6) (fun r7 => (some (r7, M6)))))))))))) else (Option.bind (fc_refuse M r3) (fun u11 => (some (u11.1, u11.2)))))))))
def fInteger_bitCount (M : Mem) (a0 : Int32) : Option Int32 := (ilet (a0 - ((ushr a0 1) &&& 1431655765)) (fun v1 => (ilet ((v1 &&& 858993459) + ((ushr v1 2) &&& 858993459)) (fun v2 => (ilet ((v2 + (ushr v2 4)) &&& 252645135) (fun v3 => (ilet (v3 + (ushr v3 8)) (fun v4 => (ilet (v4 + (ushr v4 16)) (fun v5 => (some (v5 &&& 63))))))))))))
def fc_isSet (M : Mem) (a1 : Int32) : Option Int32 := (ilet (((1 : Int32) <<< ((M.1 20 1) &&& 31)) - 1) (fun v1 => (if (a1 &&& (v1 ^^^ (-1))) = 0 then (Option.bind (fInteger_bitCount M a1) (fun r2 => (if (6 : Int32) < r2 then (some 0) else (some 1)))) else (some 0))))
def fc_readSet_L4 (b0 : Int32) : Nat → Int32 → Int32 → Mem → Option (Int32 × Mem)
  | 0, _, _, _ => none
  | n + 1, x2, x3, M => (if (20 : Int32) ≤ x3 then (some (x2, M)) else (if (6 : Int32) ≤ x2 then (some (x2, M)) else (jlet (fun z32 : Int32 × Mem => (fc_readSet_L4 b0 n (z32.1) (x3 + 1) (z32.2))) (fun J32 => (if ((b0 >>> (x3 &&& 31)) &&& 1) = (1 : Int32) then (gd (inb x2 6) (mlet (wI M 127 (ix x2) x3) (fun M2 => (J32 ((x2 + 1), M2))))) else (J32 (x2, M)))))))
def fc_readSet (M : Mem) (a0 : Int32) : Option (Int32 × Mem) := (fc_readSet_L4 a0 FU 0 0 M)
def fOrderSearch_isBetter (M : Mem) (a1 : Int32) (a2 : Int32) : Option Int32 := (if a1 < (M.1 125 1) then (some 1) else (if a1 = (M.1 125 1) then (if (M.1 125 2) ≤ a2 then (some 0) else (some 1)) else (some 0)))
def fOrderSearch_isBetterT (M : Mem) (a1 : Int32) (a2 : Int32) : Int32 := (if a1 < (M.1 125 1) then (1) else (if a1 = (M.1 125 1) then (if (M.1 125 2) ≤ a2 then (0) else (1)) else (0)))
theorem fOrderSearch_isBetterE (M : Mem) (a1 : Int32) (a2 : Int32) : fOrderSearch_isBetter M a1 a2 = some (fOrderSearch_isBetterT M a1 a2) := by
  unfold fOrderSearch_isBetter fOrderSearch_isBetterT
  repeat' split
  all_goals first | rfl | simp_all
theorem fOrderSearch_isBetterB (M : Mem) (a1 : Int32) (a2 : Int32) : isB (fOrderSearch_isBetterT M a1 a2) := by
  unfold fOrderSearch_isBetterT
  repeat' split
  all_goals first | exact Or.inl rfl | exact Or.inr rfl
def fOrderSearch_keep (M : Mem) (a1 : Int32) (a2 : Int32) : Option Mem := (mlet (wI M 125 1 a1) (fun M1 => (mlet (wI M1 125 2 a2) (fun M2 => (gd (cpokB 0 0 (M2.1 125 6) 6 6) (mlet (cpI M2 129 126 0 0 (M2.1 125 6)) (fun M3 => (some M3))))))))
def fOrderSearch_extend_L25 (rec : Int32 → Int32 → Int32 → Int32 → Mem → Option Mem) (b1 : Int32) (b2 : Int32) (b3 : Int32) (b4 : Int32) : Nat → Int32 → Mem → Option Mem
  | 0, _, _ => none
  | n + 1, x5, M => (if (M.1 125 6) ≤ x5 then (some M) else (gd (inb x5 6) (jlet (fun z180 : Mem => (fOrderSearch_extend_L25 rec b1 b2 b3 b4 n (x5 + 1) z180)) (fun J180 => (if (M.1 128 (ix x5)) = 0 then (gd (¬ (M.1 125 3) = 0) (gd (inb x5 6) (gd (inb (M.1 127 (ix x5)) 20) (ilet (M.1 ((ix (M.1 127 (ix x5))) + 22) 1) (fun v4 => (gd (¬ (M.1 125 3) = 0) (gd (¬ (M.1 125 3) = 0) (Option.bind (fLake_speed M) (fun r5 => (Option.bind (fLake_legMinutes M b2 v4 r5) (fun r6 => (ilet (b3 + r6) (fun v7 => (gd (¬ (M.1 125 3) = 0) (gd (inb x5 6) (Option.bind (fLake_riskOf M (M.1 125 4) (M.1 127 (ix x5)) (fc_hourOfT M v7)) (fun r9 => (ilet (b4 + r9) (fun v10 => (if (M.1 125 5) < v7 then (J180 M) else (if (fOrderSearch_isBetterT M v10 v7) = 0 then (J180 M) else (gd (inb x5 6) (mlet (wI M 128 (ix x5) 1) (fun M12 => (gd (inb x5 6) (gd (inb b1 6) (mlet (wI M12 129 (ix b1) (M12.1 127 (ix x5))) (fun M15 => (Option.bind (rec (b1 + 1) v4 (v7 + 1) v10 M15) (fun M16 => (gd (inb x5 6) (mlet (wI M16 128 (ix x5) 0) (fun M18 => (J180 M18)))))))))))))))))))))))))))))))))) else (J180 M))))))
def fOrderSearch_extend : Nat → Int32 → Int32 → Int32 → Int32 → Mem → Option Mem
  | 0, _, _, _, _, _ => none
  | d + 1, a1, a2, a3, a4, M => (if a1 < (M.1 125 6) then (fOrderSearch_extend_L25 (fOrderSearch_extend d) a1 a2 a3 a4 FU 0 M) else (Option.bind (fOrderSearch_keep M a4 (if (0 : Int32) < (a3 - 1) then (a3 - 1) else 0)) (fun M19 => (some M19))))
def fOrderSearch_find (M : Mem) (a2 : Int32) (a3 : Int32) (a4 : Int32) : Option (Int32 × Mem) := (mlet (wI M 125 3 1) (fun M1 => (mlet (wI M1 125 4 a2) (fun M2 => (mlet (wI M2 125 5 a4) (fun M3 => (Option.bind (fc_readSet M3 a3) (fun u5 => (mlet (wI u5.2 125 6 u5.1) (fun M6 => (mlet (wI M6 125 1 1000000) (fun M7 => (mlet (wI M7 125 2 1000000) (fun M8 => (gd (¬ (M8.1 125 3) = 0) (Option.bind (fOrderSearch_extend 8 0 (M8.1 20 14) 0 0 M8) (fun M9 => (if (M9.1 125 1) = (1000000 : Int32) then (some (0, M9)) else (some (1, M9))))))))))))))))))))
def fc_best (M : Mem) (a1 : Int32) (a2 : Int32) (a3 : Int32) (a4 : Int32) : Option (Int32 × Mem) := (if (fc_isLeaperT M a1) = 0 then (Option.bind (fc_refuse M (-2)) (fun u2 => (some (u2.1, u2.2)))) else (Option.bind (fc_isSet M a2) (fun r3 => (if r3 = 0 then (Option.bind (fc_refuse M (-2)) (fun u5 => (some (u5.1, u5.2)))) else (if (fc_isWithinT M a3 0 999) = 0 then (Option.bind (fc_refuse M (-2)) (fun u16 => (some (u16.1, u16.2)))) else (ilet (a4 - 10) (fun v6 => (jlet (fun z62 : Int32 => (jlet (fun z87 : Unit => (Option.bind (fOrderSearch_find M a1 a2 a3) (fun u8 => (if u8.1 = 0 then (Option.bind (fc_refuse u8.2 (-5)) (fun u11 => (some (u11.1, u11.2)))) else (if z62 = 0 then (if a4 = 0 then (some ((u8.2.1 125 1), u8.2)) else (some ((u8.2.1 125 2), u8.2))) else (gd (inb v6 6) (some ((u8.2.1 126 (ix v6)), u8.2)))))))) (fun J87 => (if a4 = 0 then (J87 ()) else (if a4 = (1 : Int32) then (J87 ()) else (if z62 = 0 then (Option.bind (fc_refuse M (-2)) (fun u13 => (some (u13.1, u13.2)))) else (J87 ()))))))) (fun J62 => (jlet (fun z61 : Unit => (J62 0)) (fun J61 => (if a4 < (10 : Int32) then (J61 ()) else (Option.bind (fInteger_bitCount M a2) (fun r14 => (if r14 ≤ v6 then (J61 ()) else (J62 1))))))))))))))))
def fc_readSet_2_L4 (b0 : Int32) : Nat → Int32 → Int32 → Mem → Option (Int32 × Mem)
  | 0, _, _, _ => none
  | n + 1, x2, x3, M => (if (20 : Int32) ≤ x3 then (some (x2, M)) else (if (6 : Int32) ≤ x2 then (some (x2, M)) else (jlet (fun z32 : Int32 × Mem => (fc_readSet_2_L4 b0 n (z32.1) (x3 + 1) (z32.2))) (fun J32 => (if ((b0 >>> (x3 &&& 31)) &&& 1) = (1 : Int32) then (gd (inb x2 6) (mlet (wI M 131 (ix x2) x3) (fun M2 => (J32 ((x2 + 1), M2))))) else (J32 (x2, M)))))))
def fc_readSet_2 (M : Mem) (a0 : Int32) : Option (Int32 × Mem) := (fc_readSet_2_L4 a0 FU 0 0 M)
def fTeamSearch_readRisks_L29 (b2 : Int32) (b3 : Int32) (kx82 : Int32 → Mem → Option Mem) : Nat → Int32 → Int32 → Mem → Option Mem
  | 0, _, _, _ => none
  | n + 1, x4, x5, M => (if (M.1 130 1) ≤ x5 then (kx82 x4 M) else (gd (inb b3 6) (Option.bind (fLake_riskOf M x5 (M.1 131 (ix b3)) b2) (fun r5 => (gd (inb ((b3 * 6) + x5) 36) (mlet (wI M 132 (ix ((b3 * 6) + x5)) r5) (fun M7 => (ilet (if r5 < x4 then r5 else x4) (fun v8 => (fTeamSearch_readRisks_L29 b2 b3 kx82 n v8 (x5 + 1) M7))))))))))
def fTeamSearch_readRisks_L17 (b2 : Int32) : Nat → Int32 → Mem → Option Mem
  | 0, _, _ => none
  | n + 1, x3, M => (if x3 < 0 then (some M) else (fTeamSearch_readRisks_L29 b2 x3 (fun w9 M10 => (gd (inb (x3 + 1) 7) (gd (inb x3 7) (mlet (wI M10 133 (ix x3) ((M10.1 133 (ix (x3 + 1))) + w9)) (fun M13 => (fTeamSearch_readRisks_L17 b2 n (x3 + (-1)) M13)))))) FU 1000 0 M))
def fTeamSearch_readRisks (M : Mem) (a2 : Int32) : Option Mem := (gd (inb (M.1 130 3) 7) (mlet (wI M 133 (ix (M.1 130 3)) 0) (fun M2 => (ilet ((M2.1 130 3) - 1) (fun v3 => (fTeamSearch_readRisks_L17 a2 FU v3 M2))))))
def fTeamSearch_assign_L33 (rec : Int32 → Int32 → Mem → Option Mem) (b1 : Int32) (b2 : Int32) : Nat → Int32 → Mem → Option Mem
  | 0, _, _ => none
  | n + 1, x3, M => (if (M.1 130 1) ≤ x3 then (some M) else (gd (inb ((b1 * 6) + x3) 36) (ilet (b2 + (M.1 132 (ix ((b1 * 6) + x3)))) (fun v2 => (gd (inb x3 6) (jlet (fun z123 : Mem => (fTeamSearch_assign_L33 rec b1 b2 n (x3 + 1) z123)) (fun J123 => (if (M.1 130 2) ≤ (M.1 134 (ix x3)) then (J123 M) else (gd (inb (b1 + 1) 7) (if (M.1 130 0) ≤ (v2 + (M.1 133 (ix (b1 + 1)))) then (J123 M) else (gd (inb x3 6) (gd (inb x3 6) (mlet (wI M 134 (ix x3) ((M.1 134 (ix x3)) + 1)) (fun M7 => (gd (inb b1 6) (mlet (wI M7 135 (ix b1) x3) (fun M9 => (Option.bind (rec (b1 + 1) v2 M9) (fun M10 => (gd (inb x3 6) (gd (inb x3 6) (mlet (wI M10 134 (ix x3) ((M10.1 134 (ix x3)) - 1)) (fun M13 => (J123 M13))))))))))))))))))))))))
def fTeamSearch_assign : Nat → Int32 → Int32 → Mem → Option Mem
  | 0, _, _, _ => none
  | d + 1, a1, a2, M => (if a1 < (M.1 130 3) then (fTeamSearch_assign_L33 (fTeamSearch_assign d) a1 a2 FU 0 M) else (mlet (wI M 130 0 a2) (fun M14 => (gd (cpokB 0 0 (M14.1 130 3) 6 6) (mlet (cpI M14 135 136 0 0 (M14.1 130 3)) (fun M15 => (some M15)))))))
def fTeamSearch_find (M : Mem) (a2 : Int32) (a3 : Int32) (a4 : Int32) : Option Mem := (mlet (wI M 130 2 a3) (fun M1 => (mlet (wI M1 130 1 (M1.1 20 7)) (fun M2 => (Option.bind (fc_readSet_2 M2 a2) (fun u4 => (mlet (wI u4.2 130 3 u4.1) (fun M5 => (Option.bind (fTeamSearch_readRisks M5 a4) (fun M6 => (mlet (wI M6 130 0 1000000) (fun M7 => (Option.bind (fTeamSearch_assign 8 0 0 M7) (fun M8 => (some M8)))))))))))))))
def fTeamSearch_leaperOfJetty_L2 (M : Mem) (b1 : Int32) (kx20 : Int32 → Option Int32) : Nat → Int32 → Option Int32
  | 0, _ => none
  | n + 1, x2 => (if (M.1 130 3) ≤ x2 then (some (-1)) else (gd (inb x2 6) (if (M.1 131 (ix x2)) = b1 then (kx20 x2) else (fTeamSearch_leaperOfJetty_L2 M b1 kx20 n (x2 + 1)))))
def fTeamSearch_leaperOfJetty (M : Mem) (a1 : Int32) : Option Int32 := (fTeamSearch_leaperOfJetty_L2 M a1 (fun w2 => (gd (inb w2 6) (some (M.1 136 (ix w2))))) FU 0)
def fc_isInSet (M : Mem) (a1 : Int32) (a2 : Int32) : Option Int32 := (if (fc_isJettyT M a1) = 0 then (some 0) else (if ((a2 >>> (a1 &&& 31)) &&& 1) = (1 : Int32) then (some 1) else (some 0)))
def fc_isInSetT (M : Mem) (a1 : Int32) (a2 : Int32) : Int32 := (if (fc_isJettyT M a1) = 0 then (0) else (if ((a2 >>> (a1 &&& 31)) &&& 1) = (1 : Int32) then (1) else (0)))
theorem fc_isInSetE (M : Mem) (a1 : Int32) (a2 : Int32) : fc_isInSet M a1 a2 = some (fc_isInSetT M a1 a2) := by
  unfold fc_isInSet fc_isInSetT
  repeat' split
  all_goals first | rfl | simp_all
theorem fc_isInSetB (M : Mem) (a1 : Int32) (a2 : Int32) : isB (fc_isInSetT M a1 a2) := by
  unfold fc_isInSetT
  repeat' split
  all_goals first | exact Or.inl rfl | exact Or.inr rfl | exact fc_isJettyB _ _
def fc_team (M : Mem) (a1 : Int32) (a2 : Int32) (a3 : Int32) (a4 : Int32) : Option (Int32 × Mem) := (Option.bind (fc_isSet M a1) (fun r1 => (if r1 = 0 then (Option.bind (fc_refuse M (-2)) (fun u3 => (some (u3.1, u3.2)))) else (if (fc_isWithinT M a2 1 6) = 0 then (Option.bind (fc_refuse M (-2)) (fun u5 => (some (u5.1, u5.2)))) else (if (fc_isHourT M a3) = 0 then (Option.bind (fc_refuse M (-2)) (fun u7 => (some (u7.1, u7.2)))) else (jlet (fun z48 : Unit => (Option.bind (fInteger_bitCount M a1) (fun r8 => (if r8 ≤ ((M.1 20 7) * a2) then (Option.bind (fTeamSearch_find M a1 a2 a3) (fun M9 => (if a4 = ((-1) : Int32) then (some ((M9.1 130 0), M9)) else (Option.bind (fTeamSearch_leaperOfJetty M9 a4) (fun r10 => (some (r10, M9))))))) else (Option.bind (fc_refuse M (-5)) (fun u12 => (some (u12.1, u12.2)))))))) (fun J48 => (if a4 = ((-1) : Int32) then (J48 ()) else (if (fc_isInSetT M a4 a1) = 0 then (Option.bind (fc_refuse M (-2)) (fun u14 => (some (u14.1, u14.2)))) else (J48 ()))))))))))
def fc_safest_L56 (M : Mem) (b1 : Int32) (b2 : Int32) : Nat → Int32 → Int32 → Int32 → Option (Int32 × Mem)
  | 0, _, _, _ => none
  | n + 1, x3, x4, x5 => (if (M.1 20 7) ≤ x5 then (some (x3, M)) else (Option.bind (fLake_riskOf M x5 b1 b2) (fun r4 => (jlet (fun z95 : Int32 × Int32 => (fc_safest_L56 M b1 b2 n (z95.1) (z95.2) (x5 + 1))) (fun J95 => (if x4 ≤ r4 then (J95 (x3, x4)) else (J95 (x5, r4))))))))
def fc_safest (M : Mem) (a1 : Int32) (a2 : Int32) : Option (Int32 × Mem) := (if (fc_isJettyT M a1) = 0 then (Option.bind (fc_refuse M (-2)) (fun u2 => (some (u2.1, u2.2)))) else (if (fc_isHourT M a2) = 0 then (Option.bind (fc_refuse M (-2)) (fun u8 => (some (u8.1, u8.2)))) else (if (M.1 20 7) = 0 then (Option.bind (fc_refuse M (-5)) (fun u6 => (some (u6.1, u6.2)))) else (Option.bind (fLake_riskOf M 0 a1 a2) (fun r3 => (fc_safest_L56 M a1 a2 FU 0 r3 1))))))
def fc_readTour_2_L8 (b2 : Int32) (b3 : Int32) : Nat → Int32 → Mem → Option Mem
  | 0, _, _ => none
  | n + 1, x4, M => (if b3 ≤ x4 then (some M) else (gd (inb b2 8) (Option.bind (fShelf_at M (ix b2) x4) (fun r3 => (gd (inb x4 20) (mlet (wI M 123 (ix x4) (Int64.toInt32 r3)) (fun M5 => (fc_readTour_2_L8 b2 b3 n (x4 + 1) M5))))))))
def fc_readTour_2 (M : Mem) (a2 : Int32) (a3 : Int32) : Option Mem := (mlet (wI M 122 2 a3) (fun M1 => (fc_readTour_2_L8 a2 a3 FU 0 M1)))
def fTour_sail_2_L12 (b2 : Int32) (b3 : Int32) : Nat → Int32 → Int32 → Int32 → Mem → Option Mem
  | 0, _, _, _, _ => none
  | n + 1, x4, x5, x6, M => (if (M.1 122 2) ≤ x6 then (some M) else (gd (inb x6 20) (gd (inb (M.1 123 (ix x6)) 20) (ilet (M.1 ((ix (M.1 123 (ix x6))) + 22) 1) (fun v4 => (Option.bind (fLake_legMinutes M x4 v4 b2) (fun r5 => (gd (inb x6 20) (mlet (wI M 124 (ix x6) (x5 + r5)) (fun M7 => (gd (inb x6 20) (ilet ((M7.1 124 (ix x6)) + 1) (fun v9 => (jlet (fun z82 : Int32 => (fTour_sail_2_L12 b2 b3 n v4 z82 (x6 + 1) M7)) (fun J82 => (if x6 = b3 then (ilet (v9 + ((3 : Int32) * b2)) (fun v10 => (J82 v10))) else (J82 v9)))))))))))))))))
def fTour_sail_2 (M : Mem) (a2 : Int32) (a3 : Int32) : Option Mem := (ilet (M.1 20 14) (fun v1 => (fTour_sail_2_L12 a2 a3 FU v1 0 0 M)))
def fTour_laterHoursThan_L4 (M : Mem) : Nat → Int32 → Int32 → Option Int32
  | 0, _, _ => none
  | n + 1, x2, x3 => (if (M.1 119 2) ≤ x3 then (some x2) else (gd (inb x3 20) (gd (inb x3 20) (jlet (fun z39 : Int32 => (ilet (x2 + (fc_toNumberT M z39)) (fun v3 => (fTour_laterHoursThan_L4 M n v3 (x3 + 1))))) (fun J39 => (if (fc_hourOfT M (M.1 121 (ix x3))) ≤ (fc_hourOfT M (M.1 124 (ix x3))) then (J39 0) else (J39 1)))))))
def fTour_laterHoursThan (M : Mem) : Option Int32 := (fTour_laterHoursThan_L4 M FU 0 0)
def fc_missed (M : Mem) (a1 : Int32) (a2 : Int32) (a3 : Int32) (a4 : Int32) (a5 : Int32) : Option (Int32 × Mem) := (if (fc_isLeaperT M a1) = 0 then (Option.bind (fc_refuse M (-2)) (fun u2 => (some (u2.1, u2.2)))) else (if (fc_isBelowT M a4 a3) = 0 then (Option.bind (fc_refuse M (-2)) (fun u4 => (some (u4.1, u4.2)))) else (if (fc_isWithinT M a5 0 2) = 0 then (Option.bind (fc_refuse M (-2)) (fun u18 => (some (u18.1, u18.2)))) else (Option.bind (fc_roundTrouble M a2 a3) (fun r5 => (if r5 = 0 then (Option.bind (fc_readTour M a2 a3) (fun M6 => (Option.bind (fLake_speed M6) (fun r7 => (Option.bind (fTour_sail M6 r7 a4) (fun M8 => (if a5 = 0 then (Option.bind (fTour_end M8) (fun r14 => (some (r14, M8)))) else (if a5 = (1 : Int32) then (Option.bind (fTour_riskBy M8 a1) (fun r13 => (some (r13, M8)))) else (Option.bind (fc_readTour_2 M8 a2 a3) (fun M9 => (Option.bind (fLake_speed M9) (fun r10 => (Option.bind (fTour_sail_2 M9 r10 (-1)) (fun M11 => (Option.bind (fTour_laterHoursThan M11) (fun r12 => (some (r12, M11)))))))))))))))))) else (Option.bind (fc_refuse M r5) (fun u16 => (some (u16.1, u16.2))))))))))
def fc_pilot_L51 (b3 : Int32) : Nat → Int32 → Mem → Option (Int32 × Mem)
  | 0, _, _ => none
  | n + 1, x5, M => (if (9 : Int32) < x5 then (some ((-1), M)) else (Option.bind (fTour_sail M x5 (-1)) (fun M3 => (Option.bind (fTour_end M3) (fun r4 => (if b3 < r4 then (fc_pilot_L51 b3 n (x5 + 1) M3) else (some (x5, M3))))))))
def fc_pilot (M : Mem) (a1 : Int32) (a2 : Int32) (a3 : Int32) : Option (Int32 × Mem) := (if (fc_isWithinT M a3 0 999) = 0 then (Option.bind (fc_refuse M (-2)) (fun u8 => (some (u8.1, u8.2)))) else (Option.bind (fc_roundTrouble M a1 a2) (fun r1 => (if r1 = 0 then (Option.bind (fc_readTour M a1 a2) (fun M2 => (fc_pilot_L51 a3 FU 1 M2))) else (Option.bind (fc_refuse M r1) (fun u6 => (some (u6.1, u6.2))))))))
def fTour_hasTimeEverywhere_L2 (M : Mem) (b2 : Int32) : Nat → Int32 → Option Int32
  | 0, _ => none
  | n + 1, x3 => (if (M.1 119 2) ≤ x3 then (some 1) else (gd (inb x3 20) (gd (inb (M.1 120 (ix x3)) 20) (Option.bind (fLake_hasTime M (ix (M.1 120 (ix x3))) b2) (fun r3 => (if r3 = 0 then (some 0) else (fTour_hasTimeEverywhere_L2 M b2 n (x3 + 1))))))))
def fTour_hasTimeEverywhere (M : Mem) (a2 : Int32) : Option Int32 := (fTour_hasTimeEverywhere_L2 M a2 FU 0)
def fc_still_L31 (M : Mem) : Nat → Int32 → Option (Int32 × Mem)
  | 0, _ => none
  | n + 1, x4 => (if x4 < (1 : Int32) then (some ((-1), M)) else (Option.bind (fTour_hasTimeEverywhere M x4) (fun r3 => (if r3 = 0 then (fc_still_L31 M n (x4 + (-1))) else (some (x4, M))))))
def fc_still (M : Mem) (a1 : Int32) (a2 : Int32) : Option (Int32 × Mem) := (Option.bind (fc_roundTrouble M a1 a2) (fun r1 => (if r1 = 0 then (Option.bind (fc_readTour M a1 a2) (fun M2 => (fc_still_L31 M2 FU 9))) else (Option.bind (fc_refuse M r1) (fun u5 => (some (u5.1, u5.2)))))))
def fLake_firstWeekOut_L2 (M : Mem) (b1 : Int32) (b2 : Int32) : Nat → Int32 → Option Int32
  | 0, _ => none
  | n + 1, x3 => (if (20 : Int32) < x3 then (some (-1)) else (gd (inb b1 20) (if (fLake_isOutT M (ix b1) ((M.1 20 12) - (x3 * b2))) = 0 then (fLake_firstWeekOut_L2 M b1 b2 n (x3 + 1)) else (some x3))))
def fLake_firstWeekOut (M : Mem) (a1 : Int32) (a2 : Int32) : Option Int32 := (fLake_firstWeekOut_L2 M a1 a2 FU 0)
def fc_firstOut_L25 (M : Mem) (b1 : Int32) : Nat → Int32 → Int32 → Int32 → Option (Int32 × Mem)
  | 0, _, _, _ => none
  | n + 1, x2, x3, x4 => (if (M.1 20 1) ≤ x4 then (some (x2, M)) else (Option.bind (fLake_firstWeekOut M x4 b1) (fun r1 => (jlet (fun z67 : Int32 × Int32 => (fc_firstOut_L25 M b1 n (z67.1) (z67.2) (x4 + 1))) (fun J67 => (if r1 = ((-1) : Int32) then (J67 (x2, x3)) else (if x3 ≤ r1 then (J67 (x2, x3)) else (J67 (x4, r1)))))))))
def fc_firstOut (M : Mem) (a1 : Int32) : Option (Int32 × Mem) := (if (fc_isWithinT M a1 1 20) = 0 then (Option.bind (fc_refuse M (-2)) (fun u3 => (some (u3.1, u3.2)))) else (fc_firstOut_L25 M a1 FU (-1) 21 0))
def fc_lowestLetter_L2 (M : Mem) (b1 : Int32) (b2 : Int32) : Nat → Int32 → Option Int32
  | 0, _ => none
  | n + 1, x3 => (if b2 ≤ x3 then (some b2) else (gd (inb x3 40) (if (M.1 137 (ix x3)) = b1 then (some x3) else (fc_lowestLetter_L2 M b1 b2 n (x3 + 1)))))
def fc_lowestLetter (M : Mem) (a1 : Int32) (a2 : Int32) : Option Int32 := (fc_lowestLetter_L2 M a1 a2 FU 0)
def fc_takeLetters_L5 (b1 : Int32) (b2 : Int32) : Nat → Int32 → Int32 → Mem → Option (Int32 × Mem)
  | 0, _, _, _ => none
  | n + 1, x3, x4, M => (if b2 ≤ x4 then (some (x3, M)) else (gd (inb x4 40) (jlet (fun z38 : Int32 × Mem => (fc_takeLetters_L5 b1 b2 n (z38.1) (x4 + 1) (z38.2))) (fun J38 => (if (M.1 137 (ix x4)) = b1 then (J38 (x3, M)) else (gd (inb x4 40) (gd (inb x3 40) (mlet (wI M 137 (ix x3) (M.1 137 (ix x4))) (fun M4 => (J38 ((x3 + 1), M4)))))))))))
def fc_takeLetters (M : Mem) (a1 : Int32) (a2 : Int32) : Option (Int32 × Mem) := (fc_takeLetters_L5 a1 a2 FU 0 0 M)
def fc_lifts_L77 (b1 : Int32) (b2 : Int32) (b3 : Int32) (b4 : Int32) (kx108 : Mem → Option (Int32 × Mem)) : Nat → Int32 → Mem → Option (Int32 × Mem)
  | 0, _, _ => none
  | n + 1, x6, M => (if b2 ≤ x6 then (kx108 M) else (gd (inb b1 8) (Option.bind (fShelf_at M (ix b1) x6) (fun r9 => (gd (inb x6 40) (mlet (wI M 137 (ix x6) (Int64.toInt32 r9)) (fun M11 => (fc_lifts_L77 b1 b2 b3 b4 kx108 n (x6 + 1) M11))))))))
def fc_lifts_L117 (b3 : Int32) (b4 : Int32) : Nat → Int32 → Int32 → Int32 → Mem → Option (Int32 × Mem)
  | 0, _, _, _, _ => none
  | n + 1, x6, x7, x8, M => (if b4 ≤ x8 then (some (x7, M)) else (gd (inb b3 8) (Option.bind (fShelf_at M (ix b3) x8) (fun r14 => (ilet (Int64.toInt32 r14) (fun v15 => (Option.bind (fc_lowestLetter M v15 x6) (fun r16 => (Option.bind (fc_takeLetters M v15 x6) (fun u18 => (ilet (x7 + (u18.1 - r16)) (fun v19 => (fc_lifts_L117 b3 b4 n u18.1 v19 (x8 + 1) u18.2)))))))))))))
def fc_lifts (M : Mem) (a1 : Int32) (a2 : Int32) (a3 : Int32) (a4 : Int32) : Option (Int32 × Mem) := (if (fc_isWithinT M a2 0 40) = 0 then (Option.bind (fc_refuse M (-2)) (fun u2 => (some (u2.1, u2.2)))) else (if (fc_isWithinT M a4 0 20) = 0 then (Option.bind (fc_refuse M (-2)) (fun u25 => (some (u25.1, u25.2)))) else (Option.bind (fc_rowTrouble M a1 a3) (fun r3 => (if r3 = 0 then (Option.bind (fc_tellsJetties M a1 a2) (fun r4 => (if r4 = 0 then (Option.bind (fc_refuse M (-2)) (fun u6 => (some (u6.1, u6.2)))) else (Option.bind (fc_tellsJetties M a3 a4) (fun r7 => (if r7 = 0 then (Option.bind (fc_refuse M (-2)) (fun u21 => (some (u21.1, u21.2)))) else (fc_lifts_L77 a1 a2 a3 a4 (fun M12 => (fc_lifts_L117 a3 a4 FU a2 0 0 M12)) FU 0 M))))))) else (Option.bind (fc_refuse M r3) (fun u23 => (some (u23.1, u23.2)))))))))
def fc_parcel (M : Mem) (a1 : Int32) (a2 : Int32) (a3 : Int32) : Option (Int32 × Mem) := (if (fc_isJettyT M a1) = 0 then (Option.bind (fc_refuse M (-2)) (fun u2 => (some (u2.1, u2.2)))) else (if (fc_isWithinT M a2 1 60) = 0 then (Option.bind (fc_refuse M (-2)) (fun u4 => (some (u4.1, u4.2)))) else (if (fc_isWithinT M a3 1 99) = 0 then (Option.bind (fc_refuse M (-2)) (fun u13 => (some (u13.1, u13.2)))) else (if (M.1 20 10) < (10 : Int32) then (gd (inb (M.1 20 10) 10) (mlet (wI M 64 (ix (M.1 20 10)) a2) (fun M6 => (gd (inb (M6.1 20 10) 10) (mlet (wI M6 65 (ix (M6.1 20 10)) a3) (fun M8 => (mlet (wI M8 20 10 ((M8.1 20 10) + 1)) (fun M9 => (some (((M9.1 20 10) - 1), M9)))))))))) else (Option.bind (fc_refuse M (-6)) (fun u11 => (some (u11.1, u11.2))))))))
def fLake_worthWithin_L8 (M : Mem) (b1 : Int32) (kx55 : Int32 → Int32 → Option Int32) : Nat → Int32 → Int32 → Int32 → Option Int32
  | 0, _, _, _ => none
  | n + 1, x3, x4, x5 => (if (M.1 20 10) ≤ x5 then (kx55 x3 x4) else (jlet (fun z49 : Int32 × Int32 => (fLake_worthWithin_L8 M b1 kx55 n (z49.1) (z49.2) (x5 + 1))) (fun J49 => (if ((b1 >>> (x5 &&& 31)) &&& 1) = (1 : Int32) then (gd (inb x5 10) (ilet (x3 + (M.1 65 (ix x5))) (fun v2 => (gd (inb x5 10) (ilet (x4 - (M.1 64 (ix x5))) (fun v4 => (J49 (v2, v4)))))))) else (J49 (x3, x4))))))
def fLake_worthWithin (M : Mem) (a1 : Int32) (a2 : Int32) : Option Int32 := (fLake_worthWithin_L8 M a1 (fun w5 w6 => (if 0 ≤ w6 then (some w5) else (some (-1)))) FU 0 a2 0)
def fc_stops_L36 (M : Mem) (b1 : Int32) (b4 : Int32) : Nat → Int32 → Int32 → Int32 → Option (Int32 × Mem)
  | 0, _, _, _ => none
  | n + 1, x2, x3, x5 => (if b4 ≤ x5 then (some (x2, M)) else (Option.bind (fLake_worthWithin M x5 b1) (fun r2 => (jlet (fun z67 : Int32 × Int32 => (fc_stops_L36 M b1 b4 n (z67.1) (z67.2) (x5 + 1))) (fun J67 => (if r2 ≤ x3 then (J67 (x2, x3)) else (J67 (x5, r2))))))))
def fc_stops (M : Mem) (a1 : Int32) : Option (Int32 × Mem) := (if (fc_isWithinT M a1 0 600) = 0 then (Option.bind (fc_refuse M (-2)) (fun u4 => (some (u4.1, u4.2)))) else (ilet ((1 : Int32) <<< ((M.1 20 10) &&& 31)) (fun v1 => (fc_stops_L36 M a1 v1 FU 0 0 1))))
def fc_week (M : Mem) (a1 : Int32) (a2 : Int32) : Option (Int32 × Mem) := (if (fc_isJettyT M a1) = 0 then (Option.bind (fc_refuse M (-2)) (fun u2 => (some (u2.1, u2.2)))) else (if (fc_isWithinT M a2 1 20) = 0 then (Option.bind (fc_refuse M (-2)) (fun u5 => (some (u5.1, u5.2)))) else (Option.bind (fLake_firstWeekOut M a1 a2) (fun r3 => (some (r3, M))))))
def fc_outs_L32 (M : Mem) (b1 : Int32) (b2 : Int32) : Nat → Int32 → Int32 → Option (Int32 × Mem)
  | 0, _, _ => none
  | n + 1, x3, x4 => (if (M.1 20 1) ≤ x4 then (some (x3, M)) else (gd (inb x4 20) (jlet (fun z82 : Int32 => (fc_outs_L32 M b1 b2 n z82 (x4 + 1))) (fun J82 => (if (fLake_isOutT M (ix x4) ((M.1 20 12) - (b1 * b2))) = 0 then (J82 x3) else (ilet (x3 ||| ((1 : Int32) <<< (x4 &&& 31))) (fun v4 => (J82 v4))))))))
def fc_outs (M : Mem) (a1 : Int32) (a2 : Int32) : Option (Int32 × Mem) := (if (fc_isWithinT M a1 0 20) = 0 then (Option.bind (fc_refuse M (-2)) (fun u2 => (some (u2.1, u2.2)))) else (if (fc_isWithinT M a2 1 20) = 0 then (Option.bind (fc_refuse M (-2)) (fun u6 => (some (u6.1, u6.2)))) else (fc_outs_L32 M a1 a2 FU 0 0)))
def fc_seed (M : Mem) (a1 : Int32) : Option (Int32 × Mem) := (ilet (M.1 20 15) (fun v1 => (mlet (wI M 20 15 a1) (fun M2 => (some (v1, M2))))))
def fVoyage_start (M : Mem) (a1 : Int32) (a3 : Int32) : Option Mem := (mlet (wI M 67 0 a1) (fun M1 => (mlet (wI M1 67 2 (M1.1 119 2)) (fun M2 => (gd (cpokB 0 0 20 20 20) (mlet (cpI M2 120 68 0 0 20) (fun M3 => (mlet (wI M3 67 3 a3) (fun M4 => (mlet (wI M4 67 4 0) (fun M5 => (mlet (wI M5 67 5 0) (fun M6 => (mlet (wI M6 67 6 0) (fun M7 => (mlet (wI M7 67 7 0) (fun M8 => (some M8))))))))))))))))))
def fc_begin (M : Mem) (a1 : Int32) (a2 : Int32) (a3 : Int32) : Option (Int32 × Mem) := (if (fc_isLeaperT M a1) = 0 then (Option.bind (fc_refuse M (-2)) (fun u7 => (some (u7.1, u7.2)))) else (Option.bind (fc_roundTrouble M a2 a3) (fun r1 => (if r1 = 0 then (Option.bind (fc_readTour M a2 a3) (fun M2 => (Option.bind (fVoyage_start M2 a1 (M2.1 20 14)) (fun M3 => (some (a3, M3)))))) else (Option.bind (fc_refuse M r1) (fun u5 => (some (u5.1, u5.2))))))))
def fVoyage_isUnderWay (M : Mem) : Option Int32 := (if (M.1 67 0) = ((-1) : Int32) then (some 0) else (if (M.1 67 2) ≤ (M.1 67 5) then (some 0) else (some 1)))
def fVoyage_isUnderWayT (M : Mem) : Int32 := (if (M.1 67 0) = ((-1) : Int32) then (0) else (if (M.1 67 2) ≤ (M.1 67 5) then (0) else (1)))
theorem fVoyage_isUnderWayE (M : Mem) : fVoyage_isUnderWay M = some (fVoyage_isUnderWayT M) := by
  unfold fVoyage_isUnderWay fVoyage_isUnderWayT
  repeat' split
  all_goals first | rfl | simp_all
theorem fVoyage_isUnderWayB (M : Mem) : isB (fVoyage_isUnderWayT M) := by
  unfold fVoyage_isUnderWayT
  repeat' split
  all_goals first | exact Or.inl rfl | exact Or.inr rfl
def fLake_drawBelow (M : Mem) (a1 : Int32) : Option (Int32 × Mem) := (mlet (wI M 20 15 (((M.1 20 15) * 1103515245) + 12345)) (fun M1 => (ilet (ushr (M1.1 20 15) 16) (fun v2 => (if (1 : Int32) ≤ a1 then (gd (¬ a1 = 0) (some ((v2 - v2 / a1 * a1), M1))) else (some (0, M1)))))))
def fLake_leapNext (M : Mem) : Option (Int32 × Mem) := (gd (inb (M.1 67 5) 20) (ilet (M.1 68 (ix (M.1 67 5))) (fun v2 => (gd (inb v2 20) (ilet (M.1 ((ix v2) + 22) 1) (fun v4 => (Option.bind (fLake_speed M) (fun r5 => (Option.bind (fLake_legMinutes M (M.1 67 3) v4 r5) (fun r6 => (ilet ((M.1 67 4) + r6) (fun v7 => (Option.bind (fLake_riskOf M (M.1 67 0) v2 (fc_hourOfT M v7)) (fun r8 => (Option.bind (fLake_drawBelow M 1000) (fun u10 => (mlet (wI u10.2 67 3 v4) (fun M11 => (mlet (wI M11 67 4 (v7 + 1)) (fun M12 => (mlet (wI M12 67 5 ((M12.1 67 5) + 1)) (fun M13 => (gd (inb (M13.1 67 0) 6) (if (r8 / 10) ≤ u10.1 then (if r8 ≤ u10.1 then (Option.bind (fLeaper_count M13 (ix (M13.1 67 0)) 1 0) (fun M15 => (some (0, M15)))) else (mlet (wI M13 67 6 ((M13.1 67 6) + 1)) (fun M16 => (Option.bind (fLeaper_count M16 (ix (M13.1 67 0)) 1 1) (fun M17 => (some (1, M17))))))) else (Option.bind (fLake_speed M13) (fun r18 => (mlet (wI M13 67 4 ((M13.1 67 4) + ((3 : Int32) * r18))) (fun M19 => (mlet (wI M19 67 7 ((M19.1 67 7) + 1)) (fun M20 => (Option.bind (fLeaper_count M20 (ix (M13.1 67 0)) 1 1) (fun M21 => (some (2, M21))))))))))))))))))))))))))))))))))
def fc_step (M : Mem) : Option (Int32 × Mem) := (if (fVoyage_isUnderWayT M) = 0 then (Option.bind (fc_refuse M (-5)) (fun u2 => (some (u2.1, u2.2)))) else (Option.bind (fLake_leapNext M) (fun u4 => (some (u4.1, u4.2)))))
def fc_under (M : Mem) (a1 : Int32) : Option (Int32 × Mem) := (if (fc_isWithinT M a1 0 4) = 0 then (Option.bind (fc_refuse M (-2)) (fun u4 => (some (u4.1, u4.2)))) else (if (M.1 67 0) = ((-1) : Int32) then (Option.bind (fc_refuse M (-5)) (fun u2 => (some (u2.1, u2.2)))) else (if a1 = 0 then (some ((M.1 67 0), M)) else (if a1 = 1 then (some ((M.1 67 5), M)) else (if a1 = 2 then (some ((M.1 67 4), M)) else (if a1 = 3 then (some ((M.1 67 6), M)) else (some ((M.1 67 7), M))))))))
def fJetty_build_2 (M : Mem) (a0 : Nat) (a1 : Int32) (a2 : Int32) (a3 : Int32) (a4 : Int32) : Option Mem := (mlet (wI M (a0 + 71) 0 a1) (fun M1 => (mlet (wI M1 (a0 + 71) 1 a2) (fun M2 => (mlet (wI M2 (a0 + 71) 2 a3) (fun M3 => (mlet (wI M3 (a0 + 71) 3 a4) (fun M4 => (mlet (wI M4 (a0 + 71) 4 0) (fun M5 => (some M5)))))))))))
def fJetty_become (M : Mem) (a0 : Nat) (a1 : Nat) : Option Mem := (Option.bind (fJetty_build_2 M a0 (M.1 (a1 + 22) 0) (M.1 (a1 + 22) 1) (M.1 (a1 + 22) 2) (M.1 (a1 + 22) 3)) (fun M1 => (gd (isB (M1.1 (a1 + 22) 4)) (mlet (wI M1 (a0 + 71) 4 (M1.1 (a1 + 22) 4)) (fun M2 => (some M2))))))
def fLaw_become (M : Mem) (a0 : Nat) (a1 : Nat) : Option Mem := (gd (cpokB 0 0 9 9 9) (mlet (cpI M (a1 + 50) (a0 + 99) 0 0 9) (fun M1 => (some M1))))
def fLeaper_become (M : Mem) (a0 : Nat) (a1 : Nat) : Option Mem := (mlet (wI M (a0 + 107) 0 (M.1 (a1 + 58) 0)) (fun M1 => (mlet (wI M1 (a0 + 107) 1 (M1.1 (a1 + 58) 1)) (fun M2 => (mlet (wI M2 (a0 + 107) 2 (M2.1 (a1 + 58) 2)) (fun M3 => (some M3)))))))
def fLake_becomeCounted_L10 (kx39 : Mem → Option Mem) : Nat → Int32 → Mem → Option Mem
  | 0, _, _ => none
  | n + 1, x2, M => (if (M.1 69 1) ≤ x2 then (kx39 M) else (gd (inb x2 20) (gd (inb x2 20) (Option.bind (fJetty_become M (ix x2) (ix x2)) (fun M4 => (fLake_becomeCounted_L10 kx39 n (x2 + 1) M4))))))
def fLake_becomeCounted_L49 (kx78 : Mem → Option Mem) : Nat → Int32 → Mem → Option Mem
  | 0, _, _ => none
  | n + 1, x2, M => (if (M.1 69 3) ≤ x2 then (kx78 M) else (gd (inb x2 6) (gd (inb x2 6) (Option.bind (fLaw_become M (ix x2) (ix x2)) (fun M9 => (fLake_becomeCounted_L49 kx78 n (x2 + 1) M9))))))
def fLake_becomeCounted_L88 (kx117 : Mem → Option Mem) : Nat → Int32 → Mem → Option Mem
  | 0, _, _ => none
  | n + 1, x2, M => (if (M.1 69 7) ≤ x2 then (kx117 M) else (gd (inb x2 6) (gd (inb x2 6) (Option.bind (fLeaper_become M (ix x2) (ix x2)) (fun M14 => (fLake_becomeCounted_L88 kx117 n (x2 + 1) M14))))))
def fLake_becomeCounted (M : Mem) : Option Mem := (mlet (wI M 69 1 (M.1 20 1)) (fun M1 => (fLake_becomeCounted_L10 (fun M5 => (mlet (wI M5 69 3 (M5.1 20 3)) (fun M6 => (fLake_becomeCounted_L49 (fun M10 => (mlet (wI M10 69 7 (M10.1 20 7)) (fun M11 => (fLake_becomeCounted_L88 (fun M15 => (mlet (wI M15 69 10 (M15.1 20 10)) (fun M16 => (gd (cpokB 0 0 10 10 10) (mlet (cpI M16 64 113 0 0 10) (fun M17 => (gd (cpokB 0 0 10 10 10) (mlet (cpI M17 65 114 0 0 10) (fun M18 => (some M18)))))))))) FU 0 M11)))) FU 0 M6)))) FU 0 M1)))
def fVoyage_become (M : Mem) : Option Mem := (mlet (wI M 116 0 (M.1 67 0)) (fun M1 => (mlet (wI M1 116 2 (M1.1 67 2)) (fun M2 => (gd (cpokB 0 0 20 20 20) (mlet (cpI M2 68 117 0 0 20) (fun M3 => (mlet (wI M3 116 3 (M3.1 67 3)) (fun M4 => (mlet (wI M4 116 4 (M4.1 67 4)) (fun M5 => (mlet (wI M5 116 5 (M5.1 67 5)) (fun M6 => (mlet (wI M6 116 6 (M6.1 67 6)) (fun M7 => (mlet (wI M7 116 7 (M7.1 67 7)) (fun M8 => (some M8))))))))))))))))))
def fLake_become (M : Mem) : Option Mem := (Option.bind (fLake_becomeCounted M) (fun M1 => (gd (cpokB 0 0 12 12 12) (mlet (cpI M1 66 115 0 0 12) (fun M2 => (mlet (wI M2 69 4 (M2.1 20 4)) (fun M3 => (mlet (wI M3 69 12 (M3.1 20 12)) (fun M4 => (mlet (wI M4 69 13 (M4.1 20 13)) (fun M5 => (mlet (wI M5 69 14 (M5.1 20 14)) (fun M6 => (mlet (wI M6 69 15 (M6.1 20 15)) (fun M7 => (Option.bind (fVoyage_become M7) (fun M8 => (some M8))))))))))))))))))
def fc_image (M : Mem) : Option (Int32 × Mem) := (Option.bind (fLake_become M) (fun M1 => (mlet (wI M1 0 4 1) (fun M2 => (some (1, M2))))))
def fJetty_become_2 (M : Mem) (a0 : Nat) (a1 : Nat) : Option Mem := (Option.bind (fJetty_build M a0 (M.1 (a1 + 71) 0) (M.1 (a1 + 71) 1) (M.1 (a1 + 71) 2) (M.1 (a1 + 71) 3)) (fun M1 => (gd (isB (M1.1 (a1 + 71) 4)) (mlet (wI M1 (a0 + 22) 4 (M1.1 (a1 + 71) 4)) (fun M2 => (some M2))))))
def fLaw_become_2 (M : Mem) (a0 : Nat) (a1 : Nat) : Option Mem := (gd (cpokB 0 0 9 9 9) (mlet (cpI M (a1 + 99) (a0 + 50) 0 0 9) (fun M1 => (some M1))))
def fLeaper_become_2 (M : Mem) (a0 : Nat) (a1 : Nat) : Option Mem := (mlet (wI M (a0 + 58) 0 (M.1 (a1 + 107) 0)) (fun M1 => (mlet (wI M1 (a0 + 58) 1 (M1.1 (a1 + 107) 1)) (fun M2 => (mlet (wI M2 (a0 + 58) 2 (M2.1 (a1 + 107) 2)) (fun M3 => (some M3)))))))
def fLake_becomeCounted_2_L10 (kx39 : Mem → Option Mem) : Nat → Int32 → Mem → Option Mem
  | 0, _, _ => none
  | n + 1, x2, M => (if (M.1 20 1) ≤ x2 then (kx39 M) else (gd (inb x2 20) (gd (inb x2 20) (Option.bind (fJetty_become_2 M (ix x2) (ix x2)) (fun M4 => (fLake_becomeCounted_2_L10 kx39 n (x2 + 1) M4))))))
def fLake_becomeCounted_2_L49 (kx78 : Mem → Option Mem) : Nat → Int32 → Mem → Option Mem
  | 0, _, _ => none
  | n + 1, x2, M => (if (M.1 20 3) ≤ x2 then (kx78 M) else (gd (inb x2 6) (gd (inb x2 6) (Option.bind (fLaw_become_2 M (ix x2) (ix x2)) (fun M9 => (fLake_becomeCounted_2_L49 kx78 n (x2 + 1) M9))))))
def fLake_becomeCounted_2_L88 (kx117 : Mem → Option Mem) : Nat → Int32 → Mem → Option Mem
  | 0, _, _ => none
  | n + 1, x2, M => (if (M.1 20 7) ≤ x2 then (kx117 M) else (gd (inb x2 6) (gd (inb x2 6) (Option.bind (fLeaper_become_2 M (ix x2) (ix x2)) (fun M14 => (fLake_becomeCounted_2_L88 kx117 n (x2 + 1) M14))))))
def fLake_becomeCounted_2 (M : Mem) : Option Mem := (mlet (wI M 20 1 (M.1 69 1)) (fun M1 => (fLake_becomeCounted_2_L10 (fun M5 => (mlet (wI M5 20 3 (M5.1 69 3)) (fun M6 => (fLake_becomeCounted_2_L49 (fun M10 => (mlet (wI M10 20 7 (M10.1 69 7)) (fun M11 => (fLake_becomeCounted_2_L88 (fun M15 => (mlet (wI M15 20 10 (M15.1 69 10)) (fun M16 => (gd (cpokB 0 0 10 10 10) (mlet (cpI M16 113 64 0 0 10) (fun M17 => (gd (cpokB 0 0 10 10 10) (mlet (cpI M17 114 65 0 0 10) (fun M18 => (some M18)))))))))) FU 0 M11)))) FU 0 M6)))) FU 0 M1)))
def fVoyage_become_2 (M : Mem) : Option Mem := (mlet (wI M 67 0 (M.1 116 0)) (fun M1 => (mlet (wI M1 67 2 (M1.1 116 2)) (fun M2 => (gd (cpokB 0 0 20 20 20) (mlet (cpI M2 117 68 0 0 20) (fun M3 => (mlet (wI M3 67 3 (M3.1 116 3)) (fun M4 => (mlet (wI M4 67 4 (M4.1 116 4)) (fun M5 => (mlet (wI M5 67 5 (M5.1 116 5)) (fun M6 => (mlet (wI M6 67 6 (M6.1 116 6)) (fun M7 => (mlet (wI M7 67 7 (M7.1 116 7)) (fun M8 => (some M8))))))))))))))))))
def fLake_become_2 (M : Mem) : Option Mem := (Option.bind (fLake_becomeCounted_2 M) (fun M1 => (gd (cpokB 0 0 12 12 12) (mlet (cpI M1 115 66 0 0 12) (fun M2 => (mlet (wI M2 20 4 (M2.1 69 4)) (fun M3 => (mlet (wI M3 20 12 (M3.1 69 12)) (fun M4 => (mlet (wI M4 20 13 (M4.1 69 13)) (fun M5 => (mlet (wI M5 20 14 (M5.1 69 14)) (fun M6 => (mlet (wI M6 20 15 (M6.1 69 15)) (fun M7 => (Option.bind (fVoyage_become_2 M7) (fun M8 => (some M8))))))))))))))))))
def fc_back_L27 : Nat → Int32 → Mem → Option (Int32 × Mem)
  | 0, _, _ => none
  | n + 1, x1, M => (if (8 : Int32) ≤ x1 then (some (1, M)) else (gd (inb x1 8) (jlet (fun z62 : Mem => (fc_back_L27 n (x1 + 1) z62)) (fun J62 => (if (M.1 ((ix x1) + 2) 2) < (M.1 20 1) then (J62 M) else (gd (inb x1 8) (Option.bind (fShelf_takeJetty M (ix x1) (-1)) (fun M4 => (J62 M4)))))))))
def fc_back (M : Mem) : Option (Int32 × Mem) := (if (M.1 0 4) = 0 then (Option.bind (fc_refuse M (-5)) (fun u6 => (some (u6.1, u6.2)))) else (Option.bind (fLake_become_2 M) (fun M1 => (fc_back_L27 FU 0 M1))))
def fc_shelvesInUse_L4 (M : Mem) : Nat → Int32 → Int32 → Option Int32
  | 0, _, _ => none
  | n + 1, x1, x2 => (if (8 : Int32) ≤ x2 then (some x1) else (gd (inb x2 8) (jlet (fun z28 : Int32 => (ilet (x1 + (fc_toNumberT M z28)) (fun v2 => (fc_shelvesInUse_L4 M n v2 (x2 + 1))))) (fun J28 => (if (fShelf_isEmptyT M (ix x2)) = 0 then (J28 1) else (J28 0))))))
def fc_shelvesInUse (M : Mem) : Option Int32 := (fc_shelvesInUse_L4 M FU 0 0)
def fc_status (M : Mem) (a1 : Int32) : Option Int32 := (if a1 = 0 then (some (M.1 20 1)) else (if a1 = 1 then (some (M.1 20 3)) else (if a1 = 2 then (some (M.1 20 7)) else (if a1 = 3 then (some (M.1 20 10)) else (if a1 = 4 then (some (M.1 18 1)) else (if a1 = 5 then (some (M.1 20 15)) else (if a1 = 6 then (Option.bind (fc_shelvesInUse M) (fun r1 => (some r1))) else (if a1 = 7 then (some (M.1 20 13)) else (if a1 = 8 then (some (M.1 20 14)) else (if (fc_isWithinT M a1 12 16) = 0 then (some (-1)) else (gd (inb (a1 - 12) 5) (some (M.1 118 (ix (a1 - 12)))))))))))))))
def fm_isShelf (M : Mem) (a1 : Int32) : Option Int32 := (if a1 < 0 then (some 0) else (if (8 : Int32) ≤ a1 then (some 0) else (some 1)))
def fm_isShelfT (M : Mem) (a1 : Int32) : Int32 := (if a1 < 0 then (0) else (if (8 : Int32) ≤ a1 then (0) else (1)))
theorem fm_isShelfE (M : Mem) (a1 : Int32) : fm_isShelf M a1 = some (fm_isShelfT M a1) := by
  unfold fm_isShelf fm_isShelfT
  repeat' split
  all_goals first | rfl | simp_all
theorem fm_isShelfB (M : Mem) (a1 : Int32) : isB (fm_isShelfT M a1) := by
  unfold fm_isShelfT
  repeat' split
  all_goals first | exact Or.inl rfl | exact Or.inr rfl
def fm_no (M : Mem) (a1 : Int32) : Option (Int32 × Mem) := (gd (inb (-a1) 7) (gd (inb (-a1) 7) (mlet (wI M 158 (ix (-a1)) ((M.1 158 (ix (-a1))) + 1)) (fun M3 => (some (a1, M3))))))
def fm_row_L54 (b1 : Int32) : Nat → Int32 → Mem → Option (Int32 × Mem)
  | 0, _, _ => none
  | n + 1, x4, M => (if (40 : Int32) ≤ x4 then (some (1, M)) else (gd (inb (((40 : Int32) * b1) + x4) 320) (mlet (wL M 141 (ix (((40 : Int32) * b1) + x4)) 0) (fun M14 => (fm_row_L54 b1 n (x4 + 1) M14)))))
def fm_row (M : Mem) (a1 : Int32) (a2 : Int32) (a3 : Int32) : Option (Int32 × Mem) := (if (fm_isShelfT M a1) = 0 then (Option.bind (fm_no M (-2)) (fun u2 => (some (u2.1, u2.2)))) else (if a2 < 0 then (Option.bind (fm_no M (-2)) (fun u4 => (some (u4.1, u4.2)))) else (if (4 : Int32) < a2 then (Option.bind (fm_no M (-2)) (fun u6 => (some (u6.1, u6.2)))) else (if a3 < 0 then (Option.bind (fm_no M (-2)) (fun u8 => (some (u8.1, u8.2)))) else (if a3 ≤ (40 : Int32) then (gd (inb a1 8) (mlet (wI M 139 (ix a1) ((100 : Int32) + a2)) (fun M10 => (gd (inb a1 8) (mlet (wI M10 140 (ix a1) a3) (fun M12 => (fm_row_L54 a1 FU 0 M12))))))) else (Option.bind (fm_no M (-2)) (fun u16 => (some (u16.1, u16.2)))))))))
def fm_holdsJetty (M : Mem) (a1 : Int32) : Option Int32 := (gd (inb a1 8) (if (M.1 139 (ix a1)) < 0 then (some 0) else (gd (inb a1 8) (if (100 : Int32) ≤ (M.1 139 (ix a1)) then (some 0) else (some 1)))))
def fm_noRow (M : Mem) (a1 : Int32) : Option Int32 := (if (fm_isShelfT M a1) = 0 then (some (-2)) else (Option.bind (fm_holdsJetty M a1) (fun r1 => (if r1 = 0 then (gd (inb a1 8) (if 0 ≤ (M.1 139 (ix a1)) then (some 0) else (some (-4)))) else (some (-3))))))
def fm_set (M : Mem) (a1 : Int32) (a2 : Int32) (a3 : Int64) : Option (Int32 × Mem) := (Option.bind (fm_noRow M a1) (fun r1 => (if 0 ≤ r1 then (if a2 < 0 then (Option.bind (fm_no M (-2)) (fun u3 => (some (u3.1, u3.2)))) else (gd (inb a1 8) (if a2 < (M.1 140 (ix a1)) then (gd (inb a1 8) (ilet ((M.1 139 (ix a1)) - 100) (fun v6 => (jlet (fun z65 : Int64 => (jlet (fun z77 : Int64 => (jlet (fun z88 : Int64 => (if v6 = (4 : Int32) then (if (lg_cmp a3 0) = 0 then (gd (inb (((40 : Int32) * a1) + a2) 320) (mlet (wL M 141 (ix (((40 : Int32) * a1) + a2)) 0) (fun M10 => (some (1, M10))))) else (gd (inb (((40 : Int32) * a1) + a2) 320) (mlet (wL M 141 (ix (((40 : Int32) * a1) + a2)) 1) (fun M12 => (some (1, M12)))))) else (gd (inb (((40 : Int32) * a1) + a2) 320) (mlet (wL M 141 (ix (((40 : Int32) * a1) + a2)) z88) (fun M8 => (some (1, M8))))))) (fun J88 => (if v6 = (2 : Int32) then (llet (Int32.toInt64 (Int64.toInt32 a3)) (fun v13 => (J88 v13))) else (J88 z77))))) (fun J77 => (if v6 = (1 : Int32) then (llet (Int32.toInt64 (Int16.toInt32 (Int32.toInt16 (Int64.toInt32 a3)))) (fun v14 => (J77 v14))) else (J77 z65))))) (fun J65 => (if v6 = 0 then (llet (Int32.toInt64 (Int8.toInt32 (Int32.toInt8 (Int64.toInt32 a3)))) (fun v15 => (J65 v15))) else (J65 a3))))))) else (Option.bind (fm_no M (-2)) (fun u17 => (some (u17.1, u17.2))))))) else (Option.bind (fm_no M r1) (fun u19 => (some (u19.1, u19.2)))))))
def fm_isRow (M : Mem) (a1 : Int32) : Option Int32 := (gd (inb a1 8) (if (M.1 139 (ix a1)) < (100 : Int32) then (some 0) else (some 1)))
def fm_copy_L221 (b1 : Int32) (b2 : Int32) (b3 : Int32) (b4 : Int32) (b5 : Int32) : Nat → Int32 → Mem → Option (Int32 × Mem)
  | 0, _, _ => none
  | n + 1, x6, M => (if b5 ≤ x6 then (some (b5, M)) else (gd (inb ((((40 : Int32) * b1) + b3) + x6) 320) (gd (inb ((((40 : Int32) * b2) + b4) + x6) 320) (mlet (wL M 141 (ix ((((40 : Int32) * b2) + b4) + x6)) (M.2 141 (ix ((((40 : Int32) * b1) + b3) + x6)))) (fun M26 => (fm_copy_L221 b1 b2 b3 b4 b5 n (x6 + 1) M26))))))
def fm_copy_L175 (b1 : Int32) (b2 : Int32) (b3 : Int32) (b4 : Int32) (b5 : Int32) (kx215 : Mem → Option (Int32 × Mem)) : Nat → Int32 → Mem → Option (Int32 × Mem)
  | 0, _, _ => none
  | n + 1, x6, M => (if x6 < 0 then (kx215 M) else (gd (inb ((((40 : Int32) * b1) + b3) + x6) 320) (gd (inb ((((40 : Int32) * b2) + b4) + x6) 320) (mlet (wL M 141 (ix ((((40 : Int32) * b2) + b4) + x6)) (M.2 141 (ix ((((40 : Int32) * b1) + b3) + x6)))) (fun M30 => (fm_copy_L175 b1 b2 b3 b4 b5 kx215 n (x6 + (-1)) M30))))))
def fm_copy (M : Mem) (a1 : Int32) (a2 : Int32) (a3 : Int32) (a4 : Int32) (a5 : Int32) : Option (Int32 × Mem) := (if (fm_isShelfT M a1) = 0 then (Option.bind (fm_no M (-2)) (fun u2 => (some (u2.1, u2.2)))) else (if (fm_isShelfT M a2) = 0 then (Option.bind (fm_no M (-2)) (fun u42 => (some (u42.1, u42.2)))) else (Option.bind (fm_holdsJetty M a1) (fun r3 => (if r3 = 0 then (Option.bind (fm_holdsJetty M a2) (fun r6 => (if r6 = 0 then (Option.bind (fm_isRow M a1) (fun r9 => (jlet (fun z77 : Unit => (gd (inb a1 8) (if (M.1 139 (ix a1)) < 0 then (Option.bind (fm_no M (-4)) (fun u12 => (some (u12.1, u12.2)))) else (gd (inb a2 8) (if 0 ≤ (M.1 139 (ix a2)) then (if a5 < 0 then (Option.bind (fm_no M (-2)) (fun u15 => (some (u15.1, u15.2)))) else (if a3 < 0 then (Option.bind (fm_no M (-2)) (fun u17 => (some (u17.1, u17.2)))) else (if a4 < 0 then (Option.bind (fm_no M (-2)) (fun u19 => (some (u19.1, u19.2)))) else (gd (inb a1 8) (if 0 < (lg_cmp ((Int32.toInt64 a3) + (Int32.toInt64 a5)) (Int32.toInt64 (M.1 140 (ix a1)))) then (Option.bind (fm_no M (-2)) (fun u22 => (some (u22.1, u22.2)))) else (gd (inb a2 8) (if (lg_cmp ((Int32.toInt64 a4) + (Int32.toInt64 a5)) (Int32.toInt64 (M.1 140 (ix a2)))) ≤ 0 then (jlet (fun z218 : Unit => (fm_copy_L221 a1 a2 a3 a4 a5 FU 0 M)) (fun J218 => (if a1 = a2 then (if a4 ≤ a3 then (J218 ()) else (ilet (a5 - 1) (fun v27 => (fm_copy_L175 a1 a2 a3 a4 a5 (fun M31 => (some (a5, M31))) FU v27 M)))) else (J218 ())))) else (Option.bind (fm_no M (-2)) (fun u33 => (some (u33.1, u33.2))))))))))) else (Option.bind (fm_no M (-4)) (fun u35 => (some (u35.1, u35.2))))))))) (fun J77 => (if r9 = 0 then (J77 ()) else (Option.bind (fm_isRow M a2) (fun r36 => (if r36 = 0 then (J77 ()) else (gd (inb a1 8) (gd (inb a2 8) (if (M.1 139 (ix a1)) = (M.1 139 (ix a2)) then (J77 ()) else (Option.bind (fm_no M (-3)) (fun u40 => (some (u40.1, u40.2))))))))))))))) else (Option.bind (fm_no M (-3)) (fun u8 => (some (u8.1, u8.2))))))) else (Option.bind (fm_no M (-3)) (fun u5 => (some (u5.1, u5.2)))))))))
def fm_element (M : Mem) (a1 : Int32) (a2 : Int32) : Option Int64 := (if (fm_isShelfT M a1) = 0 then (some 0) else (Option.bind (fm_isRow M a1) (fun r1 => (if r1 = 0 then (some 0) else (if a2 < 0 then (some 0) else (gd (inb a1 8) (if a2 < (M.1 140 (ix a1)) then (gd (inb (((40 : Int32) * a1) + a2) 320) (some (M.2 141 (ix (((40 : Int32) * a1) + a2))))) else (some 0))))))))
def fm_holds (M : Mem) (a1 : Int32) : Option Int32 := (if (fm_isShelfT M a1) = 0 then (some (-1)) else (gd (inb a1 8) (if 0 ≤ (M.1 139 (ix a1)) then (Option.bind (fm_isRow M a1) (fun r2 => (if r2 = 0 then (gd (inb a1 8) (some ((10 : Int32) + (M.1 139 (ix a1))))) else (gd (inb a1 8) (some ((M.1 139 (ix a1)) - 100)))))) else (some (-1)))))
def fm_isJetty (M : Mem) (a1 : Int32) : Option Int32 := (if a1 < 0 then (some 0) else (if (M.1 156 (ix 0)) ≤ a1 then (some 0) else (some 1)))
def fm_isJettyT (M : Mem) (a1 : Int32) : Int32 := (if a1 < 0 then (0) else (if (M.1 156 (ix 0)) ≤ a1 then (0) else (1)))
theorem fm_isJettyE (M : Mem) (a1 : Int32) : fm_isJetty M a1 = some (fm_isJettyT M a1) := by
  unfold fm_isJetty fm_isJettyT
  repeat' split
  all_goals first | rfl | simp_all
theorem fm_isJettyB (M : Mem) (a1 : Int32) : isB (fm_isJettyT M a1) := by
  unfold fm_isJettyT
  repeat' split
  all_goals first | exact Or.inl rfl | exact Or.inr rfl
def fm_show (M : Mem) (a1 : Int32) (a2 : Int32) : Option (Int32 × Mem) := (if (fm_isShelfT M a1) = 0 then (Option.bind (fm_no M (-2)) (fun u2 => (some (u2.1, u2.2)))) else (if a2 = ((-1) : Int32) then (gd (inb a1 8) (mlet (wI M 139 (ix a1) a2) (fun M4 => (some (1, M4))))) else (if (fm_isJettyT M a2) = 0 then (Option.bind (fm_no M (-2)) (fun u8 => (some (u8.1, u8.2)))) else (gd (inb a1 8) (mlet (wI M 139 (ix a1) a2) (fun M6 => (some (1, M6))))))))
def fm_isUnder (M : Mem) (a1 : Int32) (a2 : Int32) : Option Int32 := (if a2 = 0 then (some 1) else (if a1 = a2 then (some 1) else (if a2 = (1 : Int32) then (if a1 = (2 : Int32) then (some 1) else (if a2 = (3 : Int32) then (if a1 = (4 : Int32) then (some 1) else (some 0)) else (some 0))) else (if a2 = (3 : Int32) then (if a1 = (4 : Int32) then (some 1) else (some 0)) else (some 0)))))
def fm_isUnderT (M : Mem) (a1 : Int32) (a2 : Int32) : Int32 := (if a2 = 0 then (1) else (if a1 = a2 then (1) else (if a2 = (1 : Int32) then (if a1 = (2 : Int32) then (1) else (if a2 = (3 : Int32) then (if a1 = (4 : Int32) then (1) else (0)) else (0))) else (if a2 = (3 : Int32) then (if a1 = (4 : Int32) then (1) else (0)) else (0)))))
theorem fm_isUnderE (M : Mem) (a1 : Int32) (a2 : Int32) : fm_isUnder M a1 a2 = some (fm_isUnderT M a1 a2) := by
  unfold fm_isUnder fm_isUnderT
  repeat' split
  all_goals first | rfl | simp_all
theorem fm_isUnderB (M : Mem) (a1 : Int32) (a2 : Int32) : isB (fm_isUnderT M a1 a2) := by
  unfold fm_isUnderT
  repeat' split
  all_goals first | exact Or.inl rfl | exact Or.inr rfl
def fm_riseAt (M : Mem) (a1 : Int32) (a2 : Int32) : Option Int32 := (gd (inb a1 20) (ilet (M.1 142 (ix a1)) (fun v2 => (gd (inb a1 20) (ilet (M.1 145 (ix a1)) (fun v4 => (if v2 = (3 : Int32) then (some v4) else (if v2 = (4 : Int32) then (some (v4 / 2)) else (if v2 = 0 then (some (v4 - a2)) else (if v2 = (5 : Int32) then (some (v4 - a2)) else (ilet ((v4 - a2) - 10) (fun v5 => (if v2 = (2 : Int32) then (if 0 ≤ v5 then (some v5) else (some 0)) else (some v5))))))))))))))
def fm_paces (M : Mem) (a1 : Int32) : Option Int32 := (gd (inb a1 20) (ilet (M.1 142 (ix a1)) (fun v2 => (gd (inb a1 20) (ilet (M.1 144 (ix a1)) (fun v4 => (if v2 = 0 then (some v4) else (if v2 = (3 : Int32) then (some v4) else (if v2 = (1 : Int32) then (some ((2 : Int32) * v4)) else (if v2 = (2 : Int32) then (some (((2 : Int32) * v4) + 4)) else (if v2 = (4 : Int32) then (some (v4 + 2)) else (some 1))))))))))))
def fm_says (M : Mem) (a1 : Int32) (a2 : Int32) : Option (Int32 × Mem) := (if (fm_isShelfT M a1) = 0 then (Option.bind (fm_no M (-2)) (fun u2 => (some (u2.1, u2.2)))) else (if a2 < 0 then (Option.bind (fm_no M (-2)) (fun u4 => (some (u4.1, u4.2)))) else (if a2 ≤ (5 : Int32) then (Option.bind (fm_isRow M a1) (fun r5 => (if r5 = 0 then (gd (inb a1 8) (if 0 ≤ (M.1 139 (ix a1)) then (gd (inb a1 8) (ilet (M.1 139 (ix a1)) (fun v8 => (gd (inb v8 20) (if (fm_isUnderT M (M.1 142 (ix v8)) a2) = 0 then (Option.bind (fm_no M (-3)) (fun u16 => (some (u16.1, u16.2)))) else (if a2 = 0 then (gd (inb v8 20) (some ((M.1 143 (ix v8)), M))) else (if (3 : Int32) ≤ a2 then (if (5 : Int32) ≤ a2 then (gd (inb v8 20) (some ((M.1 146 (ix v8)), M))) else (Option.bind (fm_riseAt M v8 (M.1 156 (ix 5))) (fun r12 => (some (r12, M))))) else (Option.bind (fm_paces M v8) (fun r13 => (some (r13, M))))))))))) else (Option.bind (fm_no M (-4)) (fun u18 => (some (u18.1, u18.2)))))) else (Option.bind (fm_no M (-3)) (fun u20 => (some (u20.1, u20.2))))))) else (Option.bind (fm_no M (-2)) (fun u22 => (some (u22.1, u22.2)))))))
def fm_isSpot (M : Mem) (a1 : Int32) : Option Int32 := (if a1 < 0 then (some 0) else (if (256 : Int32) ≤ a1 then (some 0) else (some 1)))
def fm_isSpotT (M : Mem) (a1 : Int32) : Int32 := (if a1 < 0 then (0) else (if (256 : Int32) ≤ a1 then (0) else (1)))
theorem fm_isSpotE (M : Mem) (a1 : Int32) : fm_isSpot M a1 = some (fm_isSpotT M a1) := by
  unfold fm_isSpot fm_isSpotT
  repeat' split
  all_goals first | rfl | simp_all
theorem fm_isSpotB (M : Mem) (a1 : Int32) : isB (fm_isSpotT M a1) := by
  unfold fm_isSpotT
  repeat' split
  all_goals first | exact Or.inl rfl | exact Or.inr rfl
def fm_jetty (M : Mem) (a1 : Int32) (a2 : Int32) (a3 : Int32) (a4 : Int32) : Option (Int32 × Mem) := (if a1 < 0 then (Option.bind (fm_no M (-2)) (fun u2 => (some (u2.1, u2.2)))) else (if (5 : Int32) < a1 then (Option.bind (fm_no M (-2)) (fun u4 => (some (u4.1, u4.2)))) else (if (fm_isSpotT M a2) = 0 then (Option.bind (fm_no M (-2)) (fun u6 => (some (u6.1, u6.2)))) else (if a3 < (1 : Int32) then (Option.bind (fm_no M (-2)) (fun u8 => (some (u8.1, u8.2)))) else (if (30 : Int32) < a3 then (Option.bind (fm_no M (-2)) (fun u10 => (some (u10.1, u10.2)))) else (if a4 < 0 then (Option.bind (fm_no M (-2)) (fun u12 => (some (u12.1, u12.2)))) else (if a4 ≤ (99 : Int32) then (if (M.1 156 (ix 0)) = (20 : Int32) then (Option.bind (fm_no M (-6)) (fun u29 => (some (u29.1, u29.2)))) else (mlet (wI M 156 (ix 0) ((M.1 156 (ix 0)) + 1)) (fun M16 => (ilet (M.1 156 (ix 0)) (fun v17 => (gd (inb v17 20) (mlet (wI M16 142 (ix v17) a1) (fun M19 => (gd (inb v17 20) (mlet (wI M19 143 (ix v17) a2) (fun M21 => (gd (inb v17 20) (mlet (wI M21 144 (ix v17) a3) (fun M23 => (gd (inb v17 20) (mlet (wI M23 145 (ix v17) a4) (fun M25 => (gd (inb v17 20) (mlet (wI M25 146 (ix v17) 0) (fun M27 => (some (v17, M27)))))))))))))))))))))) else (Option.bind (fm_no M (-2)) (fun u31 => (some (u31.1, u31.2)))))))))))
def fm_first (M : Mem) (a1 : Int32) : Option Int32 := (if a1 = 0 then (some 40) else (if a1 = (1 : Int32) then (some 4) else (if a1 = (7 : Int32) then (some 4) else (if a1 = (2 : Int32) then (some 5) else (if a1 = (3 : Int32) then (some 3) else (if a1 = (4 : Int32) then (some 3) else (if a1 = (5 : Int32) then (some 40) else (if a1 = (6 : Int32) then (some 20) else (some 2)))))))))
def fm_firstT (M : Mem) (a1 : Int32) : Int32 := (if a1 = 0 then (40) else (if a1 = (1 : Int32) then (4) else (if a1 = (7 : Int32) then (4) else (if a1 = (2 : Int32) then (5) else (if a1 = (3 : Int32) then (3) else (if a1 = (4 : Int32) then (3) else (if a1 = (5 : Int32) then (40) else (if a1 = (6 : Int32) then (20) else (2)))))))))
theorem fm_firstE (M : Mem) (a1 : Int32) : fm_first M a1 = some (fm_firstT M a1) := by
  unfold fm_first fm_firstT
  repeat' split
  all_goals first | rfl | simp_all
def fm_says1 (M : Mem) (a1 : Int32) : Option Int32 := (if (M.1 156 (ix 4)) < 0 then (some (fm_firstT M a1)) else (gd (inb (((9 : Int32) * (M.1 156 (ix 4))) + a1) 54) (some (M.1 148 (ix (((9 : Int32) * (M.1 156 (ix 4))) + a1))))))
def fm_isTimeAt (M : Mem) (a1 : Int32) (a2 : Int32) : Option Int32 := (Option.bind (fm_says1 M 2) (fun r1 => (Option.bind (fm_paces M a1) (fun r2 => (gd (¬ r1 = 0) (Option.bind (fm_says1 M 3) (fun r3 => (Option.bind (fm_says1 M 0) (fun r4 => (gd (¬ a2 = 0) (if (r4 / a2) < ((((((2 : Int32) * r2) + r1) - 1) / r1) + r3) then (some 0) else (some 1))))))))))))
def fm_isTime (M : Mem) (a1 : Int32) : Option Int32 := (Option.bind (fm_says1 M 1) (fun r1 => (Option.bind (fm_isTimeAt M a1 r1) (fun r2 => (gd (isB r2) (some r2))))))
def fm_deck (M : Mem) : Option Int32 := (some ((20 : Int32) - ((M.1 156 (ix 6)) / 4)))
def fm_deckT (M : Mem) : Int32 := (((20 : Int32) - ((M.1 156 (ix 6)) / 4)))
theorem fm_deckE (M : Mem) : fm_deck M = some (fm_deckT M) := by
  unfold fm_deck fm_deckT
  repeat' split
  all_goals first | rfl | simp_all
def fm_isOut (M : Mem) (a1 : Int32) (a2 : Int32) : Option Int32 := (Option.bind (fm_riseAt M a1 a2) (fun r1 => (ilet (r1 - (fm_deckT M)) (fun v2 => (if (60 : Int32) < v2 then (some 1) else (if ((-60) : Int32) ≤ v2 then (some 0) else (some 1)))))))
def fm_jettyOf (M : Mem) (a1 : Int32) (a2 : Int32) : Option (Int32 × Mem) := (if (fm_isJettyT M a1) = 0 then (Option.bind (fm_no M (-2)) (fun u2 => (some (u2.1, u2.2)))) else (if a2 < 0 then (Option.bind (fm_no M (-2)) (fun u4 => (some (u4.1, u4.2)))) else (if a2 ≤ (7 : Int32) then (if a2 = 0 then (gd (inb a1 20) (some ((M.1 142 (ix a1)), M))) else (if a2 = (1 : Int32) then (gd (inb a1 20) (some ((M.1 143 (ix a1)), M))) else (if a2 = (2 : Int32) then (gd (inb a1 20) (some ((M.1 144 (ix a1)), M))) else (if a2 = (3 : Int32) then (gd (inb a1 20) (some ((M.1 145 (ix a1)), M))) else (if a2 = (4 : Int32) then (Option.bind (fm_paces M a1) (fun r9 => (some (r9, M)))) else (if a2 = (5 : Int32) then (gd (inb a1 20) (some ((M.1 146 (ix a1)), M))) else (if a2 = (6 : Int32) then (Option.bind (fm_isOut M a1 (M.1 156 (ix 5))) (fun r7 => (if r7 = 0 then (some (0, M)) else (some (1, M))))) else (Option.bind (fm_isTime M a1) (fun r5 => (if r5 = 0 then (some (0, M)) else (some (1, M)))))))))))) else (Option.bind (fm_no M (-2)) (fun u15 => (some (u15.1, u15.2)))))))
def fm_wet (M : Mem) (a1 : Int32) (a2 : Int32) : Option (Int32 × Mem) := (if (fm_isJettyT M a1) = 0 then (Option.bind (fm_no M (-2)) (fun u8 => (some (u8.1, u8.2)))) else (gd (inb a1 20) (ilet (M.1 146 (ix a1)) (fun v2 => (if a2 = 0 then (gd (inb a1 20) (mlet (wI M 146 (ix a1) 0) (fun M4 => (some (v2, M4))))) else (gd (inb a1 20) (mlet (wI M 146 (ix a1) 1) (fun M6 => (some (v2, M6))))))))))
def fm_isLevel (M : Mem) (a1 : Int32) : Option Int32 := (if a1 < ((-50) : Int32) then (some 0) else (if (50 : Int32) < a1 then (some 0) else (some 1)))
def fm_isLevelT (M : Mem) (a1 : Int32) : Int32 := (if a1 < ((-50) : Int32) then (0) else (if (50 : Int32) < a1 then (0) else (1)))
theorem fm_isLevelE (M : Mem) (a1 : Int32) : fm_isLevel M a1 = some (fm_isLevelT M a1) := by
  unfold fm_isLevel fm_isLevelT
  repeat' split
  all_goals first | rfl | simp_all
theorem fm_isLevelB (M : Mem) (a1 : Int32) : isB (fm_isLevelT M a1) := by
  unfold fm_isLevelT
  repeat' split
  all_goals first | exact Or.inl rfl | exact Or.inr rfl
def fm_rise (M : Mem) (a1 : Int32) (a2 : Int32) : Option (Int32 × Mem) := (if (fm_isJettyT M a1) = 0 then (Option.bind (fm_no M (-2)) (fun u2 => (some ((-1002), u2.2)))) else (if (fm_isLevelT M a2) = 0 then (Option.bind (fm_no M (-2)) (fun u5 => (some ((-1002), u5.2)))) else (Option.bind (fm_riseAt M a1 a2) (fun r3 => (some (r3, M))))))
def fm_lake (M : Mem) (a1 : Int32) (a2 : Int32) : Option (Int32 × Mem) := (if a1 < 0 then (Option.bind (fm_no M (-2)) (fun u2 => (some (u2.1, u2.2)))) else (if a1 ≤ (2 : Int32) then (jlet (fun z28 : Unit => (jlet (fun z43 : Unit => (jlet (fun z63 : Unit => (gd (inb ((5 : Int32) + a1) 9) (ilet (M.1 156 (ix ((5 : Int32) + a1))) (fun v4 => (gd (inb ((5 : Int32) + a1) 9) (mlet (wI M 156 (ix ((5 : Int32) + a1)) a2) (fun M6 => (if v4 = a2 then (some (0, M6)) else (some (1, M6)))))))))) (fun J63 => (if a1 = (2 : Int32) then (if (fm_isSpotT M a2) = 0 then (Option.bind (fm_no M (-2)) (fun u8 => (some (u8.1, u8.2)))) else (J63 ())) else (J63 ()))))) (fun J43 => (if a1 = (1 : Int32) then (if a2 < 0 then (Option.bind (fm_no M (-2)) (fun u10 => (some (u10.1, u10.2)))) else (if (60 : Int32) < a2 then (Option.bind (fm_no M (-2)) (fun u12 => (some (u12.1, u12.2)))) else (J43 ()))) else (J43 ()))))) (fun J28 => (if a1 = 0 then (if (fm_isLevelT M a2) = 0 then (Option.bind (fm_no M (-2)) (fun u14 => (some (u14.1, u14.2)))) else (J28 ())) else (J28 ())))) else (Option.bind (fm_no M (-2)) (fun u16 => (some (u16.1, u16.2))))))
def fm_isHour (M : Mem) (a1 : Int32) : Option Int32 := (if a1 < 0 then (some 0) else (if (12 : Int32) ≤ a1 then (some 0) else (some 1)))
def fm_isHourT (M : Mem) (a1 : Int32) : Int32 := (if a1 < 0 then (0) else (if (12 : Int32) ≤ a1 then (0) else (1)))
theorem fm_isHourE (M : Mem) (a1 : Int32) : fm_isHour M a1 = some (fm_isHourT M a1) := by
  unfold fm_isHour fm_isHourT
  repeat' split
  all_goals first | rfl | simp_all
theorem fm_isHourB (M : Mem) (a1 : Int32) : isB (fm_isHourT M a1) := by
  unfold fm_isHourT
  repeat' split
  all_goals first | exact Or.inl rfl | exact Or.inr rfl
def fm_wind (M : Mem) (a1 : Int32) (a2 : Int32) : Option (Int32 × Mem) := (if (fm_isHourT M a1) = 0 then (Option.bind (fm_no M (-2)) (fun u2 => (some (u2.1, u2.2)))) else (if a2 < 0 then (Option.bind (fm_no M (-2)) (fun u4 => (some (u4.1, u4.2)))) else (if a2 ≤ (9 : Int32) then (gd (inb a1 12) (ilet (M.1 155 (ix a1)) (fun v6 => (gd (inb a1 12) (mlet (wI M 155 (ix a1) a2) (fun M8 => (some (v6, M8)))))))) else (Option.bind (fm_no M (-2)) (fun u10 => (some (u10.1, u10.2)))))))
def fm_winds_L18 (b1 : Int32) (kx63 : Int32 → Mem → Option (Int32 × Mem)) : Nat → Int32 → Mem → Option (Int32 × Mem)
  | 0, _, _ => none
  | n + 1, x3, M => (if (12 : Int32) ≤ x3 then (some (x3, M)) else (gd (inb b1 8) (if (M.1 140 (ix b1)) ≤ x3 then (some (x3, M)) else (gd (inb (((40 : Int32) * b1) + x3) 320) (llet (M.2 141 (ix (((40 : Int32) * b1) + x3))) (fun v4 => (if (lg_cmp v4 0) < 0 then (some (x3, M)) else (if (lg_cmp v4 9) ≤ 0 then (gd (inb x3 12) (mlet (wI M 155 (ix x3) (Int64.toInt32 v4)) (fun M6 => (fm_winds_L18 b1 kx63 n (x3 + 1) M6)))) else (kx63 x3 M)))))))))
def fm_winds (M : Mem) (a1 : Int32) : Option (Int32 × Mem) := (Option.bind (fm_noRow M a1) (fun r1 => (if 0 ≤ r1 then (fm_winds_L18 a1 (fun w7 M8 => (some (w7, M8))) FU 0 M) else (Option.bind (fm_no M r1) (fun u10 => (some (u10.1, u10.2)))))))
def fm_feed_L40 (b1 : Int32) (kx76 : Mem → Option (Int32 × Mem)) : Nat → Int32 → Mem → Option (Int32 × Mem)
  | 0, _, _ => none
  | n + 1, x3, M => (if x3 < 0 then (kx76 M) else (mlet (wI M 138 8 ((M.1 138 8) + 1)) (fun M4 => (gd (inb (M.1 138 8) 160) (mlet (wI M4 147 (ix (M.1 138 8)) ((b1 >>> (((8 : Int32) * x3) &&& 31)) &&& 255)) (fun M6 => (fm_feed_L40 b1 kx76 n (x3 + (-1)) M6)))))))
def fm_feed (M : Mem) (a1 : Int32) (a2 : Int32) : Option (Int32 × Mem) := (if a2 < (1 : Int32) then (Option.bind (fm_no M (-2)) (fun u2 => (some (u2.1, u2.2)))) else (if a2 ≤ (4 : Int32) then (if ((M.1 138 8) + a2) ≤ (160 : Int32) then (ilet (a2 - 1) (fun v3 => (fm_feed_L40 a1 (fun M7 => (some ((M7.1 138 8), M7))) FU v3 M))) else (Option.bind (fm_no M (-6)) (fun u9 => (some (u9.1, u9.2))))) else (Option.bind (fm_no M (-2)) (fun u11 => (some (u11.1, u11.2))))))
def fm_wipe (M : Mem) : Option (Int32 × Mem) := (ilet (M.1 138 8) (fun v1 => (mlet (wI M 138 8 0) (fun M2 => (some (v1, M2))))))
def fm_mayBe (M : Mem) (a1 : Int32) (a2 : Int32) : Option Int32 := (if a1 = 0 then (if a2 < (1 : Int32) then (some 0) else (some 1)) else (if a1 = (1 : Int32) then (if a2 < (1 : Int32) then (some 0) else (if (9 : Int32) < a2 then (some 0) else (some 1))) else (if a1 = (2 : Int32) then (if a2 < (1 : Int32) then (some 0) else (if (9 : Int32) < a2 then (some 0) else (some 1))) else (if a1 = (8 : Int32) then (if a2 < (1 : Int32) then (some 0) else (if (9 : Int32) < a2 then (some 0) else (some 1))) else (if a1 = (4 : Int32) then (if (9 : Int32) < a2 then (some 0) else (some 1)) else (if a1 = (7 : Int32) then (if (9 : Int32) < a2 then (some 0) else (some 1)) else (some 1)))))))
def fm_mayBeT (M : Mem) (a1 : Int32) (a2 : Int32) : Int32 := (if a1 = 0 then (if a2 < (1 : Int32) then (0) else (1)) else (if a1 = (1 : Int32) then (if a2 < (1 : Int32) then (0) else (if (9 : Int32) < a2 then (0) else (1))) else (if a1 = (2 : Int32) then (if a2 < (1 : Int32) then (0) else (if (9 : Int32) < a2 then (0) else (1))) else (if a1 = (8 : Int32) then (if a2 < (1 : Int32) then (0) else (if (9 : Int32) < a2 then (0) else (1))) else (if a1 = (4 : Int32) then (if (9 : Int32) < a2 then (0) else (1)) else (if a1 = (7 : Int32) then (if (9 : Int32) < a2 then (0) else (1)) else (1)))))))
theorem fm_mayBeE (M : Mem) (a1 : Int32) (a2 : Int32) : fm_mayBe M a1 a2 = some (fm_mayBeT M a1 a2) := by
  unfold fm_mayBe fm_mayBeT
  repeat' split
  all_goals first | rfl | simp_all
theorem fm_mayBeB (M : Mem) (a1 : Int32) (a2 : Int32) : isB (fm_mayBeT M a1 a2) := by
  unfold fm_mayBeT
  repeat' split
  all_goals first | exact Or.inl rfl | exact Or.inr rfl
def fm_is_L15 (M : Mem) (b1 : Int32) (b3 : Nat) : Nat → Int32 → Option Int32
  | 0, _ => none
  | n + 1, x4 => (if (nI (svN.getD b3 0)) ≤ x4 then (some 1) else (gd (inb (b1 + x4) 160) (gd (inb x4 (svN.getD b3 0)) (if (M.1 147 (ix (b1 + x4))) = (svc b3 (ix x4)) then (fm_is_L15 M b1 b3 n (x4 + 1)) else (some 0)))))
def fm_is (M : Mem) (a1 : Int32) (a2 : Int32) (a3 : Nat) : Option Int32 := (if (a2 - a1) = (nI (svN.getD a3 0)) then (fm_is_L15 M a1 a3 FU 0) else (some 0))
def fm_wordAt (M : Mem) (a1 : Int32) (a2 : Int32) : Option Int32 := (Option.bind (fm_is M a1 a2 0) (fun r1 => (if r1 = 0 then (Option.bind (fm_is M a1 a2 1) (fun r2 => (if r2 = 0 then (Option.bind (fm_is M a1 a2 2) (fun r3 => (if r3 = 0 then (Option.bind (fm_is M a1 a2 3) (fun r4 => (if r4 = 0 then (Option.bind (fm_is M a1 a2 4) (fun r5 => (if r5 = 0 then (Option.bind (fm_is M a1 a2 5) (fun r6 => (if r6 = 0 then (Option.bind (fm_is M a1 a2 6) (fun r7 => (if r7 = 0 then (Option.bind (fm_is M a1 a2 7) (fun r8 => (if r8 = 0 then (Option.bind (fm_is M a1 a2 8) (fun r9 => (if r9 = 0 then (some (-1)) else (some 8)))) else (some 7)))) else (some 6)))) else (some 5)))) else (some 4)))) else (some 3)))) else (some 2)))) else (some 1)))) else (some 0))))
def fm_read_L2 (b1 : Int32) (kx27 : Mem → Option (Int32 × Mem)) : Nat → Int32 → Mem → Option (Int32 × Mem)
  | 0, _, _ => none
  | n + 1, x2, M => (if (9 : Int32) ≤ x2 then (kx27 M) else (gd (inb (b1 + x2) 54) (mlet (wI M 148 (ix (b1 + x2)) (fm_firstT M x2)) (fun M2 => (fm_read_L2 b1 kx27 n (x2 + 1) M2)))))
def fm_read_L156 (M : Mem) (b1 : Int32) (b2 : Int32) (b4 : Int32) (kx221 : Int32 → Int32 → Option (Int32 × Mem)) : Nat → Int32 → Int32 → Option (Int32 × Mem)
  | 0, _, _ => none
  | n + 1, x5, x6 => (if (M.1 138 8) ≤ x5 then (kx221 x5 x6) else (gd (inb x5 160) (if (M.1 147 (ix x5)) < (48 : Int32) then (kx221 x5 x6) else (gd (inb x5 160) (if (57 : Int32) < (M.1 147 (ix x5)) then (kx221 x5 x6) else (jlet (fun z215 : Int32 => (fm_read_L156 M b1 b2 b4 kx221 n (x5 + 1) z215)) (fun J215 => (if (2 : Int32) ≤ (x5 - b2) then (J215 x6) else (gd (inb x5 160) (ilet ((((10 : Int32) * x6) + (M.1 147 (ix x5))) - 48) (fun v10 => (J215 v10))))))))))))
def fm_read_L88 (M : Mem) (b1 : Int32) (b2 : Int32) (kx127 : Int32 → Option (Int32 × Mem)) : Nat → Int32 → Option (Int32 × Mem)
  | 0, _ => none
  | n + 1, x5 => (if (M.1 138 8) ≤ x5 then (kx127 x5) else (gd (inb x5 160) (if (M.1 147 (ix x5)) < (97 : Int32) then (kx127 x5) else (gd (inb x5 160) (if (122 : Int32) < (M.1 147 (ix x5)) then (kx127 x5) else (fm_read_L88 M b1 b2 kx127 n (x5 + 1)))))))
def fm_read_L34 (b1 : Int32) (kx67 : Int32 → Mem → Option (Int32 × Mem)) : Nat → Int32 → Int32 → Int32 → Mem → Option (Int32 × Mem)
  | 0, _, _, _, _ => none
  | n + 1, x2, x3, x4, M => (jlet (fun z59 : Unit => (if x2 = (M.1 138 8) then (kx67 x3 M) else (jlet (fun z284 : Int32 × Int32 × Int32 × Mem => (ilet (z284.2.2.1) (fun v4 => (fm_read_L34 b1 kx67 n v4 (z284.1) (z284.2.1) (z284.2.2.2))))) (fun J284 => (if x3 = 0 then (fm_read_L88 M b1 x2 (fun w17 => (Option.bind (fm_wordAt M x2 w17) (fun r18 => (if 0 ≤ r18 then (J284 (1, r18, w17, M)) else (some (x2, M)))))) FU x2) else (if x3 = (1 : Int32) then (fm_read_L156 M b1 x2 x4 (fun w11 w12 => (if w11 = x2 then (some (x2, M)) else (if (2 : Int32) < (w11 - x2) then (some (x2, M)) else (if (fm_mayBeT M x4 w12) = 0 then (some (x2, M)) else (gd (inb (b1 + x4) 54) (mlet (wI M 148 (ix (b1 + x4)) w12) (fun M14 => (J284 (2, x4, w11, M14))))))))) FU x2 0) else (gd (inb x2 160) (if (M.1 147 (ix x2)) = (59 : Int32) then (ilet (x2 + 1) (fun v6 => (J284 (0, x4, v6, M)))) else (some (x2, M)))))))))) (fun J59 => (if (M.1 138 8) ≤ x2 then (J59 ()) else (gd (inb x2 160) (if (M.1 147 (ix x2)) = (32 : Int32) then (fm_read_L34 b1 kx67 n (x2 + 1) x3 x4 M) else (J59 ()))))))
def fm_read (M : Mem) (a1 : Int32) : Option (Int32 × Mem) := (fm_read_L2 a1 (fun M3 => (fm_read_L34 a1 (fun w20 M21 => (if w20 = (2 : Int32) then (some ((-1), M21)) else (some ((M21.1 138 8), M21)))) FU 0 0 0 M3)) FU 0 M)
def fm_law (M : Mem) : Option (Int32 × Mem) := (if (M.1 156 (ix 1)) = (6 : Int32) then (Option.bind (fm_no M (-6)) (fun u12 => (some (u12.1, u12.2)))) else (Option.bind (fm_read M ((9 : Int32) * (M.1 156 (ix 1)))) (fun u4 => (mlet (wI u4.2 138 8 0) (fun M5 => (if u4.1 < 0 then (mlet (wI M5 156 (ix 1) ((M5.1 156 (ix 1)) + 1)) (fun M8 => (some ((M5.1 156 (ix 1)), M8)))) else (Option.bind (fm_no M5 (-2)) (fun u10 => (some ((((-20) : Int32) - u4.1), u10.2))))))))))
def fm_isLaw (M : Mem) (a1 : Int32) : Option Int32 := (if a1 < 0 then (some 0) else (if (M.1 156 (ix 1)) ≤ a1 then (some 0) else (some 1)))
def fm_isLawT (M : Mem) (a1 : Int32) : Int32 := (if a1 < 0 then (0) else (if (M.1 156 (ix 1)) ≤ a1 then (0) else (1)))
theorem fm_isLawE (M : Mem) (a1 : Int32) : fm_isLaw M a1 = some (fm_isLawT M a1) := by
  unfold fm_isLaw fm_isLawT
  repeat' split
  all_goals first | rfl | simp_all
theorem fm_isLawB (M : Mem) (a1 : Int32) : isB (fm_isLawT M a1) := by
  unfold fm_isLawT
  repeat' split
  all_goals first | exact Or.inl rfl | exact Or.inr rfl
def fm_lawOf (M : Mem) (a1 : Int32) (a2 : Int32) : Option (Int32 × Mem) := (if (fm_isLawT M a1) = 0 then (Option.bind (fm_no M (-2)) (fun u2 => (some (u2.1, u2.2)))) else (if a2 < 0 then (Option.bind (fm_no M (-2)) (fun u4 => (some (u4.1, u4.2)))) else (if a2 ≤ (8 : Int32) then (gd (inb (((9 : Int32) * a1) + a2) 54) (some ((M.1 148 (ix (((9 : Int32) * a1) + a2))), M))) else (Option.bind (fm_no M (-2)) (fun u7 => (some (u7.1, u7.2)))))))
def fm_force (M : Mem) (a1 : Int32) : Option (Int32 × Mem) := (if a1 = ((-1) : Int32) then (ilet (M.1 156 (ix 4)) (fun v2 => (mlet (wI M 156 (ix 4) a1) (fun M4 => (some (v2, M4)))))) else (if (fm_isLawT M a1) = 0 then (Option.bind (fm_no M (-2)) (fun u10 => (some (u10.1, u10.2)))) else (ilet (M.1 156 (ix 4)) (fun v6 => (mlet (wI M 156 (ix 4) a1) (fun M8 => (some (v6, M8))))))))
def fm_leaper (M : Mem) (a1 : Int32) : Option (Int32 × Mem) := (if a1 < 0 then (Option.bind (fm_no M (-2)) (fun u2 => (some (u2.1, u2.2)))) else (if a1 ≤ (99 : Int32) then (if (M.1 156 (ix 2)) = (6 : Int32) then (Option.bind (fm_no M (-6)) (fun u15 => (some (u15.1, u15.2)))) else (mlet (wI M 156 (ix 2) ((M.1 156 (ix 2)) + 1)) (fun M6 => (ilet (M.1 156 (ix 2)) (fun v7 => (gd (inb v7 6) (mlet (wI M6 149 (ix v7) a1) (fun M9 => (gd (inb v7 6) (mlet (wI M9 150 (ix v7) 0) (fun M11 => (gd (inb v7 6) (mlet (wI M11 151 (ix v7) 0) (fun M13 => (some (v7, M13)))))))))))))))) else (Option.bind (fm_no M (-2)) (fun u17 => (some (u17.1, u17.2))))))
def fm_isLeaper (M : Mem) (a1 : Int32) : Option Int32 := (if a1 < 0 then (some 0) else (if (M.1 156 (ix 2)) ≤ a1 then (some 0) else (some 1)))
def fm_isLeaperT (M : Mem) (a1 : Int32) : Int32 := (if a1 < 0 then (0) else (if (M.1 156 (ix 2)) ≤ a1 then (0) else (1)))
theorem fm_isLeaperE (M : Mem) (a1 : Int32) : fm_isLeaper M a1 = some (fm_isLeaperT M a1) := by
  unfold fm_isLeaper fm_isLeaperT
  repeat' split
  all_goals first | rfl | simp_all
theorem fm_isLeaperB (M : Mem) (a1 : Int32) : isB (fm_isLeaperT M a1) := by
  unfold fm_isLeaperT
  repeat' split
  all_goals first | exact Or.inl rfl | exact Or.inr rfl
def fm_leaperOf (M : Mem) (a1 : Int32) (a2 : Int32) : Option (Int32 × Mem) := (if (fm_isLeaperT M a1) = 0 then (Option.bind (fm_no M (-2)) (fun u2 => (some (u2.1, u2.2)))) else (if a2 < 0 then (Option.bind (fm_no M (-2)) (fun u4 => (some (u4.1, u4.2)))) else (if a2 ≤ (2 : Int32) then (if a2 = 0 then (gd (inb a1 6) (some ((M.1 149 (ix a1)), M))) else (if a2 = (1 : Int32) then (gd (inb a1 6) (some ((M.1 150 (ix a1)), M))) else (gd (inb a1 6) (some ((M.1 151 (ix a1)), M))))) else (Option.bind (fm_no M (-2)) (fun u9 => (some (u9.1, u9.2)))))))
def fm_tried (M : Mem) (a1 : Int32) (a2 : Int32) (a3 : Int32) : Option (Int32 × Mem) := (if (fm_isLeaperT M a1) = 0 then (Option.bind (fm_no M (-2)) (fun u2 => (some (u2.1, u2.2)))) else (if a2 < (1 : Int32) then (Option.bind (fm_no M (-2)) (fun u4 => (some (u4.1, u4.2)))) else (if (99 : Int32) < a2 then (Option.bind (fm_no M (-2)) (fun u6 => (some (u6.1, u6.2)))) else (if a3 < 0 then (Option.bind (fm_no M (-2)) (fun u8 => (some (u8.1, u8.2)))) else (if a3 ≤ a2 then (gd (inb a1 6) (gd (inb a1 6) (mlet (wI M 150 (ix a1) ((M.1 150 (ix a1)) + a2)) (fun M11 => (gd (inb a1 6) (gd (inb a1 6) (mlet (wI M11 151 (ix a1) ((M11.1 151 (ix a1)) + a3)) (fun M14 => (gd (inb a1 6) (some ((M14.1 150 (ix a1)), M14))))))))))) else (Option.bind (fm_no M (-2)) (fun u17 => (some (u17.1, u17.2)))))))))
def fm_learntBy (M : Mem) (a1 : Int32) : Option Int32 := (gd (inb a1 6) (gd (inb a1 6) (gd (inb a1 6) (gd (¬ ((M.1 150 (ix a1)) + 1) = 0) (ilet ((((100 : Int32) * ((M.1 150 (ix a1)) - (M.1 151 (ix a1)))) + 50) / ((M.1 150 (ix a1)) + 1)) (fun v4 => (if v4 ≤ (99 : Int32) then (some v4) else (some 99))))))))
def fm_learnt (M : Mem) (a1 : Int32) : Option (Int32 × Mem) := (if (fm_isLeaperT M a1) = 0 then (Option.bind (fm_no M (-2)) (fun u3 => (some (u3.1, u3.2)))) else (Option.bind (fm_learntBy M a1) (fun r1 => (some (r1, M)))))
def fm_learn (M : Mem) (a1 : Int32) : Option (Int32 × Mem) := (if (fm_isLeaperT M a1) = 0 then (Option.bind (fm_no M (-2)) (fun u7 => (some (u7.1, u7.2)))) else (gd (inb a1 6) (ilet (M.1 149 (ix a1)) (fun v2 => (Option.bind (fm_learntBy M a1) (fun r3 => (gd (inb a1 6) (mlet (wI M 149 (ix a1) r3) (fun M5 => (some (v2, M5)))))))))))
def fm_riskOf (M : Mem) (a1 : Int32) (a2 : Int32) (a3 : Int32) : Option Int32 := (Option.bind (fm_isOut M a2 (M.1 156 (ix 5))) (fun r2 => (if r2 = 0 then (Option.bind (fm_isTime M a2) (fun r3 => (if r3 = 0 then (some 1000) else (Option.bind (fm_riseAt M a2 (M.1 156 (ix 5))) (fun r5 => (ilet (r5 - (fm_deckT M)) (fun v6 => (Option.bind (fm_says1 M 4) (fun r7 => (jlet (fun z62 : Int32 => (Option.bind (fm_says1 M 5) (fun r8 => (gd (inb a2 20) (Option.bind (fm_says1 M 6) (fun r10 => (gd (inb a3 12) (Option.bind (fm_says1 M 7) (fun r12 => (gd (inb a1 6) (ilet ((((r7 * z62) + (r8 * (M.1 146 (ix a2)))) + (r10 * (M.1 155 (ix a3)))) - (r12 * (M.1 149 (ix a1)))) (fun v14 => (if 0 ≤ v14 then (if v14 ≤ (1000 : Int32) then (some v14) else (some 1000)) else (some 0)))))))))))))) (fun J62 => (if 0 ≤ v6 then (J62 v6) else (J62 (-v6)))))))))))))) else (some 1000))))
def fm_risk (M : Mem) (a1 : Int32) (a2 : Int32) (a3 : Int32) : Option (Int32 × Mem) := (if (fm_isLeaperT M a1) = 0 then (Option.bind (fm_no M (-2)) (fun u2 => (some (u2.1, u2.2)))) else (if (fm_isJettyT M a2) = 0 then (Option.bind (fm_no M (-2)) (fun u4 => (some (u4.1, u4.2)))) else (if (fm_isHourT M a3) = 0 then (Option.bind (fm_no M (-2)) (fun u7 => (some (u7.1, u7.2)))) else (Option.bind (fm_riskOf M a1 a2 a3) (fun r5 => (some (r5, M)))))))
def fm_calm_L28 (M : Mem) (b1 : Int32) (b2 : Int32) : Nat → Int32 → Int32 → Option (Int32 × Mem)
  | 0, _, _ => none
  | n + 1, x3, x4 => (if (12 : Int32) ≤ x4 then (some (x3, M)) else (Option.bind (fm_riskOf M b1 b2 x4) (fun r3 => (Option.bind (fm_riskOf M b1 b2 x3) (fun r4 => (jlet (fun z56 : Int32 => (fm_calm_L28 M b1 b2 n z56 (x4 + 1))) (fun J56 => (if r4 ≤ r3 then (J56 x3) else (J56 x4)))))))))
def fm_calm (M : Mem) (a1 : Int32) (a2 : Int32) : Option (Int32 × Mem) := (if (fm_isLeaperT M a1) = 0 then (Option.bind (fm_no M (-2)) (fun u2 => (some (u2.1, u2.2)))) else (if (fm_isJettyT M a2) = 0 then (Option.bind (fm_no M (-2)) (fun u6 => (some (u6.1, u6.2)))) else (fm_calm_L28 M a1 a2 FU 0 1)))
def fm_legAt (M : Mem) (a1 : Int32) (a2 : Int32) (a3 : Int32) : Option Int32 := (ilet ((a1 / 16) - (a2 / 16)) (fun v1 => (ilet ((a1 - a1 / 16 * 16) - (a2 - a2 / 16 * 16)) (fun v2 => (jlet (fun z35 : Int32 => (if 0 ≤ v2 then (ilet (z35 + v2) (fun v3 => (Option.bind (fm_says1 M 8) (fun r4 => (gd (¬ a3 = 0) (some ((((r4 * v3) + a3) - 1) / a3))))))) else (ilet (z35 + (-v2)) (fun v5 => (Option.bind (fm_says1 M 8) (fun r6 => (gd (¬ a3 = 0) (some ((((r6 * v5) + a3) - 1) / a3))))))))) (fun J35 => (if 0 ≤ v1 then (J35 v1) else (J35 (-v1)))))))))
def fm_legOf (M : Mem) (a1 : Int32) (a2 : Int32) : Option Int32 := (Option.bind (fm_says1 M 1) (fun r1 => (Option.bind (fm_legAt M a1 a2 r1) (fun r2 => (some r2)))))
def fm_leg (M : Mem) (a1 : Int32) (a2 : Int32) : Option (Int32 × Mem) := (if (fm_isSpotT M a1) = 0 then (Option.bind (fm_no M (-2)) (fun u2 => (some (u2.1, u2.2)))) else (if (fm_isSpotT M a2) = 0 then (Option.bind (fm_no M (-2)) (fun u5 => (some (u5.1, u5.2)))) else (Option.bind (fm_legOf M a1 a2) (fun r3 => (some (r3, M))))))
def fm_take_L28 (b1 : Int32) (b2 : Int32) : Nat → Int32 → Mem → Option (Int32 × Mem)
  | 0, _, _ => none
  | n + 1, x4, M => (if b2 ≤ x4 then (some (0, M)) else (gd (inb (((40 : Int32) * b1) + x4) 320) (llet (M.2 141 (ix (((40 : Int32) * b1) + x4))) (fun v4 => (if (lg_cmp v4 0) < 0 then (some ((-2), M)) else (if (lg_cmp v4 (Int32.toInt64 (M.1 156 (ix 0)))) < 0 then (gd (inb x4 20) (mlet (wI M 160 (ix x4) (Int64.toInt32 v4)) (fun M7 => (fm_take_L28 b1 b2 n (x4 + 1) M7)))) else (some ((-2), M))))))))
def fm_take (M : Mem) (a1 : Int32) (a2 : Int32) : Option (Int32 × Mem) := (Option.bind (fm_noRow M a1) (fun r1 => (if 0 ≤ r1 then (gd (inb a1 8) (if a2 ≤ (M.1 140 (ix a1)) then (fm_take_L28 a1 a2 FU 0 M) else (some ((-2), M)))) else (some (r1, M)))))
def fm_endOfTour_L13 (M : Mem) (b1 : Int32) : Nat → Int32 → Int32 → Int32 → Option Int32
  | 0, _, _, _ => none
  | n + 1, x2, x3, x4 => (if b1 ≤ x4 then (some x2) else (gd (inb x4 20) (gd (inb (M.1 160 (ix x4)) 20) (Option.bind (fm_legOf M x3 (M.1 143 (ix (M.1 160 (ix x4))))) (fun r5 => (jlet (fun z47 : Int32 => (ilet (x2 + (r5 + z47)) (fun v6 => (gd (inb x4 20) (gd (inb (M.1 160 (ix x4)) 20) (ilet (M.1 143 (ix (M.1 160 (ix x4)))) (fun v9 => (fm_endOfTour_L13 M b1 n v6 v9 (x4 + 1))))))))) (fun J47 => (if x4 ≤ 0 then (J47 0) else (J47 1)))))))))
def fm_endOfTour (M : Mem) (a1 : Int32) : Option Int32 := (ilet (M.1 156 (ix 7)) (fun v2 => (fm_endOfTour_L13 M a1 FU 0 v2 0)))
def fm_hourOf (M : Mem) (a1 : Int32) : Option Int32 := (if a1 < (660 : Int32) then (some (a1 / 60)) else (some 11))
def fm_hourOfT (M : Mem) (a1 : Int32) : Int32 := (if a1 < (660 : Int32) then ((a1 / 60)) else (11))
theorem fm_hourOfE (M : Mem) (a1 : Int32) : fm_hourOf M a1 = some (fm_hourOfT M a1) := by
  unfold fm_hourOf fm_hourOfT
  repeat' split
  all_goals first | rfl | simp_all
def fm_riskOfTour_L17 (M : Mem) (b1 : Int32) (b2 : Int32) : Nat → Int32 → Int32 → Int32 → Int32 → Option Int32
  | 0, _, _, _, _ => none
  | n + 1, x3, x4, x5, x6 => (if b2 ≤ x6 then (some x3) else (gd (inb x6 20) (ilet (M.1 160 (ix x6)) (fun v4 => (gd (inb v4 20) (Option.bind (fm_legOf M x5 (M.1 143 (ix v4))) (fun r6 => (ilet (x4 + r6) (fun v7 => (Option.bind (fm_riskOf M b1 v4 (fm_hourOfT M v7)) (fun r8 => (ilet (x3 + r8) (fun v9 => (ilet (v7 + 1) (fun v10 => (gd (inb v4 20) (ilet (M.1 143 (ix v4)) (fun v12 => (fm_riskOfTour_L17 M b1 b2 n v9 v10 v12 (x6 + 1))))))))))))))))))))
def fm_riskOfTour (M : Mem) (a1 : Int32) (a2 : Int32) : Option Int32 := (ilet (M.1 156 (ix 7)) (fun v2 => (fm_riskOfTour_L17 M a1 a2 FU 0 0 v2 0)))
def fm_round_L94 (M : Mem) (b3 : Int32) : Nat → Int32 → Int32 → Option (Int32 × Mem)
  | 0, _, _ => none
  | n + 1, x6, x7 => (if b3 ≤ x7 then (some (x6, M)) else (gd (inb x7 20) (Option.bind (fm_isOut M (M.1 160 (ix x7)) (M.1 156 (ix 5))) (fun r15 => (jlet (fun z137 : Int32 => (fm_round_L94 M b3 n z137 (x7 + 1))) (fun J137 => (jlet (fun z134 : Unit => (J137 (x6 + 1))) (fun J134 => (if r15 = 0 then (gd (inb x7 20) (Option.bind (fm_isTime M (M.1 160 (ix x7))) (fun r17 => (if r17 = 0 then (J134 ()) else (J137 x6))))) else (J134 ()))))))))))
def fm_round (M : Mem) (a1 : Int32) (a2 : Int32) (a3 : Int32) (a4 : Int32) : Option (Int32 × Mem) := (if (fm_isLeaperT M a1) = 0 then (Option.bind (fm_no M (-2)) (fun u2 => (some (u2.1, u2.2)))) else (if (fm_isShelfT M a2) = 0 then (Option.bind (fm_no M (-2)) (fun u4 => (some (u4.1, u4.2)))) else (if a3 < 0 then (Option.bind (fm_no M (-2)) (fun u6 => (some (u6.1, u6.2)))) else (if (20 : Int32) < a3 then (Option.bind (fm_no M (-2)) (fun u8 => (some (u8.1, u8.2)))) else (if a4 < 0 then (Option.bind (fm_no M (-2)) (fun u10 => (some (u10.1, u10.2)))) else (if a4 ≤ (2 : Int32) then (Option.bind (fm_take M a2 a3) (fun u12 => (if 0 ≤ u12.1 then (if a4 = 0 then (Option.bind (fm_riskOfTour u12.2 a1 a3) (fun r19 => (some (r19, u12.2)))) else (if a4 = (1 : Int32) then (Option.bind (fm_endOfTour u12.2 a3) (fun r18 => (some (r18, u12.2)))) else (fm_round_L94 u12.2 a3 FU 0 0))) else (Option.bind (fm_no u12.2 u12.1) (fun u21 => (some (u21.1, u21.2))))))) else (Option.bind (fm_no M (-2)) (fun u23 => (some (u23.1, u23.2))))))))))
def fm_membersOf_L21 (b1 : Int32) : Nat → Int32 → Int32 → Mem → Option (Int32 × Mem)
  | 0, _, _, _ => none
  | n + 1, x2, x3, M => (if (M.1 156 (ix 0)) ≤ x3 then (some (x2, M)) else (jlet (fun z60 : Int32 × Mem => (fm_membersOf_L21 b1 n (z60.1) (x3 + 1) (z60.2))) (fun J60 => (if ((b1 >>> (x3 &&& 31)) &&& 1) = 0 then (J60 (x2, M)) else (if x2 = (6 : Int32) then (some ((-1), M)) else (gd (inb x2 6) (mlet (wI M 162 (ix x2) x3) (fun M4 => (J60 ((x2 + 1), M4))))))))))
def fm_membersOf (M : Mem) (a1 : Int32) : Option (Int32 × Mem) := (if a1 < 0 then (some ((-1), M)) else (if (a1 >>> ((M.1 156 (ix 0)) &&& 31)) = 0 then (fm_membersOf_L21 a1 FU 0 0 M) else (some ((-1), M))))
def fm_nextOrder_L4 (M : Mem) (b1 : Int32) (kx31 : Int32 → Option (Int32 × Mem)) : Nat → Int32 → Option (Int32 × Mem)
  | 0, _ => none
  | n + 1, x2 => (if x2 < 0 then (kx31 x2) else (gd (inb x2 6) (gd (inb (x2 + 1) 6) (if (M.1 161 (ix x2)) ≤ (M.1 161 (ix (x2 + 1))) then (kx31 x2) else (fm_nextOrder_L4 M b1 kx31 n (x2 + (-1)))))))
def fm_nextOrder_L41 (M : Mem) (b1 : Int32) (b2 : Int32) (kx62 : Int32 → Option (Int32 × Mem)) : Nat → Int32 → Option (Int32 × Mem)
  | 0, _ => none
  | n + 1, x3 => (gd (inb x3 6) (gd (inb b2 6) (if (M.1 161 (ix b2)) ≤ (M.1 161 (ix x3)) then (kx62 x3) else (fm_nextOrder_L41 M b1 b2 kx62 n (x3 + (-1))))))
def fm_nextOrder_L100 : Nat → Int32 → Int32 → Mem → Option (Int32 × Mem)
  | 0, _, _, _ => none
  | n + 1, x5, x6, M => (if x6 ≤ x5 then (some (1, M)) else (gd (inb x5 6) (ilet (M.1 161 (ix x5)) (fun v19 => (gd (inb x6 6) (gd (inb x5 6) (mlet (wI M 161 (ix x5) (M.1 161 (ix x6))) (fun M22 => (gd (inb x6 6) (mlet (wI M22 161 (ix x6) v19) (fun M24 => (fm_nextOrder_L100 n (x5 + 1) (x6 + (-1)) M24))))))))))))
def fm_nextOrder (M : Mem) (a1 : Int32) : Option (Int32 × Mem) := (ilet (a1 - 2) (fun v1 => (fm_nextOrder_L4 M a1 (fun w4 => (if 0 ≤ w4 then (ilet (a1 - 1) (fun v5 => (fm_nextOrder_L41 M a1 w4 (fun w8 => (gd (inb w4 6) (ilet (M.1 161 (ix w4)) (fun v10 => (gd (inb w8 6) (gd (inb w4 6) (mlet (wI M 161 (ix w4) (M.1 161 (ix w8))) (fun M13 => (gd (inb w8 6) (mlet (wI M13 161 (ix w8) v10) (fun M15 => (ilet (w4 + 1) (fun v16 => (ilet (a1 - 1) (fun v17 => (fm_nextOrder_L100 FU v16 v17 M15)))))))))))))))) FU v5))) else (some (0, M)))) FU v1)))
def fm_best_L82 (b1 : Int32) (b3 : Int32) (b4 : Int32) (b5 : Int32) (kx104 : Mem → Option (Int32 × Mem)) : Nat → Int32 → Mem → Option (Int32 × Mem)
  | 0, _, _ => none
  | n + 1, x8, M => (if b5 ≤ x8 then (kx104 M) else (gd (inb x8 6) (mlet (wI M 161 (ix x8) x8) (fun M10 => (fm_best_L82 b1 b3 b4 b5 kx104 n (x8 + 1) M10)))))
def fm_best_L115 (b1 : Int32) (b3 : Int32) (b4 : Int32) (b5 : Int32) (b6 : Int32) (b7 : Int32) (kx147 : Mem → Option (Int32 × Mem)) : Nat → Int32 → Mem → Option (Int32 × Mem)
  | 0, _, _ => none
  | n + 1, x9, M => (if b5 ≤ x9 then (kx147 M) else (gd (inb x9 6) (gd (inb (M.1 161 (ix x9)) 6) (gd (inb x9 20) (mlet (wI M 160 (ix x9) (M.1 162 (ix (M.1 161 (ix x9))))) (fun M15 => (fm_best_L115 b1 b3 b4 b5 b6 b7 kx147 n (x9 + 1) M15)))))))
def fm_best_L207 (b1 : Int32) (b3 : Int32) (b4 : Int32) (b5 : Int32) (b6 : Int32) (b7 : Int32) (kx234 : Mem → Option (Int32 × Mem)) : Nat → Int32 → Mem → Option (Int32 × Mem)
  | 0, _, _ => none
  | n + 1, x11, M => (if b5 ≤ x11 then (kx234 M) else (gd (inb x11 20) (gd (inb x11 6) (mlet (wI M 163 (ix x11) (M.1 160 (ix x11))) (fun M23 => (fm_best_L207 b1 b3 b4 b5 b6 b7 kx234 n (x11 + 1) M23))))))
def fm_best_L107 (b1 : Int32) (b3 : Int32) (b4 : Int32) (b5 : Int32) (kx245 : Int32 → Int32 → Mem → Option (Int32 × Mem)) : Nat → Int32 → Int32 → Int32 → Mem → Option (Int32 × Mem)
  | 0, _, _, _, _ => none
  | n + 1, x6, x7, x8, M => (if x8 = 0 then (kx245 x6 x7 M) else (fm_best_L115 b1 b3 b4 b5 x6 x7 (fun M16 => (Option.bind (fm_endOfTour M16 b5) (fun r17 => (jlet (fun z234 : Int32 × Int32 × Mem => (Option.bind (fm_nextOrder (z234.2.2) b5) (fun u19 => (fm_best_L107 b1 b3 b4 b5 kx245 n (z234.1) (z234.2.1) u19.1 u19.2)))) (fun J234 => (if b3 < r17 then (J234 (x6, x7, M16)) else (Option.bind (fm_riskOfTour M16 b1 b5) (fun r20 => (jlet (fun z196 : Unit => (fm_best_L207 b1 b3 b4 b5 r20 r17 (fun M24 => (J234 (r20, r17, M24))) FU 0 M16)) (fun J196 => (if x6 < 0 then (J196 ()) else (if r20 < x6 then (J196 ()) else (if r20 = x6 then (if x7 ≤ r17 then (J234 (x6, x7, M16)) else (J196 ())) else (J234 (x6, x7, M16))))))))))))))) FU 0 M))
def fm_best (M : Mem) (a1 : Int32) (a2 : Int32) (a3 : Int32) (a4 : Int32) : Option (Int32 × Mem) := (Option.bind (fm_membersOf M a2) (fun u2 => (if (fm_isLeaperT u2.2 a1) = 0 then (Option.bind (fm_no u2.2 (-2)) (fun u4 => (some (u4.1, u4.2)))) else (if u2.1 < 0 then (Option.bind (fm_no u2.2 (-2)) (fun u6 => (some (u6.1, u6.2)))) else (if a3 < 0 then (Option.bind (fm_no u2.2 (-2)) (fun u8 => (some (u8.1, u8.2)))) else (if a3 ≤ (999 : Int32) then (jlet (fun z73 : Unit => (fm_best_L82 a1 a3 a4 u2.1 (fun M11 => (fm_best_L107 a1 a3 a4 u2.1 (fun w25 w26 M27 => (if 0 ≤ w25 then (if a4 = 0 then (some (w25, M27)) else (if a4 = (1 : Int32) then (some (w26, M27)) else (gd (inb (a4 - 10) 6) (some ((M27.1 163 (ix (a4 - 10))), M27))))) else (Option.bind (fm_no M27 (-5)) (fun u30 => (some (u30.1, u30.2)))))) FU (-1) 0 1 M11)) FU 0 u2.2)) (fun J73 => (if a4 = 0 then (J73 ()) else (if a4 = (1 : Int32) then (J73 ()) else (if a4 < (10 : Int32) then (Option.bind (fm_no u2.2 (-2)) (fun u32 => (some (u32.1, u32.2)))) else (if a4 < ((10 : Int32) + u2.1) then (J73 ()) else (Option.bind (fm_no u2.2 (-2)) (fun u34 => (some (u34.1, u34.2)))))))))) else (Option.bind (fm_no u2.2 (-2)) (fun u36 => (some (u36.1, u36.2))))))))))
def fm_team_L95 (M : Mem) (b2 : Int32) (b3 : Int32) (b4 : Int32) (b5 : Int32) (kx119 : Int32 → Option (Int32 × Mem)) : Nat → Int32 → Int32 → Option (Int32 × Mem)
  | 0, _, _ => none
  | n + 1, x6, x7 => (if b5 ≤ x7 then (kx119 x6) else (ilet (x6 * (M.1 156 (ix 2))) (fun v11 => (fm_team_L95 M b2 b3 b4 b5 kx119 n v11 (x7 + 1)))))
def fm_team_L148 (b2 : Int32) (b3 : Int32) (b4 : Int32) (b5 : Int32) (b6 : Int32) (b7 : Int32) (b8 : Int32) (kx220 : Int64 → Int32 → Mem → Option (Int32 × Mem)) : Nat → Int32 → Int64 → Int32 → Int32 → Mem → Option (Int32 × Mem)
  | 0, _, _, _, _, _ => none
  | n + 1, x9, x10, x12, x13, M => (if x13 < 0 then (kx220 x10 x12 M) else (gd (¬ (M.1 156 (ix 2)) = 0) (ilet (x9 - x9 / (M.1 156 (ix 2)) * (M.1 156 (ix 2))) (fun v15 => (gd (¬ (M.1 156 (ix 2)) = 0) (ilet (x9 / (M.1 156 (ix 2))) (fun v17 => (gd (inb x13 6) (mlet (wI M 161 (ix x13) v15) (fun M19 => (llet (x10 + ((1 : Int64) <<< (Int32.toInt64 ((4 : Int32) * v15) &&& 63))) (fun v20 => (gd (inb x13 6) (Option.bind (fm_riskOf M19 v15 (M19.1 162 (ix x13)) b3) (fun r22 => (ilet (x12 + r22) (fun v23 => (fm_team_L148 b2 b3 b4 b5 b6 b7 b8 kx220 n v17 v20 v23 (x13 + (-1)) M19))))))))))))))))))
def fm_team_L242 (M : Mem) (b2 : Int32) (b3 : Int32) (b4 : Int32) (b5 : Int32) (b6 : Int32) (b7 : Int32) (b8 : Int32) (b10 : Int64) (b12 : Int32) (kx284 : Int32 → Option (Int32 × Mem)) : Nat → Int32 → Int32 → Option (Int32 × Mem)
  | 0, _, _ => none
  | n + 1, x13, x14 => (if (M.1 156 (ix 2)) ≤ x14 then (kx284 x13) else (if x13 = 0 then (kx284 x13) else (jlet (fun z278 : Int32 => (fm_team_L242 M b2 b3 b4 b5 b6 b7 b8 b10 b12 kx284 n z278 (x14 + 1))) (fun J278 => (if (lg_cmp ((b10 >>> (Int32.toInt64 ((4 : Int32) * x14) &&& 63)) &&& 15) (Int32.toInt64 b2)) ≤ 0 then (J278 x13) else (J278 0))))))
def fm_team_L299 (b2 : Int32) (b3 : Int32) (b4 : Int32) (b5 : Int32) (b6 : Int32) (b7 : Int32) (b8 : Int32) (kx326 : Mem → Option (Int32 × Mem)) : Nat → Int32 → Mem → Option (Int32 × Mem)
  | 0, _, _ => none
  | n + 1, x14, M => (if b5 ≤ x14 then (kx326 M) else (gd (inb x14 6) (gd (inb x14 6) (mlet (wI M 163 (ix x14) (M.1 161 (ix x14))) (fun M31 => (fm_team_L299 b2 b3 b4 b5 b6 b7 b8 kx326 n (x14 + 1) M31))))))
def fm_team_L125 (b2 : Int32) (b3 : Int32) (b4 : Int32) (b5 : Int32) (b6 : Int32) (kx332 : Int32 → Mem → Option (Int32 × Mem)) : Nat → Int32 → Int32 → Mem → Option (Int32 × Mem)
  | 0, _, _, _ => none
  | n + 1, x7, x8, M => (if b6 ≤ x8 then (kx332 x7 M) else (ilet (b5 - 1) (fun v13 => (fm_team_L148 b2 b3 b4 b5 b6 x7 x8 (fun w24 w25 M26 => (jlet (fun z237 : Int32 => (fm_team_L242 M26 b2 b3 b4 b5 b6 x7 x8 w24 w25 (fun w28 => (jlet (fun z326 : Int32 × Mem => (fm_team_L125 b2 b3 b4 b5 b6 kx332 n (z326.1) (x8 + 1) (z326.2))) (fun J326 => (if w28 = 0 then (J326 (x7, M26)) else (fm_team_L299 b2 b3 b4 b5 b6 w25 x8 (fun M32 => (J326 (w25, M32))) FU 0 M26))))) FU z237 0)) (fun J237 => (jlet (fun z232 : Unit => (J237 1)) (fun J232 => (if x7 < 0 then (J232 ()) else (if x7 ≤ w25 then (J237 0) else (J232 ())))))))) FU x8 0 0 v13 M))))
def fm_team_L346 (M : Mem) (b4 : Int32) (b5 : Int32) : Nat → Int32 → Int32 → Option (Int32 × Mem)
  | 0, _, _ => none
  | n + 1, x8, x9 => (if b5 ≤ x9 then (some (x8, M)) else (gd (inb x9 6) (jlet (fun z374 : Int32 => (fm_team_L346 M b4 b5 n z374 (x9 + 1))) (fun J374 => (if (M.1 162 (ix x9)) = b4 then (gd (inb x9 6) (ilet (M.1 163 (ix x9)) (fun v37 => (J374 v37)))) else (J374 x8))))))
def fm_team (M : Mem) (a1 : Int32) (a2 : Int32) (a3 : Int32) (a4 : Int32) : Option (Int32 × Mem) := (Option.bind (fm_membersOf M a1) (fun u2 => (if u2.1 < 0 then (Option.bind (fm_no u2.2 (-2)) (fun u4 => (some (u4.1, u4.2)))) else (if a2 < (1 : Int32) then (Option.bind (fm_no u2.2 (-2)) (fun u6 => (some (u6.1, u6.2)))) else (if (6 : Int32) < a2 then (Option.bind (fm_no u2.2 (-2)) (fun u8 => (some (u8.1, u8.2)))) else (if (fm_isHourT u2.2 a3) = 0 then (Option.bind (fm_no u2.2 (-2)) (fun u45 => (some (u45.1, u45.2)))) else (jlet (fun z69 : Unit => (if u2.1 ≤ ((u2.2.1 156 (ix 2)) * a2) then (fm_team_L95 u2.2 a2 a3 a4 u2.1 (fun w12 => (fm_team_L125 a2 a3 a4 u2.1 w12 (fun w33 M34 => (if 0 ≤ a4 then (fm_team_L346 M34 a4 u2.1 FU (-1) 0) else (some (w33, M34)))) FU (-1) 0 u2.2)) FU 1 0) else (Option.bind (fm_no u2.2 (-5)) (fun u39 => (some (u39.1, u39.2)))))) (fun J69 => (if a4 = ((-1) : Int32) then (J69 ()) else (if (fm_isJettyT u2.2 a4) = 0 then (Option.bind (fm_no u2.2 (-2)) (fun u41 => (some (u41.1, u41.2)))) else (if ((a1 >>> (a4 &&& 31)) &&& 1) = 0 then (Option.bind (fm_no u2.2 (-2)) (fun u43 => (some (u43.1, u43.2)))) else (J69 ()))))))))))))
def fm_safest_L44 (M : Mem) (b1 : Int32) (b2 : Int32) : Nat → Int32 → Int32 → Option (Int32 × Mem)
  | 0, _, _ => none
  | n + 1, x3, x4 => (if (M.1 156 (ix 2)) ≤ x4 then (some (x3, M)) else (Option.bind (fm_riskOf M x4 b1 b2) (fun r5 => (Option.bind (fm_riskOf M x3 b1 b2) (fun r6 => (jlet (fun z76 : Int32 => (fm_safest_L44 M b1 b2 n z76 (x4 + 1))) (fun J76 => (if r6 ≤ r5 then (J76 x3) else (J76 x4)))))))))
def fm_safest (M : Mem) (a1 : Int32) (a2 : Int32) : Option (Int32 × Mem) := (if (fm_isJettyT M a1) = 0 then (Option.bind (fm_no M (-2)) (fun u2 => (some (u2.1, u2.2)))) else (if (fm_isHourT M a2) = 0 then (Option.bind (fm_no M (-2)) (fun u10 => (some (u10.1, u10.2)))) else (if (M.1 156 (ix 2)) = 0 then (Option.bind (fm_no M (-5)) (fun u8 => (some (u8.1, u8.2)))) else (fm_safest_L44 M a1 a2 FU 0 1))))
def fm_missed_L99 (M : Mem) (b1 : Int32) (b3 : Int32) (b4 : Int32) (b5 : Int32) (kx227 : Int32 → Int32 → Int32 → Int32 → Option (Int32 × Mem)) : Nat → Int32 → Int32 → Int32 → Int32 → Int32 → Int32 → Option (Int32 × Mem)
  | 0, _, _, _, _, _, _ => none
  | n + 1, x7, x8, x9, x10, x11, x12 => (if b3 ≤ x12 then (kx227 x7 x8 x9 x10) else (gd (inb x12 20) (gd (inb (M.1 160 (ix x12)) 20) (Option.bind (fm_legOf M x11 (M.1 143 (ix (M.1 160 (ix x12))))) (fun r21 => (jlet (fun z135 : Int32 => (ilet (x7 + (r21 + z135)) (fun v22 => (gd (inb x12 20) (gd (inb (M.1 160 (ix x12)) 20) (ilet (M.1 143 (ix (M.1 160 (ix x12)))) (fun v25 => (ilet (fm_hourOfT M (v22 + x8)) (fun v26 => (gd (inb x12 20) (Option.bind (fm_riskOf M b1 (M.1 160 (ix x12)) v26) (fun r28 => (ilet (x9 + r28) (fun v29 => (jlet (fun z197 : Int32 => (jlet (fun z221 : Int32 => (fm_missed_L99 M b1 b3 b4 b5 kx227 n v22 z221 v29 z197 v25 (x12 + 1))) (fun J221 => (if x12 = b4 then (if (b3 - 1) ≤ x12 then (J221 x8) else (Option.bind (fm_says1 M 1) (fun r30 => (ilet ((3 : Int32) * r30) (fun v31 => (J221 v31)))))) else (J221 x8))))) (fun J197 => (if v26 ≤ (fm_hourOfT M v22) then (J197 x10) else (J197 (x10 + 1))))))))))))))))))) (fun J135 => (if x12 ≤ 0 then (J135 0) else (J135 1)))))))))
def fm_missed (M : Mem) (a1 : Int32) (a2 : Int32) (a3 : Int32) (a4 : Int32) (a5 : Int32) : Option (Int32 × Mem) := (if (fm_isLeaperT M a1) = 0 then (Option.bind (fm_no M (-2)) (fun u2 => (some (u2.1, u2.2)))) else (if (fm_isShelfT M a2) = 0 then (Option.bind (fm_no M (-2)) (fun u4 => (some (u4.1, u4.2)))) else (if a3 < 0 then (Option.bind (fm_no M (-2)) (fun u6 => (some (u6.1, u6.2)))) else (if (20 : Int32) < a3 then (Option.bind (fm_no M (-2)) (fun u8 => (some (u8.1, u8.2)))) else (if a4 < 0 then (Option.bind (fm_no M (-2)) (fun u10 => (some (u10.1, u10.2)))) else (if a3 ≤ a4 then (Option.bind (fm_no M (-2)) (fun u12 => (some (u12.1, u12.2)))) else (if a5 < 0 then (Option.bind (fm_no M (-2)) (fun u14 => (some (u14.1, u14.2)))) else (if a5 ≤ (2 : Int32) then (Option.bind (fm_take M a2 a3) (fun u16 => (if 0 ≤ u16.1 then (ilet (u16.2.1 156 (ix 7)) (fun v18 => (fm_missed_L99 u16.2 a1 a3 a4 a5 (fun w32 w33 w34 w35 => (if a5 = 0 then (some ((w32 + w33), u16.2)) else (if a5 = (1 : Int32) then (some (w34, u16.2)) else (some (w35, u16.2))))) FU 0 0 0 0 v18 0))) else (Option.bind (fm_no u16.2 u16.1) (fun u37 => (some (u37.1, u37.2))))))) else (Option.bind (fm_no M (-2)) (fun u39 => (some (u39.1, u39.2))))))))))))
def fm_pilot_L91 (M : Mem) (b2 : Int32) (b3 : Int32) (b5 : Int32) (kx142 : Int32 → Option (Int32 × Mem)) : Nat → Int32 → Int32 → Int32 → Option (Int32 × Mem)
  | 0, _, _, _ => none
  | n + 1, x6, x7, x8 => (if b2 ≤ x8 then (kx142 x6) else (gd (inb x8 20) (gd (inb (M.1 160 (ix x8)) 20) (Option.bind (fm_legAt M x7 (M.1 143 (ix (M.1 160 (ix x8)))) b5) (fun r15 => (ilet (x6 + r15) (fun v16 => (gd (inb x8 20) (gd (inb (M.1 160 (ix x8)) 20) (ilet (M.1 143 (ix (M.1 160 (ix x8)))) (fun v19 => (fm_pilot_L91 M b2 b3 b5 kx142 n v16 v19 (x8 + 1)))))))))))))
def fm_pilot_L59 (M : Mem) (b2 : Int32) (b3 : Int32) : Nat → Int32 → Option (Int32 × Mem)
  | 0, _ => none
  | n + 1, x5 => (if (10 : Int32) ≤ x5 then (some ((-1), M)) else (jlet (fun z77 : Int32 => (ilet (M.1 156 (ix 7)) (fun v12 => (fm_pilot_L91 M b2 b3 x5 (fun w20 => (if b3 < w20 then (fm_pilot_L59 M b2 b3 n (x5 + 1)) else (some (x5, M)))) FU z77 v12 0)))) (fun J77 => (if b2 ≤ 0 then (J77 0) else (J77 (b2 - 1))))))
def fm_pilot (M : Mem) (a1 : Int32) (a2 : Int32) (a3 : Int32) : Option (Int32 × Mem) := (if (fm_isShelfT M a1) = 0 then (Option.bind (fm_no M (-2)) (fun u2 => (some (u2.1, u2.2)))) else (if a2 < 0 then (Option.bind (fm_no M (-2)) (fun u4 => (some (u4.1, u4.2)))) else (if (20 : Int32) < a2 then (Option.bind (fm_no M (-2)) (fun u6 => (some (u6.1, u6.2)))) else (if a3 < 0 then (Option.bind (fm_no M (-2)) (fun u8 => (some (u8.1, u8.2)))) else (if a3 ≤ (999 : Int32) then (Option.bind (fm_take M a1 a2) (fun u10 => (if 0 ≤ u10.1 then (fm_pilot_L59 u10.2 a2 a3 FU 1) else (Option.bind (fm_no u10.2 u10.1) (fun u22 => (some (u22.1, u22.2))))))) else (Option.bind (fm_no M (-2)) (fun u24 => (some (u24.1, u24.2)))))))))
def fm_still_L57 (M : Mem) (b2 : Int32) (b4 : Int32) (kx88 : Int32 → Option (Int32 × Mem)) : Nat → Int32 → Int32 → Option (Int32 × Mem)
  | 0, _, _ => none
  | n + 1, x5, x6 => (if b2 ≤ x6 then (kx88 x5) else (gd (inb x6 20) (Option.bind (fm_isTimeAt M (M.1 160 (ix x6)) b4) (fun r8 => (jlet (fun z82 : Int32 => (fm_still_L57 M b2 b4 kx88 n z82 (x6 + 1))) (fun J82 => (if r8 = 0 then (J82 0) else (J82 x5))))))))
def fm_still_L46 (M : Mem) (b2 : Int32) : Nat → Int32 → Option (Int32 × Mem)
  | 0, _ => none
  | n + 1, x4 => (if x4 ≤ 0 then (some ((-1), M)) else (fm_still_L57 M b2 x4 (fun w9 => (if w9 = 0 then (fm_still_L46 M b2 n (x4 + (-1))) else (some (x4, M)))) FU 1 0))
def fm_still (M : Mem) (a1 : Int32) (a2 : Int32) : Option (Int32 × Mem) := (if (fm_isShelfT M a1) = 0 then (Option.bind (fm_no M (-2)) (fun u2 => (some (u2.1, u2.2)))) else (if a2 < 0 then (Option.bind (fm_no M (-2)) (fun u4 => (some (u4.1, u4.2)))) else (if a2 ≤ (20 : Int32) then (Option.bind (fm_take M a1 a2) (fun u6 => (if 0 ≤ u6.1 then (fm_still_L46 u6.2 a2 FU 9) else (Option.bind (fm_no u6.2 u6.1) (fun u11 => (some (u11.1, u11.2))))))) else (Option.bind (fm_no M (-2)) (fun u13 => (some (u13.1, u13.2)))))))
def fm_isFall (M : Mem) (a1 : Int32) : Option Int32 := (if a1 < (1 : Int32) then (some 0) else (if (20 : Int32) < a1 then (some 0) else (some 1)))
def fm_isFallT (M : Mem) (a1 : Int32) : Int32 := (if a1 < (1 : Int32) then (0) else (if (20 : Int32) < a1 then (0) else (1)))
theorem fm_isFallE (M : Mem) (a1 : Int32) : fm_isFall M a1 = some (fm_isFallT M a1) := by
  unfold fm_isFall fm_isFallT
  repeat' split
  all_goals first | rfl | simp_all
theorem fm_isFallB (M : Mem) (a1 : Int32) : isB (fm_isFallT M a1) := by
  unfold fm_isFallT
  repeat' split
  all_goals first | exact Or.inl rfl | exact Or.inr rfl
def fm_firstOut_L25 (M : Mem) (b1 : Int32) (b2 : Int32) (kx61 : Option (Int32 × Mem)) : Nat → Int32 → Option (Int32 × Mem)
  | 0, _ => none
  | n + 1, x3 => (if (M.1 156 (ix 0)) ≤ x3 then kx61 else (Option.bind (fm_isOut M x3 ((M.1 156 (ix 5)) - (b2 * b1))) (fun r3 => (if r3 = 0 then (fm_firstOut_L25 M b1 b2 kx61 n (x3 + 1)) else (some (x3, M))))))
def fm_firstOut_L17 (M : Mem) (b1 : Int32) : Nat → Int32 → Option (Int32 × Mem)
  | 0, _ => none
  | n + 1, x2 => (if (20 : Int32) < x2 then (some ((-1), M)) else (fm_firstOut_L25 M b1 x2 (fm_firstOut_L17 M b1 n (x2 + 1)) FU 0))
def fm_firstOut (M : Mem) (a1 : Int32) : Option (Int32 × Mem) := (if (fm_isFallT M a1) = 0 then (Option.bind (fm_no M (-2)) (fun u5 => (some (u5.1, u5.2)))) else (fm_firstOut_L17 M a1 FU 0))
def fm_lifts_L113 (b1 : Int32) (b2 : Int32) (b3 : Int32) (b4 : Int32) (kx176 : Mem → Option (Int32 × Mem)) (kx153 : Mem → Option (Int32 × Mem)) : Nat → Int32 → Mem → Option (Int32 × Mem)
  | 0, _, _ => none
  | n + 1, x5, M => (if b2 ≤ x5 then (kx176 M) else (gd (inb (((40 : Int32) * b1) + x5) 320) (llet (M.2 141 (ix (((40 : Int32) * b1) + x5))) (fun v21 => (if (lg_cmp v21 0) < 0 then (kx153 M) else (if (lg_cmp v21 (Int32.toInt64 (M.1 156 (ix 0)))) < 0 then (gd (inb x5 40) (mlet (wI M 164 (ix x5) (Int64.toInt32 v21)) (fun M24 => (fm_lifts_L113 b1 b2 b3 b4 kx176 kx153 n (x5 + 1) M24)))) else (kx153 M)))))))
def fm_lifts_L222 (b4 : Int32) (b7 : Int32) (b8 : Int32) (kx283 : Int32 → Int32 → Mem → Option (Int32 × Mem)) : Nat → Int32 → Int32 → Int32 → Int32 → Mem → Option (Int32 × Mem)
  | 0, _, _, _, _, _ => none
  | n + 1, x6, x9, x10, x11, M => (if b7 ≤ x11 then (kx283 x6 x9 M) else (gd (inb x11 40) (gd (inb b8 20) (jlet (fun z277 : Int32 × Int32 × Int32 × Mem => (fm_lifts_L222 b4 b7 b8 kx283 n (z277.1) (z277.2.1) (z277.2.2.1) (x11 + 1) (z277.2.2.2))) (fun J277 => (if (M.1 164 (ix x11)) = (M.1 160 (ix b8)) then (J277 (x6, x9, 1, M)) else (jlet (fun z260 : Int32 => (gd (inb x11 40) (gd (inb x9 40) (mlet (wI M 164 (ix x9) (M.1 164 (ix x11))) (fun M32 => (J277 (z260, (x9 + 1), x10, M32))))))) (fun J260 => (if x10 = 0 then (J260 x6) else (J260 (x6 + 1)))))))))))
def fm_lifts_L206 (b4 : Int32) : Nat → Int32 → Int32 → Int32 → Mem → Option (Int32 × Mem)
  | 0, _, _, _, _ => none
  | n + 1, x6, x7, x8, M => (if b4 ≤ x8 then (some (x6, M)) else (fm_lifts_L222 b4 x7 x8 (fun w33 w34 M35 => (fm_lifts_L206 b4 n w33 w34 (x8 + 1) M35)) FU x6 0 0 0 M))
def fm_lifts (M : Mem) (a1 : Int32) (a2 : Int32) (a3 : Int32) (a4 : Int32) : Option (Int32 × Mem) := (if (fm_isShelfT M a1) = 0 then (Option.bind (fm_no M (-2)) (fun u2 => (some (u2.1, u2.2)))) else (if (fm_isShelfT M a3) = 0 then (Option.bind (fm_no M (-2)) (fun u4 => (some (u4.1, u4.2)))) else (if a2 < 0 then (Option.bind (fm_no M (-2)) (fun u6 => (some (u6.1, u6.2)))) else (if (40 : Int32) < a2 then (Option.bind (fm_no M (-2)) (fun u8 => (some (u8.1, u8.2)))) else (if a4 < 0 then (Option.bind (fm_no M (-2)) (fun u10 => (some (u10.1, u10.2)))) else (if a4 ≤ (20 : Int32) then (Option.bind (fm_holdsJetty M a1) (fun r11 => (if r11 = 0 then (Option.bind (fm_holdsJetty M a3) (fun r14 => (if r14 = 0 then (gd (inb a1 8) (if (M.1 139 (ix a1)) < 0 then (Option.bind (fm_no M (-4)) (fun u17 => (some (u17.1, u17.2)))) else (gd (inb a3 8) (if 0 ≤ (M.1 139 (ix a3)) then (gd (inb a1 8) (if a2 ≤ (M.1 140 (ix a1)) then (fm_lifts_L113 a1 a2 a3 a4 (fun M25 => (Option.bind (fm_take M25 a3 a4) (fun u27 => (if 0 ≤ u27.1 then (fm_lifts_L206 a4 FU 0 a2 0 u27.2) else (Option.bind (fm_no u27.2 u27.1) (fun u37 => (some (u37.1, u37.2)))))))) (fun M38 => (Option.bind (fm_no M38 (-2)) (fun u40 => (some (u40.1, u40.2))))) FU 0 M) else (Option.bind (fm_no M (-2)) (fun u42 => (some (u42.1, u42.2)))))) else (Option.bind (fm_no M (-4)) (fun u44 => (some (u44.1, u44.2)))))))) else (Option.bind (fm_no M (-3)) (fun u46 => (some (u46.1, u46.2))))))) else (Option.bind (fm_no M (-3)) (fun u13 => (some (u13.1, u13.2))))))) else (Option.bind (fm_no M (-2)) (fun u48 => (some (u48.1, u48.2))))))))))
def fm_parcel (M : Mem) (a1 : Int32) (a2 : Int32) (a3 : Int32) : Option (Int32 × Mem) := (if (fm_isJettyT M a1) = 0 then (Option.bind (fm_no M (-2)) (fun u2 => (some (u2.1, u2.2)))) else (if a2 < (1 : Int32) then (Option.bind (fm_no M (-2)) (fun u4 => (some (u4.1, u4.2)))) else (if (60 : Int32) < a2 then (Option.bind (fm_no M (-2)) (fun u6 => (some (u6.1, u6.2)))) else (if a3 < (1 : Int32) then (Option.bind (fm_no M (-2)) (fun u8 => (some (u8.1, u8.2)))) else (if a3 ≤ (99 : Int32) then (if (M.1 156 (ix 3)) = (10 : Int32) then (Option.bind (fm_no M (-6)) (fun u21 => (some (u21.1, u21.2)))) else (mlet (wI M 156 (ix 3) ((M.1 156 (ix 3)) + 1)) (fun M12 => (ilet (M.1 156 (ix 3)) (fun v13 => (gd (inb v13 10) (mlet (wI M12 152 (ix v13) a1) (fun M15 => (gd (inb v13 10) (mlet (wI M15 153 (ix v13) a2) (fun M17 => (gd (inb v13 10) (mlet (wI M17 154 (ix v13) a3) (fun M19 => (some (v13, M19)))))))))))))))) else (Option.bind (fm_no M (-2)) (fun u23 => (some (u23.1, u23.2)))))))))
def fm_stops_L47 (M : Mem) (b1 : Int32) (b2 : Int32) (b3 : Int32) (b4 : Int32) (kx101 : Int32 → Int32 → Option (Int32 × Mem)) : Nat → Int32 → Int32 → Int32 → Option (Int32 × Mem)
  | 0, _, _, _ => none
  | n + 1, x5, x6, x7 => (if (M.1 156 (ix 3)) ≤ x7 then (kx101 x5 x6) else (jlet (fun z95 : Int32 × Int32 => (fm_stops_L47 M b1 b2 b3 b4 kx101 n (z95.1) (z95.2) (x7 + 1))) (fun J95 => (if ((b4 >>> (x7 &&& 31)) &&& 1) = 0 then (J95 (x5, x6)) else (gd (inb x7 10) (ilet (x5 + (M.1 153 (ix x7))) (fun v6 => (gd (inb x7 10) (ilet (x6 + (M.1 154 (ix x7))) (fun v8 => (J95 (v6, v8))))))))))))
def fm_stops_L25 (M : Mem) (b1 : Int32) : Nat → Int32 → Int32 → Int32 → Option (Int32 × Mem)
  | 0, _, _, _ => none
  | n + 1, x2, x3, x4 => (if ((1 : Int32) <<< ((M.1 156 (ix 3)) &&& 31)) ≤ x4 then (some (x2, M)) else (fm_stops_L47 M b1 x2 x3 x4 (fun w9 w10 => (jlet (fun z119 : Int32 × Int32 => (fm_stops_L25 M b1 n (z119.1) (z119.2) (x4 + 1))) (fun J119 => (if b1 < w9 then (J119 (x2, x3)) else (if w10 ≤ x3 then (J119 (x2, x3)) else (J119 (x4, w10))))))) FU 0 0 0))
def fm_stops (M : Mem) (a1 : Int32) : Option (Int32 × Mem) := (if a1 < 0 then (Option.bind (fm_no M (-2)) (fun u2 => (some (u2.1, u2.2)))) else (if a1 ≤ (600 : Int32) then (fm_stops_L25 M a1 FU 0 0 1) else (Option.bind (fm_no M (-2)) (fun u12 => (some (u12.1, u12.2))))))
def fm_week_L25 (M : Mem) (b1 : Int32) (b2 : Int32) : Nat → Int32 → Option (Int32 × Mem)
  | 0, _ => none
  | n + 1, x3 => (if (20 : Int32) < x3 then (some ((-1), M)) else (Option.bind (fm_isOut M b1 ((M.1 156 (ix 5)) - (x3 * b2))) (fun r4 => (if r4 = 0 then (fm_week_L25 M b1 b2 n (x3 + 1)) else (some (x3, M))))))
def fm_week (M : Mem) (a1 : Int32) (a2 : Int32) : Option (Int32 × Mem) := (if (fm_isJettyT M a1) = 0 then (Option.bind (fm_no M (-2)) (fun u2 => (some (u2.1, u2.2)))) else (if (fm_isFallT M a2) = 0 then (Option.bind (fm_no M (-2)) (fun u6 => (some (u6.1, u6.2)))) else (fm_week_L25 M a1 a2 FU 0)))
def fm_outs_L30 (M : Mem) (b1 : Int32) (b2 : Int32) : Nat → Int32 → Int32 → Option (Int32 × Mem)
  | 0, _, _ => none
  | n + 1, x3, x4 => (if (M.1 156 (ix 0)) ≤ x4 then (some (x3, M)) else (Option.bind (fm_isOut M x4 ((M.1 156 (ix 5)) - (b1 * b2))) (fun r7 => (jlet (fun z67 : Int32 => (fm_outs_L30 M b1 b2 n z67 (x4 + 1))) (fun J67 => (if r7 = 0 then (J67 x3) else (ilet (x3 ||| ((1 : Int32) <<< (x4 &&& 31))) (fun v8 => (J67 v8)))))))))
def fm_outs (M : Mem) (a1 : Int32) (a2 : Int32) : Option (Int32 × Mem) := (if a1 < 0 then (Option.bind (fm_no M (-2)) (fun u2 => (some (u2.1, u2.2)))) else (if (20 : Int32) < a1 then (Option.bind (fm_no M (-2)) (fun u4 => (some (u4.1, u4.2)))) else (if (fm_isFallT M a2) = 0 then (Option.bind (fm_no M (-2)) (fun u10 => (some (u10.1, u10.2)))) else (fm_outs_L30 M a1 a2 FU 0 0))))
def fm_seed (M : Mem) (a1 : Int32) : Option (Int32 × Mem) := (ilet (M.1 156 (ix 8)) (fun v2 => (mlet (wI M 156 (ix 8) a1) (fun M4 => (some (v2, M4))))))
def fm_begin_L77 (b3 : Int32) (kx98 : Mem → Option (Int32 × Mem)) : Nat → Int32 → Mem → Option (Int32 × Mem)
  | 0, _, _ => none
  | n + 1, x5, M => (if (7 : Int32) ≤ x5 then (kx98 M) else (gd (inb x5 28) (mlet (wI M 157 (ix x5) 0) (fun M16 => (fm_begin_L77 b3 kx98 n (x5 + 1) M16)))))
def fm_begin_L115 (b3 : Int32) : Nat → Int32 → Mem → Option (Int32 × Mem)
  | 0, _, _ => none
  | n + 1, x5, M => (if b3 ≤ x5 then (some (b3, M)) else (gd (inb x5 20) (gd (inb ((8 : Int32) + x5) 28) (mlet (wI M 157 (ix ((8 : Int32) + x5)) (M.1 160 (ix x5))) (fun M23 => (fm_begin_L115 b3 n (x5 + 1) M23))))))
def fm_begin (M : Mem) (a1 : Int32) (a2 : Int32) (a3 : Int32) : Option (Int32 × Mem) := (if (fm_isLeaperT M a1) = 0 then (Option.bind (fm_no M (-2)) (fun u2 => (some (u2.1, u2.2)))) else (if (fm_isShelfT M a2) = 0 then (Option.bind (fm_no M (-2)) (fun u4 => (some (u4.1, u4.2)))) else (if a3 < 0 then (Option.bind (fm_no M (-2)) (fun u6 => (some (u6.1, u6.2)))) else (if a3 ≤ (20 : Int32) then (Option.bind (fm_take M a2 a3) (fun u8 => (if 0 ≤ u8.1 then (mlet (wI u8.2 157 (ix 0) 1) (fun M10 => (mlet (wI M10 157 (ix 1) a1) (fun M12 => (mlet (wI M12 157 (ix 2) a3) (fun M14 => (fm_begin_L77 a3 (fun M17 => (mlet (wI M17 157 (ix 7) (M17.1 156 (ix 7))) (fun M20 => (fm_begin_L115 a3 FU 0 M20)))) FU 3 M14))))))) else (Option.bind (fm_no u8.2 u8.1) (fun u25 => (some (u25.1, u25.2))))))) else (Option.bind (fm_no M (-2)) (fun u27 => (some (u27.1, u27.2))))))))
def fm_draw (M : Mem) (a1 : Int32) : Option (Int32 × Mem) := (mlet (wI M 156 (ix 8) (((M.1 156 (ix 8)) * 1103515245) + 12345)) (fun M3 => (gd (¬ a1 = 0) (some (((ushr (M3.1 156 (ix 8)) 16) - (ushr (M3.1 156 (ix 8)) 16) / a1 * a1), M3)))))
def fm_step (M : Mem) : Option (Int32 × Mem) := (if (M.1 157 (ix 0)) = 0 then (Option.bind (fm_no M (-5)) (fun u3 => (some (u3.1, u3.2)))) else (if (M.1 157 (ix 3)) = (M.1 157 (ix 2)) then (Option.bind (fm_no M (-5)) (fun u41 => (some (u41.1, u41.2)))) else (ilet (M.1 157 (ix 1)) (fun v7 => (ilet (M.1 157 (ix 3)) (fun v9 => (gd (inb ((8 : Int32) + v9) 28) (ilet (M.1 157 (ix ((8 : Int32) + v9))) (fun v11 => (jlet (fun z83 : Int32 => (gd (inb v11 20) (Option.bind (fm_legOf M z83 (M.1 143 (ix v11))) (fun r14 => (ilet ((M.1 157 (ix 4)) + r14) (fun v15 => (Option.bind (fm_riskOf M v7 v11 (fm_hourOfT M v15)) (fun r16 => (Option.bind (fm_draw M 1000) (fun u18 => (jlet (fun z155 : Int32 => (mlet (wI u18.2 157 (ix 3) ((u18.2.1 157 (ix 3)) + 1)) (fun M21 => (jlet (fun z193 : Int32 => (mlet (wI M21 157 (ix 4) ((v15 + 1) + z193)) (fun M23 => (jlet (fun z211 : Mem => (jlet (fun z228 : Mem => (gd (inb v7 6) (gd (inb v7 6) (mlet (wI z228 150 (ix v7) ((z228.1 150 (ix v7)) + 1)) (fun M26 => (if z155 ≤ 0 then (some (z155, M26)) else (gd (inb v7 6) (gd (inb v7 6) (mlet (wI M26 151 (ix v7) ((M26.1 151 (ix v7)) + 1)) (fun M29 => (some (z155, M29)))))))))))) (fun J228 => (if z155 = (2 : Int32) then (mlet (wI z211 157 (ix 6) ((z211.1 157 (ix 6)) + 1)) (fun M32 => (J228 M32))) else (J228 z211))))) (fun J211 => (if z155 = (1 : Int32) then (mlet (wI M23 157 (ix 5) ((M23.1 157 (ix 5)) + 1)) (fun M35 => (J211 M35))) else (J211 M23))))))) (fun J193 => (if z155 = (2 : Int32) then (Option.bind (fm_says1 M21 1) (fun r36 => (J193 ((3 : Int32) * r36)))) else (J193 0))))))) (fun J155 => (if (r16 / 10) ≤ u18.1 then (if r16 ≤ u18.1 then (J155 0) else (J155 1)) else (J155 2)))))))))))))) (fun J83 => (if v9 = 0 then (J83 (M.1 157 (ix 7))) else (gd (inb ((7 : Int32) + v9) 28) (gd (inb (M.1 157 (ix ((7 : Int32) + v9))) 20) (J83 (M.1 143 (ix (M.1 157 (ix ((7 : Int32) + v9))))))))))))))))))))
def fm_under (M : Mem) (a1 : Int32) : Option (Int32 × Mem) := (if a1 < 0 then (Option.bind (fm_no M (-2)) (fun u2 => (some (u2.1, u2.2)))) else (if a1 ≤ (4 : Int32) then (if (M.1 157 (ix 0)) = 0 then (Option.bind (fm_no M (-5)) (fun u7 => (some (u7.1, u7.2)))) else (if a1 = 0 then (some ((M.1 157 (ix 1)), M)) else (gd (inb ((2 : Int32) + a1) 28) (some ((M.1 157 (ix ((2 : Int32) + a1))), M))))) else (Option.bind (fm_no M (-2)) (fun u9 => (some (u9.1, u9.2))))))
def fm_move_L3 (b2 : Int32) (b3 : Int32) (kx49 : Mem → Option (Int32 × Mem)) : Nat → Int32 → Mem → Option (Int32 × Mem)
  | 0, _, _ => none
  | n + 1, x4, M => (if (9 : Int32) ≤ x4 then (kx49 M) else (jlet (fun z43 : Mem => (fm_move_L3 b2 b3 kx49 n (x4 + 1) z43)) (fun J43 => (if b3 = 0 then (gd (inb (b2 + x4) 300) (gd (inb x4 9) (mlet (wI M 156 (ix x4) (M.1 159 (ix (b2 + x4)))) (fun M3 => (J43 M3))))) else (gd (inb x4 9) (gd (inb (b2 + x4) 300) (mlet (wI M 159 (ix (b2 + x4)) (M.1 156 (ix x4))) (fun M6 => (J43 M6)))))))))
def fm_move (M : Mem) (a2 : Int32) (a3 : Int32) : Option (Int32 × Mem) := (fm_move_L3 a2 a3 (fun M7 => (some ((a2 + 9), M7))) FU 0 M)
def fm_move_2_L3 (b2 : Int32) (b3 : Int32) (kx49 : Mem → Option (Int32 × Mem)) : Nat → Int32 → Mem → Option (Int32 × Mem)
  | 0, _, _ => none
  | n + 1, x4, M => (if (28 : Int32) ≤ x4 then (kx49 M) else (jlet (fun z43 : Mem => (fm_move_2_L3 b2 b3 kx49 n (x4 + 1) z43)) (fun J43 => (if b3 = 0 then (gd (inb (b2 + x4) 300) (gd (inb x4 28) (mlet (wI M 157 (ix x4) (M.1 159 (ix (b2 + x4)))) (fun M3 => (J43 M3))))) else (gd (inb x4 28) (gd (inb (b2 + x4) 300) (mlet (wI M 159 (ix (b2 + x4)) (M.1 157 (ix x4))) (fun M6 => (J43 M6)))))))))
def fm_move_2 (M : Mem) (a2 : Int32) (a3 : Int32) : Option (Int32 × Mem) := (fm_move_2_L3 a2 a3 (fun M7 => (some ((a2 + 28), M7))) FU 0 M)
def fm_move_3_L3 (b2 : Int32) (b3 : Int32) (kx49 : Mem → Option (Int32 × Mem)) : Nat → Int32 → Mem → Option (Int32 × Mem)
  | 0, _, _ => none
  | n + 1, x4, M => (if (12 : Int32) ≤ x4 then (kx49 M) else (jlet (fun z43 : Mem => (fm_move_3_L3 b2 b3 kx49 n (x4 + 1) z43)) (fun J43 => (if b3 = 0 then (gd (inb (b2 + x4) 300) (gd (inb x4 12) (mlet (wI M 155 (ix x4) (M.1 159 (ix (b2 + x4)))) (fun M3 => (J43 M3))))) else (gd (inb x4 12) (gd (inb (b2 + x4) 300) (mlet (wI M 159 (ix (b2 + x4)) (M.1 155 (ix x4))) (fun M6 => (J43 M6)))))))))
def fm_move_3 (M : Mem) (a2 : Int32) (a3 : Int32) : Option (Int32 × Mem) := (fm_move_3_L3 a2 a3 (fun M7 => (some ((a2 + 12), M7))) FU 0 M)
def fm_move_4_L3 (b2 : Int32) (b3 : Int32) (kx49 : Mem → Option (Int32 × Mem)) : Nat → Int32 → Mem → Option (Int32 × Mem)
  | 0, _, _ => none
  | n + 1, x4, M => (if (20 : Int32) ≤ x4 then (kx49 M) else (jlet (fun z43 : Mem => (fm_move_4_L3 b2 b3 kx49 n (x4 + 1) z43)) (fun J43 => (if b3 = 0 then (gd (inb (b2 + x4) 300) (gd (inb x4 20) (mlet (wI M 142 (ix x4) (M.1 159 (ix (b2 + x4)))) (fun M3 => (J43 M3))))) else (gd (inb x4 20) (gd (inb (b2 + x4) 300) (mlet (wI M 159 (ix (b2 + x4)) (M.1 142 (ix x4))) (fun M6 => (J43 M6)))))))))
def fm_move_4 (M : Mem) (a2 : Int32) (a3 : Int32) : Option (Int32 × Mem) := (fm_move_4_L3 a2 a3 (fun M7 => (some ((a2 + 20), M7))) FU 0 M)
def fm_move_5_L3 (b2 : Int32) (b3 : Int32) (kx49 : Mem → Option (Int32 × Mem)) : Nat → Int32 → Mem → Option (Int32 × Mem)
  | 0, _, _ => none
  | n + 1, x4, M => (if (20 : Int32) ≤ x4 then (kx49 M) else (jlet (fun z43 : Mem => (fm_move_5_L3 b2 b3 kx49 n (x4 + 1) z43)) (fun J43 => (if b3 = 0 then (gd (inb (b2 + x4) 300) (gd (inb x4 20) (mlet (wI M 143 (ix x4) (M.1 159 (ix (b2 + x4)))) (fun M3 => (J43 M3))))) else (gd (inb x4 20) (gd (inb (b2 + x4) 300) (mlet (wI M 159 (ix (b2 + x4)) (M.1 143 (ix x4))) (fun M6 => (J43 M6)))))))))
def fm_move_5 (M : Mem) (a2 : Int32) (a3 : Int32) : Option (Int32 × Mem) := (fm_move_5_L3 a2 a3 (fun M7 => (some ((a2 + 20), M7))) FU 0 M)
def fm_move_6_L3 (b2 : Int32) (b3 : Int32) (kx49 : Mem → Option (Int32 × Mem)) : Nat → Int32 → Mem → Option (Int32 × Mem)
  | 0, _, _ => none
  | n + 1, x4, M => (if (20 : Int32) ≤ x4 then (kx49 M) else (jlet (fun z43 : Mem => (fm_move_6_L3 b2 b3 kx49 n (x4 + 1) z43)) (fun J43 => (if b3 = 0 then (gd (inb (b2 + x4) 300) (gd (inb x4 20) (mlet (wI M 144 (ix x4) (M.1 159 (ix (b2 + x4)))) (fun M3 => (J43 M3))))) else (gd (inb x4 20) (gd (inb (b2 + x4) 300) (mlet (wI M 159 (ix (b2 + x4)) (M.1 144 (ix x4))) (fun M6 => (J43 M6)))))))))
def fm_move_6 (M : Mem) (a2 : Int32) (a3 : Int32) : Option (Int32 × Mem) := (fm_move_6_L3 a2 a3 (fun M7 => (some ((a2 + 20), M7))) FU 0 M)
def fm_move_7_L3 (b2 : Int32) (b3 : Int32) (kx49 : Mem → Option (Int32 × Mem)) : Nat → Int32 → Mem → Option (Int32 × Mem)
  | 0, _, _ => none
  | n + 1, x4, M => (if (20 : Int32) ≤ x4 then (kx49 M) else (jlet (fun z43 : Mem => (fm_move_7_L3 b2 b3 kx49 n (x4 + 1) z43)) (fun J43 => (if b3 = 0 then (gd (inb (b2 + x4) 300) (gd (inb x4 20) (mlet (wI M 145 (ix x4) (M.1 159 (ix (b2 + x4)))) (fun M3 => (J43 M3))))) else (gd (inb x4 20) (gd (inb (b2 + x4) 300) (mlet (wI M 159 (ix (b2 + x4)) (M.1 145 (ix x4))) (fun M6 => (J43 M6)))))))))
def fm_move_7 (M : Mem) (a2 : Int32) (a3 : Int32) : Option (Int32 × Mem) := (fm_move_7_L3 a2 a3 (fun M7 => (some ((a2 + 20), M7))) FU 0 M)
def fm_move_8_L3 (b2 : Int32) (b3 : Int32) (kx49 : Mem → Option (Int32 × Mem)) : Nat → Int32 → Mem → Option (Int32 × Mem)
  | 0, _, _ => none
  | n + 1, x4, M => (if (20 : Int32) ≤ x4 then (kx49 M) else (jlet (fun z43 : Mem => (fm_move_8_L3 b2 b3 kx49 n (x4 + 1) z43)) (fun J43 => (if b3 = 0 then (gd (inb (b2 + x4) 300) (gd (inb x4 20) (mlet (wI M 146 (ix x4) (M.1 159 (ix (b2 + x4)))) (fun M3 => (J43 M3))))) else (gd (inb x4 20) (gd (inb (b2 + x4) 300) (mlet (wI M 159 (ix (b2 + x4)) (M.1 146 (ix x4))) (fun M6 => (J43 M6)))))))))
def fm_move_8 (M : Mem) (a2 : Int32) (a3 : Int32) : Option (Int32 × Mem) := (fm_move_8_L3 a2 a3 (fun M7 => (some ((a2 + 20), M7))) FU 0 M)
def fm_move_9_L3 (b2 : Int32) (b3 : Int32) (kx49 : Mem → Option (Int32 × Mem)) : Nat → Int32 → Mem → Option (Int32 × Mem)
  | 0, _, _ => none
  | n + 1, x4, M => (if (54 : Int32) ≤ x4 then (kx49 M) else (jlet (fun z43 : Mem => (fm_move_9_L3 b2 b3 kx49 n (x4 + 1) z43)) (fun J43 => (if b3 = 0 then (gd (inb (b2 + x4) 300) (gd (inb x4 54) (mlet (wI M 148 (ix x4) (M.1 159 (ix (b2 + x4)))) (fun M3 => (J43 M3))))) else (gd (inb x4 54) (gd (inb (b2 + x4) 300) (mlet (wI M 159 (ix (b2 + x4)) (M.1 148 (ix x4))) (fun M6 => (J43 M6)))))))))
def fm_move_9 (M : Mem) (a2 : Int32) (a3 : Int32) : Option (Int32 × Mem) := (fm_move_9_L3 a2 a3 (fun M7 => (some ((a2 + 54), M7))) FU 0 M)
def fm_move_10_L3 (b2 : Int32) (b3 : Int32) (kx49 : Mem → Option (Int32 × Mem)) : Nat → Int32 → Mem → Option (Int32 × Mem)
  | 0, _, _ => none
  | n + 1, x4, M => (if (6 : Int32) ≤ x4 then (kx49 M) else (jlet (fun z43 : Mem => (fm_move_10_L3 b2 b3 kx49 n (x4 + 1) z43)) (fun J43 => (if b3 = 0 then (gd (inb (b2 + x4) 300) (gd (inb x4 6) (mlet (wI M 149 (ix x4) (M.1 159 (ix (b2 + x4)))) (fun M3 => (J43 M3))))) else (gd (inb x4 6) (gd (inb (b2 + x4) 300) (mlet (wI M 159 (ix (b2 + x4)) (M.1 149 (ix x4))) (fun M6 => (J43 M6)))))))))
def fm_move_10 (M : Mem) (a2 : Int32) (a3 : Int32) : Option (Int32 × Mem) := (fm_move_10_L3 a2 a3 (fun M7 => (some ((a2 + 6), M7))) FU 0 M)
def fm_move_11_L3 (b2 : Int32) (b3 : Int32) (kx49 : Mem → Option (Int32 × Mem)) : Nat → Int32 → Mem → Option (Int32 × Mem)
  | 0, _, _ => none
  | n + 1, x4, M => (if (6 : Int32) ≤ x4 then (kx49 M) else (jlet (fun z43 : Mem => (fm_move_11_L3 b2 b3 kx49 n (x4 + 1) z43)) (fun J43 => (if b3 = 0 then (gd (inb (b2 + x4) 300) (gd (inb x4 6) (mlet (wI M 150 (ix x4) (M.1 159 (ix (b2 + x4)))) (fun M3 => (J43 M3))))) else (gd (inb x4 6) (gd (inb (b2 + x4) 300) (mlet (wI M 159 (ix (b2 + x4)) (M.1 150 (ix x4))) (fun M6 => (J43 M6)))))))))
def fm_move_11 (M : Mem) (a2 : Int32) (a3 : Int32) : Option (Int32 × Mem) := (fm_move_11_L3 a2 a3 (fun M7 => (some ((a2 + 6), M7))) FU 0 M)
def fm_move_12_L3 (b2 : Int32) (b3 : Int32) (kx49 : Mem → Option (Int32 × Mem)) : Nat → Int32 → Mem → Option (Int32 × Mem)
  | 0, _, _ => none
  | n + 1, x4, M => (if (6 : Int32) ≤ x4 then (kx49 M) else (jlet (fun z43 : Mem => (fm_move_12_L3 b2 b3 kx49 n (x4 + 1) z43)) (fun J43 => (if b3 = 0 then (gd (inb (b2 + x4) 300) (gd (inb x4 6) (mlet (wI M 151 (ix x4) (M.1 159 (ix (b2 + x4)))) (fun M3 => (J43 M3))))) else (gd (inb x4 6) (gd (inb (b2 + x4) 300) (mlet (wI M 159 (ix (b2 + x4)) (M.1 151 (ix x4))) (fun M6 => (J43 M6)))))))))
def fm_move_12 (M : Mem) (a2 : Int32) (a3 : Int32) : Option (Int32 × Mem) := (fm_move_12_L3 a2 a3 (fun M7 => (some ((a2 + 6), M7))) FU 0 M)
def fm_move_13_L3 (b2 : Int32) (b3 : Int32) (kx49 : Mem → Option (Int32 × Mem)) : Nat → Int32 → Mem → Option (Int32 × Mem)
  | 0, _, _ => none
  | n + 1, x4, M => (if (10 : Int32) ≤ x4 then (kx49 M) else (jlet (fun z43 : Mem => (fm_move_13_L3 b2 b3 kx49 n (x4 + 1) z43)) (fun J43 => (if b3 = 0 then (gd (inb (b2 + x4) 300) (gd (inb x4 10) (mlet (wI M 152 (ix x4) (M.1 159 (ix (b2 + x4)))) (fun M3 => (J43 M3))))) else (gd (inb x4 10) (gd (inb (b2 + x4) 300) (mlet (wI M 159 (ix (b2 + x4)) (M.1 152 (ix x4))) (fun M6 => (J43 M6)))))))))
def fm_move_13 (M : Mem) (a2 : Int32) (a3 : Int32) : Option (Int32 × Mem) := (fm_move_13_L3 a2 a3 (fun M7 => (some ((a2 + 10), M7))) FU 0 M)
def fm_move_14_L3 (b2 : Int32) (b3 : Int32) (kx49 : Mem → Option (Int32 × Mem)) : Nat → Int32 → Mem → Option (Int32 × Mem)
  | 0, _, _ => none
  | n + 1, x4, M => (if (10 : Int32) ≤ x4 then (kx49 M) else (jlet (fun z43 : Mem => (fm_move_14_L3 b2 b3 kx49 n (x4 + 1) z43)) (fun J43 => (if b3 = 0 then (gd (inb (b2 + x4) 300) (gd (inb x4 10) (mlet (wI M 153 (ix x4) (M.1 159 (ix (b2 + x4)))) (fun M3 => (J43 M3))))) else (gd (inb x4 10) (gd (inb (b2 + x4) 300) (mlet (wI M 159 (ix (b2 + x4)) (M.1 153 (ix x4))) (fun M6 => (J43 M6)))))))))
def fm_move_14 (M : Mem) (a2 : Int32) (a3 : Int32) : Option (Int32 × Mem) := (fm_move_14_L3 a2 a3 (fun M7 => (some ((a2 + 10), M7))) FU 0 M)
def fm_move_15_L3 (b2 : Int32) (b3 : Int32) (kx49 : Mem → Option (Int32 × Mem)) : Nat → Int32 → Mem → Option (Int32 × Mem)
  | 0, _, _ => none
  | n + 1, x4, M => (if (10 : Int32) ≤ x4 then (kx49 M) else (jlet (fun z43 : Mem => (fm_move_15_L3 b2 b3 kx49 n (x4 + 1) z43)) (fun J43 => (if b3 = 0 then (gd (inb (b2 + x4) 300) (gd (inb x4 10) (mlet (wI M 154 (ix x4) (M.1 159 (ix (b2 + x4)))) (fun M3 => (J43 M3))))) else (gd (inb x4 10) (gd (inb (b2 + x4) 300) (mlet (wI M 159 (ix (b2 + x4)) (M.1 154 (ix x4))) (fun M6 => (J43 M6)))))))))
def fm_move_15 (M : Mem) (a2 : Int32) (a3 : Int32) : Option (Int32 × Mem) := (fm_move_15_L3 a2 a3 (fun M7 => (some ((a2 + 10), M7))) FU 0 M)
def fm_moveAll (M : Mem) (a1 : Int32) : Option Mem := (Option.bind (fm_move M 0 a1) (fun u2 => (Option.bind (fm_move_2 u2.2 u2.1 a1) (fun u4 => (Option.bind (fm_move_3 u4.2 u4.1 a1) (fun u6 => (Option.bind (fm_move_4 u6.2 u6.1 a1) (fun u8 => (Option.bind (fm_move_5 u8.2 u8.1 a1) (fun u10 => (Option.bind (fm_move_6 u10.2 u10.1 a1) (fun u12 => (Option.bind (fm_move_7 u12.2 u12.1 a1) (fun u14 => (Option.bind (fm_move_8 u14.2 u14.1 a1) (fun u16 => (Option.bind (fm_move_9 u16.2 u16.1 a1) (fun u18 => (Option.bind (fm_move_10 u18.2 u18.1 a1) (fun u20 => (Option.bind (fm_move_11 u20.2 u20.1 a1) (fun u22 => (Option.bind (fm_move_12 u22.2 u22.1 a1) (fun u24 => (Option.bind (fm_move_13 u24.2 u24.1 a1) (fun u26 => (Option.bind (fm_move_14 u26.2 u26.1 a1) (fun u28 => (Option.bind (fm_move_15 u28.2 u28.1 a1) (fun u30 => (some u30.2)))))))))))))))))))))))))))))))
def fm_image (M : Mem) : Option (Int32 × Mem) := (Option.bind (fm_moveAll M 1) (fun M1 => (mlet (wI M1 138 21 1) (fun M2 => (some (1, M2))))))
def fm_back_L21 : Nat → Int32 → Mem → Option (Int32 × Mem)
  | 0, _, _ => none
  | n + 1, x1, M => (if (8 : Int32) ≤ x1 then (some (1, M)) else (Option.bind (fm_holdsJetty M x1) (fun r2 => (jlet (fun z57 : Mem => (fm_back_L21 n (x1 + 1) z57)) (fun J57 => (if r2 = 0 then (J57 M) else (gd (inb x1 8) (if (M.1 139 (ix x1)) < (M.1 156 (ix 0)) then (J57 M) else (gd (inb x1 8) (mlet (wI M 139 (ix x1) (-1)) (fun M6 => (J57 M6))))))))))))
def fm_back (M : Mem) : Option (Int32 × Mem) := (if (M.1 138 21) = 0 then (Option.bind (fm_no M (-5)) (fun u8 => (some (u8.1, u8.2)))) else (Option.bind (fm_moveAll M 0) (fun M1 => (fm_back_L21 FU 0 M1))))
def fm_status_L49 (M : Mem) : Nat → Int32 → Int32 → Option Int32
  | 0, _, _ => none
  | n + 1, x2, x3 => (if (8 : Int32) ≤ x3 then (some x2) else (gd (inb x3 8) (jlet (fun z67 : Int32 => (fm_status_L49 M n z67 (x3 + 1))) (fun J67 => (if (M.1 139 (ix x3)) < 0 then (J67 x2) else (J67 (x2 + 1)))))))
def fm_status (M : Mem) (a1 : Int32) : Option Int32 := (jlet (fun z16 : Unit => (if a1 = (4 : Int32) then (some (M.1 138 8)) else (if a1 = (5 : Int32) then (some (M.1 156 (ix 8))) else (if a1 = (6 : Int32) then (fm_status_L49 M FU 0 0) else (if a1 = (7 : Int32) then (gd (inb (a1 - 1) 9) (some (M.1 156 (ix (a1 - 1))))) else (if a1 = (8 : Int32) then (gd (inb (a1 - 1) 9) (some (M.1 156 (ix (a1 - 1))))) else (if a1 < (12 : Int32) then (some (-1)) else (if (16 : Int32) < a1 then (some (-1)) else (gd (inb (a1 - 10) 7) (some (M.1 158 (ix (a1 - 10))))))))))))) (fun J16 => (if a1 < 0 then (J16 ()) else (if (4 : Int32) ≤ a1 then (J16 ()) else (gd (inb a1 9) (some (M.1 156 (ix a1))))))))
end FUNS
