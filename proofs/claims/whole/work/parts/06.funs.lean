def fc_isBelow (M : Mem) (a0 : Int32) (a1 : Int32) : Option Int32 := (if a0 < 0 then (some 0) else (if a1 ≤ a0 then (some 0) else (some 1)))
def fc_isBelowT (M : Mem) (a0 : Int32) (a1 : Int32) : Int32 := (if a0 < 0 then (0) else (if a1 ≤ a0 then (0) else (1)))
theorem fc_isBelowE (M : Mem) (a0 : Int32) (a1 : Int32) : fc_isBelow M a0 a1 = some (fc_isBelowT M a0 a1) := by
  unfold fc_isBelow fc_isBelowT
  repeat' split
  all_goals first | rfl | simp_all
theorem fc_isBelowB (M : Mem) (a0 : Int32) (a1 : Int32) : isB (fc_isBelowT M a0 a1) := by
  unfold fc_isBelowT
  repeat' split
  all_goals first | exact Or.inl rfl | exact Or.inr rfl
def fc_isShelf (M : Mem) (a0 : Int32) : Option Int32 := (some (fc_isBelowT M a0 8))
def fc_isShelfT (M : Mem) (a0 : Int32) : Int32 := ((fc_isBelowT M a0 8))
theorem fc_isShelfE (M : Mem) (a0 : Int32) : fc_isShelf M a0 = some (fc_isShelfT M a0) := by
  unfold fc_isShelf fc_isShelfT
  repeat' split
  all_goals first | rfl | simp_all
theorem fc_isShelfB (M : Mem) (a0 : Int32) : isB (fc_isShelfT M a0) := by
  unfold fc_isShelfT
  repeat' split
  all_goals first | exact Or.inl rfl | exact Or.inr rfl | exact fc_isBelowB _ _ _
def fc_refuse (M : Mem) (a1 : Int32) : Option (Int32 × Mem) := (ilet (((-2) : Int32) - a1) (fun v1 => (if (fc_isBelowT M v1 5) = 0 then (some (a1, M)) else (gd (inb v1 5) (gd (inb v1 5) (mlet (wI M 118 (ix v1) ((M.1 118 (ix v1)) + 1)) (fun M4 => (some (a1, M4)))))))))
def fc_isWithin (M : Mem) (a0 : Int32) (a1 : Int32) (a2 : Int32) : Option Int32 := (if a0 < a1 then (some 0) else (if a2 < a0 then (some 0) else (some 1)))
def fc_isWithinT (M : Mem) (a0 : Int32) (a1 : Int32) (a2 : Int32) : Int32 := (if a0 < a1 then (0) else (if a2 < a0 then (0) else (1)))
theorem fc_isWithinE (M : Mem) (a0 : Int32) (a1 : Int32) (a2 : Int32) : fc_isWithin M a0 a1 a2 = some (fc_isWithinT M a0 a1 a2) := by
  unfold fc_isWithin fc_isWithinT
  repeat' split
  all_goals first | rfl | simp_all
theorem fc_isWithinB (M : Mem) (a0 : Int32) (a1 : Int32) (a2 : Int32) : isB (fc_isWithinT M a0 a1 a2) := by
  unfold fc_isWithinT
  repeat' split
  all_goals first | exact Or.inl rfl | exact Or.inr rfl
def fShelf_takeRow_L17 (b0 : Nat) : Nat → Int32 → Mem → Option Mem
  | 0, _, _ => none
  | n + 1, x3, M => (if (40 : Int32) ≤ x3 then (some M) else (gd (inb x3 40) (mlet (wL M (b0 + 10) (ix x3) 0) (fun M5 => (fShelf_takeRow_L17 b0 n (x3 + 1) M5)))))
def fShelf_takeRow (M : Mem) (a0 : Nat) (a1 : Int32) (a2 : Int32) : Option Mem := (mlet (wI M (a0 + 2) 0 a1) (fun M1 => (mlet (wI M1 (a0 + 2) 1 a2) (fun M2 => (mlet (wI M2 (a0 + 2) 2 (-1)) (fun M3 => (fShelf_takeRow_L17 a0 1000 0 M3)))))))
def fc_row (M : Mem) (a1 : Int32) (a2 : Int32) (a3 : Int32) : Option (Int32 × Mem) := (if (fc_isShelfT M a1) = 0 then (Option.bind (fc_refuse M (-2)) (fun u2 => (some (u2.1, u2.2)))) else (if (fc_isBelowT M a2 5) = 0 then (Option.bind (fc_refuse M (-2)) (fun u4 => (some (u4.1, u4.2)))) else (if (fc_isWithinT M a3 0 40) = 0 then (Option.bind (fc_refuse M (-2)) (fun u8 => (some (u8.1, u8.2)))) else (gd (inb a1 8) (Option.bind (fShelf_takeRow M (ix a1) a2 a3) (fun M6 => (some (1, M6))))))))
def fc_holds (M : Mem) (a1 : Int32) : Option Int32 := (if (fc_isShelfT M a1) = 0 then (some (-1)) else (gd (inb a1 8) (if (M.1 ((ix a1) + 2) 2) = ((-1) : Int32) then (some (M.1 ((ix a1) + 2) 0)) else (some ((10 : Int32) + (M.1 ((ix a1) + 2) 2))))))
def fShelf_takeJetty (M : Mem) (a0 : Nat) (a1 : Int32) : Option Mem := (mlet (wI M (a0 + 2) 0 (-1)) (fun M1 => (mlet (wI M1 (a0 + 2) 1 0) (fun M2 => (mlet (wI M2 (a0 + 2) 2 a1) (fun M3 => (some M3)))))))
def fc_isJetty (M : Mem) (a1 : Int32) : Option Int32 := (some (fc_isBelowT M a1 (M.1 20 1)))
def fc_isJettyT (M : Mem) (a1 : Int32) : Int32 := ((fc_isBelowT M a1 (M.1 20 1)))
theorem fc_isJettyE (M : Mem) (a1 : Int32) : fc_isJetty M a1 = some (fc_isJettyT M a1) := by
  unfold fc_isJetty fc_isJettyT
  repeat' split
  all_goals first | rfl | simp_all
theorem fc_isJettyB (M : Mem) (a1 : Int32) : isB (fc_isJettyT M a1) := by
  unfold fc_isJettyT
  repeat' split
  all_goals first | exact Or.inl rfl | exact Or.inr rfl | exact fc_isBelowB _ _ _
def fc_show (M : Mem) (a1 : Int32) (a2 : Int32) : Option (Int32 × Mem) := (if (fc_isShelfT M a1) = 0 then (Option.bind (fc_refuse M (-2)) (fun u2 => (some (u2.1, u2.2)))) else (if a2 = ((-1) : Int32) then (gd (inb a1 8) (Option.bind (fShelf_takeJetty M (ix a1) a2) (fun M4 => (some (1, M4))))) else (if (fc_isJettyT M a2) = 0 then (Option.bind (fc_refuse M (-2)) (fun u8 => (some (u8.1, u8.2)))) else (gd (inb a1 8) (Option.bind (fShelf_takeJetty M (ix a1) a2) (fun M6 => (some (1, M6))))))))
def fc_toNumber (M : Mem) (a0 : Int32) : Option Int32 := (if a0 = 0 then (some 0) else (some 1))
def fc_toNumberT (M : Mem) (a0 : Int32) : Int32 := (if a0 = 0 then (0) else (1))
theorem fc_toNumberE (M : Mem) (a0 : Int32) : fc_toNumber M a0 = some (fc_toNumberT M a0) := by
  unfold fc_toNumber fc_toNumberT
  repeat' split
  all_goals first | rfl | simp_all
def fc_lake (M : Mem) (a1 : Int32) (a2 : Int32) : Option (Int32 × Mem) := (jlet (fun z34 : Unit => (jlet (fun z68 : Unit => (if a1 = (2 : Int32) then (if (fc_isBelowT M a2 256) = 0 then (Option.bind (fc_refuse M (-2)) (fun u4 => (some (u4.1, u4.2)))) else (ilet (M.1 20 14) (fun v5 => (mlet (wI M 20 14 a2) (fun M6 => (if v5 = a2 then (some ((fc_toNumberT M6 0), M6)) else (some ((fc_toNumberT M6 1), M6)))))))) else (Option.bind (fc_refuse M (-2)) (fun u2 => (some (u2.1, u2.2)))))) (fun J68 => (if a1 = (1 : Int32) then (if (fc_isWithinT M a2 0 60) = 0 then (J68 ()) else (ilet (M.1 20 13) (fun v7 => (mlet (wI M 20 13 a2) (fun M8 => (if v7 = a2 then (some ((fc_toNumberT M8 0), M8)) else (some ((fc_toNumberT M8 1), M8)))))))) else (J68 ()))))) (fun J34 => (if a1 = 0 then (if (fc_isWithinT M a2 (-50) 50) = 0 then (J34 ()) else (ilet (M.1 20 12) (fun v9 => (mlet (wI M 20 12 a2) (fun M10 => (if v9 = a2 then (some ((fc_toNumberT M10 0), M10)) else (some ((fc_toNumberT M10 1), M10)))))))) else (J34 ()))))
def fc_isHour (M : Mem) (a0 : Int32) : Option Int32 := (some (fc_isBelowT M a0 12))
def fc_isHourT (M : Mem) (a0 : Int32) : Int32 := ((fc_isBelowT M a0 12))
theorem fc_isHourE (M : Mem) (a0 : Int32) : fc_isHour M a0 = some (fc_isHourT M a0) := by
  unfold fc_isHour fc_isHourT
  repeat' split
  all_goals first | rfl | simp_all
theorem fc_isHourB (M : Mem) (a0 : Int32) : isB (fc_isHourT M a0) := by
  unfold fc_isHourT
  repeat' split
  all_goals first | exact Or.inl rfl | exact Or.inr rfl | exact fc_isBelowB _ _ _
def fc_wind (M : Mem) (a1 : Int32) (a2 : Int32) : Option (Int32 × Mem) := (if (fc_isHourT M a1) = 0 then (Option.bind (fc_refuse M (-2)) (fun u2 => (some (u2.1, u2.2)))) else (if (fc_isWithinT M a2 0 9) = 0 then (Option.bind (fc_refuse M (-2)) (fun u8 => (some (u8.1, u8.2)))) else (gd (inb a1 12) (ilet (M.1 66 (ix a1)) (fun v4 => (gd (inb a1 12) (mlet (wI M 66 (ix a1) a2) (fun M6 => (some (v4, M6))))))))))
def fc_isLaw (M : Mem) (a1 : Int32) : Option Int32 := (some (fc_isBelowT M a1 (M.1 20 3)))
def fc_isLawT (M : Mem) (a1 : Int32) : Int32 := ((fc_isBelowT M a1 (M.1 20 3)))
theorem fc_isLawE (M : Mem) (a1 : Int32) : fc_isLaw M a1 = some (fc_isLawT M a1) := by
  unfold fc_isLaw fc_isLawT
  repeat' split
  all_goals first | rfl | simp_all
theorem fc_isLawB (M : Mem) (a1 : Int32) : isB (fc_isLawT M a1) := by
  unfold fc_isLawT
  repeat' split
  all_goals first | exact Or.inl rfl | exact Or.inr rfl | exact fc_isBelowB _ _ _
def fc_force (M : Mem) (a1 : Int32) : Option (Int32 × Mem) := (if a1 = ((-1) : Int32) then (ilet (M.1 20 4) (fun v1 => (mlet (wI M 20 4 a1) (fun M2 => (some (v1, M2)))))) else (if (fc_isLawT M a1) = 0 then (Option.bind (fc_refuse M (-2)) (fun u6 => (some (u6.1, u6.2)))) else (ilet (M.1 20 4) (fun v3 => (mlet (wI M 20 4 a1) (fun M4 => (some (v3, M4))))))))
def fc_isLeaper (M : Mem) (a1 : Int32) : Option Int32 := (some (fc_isBelowT M a1 (M.1 20 7)))
def fc_isLeaperT (M : Mem) (a1 : Int32) : Int32 := ((fc_isBelowT M a1 (M.1 20 7)))
theorem fc_isLeaperE (M : Mem) (a1 : Int32) : fc_isLeaper M a1 = some (fc_isLeaperT M a1) := by
  unfold fc_isLeaper fc_isLeaperT
  repeat' split
  all_goals first | rfl | simp_all
theorem fc_isLeaperB (M : Mem) (a1 : Int32) : isB (fc_isLeaperT M a1) := by
  unfold fc_isLeaperT
  repeat' split
  all_goals first | exact Or.inl rfl | exact Or.inr rfl | exact fc_isBelowB _ _ _
def fJetty_riseAt (M : Mem) (a0 : Nat) (a1 : Int32) : Option Int32 := (if (M.1 (a0 + 22) 0) = 1 then (some (((M.1 (a0 + 22) 3) - a1) - 10)) else (if (M.1 (a0 + 22) 0) = 2 then (some (if (0 : Int32) < (((M.1 (a0 + 22) 3) - a1) - 10) then (((M.1 (a0 + 22) 3) - a1) - 10) else 0)) else (if (M.1 (a0 + 22) 0) = 3 then (some (M.1 (a0 + 22) 3)) else (if (M.1 (a0 + 22) 0) = 4 then (some ((M.1 (a0 + 22) 3) / 2)) else (some ((M.1 (a0 + 22) 3) - a1))))))
def fJetty_riseAtT (M : Mem) (a0 : Nat) (a1 : Int32) : Int32 := (if (M.1 (a0 + 22) 0) = 1 then ((((M.1 (a0 + 22) 3) - a1) - 10)) else (if (M.1 (a0 + 22) 0) = 2 then ((if (0 : Int32) < (((M.1 (a0 + 22) 3) - a1) - 10) then (((M.1 (a0 + 22) 3) - a1) - 10) else 0)) else (if (M.1 (a0 + 22) 0) = 3 then ((M.1 (a0 + 22) 3)) else (if (M.1 (a0 + 22) 0) = 4 then (((M.1 (a0 + 22) 3) / 2)) else (((M.1 (a0 + 22) 3) - a1))))))
theorem fJetty_riseAtE (M : Mem) (a0 : Nat) (a1 : Int32) : fJetty_riseAt M a0 a1 = some (fJetty_riseAtT M a0 a1) := by
  unfold fJetty_riseAt fJetty_riseAtT
  repeat' split
  all_goals first | rfl | simp_all
def fLake_deck (M : Mem) : Option Int32 := (some ((20 : Int32) - ((M.1 20 13) / 4)))
def fLake_deckT (M : Mem) : Int32 := (((20 : Int32) - ((M.1 20 13) / 4)))
theorem fLake_deckE (M : Mem) : fLake_deck M = some (fLake_deckT M) := by
  unfold fLake_deck fLake_deckT
  repeat' split
  all_goals first | rfl | simp_all
def fLake_isOut (M : Mem) (a1 : Nat) (a2 : Int32) : Option Int32 := (if (if 0 ≤ ((fJetty_riseAtT M a1 a2) - (fLake_deckT M)) then ((fJetty_riseAtT M a1 a2) - (fLake_deckT M)) else 0 - ((fJetty_riseAtT M a1 a2) - (fLake_deckT M))) ≤ (60 : Int32) then (some 0) else (some 1))
def fLake_isOutT (M : Mem) (a1 : Nat) (a2 : Int32) : Int32 := (if (if 0 ≤ ((fJetty_riseAtT M a1 a2) - (fLake_deckT M)) then ((fJetty_riseAtT M a1 a2) - (fLake_deckT M)) else 0 - ((fJetty_riseAtT M a1 a2) - (fLake_deckT M))) ≤ (60 : Int32) then (0) else (1))
theorem fLake_isOutE (M : Mem) (a1 : Nat) (a2 : Int32) : fLake_isOut M a1 a2 = some (fLake_isOutT M a1 a2) := by
  unfold fLake_isOut fLake_isOutT
  repeat' split
  all_goals first | rfl | simp_all
theorem fLake_isOutB (M : Mem) (a1 : Nat) (a2 : Int32) : isB (fLake_isOutT M a1 a2) := by
  unfold fLake_isOutT
  repeat' split
  all_goals first | exact Or.inl rfl | exact Or.inr rfl
def fLake_lawValue (M : Mem) (a1 : Int32) : Option Int32 := (if (fc_isBelowT M (M.1 20 4) (M.1 20 3)) = 0 then (gd (inb a1 9) (some (M.1 56 (ix a1)))) else (gd (inb (M.1 20 4) 6) (gd (inb a1 9) (some (M.1 ((ix (M.1 20 4)) + 50) (ix a1))))))
def fLake_speed (M : Mem) : Option Int32 := (Option.bind (fLake_lawValue M 1) (fun r1 => (some r1)))
def fJetty_paces (M : Mem) (a0 : Nat) : Option Int32 := (if (M.1 (a0 + 22) 0) = 1 then (some ((2 : Int32) * (M.1 (a0 + 22) 2))) else (if (M.1 (a0 + 22) 0) = 2 then (some (((2 : Int32) * (M.1 (a0 + 22) 2)) + 4)) else (if (M.1 (a0 + 22) 0) = 4 then (some ((M.1 (a0 + 22) 2) + 2)) else (if (M.1 (a0 + 22) 0) = 5 then (some 1) else (some (M.1 (a0 + 22) 2))))))
def fJetty_pacesT (M : Mem) (a0 : Nat) : Int32 := (if (M.1 (a0 + 22) 0) = 1 then (((2 : Int32) * (M.1 (a0 + 22) 2))) else (if (M.1 (a0 + 22) 0) = 2 then ((((2 : Int32) * (M.1 (a0 + 22) 2)) + 4)) else (if (M.1 (a0 + 22) 0) = 4 then (((M.1 (a0 + 22) 2) + 2)) else (if (M.1 (a0 + 22) 0) = 5 then (1) else ((M.1 (a0 + 22) 2))))))
theorem fJetty_pacesE (M : Mem) (a0 : Nat) : fJetty_paces M a0 = some (fJetty_pacesT M a0) := by
  unfold fJetty_paces fJetty_pacesT
  repeat' split
  all_goals first | rfl | simp_all
def fc_cutBy (M : Mem) (a0 : Int32) (a1 : Int32) : Option Int32 := (if (1 : Int32) ≤ a1 then (gd (¬ a1 = 0) (some (a0 / a1))) else (some 0))
def fc_roundedUpBy (M : Mem) (a0 : Int32) (a1 : Int32) : Option Int32 := (Option.bind (fc_cutBy M ((a0 + a1) - 1) a1) (fun r1 => (some r1)))
def fLake_hasTime (M : Mem) (a1 : Nat) (a2 : Int32) : Option Int32 := (Option.bind (fLake_lawValue M 2) (fun r1 => (Option.bind (fc_roundedUpBy M ((2 : Int32) * (fJetty_pacesT M a1)) r1) (fun r2 => (Option.bind (fLake_lawValue M 3) (fun r3 => (ilet (r2 + r3) (fun v4 => (Option.bind (fLake_lawValue M 0) (fun r5 => (Option.bind (fc_cutBy M r5 a2) (fun r6 => (if r6 < v4 then (some 0) else (some 1))))))))))))))
def fLake_isHopeless (M : Mem) (a1 : Nat) : Option Int32 := (if (fLake_isOutT M a1 (M.1 20 12)) = 0 then (Option.bind (fLake_speed M) (fun r1 => (Option.bind (fLake_hasTime M a1 r1) (fun r2 => (if r2 = 0 then (some 1) else (some 0)))))) else (some 1))
def fLake_riskOf (M : Mem) (a1 : Int32) (a2 : Int32) (a3 : Int32) : Option Int32 := (gd (inb a2 20) (Option.bind (fLake_isHopeless M (ix a2)) (fun r2 => (if r2 = 0 then (Option.bind (fLake_lawValue M 4) (fun r3 => (jlet (fun z61 : Int32 => (Option.bind (fLake_lawValue M 6) (fun r4 => (gd (inb a3 12) (Option.bind (fLake_lawValue M 7) (fun r6 => (gd (inb a1 6) (ilet ((((r3 * (if 0 ≤ ((fJetty_riseAtT M (ix a2) (M.1 20 12)) - (fLake_deckT M)) then ((fJetty_riseAtT M (ix a2) (M.1 20 12)) - (fLake_deckT M)) else 0 - ((fJetty_riseAtT M (ix a2) (M.1 20 12)) - (fLake_deckT M)))) + z61) + (r4 * (M.1 66 (ix a3)))) - (r6 * (M.1 ((ix a1) + 58) 0))) (fun v8 => (some (if (0 : Int32) < (if v8 < (1000 : Int32) then v8 else 1000) then (if v8 < (1000 : Int32) then v8 else 1000) else 0))))))))))) (fun J61 => (if (M.1 ((ix a2) + 22) 4) = 0 then (J61 0) else (Option.bind (fLake_lawValue M 5) (fun r9 => (J61 r9)))))))) else (some 1000)))))
def fc_risk (M : Mem) (a1 : Int32) (a2 : Int32) (a3 : Int32) : Option (Int32 × Mem) := (if (fc_isLeaperT M a1) = 0 then (Option.bind (fc_refuse M (-2)) (fun u2 => (some (u2.1, u2.2)))) else (if (fc_isJettyT M a2) = 0 then (Option.bind (fc_refuse M (-2)) (fun u4 => (some (u4.1, u4.2)))) else (if (fc_isHourT M a3) = 0 then (Option.bind (fc_refuse M (-2)) (fun u7 => (some (u7.1, u7.2)))) else (Option.bind (fLake_riskOf M a1 a2 a3) (fun r5 => (some (r5, M)))))))
def fLake_legMinutes (M : Mem) (a1 : Int32) (a2 : Int32) (a3 : Int32) : Option Int32 := (ilet (if 0 ≤ ((a1 / 16) - (a2 / 16)) then ((a1 / 16) - (a2 / 16)) else 0 - ((a1 / 16) - (a2 / 16))) (fun v1 => (ilet (if 0 ≤ ((a1 - a1 / 16 * 16) - (a2 - a2 / 16 * 16)) then ((a1 - a1 / 16 * 16) - (a2 - a2 / 16 * 16)) else 0 - ((a1 - a1 / 16 * 16) - (a2 - a2 / 16 * 16))) (fun v2 => (Option.bind (fLake_lawValue M 8) (fun r3 => (Option.bind (fc_roundedUpBy M (r3 * (v1 + v2)) a3) (fun r4 => (some r4)))))))))
def fc_leg (M : Mem) (a1 : Int32) (a2 : Int32) : Option (Int32 × Mem) := (if (fc_isBelowT M a1 256) = 0 then (Option.bind (fc_refuse M (-2)) (fun u2 => (some (u2.1, u2.2)))) else (if (fc_isBelowT M a2 256) = 0 then (Option.bind (fc_refuse M (-2)) (fun u6 => (some (u6.1, u6.2)))) else (Option.bind (fLake_speed M) (fun r3 => (Option.bind (fLake_legMinutes M a1 a2 r3) (fun r4 => (some (r4, M))))))))
def fm_isShelf (M : Mem) (a1 : Int32) : Option Int32 := (if a1 < 0 then (some 0) else (if (8 : Int32) ≤ a1 then (some 0) else (some 1)))
def fm_isShelfT (M : Mem) (a1 : Int32) : Int32 := (if a1 < 0 then (0) else (if (8 : Int32) ≤ a1 then (0) else (1)))
theorem fm_isShelfE (M : Mem) (a1 : Int32) : fm_isShelf M a1 = some (fm_isShelfT M a1) := by
  unfold fm_isShelf fm_isShelfT
  repeat' split
  all_goals first | rfl | simp_all
theorem fm_isShelfB (M : Mem) (a1 : Int32) : isB (fm_isShelfT M a1) := by
  unfold fm_isShelfT
  repeat' split
  all_goals first | exact Or.inl rfl | exact Or.inr rfl
def fm_no (M : Mem) (a1 : Int32) : Option (Int32 × Mem) := (gd (inb (-a1) 7) (gd (inb (-a1) 7) (mlet (wI M 158 (ix (-a1)) ((M.1 158 (ix (-a1))) + 1)) (fun M3 => (some (a1, M3))))))
def fm_row_L54 (b1 : Int32) : Nat → Int32 → Mem → Option (Int32 × Mem)
  | 0, _, _ => none
  | n + 1, x4, M => (if (40 : Int32) ≤ x4 then (some (1, M)) else (gd (inb (((40 : Int32) * b1) + x4) 320) (mlet (wL M 141 (ix (((40 : Int32) * b1) + x4)) 0) (fun M14 => (fm_row_L54 b1 n (x4 + 1) M14)))))
def fm_row (M : Mem) (a1 : Int32) (a2 : Int32) (a3 : Int32) : Option (Int32 × Mem) := (if (fm_isShelfT M a1) = 0 then (Option.bind (fm_no M (-2)) (fun u2 => (some (u2.1, u2.2)))) else (if a2 < 0 then (Option.bind (fm_no M (-2)) (fun u4 => (some (u4.1, u4.2)))) else (if (4 : Int32) < a2 then (Option.bind (fm_no M (-2)) (fun u6 => (some (u6.1, u6.2)))) else (if a3 < 0 then (Option.bind (fm_no M (-2)) (fun u8 => (some (u8.1, u8.2)))) else (if a3 ≤ (40 : Int32) then (gd (inb a1 8) (mlet (wI M 139 (ix a1) ((100 : Int32) + a2)) (fun M10 => (gd (inb a1 8) (mlet (wI M10 140 (ix a1) a3) (fun M12 => (fm_row_L54 a1 1000 0 M12))))))) else (Option.bind (fm_no M (-2)) (fun u16 => (some (u16.1, u16.2)))))))))
def fm_isRow (M : Mem) (a1 : Int32) : Option Int32 := (gd (inb a1 8) (if (M.1 139 (ix a1)) < (100 : Int32) then (some 0) else (some 1)))
def fm_holds (M : Mem) (a1 : Int32) : Option Int32 := (if (fm_isShelfT M a1) = 0 then (some (-1)) else (gd (inb a1 8) (if 0 ≤ (M.1 139 (ix a1)) then (Option.bind (fm_isRow M a1) (fun r2 => (if r2 = 0 then (gd (inb a1 8) (some ((10 : Int32) + (M.1 139 (ix a1))))) else (gd (inb a1 8) (some ((M.1 139 (ix a1)) - 100)))))) else (some (-1)))))
def fm_isJetty (M : Mem) (a1 : Int32) : Option Int32 := (if a1 < 0 then (some 0) else (if (M.1 156 (ix 0)) ≤ a1 then (some 0) else (some 1)))
def fm_isJettyT (M : Mem) (a1 : Int32) : Int32 := (if a1 < 0 then (0) else (if (M.1 156 (ix 0)) ≤ a1 then (0) else (1)))
theorem fm_isJettyE (M : Mem) (a1 : Int32) : fm_isJetty M a1 = some (fm_isJettyT M a1) := by
  unfold fm_isJetty fm_isJettyT
  repeat' split
  all_goals first | rfl | simp_all
theorem fm_isJettyB (M : Mem) (a1 : Int32) : isB (fm_isJettyT M a1) := by
  unfold fm_isJettyT
  repeat' split
  all_goals first | exact Or.inl rfl | exact Or.inr rfl
def fm_show (M : Mem) (a1 : Int32) (a2 : Int32) : Option (Int32 × Mem) := (if (fm_isShelfT M a1) = 0 then (Option.bind (fm_no M (-2)) (fun u2 => (some (u2.1, u2.2)))) else (if a2 = ((-1) : Int32) then (gd (inb a1 8) (mlet (wI M 139 (ix a1) a2) (fun M4 => (some (1, M4))))) else (if (fm_isJettyT M a2) = 0 then (Option.bind (fm_no M (-2)) (fun u8 => (some (u8.1, u8.2)))) else (gd (inb a1 8) (mlet (wI M 139 (ix a1) a2) (fun M6 => (some (1, M6))))))))
def fm_isSpot (M : Mem) (a1 : Int32) : Option Int32 := (if a1 < 0 then (some 0) else (if (256 : Int32) ≤ a1 then (some 0) else (some 1)))
def fm_isSpotT (M : Mem) (a1 : Int32) : Int32 := (if a1 < 0 then (0) else (if (256 : Int32) ≤ a1 then (0) else (1)))
theorem fm_isSpotE (M : Mem) (a1 : Int32) : fm_isSpot M a1 = some (fm_isSpotT M a1) := by
  unfold fm_isSpot fm_isSpotT
  repeat' split
  all_goals first | rfl | simp_all
theorem fm_isSpotB (M : Mem) (a1 : Int32) : isB (fm_isSpotT M a1) := by
  unfold fm_isSpotT
  repeat' split
  all_goals first | exact Or.inl rfl | exact Or.inr rfl
def fm_isLevel (M : Mem) (a1 : Int32) : Option Int32 := (if a1 < ((-50) : Int32) then (some 0) else (if (50 : Int32) < a1 then (some 0) else (some 1)))
def fm_isLevelT (M : Mem) (a1 : Int32) : Int32 := (if a1 < ((-50) : Int32) then (0) else (if (50 : Int32) < a1 then (0) else (1)))
theorem fm_isLevelE (M : Mem) (a1 : Int32) : fm_isLevel M a1 = some (fm_isLevelT M a1) := by
  unfold fm_isLevel fm_isLevelT
  repeat' split
  all_goals first | rfl | simp_all
theorem fm_isLevelB (M : Mem) (a1 : Int32) : isB (fm_isLevelT M a1) := by
  unfold fm_isLevelT
  repeat' split
  all_goals first | exact Or.inl rfl | exact Or.inr rfl
def fm_lake (M : Mem) (a1 : Int32) (a2 : Int32) : Option (Int32 × Mem) := (if a1 < 0 then (Option.bind (fm_no M (-2)) (fun u2 => (some (u2.1, u2.2)))) else (if a1 ≤ (2 : Int32) then (jlet (fun z28 : Unit => (jlet (fun z43 : Unit => (jlet (fun z63 : Unit => (gd (inb ((5 : Int32) + a1) 9) (ilet (M.1 156 (ix ((5 : Int32) + a1))) (fun v4 => (gd (inb ((5 : Int32) + a1) 9) (mlet (wI M 156 (ix ((5 : Int32) + a1)) a2) (fun M6 => (if v4 = a2 then (some (0, M6)) else (some (1, M6)))))))))) (fun J63 => (if a1 = (2 : Int32) then (if (fm_isSpotT M a2) = 0 then (Option.bind (fm_no M (-2)) (fun u8 => (some (u8.1, u8.2)))) else (J63 ())) else (J63 ()))))) (fun J43 => (if a1 = (1 : Int32) then (if a2 < 0 then (Option.bind (fm_no M (-2)) (fun u10 => (some (u10.1, u10.2)))) else (if (60 : Int32) < a2 then (Option.bind (fm_no M (-2)) (fun u12 => (some (u12.1, u12.2)))) else (J43 ()))) else (J43 ()))))) (fun J28 => (if a1 = 0 then (if (fm_isLevelT M a2) = 0 then (Option.bind (fm_no M (-2)) (fun u14 => (some (u14.1, u14.2)))) else (J28 ())) else (J28 ())))) else (Option.bind (fm_no M (-2)) (fun u16 => (some (u16.1, u16.2))))))
def fm_isHour (M : Mem) (a1 : Int32) : Option Int32 := (if a1 < 0 then (some 0) else (if (12 : Int32) ≤ a1 then (some 0) else (some 1)))
def fm_isHourT (M : Mem) (a1 : Int32) : Int32 := (if a1 < 0 then (0) else (if (12 : Int32) ≤ a1 then (0) else (1)))
theorem fm_isHourE (M : Mem) (a1 : Int32) : fm_isHour M a1 = some (fm_isHourT M a1) := by
  unfold fm_isHour fm_isHourT
  repeat' split
  all_goals first | rfl | simp_all
theorem fm_isHourB (M : Mem) (a1 : Int32) : isB (fm_isHourT M a1) := by
  unfold fm_isHourT
  repeat' split
  all_goals first | exact Or.inl rfl | exact Or.inr rfl
def fm_wind (M : Mem) (a1 : Int32) (a2 : Int32) : Option (Int32 × Mem) := (if (fm_isHourT M a1) = 0 then (Option.bind (fm_no M (-2)) (fun u2 => (some (u2.1, u2.2)))) else (if a2 < 0 then (Option.bind (fm_no M (-2)) (fun u4 => (some (u4.1, u4.2)))) else (if a2 ≤ (9 : Int32) then (gd (inb a1 12) (ilet (M.1 155 (ix a1)) (fun v6 => (gd (inb a1 12) (mlet (wI M 155 (ix a1) a2) (fun M8 => (some (v6, M8)))))))) else (Option.bind (fm_no M (-2)) (fun u10 => (some (u10.1, u10.2)))))))
def fm_isLaw (M : Mem) (a1 : Int32) : Option Int32 := (if a1 < 0 then (some 0) else (if (M.1 156 (ix 1)) ≤ a1 then (some 0) else (some 1)))
def fm_isLawT (M : Mem) (a1 : Int32) : Int32 := (if a1 < 0 then (0) else (if (M.1 156 (ix 1)) ≤ a1 then (0) else (1)))
theorem fm_isLawE (M : Mem) (a1 : Int32) : fm_isLaw M a1 = some (fm_isLawT M a1) := by
  unfold fm_isLaw fm_isLawT
  repeat' split
  all_goals first | rfl | simp_all
theorem fm_isLawB (M : Mem) (a1 : Int32) : isB (fm_isLawT M a1) := by
  unfold fm_isLawT
  repeat' split
  all_goals first | exact Or.inl rfl | exact Or.inr rfl
def fm_force (M : Mem) (a1 : Int32) : Option (Int32 × Mem) := (if a1 = ((-1) : Int32) then (ilet (M.1 156 (ix 4)) (fun v2 => (mlet (wI M 156 (ix 4) a1) (fun M4 => (some (v2, M4)))))) else (if (fm_isLawT M a1) = 0 then (Option.bind (fm_no M (-2)) (fun u10 => (some (u10.1, u10.2)))) else (ilet (M.1 156 (ix 4)) (fun v6 => (mlet (wI M 156 (ix 4) a1) (fun M8 => (some (v6, M8))))))))
def fm_isLeaper (M : Mem) (a1 : Int32) : Option Int32 := (if a1 < 0 then (some 0) else (if (M.1 156 (ix 2)) ≤ a1 then (some 0) else (some 1)))
def fm_isLeaperT (M : Mem) (a1 : Int32) : Int32 := (if a1 < 0 then (0) else (if (M.1 156 (ix 2)) ≤ a1 then (0) else (1)))
theorem fm_isLeaperE (M : Mem) (a1 : Int32) : fm_isLeaper M a1 = some (fm_isLeaperT M a1) := by
  unfold fm_isLeaper fm_isLeaperT
  repeat' split
  all_goals first | rfl | simp_all
theorem fm_isLeaperB (M : Mem) (a1 : Int32) : isB (fm_isLeaperT M a1) := by
  unfold fm_isLeaperT
  repeat' split
  all_goals first | exact Or.inl rfl | exact Or.inr rfl
def fm_riseAt (M : Mem) (a1 : Int32) (a2 : Int32) : Option Int32 := (gd (inb a1 20) (ilet (M.1 142 (ix a1)) (fun v2 => (gd (inb a1 20) (ilet (M.1 145 (ix a1)) (fun v4 => (if v2 = (3 : Int32) then (some v4) else (if v2 = (4 : Int32) then (some (v4 / 2)) else (if v2 = 0 then (some (v4 - a2)) else (if v2 = (5 : Int32) then (some (v4 - a2)) else (ilet ((v4 - a2) - 10) (fun v5 => (if v2 = (2 : Int32) then (if 0 ≤ v5 then (some v5) else (some 0)) else (some v5))))))))))))))
def fm_deck (M : Mem) : Option Int32 := (some ((20 : Int32) - ((M.1 156 (ix 6)) / 4)))
def fm_deckT (M : Mem) : Int32 := (((20 : Int32) - ((M.1 156 (ix 6)) / 4)))
theorem fm_deckE (M : Mem) : fm_deck M = some (fm_deckT M) := by
  unfold fm_deck fm_deckT
  repeat' split
  all_goals first | rfl | simp_all
def fm_isOut (M : Mem) (a1 : Int32) (a2 : Int32) : Option Int32 := (Option.bind (fm_riseAt M a1 a2) (fun r1 => (ilet (r1 - (fm_deckT M)) (fun v2 => (if (60 : Int32) < v2 then (some 1) else (if ((-60) : Int32) ≤ v2 then (some 0) else (some 1)))))))
def fm_first (M : Mem) (a1 : Int32) : Option Int32 := (if a1 = 0 then (some 40) else (if a1 = (1 : Int32) then (some 4) else (if a1 = (7 : Int32) then (some 4) else (if a1 = (2 : Int32) then (some 5) else (if a1 = (3 : Int32) then (some 3) else (if a1 = (4 : Int32) then (some 3) else (if a1 = (5 : Int32) then (some 40) else (if a1 = (6 : Int32) then (some 20) else (some 2)))))))))
def fm_firstT (M : Mem) (a1 : Int32) : Int32 := (if a1 = 0 then (40) else (if a1 = (1 : Int32) then (4) else (if a1 = (7 : Int32) then (4) else (if a1 = (2 : Int32) then (5) else (if a1 = (3 : Int32) then (3) else (if a1 = (4 : Int32) then (3) else (if a1 = (5 : Int32) then (40) else (if a1 = (6 : Int32) then (20) else (2)))))))))
theorem fm_firstE (M : Mem) (a1 : Int32) : fm_first M a1 = some (fm_firstT M a1) := by
  unfold fm_first fm_firstT
  repeat' split
  all_goals first | rfl | simp_all
def fm_says1 (M : Mem) (a1 : Int32) : Option Int32 := (if (M.1 156 (ix 4)) < 0 then (some (fm_firstT M a1)) else (gd (inb (((9 : Int32) * (M.1 156 (ix 4))) + a1) 54) (some (M.1 148 (ix (((9 : Int32) * (M.1 156 (ix 4))) + a1))))))
def fm_paces (M : Mem) (a1 : Int32) : Option Int32 := (gd (inb a1 20) (ilet (M.1 142 (ix a1)) (fun v2 => (gd (inb a1 20) (ilet (M.1 144 (ix a1)) (fun v4 => (if v2 = 0 then (some v4) else (if v2 = (3 : Int32) then (some v4) else (if v2 = (1 : Int32) then (some ((2 : Int32) * v4)) else (if v2 = (2 : Int32) then (some (((2 : Int32) * v4) + 4)) else (if v2 = (4 : Int32) then (some (v4 + 2)) else (some 1))))))))))))
def fm_isTimeAt (M : Mem) (a1 : Int32) (a2 : Int32) : Option Int32 := (Option.bind (fm_says1 M 2) (fun r1 => (Option.bind (fm_paces M a1) (fun r2 => (gd (¬ r1 = 0) (Option.bind (fm_says1 M 3) (fun r3 => (Option.bind (fm_says1 M 0) (fun r4 => (gd (¬ a2 = 0) (if (r4 / a2) < ((((((2 : Int32) * r2) + r1) - 1) / r1) + r3) then (some 0) else (some 1))))))))))))
def fm_isTime (M : Mem) (a1 : Int32) : Option Int32 := (Option.bind (fm_says1 M 1) (fun r1 => (Option.bind (fm_isTimeAt M a1 r1) (fun r2 => (gd (isB r2) (some r2))))))
def fm_riskOf (M : Mem) (a1 : Int32) (a2 : Int32) (a3 : Int32) : Option Int32 := (Option.bind (fm_isOut M a2 (M.1 156 (ix 5))) (fun r2 => (if r2 = 0 then (Option.bind (fm_isTime M a2) (fun r3 => (if r3 = 0 then (some 1000) else (Option.bind (fm_riseAt M a2 (M.1 156 (ix 5))) (fun r5 => (ilet (r5 - (fm_deckT M)) (fun v6 => (Option.bind (fm_says1 M 4) (fun r7 => (jlet (fun z62 : Int32 => (Option.bind (fm_says1 M 5) (fun r8 => (gd (inb a2 20) (Option.bind (fm_says1 M 6) (fun r10 => (gd (inb a3 12) (Option.bind (fm_says1 M 7) (fun r12 => (gd (inb a1 6) (ilet ((((r7 * z62) + (r8 * (M.1 146 (ix a2)))) + (r10 * (M.1 155 (ix a3)))) - (r12 * (M.1 149 (ix a1)))) (fun v14 => (if 0 ≤ v14 then (if v14 ≤ (1000 : Int32) then (some v14) else (some 1000)) else (some 0)))))))))))))) (fun J62 => (if 0 ≤ v6 then (J62 v6) else (J62 (-v6)))))))))))))) else (some 1000))))
def fm_risk (M : Mem) (a1 : Int32) (a2 : Int32) (a3 : Int32) : Option (Int32 × Mem) := (if (fm_isLeaperT M a1) = 0 then (Option.bind (fm_no M (-2)) (fun u2 => (some (u2.1, u2.2)))) else (if (fm_isJettyT M a2) = 0 then (Option.bind (fm_no M (-2)) (fun u4 => (some (u4.1, u4.2)))) else (if (fm_isHourT M a3) = 0 then (Option.bind (fm_no M (-2)) (fun u7 => (some (u7.1, u7.2)))) else (Option.bind (fm_riskOf M a1 a2 a3) (fun r5 => (some (r5, M)))))))
def fm_legAt (M : Mem) (a1 : Int32) (a2 : Int32) (a3 : Int32) : Option Int32 := (ilet ((a1 / 16) - (a2 / 16)) (fun v1 => (ilet ((a1 - a1 / 16 * 16) - (a2 - a2 / 16 * 16)) (fun v2 => (jlet (fun z35 : Int32 => (if 0 ≤ v2 then (ilet (z35 + v2) (fun v3 => (Option.bind (fm_says1 M 8) (fun r4 => (gd (¬ a3 = 0) (some ((((r4 * v3) + a3) - 1) / a3))))))) else (ilet (z35 + (-v2)) (fun v5 => (Option.bind (fm_says1 M 8) (fun r6 => (gd (¬ a3 = 0) (some ((((r6 * v5) + a3) - 1) / a3))))))))) (fun J35 => (if 0 ≤ v1 then (J35 v1) else (J35 (-v1)))))))))
def fm_legOf (M : Mem) (a1 : Int32) (a2 : Int32) : Option Int32 := (Option.bind (fm_says1 M 1) (fun r1 => (Option.bind (fm_legAt M a1 a2 r1) (fun r2 => (some r2)))))
def fm_leg (M : Mem) (a1 : Int32) (a2 : Int32) : Option (Int32 × Mem) := (if (fm_isSpotT M a1) = 0 then (Option.bind (fm_no M (-2)) (fun u2 => (some (u2.1, u2.2)))) else (if (fm_isSpotT M a2) = 0 then (Option.bind (fm_no M (-2)) (fun u5 => (some (u5.1, u5.2)))) else (Option.bind (fm_legOf M a1 a2) (fun r3 => (some (r3, M))))))
