theorem size9 {n k : Nat} (h1 : n < 2147483648) (h2 : k < 2147483648) (h : n.toInt32 = Int32.ofNat k) : n = k := by
  have e : nI n = nI k := h
  have := congrArg Int32.toInt e
  rw [t_nI h1, t_nI h2] at this
  omega
theorem va_Xof {args : Array Value} {s : State} {tm : Term} {N : Nat} {f : Nat → Int32} (hN : N < 2 ^ 31) (harr : (Cond.arrayOf tm .int).before args s = true) (hlen : (Term.length tm).eval args s none [] s = some (.int (Int32.ofNat N))) (hel : ∀ j : Nat, j < N → (Term.elem tm (.int (Int32.ofNat j))).eval args s none [] s = some (.int (f j))) : ∃ t : Nat, tm.eval args s none [] s = some (.ref t) ∧ va_X t N f s s.heap ∧ t < s.heap.size := by
  obtain ⟨t, ht, cell, h1, h2, h3, h4, h5, h6, -⟩ := va_Tof (A := fun _ => False) (f := fun j => .int (f j)) hN harr hlen hel (fun _ _ h => h)
  obtain ⟨t2, cell2, ht2, hat, -⟩ := Term.length_spec hlen
  cases ht.symm.trans ht2
  obtain ⟨hcell, -, -, -⟩ := State.arrayAt?_spec hat
  cases h1.symm.trans hcell
  have hsz : cell.slots.size < 2147483648 := by
    have h := hlen
    have e : (Term.length tm).eval args s none [] s = if cell.slots.size < 2 ^ 31 then some (.int cell.slots.size.toInt32) else none := by
      simp only [Term.eval, ht]
      simp [hat]
    rw [e] at h
    by_cases z : cell.slots.size < 2 ^ 31
    · exact z
    · rw [if_neg z] at h
      cases h
  exact ⟨t, ht, ⟨cell, h1, h2, h3, size9 hsz hN h5, h6⟩, (Array.getElem?_eq_some_iff.mp h1).1⟩
theorem lf_3 : (Jvm.Cond.arrayOf (Jvm.Term.static "LettersLeaping" "LAW_AT_FIRST" "[I") Jvm.ClassFile.FieldType.int) ∈ flatC (Jvm.Cond.and given_1 narrow_1) := List.mem_of_getElem? (i := 5) (by decide +kernel)
theorem lf_4 : (Jvm.Cond.eq (Jvm.Term.length (Jvm.Term.static "LettersLeaping" "LAW_AT_FIRST" "[I")) (Jvm.Term.int (9 : Int32))) ∈ flatC (Jvm.Cond.and given_1 narrow_1) := List.mem_of_getElem? (i := 6) (by decide +kernel)
theorem lf_5 : (Jvm.Cond.eq (Jvm.Term.elem (Jvm.Term.static "LettersLeaping" "LAW_AT_FIRST" "[I") (Jvm.Term.int (0 : Int32))) (Jvm.Term.int (40 : Int32))) ∈ flatC (Jvm.Cond.and given_1 narrow_1) := List.mem_of_getElem? (i := 7) (by decide +kernel)
theorem lf_6 : (Jvm.Cond.eq (Jvm.Term.elem (Jvm.Term.static "LettersLeaping" "LAW_AT_FIRST" "[I") (Jvm.Term.int (1 : Int32))) (Jvm.Term.int (4 : Int32))) ∈ flatC (Jvm.Cond.and given_1 narrow_1) := List.mem_of_getElem? (i := 8) (by decide +kernel)
theorem lf_7 : (Jvm.Cond.eq (Jvm.Term.elem (Jvm.Term.static "LettersLeaping" "LAW_AT_FIRST" "[I") (Jvm.Term.int (2 : Int32))) (Jvm.Term.int (5 : Int32))) ∈ flatC (Jvm.Cond.and given_1 narrow_1) := List.mem_of_getElem? (i := 9) (by decide +kernel)
theorem lf_8 : (Jvm.Cond.eq (Jvm.Term.elem (Jvm.Term.static "LettersLeaping" "LAW_AT_FIRST" "[I") (Jvm.Term.int (3 : Int32))) (Jvm.Term.int (3 : Int32))) ∈ flatC (Jvm.Cond.and given_1 narrow_1) := List.mem_of_getElem? (i := 10) (by decide +kernel)
theorem lf_9 : (Jvm.Cond.eq (Jvm.Term.elem (Jvm.Term.static "LettersLeaping" "LAW_AT_FIRST" "[I") (Jvm.Term.int (4 : Int32))) (Jvm.Term.int (3 : Int32))) ∈ flatC (Jvm.Cond.and given_1 narrow_1) := List.mem_of_getElem? (i := 11) (by decide +kernel)
theorem lf_10 : (Jvm.Cond.eq (Jvm.Term.elem (Jvm.Term.static "LettersLeaping" "LAW_AT_FIRST" "[I") (Jvm.Term.int (5 : Int32))) (Jvm.Term.int (40 : Int32))) ∈ flatC (Jvm.Cond.and given_1 narrow_1) := List.mem_of_getElem? (i := 12) (by decide +kernel)
theorem lf_11 : (Jvm.Cond.eq (Jvm.Term.elem (Jvm.Term.static "LettersLeaping" "LAW_AT_FIRST" "[I") (Jvm.Term.int (6 : Int32))) (Jvm.Term.int (20 : Int32))) ∈ flatC (Jvm.Cond.and given_1 narrow_1) := List.mem_of_getElem? (i := 13) (by decide +kernel)
theorem lf_12 : (Jvm.Cond.eq (Jvm.Term.elem (Jvm.Term.static "LettersLeaping" "LAW_AT_FIRST" "[I") (Jvm.Term.int (7 : Int32))) (Jvm.Term.int (4 : Int32))) ∈ flatC (Jvm.Cond.and given_1 narrow_1) := List.mem_of_getElem? (i := 14) (by decide +kernel)
theorem lf_13 : (Jvm.Cond.eq (Jvm.Term.elem (Jvm.Term.static "LettersLeaping" "LAW_AT_FIRST" "[I") (Jvm.Term.int (8 : Int32))) (Jvm.Term.int (2 : Int32))) ∈ flatC (Jvm.Cond.and given_1 narrow_1) := List.mem_of_getElem? (i := 15) (by decide +kernel)
theorem lf_15 : (Jvm.Cond.arrayOf (Jvm.Term.static "LettersLeaping" "KIND_ABOVE" "[I") Jvm.ClassFile.FieldType.int) ∈ flatC (Jvm.Cond.and given_1 narrow_1) := List.mem_of_getElem? (i := 17) (by decide +kernel)
theorem lf_16 : (Jvm.Cond.eq (Jvm.Term.length (Jvm.Term.static "LettersLeaping" "KIND_ABOVE" "[I")) (Jvm.Term.int (6 : Int32))) ∈ flatC (Jvm.Cond.and given_1 narrow_1) := List.mem_of_getElem? (i := 18) (by decide +kernel)
theorem lf_17 : (Jvm.Cond.eq (Jvm.Term.elem (Jvm.Term.static "LettersLeaping" "KIND_ABOVE" "[I") (Jvm.Term.int (0 : Int32))) (Jvm.Term.int (-1 : Int32))) ∈ flatC (Jvm.Cond.and given_1 narrow_1) := List.mem_of_getElem? (i := 19) (by decide +kernel)
theorem lf_18 : (Jvm.Cond.eq (Jvm.Term.elem (Jvm.Term.static "LettersLeaping" "KIND_ABOVE" "[I") (Jvm.Term.int (1 : Int32))) (Jvm.Term.int (0 : Int32))) ∈ flatC (Jvm.Cond.and given_1 narrow_1) := List.mem_of_getElem? (i := 20) (by decide +kernel)
theorem lf_19 : (Jvm.Cond.eq (Jvm.Term.elem (Jvm.Term.static "LettersLeaping" "KIND_ABOVE" "[I") (Jvm.Term.int (2 : Int32))) (Jvm.Term.int (1 : Int32))) ∈ flatC (Jvm.Cond.and given_1 narrow_1) := List.mem_of_getElem? (i := 21) (by decide +kernel)
theorem lf_20 : (Jvm.Cond.eq (Jvm.Term.elem (Jvm.Term.static "LettersLeaping" "KIND_ABOVE" "[I") (Jvm.Term.int (3 : Int32))) (Jvm.Term.int (0 : Int32))) ∈ flatC (Jvm.Cond.and given_1 narrow_1) := List.mem_of_getElem? (i := 22) (by decide +kernel)
theorem lf_21 : (Jvm.Cond.eq (Jvm.Term.elem (Jvm.Term.static "LettersLeaping" "KIND_ABOVE" "[I") (Jvm.Term.int (4 : Int32))) (Jvm.Term.int (3 : Int32))) ∈ flatC (Jvm.Cond.and given_1 narrow_1) := List.mem_of_getElem? (i := 23) (by decide +kernel)
theorem lf_22 : (Jvm.Cond.eq (Jvm.Term.elem (Jvm.Term.static "LettersLeaping" "KIND_ABOVE" "[I") (Jvm.Term.int (5 : Int32))) (Jvm.Term.int (0 : Int32))) ∈ flatC (Jvm.Cond.and given_1 narrow_1) := List.mem_of_getElem? (i := 24) (by decide +kernel)
theorem lf_23 : (Jvm.Cond.eq (Jvm.Term.static "java/lang/String" "COMPACT_STRINGS" "Z") (Jvm.Term.int (1 : Int32))) ∈ flatC (Jvm.Cond.and given_1 narrow_1) := List.mem_of_getElem? (i := 25) (by decide +kernel)
theorem lf_24 : (Jvm.Cond.isRef (Jvm.Term.static "jdk/internal/util/Preconditions" "SIOOBE_FORMATTER" "Ljava/util/function/BiFunction;")) ∈ flatC (Jvm.Cond.and given_1 narrow_1) := List.mem_of_getElem? (i := 26) (by decide +kernel)
theorem lf_29 : (Jvm.Cond.arrayOf (Jvm.Term.static "LettersLeaping" "LAW_LEAST" "[I") Jvm.ClassFile.FieldType.int) ∈ flatC (Jvm.Cond.and given_1 narrow_1) := List.mem_of_getElem? (i := 31) (by decide +kernel)
theorem lf_30 : (Jvm.Cond.eq (Jvm.Term.length (Jvm.Term.static "LettersLeaping" "LAW_LEAST" "[I")) (Jvm.Term.int (9 : Int32))) ∈ flatC (Jvm.Cond.and given_1 narrow_1) := List.mem_of_getElem? (i := 32) (by decide +kernel)
theorem lf_31 : (Jvm.Cond.eq (Jvm.Term.elem (Jvm.Term.static "LettersLeaping" "LAW_LEAST" "[I") (Jvm.Term.int (0 : Int32))) (Jvm.Term.int (1 : Int32))) ∈ flatC (Jvm.Cond.and given_1 narrow_1) := List.mem_of_getElem? (i := 33) (by decide +kernel)
theorem lf_32 : (Jvm.Cond.eq (Jvm.Term.elem (Jvm.Term.static "LettersLeaping" "LAW_LEAST" "[I") (Jvm.Term.int (1 : Int32))) (Jvm.Term.int (1 : Int32))) ∈ flatC (Jvm.Cond.and given_1 narrow_1) := List.mem_of_getElem? (i := 34) (by decide +kernel)
theorem lf_33 : (Jvm.Cond.eq (Jvm.Term.elem (Jvm.Term.static "LettersLeaping" "LAW_LEAST" "[I") (Jvm.Term.int (2 : Int32))) (Jvm.Term.int (1 : Int32))) ∈ flatC (Jvm.Cond.and given_1 narrow_1) := List.mem_of_getElem? (i := 35) (by decide +kernel)
theorem lf_34 : (Jvm.Cond.eq (Jvm.Term.elem (Jvm.Term.static "LettersLeaping" "LAW_LEAST" "[I") (Jvm.Term.int (3 : Int32))) (Jvm.Term.int (0 : Int32))) ∈ flatC (Jvm.Cond.and given_1 narrow_1) := List.mem_of_getElem? (i := 36) (by decide +kernel)
theorem lf_35 : (Jvm.Cond.eq (Jvm.Term.elem (Jvm.Term.static "LettersLeaping" "LAW_LEAST" "[I") (Jvm.Term.int (4 : Int32))) (Jvm.Term.int (0 : Int32))) ∈ flatC (Jvm.Cond.and given_1 narrow_1) := List.mem_of_getElem? (i := 37) (by decide +kernel)
theorem lf_36 : (Jvm.Cond.eq (Jvm.Term.elem (Jvm.Term.static "LettersLeaping" "LAW_LEAST" "[I") (Jvm.Term.int (5 : Int32))) (Jvm.Term.int (0 : Int32))) ∈ flatC (Jvm.Cond.and given_1 narrow_1) := List.mem_of_getElem? (i := 38) (by decide +kernel)
theorem lf_37 : (Jvm.Cond.eq (Jvm.Term.elem (Jvm.Term.static "LettersLeaping" "LAW_LEAST" "[I") (Jvm.Term.int (6 : Int32))) (Jvm.Term.int (0 : Int32))) ∈ flatC (Jvm.Cond.and given_1 narrow_1) := List.mem_of_getElem? (i := 39) (by decide +kernel)
theorem lf_38 : (Jvm.Cond.eq (Jvm.Term.elem (Jvm.Term.static "LettersLeaping" "LAW_LEAST" "[I") (Jvm.Term.int (7 : Int32))) (Jvm.Term.int (0 : Int32))) ∈ flatC (Jvm.Cond.and given_1 narrow_1) := List.mem_of_getElem? (i := 40) (by decide +kernel)
theorem lf_39 : (Jvm.Cond.eq (Jvm.Term.elem (Jvm.Term.static "LettersLeaping" "LAW_LEAST" "[I") (Jvm.Term.int (8 : Int32))) (Jvm.Term.int (1 : Int32))) ∈ flatC (Jvm.Cond.and given_1 narrow_1) := List.mem_of_getElem? (i := 41) (by decide +kernel)
theorem lf_41 : (Jvm.Cond.arrayOf (Jvm.Term.static "LettersLeaping" "LAW_MOST" "[I") Jvm.ClassFile.FieldType.int) ∈ flatC (Jvm.Cond.and given_1 narrow_1) := List.mem_of_getElem? (i := 43) (by decide +kernel)
theorem lf_42 : (Jvm.Cond.eq (Jvm.Term.length (Jvm.Term.static "LettersLeaping" "LAW_MOST" "[I")) (Jvm.Term.int (9 : Int32))) ∈ flatC (Jvm.Cond.and given_1 narrow_1) := List.mem_of_getElem? (i := 44) (by decide +kernel)
theorem lf_43 : (Jvm.Cond.eq (Jvm.Term.elem (Jvm.Term.static "LettersLeaping" "LAW_MOST" "[I") (Jvm.Term.int (0 : Int32))) (Jvm.Term.int (99 : Int32))) ∈ flatC (Jvm.Cond.and given_1 narrow_1) := List.mem_of_getElem? (i := 45) (by decide +kernel)
theorem lf_44 : (Jvm.Cond.eq (Jvm.Term.elem (Jvm.Term.static "LettersLeaping" "LAW_MOST" "[I") (Jvm.Term.int (1 : Int32))) (Jvm.Term.int (9 : Int32))) ∈ flatC (Jvm.Cond.and given_1 narrow_1) := List.mem_of_getElem? (i := 46) (by decide +kernel)
theorem lf_45 : (Jvm.Cond.eq (Jvm.Term.elem (Jvm.Term.static "LettersLeaping" "LAW_MOST" "[I") (Jvm.Term.int (2 : Int32))) (Jvm.Term.int (9 : Int32))) ∈ flatC (Jvm.Cond.and given_1 narrow_1) := List.mem_of_getElem? (i := 47) (by decide +kernel)
theorem lf_46 : (Jvm.Cond.eq (Jvm.Term.elem (Jvm.Term.static "LettersLeaping" "LAW_MOST" "[I") (Jvm.Term.int (3 : Int32))) (Jvm.Term.int (99 : Int32))) ∈ flatC (Jvm.Cond.and given_1 narrow_1) := List.mem_of_getElem? (i := 48) (by decide +kernel)
theorem lf_47 : (Jvm.Cond.eq (Jvm.Term.elem (Jvm.Term.static "LettersLeaping" "LAW_MOST" "[I") (Jvm.Term.int (4 : Int32))) (Jvm.Term.int (9 : Int32))) ∈ flatC (Jvm.Cond.and given_1 narrow_1) := List.mem_of_getElem? (i := 49) (by decide +kernel)
theorem lf_48 : (Jvm.Cond.eq (Jvm.Term.elem (Jvm.Term.static "LettersLeaping" "LAW_MOST" "[I") (Jvm.Term.int (5 : Int32))) (Jvm.Term.int (99 : Int32))) ∈ flatC (Jvm.Cond.and given_1 narrow_1) := List.mem_of_getElem? (i := 50) (by decide +kernel)
theorem lf_49 : (Jvm.Cond.eq (Jvm.Term.elem (Jvm.Term.static "LettersLeaping" "LAW_MOST" "[I") (Jvm.Term.int (6 : Int32))) (Jvm.Term.int (99 : Int32))) ∈ flatC (Jvm.Cond.and given_1 narrow_1) := List.mem_of_getElem? (i := 51) (by decide +kernel)
theorem lf_50 : (Jvm.Cond.eq (Jvm.Term.elem (Jvm.Term.static "LettersLeaping" "LAW_MOST" "[I") (Jvm.Term.int (7 : Int32))) (Jvm.Term.int (9 : Int32))) ∈ flatC (Jvm.Cond.and given_1 narrow_1) := List.mem_of_getElem? (i := 52) (by decide +kernel)
theorem lf_51 : (Jvm.Cond.eq (Jvm.Term.elem (Jvm.Term.static "LettersLeaping" "LAW_MOST" "[I") (Jvm.Term.int (8 : Int32))) (Jvm.Term.int (9 : Int32))) ∈ flatC (Jvm.Cond.and given_1 narrow_1) := List.mem_of_getElem? (i := 53) (by decide +kernel)
theorem lf_100 : (Jvm.Cond.exactly (Jvm.Term.string "LettersLeaping$Tape" (72 : Nat)) "java/lang/String") ∈ flatC (Jvm.Cond.and given_1 narrow_1) := List.mem_of_getElem? (i := 102) (by decide +kernel)
theorem lf_101 : (Jvm.Cond.eq (Jvm.Term.field (Jvm.Term.string "LettersLeaping$Tape" (72 : Nat)) "java/lang/String" "coder" "B") (Jvm.Term.int (0 : Int32))) ∈ flatC (Jvm.Cond.and given_1 narrow_1) := List.mem_of_getElem? (i := 103) (by decide +kernel)
theorem lf_102 : (Jvm.Cond.arrayOf (Jvm.Term.field (Jvm.Term.string "LettersLeaping$Tape" (72 : Nat)) "java/lang/String" "value" "[B") Jvm.ClassFile.FieldType.byte) ∈ flatC (Jvm.Cond.and given_1 narrow_1) := List.mem_of_getElem? (i := 104) (by decide +kernel)
theorem lf_103 : (Jvm.Cond.eq (Jvm.Term.length (Jvm.Term.field (Jvm.Term.string "LettersLeaping$Tape" (72 : Nat)) "java/lang/String" "value" "[B")) (Jvm.Term.int (4 : Int32))) ∈ flatC (Jvm.Cond.and given_1 narrow_1) := List.mem_of_getElem? (i := 105) (by decide +kernel)
theorem lf_104 : (Jvm.Cond.eq (Jvm.Term.elem (Jvm.Term.field (Jvm.Term.string "LettersLeaping$Tape" (72 : Nat)) "java/lang/String" "value" "[B") (Jvm.Term.int (0 : Int32))) (Jvm.Term.int (98 : Int32))) ∈ flatC (Jvm.Cond.and given_1 narrow_1) := List.mem_of_getElem? (i := 106) (by decide +kernel)
theorem lf_105 : (Jvm.Cond.eq (Jvm.Term.elem (Jvm.Term.field (Jvm.Term.string "LettersLeaping$Tape" (72 : Nat)) "java/lang/String" "value" "[B") (Jvm.Term.int (1 : Int32))) (Jvm.Term.int (111 : Int32))) ∈ flatC (Jvm.Cond.and given_1 narrow_1) := List.mem_of_getElem? (i := 107) (by decide +kernel)
theorem lf_106 : (Jvm.Cond.eq (Jvm.Term.elem (Jvm.Term.field (Jvm.Term.string "LettersLeaping$Tape" (72 : Nat)) "java/lang/String" "value" "[B") (Jvm.Term.int (2 : Int32))) (Jvm.Term.int (97 : Int32))) ∈ flatC (Jvm.Cond.and given_1 narrow_1) := List.mem_of_getElem? (i := 108) (by decide +kernel)
theorem lf_107 : (Jvm.Cond.eq (Jvm.Term.elem (Jvm.Term.field (Jvm.Term.string "LettersLeaping$Tape" (72 : Nat)) "java/lang/String" "value" "[B") (Jvm.Term.int (3 : Int32))) (Jvm.Term.int (116 : Int32))) ∈ flatC (Jvm.Cond.and given_1 narrow_1) := List.mem_of_getElem? (i := 109) (by decide +kernel)
theorem lf_108 : (Jvm.Cond.exactly (Jvm.Term.string "LettersLeaping$Tape" (74 : Nat)) "java/lang/String") ∈ flatC (Jvm.Cond.and given_1 narrow_1) := List.mem_of_getElem? (i := 110) (by decide +kernel)
theorem lf_109 : (Jvm.Cond.eq (Jvm.Term.field (Jvm.Term.string "LettersLeaping$Tape" (74 : Nat)) "java/lang/String" "coder" "B") (Jvm.Term.int (0 : Int32))) ∈ flatC (Jvm.Cond.and given_1 narrow_1) := List.mem_of_getElem? (i := 111) (by decide +kernel)
theorem lf_110 : (Jvm.Cond.arrayOf (Jvm.Term.field (Jvm.Term.string "LettersLeaping$Tape" (74 : Nat)) "java/lang/String" "value" "[B") Jvm.ClassFile.FieldType.byte) ∈ flatC (Jvm.Cond.and given_1 narrow_1) := List.mem_of_getElem? (i := 112) (by decide +kernel)
theorem lf_111 : (Jvm.Cond.eq (Jvm.Term.length (Jvm.Term.field (Jvm.Term.string "LettersLeaping$Tape" (74 : Nat)) "java/lang/String" "value" "[B")) (Jvm.Term.int (5 : Int32))) ∈ flatC (Jvm.Cond.and given_1 narrow_1) := List.mem_of_getElem? (i := 113) (by decide +kernel)
theorem lf_112 : (Jvm.Cond.eq (Jvm.Term.elem (Jvm.Term.field (Jvm.Term.string "LettersLeaping$Tape" (74 : Nat)) "java/lang/String" "value" "[B") (Jvm.Term.int (0 : Int32))) (Jvm.Term.int (115 : Int32))) ∈ flatC (Jvm.Cond.and given_1 narrow_1) := List.mem_of_getElem? (i := 114) (by decide +kernel)
theorem lf_113 : (Jvm.Cond.eq (Jvm.Term.elem (Jvm.Term.field (Jvm.Term.string "LettersLeaping$Tape" (74 : Nat)) "java/lang/String" "value" "[B") (Jvm.Term.int (1 : Int32))) (Jvm.Term.int (112 : Int32))) ∈ flatC (Jvm.Cond.and given_1 narrow_1) := List.mem_of_getElem? (i := 115) (by decide +kernel)
theorem lf_114 : (Jvm.Cond.eq (Jvm.Term.elem (Jvm.Term.field (Jvm.Term.string "LettersLeaping$Tape" (74 : Nat)) "java/lang/String" "value" "[B") (Jvm.Term.int (2 : Int32))) (Jvm.Term.int (101 : Int32))) ∈ flatC (Jvm.Cond.and given_1 narrow_1) := List.mem_of_getElem? (i := 116) (by decide +kernel)
theorem lf_115 : (Jvm.Cond.eq (Jvm.Term.elem (Jvm.Term.field (Jvm.Term.string "LettersLeaping$Tape" (74 : Nat)) "java/lang/String" "value" "[B") (Jvm.Term.int (3 : Int32))) (Jvm.Term.int (101 : Int32))) ∈ flatC (Jvm.Cond.and given_1 narrow_1) := List.mem_of_getElem? (i := 117) (by decide +kernel)
theorem lf_116 : (Jvm.Cond.eq (Jvm.Term.elem (Jvm.Term.field (Jvm.Term.string "LettersLeaping$Tape" (74 : Nat)) "java/lang/String" "value" "[B") (Jvm.Term.int (4 : Int32))) (Jvm.Term.int (100 : Int32))) ∈ flatC (Jvm.Cond.and given_1 narrow_1) := List.mem_of_getElem? (i := 118) (by decide +kernel)
theorem lf_117 : (Jvm.Cond.not (Jvm.Cond.eq (Jvm.Term.string "LettersLeaping$Tape" (72 : Nat)) (Jvm.Term.string "LettersLeaping$Tape" (74 : Nat)))) ∈ flatC (Jvm.Cond.and given_1 narrow_1) := List.mem_of_getElem? (i := 119) (by decide +kernel)
theorem lf_118 : (Jvm.Cond.exactly (Jvm.Term.string "LettersLeaping$Tape" (76 : Nat)) "java/lang/String") ∈ flatC (Jvm.Cond.and given_1 narrow_1) := List.mem_of_getElem? (i := 120) (by decide +kernel)
theorem lf_119 : (Jvm.Cond.eq (Jvm.Term.field (Jvm.Term.string "LettersLeaping$Tape" (76 : Nat)) "java/lang/String" "coder" "B") (Jvm.Term.int (0 : Int32))) ∈ flatC (Jvm.Cond.and given_1 narrow_1) := List.mem_of_getElem? (i := 121) (by decide +kernel)
theorem lf_120 : (Jvm.Cond.arrayOf (Jvm.Term.field (Jvm.Term.string "LettersLeaping$Tape" (76 : Nat)) "java/lang/String" "value" "[B") Jvm.ClassFile.FieldType.byte) ∈ flatC (Jvm.Cond.and given_1 narrow_1) := List.mem_of_getElem? (i := 122) (by decide +kernel)
theorem lf_121 : (Jvm.Cond.eq (Jvm.Term.length (Jvm.Term.field (Jvm.Term.string "LettersLeaping$Tape" (76 : Nat)) "java/lang/String" "value" "[B")) (Jvm.Term.int (4 : Int32))) ∈ flatC (Jvm.Cond.and given_1 narrow_1) := List.mem_of_getElem? (i := 123) (by decide +kernel)
theorem lf_122 : (Jvm.Cond.eq (Jvm.Term.elem (Jvm.Term.field (Jvm.Term.string "LettersLeaping$Tape" (76 : Nat)) "java/lang/String" "value" "[B") (Jvm.Term.int (0 : Int32))) (Jvm.Term.int (112 : Int32))) ∈ flatC (Jvm.Cond.and given_1 narrow_1) := List.mem_of_getElem? (i := 124) (by decide +kernel)
theorem lf_123 : (Jvm.Cond.eq (Jvm.Term.elem (Jvm.Term.field (Jvm.Term.string "LettersLeaping$Tape" (76 : Nat)) "java/lang/String" "value" "[B") (Jvm.Term.int (1 : Int32))) (Jvm.Term.int (97 : Int32))) ∈ flatC (Jvm.Cond.and given_1 narrow_1) := List.mem_of_getElem? (i := 125) (by decide +kernel)
theorem lf_124 : (Jvm.Cond.eq (Jvm.Term.elem (Jvm.Term.field (Jvm.Term.string "LettersLeaping$Tape" (76 : Nat)) "java/lang/String" "value" "[B") (Jvm.Term.int (2 : Int32))) (Jvm.Term.int (99 : Int32))) ∈ flatC (Jvm.Cond.and given_1 narrow_1) := List.mem_of_getElem? (i := 126) (by decide +kernel)
theorem lf_125 : (Jvm.Cond.eq (Jvm.Term.elem (Jvm.Term.field (Jvm.Term.string "LettersLeaping$Tape" (76 : Nat)) "java/lang/String" "value" "[B") (Jvm.Term.int (3 : Int32))) (Jvm.Term.int (101 : Int32))) ∈ flatC (Jvm.Cond.and given_1 narrow_1) := List.mem_of_getElem? (i := 127) (by decide +kernel)
theorem lf_126 : (Jvm.Cond.not (Jvm.Cond.eq (Jvm.Term.string "LettersLeaping$Tape" (72 : Nat)) (Jvm.Term.string "LettersLeaping$Tape" (76 : Nat)))) ∈ flatC (Jvm.Cond.and given_1 narrow_1) := List.mem_of_getElem? (i := 128) (by decide +kernel)
theorem lf_127 : (Jvm.Cond.not (Jvm.Cond.eq (Jvm.Term.string "LettersLeaping$Tape" (74 : Nat)) (Jvm.Term.string "LettersLeaping$Tape" (76 : Nat)))) ∈ flatC (Jvm.Cond.and given_1 narrow_1) := List.mem_of_getElem? (i := 129) (by decide +kernel)
theorem lf_128 : (Jvm.Cond.exactly (Jvm.Term.string "LettersLeaping$Tape" (78 : Nat)) "java/lang/String") ∈ flatC (Jvm.Cond.and given_1 narrow_1) := List.mem_of_getElem? (i := 130) (by decide +kernel)
theorem lf_129 : (Jvm.Cond.eq (Jvm.Term.field (Jvm.Term.string "LettersLeaping$Tape" (78 : Nat)) "java/lang/String" "coder" "B") (Jvm.Term.int (0 : Int32))) ∈ flatC (Jvm.Cond.and given_1 narrow_1) := List.mem_of_getElem? (i := 131) (by decide +kernel)
theorem lf_130 : (Jvm.Cond.arrayOf (Jvm.Term.field (Jvm.Term.string "LettersLeaping$Tape" (78 : Nat)) "java/lang/String" "value" "[B") Jvm.ClassFile.FieldType.byte) ∈ flatC (Jvm.Cond.and given_1 narrow_1) := List.mem_of_getElem? (i := 132) (by decide +kernel)
theorem lf_131 : (Jvm.Cond.eq (Jvm.Term.length (Jvm.Term.field (Jvm.Term.string "LettersLeaping$Tape" (78 : Nat)) "java/lang/String" "value" "[B")) (Jvm.Term.int (3 : Int32))) ∈ flatC (Jvm.Cond.and given_1 narrow_1) := List.mem_of_getElem? (i := 133) (by decide +kernel)
theorem lf_132 : (Jvm.Cond.eq (Jvm.Term.elem (Jvm.Term.field (Jvm.Term.string "LettersLeaping$Tape" (78 : Nat)) "java/lang/String" "value" "[B") (Jvm.Term.int (0 : Int32))) (Jvm.Term.int (98 : Int32))) ∈ flatC (Jvm.Cond.and given_1 narrow_1) := List.mem_of_getElem? (i := 134) (by decide +kernel)
theorem lf_133 : (Jvm.Cond.eq (Jvm.Term.elem (Jvm.Term.field (Jvm.Term.string "LettersLeaping$Tape" (78 : Nat)) "java/lang/String" "value" "[B") (Jvm.Term.int (1 : Int32))) (Jvm.Term.int (111 : Int32))) ∈ flatC (Jvm.Cond.and given_1 narrow_1) := List.mem_of_getElem? (i := 135) (by decide +kernel)
theorem lf_134 : (Jvm.Cond.eq (Jvm.Term.elem (Jvm.Term.field (Jvm.Term.string "LettersLeaping$Tape" (78 : Nat)) "java/lang/String" "value" "[B") (Jvm.Term.int (2 : Int32))) (Jvm.Term.int (120 : Int32))) ∈ flatC (Jvm.Cond.and given_1 narrow_1) := List.mem_of_getElem? (i := 136) (by decide +kernel)
theorem lf_135 : (Jvm.Cond.not (Jvm.Cond.eq (Jvm.Term.string "LettersLeaping$Tape" (72 : Nat)) (Jvm.Term.string "LettersLeaping$Tape" (78 : Nat)))) ∈ flatC (Jvm.Cond.and given_1 narrow_1) := List.mem_of_getElem? (i := 137) (by decide +kernel)
theorem lf_136 : (Jvm.Cond.not (Jvm.Cond.eq (Jvm.Term.string "LettersLeaping$Tape" (74 : Nat)) (Jvm.Term.string "LettersLeaping$Tape" (78 : Nat)))) ∈ flatC (Jvm.Cond.and given_1 narrow_1) := List.mem_of_getElem? (i := 138) (by decide +kernel)
theorem lf_137 : (Jvm.Cond.not (Jvm.Cond.eq (Jvm.Term.string "LettersLeaping$Tape" (76 : Nat)) (Jvm.Term.string "LettersLeaping$Tape" (78 : Nat)))) ∈ flatC (Jvm.Cond.and given_1 narrow_1) := List.mem_of_getElem? (i := 139) (by decide +kernel)
theorem lf_138 : (Jvm.Cond.exactly (Jvm.Term.string "LettersLeaping$Tape" (80 : Nat)) "java/lang/String") ∈ flatC (Jvm.Cond.and given_1 narrow_1) := List.mem_of_getElem? (i := 140) (by decide +kernel)
theorem lf_139 : (Jvm.Cond.eq (Jvm.Term.field (Jvm.Term.string "LettersLeaping$Tape" (80 : Nat)) "java/lang/String" "coder" "B") (Jvm.Term.int (0 : Int32))) ∈ flatC (Jvm.Cond.and given_1 narrow_1) := List.mem_of_getElem? (i := 141) (by decide +kernel)
theorem lf_140 : (Jvm.Cond.arrayOf (Jvm.Term.field (Jvm.Term.string "LettersLeaping$Tape" (80 : Nat)) "java/lang/String" "value" "[B") Jvm.ClassFile.FieldType.byte) ∈ flatC (Jvm.Cond.and given_1 narrow_1) := List.mem_of_getElem? (i := 142) (by decide +kernel)
theorem lf_141 : (Jvm.Cond.eq (Jvm.Term.length (Jvm.Term.field (Jvm.Term.string "LettersLeaping$Tape" (80 : Nat)) "java/lang/String" "value" "[B")) (Jvm.Term.int (4 : Int32))) ∈ flatC (Jvm.Cond.and given_1 narrow_1) := List.mem_of_getElem? (i := 143) (by decide +kernel)
theorem lf_142 : (Jvm.Cond.eq (Jvm.Term.elem (Jvm.Term.field (Jvm.Term.string "LettersLeaping$Tape" (80 : Nat)) "java/lang/String" "value" "[B") (Jvm.Term.int (0 : Int32))) (Jvm.Term.int (104 : Int32))) ∈ flatC (Jvm.Cond.and given_1 narrow_1) := List.mem_of_getElem? (i := 144) (by decide +kernel)
theorem lf_143 : (Jvm.Cond.eq (Jvm.Term.elem (Jvm.Term.field (Jvm.Term.string "LettersLeaping$Tape" (80 : Nat)) "java/lang/String" "value" "[B") (Jvm.Term.int (1 : Int32))) (Jvm.Term.int (105 : Int32))) ∈ flatC (Jvm.Cond.and given_1 narrow_1) := List.mem_of_getElem? (i := 145) (by decide +kernel)
theorem lf_144 : (Jvm.Cond.eq (Jvm.Term.elem (Jvm.Term.field (Jvm.Term.string "LettersLeaping$Tape" (80 : Nat)) "java/lang/String" "value" "[B") (Jvm.Term.int (2 : Int32))) (Jvm.Term.int (103 : Int32))) ∈ flatC (Jvm.Cond.and given_1 narrow_1) := List.mem_of_getElem? (i := 146) (by decide +kernel)
theorem lf_145 : (Jvm.Cond.eq (Jvm.Term.elem (Jvm.Term.field (Jvm.Term.string "LettersLeaping$Tape" (80 : Nat)) "java/lang/String" "value" "[B") (Jvm.Term.int (3 : Int32))) (Jvm.Term.int (104 : Int32))) ∈ flatC (Jvm.Cond.and given_1 narrow_1) := List.mem_of_getElem? (i := 147) (by decide +kernel)
theorem lf_146 : (Jvm.Cond.not (Jvm.Cond.eq (Jvm.Term.string "LettersLeaping$Tape" (72 : Nat)) (Jvm.Term.string "LettersLeaping$Tape" (80 : Nat)))) ∈ flatC (Jvm.Cond.and given_1 narrow_1) := List.mem_of_getElem? (i := 148) (by decide +kernel)
theorem lf_147 : (Jvm.Cond.not (Jvm.Cond.eq (Jvm.Term.string "LettersLeaping$Tape" (74 : Nat)) (Jvm.Term.string "LettersLeaping$Tape" (80 : Nat)))) ∈ flatC (Jvm.Cond.and given_1 narrow_1) := List.mem_of_getElem? (i := 149) (by decide +kernel)
theorem lf_148 : (Jvm.Cond.not (Jvm.Cond.eq (Jvm.Term.string "LettersLeaping$Tape" (76 : Nat)) (Jvm.Term.string "LettersLeaping$Tape" (80 : Nat)))) ∈ flatC (Jvm.Cond.and given_1 narrow_1) := List.mem_of_getElem? (i := 150) (by decide +kernel)
theorem lf_149 : (Jvm.Cond.not (Jvm.Cond.eq (Jvm.Term.string "LettersLeaping$Tape" (78 : Nat)) (Jvm.Term.string "LettersLeaping$Tape" (80 : Nat)))) ∈ flatC (Jvm.Cond.and given_1 narrow_1) := List.mem_of_getElem? (i := 151) (by decide +kernel)
theorem lf_150 : (Jvm.Cond.exactly (Jvm.Term.string "LettersLeaping$Tape" (82 : Nat)) "java/lang/String") ∈ flatC (Jvm.Cond.and given_1 narrow_1) := List.mem_of_getElem? (i := 152) (by decide +kernel)
theorem lf_151 : (Jvm.Cond.eq (Jvm.Term.field (Jvm.Term.string "LettersLeaping$Tape" (82 : Nat)) "java/lang/String" "coder" "B") (Jvm.Term.int (0 : Int32))) ∈ flatC (Jvm.Cond.and given_1 narrow_1) := List.mem_of_getElem? (i := 153) (by decide +kernel)
theorem lf_152 : (Jvm.Cond.arrayOf (Jvm.Term.field (Jvm.Term.string "LettersLeaping$Tape" (82 : Nat)) "java/lang/String" "value" "[B") Jvm.ClassFile.FieldType.byte) ∈ flatC (Jvm.Cond.and given_1 narrow_1) := List.mem_of_getElem? (i := 154) (by decide +kernel)
theorem lf_153 : (Jvm.Cond.eq (Jvm.Term.length (Jvm.Term.field (Jvm.Term.string "LettersLeaping$Tape" (82 : Nat)) "java/lang/String" "value" "[B")) (Jvm.Term.int (3 : Int32))) ∈ flatC (Jvm.Cond.and given_1 narrow_1) := List.mem_of_getElem? (i := 155) (by decide +kernel)
theorem lf_154 : (Jvm.Cond.eq (Jvm.Term.elem (Jvm.Term.field (Jvm.Term.string "LettersLeaping$Tape" (82 : Nat)) "java/lang/String" "value" "[B") (Jvm.Term.int (0 : Int32))) (Jvm.Term.int (119 : Int32))) ∈ flatC (Jvm.Cond.and given_1 narrow_1) := List.mem_of_getElem? (i := 156) (by decide +kernel)
theorem lf_155 : (Jvm.Cond.eq (Jvm.Term.elem (Jvm.Term.field (Jvm.Term.string "LettersLeaping$Tape" (82 : Nat)) "java/lang/String" "value" "[B") (Jvm.Term.int (1 : Int32))) (Jvm.Term.int (101 : Int32))) ∈ flatC (Jvm.Cond.and given_1 narrow_1) := List.mem_of_getElem? (i := 157) (by decide +kernel)
theorem lf_156 : (Jvm.Cond.eq (Jvm.Term.elem (Jvm.Term.field (Jvm.Term.string "LettersLeaping$Tape" (82 : Nat)) "java/lang/String" "value" "[B") (Jvm.Term.int (2 : Int32))) (Jvm.Term.int (116 : Int32))) ∈ flatC (Jvm.Cond.and given_1 narrow_1) := List.mem_of_getElem? (i := 158) (by decide +kernel)
theorem lf_157 : (Jvm.Cond.not (Jvm.Cond.eq (Jvm.Term.string "LettersLeaping$Tape" (72 : Nat)) (Jvm.Term.string "LettersLeaping$Tape" (82 : Nat)))) ∈ flatC (Jvm.Cond.and given_1 narrow_1) := List.mem_of_getElem? (i := 159) (by decide +kernel)
theorem lf_158 : (Jvm.Cond.not (Jvm.Cond.eq (Jvm.Term.string "LettersLeaping$Tape" (74 : Nat)) (Jvm.Term.string "LettersLeaping$Tape" (82 : Nat)))) ∈ flatC (Jvm.Cond.and given_1 narrow_1) := List.mem_of_getElem? (i := 160) (by decide +kernel)
theorem lf_159 : (Jvm.Cond.not (Jvm.Cond.eq (Jvm.Term.string "LettersLeaping$Tape" (76 : Nat)) (Jvm.Term.string "LettersLeaping$Tape" (82 : Nat)))) ∈ flatC (Jvm.Cond.and given_1 narrow_1) := List.mem_of_getElem? (i := 161) (by decide +kernel)
theorem lf_160 : (Jvm.Cond.not (Jvm.Cond.eq (Jvm.Term.string "LettersLeaping$Tape" (78 : Nat)) (Jvm.Term.string "LettersLeaping$Tape" (82 : Nat)))) ∈ flatC (Jvm.Cond.and given_1 narrow_1) := List.mem_of_getElem? (i := 162) (by decide +kernel)
theorem lf_161 : (Jvm.Cond.not (Jvm.Cond.eq (Jvm.Term.string "LettersLeaping$Tape" (80 : Nat)) (Jvm.Term.string "LettersLeaping$Tape" (82 : Nat)))) ∈ flatC (Jvm.Cond.and given_1 narrow_1) := List.mem_of_getElem? (i := 163) (by decide +kernel)
theorem lf_162 : (Jvm.Cond.exactly (Jvm.Term.string "LettersLeaping$Tape" (84 : Nat)) "java/lang/String") ∈ flatC (Jvm.Cond.and given_1 narrow_1) := List.mem_of_getElem? (i := 164) (by decide +kernel)
theorem lf_163 : (Jvm.Cond.eq (Jvm.Term.field (Jvm.Term.string "LettersLeaping$Tape" (84 : Nat)) "java/lang/String" "coder" "B") (Jvm.Term.int (0 : Int32))) ∈ flatC (Jvm.Cond.and given_1 narrow_1) := List.mem_of_getElem? (i := 165) (by decide +kernel)
theorem lf_164 : (Jvm.Cond.arrayOf (Jvm.Term.field (Jvm.Term.string "LettersLeaping$Tape" (84 : Nat)) "java/lang/String" "value" "[B") Jvm.ClassFile.FieldType.byte) ∈ flatC (Jvm.Cond.and given_1 narrow_1) := List.mem_of_getElem? (i := 166) (by decide +kernel)
theorem lf_165 : (Jvm.Cond.eq (Jvm.Term.length (Jvm.Term.field (Jvm.Term.string "LettersLeaping$Tape" (84 : Nat)) "java/lang/String" "value" "[B")) (Jvm.Term.int (4 : Int32))) ∈ flatC (Jvm.Cond.and given_1 narrow_1) := List.mem_of_getElem? (i := 167) (by decide +kernel)
theorem lf_166 : (Jvm.Cond.eq (Jvm.Term.elem (Jvm.Term.field (Jvm.Term.string "LettersLeaping$Tape" (84 : Nat)) "java/lang/String" "value" "[B") (Jvm.Term.int (0 : Int32))) (Jvm.Term.int (119 : Int32))) ∈ flatC (Jvm.Cond.and given_1 narrow_1) := List.mem_of_getElem? (i := 168) (by decide +kernel)
theorem lf_167 : (Jvm.Cond.eq (Jvm.Term.elem (Jvm.Term.field (Jvm.Term.string "LettersLeaping$Tape" (84 : Nat)) "java/lang/String" "value" "[B") (Jvm.Term.int (1 : Int32))) (Jvm.Term.int (105 : Int32))) ∈ flatC (Jvm.Cond.and given_1 narrow_1) := List.mem_of_getElem? (i := 169) (by decide +kernel)
theorem lf_168 : (Jvm.Cond.eq (Jvm.Term.elem (Jvm.Term.field (Jvm.Term.string "LettersLeaping$Tape" (84 : Nat)) "java/lang/String" "value" "[B") (Jvm.Term.int (2 : Int32))) (Jvm.Term.int (110 : Int32))) ∈ flatC (Jvm.Cond.and given_1 narrow_1) := List.mem_of_getElem? (i := 170) (by decide +kernel)
theorem lf_169 : (Jvm.Cond.eq (Jvm.Term.elem (Jvm.Term.field (Jvm.Term.string "LettersLeaping$Tape" (84 : Nat)) "java/lang/String" "value" "[B") (Jvm.Term.int (3 : Int32))) (Jvm.Term.int (100 : Int32))) ∈ flatC (Jvm.Cond.and given_1 narrow_1) := List.mem_of_getElem? (i := 171) (by decide +kernel)
theorem lf_170 : (Jvm.Cond.not (Jvm.Cond.eq (Jvm.Term.string "LettersLeaping$Tape" (72 : Nat)) (Jvm.Term.string "LettersLeaping$Tape" (84 : Nat)))) ∈ flatC (Jvm.Cond.and given_1 narrow_1) := List.mem_of_getElem? (i := 172) (by decide +kernel)
theorem lf_171 : (Jvm.Cond.not (Jvm.Cond.eq (Jvm.Term.string "LettersLeaping$Tape" (74 : Nat)) (Jvm.Term.string "LettersLeaping$Tape" (84 : Nat)))) ∈ flatC (Jvm.Cond.and given_1 narrow_1) := List.mem_of_getElem? (i := 173) (by decide +kernel)
theorem lf_172 : (Jvm.Cond.not (Jvm.Cond.eq (Jvm.Term.string "LettersLeaping$Tape" (76 : Nat)) (Jvm.Term.string "LettersLeaping$Tape" (84 : Nat)))) ∈ flatC (Jvm.Cond.and given_1 narrow_1) := List.mem_of_getElem? (i := 174) (by decide +kernel)
theorem lf_173 : (Jvm.Cond.not (Jvm.Cond.eq (Jvm.Term.string "LettersLeaping$Tape" (78 : Nat)) (Jvm.Term.string "LettersLeaping$Tape" (84 : Nat)))) ∈ flatC (Jvm.Cond.and given_1 narrow_1) := List.mem_of_getElem? (i := 175) (by decide +kernel)
theorem lf_174 : (Jvm.Cond.not (Jvm.Cond.eq (Jvm.Term.string "LettersLeaping$Tape" (80 : Nat)) (Jvm.Term.string "LettersLeaping$Tape" (84 : Nat)))) ∈ flatC (Jvm.Cond.and given_1 narrow_1) := List.mem_of_getElem? (i := 176) (by decide +kernel)
theorem lf_175 : (Jvm.Cond.not (Jvm.Cond.eq (Jvm.Term.string "LettersLeaping$Tape" (82 : Nat)) (Jvm.Term.string "LettersLeaping$Tape" (84 : Nat)))) ∈ flatC (Jvm.Cond.and given_1 narrow_1) := List.mem_of_getElem? (i := 177) (by decide +kernel)
theorem lf_176 : (Jvm.Cond.exactly (Jvm.Term.string "LettersLeaping$Tape" (86 : Nat)) "java/lang/String") ∈ flatC (Jvm.Cond.and given_1 narrow_1) := List.mem_of_getElem? (i := 178) (by decide +kernel)
theorem lf_177 : (Jvm.Cond.eq (Jvm.Term.field (Jvm.Term.string "LettersLeaping$Tape" (86 : Nat)) "java/lang/String" "coder" "B") (Jvm.Term.int (0 : Int32))) ∈ flatC (Jvm.Cond.and given_1 narrow_1) := List.mem_of_getElem? (i := 179) (by decide +kernel)
theorem lf_178 : (Jvm.Cond.arrayOf (Jvm.Term.field (Jvm.Term.string "LettersLeaping$Tape" (86 : Nat)) "java/lang/String" "value" "[B") Jvm.ClassFile.FieldType.byte) ∈ flatC (Jvm.Cond.and given_1 narrow_1) := List.mem_of_getElem? (i := 180) (by decide +kernel)
theorem lf_179 : (Jvm.Cond.eq (Jvm.Term.length (Jvm.Term.field (Jvm.Term.string "LettersLeaping$Tape" (86 : Nat)) "java/lang/String" "value" "[B")) (Jvm.Term.int (5 : Int32))) ∈ flatC (Jvm.Cond.and given_1 narrow_1) := List.mem_of_getElem? (i := 181) (by decide +kernel)
theorem lf_180 : (Jvm.Cond.eq (Jvm.Term.elem (Jvm.Term.field (Jvm.Term.string "LettersLeaping$Tape" (86 : Nat)) "java/lang/String" "value" "[B") (Jvm.Term.int (0 : Int32))) (Jvm.Term.int (115 : Int32))) ∈ flatC (Jvm.Cond.and given_1 narrow_1) := List.mem_of_getElem? (i := 182) (by decide +kernel)
theorem lf_181 : (Jvm.Cond.eq (Jvm.Term.elem (Jvm.Term.field (Jvm.Term.string "LettersLeaping$Tape" (86 : Nat)) "java/lang/String" "value" "[B") (Jvm.Term.int (1 : Int32))) (Jvm.Term.int (107 : Int32))) ∈ flatC (Jvm.Cond.and given_1 narrow_1) := List.mem_of_getElem? (i := 183) (by decide +kernel)
theorem lf_182 : (Jvm.Cond.eq (Jvm.Term.elem (Jvm.Term.field (Jvm.Term.string "LettersLeaping$Tape" (86 : Nat)) "java/lang/String" "value" "[B") (Jvm.Term.int (2 : Int32))) (Jvm.Term.int (105 : Int32))) ∈ flatC (Jvm.Cond.and given_1 narrow_1) := List.mem_of_getElem? (i := 184) (by decide +kernel)
theorem lf_183 : (Jvm.Cond.eq (Jvm.Term.elem (Jvm.Term.field (Jvm.Term.string "LettersLeaping$Tape" (86 : Nat)) "java/lang/String" "value" "[B") (Jvm.Term.int (3 : Int32))) (Jvm.Term.int (108 : Int32))) ∈ flatC (Jvm.Cond.and given_1 narrow_1) := List.mem_of_getElem? (i := 185) (by decide +kernel)
theorem lf_184 : (Jvm.Cond.eq (Jvm.Term.elem (Jvm.Term.field (Jvm.Term.string "LettersLeaping$Tape" (86 : Nat)) "java/lang/String" "value" "[B") (Jvm.Term.int (4 : Int32))) (Jvm.Term.int (108 : Int32))) ∈ flatC (Jvm.Cond.and given_1 narrow_1) := List.mem_of_getElem? (i := 186) (by decide +kernel)
theorem lf_185 : (Jvm.Cond.not (Jvm.Cond.eq (Jvm.Term.string "LettersLeaping$Tape" (72 : Nat)) (Jvm.Term.string "LettersLeaping$Tape" (86 : Nat)))) ∈ flatC (Jvm.Cond.and given_1 narrow_1) := List.mem_of_getElem? (i := 187) (by decide +kernel)
theorem lf_186 : (Jvm.Cond.not (Jvm.Cond.eq (Jvm.Term.string "LettersLeaping$Tape" (74 : Nat)) (Jvm.Term.string "LettersLeaping$Tape" (86 : Nat)))) ∈ flatC (Jvm.Cond.and given_1 narrow_1) := List.mem_of_getElem? (i := 188) (by decide +kernel)
theorem lf_187 : (Jvm.Cond.not (Jvm.Cond.eq (Jvm.Term.string "LettersLeaping$Tape" (76 : Nat)) (Jvm.Term.string "LettersLeaping$Tape" (86 : Nat)))) ∈ flatC (Jvm.Cond.and given_1 narrow_1) := List.mem_of_getElem? (i := 189) (by decide +kernel)
theorem lf_188 : (Jvm.Cond.not (Jvm.Cond.eq (Jvm.Term.string "LettersLeaping$Tape" (78 : Nat)) (Jvm.Term.string "LettersLeaping$Tape" (86 : Nat)))) ∈ flatC (Jvm.Cond.and given_1 narrow_1) := List.mem_of_getElem? (i := 190) (by decide +kernel)
theorem lf_189 : (Jvm.Cond.not (Jvm.Cond.eq (Jvm.Term.string "LettersLeaping$Tape" (80 : Nat)) (Jvm.Term.string "LettersLeaping$Tape" (86 : Nat)))) ∈ flatC (Jvm.Cond.and given_1 narrow_1) := List.mem_of_getElem? (i := 191) (by decide +kernel)
theorem lf_190 : (Jvm.Cond.not (Jvm.Cond.eq (Jvm.Term.string "LettersLeaping$Tape" (82 : Nat)) (Jvm.Term.string "LettersLeaping$Tape" (86 : Nat)))) ∈ flatC (Jvm.Cond.and given_1 narrow_1) := List.mem_of_getElem? (i := 192) (by decide +kernel)
theorem lf_191 : (Jvm.Cond.not (Jvm.Cond.eq (Jvm.Term.string "LettersLeaping$Tape" (84 : Nat)) (Jvm.Term.string "LettersLeaping$Tape" (86 : Nat)))) ∈ flatC (Jvm.Cond.and given_1 narrow_1) := List.mem_of_getElem? (i := 193) (by decide +kernel)
theorem lf_192 : (Jvm.Cond.exactly (Jvm.Term.string "LettersLeaping$Tape" (88 : Nat)) "java/lang/String") ∈ flatC (Jvm.Cond.and given_1 narrow_1) := List.mem_of_getElem? (i := 194) (by decide +kernel)
theorem lf_193 : (Jvm.Cond.eq (Jvm.Term.field (Jvm.Term.string "LettersLeaping$Tape" (88 : Nat)) "java/lang/String" "coder" "B") (Jvm.Term.int (0 : Int32))) ∈ flatC (Jvm.Cond.and given_1 narrow_1) := List.mem_of_getElem? (i := 195) (by decide +kernel)
theorem lf_194 : (Jvm.Cond.arrayOf (Jvm.Term.field (Jvm.Term.string "LettersLeaping$Tape" (88 : Nat)) "java/lang/String" "value" "[B") Jvm.ClassFile.FieldType.byte) ∈ flatC (Jvm.Cond.and given_1 narrow_1) := List.mem_of_getElem? (i := 196) (by decide +kernel)
theorem lf_195 : (Jvm.Cond.eq (Jvm.Term.length (Jvm.Term.field (Jvm.Term.string "LettersLeaping$Tape" (88 : Nat)) "java/lang/String" "value" "[B")) (Jvm.Term.int (3 : Int32))) ∈ flatC (Jvm.Cond.and given_1 narrow_1) := List.mem_of_getElem? (i := 197) (by decide +kernel)
theorem lf_196 : (Jvm.Cond.eq (Jvm.Term.elem (Jvm.Term.field (Jvm.Term.string "LettersLeaping$Tape" (88 : Nat)) "java/lang/String" "value" "[B") (Jvm.Term.int (0 : Int32))) (Jvm.Term.int (108 : Int32))) ∈ flatC (Jvm.Cond.and given_1 narrow_1) := List.mem_of_getElem? (i := 198) (by decide +kernel)
theorem lf_197 : (Jvm.Cond.eq (Jvm.Term.elem (Jvm.Term.field (Jvm.Term.string "LettersLeaping$Tape" (88 : Nat)) "java/lang/String" "value" "[B") (Jvm.Term.int (1 : Int32))) (Jvm.Term.int (101 : Int32))) ∈ flatC (Jvm.Cond.and given_1 narrow_1) := List.mem_of_getElem? (i := 199) (by decide +kernel)
theorem lf_198 : (Jvm.Cond.eq (Jvm.Term.elem (Jvm.Term.field (Jvm.Term.string "LettersLeaping$Tape" (88 : Nat)) "java/lang/String" "value" "[B") (Jvm.Term.int (2 : Int32))) (Jvm.Term.int (103 : Int32))) ∈ flatC (Jvm.Cond.and given_1 narrow_1) := List.mem_of_getElem? (i := 200) (by decide +kernel)
theorem lf_199 : (Jvm.Cond.not (Jvm.Cond.eq (Jvm.Term.string "LettersLeaping$Tape" (72 : Nat)) (Jvm.Term.string "LettersLeaping$Tape" (88 : Nat)))) ∈ flatC (Jvm.Cond.and given_1 narrow_1) := List.mem_of_getElem? (i := 201) (by decide +kernel)
theorem lf_200 : (Jvm.Cond.not (Jvm.Cond.eq (Jvm.Term.string "LettersLeaping$Tape" (74 : Nat)) (Jvm.Term.string "LettersLeaping$Tape" (88 : Nat)))) ∈ flatC (Jvm.Cond.and given_1 narrow_1) := List.mem_of_getElem? (i := 202) (by decide +kernel)
theorem lf_201 : (Jvm.Cond.not (Jvm.Cond.eq (Jvm.Term.string "LettersLeaping$Tape" (76 : Nat)) (Jvm.Term.string "LettersLeaping$Tape" (88 : Nat)))) ∈ flatC (Jvm.Cond.and given_1 narrow_1) := List.mem_of_getElem? (i := 203) (by decide +kernel)
theorem lf_202 : (Jvm.Cond.not (Jvm.Cond.eq (Jvm.Term.string "LettersLeaping$Tape" (78 : Nat)) (Jvm.Term.string "LettersLeaping$Tape" (88 : Nat)))) ∈ flatC (Jvm.Cond.and given_1 narrow_1) := List.mem_of_getElem? (i := 204) (by decide +kernel)
theorem lf_203 : (Jvm.Cond.not (Jvm.Cond.eq (Jvm.Term.string "LettersLeaping$Tape" (80 : Nat)) (Jvm.Term.string "LettersLeaping$Tape" (88 : Nat)))) ∈ flatC (Jvm.Cond.and given_1 narrow_1) := List.mem_of_getElem? (i := 205) (by decide +kernel)
theorem lf_204 : (Jvm.Cond.not (Jvm.Cond.eq (Jvm.Term.string "LettersLeaping$Tape" (82 : Nat)) (Jvm.Term.string "LettersLeaping$Tape" (88 : Nat)))) ∈ flatC (Jvm.Cond.and given_1 narrow_1) := List.mem_of_getElem? (i := 206) (by decide +kernel)
theorem lf_205 : (Jvm.Cond.not (Jvm.Cond.eq (Jvm.Term.string "LettersLeaping$Tape" (84 : Nat)) (Jvm.Term.string "LettersLeaping$Tape" (88 : Nat)))) ∈ flatC (Jvm.Cond.and given_1 narrow_1) := List.mem_of_getElem? (i := 207) (by decide +kernel)
theorem lf_206 : (Jvm.Cond.not (Jvm.Cond.eq (Jvm.Term.string "LettersLeaping$Tape" (86 : Nat)) (Jvm.Term.string "LettersLeaping$Tape" (88 : Nat)))) ∈ flatC (Jvm.Cond.and given_1 narrow_1) := List.mem_of_getElem? (i := 208) (by decide +kernel)
theorem lf_215 : (Jvm.Cond.eq (Jvm.Term.string "LettersLeaping$Tape" (72 : Nat)) (Jvm.Term.string "LettersLeapingModel" (163 : Nat))) ∈ flatC (Jvm.Cond.and given_1 narrow_1) := List.mem_of_getElem? (i := 217) (by decide +kernel)
theorem lf_234 : (Jvm.Cond.eq (Jvm.Term.string "LettersLeaping$Tape" (74 : Nat)) (Jvm.Term.string "LettersLeapingModel" (169 : Nat))) ∈ flatC (Jvm.Cond.and given_1 narrow_1) := List.mem_of_getElem? (i := 236) (by decide +kernel)
theorem lf_253 : (Jvm.Cond.eq (Jvm.Term.string "LettersLeaping$Tape" (76 : Nat)) (Jvm.Term.string "LettersLeapingModel" (171 : Nat))) ∈ flatC (Jvm.Cond.and given_1 narrow_1) := List.mem_of_getElem? (i := 255) (by decide +kernel)
theorem lf_272 : (Jvm.Cond.eq (Jvm.Term.string "LettersLeaping$Tape" (78 : Nat)) (Jvm.Term.string "LettersLeapingModel" (173 : Nat))) ∈ flatC (Jvm.Cond.and given_1 narrow_1) := List.mem_of_getElem? (i := 274) (by decide +kernel)
theorem lf_293 : (Jvm.Cond.eq (Jvm.Term.string "LettersLeaping$Tape" (80 : Nat)) (Jvm.Term.string "LettersLeapingModel" (175 : Nat))) ∈ flatC (Jvm.Cond.and given_1 narrow_1) := List.mem_of_getElem? (i := 295) (by decide +kernel)
theorem lf_314 : (Jvm.Cond.eq (Jvm.Term.string "LettersLeaping$Tape" (82 : Nat)) (Jvm.Term.string "LettersLeapingModel" (177 : Nat))) ∈ flatC (Jvm.Cond.and given_1 narrow_1) := List.mem_of_getElem? (i := 316) (by decide +kernel)
theorem lf_337 : (Jvm.Cond.eq (Jvm.Term.string "LettersLeaping$Tape" (84 : Nat)) (Jvm.Term.string "LettersLeapingModel" (179 : Nat))) ∈ flatC (Jvm.Cond.and given_1 narrow_1) := List.mem_of_getElem? (i := 339) (by decide +kernel)
theorem lf_362 : (Jvm.Cond.eq (Jvm.Term.string "LettersLeaping$Tape" (86 : Nat)) (Jvm.Term.string "LettersLeapingModel" (181 : Nat))) ∈ flatC (Jvm.Cond.and given_1 narrow_1) := List.mem_of_getElem? (i := 364) (by decide +kernel)
theorem lf_386 : (Jvm.Cond.eq (Jvm.Term.string "LettersLeaping$Tape" (88 : Nat)) (Jvm.Term.string "LettersLeapingModel" (183 : Nat))) ∈ flatC (Jvm.Cond.and given_1 narrow_1) := List.mem_of_getElem? (i := 388) (by decide +kernel)
set_option maxRecDepth 100000 in
set_option maxHeartbeats 4000000 in
theorem stat_SV {args : Array Value} {s : State} (hg : (Jvm.Cond.and given_1 narrow_1).before args s = true) (hts : ∀ w ∈ lw_tbl, w.before args s = true) : ∃ sa : Nat → Nat, SV (adf s.heap.size sa) (fun q => s.heap.size ≤ q) s ∧ ∃ t0, adf s.heap.size sa 300 = t0 ∧ va_X t0 9 (fun j => sv0.getD j 0) s s.heap ∧ va_Z RX10 "LAW_AT_FIRST" "[I" (.ref t0) (fun q => s.heap.size ≤ q) s s.heap ∧ t0 < s.heap.size := by
  have hs := flat_of_before _ hg
  have hA : ∀ a : Nat, a < s.heap.size → ¬ (fun q => s.heap.size ≤ q) a := fun a h z => absurd h (Nat.not_lt.mpr z)
  have el0 : ∀ j : Nat, j < 9 → (Term.elem (Jvm.Term.static "LettersLeaping" "LAW_AT_FIRST" "[I") (.int (Int32.ofNat j))).eval args s none [] s = some (.int (sv0.getD j 0)) := fun j hj => by
    rcases (show j = 0 ∨ j = 1 ∨ j = 2 ∨ j = 3 ∨ j = 4 ∨ j = 5 ∨ j = 6 ∨ j = 7 ∨ j = 8 by omega) with rfl | rfl | rfl | rfl | rfl | rfl | rfl | rfl | rfl
    · exact va_eqt (hs _ lf_5)
    · exact va_eqt (hs _ lf_6)
    · exact va_eqt (hs _ lf_7)
    · exact va_eqt (hs _ lf_8)
    · exact va_eqt (hs _ lf_9)
    · exact va_eqt (hs _ lf_10)
    · exact va_eqt (hs _ lf_11)
    · exact va_eqt (hs _ lf_12)
    · exact va_eqt (hs _ lf_13)
  obtain ⟨t0, e0, x0, l0⟩ := va_Xof (f := fun j => sv0.getD j 0) (by decide) (hs _ lf_3) (va_eqt (hs _ lf_4)) el0
  obtain ⟨u0, g0, T0⟩ := va_Tof (A := fun q => s.heap.size ≤ q) (f := fun j => .int (sv0.getD j 0)) (by decide) (hs _ lf_3) (va_eqt (hs _ lf_4)) el0 hA
  cases e0.symm.trans g0
  have Z0 : va_Z "LettersLeaping" "LAW_AT_FIRST" "[I" (.ref t0) (fun q => s.heap.size ≤ q) s s.heap := va_Zof (hts _ (tb_1 (List.mem_of_getElem? (i := 144) (by decide +kernel)))) (hts _ (tb_1 (List.mem_of_getElem? (i := 1) (by decide +kernel)))) e0 hA
  have el1 : ∀ j : Nat, j < 9 → (Term.elem (Jvm.Term.static "LettersLeaping" "LAW_LEAST" "[I") (.int (Int32.ofNat j))).eval args s none [] s = some (.int (sv1.getD j 0)) := fun j hj => by
    rcases (show j = 0 ∨ j = 1 ∨ j = 2 ∨ j = 3 ∨ j = 4 ∨ j = 5 ∨ j = 6 ∨ j = 7 ∨ j = 8 by omega) with rfl | rfl | rfl | rfl | rfl | rfl | rfl | rfl | rfl
    · exact va_eqt (hs _ lf_31)
    · exact va_eqt (hs _ lf_32)
    · exact va_eqt (hs _ lf_33)
    · exact va_eqt (hs _ lf_34)
    · exact va_eqt (hs _ lf_35)
    · exact va_eqt (hs _ lf_36)
    · exact va_eqt (hs _ lf_37)
    · exact va_eqt (hs _ lf_38)
    · exact va_eqt (hs _ lf_39)
  obtain ⟨t1, e1, T1⟩ := va_Tof (A := fun q => s.heap.size ≤ q) (f := fun j => .int (sv1.getD j 0)) (by decide) (hs _ lf_29) (va_eqt (hs _ lf_30)) el1 hA
  have Z1 : va_Z "LettersLeaping" "LAW_LEAST" "[I" (.ref t1) (fun q => s.heap.size ≤ q) s s.heap := va_Zof (hts _ (tb_3 (List.mem_of_getElem? (i := 197) (by decide +kernel)))) (hts _ (tb_1 (List.mem_of_getElem? (i := 1) (by decide +kernel)))) e1 hA
  have el2 : ∀ j : Nat, j < 9 → (Term.elem (Jvm.Term.static "LettersLeaping" "LAW_MOST" "[I") (.int (Int32.ofNat j))).eval args s none [] s = some (.int (sv2.getD j 0)) := fun j hj => by
    rcases (show j = 0 ∨ j = 1 ∨ j = 2 ∨ j = 3 ∨ j = 4 ∨ j = 5 ∨ j = 6 ∨ j = 7 ∨ j = 8 by omega) with rfl | rfl | rfl | rfl | rfl | rfl | rfl | rfl | rfl
    · exact va_eqt (hs _ lf_43)
    · exact va_eqt (hs _ lf_44)
    · exact va_eqt (hs _ lf_45)
    · exact va_eqt (hs _ lf_46)
    · exact va_eqt (hs _ lf_47)
    · exact va_eqt (hs _ lf_48)
    · exact va_eqt (hs _ lf_49)
    · exact va_eqt (hs _ lf_50)
    · exact va_eqt (hs _ lf_51)
  obtain ⟨t2, e2, T2⟩ := va_Tof (A := fun q => s.heap.size ≤ q) (f := fun j => .int (sv2.getD j 0)) (by decide) (hs _ lf_41) (va_eqt (hs _ lf_42)) el2 hA
  have Z2 : va_Z "LettersLeaping" "LAW_MOST" "[I" (.ref t2) (fun q => s.heap.size ≤ q) s s.heap := va_Zof (hts _ (tb_3 (List.mem_of_getElem? (i := 199) (by decide +kernel)))) (hts _ (tb_1 (List.mem_of_getElem? (i := 1) (by decide +kernel)))) e2 hA
  have el3 : ∀ j : Nat, j < 6 → (Term.elem (Jvm.Term.static "LettersLeaping" "KIND_ABOVE" "[I") (.int (Int32.ofNat j))).eval args s none [] s = some (.int (sv3.getD j 0)) := fun j hj => by
    rcases (show j = 0 ∨ j = 1 ∨ j = 2 ∨ j = 3 ∨ j = 4 ∨ j = 5 by omega) with rfl | rfl | rfl | rfl | rfl | rfl
    · exact va_eqt (hs _ lf_17)
    · exact va_eqt (hs _ lf_18)
    · exact va_eqt (hs _ lf_19)
    · exact va_eqt (hs _ lf_20)
    · exact va_eqt (hs _ lf_21)
    · exact va_eqt (hs _ lf_22)
  obtain ⟨t3, e3, T3⟩ := va_Tof (A := fun q => s.heap.size ≤ q) (f := fun j => .int (sv3.getD j 0)) (by decide) (hs _ lf_15) (va_eqt (hs _ lf_16)) el3 hA
  have Z3 : va_Z "LettersLeaping" "KIND_ABOVE" "[I" (.ref t3) (fun q => s.heap.size ≤ q) s s.heap := va_Zof (hts _ (tb_3 (List.mem_of_getElem? (i := 5) (by decide +kernel)))) (hts _ (tb_1 (List.mem_of_getElem? (i := 1) (by decide +kernel)))) e3 hA
  have ZC : va_Z "java/lang/String" "COMPACT_STRINGS" "Z" (.int 1) (fun q => s.heap.size ≤ q) s s.heap := va_Zof (hts _ (tb_3 (List.mem_of_getElem? (i := 153) (by decide +kernel)))) (hts _ (tb_1 (List.mem_of_getElem? (i := 15) (by decide +kernel)))) (va_eqt (hs _ lf_23)) hA
  have ZP : va_Zq "jdk/internal/util/Preconditions" "SIOOBE_FORMATTER" "Ljava/util/function/BiFunction;" (fun q => s.heap.size ≤ q) s s.heap := va_Zqof (hts _ (tb_3 (List.mem_of_getElem? (i := 169) (by decide +kernel)))) (hts _ (tb_1 (List.mem_of_getElem? (i := 17) (by decide +kernel)))) (hs _ lf_24) hA
  have hex : ∀ i : Nat, i < 9 → (Cond.exactly (Jvm.Term.string "LettersLeaping$Tape" (svI.getD i 0)) "java/lang/String").before args s = true := fun i hi => by
    rcases (show i = 0 ∨ i = 1 ∨ i = 2 ∨ i = 3 ∨ i = 4 ∨ i = 5 ∨ i = 6 ∨ i = 7 ∨ i = 8 by omega) with rfl | rfl | rfl | rfl | rfl | rfl | rfl | rfl | rfl
    · exact hs _ lf_100
    · exact hs _ lf_108
    · exact hs _ lf_118
    · exact hs _ lf_128
    · exact hs _ lf_138
    · exact hs _ lf_150
    · exact hs _ lf_162
    · exact hs _ lf_176
    · exact hs _ lf_192
  have hco : ∀ i : Nat, i < 9 → (Cond.eq (.field (Jvm.Term.string "LettersLeaping$Tape" (svI.getD i 0)) "java/lang/String" "coder" "B") (.int 0)).before args s = true := fun i hi => by
    rcases (show i = 0 ∨ i = 1 ∨ i = 2 ∨ i = 3 ∨ i = 4 ∨ i = 5 ∨ i = 6 ∨ i = 7 ∨ i = 8 by omega) with rfl | rfl | rfl | rfl | rfl | rfl | rfl | rfl | rfl
    · exact hs _ lf_101
    · exact hs _ lf_109
    · exact hs _ lf_119
    · exact hs _ lf_129
    · exact hs _ lf_139
    · exact hs _ lf_151
    · exact hs _ lf_163
    · exact hs _ lf_177
    · exact hs _ lf_193
  have har : ∀ i : Nat, i < 9 → (Cond.arrayOf (.field (Jvm.Term.string "LettersLeaping$Tape" (svI.getD i 0)) "java/lang/String" "value" "[B") .byte).before args s = true := fun i hi => by
    rcases (show i = 0 ∨ i = 1 ∨ i = 2 ∨ i = 3 ∨ i = 4 ∨ i = 5 ∨ i = 6 ∨ i = 7 ∨ i = 8 by omega) with rfl | rfl | rfl | rfl | rfl | rfl | rfl | rfl | rfl
    · exact hs _ lf_102
    · exact hs _ lf_110
    · exact hs _ lf_120
    · exact hs _ lf_130
    · exact hs _ lf_140
    · exact hs _ lf_152
    · exact hs _ lf_164
    · exact hs _ lf_178
    · exact hs _ lf_194
  have hle : ∀ i : Nat, i < 9 → (Cond.eq (.length (.field (Jvm.Term.string "LettersLeaping$Tape" (svI.getD i 0)) "java/lang/String" "value" "[B")) (.int (Int32.ofNat (svN.getD i 0)))).before args s = true := fun i hi => by
    rcases (show i = 0 ∨ i = 1 ∨ i = 2 ∨ i = 3 ∨ i = 4 ∨ i = 5 ∨ i = 6 ∨ i = 7 ∨ i = 8 by omega) with rfl | rfl | rfl | rfl | rfl | rfl | rfl | rfl | rfl
    · exact hs _ lf_103
    · exact hs _ lf_111
    · exact hs _ lf_121
    · exact hs _ lf_131
    · exact hs _ lf_141
    · exact hs _ lf_153
    · exact hs _ lf_165
    · exact hs _ lf_179
    · exact hs _ lf_195
  have hel : ∀ i : Nat, i < 9 → ∀ j : Nat, j < svN.getD i 0 → (Cond.eq (.elem (.field (Jvm.Term.string "LettersLeaping$Tape" (svI.getD i 0)) "java/lang/String" "value" "[B") (.int (Int32.ofNat j))) (.int ((svB.getD i []).getD j 0))).before args s = true := fun i hi j hj => by
    rcases (show i = 0 ∨ i = 1 ∨ i = 2 ∨ i = 3 ∨ i = 4 ∨ i = 5 ∨ i = 6 ∨ i = 7 ∨ i = 8 by omega) with rfl | rfl | rfl | rfl | rfl | rfl | rfl | rfl | rfl
    · rcases (show j = 0 ∨ j = 1 ∨ j = 2 ∨ j = 3 by have : j < 4 := hj; omega) with rfl | rfl | rfl | rfl
      · exact hs _ lf_104
      · exact hs _ lf_105
      · exact hs _ lf_106
      · exact hs _ lf_107
    · rcases (show j = 0 ∨ j = 1 ∨ j = 2 ∨ j = 3 ∨ j = 4 by have : j < 5 := hj; omega) with rfl | rfl | rfl | rfl | rfl
      · exact hs _ lf_112
      · exact hs _ lf_113
      · exact hs _ lf_114
      · exact hs _ lf_115
      · exact hs _ lf_116
    · rcases (show j = 0 ∨ j = 1 ∨ j = 2 ∨ j = 3 by have : j < 4 := hj; omega) with rfl | rfl | rfl | rfl
      · exact hs _ lf_122
      · exact hs _ lf_123
      · exact hs _ lf_124
      · exact hs _ lf_125
    · rcases (show j = 0 ∨ j = 1 ∨ j = 2 by have : j < 3 := hj; omega) with rfl | rfl | rfl
      · exact hs _ lf_132
      · exact hs _ lf_133
      · exact hs _ lf_134
    · rcases (show j = 0 ∨ j = 1 ∨ j = 2 ∨ j = 3 by have : j < 4 := hj; omega) with rfl | rfl | rfl | rfl
      · exact hs _ lf_142
      · exact hs _ lf_143
      · exact hs _ lf_144
      · exact hs _ lf_145
    · rcases (show j = 0 ∨ j = 1 ∨ j = 2 by have : j < 3 := hj; omega) with rfl | rfl | rfl
      · exact hs _ lf_154
      · exact hs _ lf_155
      · exact hs _ lf_156
    · rcases (show j = 0 ∨ j = 1 ∨ j = 2 ∨ j = 3 by have : j < 4 := hj; omega) with rfl | rfl | rfl | rfl
      · exact hs _ lf_166
      · exact hs _ lf_167
      · exact hs _ lf_168
      · exact hs _ lf_169
    · rcases (show j = 0 ∨ j = 1 ∨ j = 2 ∨ j = 3 ∨ j = 4 by have : j < 5 := hj; omega) with rfl | rfl | rfl | rfl | rfl
      · exact hs _ lf_180
      · exact hs _ lf_181
      · exact hs _ lf_182
      · exact hs _ lf_183
      · exact hs _ lf_184
    · rcases (show j = 0 ∨ j = 1 ∨ j = 2 by have : j < 3 := hj; omega) with rfl | rfl | rfl
      · exact hs _ lf_196
      · exact hs _ lf_197
      · exact hs _ lf_198
  have hne : ∀ i j : Nat, i < 9 → j < 9 → i ≠ j → (Cond.not (Cond.eq (Jvm.Term.string "LettersLeaping$Tape" (svI.getD i 0)) (Jvm.Term.string "LettersLeaping$Tape" (svI.getD j 0)))).before args s = true ∨ (Cond.not (Cond.eq (Jvm.Term.string "LettersLeaping$Tape" (svI.getD j 0)) (Jvm.Term.string "LettersLeaping$Tape" (svI.getD i 0)))).before args s = true := fun i j hi hj hij => by
    rcases (show i = 0 ∨ i = 1 ∨ i = 2 ∨ i = 3 ∨ i = 4 ∨ i = 5 ∨ i = 6 ∨ i = 7 ∨ i = 8 by omega) with rfl | rfl | rfl | rfl | rfl | rfl | rfl | rfl | rfl
    · rcases (show j = 0 ∨ j = 1 ∨ j = 2 ∨ j = 3 ∨ j = 4 ∨ j = 5 ∨ j = 6 ∨ j = 7 ∨ j = 8 by omega) with rfl | rfl | rfl | rfl | rfl | rfl | rfl | rfl | rfl
      · exact absurd rfl hij
      · exact Or.inl (hs _ lf_117)
      · exact Or.inl (hs _ lf_126)
      · exact Or.inl (hs _ lf_135)
      · exact Or.inl (hs _ lf_146)
      · exact Or.inl (hs _ lf_157)
      · exact Or.inl (hs _ lf_170)
      · exact Or.inl (hs _ lf_185)
      · exact Or.inl (hs _ lf_199)
    · rcases (show j = 0 ∨ j = 1 ∨ j = 2 ∨ j = 3 ∨ j = 4 ∨ j = 5 ∨ j = 6 ∨ j = 7 ∨ j = 8 by omega) with rfl | rfl | rfl | rfl | rfl | rfl | rfl | rfl | rfl
      · exact Or.inr (hs _ lf_117)
      · exact absurd rfl hij
      · exact Or.inl (hs _ lf_127)
      · exact Or.inl (hs _ lf_136)
      · exact Or.inl (hs _ lf_147)
      · exact Or.inl (hs _ lf_158)
      · exact Or.inl (hs _ lf_171)
      · exact Or.inl (hs _ lf_186)
      · exact Or.inl (hs _ lf_200)
    · rcases (show j = 0 ∨ j = 1 ∨ j = 2 ∨ j = 3 ∨ j = 4 ∨ j = 5 ∨ j = 6 ∨ j = 7 ∨ j = 8 by omega) with rfl | rfl | rfl | rfl | rfl | rfl | rfl | rfl | rfl
      · exact Or.inr (hs _ lf_126)
      · exact Or.inr (hs _ lf_127)
      · exact absurd rfl hij
      · exact Or.inl (hs _ lf_137)
      · exact Or.inl (hs _ lf_148)
      · exact Or.inl (hs _ lf_159)
      · exact Or.inl (hs _ lf_172)
      · exact Or.inl (hs _ lf_187)
      · exact Or.inl (hs _ lf_201)
    · rcases (show j = 0 ∨ j = 1 ∨ j = 2 ∨ j = 3 ∨ j = 4 ∨ j = 5 ∨ j = 6 ∨ j = 7 ∨ j = 8 by omega) with rfl | rfl | rfl | rfl | rfl | rfl | rfl | rfl | rfl
      · exact Or.inr (hs _ lf_135)
      · exact Or.inr (hs _ lf_136)
      · exact Or.inr (hs _ lf_137)
      · exact absurd rfl hij
      · exact Or.inl (hs _ lf_149)
      · exact Or.inl (hs _ lf_160)
      · exact Or.inl (hs _ lf_173)
      · exact Or.inl (hs _ lf_188)
      · exact Or.inl (hs _ lf_202)
    · rcases (show j = 0 ∨ j = 1 ∨ j = 2 ∨ j = 3 ∨ j = 4 ∨ j = 5 ∨ j = 6 ∨ j = 7 ∨ j = 8 by omega) with rfl | rfl | rfl | rfl | rfl | rfl | rfl | rfl | rfl
      · exact Or.inr (hs _ lf_146)
      · exact Or.inr (hs _ lf_147)
      · exact Or.inr (hs _ lf_148)
      · exact Or.inr (hs _ lf_149)
      · exact absurd rfl hij
      · exact Or.inl (hs _ lf_161)
      · exact Or.inl (hs _ lf_174)
      · exact Or.inl (hs _ lf_189)
      · exact Or.inl (hs _ lf_203)
    · rcases (show j = 0 ∨ j = 1 ∨ j = 2 ∨ j = 3 ∨ j = 4 ∨ j = 5 ∨ j = 6 ∨ j = 7 ∨ j = 8 by omega) with rfl | rfl | rfl | rfl | rfl | rfl | rfl | rfl | rfl
      · exact Or.inr (hs _ lf_157)
      · exact Or.inr (hs _ lf_158)
      · exact Or.inr (hs _ lf_159)
      · exact Or.inr (hs _ lf_160)
      · exact Or.inr (hs _ lf_161)
      · exact absurd rfl hij
      · exact Or.inl (hs _ lf_175)
      · exact Or.inl (hs _ lf_190)
      · exact Or.inl (hs _ lf_204)
    · rcases (show j = 0 ∨ j = 1 ∨ j = 2 ∨ j = 3 ∨ j = 4 ∨ j = 5 ∨ j = 6 ∨ j = 7 ∨ j = 8 by omega) with rfl | rfl | rfl | rfl | rfl | rfl | rfl | rfl | rfl
      · exact Or.inr (hs _ lf_170)
      · exact Or.inr (hs _ lf_171)
      · exact Or.inr (hs _ lf_172)
      · exact Or.inr (hs _ lf_173)
      · exact Or.inr (hs _ lf_174)
      · exact Or.inr (hs _ lf_175)
      · exact absurd rfl hij
      · exact Or.inl (hs _ lf_191)
      · exact Or.inl (hs _ lf_205)
    · rcases (show j = 0 ∨ j = 1 ∨ j = 2 ∨ j = 3 ∨ j = 4 ∨ j = 5 ∨ j = 6 ∨ j = 7 ∨ j = 8 by omega) with rfl | rfl | rfl | rfl | rfl | rfl | rfl | rfl | rfl
      · exact Or.inr (hs _ lf_185)
      · exact Or.inr (hs _ lf_186)
      · exact Or.inr (hs _ lf_187)
      · exact Or.inr (hs _ lf_188)
      · exact Or.inr (hs _ lf_189)
      · exact Or.inr (hs _ lf_190)
      · exact Or.inr (hs _ lf_191)
      · exact absurd rfl hij
      · exact Or.inl (hs _ lf_206)
    · rcases (show j = 0 ∨ j = 1 ∨ j = 2 ∨ j = 3 ∨ j = 4 ∨ j = 5 ∨ j = 6 ∨ j = 7 ∨ j = 8 by omega) with rfl | rfl | rfl | rfl | rfl | rfl | rfl | rfl | rfl
      · exact Or.inr (hs _ lf_199)
      · exact Or.inr (hs _ lf_200)
      · exact Or.inr (hs _ lf_201)
      · exact Or.inr (hs _ lf_202)
      · exact Or.inr (hs _ lf_203)
      · exact Or.inr (hs _ lf_204)
      · exact Or.inr (hs _ lf_205)
      · exact Or.inr (hs _ lf_206)
      · exact absurd rfl hij
  obtain ⟨adK, adV, hS, hev⟩ := vk_Sof (N := 9) (tm := fun i => (Jvm.Term.string "LettersLeaping$Tape" (svI.getD i 0))) (len := svN) (byt := svB) (A := fun q => s.heap.size ≤ q) (by decide) hex hco har hle hel hne hA
  have hRK : ∀ i, i < 9 → vk_R RX6 (svI.getD i 0) (svT.getD i "") (adK i) s := fun i hi => vk_R.of (A := args) (by
    rcases (show i = 0 ∨ i = 1 ∨ i = 2 ∨ i = 3 ∨ i = 4 ∨ i = 5 ∨ i = 6 ∨ i = 7 ∨ i = 8 by omega) with rfl | rfl | rfl | rfl | rfl | rfl | rfl | rfl | rfl
    · exact hts _ (tb_3 (List.mem_of_getElem? (i := 131) (by decide +kernel)))
    · exact hts _ (tb_3 (List.mem_of_getElem? (i := 132) (by decide +kernel)))
    · exact hts _ (tb_3 (List.mem_of_getElem? (i := 133) (by decide +kernel)))
    · exact hts _ (tb_3 (List.mem_of_getElem? (i := 134) (by decide +kernel)))
    · exact hts _ (tb_3 (List.mem_of_getElem? (i := 135) (by decide +kernel)))
    · exact hts _ (tb_3 (List.mem_of_getElem? (i := 136) (by decide +kernel)))
    · exact hts _ (tb_3 (List.mem_of_getElem? (i := 137) (by decide +kernel)))
    · exact hts _ (tb_3 (List.mem_of_getElem? (i := 138) (by decide +kernel)))
    · exact hts _ (tb_3 (List.mem_of_getElem? (i := 139) (by decide +kernel)))) (hev i hi)
  have hRM : ∀ i, i < 9 → vk_R RX11 (svJ.getD i 0) (svT.getD i "") (adK i) s := fun i hi => vk_R.of (A := args) (by
    rcases (show i = 0 ∨ i = 1 ∨ i = 2 ∨ i = 3 ∨ i = 4 ∨ i = 5 ∨ i = 6 ∨ i = 7 ∨ i = 8 by omega) with rfl | rfl | rfl | rfl | rfl | rfl | rfl | rfl | rfl
    · exact hts _ (tb_6 (List.mem_of_getElem? (i := 51) (by decide +kernel)))
    · exact hts _ (tb_6 (List.mem_of_getElem? (i := 58) (by decide +kernel)))
    · exact hts _ (tb_6 (List.mem_of_getElem? (i := 59) (by decide +kernel)))
    · exact hts _ (tb_6 (List.mem_of_getElem? (i := 60) (by decide +kernel)))
    · exact hts _ (tb_6 (List.mem_of_getElem? (i := 61) (by decide +kernel)))
    · exact hts _ (tb_6 (List.mem_of_getElem? (i := 62) (by decide +kernel)))
    · exact hts _ (tb_6 (List.mem_of_getElem? (i := 63) (by decide +kernel)))
    · exact hts _ (tb_6 (List.mem_of_getElem? (i := 64) (by decide +kernel)))
    · exact hts _ (tb_6 (List.mem_of_getElem? (i := 65) (by decide +kernel)))) (by
    rcases (show i = 0 ∨ i = 1 ∨ i = 2 ∨ i = 3 ∨ i = 4 ∨ i = 5 ∨ i = 6 ∨ i = 7 ∨ i = 8 by omega) with rfl | rfl | rfl | rfl | rfl | rfl | rfl | rfl | rfl
    · exact va_eqR (hs _ lf_215) (hev 0 (by omega))
    · exact va_eqR (hs _ lf_234) (hev 1 (by omega))
    · exact va_eqR (hs _ lf_253) (hev 2 (by omega))
    · exact va_eqR (hs _ lf_272) (hev 3 (by omega))
    · exact va_eqR (hs _ lf_293) (hev 4 (by omega))
    · exact va_eqR (hs _ lf_314) (hev 5 (by omega))
    · exact va_eqR (hs _ lf_337) (hev 6 (by omega))
    · exact va_eqR (hs _ lf_362) (hev 7 (by omega))
    · exact va_eqR (hs _ lf_386) (hev 8 (by omega)))
  refine ⟨fun k => if k = 300 then t0 else if k = 301 then t1 else if k = 302 then t2 else if k = 303 then t3 else if k < 500 then adK (k - 400) else adV (k - 500), ?_⟩
  generalize hsa : (fun k => if k = 300 then t0 else if k = 301 then t1 else if k = 302 then t2 else if k = 303 then t3 else if k < 500 then adK (k - 400) else adV (k - 500)) = sa
  have q0 : adf s.heap.size sa 300 = t0 := by rw [adf_ge (by omega), ← hsa]; rfl
  have q1 : adf s.heap.size sa 301 = t1 := by rw [adf_ge (by omega), ← hsa]; rfl
  have q2 : adf s.heap.size sa 302 = t2 := by rw [adf_ge (by omega), ← hsa]; rfl
  have q3 : adf s.heap.size sa 303 = t3 := by rw [adf_ge (by omega), ← hsa]; rfl
  have qK : ∀ i, i < 9 → adf s.heap.size sa (i + 400) = adK i := fun i hi => by
    rw [adf_ge (by omega), ← hsa]
    dsimp only
    rw [if_neg (by omega), if_neg (by omega), if_neg (by omega), if_neg (by omega), if_pos (by omega), Nat.add_sub_cancel]
  have qV : ∀ i, i < 9 → adf s.heap.size sa (i + 500) = adV i := fun i hi => by
    rw [adf_ge (by omega), ← hsa]
    dsimp only
    rw [if_neg (by omega), if_neg (by omega), if_neg (by omega), if_neg (by omega), if_neg (by omega), Nat.add_sub_cancel]
  refine ⟨?_, t0, q0, x0, Z0, l0⟩
  unfold SV
  rw [q0, q1, q2, q3]
  refine ⟨⟨Z0, x0, l0, hA _ l0, T0⟩, ⟨Z1, T1⟩, ⟨Z2, T2⟩, ⟨Z3, T3⟩, ⟨ZC, ZP⟩, ⟨fun i hi => ?_, fun i j hi hj e => ?_⟩, fun i hi => ?_, fun i hi => ?_⟩
  · dsimp only
    rw [qK i hi, qV i hi]
    exact hS.1 i hi
  · dsimp only at e
    rw [qK i hi, qK j hj] at e
    exact hS.2 i j hi hj e
  · rw [qK i hi]; exact hRK i hi
  · rw [qK i hi]; exact hRM i hi
