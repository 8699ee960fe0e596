theorem blk_1 {M N : Mem} (h1 : ∀ q, q ≠ 159 → N.1 q = M.1 q) (h2 : N.2 = M.2) {r B n : Nat} (hr : r ≠ 159) : (∀ q, q ≠ 159 → (rowI N 159 (va_cpy (N.1 r) (N.1 159) 0 B n)).1 q = M.1 q) ∧ (rowI N 159 (va_cpy (N.1 r) (N.1 159) 0 B n)).2 = M.2 ∧ (∀ j, j < n → (rowI N 159 (va_cpy (N.1 r) (N.1 159) 0 B n)).1 159 (j + B) = M.1 r j) ∧ ∀ i, i < B → (rowI N 159 (va_cpy (N.1 r) (N.1 159) 0 B n)).1 159 i = N.1 159 i := by
  refine ⟨fun q hq => by rw [rowI_1, if_neg hq, h1 q hq], h2, fun j hj => ?_, fun i hi => ?_⟩
  · rw [rowI_1, if_pos rfl]
    unfold va_cpy
    rw [if_pos (by omega), h1 r hr]
    exact congrArg (M.1 r) (by omega)
  · rw [rowI_1, if_pos rfl]
    unfold va_cpy
    rw [if_neg (by omega)]
theorem blk_0 {N : Mem} {r B n : Nat} : (∀ q, q ≠ r → (rowI N r (va_cpy (N.1 159) (N.1 r) B 0 n)).1 q = N.1 q) ∧ (rowI N r (va_cpy (N.1 159) (N.1 r) B 0 n)).2 = N.2 ∧ (∀ j, j < n → (rowI N r (va_cpy (N.1 159) (N.1 r) B 0 n)).1 r j = N.1 159 (j + B)) := by
  refine ⟨fun q hq => by rw [rowI_1, if_neg hq], rfl, fun j hj => ?_⟩
  rw [rowI_1, if_pos rfl]
  unfold va_cpy
  rw [if_pos (by omega)]
  exact congrArg (N.1 159) (by omega)
theorem moveAll_1 (M : Mem) : ∃ N', fm_moveAll M 1 = some N' ∧ (∀ q, q ≠ 159 → N'.1 q = M.1 q) ∧ N'.2 = M.2 ∧ (∀ j, j < 9 → N'.1 159 (j + 0) = M.1 156 j) ∧ (∀ j, j < 28 → N'.1 159 (j + 9) = M.1 157 j) ∧ (∀ j, j < 12 → N'.1 159 (j + 37) = M.1 155 j) ∧ (∀ j, j < 20 → N'.1 159 (j + 49) = M.1 142 j) ∧ (∀ j, j < 20 → N'.1 159 (j + 69) = M.1 143 j) ∧ (∀ j, j < 20 → N'.1 159 (j + 89) = M.1 144 j) ∧ (∀ j, j < 20 → N'.1 159 (j + 109) = M.1 145 j) ∧ (∀ j, j < 20 → N'.1 159 (j + 129) = M.1 146 j) ∧ (∀ j, j < 54 → N'.1 159 (j + 149) = M.1 148 j) ∧ (∀ j, j < 6 → N'.1 159 (j + 203) = M.1 149 j) ∧ (∀ j, j < 6 → N'.1 159 (j + 209) = M.1 150 j) ∧ (∀ j, j < 6 → N'.1 159 (j + 215) = M.1 151 j) ∧ (∀ j, j < 10 → N'.1 159 (j + 221) = M.1 152 j) ∧ (∀ j, j < 10 → N'.1 159 (j + 231) = M.1 153 j) ∧ (∀ j, j < 10 → N'.1 159 (j + 241) = M.1 154 j) := by
  have a0 : ∀ q, q ≠ 159 → M.1 q = M.1 q := fun _ _ => rfl
  have b0 : M.2 = M.2 := rfl
  unfold fm_moveAll
  rw [show (0 : Int32) = nI 0 from rfl]
  rw [mo]
  simp only [Option.bind_some]
  obtain ⟨a1, b1, c1, d1⟩ := blk_1 (M := M) (N := M) a0 b0 (r := 156) (B := 0) (n := 9) (by omega)
  generalize rowI M 159 (va_cpy (M.1 156) (M.1 159) 0 0 9) = N1 at *
  rw [mo_2]
  simp only [Option.bind_some]
  obtain ⟨a2, b2, c2, d2⟩ := blk_1 (M := M) (N := N1) a1 b1 (r := 157) (B := 9) (n := 28) (by omega)
  generalize rowI N1 159 (va_cpy (N1.1 157) (N1.1 159) 0 9 28) = N2 at *
  rw [mo_3]
  simp only [Option.bind_some]
  obtain ⟨a3, b3, c3, d3⟩ := blk_1 (M := M) (N := N2) a2 b2 (r := 155) (B := 37) (n := 12) (by omega)
  generalize rowI N2 159 (va_cpy (N2.1 155) (N2.1 159) 0 37 12) = N3 at *
  rw [mo_4]
  simp only [Option.bind_some]
  obtain ⟨a4, b4, c4, d4⟩ := blk_1 (M := M) (N := N3) a3 b3 (r := 142) (B := 49) (n := 20) (by omega)
  generalize rowI N3 159 (va_cpy (N3.1 142) (N3.1 159) 0 49 20) = N4 at *
  rw [mo_5]
  simp only [Option.bind_some]
  obtain ⟨a5, b5, c5, d5⟩ := blk_1 (M := M) (N := N4) a4 b4 (r := 143) (B := 69) (n := 20) (by omega)
  generalize rowI N4 159 (va_cpy (N4.1 143) (N4.1 159) 0 69 20) = N5 at *
  rw [mo_6]
  simp only [Option.bind_some]
  obtain ⟨a6, b6, c6, d6⟩ := blk_1 (M := M) (N := N5) a5 b5 (r := 144) (B := 89) (n := 20) (by omega)
  generalize rowI N5 159 (va_cpy (N5.1 144) (N5.1 159) 0 89 20) = N6 at *
  rw [mo_7]
  simp only [Option.bind_some]
  obtain ⟨a7, b7, c7, d7⟩ := blk_1 (M := M) (N := N6) a6 b6 (r := 145) (B := 109) (n := 20) (by omega)
  generalize rowI N6 159 (va_cpy (N6.1 145) (N6.1 159) 0 109 20) = N7 at *
  rw [mo_8]
  simp only [Option.bind_some]
  obtain ⟨a8, b8, c8, d8⟩ := blk_1 (M := M) (N := N7) a7 b7 (r := 146) (B := 129) (n := 20) (by omega)
  generalize rowI N7 159 (va_cpy (N7.1 146) (N7.1 159) 0 129 20) = N8 at *
  rw [mo_9]
  simp only [Option.bind_some]
  obtain ⟨a9, b9, c9, d9⟩ := blk_1 (M := M) (N := N8) a8 b8 (r := 148) (B := 149) (n := 54) (by omega)
  generalize rowI N8 159 (va_cpy (N8.1 148) (N8.1 159) 0 149 54) = N9 at *
  rw [mo_10]
  simp only [Option.bind_some]
  obtain ⟨a10, b10, c10, d10⟩ := blk_1 (M := M) (N := N9) a9 b9 (r := 149) (B := 203) (n := 6) (by omega)
  generalize rowI N9 159 (va_cpy (N9.1 149) (N9.1 159) 0 203 6) = N10 at *
  rw [mo_11]
  simp only [Option.bind_some]
  obtain ⟨a11, b11, c11, d11⟩ := blk_1 (M := M) (N := N10) a10 b10 (r := 150) (B := 209) (n := 6) (by omega)
  generalize rowI N10 159 (va_cpy (N10.1 150) (N10.1 159) 0 209 6) = N11 at *
  rw [mo_12]
  simp only [Option.bind_some]
  obtain ⟨a12, b12, c12, d12⟩ := blk_1 (M := M) (N := N11) a11 b11 (r := 151) (B := 215) (n := 6) (by omega)
  generalize rowI N11 159 (va_cpy (N11.1 151) (N11.1 159) 0 215 6) = N12 at *
  rw [mo_13]
  simp only [Option.bind_some]
  obtain ⟨a13, b13, c13, d13⟩ := blk_1 (M := M) (N := N12) a12 b12 (r := 152) (B := 221) (n := 10) (by omega)
  generalize rowI N12 159 (va_cpy (N12.1 152) (N12.1 159) 0 221 10) = N13 at *
  rw [mo_14]
  simp only [Option.bind_some]
  obtain ⟨a14, b14, c14, d14⟩ := blk_1 (M := M) (N := N13) a13 b13 (r := 153) (B := 231) (n := 10) (by omega)
  generalize rowI N13 159 (va_cpy (N13.1 153) (N13.1 159) 0 231 10) = N14 at *
  rw [mo_15]
  simp only [Option.bind_some]
  obtain ⟨a15, b15, c15, d15⟩ := blk_1 (M := M) (N := N14) a14 b14 (r := 154) (B := 241) (n := 10) (by omega)
  generalize rowI N14 159 (va_cpy (N14.1 154) (N14.1 159) 0 241 10) = N15 at *
  exact ⟨_, rfl, a15, b15, fun j hj => ((d15 _ (by omega)).trans ((d14 _ (by omega)).trans ((d13 _ (by omega)).trans ((d12 _ (by omega)).trans ((d11 _ (by omega)).trans ((d10 _ (by omega)).trans ((d9 _ (by omega)).trans ((d8 _ (by omega)).trans ((d7 _ (by omega)).trans ((d6 _ (by omega)).trans ((d5 _ (by omega)).trans ((d4 _ (by omega)).trans ((d3 _ (by omega)).trans ((d2 _ (by omega)).trans (c1 j hj))))))))))))))), fun j hj => ((d15 _ (by omega)).trans ((d14 _ (by omega)).trans ((d13 _ (by omega)).trans ((d12 _ (by omega)).trans ((d11 _ (by omega)).trans ((d10 _ (by omega)).trans ((d9 _ (by omega)).trans ((d8 _ (by omega)).trans ((d7 _ (by omega)).trans ((d6 _ (by omega)).trans ((d5 _ (by omega)).trans ((d4 _ (by omega)).trans ((d3 _ (by omega)).trans (c2 j hj)))))))))))))), fun j hj => ((d15 _ (by omega)).trans ((d14 _ (by omega)).trans ((d13 _ (by omega)).trans ((d12 _ (by omega)).trans ((d11 _ (by omega)).trans ((d10 _ (by omega)).trans ((d9 _ (by omega)).trans ((d8 _ (by omega)).trans ((d7 _ (by omega)).trans ((d6 _ (by omega)).trans ((d5 _ (by omega)).trans ((d4 _ (by omega)).trans (c3 j hj))))))))))))), fun j hj => ((d15 _ (by omega)).trans ((d14 _ (by omega)).trans ((d13 _ (by omega)).trans ((d12 _ (by omega)).trans ((d11 _ (by omega)).trans ((d10 _ (by omega)).trans ((d9 _ (by omega)).trans ((d8 _ (by omega)).trans ((d7 _ (by omega)).trans ((d6 _ (by omega)).trans ((d5 _ (by omega)).trans (c4 j hj)))))))))))), fun j hj => ((d15 _ (by omega)).trans ((d14 _ (by omega)).trans ((d13 _ (by omega)).trans ((d12 _ (by omega)).trans ((d11 _ (by omega)).trans ((d10 _ (by omega)).trans ((d9 _ (by omega)).trans ((d8 _ (by omega)).trans ((d7 _ (by omega)).trans ((d6 _ (by omega)).trans (c5 j hj))))))))))), fun j hj => ((d15 _ (by omega)).trans ((d14 _ (by omega)).trans ((d13 _ (by omega)).trans ((d12 _ (by omega)).trans ((d11 _ (by omega)).trans ((d10 _ (by omega)).trans ((d9 _ (by omega)).trans ((d8 _ (by omega)).trans ((d7 _ (by omega)).trans (c6 j hj)))))))))), fun j hj => ((d15 _ (by omega)).trans ((d14 _ (by omega)).trans ((d13 _ (by omega)).trans ((d12 _ (by omega)).trans ((d11 _ (by omega)).trans ((d10 _ (by omega)).trans ((d9 _ (by omega)).trans ((d8 _ (by omega)).trans (c7 j hj))))))))), fun j hj => ((d15 _ (by omega)).trans ((d14 _ (by omega)).trans ((d13 _ (by omega)).trans ((d12 _ (by omega)).trans ((d11 _ (by omega)).trans ((d10 _ (by omega)).trans ((d9 _ (by omega)).trans (c8 j hj)))))))), fun j hj => ((d15 _ (by omega)).trans ((d14 _ (by omega)).trans ((d13 _ (by omega)).trans ((d12 _ (by omega)).trans ((d11 _ (by omega)).trans ((d10 _ (by omega)).trans (c9 j hj))))))), fun j hj => ((d15 _ (by omega)).trans ((d14 _ (by omega)).trans ((d13 _ (by omega)).trans ((d12 _ (by omega)).trans ((d11 _ (by omega)).trans (c10 j hj)))))), fun j hj => ((d15 _ (by omega)).trans ((d14 _ (by omega)).trans ((d13 _ (by omega)).trans ((d12 _ (by omega)).trans (c11 j hj))))), fun j hj => ((d15 _ (by omega)).trans ((d14 _ (by omega)).trans ((d13 _ (by omega)).trans (c12 j hj)))), fun j hj => ((d15 _ (by omega)).trans ((d14 _ (by omega)).trans (c13 j hj))), fun j hj => ((d15 _ (by omega)).trans (c14 j hj)), fun j hj => (c15 j hj)⟩
theorem moveAll_0 (M : Mem) : ∃ N', fm_moveAll M 0 = some N' ∧ (∀ q, q ≠ 156 → q ≠ 157 → q ≠ 155 → q ≠ 142 → q ≠ 143 → q ≠ 144 → q ≠ 145 → q ≠ 146 → q ≠ 148 → q ≠ 149 → q ≠ 150 → q ≠ 151 → q ≠ 152 → q ≠ 153 → q ≠ 154 → N'.1 q = M.1 q) ∧ N'.2 = M.2 ∧ (∀ j, j < 9 → N'.1 156 j = M.1 159 (j + 0)) ∧ (∀ j, j < 28 → N'.1 157 j = M.1 159 (j + 9)) ∧ (∀ j, j < 12 → N'.1 155 j = M.1 159 (j + 37)) ∧ (∀ j, j < 20 → N'.1 142 j = M.1 159 (j + 49)) ∧ (∀ j, j < 20 → N'.1 143 j = M.1 159 (j + 69)) ∧ (∀ j, j < 20 → N'.1 144 j = M.1 159 (j + 89)) ∧ (∀ j, j < 20 → N'.1 145 j = M.1 159 (j + 109)) ∧ (∀ j, j < 20 → N'.1 146 j = M.1 159 (j + 129)) ∧ (∀ j, j < 54 → N'.1 148 j = M.1 159 (j + 149)) ∧ (∀ j, j < 6 → N'.1 149 j = M.1 159 (j + 203)) ∧ (∀ j, j < 6 → N'.1 150 j = M.1 159 (j + 209)) ∧ (∀ j, j < 6 → N'.1 151 j = M.1 159 (j + 215)) ∧ (∀ j, j < 10 → N'.1 152 j = M.1 159 (j + 221)) ∧ (∀ j, j < 10 → N'.1 153 j = M.1 159 (j + 231)) ∧ (∀ j, j < 10 → N'.1 154 j = M.1 159 (j + 241)) := by
  unfold fm_moveAll
  rw [show fm_move M 0 0 = fm_move M (nI 0) 0 from rfl]
  rw [mi]
  simp only [Option.bind_some]
  obtain ⟨a1, b1, c1⟩ := blk_0 (N := M) (r := 156) (B := 0) (n := 9)
  generalize rowI M 156 (va_cpy (M.1 159) (M.1 156) 0 0 9) = N1 at *
  rw [mi_2]
  simp only [Option.bind_some]
  obtain ⟨a2, b2, c2⟩ := blk_0 (N := N1) (r := 157) (B := 9) (n := 28)
  generalize rowI N1 157 (va_cpy (N1.1 159) (N1.1 157) 9 0 28) = N2 at *
  rw [mi_3]
  simp only [Option.bind_some]
  obtain ⟨a3, b3, c3⟩ := blk_0 (N := N2) (r := 155) (B := 37) (n := 12)
  generalize rowI N2 155 (va_cpy (N2.1 159) (N2.1 155) 37 0 12) = N3 at *
  rw [mi_4]
  simp only [Option.bind_some]
  obtain ⟨a4, b4, c4⟩ := blk_0 (N := N3) (r := 142) (B := 49) (n := 20)
  generalize rowI N3 142 (va_cpy (N3.1 159) (N3.1 142) 49 0 20) = N4 at *
  rw [mi_5]
  simp only [Option.bind_some]
  obtain ⟨a5, b5, c5⟩ := blk_0 (N := N4) (r := 143) (B := 69) (n := 20)
  generalize rowI N4 143 (va_cpy (N4.1 159) (N4.1 143) 69 0 20) = N5 at *
  rw [mi_6]
  simp only [Option.bind_some]
  obtain ⟨a6, b6, c6⟩ := blk_0 (N := N5) (r := 144) (B := 89) (n := 20)
  generalize rowI N5 144 (va_cpy (N5.1 159) (N5.1 144) 89 0 20) = N6 at *
  rw [mi_7]
  simp only [Option.bind_some]
  obtain ⟨a7, b7, c7⟩ := blk_0 (N := N6) (r := 145) (B := 109) (n := 20)
  generalize rowI N6 145 (va_cpy (N6.1 159) (N6.1 145) 109 0 20) = N7 at *
  rw [mi_8]
  simp only [Option.bind_some]
  obtain ⟨a8, b8, c8⟩ := blk_0 (N := N7) (r := 146) (B := 129) (n := 20)
  generalize rowI N7 146 (va_cpy (N7.1 159) (N7.1 146) 129 0 20) = N8 at *
  rw [mi_9]
  simp only [Option.bind_some]
  obtain ⟨a9, b9, c9⟩ := blk_0 (N := N8) (r := 148) (B := 149) (n := 54)
  generalize rowI N8 148 (va_cpy (N8.1 159) (N8.1 148) 149 0 54) = N9 at *
  rw [mi_10]
  simp only [Option.bind_some]
  obtain ⟨a10, b10, c10⟩ := blk_0 (N := N9) (r := 149) (B := 203) (n := 6)
  generalize rowI N9 149 (va_cpy (N9.1 159) (N9.1 149) 203 0 6) = N10 at *
  rw [mi_11]
  simp only [Option.bind_some]
  obtain ⟨a11, b11, c11⟩ := blk_0 (N := N10) (r := 150) (B := 209) (n := 6)
  generalize rowI N10 150 (va_cpy (N10.1 159) (N10.1 150) 209 0 6) = N11 at *
  rw [mi_12]
  simp only [Option.bind_some]
  obtain ⟨a12, b12, c12⟩ := blk_0 (N := N11) (r := 151) (B := 215) (n := 6)
  generalize rowI N11 151 (va_cpy (N11.1 159) (N11.1 151) 215 0 6) = N12 at *
  rw [mi_13]
  simp only [Option.bind_some]
  obtain ⟨a13, b13, c13⟩ := blk_0 (N := N12) (r := 152) (B := 221) (n := 10)
  generalize rowI N12 152 (va_cpy (N12.1 159) (N12.1 152) 221 0 10) = N13 at *
  rw [mi_14]
  simp only [Option.bind_some]
  obtain ⟨a14, b14, c14⟩ := blk_0 (N := N13) (r := 153) (B := 231) (n := 10)
  generalize rowI N13 153 (va_cpy (N13.1 159) (N13.1 153) 231 0 10) = N14 at *
  rw [mi_15]
  simp only [Option.bind_some]
  obtain ⟨a15, b15, c15⟩ := blk_0 (N := N14) (r := 154) (B := 241) (n := 10)
  generalize rowI N14 154 (va_cpy (N14.1 159) (N14.1 154) 241 0 10) = N15 at *
  have e159 : ∀ i : Nat, True := fun _ => trivial
  have z1 : N1.1 159 = M.1 159 := (a1 159 (by omega)).trans rfl
  have z2 : N2.1 159 = M.1 159 := (a2 159 (by omega)).trans z1
  have z3 : N3.1 159 = M.1 159 := (a3 159 (by omega)).trans z2
  have z4 : N4.1 159 = M.1 159 := (a4 159 (by omega)).trans z3
  have z5 : N5.1 159 = M.1 159 := (a5 159 (by omega)).trans z4
  have z6 : N6.1 159 = M.1 159 := (a6 159 (by omega)).trans z5
  have z7 : N7.1 159 = M.1 159 := (a7 159 (by omega)).trans z6
  have z8 : N8.1 159 = M.1 159 := (a8 159 (by omega)).trans z7
  have z9 : N9.1 159 = M.1 159 := (a9 159 (by omega)).trans z8
  have z10 : N10.1 159 = M.1 159 := (a10 159 (by omega)).trans z9
  have z11 : N11.1 159 = M.1 159 := (a11 159 (by omega)).trans z10
  have z12 : N12.1 159 = M.1 159 := (a12 159 (by omega)).trans z11
  have z13 : N13.1 159 = M.1 159 := (a13 159 (by omega)).trans z12
  have z14 : N14.1 159 = M.1 159 := (a14 159 (by omega)).trans z13
  have z15 : N15.1 159 = M.1 159 := (a15 159 (by omega)).trans z14
  exact ⟨_, rfl, fun q x0 x1 x2 x3 x4 x5 x6 x7 x8 x9 x10 x11 x12 x13 x14 => (a15 q x14).trans ((a14 q x13).trans ((a13 q x12).trans ((a12 q x11).trans ((a11 q x10).trans ((a10 q x9).trans ((a9 q x8).trans ((a8 q x7).trans ((a7 q x6).trans ((a6 q x5).trans ((a5 q x4).trans ((a4 q x3).trans ((a3 q x2).trans ((a2 q x1).trans ((a1 q x0))))))))))))))), b15.trans (b14.trans (b13.trans (b12.trans (b11.trans (b10.trans (b9.trans (b8.trans (b7.trans (b6.trans (b5.trans (b4.trans (b3.trans (b2.trans (b1)))))))))))))), fun j hj => ((congrFun (a15 156 (by omega)) j).trans ((congrFun (a14 156 (by omega)) j).trans ((congrFun (a13 156 (by omega)) j).trans ((congrFun (a12 156 (by omega)) j).trans ((congrFun (a11 156 (by omega)) j).trans ((congrFun (a10 156 (by omega)) j).trans ((congrFun (a9 156 (by omega)) j).trans ((congrFun (a8 156 (by omega)) j).trans ((congrFun (a7 156 (by omega)) j).trans ((congrFun (a6 156 (by omega)) j).trans ((congrFun (a5 156 (by omega)) j).trans ((congrFun (a4 156 (by omega)) j).trans ((congrFun (a3 156 (by omega)) j).trans ((congrFun (a2 156 (by omega)) j).trans ((c1 j hj).trans rfl))))))))))))))), fun j hj => ((congrFun (a15 157 (by omega)) j).trans ((congrFun (a14 157 (by omega)) j).trans ((congrFun (a13 157 (by omega)) j).trans ((congrFun (a12 157 (by omega)) j).trans ((congrFun (a11 157 (by omega)) j).trans ((congrFun (a10 157 (by omega)) j).trans ((congrFun (a9 157 (by omega)) j).trans ((congrFun (a8 157 (by omega)) j).trans ((congrFun (a7 157 (by omega)) j).trans ((congrFun (a6 157 (by omega)) j).trans ((congrFun (a5 157 (by omega)) j).trans ((congrFun (a4 157 (by omega)) j).trans ((congrFun (a3 157 (by omega)) j).trans ((c2 j hj).trans (congrFun z1 _))))))))))))))), fun j hj => ((congrFun (a15 155 (by omega)) j).trans ((congrFun (a14 155 (by omega)) j).trans ((congrFun (a13 155 (by omega)) j).trans ((congrFun (a12 155 (by omega)) j).trans ((congrFun (a11 155 (by omega)) j).trans ((congrFun (a10 155 (by omega)) j).trans ((congrFun (a9 155 (by omega)) j).trans ((congrFun (a8 155 (by omega)) j).trans ((congrFun (a7 155 (by omega)) j).trans ((congrFun (a6 155 (by omega)) j).trans ((congrFun (a5 155 (by omega)) j).trans ((congrFun (a4 155 (by omega)) j).trans ((c3 j hj).trans (congrFun z2 _)))))))))))))), fun j hj => ((congrFun (a15 142 (by omega)) j).trans ((congrFun (a14 142 (by omega)) j).trans ((congrFun (a13 142 (by omega)) j).trans ((congrFun (a12 142 (by omega)) j).trans ((congrFun (a11 142 (by omega)) j).trans ((congrFun (a10 142 (by omega)) j).trans ((congrFun (a9 142 (by omega)) j).trans ((congrFun (a8 142 (by omega)) j).trans ((congrFun (a7 142 (by omega)) j).trans ((congrFun (a6 142 (by omega)) j).trans ((congrFun (a5 142 (by omega)) j).trans ((c4 j hj).trans (congrFun z3 _))))))))))))), fun j hj => ((congrFun (a15 143 (by omega)) j).trans ((congrFun (a14 143 (by omega)) j).trans ((congrFun (a13 143 (by omega)) j).trans ((congrFun (a12 143 (by omega)) j).trans ((congrFun (a11 143 (by omega)) j).trans ((congrFun (a10 143 (by omega)) j).trans ((congrFun (a9 143 (by omega)) j).trans ((congrFun (a8 143 (by omega)) j).trans ((congrFun (a7 143 (by omega)) j).trans ((congrFun (a6 143 (by omega)) j).trans ((c5 j hj).trans (congrFun z4 _)))))))))))), fun j hj => ((congrFun (a15 144 (by omega)) j).trans ((congrFun (a14 144 (by omega)) j).trans ((congrFun (a13 144 (by omega)) j).trans ((congrFun (a12 144 (by omega)) j).trans ((congrFun (a11 144 (by omega)) j).trans ((congrFun (a10 144 (by omega)) j).trans ((congrFun (a9 144 (by omega)) j).trans ((congrFun (a8 144 (by omega)) j).trans ((congrFun (a7 144 (by omega)) j).trans ((c6 j hj).trans (congrFun z5 _))))))))))), fun j hj => ((congrFun (a15 145 (by omega)) j).trans ((congrFun (a14 145 (by omega)) j).trans ((congrFun (a13 145 (by omega)) j).trans ((congrFun (a12 145 (by omega)) j).trans ((congrFun (a11 145 (by omega)) j).trans ((congrFun (a10 145 (by omega)) j).trans ((congrFun (a9 145 (by omega)) j).trans ((congrFun (a8 145 (by omega)) j).trans ((c7 j hj).trans (congrFun z6 _)))))))))), fun j hj => ((congrFun (a15 146 (by omega)) j).trans ((congrFun (a14 146 (by omega)) j).trans ((congrFun (a13 146 (by omega)) j).trans ((congrFun (a12 146 (by omega)) j).trans ((congrFun (a11 146 (by omega)) j).trans ((congrFun (a10 146 (by omega)) j).trans ((congrFun (a9 146 (by omega)) j).trans ((c8 j hj).trans (congrFun z7 _))))))))), fun j hj => ((congrFun (a15 148 (by omega)) j).trans ((congrFun (a14 148 (by omega)) j).trans ((congrFun (a13 148 (by omega)) j).trans ((congrFun (a12 148 (by omega)) j).trans ((congrFun (a11 148 (by omega)) j).trans ((congrFun (a10 148 (by omega)) j).trans ((c9 j hj).trans (congrFun z8 _)))))))), fun j hj => ((congrFun (a15 149 (by omega)) j).trans ((congrFun (a14 149 (by omega)) j).trans ((congrFun (a13 149 (by omega)) j).trans ((congrFun (a12 149 (by omega)) j).trans ((congrFun (a11 149 (by omega)) j).trans ((c10 j hj).trans (congrFun z9 _))))))), fun j hj => ((congrFun (a15 150 (by omega)) j).trans ((congrFun (a14 150 (by omega)) j).trans ((congrFun (a13 150 (by omega)) j).trans ((congrFun (a12 150 (by omega)) j).trans ((c11 j hj).trans (congrFun z10 _)))))), fun j hj => ((congrFun (a15 151 (by omega)) j).trans ((congrFun (a14 151 (by omega)) j).trans ((congrFun (a13 151 (by omega)) j).trans ((c12 j hj).trans (congrFun z11 _))))), fun j hj => ((congrFun (a15 152 (by omega)) j).trans ((congrFun (a14 152 (by omega)) j).trans ((c13 j hj).trans (congrFun z12 _)))), fun j hj => ((congrFun (a15 153 (by omega)) j).trans ((c14 j hj).trans (congrFun z13 _))), fun j hj => ((c15 j hj).trans (congrFun z14 _))⟩
