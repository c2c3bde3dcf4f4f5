/-! what small methods come to -/
variable {d : Nat} {g : Nat × Nat × Nat} {I : Nat → Nat → Int32} {J : Nat → Nat → Int64} {sl rd rl : Nat}
theorem f93 (x y : Int32) : aF d 93 [.int x, .int y] (g, I, J, aP1 sl rd rl) = some (some (some (.int (tI (hasT x y)))), (g, I, J, aP1 sl rd rl)) := by
  show aE d 93 0 [.int x, .int y] [] _ = _
  rw [b93_0, ← hasI_T]; unfold hasI; split <;> rfl
theorem f217 (x y : Int32) : aF d 217 [.int x, .int y] (g, I, J, aP1 sl rd rl) = some (some (some (.int (tI (hasT x y)))), (g, I, J, aP1 sl rd rl)) := by
  show aE d 217 0 [.int x, .int y] [] _ = _
  rw [b217_0, ← hasI_T]; unfold hasI; split <;> rfl
theorem f181 (v a b : Int32) : aF d 181 [.int v, .int a, .int b] (g, I, J, aP1 sl rd rl) = some (some (some (.int (inI v a b))), (g, I, J, aP1 sl rd rl)) := by
  show aE d 181 0 [.int v, .int a, .int b] [] _ = _
  rw [b181_0]; unfold inI; (repeat' split) <;> rfl
theorem f75 (c : Int32) : aF d 75 [.int c] (g, I, J, aP1 sl rd rl) = some (some (some (.int (isC c))), (g, I, J, aP1 sl rd rl)) := by
  show aE d 75 0 [.int c] [] _ = _
  rw [b75_0]; unfold isC; (repeat' split) <;> rfl
theorem inI_C (c : Int32) : inI c 0 1 = isC c := by
  unfold inI isC
  simp only [Int32.lt_iff_toInt_lt, ← Int32.toInt_inj, show (0 : Int32).toInt = 0 from rfl, show (1 : Int32).toInt = 1 from rfl]
  (repeat' split) <;> first | rfl | omega
theorem f213 (c : Int32) : aF d 213 [.int c] (g, I, J, aP1 sl rd rl) = some (some (some (.int (isC c))), (g, I, J, aP1 sl rd rl)) := by
  show aE d 213 0 [.int c] [] _ = _
  simp (disch := omega) only [b213_0, f181, b213_6, nar_in, aBi, aBv, aBl, nI_1, nIle_t, nIle_f, nIlt_t, nIlt_f, nIeq_t, nIeq_f, nIneg, nI_clamp, nat_le_f, nat_le_t, nat_lt_f, nat_lt_t, or_self, or_false, false_or, if_true, if_false, ↓reduceIte, Int32.or_zero, Int32.add_zero, nIm2, nIm3, nIm4, nIp2, nIp4, nIp6, nIp8, nIp14, nIp16, nIp22, nIp24, nIp30, nIq2, nIq3, nIq4, hasI_0, aU_s, aU_i, aU_r, aU_u]
  rw [inI_C]
/-- the number of ones, as the JDK counts them -/
def bc (a0 : Int32) : Int32 := ((((((((a0 - ((a0.toUInt32 >>> (Int32.toUInt32 1 &&& Int32.toUInt32 31)).toInt32 &&& 1431655765)) &&& 858993459) + (((a0 - ((a0.toUInt32 >>> (Int32.toUInt32 1 &&& Int32.toUInt32 31)).toInt32 &&& 1431655765)).toUInt32 >>> (Int32.toUInt32 2 &&& Int32.toUInt32 31)).toInt32 &&& 858993459)) + ((((a0 - ((a0.toUInt32 >>> (Int32.toUInt32 1 &&& Int32.toUInt32 31)).toInt32 &&& 1431655765)) &&& 858993459) + (((a0 - ((a0.toUInt32 >>> (Int32.toUInt32 1 &&& Int32.toUInt32 31)).toInt32 &&& 1431655765)).toUInt32 >>> (Int32.toUInt32 2 &&& Int32.toUInt32 31)).toInt32 &&& 858993459)).toUInt32 >>> (Int32.toUInt32 4 &&& Int32.toUInt32 31)).toInt32) &&& 252645135) + ((((((a0 - ((a0.toUInt32 >>> (Int32.toUInt32 1 &&& Int32.toUInt32 31)).toInt32 &&& 1431655765)) &&& 858993459) + (((a0 - ((a0.toUInt32 >>> (Int32.toUInt32 1 &&& Int32.toUInt32 31)).toInt32 &&& 1431655765)).toUInt32 >>> (Int32.toUInt32 2 &&& Int32.toUInt32 31)).toInt32 &&& 858993459)) + ((((a0 - ((a0.toUInt32 >>> (Int32.toUInt32 1 &&& Int32.toUInt32 31)).toInt32 &&& 1431655765)) &&& 858993459) + (((a0 - ((a0.toUInt32 >>> (Int32.toUInt32 1 &&& Int32.toUInt32 31)).toInt32 &&& 1431655765)).toUInt32 >>> (Int32.toUInt32 2 &&& Int32.toUInt32 31)).toInt32 &&& 858993459)).toUInt32 >>> (Int32.toUInt32 4 &&& Int32.toUInt32 31)).toInt32) &&& 252645135).toUInt32 >>> (Int32.toUInt32 8 &&& Int32.toUInt32 31)).toInt32) + (((((((a0 - ((a0.toUInt32 >>> (Int32.toUInt32 1 &&& Int32.toUInt32 31)).toInt32 &&& 1431655765)) &&& 858993459) + (((a0 - ((a0.toUInt32 >>> (Int32.toUInt32 1 &&& Int32.toUInt32 31)).toInt32 &&& 1431655765)).toUInt32 >>> (Int32.toUInt32 2 &&& Int32.toUInt32 31)).toInt32 &&& 858993459)) + ((((a0 - ((a0.toUInt32 >>> (Int32.toUInt32 1 &&& Int32.toUInt32 31)).toInt32 &&& 1431655765)) &&& 858993459) + (((a0 - ((a0.toUInt32 >>> (Int32.toUInt32 1 &&& Int32.toUInt32 31)).toInt32 &&& 1431655765)).toUInt32 >>> (Int32.toUInt32 2 &&& Int32.toUInt32 31)).toInt32 &&& 858993459)).toUInt32 >>> (Int32.toUInt32 4 &&& Int32.toUInt32 31)).toInt32) &&& 252645135) + ((((((a0 - ((a0.toUInt32 >>> (Int32.toUInt32 1 &&& Int32.toUInt32 31)).toInt32 &&& 1431655765)) &&& 858993459) + (((a0 - ((a0.toUInt32 >>> (Int32.toUInt32 1 &&& Int32.toUInt32 31)).toInt32 &&& 1431655765)).toUInt32 >>> (Int32.toUInt32 2 &&& Int32.toUInt32 31)).toInt32 &&& 858993459)) + ((((a0 - ((a0.toUInt32 >>> (Int32.toUInt32 1 &&& Int32.toUInt32 31)).toInt32 &&& 1431655765)) &&& 858993459) + (((a0 - ((a0.toUInt32 >>> (Int32.toUInt32 1 &&& Int32.toUInt32 31)).toInt32 &&& 1431655765)).toUInt32 >>> (Int32.toUInt32 2 &&& Int32.toUInt32 31)).toInt32 &&& 858993459)).toUInt32 >>> (Int32.toUInt32 4 &&& Int32.toUInt32 31)).toInt32) &&& 252645135).toUInt32 >>> (Int32.toUInt32 8 &&& Int32.toUInt32 31)).toInt32).toUInt32 >>> (Int32.toUInt32 16 &&& Int32.toUInt32 31)).toInt32) &&& 63)
theorem f12 (x : Int32) : aF d 12 [.int x] (g, I, J, aP1 sl rd rl) = some (some (some (.int (bc x))), (g, I, J, aP1 sl rd rl)) := by
  show aE d 12 0 [.int x] [] _ = _
  rw [b12_0]; rfl
theorem kix (x : Int32) {n : Nat} (hn : n < 2 ^ 31) : (∃ i, i < n ∧ x = nI i) ∨ (x < 0 ∨ nI n ≤ x) := by
  rcases pk_ix x hn with h | h | h
  · exact Or.inr (Or.inl h)
  · exact Or.inr (Or.inr h)
  · exact Or.inl h
theorem f88 (x : Int32) : aF d 88 [.ref 14, .int x] (g, I, J, aP1 sl rd rl) = some (some (some (.int (if x < 0 then 0 else if I 14 0 ≤ x then 0 else 1))), (g, I, J, aP1 sl rd rl)) := by
  show aE d 88 0 [.ref 14, .int x] [] _ = _
  rw [b88_0]; (repeat' split) <;> rfl
theorem f100 (x : Int32) : aF d 100 [.ref 14, .int x] (g, I, J, aP1 sl rd rl) = some (some (some (.int (if x < 0 then 0 else if I 14 9 ≤ x then 0 else 1))), (g, I, J, aP1 sl rd rl)) := by
  show aE d 100 0 [.ref 14, .int x] [] _ = _
  rw [b100_0]; (repeat' split) <;> rfl
theorem f206 (x : Int32) : aF d 206 [.ref 46, .int x] (g, I, J, aP1 sl rd rl) = some (some (some (.int (inI x 0 (I 46 1 - 1)))), (g, I, J, aP1 sl rd rl)) := by
  show aE d 206 0 [.ref 46, .int x] [] _ = _
  simp (disch := omega) only [b206_0, f181, b206_11, nar_in, aBi, aBv, aBl, nI_1, nIle_t, nIle_f, nIlt_t, nIlt_f, nIeq_t, nIeq_f, nIneg, nI_clamp, nat_le_f, nat_le_t, nat_lt_f, nat_lt_t, or_self, or_false, false_or, if_true, if_false, ↓reduceIte, Int32.or_zero, Int32.add_zero, nIm2, nIm3, nIm4, nIp2, nIp4, nIp6, nIp8, nIp14, nIp16, nIp22, nIp24, nIp30, nIq2, nIq3, nIq4, hasI_0, aU_s, aU_i, aU_r, aU_u]
theorem f178 : aF d 178 [.ref 46] (g, I, J, aP1 sl rd rl) = some (some (some (.int (I 46 13))), (g, I, J, aP1 sl rd rl)) := by
  show aE d 178 0 [.ref 46] [] _ = _
  rw [b178_0]
theorem f207 : aF d 207 [.ref 46] (g, I, J, aP1 sl rd rl) = some (some (some (.int 0)), (g, aU I 46 13 1, J, aP1 sl rd rl)) := by
  show aE d 207 0 [.ref 46] [] _ = _
  rw [b207_0]
/-! a state's cells -/
theorem f68_23 {i : Nat} (h : i < 8) : aF d 68 [.ref 23, .int (nI i)] (g, I, J, aP1 sl rd rl) = some (some (some (.int (I 24 (8 + i)))), (g, I, J, aP1 sl rd rl)) := by
  show aE d 68 0 [.ref 23, .int (nI i)] [] _ = _
  simp (disch := omega) only [b68_0, kgf8, kgt8, klt8, klf8, kmt8, kmf8, kat8, kaf8, ket8, kef8, aBi, aBv, aBl, nI_1, nIle_t, nIle_f, nIlt_t, nIlt_f, nIeq_t, nIeq_f, nIneg, nI_clamp, nat_le_f, nat_le_t, nat_lt_f, nat_lt_t, or_self, or_false, false_or, if_true, if_false, ↓reduceIte, Int32.or_zero, Int32.add_zero, nIm2, nIm3, nIm4, nIp2, nIp4, nIp6, nIp8, nIp14, nIp16, nIp22, nIp24, nIp30, nIq2, nIq3, nIq4, hasI_0, aU_s, aU_i, aU_r, aU_u]
theorem f68n_23 : aF d 68 [.ref 23, .int (-1)] (g, I, J, aP1 sl rd rl) = some (some (some (.int (-1))), (g, I, J, aP1 sl rd rl)) := by
  show aE d 68 0 [.ref 23, .int (-1)] [] _ = _
  rw [b68_0, if_pos (by decide)]
theorem f69_23 : aF d 69 [.ref 23] (g, I, J, aP1 sl rd rl) = some (some (some (.int (I 24 7))), (g, I, J, aP1 sl rd rl)) := by
  show aE d 69 0 [.ref 23] [] _ = _
  rw [b69_0]
theorem f70_23 {i : Nat} (h : i < 8) : aF d 70 [.ref 23, .int (nI i)] (g, I, J, aP1 sl rd rl) = some (some (some (.int (I 24 (16 + i)))), (g, I, J, aP1 sl rd rl)) := by
  show aE d 70 0 [.ref 23, .int (nI i)] [] _ = _
  simp (disch := omega) only [b70_0, kgf8, kgt8, klt8, klf8, kmt8, kmf8, kat8, kaf8, ket8, kef8, aBi, aBv, aBl, nI_1, nIle_t, nIle_f, nIlt_t, nIlt_f, nIeq_t, nIeq_f, nIneg, nI_clamp, nat_le_f, nat_le_t, nat_lt_f, nat_lt_t, or_self, or_false, false_or, if_true, if_false, ↓reduceIte, Int32.or_zero, Int32.add_zero, nIm2, nIm3, nIm4, nIp2, nIp4, nIp6, nIp8, nIp14, nIp16, nIp22, nIp24, nIp30, nIq2, nIq3, nIq4, hasI_0, aU_s, aU_i, aU_r, aU_u]
theorem f71_23 : aF d 71 [.ref 23] (g, I, J, aP1 sl rd rl) = some (some (some (.int (I 24 6))), (g, I, J, aP1 sl rd rl)) := by
  show aE d 71 0 [.ref 23] [] _ = _
  rw [b71_0]
theorem f73_23 {c : Nat} (h : c < 2) : aF d 73 [.ref 23, .int (nI c)] (g, I, J, aP1 sl rd rl) = some (some (some (.int (I 24 (2 + c)))), (g, I, J, aP1 sl rd rl)) := by
  show aE d 73 0 [.ref 23, .int (nI c)] [] _ = _
  rw [b73_0]
  rcases (by omega : c = 0 ∨ c = 1) with rfl | rfl <;> rfl
theorem f79_23 : aF d 79 [.ref 23] (g, I, J, aP1 sl rd rl) = some (some (some (.int (if I 24 3 < I 24 2 then I 24 3 else I 24 2))), (g, I, J, aP1 sl rd rl)) := by
  show aE d 79 0 [.ref 23] [] _ = _
  rw [b79_0]
theorem f78_23 : aF d 78 [.ref 23, .ref 14] (g, I, J, aP1 sl rd rl) = some (some (some (.int (if (if I 24 3 < I 24 2 then I 24 3 else I 24 2) < I 14 11 then 0 else 1))), (g, I, J, aP1 sl rd rl)) := by
  show aE d 78 0 [.ref 23, .ref 14] [] _ = _
  simp (disch := omega) only [b78_0, f79_23, b78_4, aBi, aBv, aBl, nI_1, nIle_t, nIle_f, nIlt_t, nIlt_f, nIeq_t, nIeq_f, nIneg, nI_clamp, nat_le_f, nat_le_t, nat_lt_f, nat_lt_t, or_self, or_false, false_or, if_true, if_false, ↓reduceIte, Int32.or_zero, Int32.add_zero, nIm2, nIm3, nIm4, nIp2, nIp4, nIp6, nIp8, nIp14, nIp16, nIp22, nIp24, nIp30, nIq2, nIq3, nIq4, hasI_0, aU_s, aU_i, aU_r, aU_u]
  (repeat' split) <;> first | rfl | simp_all
theorem f92_23 (x : Int32) : aF d 92 [.ref 23, .int x] (g, I, J, aP1 sl rd rl) = some (some (some (.int (tI (hasT (I 24 7) x)))), (g, I, J, aP1 sl rd rl)) := by
  show aE d 92 0 [.ref 23, .int x] [] _ = _
  simp (disch := omega) only [b92_0, f93, b92_11, nar_t, aBi, aBv, aBl, nI_1, nIle_t, nIle_f, nIlt_t, nIlt_f, nIeq_t, nIeq_f, nIneg, nI_clamp, nat_le_f, nat_le_t, nat_lt_f, nat_lt_t, or_self, or_false, false_or, if_true, if_false, ↓reduceIte, Int32.or_zero, Int32.add_zero, nIm2, nIm3, nIm4, nIp2, nIp4, nIp6, nIp8, nIp14, nIp16, nIp22, nIp24, nIp30, nIq2, nIq3, nIq4, hasI_0, aU_s, aU_i, aU_r, aU_u]
theorem f101_23 {i : Nat} (h : i < 8) : aF d 101 [.ref 23, .int (nI i)] (g, I, J, aP1 sl rd rl) = some (some (some (.int (I 24 (24 + i)))), (g, I, J, aP1 sl rd rl)) := by
  show aE d 101 0 [.ref 23, .int (nI i)] [] _ = _
  simp (disch := omega) only [b101_0, kgf8, kgt8, klt8, klf8, kmt8, kmf8, kat8, kaf8, ket8, kef8, aBi, aBv, aBl, nI_1, nIle_t, nIle_f, nIlt_t, nIlt_f, nIeq_t, nIeq_f, nIneg, nI_clamp, nat_le_f, nat_le_t, nat_lt_f, nat_lt_t, or_self, or_false, false_or, if_true, if_false, ↓reduceIte, Int32.or_zero, Int32.add_zero, nIm2, nIm3, nIm4, nIp2, nIp4, nIp6, nIp8, nIp14, nIp16, nIp22, nIp24, nIp30, nIq2, nIq3, nIq4, hasI_0, aU_s, aU_i, aU_r, aU_u]
theorem f68_27 {i : Nat} (h : i < 8) : aF d 68 [.ref 27, .int (nI i)] (g, I, J, aP1 sl rd rl) = some (some (some (.int (I 28 (8 + i)))), (g, I, J, aP1 sl rd rl)) := by
  show aE d 68 0 [.ref 27, .int (nI i)] [] _ = _
  simp (disch := omega) only [b68_0_2, kgf8, kgt8, klt8, klf8, kmt8, kmf8, kat8, kaf8, ket8, kef8, aBi, aBv, aBl, nI_1, nIle_t, nIle_f, nIlt_t, nIlt_f, nIeq_t, nIeq_f, nIneg, nI_clamp, nat_le_f, nat_le_t, nat_lt_f, nat_lt_t, or_self, or_false, false_or, if_true, if_false, ↓reduceIte, Int32.or_zero, Int32.add_zero, nIm2, nIm3, nIm4, nIp2, nIp4, nIp6, nIp8, nIp14, nIp16, nIp22, nIp24, nIp30, nIq2, nIq3, nIq4, hasI_0, aU_s, aU_i, aU_r, aU_u]
theorem f68n_27 : aF d 68 [.ref 27, .int (-1)] (g, I, J, aP1 sl rd rl) = some (some (some (.int (-1))), (g, I, J, aP1 sl rd rl)) := by
  show aE d 68 0 [.ref 27, .int (-1)] [] _ = _
  rw [b68_0_2, if_pos (by decide)]
theorem f69_27 : aF d 69 [.ref 27] (g, I, J, aP1 sl rd rl) = some (some (some (.int (I 28 7))), (g, I, J, aP1 sl rd rl)) := by
  show aE d 69 0 [.ref 27] [] _ = _
  rw [b69_0_2]
theorem f70_27 {i : Nat} (h : i < 8) : aF d 70 [.ref 27, .int (nI i)] (g, I, J, aP1 sl rd rl) = some (some (some (.int (I 28 (16 + i)))), (g, I, J, aP1 sl rd rl)) := by
  show aE d 70 0 [.ref 27, .int (nI i)] [] _ = _
  simp (disch := omega) only [b70_0_2, kgf8, kgt8, klt8, klf8, kmt8, kmf8, kat8, kaf8, ket8, kef8, aBi, aBv, aBl, nI_1, nIle_t, nIle_f, nIlt_t, nIlt_f, nIeq_t, nIeq_f, nIneg, nI_clamp, nat_le_f, nat_le_t, nat_lt_f, nat_lt_t, or_self, or_false, false_or, if_true, if_false, ↓reduceIte, Int32.or_zero, Int32.add_zero, nIm2, nIm3, nIm4, nIp2, nIp4, nIp6, nIp8, nIp14, nIp16, nIp22, nIp24, nIp30, nIq2, nIq3, nIq4, hasI_0, aU_s, aU_i, aU_r, aU_u]
theorem f71_27 : aF d 71 [.ref 27] (g, I, J, aP1 sl rd rl) = some (some (some (.int (I 28 6))), (g, I, J, aP1 sl rd rl)) := by
  show aE d 71 0 [.ref 27] [] _ = _
  rw [b71_0_2]
theorem f73_27 {c : Nat} (h : c < 2) : aF d 73 [.ref 27, .int (nI c)] (g, I, J, aP1 sl rd rl) = some (some (some (.int (I 28 (2 + c)))), (g, I, J, aP1 sl rd rl)) := by
  show aE d 73 0 [.ref 27, .int (nI c)] [] _ = _
  rw [b73_0_2]
  rcases (by omega : c = 0 ∨ c = 1) with rfl | rfl <;> rfl
theorem f79_27 : aF d 79 [.ref 27] (g, I, J, aP1 sl rd rl) = some (some (some (.int (if I 28 3 < I 28 2 then I 28 3 else I 28 2))), (g, I, J, aP1 sl rd rl)) := by
  show aE d 79 0 [.ref 27] [] _ = _
  rw [b79_0_2]
theorem f78_27 : aF d 78 [.ref 27, .ref 14] (g, I, J, aP1 sl rd rl) = some (some (some (.int (if (if I 28 3 < I 28 2 then I 28 3 else I 28 2) < I 14 11 then 0 else 1))), (g, I, J, aP1 sl rd rl)) := by
  show aE d 78 0 [.ref 27, .ref 14] [] _ = _
  simp (disch := omega) only [b78_0_2, f79_27, b78_4, aBi, aBv, aBl, nI_1, nIle_t, nIle_f, nIlt_t, nIlt_f, nIeq_t, nIeq_f, nIneg, nI_clamp, nat_le_f, nat_le_t, nat_lt_f, nat_lt_t, or_self, or_false, false_or, if_true, if_false, ↓reduceIte, Int32.or_zero, Int32.add_zero, nIm2, nIm3, nIm4, nIp2, nIp4, nIp6, nIp8, nIp14, nIp16, nIp22, nIp24, nIp30, nIq2, nIq3, nIq4, hasI_0, aU_s, aU_i, aU_r, aU_u]
  (repeat' split) <;> first | rfl | simp_all
theorem f92_27 (x : Int32) : aF d 92 [.ref 27, .int x] (g, I, J, aP1 sl rd rl) = some (some (some (.int (tI (hasT (I 28 7) x)))), (g, I, J, aP1 sl rd rl)) := by
  show aE d 92 0 [.ref 27, .int x] [] _ = _
  simp (disch := omega) only [b92_0_2, f93, b92_11, nar_t, aBi, aBv, aBl, nI_1, nIle_t, nIle_f, nIlt_t, nIlt_f, nIeq_t, nIeq_f, nIneg, nI_clamp, nat_le_f, nat_le_t, nat_lt_f, nat_lt_t, or_self, or_false, false_or, if_true, if_false, ↓reduceIte, Int32.or_zero, Int32.add_zero, nIm2, nIm3, nIm4, nIp2, nIp4, nIp6, nIp8, nIp14, nIp16, nIp22, nIp24, nIp30, nIq2, nIq3, nIq4, hasI_0, aU_s, aU_i, aU_r, aU_u]
theorem f101_27 {i : Nat} (h : i < 8) : aF d 101 [.ref 27, .int (nI i)] (g, I, J, aP1 sl rd rl) = some (some (some (.int (I 28 (24 + i)))), (g, I, J, aP1 sl rd rl)) := by
  show aE d 101 0 [.ref 27, .int (nI i)] [] _ = _
  simp (disch := omega) only [b101_0_2, kgf8, kgt8, klt8, klf8, kmt8, kmf8, kat8, kaf8, ket8, kef8, aBi, aBv, aBl, nI_1, nIle_t, nIle_f, nIlt_t, nIlt_f, nIeq_t, nIeq_f, nIneg, nI_clamp, nat_le_f, nat_le_t, nat_lt_f, nat_lt_t, or_self, or_false, false_or, if_true, if_false, ↓reduceIte, Int32.or_zero, Int32.add_zero, nIm2, nIm3, nIm4, nIp2, nIp4, nIp6, nIp8, nIp14, nIp16, nIp22, nIp24, nIp30, nIq2, nIq3, nIq4, hasI_0, aU_s, aU_i, aU_r, aU_u]
theorem f72_23 {c : Nat} (h : c < 2) : aF d 72 [.ref 23, .int (nI c)] (g, I, J, aP1 sl rd rl) = some (some (some (.int (I 24 c))), (g, I, J, aP1 sl rd rl)) := by
  show aE d 72 0 [.ref 23, .int (nI c)] [] _ = _
  rw [b72_0_2]
  rcases (by omega : c = 0 ∨ c = 1) with rfl | rfl <;> rfl
theorem f72_27 {c : Nat} (h : c < 2) : aF d 72 [.ref 27, .int (nI c)] (g, I, J, aP1 sl rd rl) = some (some (some (.int (I 28 c))), (g, I, J, aP1 sl rd rl)) := by
  show aE d 72 0 [.ref 27, .int (nI c)] [] _ = _
  rw [b72_0]
  rcases (by omega : c = 0 ∨ c = 1) with rfl | rfl <;> rfl
theorem f174 {c : Nat} (h : c < 2) : aF d 174 [.ref 23, .int (nI c)] (g, I, J, aP1 sl rd rl) = some (some (some (.int (I 24 (4 + c)))), (g, I, J, aP1 sl rd rl)) := by
  show aE d 174 0 [.ref 23, .int (nI c)] [] _ = _
  rw [b174_0]
  rcases (by omega : c = 0 ∨ c = 1) with rfl | rfl <;> rfl
theorem f125 : aF d 125 [.ref 27] (g, I, J, aP1 sl rd rl) = some (some (some (.int (if I 28 2 < I 28 3 then I 28 3 else I 28 2))), (g, I, J, aP1 sl rd rl)) := by
  show aE d 125 0 [.ref 27] [] _ = _
  rw [b125_0]
theorem f228_47 : aF d 228 [.ref 46, .ref 47] (g, I, J, aP1 sl rd rl) = some (some (some (.int (if I 47 2 < I 46 8 then 0 else if I 47 3 < I 46 8 then 0 else 1))), (g, I, J, aP1 sl rd rl)) := by
  show aE d 228 0 [.ref 46, .ref 47] [] _ = _
  rw [b228_0]; (repeat' split) <;> rfl
theorem f228_60 : aF d 228 [.ref 46, .ref 60] (g, I, J, aP1 sl rd rl) = some (some (some (.int (if I 60 2 < I 46 8 then 0 else if I 60 3 < I 46 8 then 0 else 1))), (g, I, J, aP1 sl rd rl)) := by
  show aE d 228 0 [.ref 46, .ref 60] [] _ = _
  rw [b228_0_2]; (repeat' split) <;> rfl
/-! rows that are told -/
theorem f84 : aF d 84 [.ref 12] (g, I, J, aP1 sl rd rl) = some (some none, (g, aU I 12 1 0, J, aP1 sl rd rl)) := by
  show aE d 84 0 [.ref 12] [] _ = _
  rw [b84_0]
theorem f85 {n : Nat} (h : I 12 1 = nI n) (hn : n < 8) (v : Int64) : aF d 85 [.ref 12, .long v] (g, I, J, aP1 sl rd rl) = some (some none, (g, aU I 12 1 (nI (n + 1)), aU J 13 n v, aP1 sl rd rl)) := by
  show aE d 85 0 [.ref 12, .long v, aNo] [] _ = _
  simp (disch := omega) only [b85_0, h, kgf8, kgt8, klt8, klf8, kmt8, kmf8, kat8, kaf8, ket8, kef8, aBi, aBv, aBl, nI_1, nIle_t, nIle_f, nIlt_t, nIlt_f, nIeq_t, nIeq_f, nIneg, nI_clamp, nat_le_f, nat_le_t, nat_lt_f, nat_lt_t, or_self, or_false, false_or, if_true, if_false, ↓reduceIte, Int32.or_zero, Int32.add_zero, nIm2, nIm3, nIm4, nIp2, nIp4, nIp6, nIp8, nIp14, nIp16, nIp22, nIp24, nIp30, nIq2, nIq3, nIq4, hasI_0, aU_s, aU_i, aU_r, aU_u]
