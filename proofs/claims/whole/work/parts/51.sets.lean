/-! sets and sums -/
variable {d : Nat} {g : Nat × Nat × Nat} {I : Nat → Nat → Int32} {J : Nat → Nat → Int64} {sl rd rl : Nat}
theorem f117 {n : Nat} (h : I 14 0 = nI n) (hn : n ≤ 8) (c : Int32) : aF d 117 [.ref 23, .ref 14, .int c] (g, I, J, aP1 sl rd rl) = some (some (some (.int (bs (fun i => decide (I 24 (8 + i) = c)) n))), (g, I, J, aP1 sl rd rl)) := by
  show aE d 117 0 [.ref 23, .ref 14, .int c, aNo, aNo] [] _ = _
  rw [b117_0]
  refine (fo_go (X := fun i a => aE d 117 5 [.ref 23, .ref 14, .int c, .int a, .int (nI i)] [] (g, I, J, aP1 sl rd rl)) (f := fun i acc => if decide (I 24 (8 + i) = c) then acc ||| bit i else acc) n 0 0 (fun j a _ h2 => ?_)).trans ?_
  · show aE d 117 5 [.ref 23, .ref 14, .int c, .int a, .int (nI j)] [] _ = aE d 117 5 [.ref 23, .ref 14, .int c, .int (if decide (I 24 (8 + j) = c) then a ||| bit j else a), .int (nI (j + 1))] [] _
    rw [b117_5]
    simp (disch := omega) only [h, f68_23, b117_20, kgf8, kgt8, klt8, klf8, kmt8, kmf8, kat8, kaf8, ket8, kef8, aBi, aBv, aBl, nI_1, nIle_t, nIle_f, nIlt_t, nIlt_f, nIeq_t, nIeq_f, nIneg, nI_clamp, nat_le_f, nat_le_t, nat_lt_f, nat_lt_t, or_self, or_false, false_or, if_true, if_false, ↓reduceIte, Int32.or_zero, Int32.add_zero, nIm2, nIm3, nIm4, nIp2, nIp4, nIp6, nIp8, nIp14, nIp16, nIp22, nIp24, nIp30, nIq2, nIq3, nIq4, hasI_0, aU_s, aU_i, aU_r, aU_u]
    unfold bit
    (repeat' split) <;> simp_all
  · show aE d 117 5 [.ref 23, .ref 14, .int c, .int _, .int (nI (0 + n))] [] _ = _
    rw [b117_5]
    simp (disch := omega) only [h, Nat.zero_add, aBi, aBv, aBl, nI_1, nIle_t, nIle_f, nIlt_t, nIlt_f, nIeq_t, nIeq_f, nIneg, nI_clamp, nat_le_f, nat_le_t, nat_lt_f, nat_lt_t, or_self, or_false, false_or, if_true, if_false, ↓reduceIte, Int32.or_zero, Int32.add_zero, nIm2, nIm3, nIm4, nIp2, nIp4, nIp6, nIp8, nIp14, nIp16, nIp22, nIp24, nIp30, nIq2, nIq3, nIq4, hasI_0, aU_s, aU_i, aU_r, aU_u]
    rfl
theorem f122 {n : Nat} (h : I 14 9 = nI n) (hn : n ≤ 8)  : aF d 122 [.ref 23, .ref 14] (g, I, J, aP1 sl rd rl) = some (some (some (.int (bs (fun i => decide (I 24 (24 + i) = -1)) n))), (g, I, J, aP1 sl rd rl)) := by
  show aE d 122 0 [.ref 23, .ref 14, aNo, aNo] [] _ = _
  rw [b122_0]
  refine (fo_go (X := fun i a => aE d 122 4 [.ref 23, .ref 14, .int a, .int (nI i)] [] (g, I, J, aP1 sl rd rl)) (f := fun i acc => if decide (I 24 (24 + i) = -1) then acc ||| bit i else acc) n 0 0 (fun j a _ h2 => ?_)).trans ?_
  · show aE d 122 4 [.ref 23, .ref 14, .int a, .int (nI j)] [] _ = aE d 122 4 [.ref 23, .ref 14, .int (if decide (I 24 (24 + j) = -1) then a ||| bit j else a), .int (nI (j + 1))] [] _
    rw [b122_4]
    simp (disch := omega) only [h, f101_23, b122_17, kgf8, kgt8, klt8, klf8, kmt8, kmf8, kat8, kaf8, ket8, kef8, aBi, aBv, aBl, nI_1, nIle_t, nIle_f, nIlt_t, nIlt_f, nIeq_t, nIeq_f, nIneg, nI_clamp, nat_le_f, nat_le_t, nat_lt_f, nat_lt_t, or_self, or_false, false_or, if_true, if_false, ↓reduceIte, Int32.or_zero, Int32.add_zero, nIm2, nIm3, nIm4, nIp2, nIp4, nIp6, nIp8, nIp14, nIp16, nIp22, nIp24, nIp30, nIq2, nIq3, nIq4, hasI_0, aU_s, aU_i, aU_r, aU_u]
    unfold bit
    (repeat' split) <;> simp_all
  · show aE d 122 4 [.ref 23, .ref 14, .int _, .int (nI (0 + n))] [] _ = _
    rw [b122_4]
    simp (disch := omega) only [h, Nat.zero_add, aBi, aBv, aBl, nI_1, nIle_t, nIle_f, nIlt_t, nIlt_f, nIeq_t, nIeq_f, nIneg, nI_clamp, nat_le_f, nat_le_t, nat_lt_f, nat_lt_t, or_self, or_false, false_or, if_true, if_false, ↓reduceIte, Int32.or_zero, Int32.add_zero, nIm2, nIm3, nIm4, nIp2, nIp4, nIp6, nIp8, nIp14, nIp16, nIp22, nIp24, nIp30, nIq2, nIq3, nIq4, hasI_0, aU_s, aU_i, aU_r, aU_u]
    rfl
theorem f175 {n : Nat} (h : I 14 4 = nI n) (hn : n ≤ 8) (c : Int32) : aF d 175 [.ref 14, .int c] (g, I, J, aP1 sl rd rl) = some (some (some (.int (bs (fun i => decide (I 19 i = c)) n))), (g, I, J, aP1 sl rd rl)) := by
  show aE d 175 0 [.ref 14, .int c, aNo, aNo] [] _ = _
  rw [b175_0]
  refine (fo_go (X := fun i a => aE d 175 4 [.ref 14, .int c, .int a, .int (nI i)] [] (g, I, J, aP1 sl rd rl)) (f := fun i acc => if decide (I 19 i = c) then acc ||| bit i else acc) n 0 0 (fun j a _ h2 => ?_)).trans ?_
  · show aE d 175 4 [.ref 14, .int c, .int a, .int (nI j)] [] _ = aE d 175 4 [.ref 14, .int c, .int (if decide (I 19 j = c) then a ||| bit j else a), .int (nI (j + 1))] [] _
    rw [b175_4]
    simp (disch := omega) only [h, kgf8, kgt8, klt8, klf8, kmt8, kmf8, kat8, kaf8, ket8, kef8, aBi, aBv, aBl, nI_1, nIle_t, nIle_f, nIlt_t, nIlt_f, nIeq_t, nIeq_f, nIneg, nI_clamp, nat_le_f, nat_le_t, nat_lt_f, nat_lt_t, or_self, or_false, false_or, if_true, if_false, ↓reduceIte, Int32.or_zero, Int32.add_zero, nIm2, nIm3, nIm4, nIp2, nIp4, nIp6, nIp8, nIp14, nIp16, nIp22, nIp24, nIp30, nIq2, nIq3, nIq4, hasI_0, aU_s, aU_i, aU_r, aU_u]
    unfold bit
    (repeat' split) <;> simp_all
  · show aE d 175 4 [.ref 14, .int c, .int _, .int (nI (0 + n))] [] _ = _
    rw [b175_4]
    simp (disch := omega) only [h, Nat.zero_add, aBi, aBv, aBl, nI_1, nIle_t, nIle_f, nIlt_t, nIlt_f, nIeq_t, nIeq_f, nIneg, nI_clamp, nat_le_f, nat_le_t, nat_lt_f, nat_lt_t, or_self, or_false, false_or, if_true, if_false, ↓reduceIte, Int32.or_zero, Int32.add_zero, nIm2, nIm3, nIm4, nIp2, nIp4, nIp6, nIp8, nIp14, nIp16, nIp22, nIp24, nIp30, nIq2, nIq3, nIq4, hasI_0, aU_s, aU_i, aU_r, aU_u]
    rfl
theorem f157 {n : Nat} (h : I 14 4 = nI n) (hn : n ≤ 8) (c : Int32) : aF d 157 [.ref 14, .int c] (g, I, J, aP1 sl rd rl) = some (some (some (.int (bs (fun i => hasT (I 21 i) c) n))), (g, I, J, aP1 sl rd rl)) := by
  show aE d 157 0 [.ref 14, .int c, aNo, aNo] [] _ = _
  rw [b157_0]
  refine (fo_go (X := fun i a => aE d 157 4 [.ref 14, .int c, .int a, .int (nI i)] [] (g, I, J, aP1 sl rd rl)) (f := fun i acc => if hasT (I 21 i) c then acc ||| bit i else acc) n 0 0 (fun j a _ h2 => ?_)).trans ?_
  · show aE d 157 4 [.ref 14, .int c, .int a, .int (nI j)] [] _ = aE d 157 4 [.ref 14, .int c, .int (if hasT (I 21 j) c then a ||| bit j else a), .int (nI (j + 1))] [] _
    rw [b157_4]
    simp (disch := omega) only [h, f93, b157_22, tI_0, kgf8, kgt8, klt8, klf8, kmt8, kmf8, kat8, kaf8, ket8, kef8, aBi, aBv, aBl, nI_1, nIle_t, nIle_f, nIlt_t, nIlt_f, nIeq_t, nIeq_f, nIneg, nI_clamp, nat_le_f, nat_le_t, nat_lt_f, nat_lt_t, or_self, or_false, false_or, if_true, if_false, ↓reduceIte, Int32.or_zero, Int32.add_zero, nIm2, nIm3, nIm4, nIp2, nIp4, nIp6, nIp8, nIp14, nIp16, nIp22, nIp24, nIp30, nIq2, nIq3, nIq4, hasI_0, aU_s, aU_i, aU_r, aU_u]
    unfold bit
    (repeat' split) <;> simp_all
  · show aE d 157 4 [.ref 14, .int c, .int _, .int (nI (0 + n))] [] _ = _
    rw [b157_4]
    simp (disch := omega) only [h, Nat.zero_add, aBi, aBv, aBl, nI_1, nIle_t, nIle_f, nIlt_t, nIlt_f, nIeq_t, nIeq_f, nIneg, nI_clamp, nat_le_f, nat_le_t, nat_lt_f, nat_lt_t, or_self, or_false, false_or, if_true, if_false, ↓reduceIte, Int32.or_zero, Int32.add_zero, nIm2, nIm3, nIm4, nIp2, nIp4, nIp6, nIp8, nIp14, nIp16, nIp22, nIp24, nIp30, nIq2, nIq3, nIq4, hasI_0, aU_s, aU_i, aU_r, aU_u]
    rfl
theorem f139 {n : Nat} (h : I 14 4 = nI n) (hn : n ≤ 8) (b c : Int32) : aF d 139 [.ref 14, .int b, .int c] (g, I, J, aP1 sl rd rl) = some (some (some (.int (bs (fun i => (hasT b (nI i) && decide ((I 21 i &&& (c ^^^ (-1))) = 0))) n))), (g, I, J, aP1 sl rd rl)) := by
  show aE d 139 0 [.ref 14, .int b, .int c, aNo, aNo] [] _ = _
  rw [b139_0]
  refine (fo_go (X := fun i a => aE d 139 5 [.ref 14, .int b, .int c, .int a, .int (nI i)] [] (g, I, J, aP1 sl rd rl)) (f := fun i acc => if (hasT b (nI i) && decide ((I 21 i &&& (c ^^^ (-1))) = 0)) then acc ||| bit i else acc) n 0 0 (fun j a _ h2 => ?_)).trans ?_
  · show aE d 139 5 [.ref 14, .int b, .int c, .int a, .int (nI j)] [] _ = aE d 139 5 [.ref 14, .int b, .int c, .int (if (hasT b (nI j) && decide ((I 21 j &&& (c ^^^ (-1))) = 0)) then a ||| bit j else a), .int (nI (j + 1))] [] _
    rw [b139_5]
    simp (disch := omega) only [h, f93, b139_20, tI_0, kgf8, kgt8, klt8, klf8, kmt8, kmf8, kat8, kaf8, ket8, kef8, aBi, aBv, aBl, nI_1, nIle_t, nIle_f, nIlt_t, nIlt_f, nIeq_t, nIeq_f, nIneg, nI_clamp, nat_le_f, nat_le_t, nat_lt_f, nat_lt_t, or_self, or_false, false_or, if_true, if_false, ↓reduceIte, Int32.or_zero, Int32.add_zero, nIm2, nIm3, nIm4, nIp2, nIp4, nIp6, nIp8, nIp14, nIp16, nIp22, nIp24, nIp30, nIq2, nIq3, nIq4, hasI_0, aU_s, aU_i, aU_r, aU_u]
    unfold bit
    (repeat' split) <;> simp_all
  · show aE d 139 5 [.ref 14, .int b, .int c, .int _, .int (nI (0 + n))] [] _ = _
    rw [b139_5]
    simp (disch := omega) only [h, Nat.zero_add, aBi, aBv, aBl, nI_1, nIle_t, nIle_f, nIlt_t, nIlt_f, nIeq_t, nIeq_f, nIneg, nI_clamp, nat_le_f, nat_le_t, nat_lt_f, nat_lt_t, or_self, or_false, false_or, if_true, if_false, ↓reduceIte, Int32.or_zero, Int32.add_zero, nIm2, nIm3, nIm4, nIp2, nIp4, nIp6, nIp8, nIp14, nIp16, nIp22, nIp24, nIp30, nIq2, nIq3, nIq4, hasI_0, aU_s, aU_i, aU_r, aU_u]
    rfl
theorem f134 {n : Nat} (h : I 14 4 = nI n) (hn : n ≤ 8) (c : Int32) : aF d 134 [.ref 14, .int c] (g, I, J, aP1 sl rd rl) = some (some (some (.int (bs (fun i => !decide (c < I 20 i)) n))), (g, I, J, aP1 sl rd rl)) := by
  show aE d 134 0 [.ref 14, .int c, aNo, aNo] [] _ = _
  rw [b134_0]
  refine (fo_go (X := fun i a => aE d 134 4 [.ref 14, .int c, .int a, .int (nI i)] [] (g, I, J, aP1 sl rd rl)) (f := fun i acc => if !decide (c < I 20 i) then acc ||| bit i else acc) n 0 0 (fun j a _ h2 => ?_)).trans ?_
  · show aE d 134 4 [.ref 14, .int c, .int a, .int (nI j)] [] _ = aE d 134 4 [.ref 14, .int c, .int (if !decide (c < I 20 j) then a ||| bit j else a), .int (nI (j + 1))] [] _
    rw [b134_4]
    simp (disch := omega) only [h, kgf8, kgt8, klt8, klf8, kmt8, kmf8, kat8, kaf8, ket8, kef8, aBi, aBv, aBl, nI_1, nIle_t, nIle_f, nIlt_t, nIlt_f, nIeq_t, nIeq_f, nIneg, nI_clamp, nat_le_f, nat_le_t, nat_lt_f, nat_lt_t, or_self, or_false, false_or, if_true, if_false, ↓reduceIte, Int32.or_zero, Int32.add_zero, nIm2, nIm3, nIm4, nIp2, nIp4, nIp6, nIp8, nIp14, nIp16, nIp22, nIp24, nIp30, nIq2, nIq3, nIq4, hasI_0, aU_s, aU_i, aU_r, aU_u]
    unfold bit
    (repeat' split) <;> simp_all
  · show aE d 134 4 [.ref 14, .int c, .int _, .int (nI (0 + n))] [] _ = _
    rw [b134_4]
    simp (disch := omega) only [h, Nat.zero_add, aBi, aBv, aBl, nI_1, nIle_t, nIle_f, nIlt_t, nIlt_f, nIeq_t, nIeq_f, nIneg, nI_clamp, nat_le_f, nat_le_t, nat_lt_f, nat_lt_t, or_self, or_false, false_or, if_true, if_false, ↓reduceIte, Int32.or_zero, Int32.add_zero, nIm2, nIm3, nIm4, nIp2, nIp4, nIp6, nIp8, nIp14, nIp16, nIp22, nIp24, nIp30, nIq2, nIq3, nIq4, hasI_0, aU_s, aU_i, aU_r, aU_u]
    rfl
theorem f119_18 {n : Nat} {c : Int32} (h : c = nI n) (hn : n ≤ 8) (b : Int32) : aF d 119 [.ref 18, .int c, .int b] (g, I, J, aP1 sl rd rl) = some (some (some (.int (sm (fun i => hasT b (nI i)) (fun i => I 18 i) n))), (g, I, J, aP1 sl rd rl)) := by
  show aE d 119 0 [.ref 18, .int c, .int b, aNo, aNo] [] _ = _
  rw [b119_0]
  refine (fo_go (X := fun i a => aE d 119 5 [.ref 18, .int c, .int b, .int a, .int (nI i)] [] (g, I, J, aP1 sl rd rl)) (f := fun i acc => if hasT b (nI i) then acc + I 18 i else acc) n 0 0 (fun j a _ h2 => ?_)).trans ?_
  · show aE d 119 5 [.ref 18, .int c, .int b, .int a, .int (nI j)] [] _ = aE d 119 5 [.ref 18, .int c, .int b, .int (if hasT b (nI j) then a + I 18 j else a), .int (nI (j + 1))] [] _
    rw [b119_5]
    simp (disch := omega) only [h, f93, b119_24, tI_0, kgf8, kgt8, klt8, klf8, kmt8, kmf8, kat8, kaf8, ket8, kef8, aBi, aBv, aBl, nI_1, nIle_t, nIle_f, nIlt_t, nIlt_f, nIeq_t, nIeq_f, nIneg, nI_clamp, nat_le_f, nat_le_t, nat_lt_f, nat_lt_t, or_self, or_false, false_or, if_true, if_false, ↓reduceIte, Int32.or_zero, Int32.add_zero, nIm2, nIm3, nIm4, nIp2, nIp4, nIp6, nIp8, nIp14, nIp16, nIp22, nIp24, nIp30, nIq2, nIq3, nIq4, hasI_0, aU_s, aU_i, aU_r, aU_u]
    (repeat' split) <;> simp_all
  · show aE d 119 5 [.ref 18, .int c, .int b, .int _, .int (nI (0 + n))] [] _ = _
    rw [b119_5]
    simp (disch := omega) only [h, Nat.zero_add, aBi, aBv, aBl, nI_1, nIle_t, nIle_f, nIlt_t, nIlt_f, nIeq_t, nIeq_f, nIneg, nI_clamp, nat_le_f, nat_le_t, nat_lt_f, nat_lt_t, or_self, or_false, false_or, if_true, if_false, ↓reduceIte, Int32.or_zero, Int32.add_zero, nIm2, nIm3, nIm4, nIp2, nIp4, nIp6, nIp8, nIp14, nIp16, nIp22, nIp24, nIp30, nIq2, nIq3, nIq4, hasI_0, aU_s, aU_i, aU_r, aU_u]
    rfl
theorem f119_15 {n : Nat} {c : Int32} (h : c = nI n) (hn : n ≤ 8) (b : Int32) : aF d 119 [.ref 15, .int c, .int b] (g, I, J, aP1 sl rd rl) = some (some (some (.int (sm (fun i => hasT b (nI i)) (fun i => I 15 i) n))), (g, I, J, aP1 sl rd rl)) := by
  show aE d 119 0 [.ref 15, .int c, .int b, aNo, aNo] [] _ = _
  rw [b119_0_2]
  refine (fo_go (X := fun i a => aE d 119 5 [.ref 15, .int c, .int b, .int a, .int (nI i)] [] (g, I, J, aP1 sl rd rl)) (f := fun i acc => if hasT b (nI i) then acc + I 15 i else acc) n 0 0 (fun j a _ h2 => ?_)).trans ?_
  · show aE d 119 5 [.ref 15, .int c, .int b, .int a, .int (nI j)] [] _ = aE d 119 5 [.ref 15, .int c, .int b, .int (if hasT b (nI j) then a + I 15 j else a), .int (nI (j + 1))] [] _
    rw [b119_5_2]
    simp (disch := omega) only [h, f93, b119_24_2, tI_0, kgf8, kgt8, klt8, klf8, kmt8, kmf8, kat8, kaf8, ket8, kef8, aBi, aBv, aBl, nI_1, nIle_t, nIle_f, nIlt_t, nIlt_f, nIeq_t, nIeq_f, nIneg, nI_clamp, nat_le_f, nat_le_t, nat_lt_f, nat_lt_t, or_self, or_false, false_or, if_true, if_false, ↓reduceIte, Int32.or_zero, Int32.add_zero, nIm2, nIm3, nIm4, nIp2, nIp4, nIp6, nIp8, nIp14, nIp16, nIp22, nIp24, nIp30, nIq2, nIq3, nIq4, hasI_0, aU_s, aU_i, aU_r, aU_u]
    (repeat' split) <;> simp_all
  · show aE d 119 5 [.ref 15, .int c, .int b, .int _, .int (nI (0 + n))] [] _ = _
    rw [b119_5_2]
    simp (disch := omega) only [h, Nat.zero_add, aBi, aBv, aBl, nI_1, nIle_t, nIle_f, nIlt_t, nIlt_f, nIeq_t, nIeq_f, nIneg, nI_clamp, nat_le_f, nat_le_t, nat_lt_f, nat_lt_t, or_self, or_false, false_or, if_true, if_false, ↓reduceIte, Int32.or_zero, Int32.add_zero, nIm2, nIm3, nIm4, nIp2, nIp4, nIp6, nIp8, nIp14, nIp16, nIp22, nIp24, nIp30, nIq2, nIq3, nIq4, hasI_0, aU_s, aU_i, aU_r, aU_u]
    rfl
theorem f119_16 {n : Nat} {c : Int32} (h : c = nI n) (hn : n ≤ 8) (b : Int32) : aF d 119 [.ref 16, .int c, .int b] (g, I, J, aP1 sl rd rl) = some (some (some (.int (sm (fun i => hasT b (nI i)) (fun i => I 16 i) n))), (g, I, J, aP1 sl rd rl)) := by
  show aE d 119 0 [.ref 16, .int c, .int b, aNo, aNo] [] _ = _
  rw [b119_0_3]
  refine (fo_go (X := fun i a => aE d 119 5 [.ref 16, .int c, .int b, .int a, .int (nI i)] [] (g, I, J, aP1 sl rd rl)) (f := fun i acc => if hasT b (nI i) then acc + I 16 i else acc) n 0 0 (fun j a _ h2 => ?_)).trans ?_
  · show aE d 119 5 [.ref 16, .int c, .int b, .int a, .int (nI j)] [] _ = aE d 119 5 [.ref 16, .int c, .int b, .int (if hasT b (nI j) then a + I 16 j else a), .int (nI (j + 1))] [] _
    rw [b119_5_3]
    simp (disch := omega) only [h, f93, b119_24_3, tI_0, kgf8, kgt8, klt8, klf8, kmt8, kmf8, kat8, kaf8, ket8, kef8, aBi, aBv, aBl, nI_1, nIle_t, nIle_f, nIlt_t, nIlt_f, nIeq_t, nIeq_f, nIneg, nI_clamp, nat_le_f, nat_le_t, nat_lt_f, nat_lt_t, or_self, or_false, false_or, if_true, if_false, ↓reduceIte, Int32.or_zero, Int32.add_zero, nIm2, nIm3, nIm4, nIp2, nIp4, nIp6, nIp8, nIp14, nIp16, nIp22, nIp24, nIp30, nIq2, nIq3, nIq4, hasI_0, aU_s, aU_i, aU_r, aU_u]
    (repeat' split) <;> simp_all
  · show aE d 119 5 [.ref 16, .int c, .int b, .int _, .int (nI (0 + n))] [] _ = _
    rw [b119_5_3]
    simp (disch := omega) only [h, Nat.zero_add, aBi, aBv, aBl, nI_1, nIle_t, nIle_f, nIlt_t, nIlt_f, nIeq_t, nIeq_f, nIneg, nI_clamp, nat_le_f, nat_le_t, nat_lt_f, nat_lt_t, or_self, or_false, false_or, if_true, if_false, ↓reduceIte, Int32.or_zero, Int32.add_zero, nIm2, nIm3, nIm4, nIp2, nIp4, nIp6, nIp8, nIp14, nIp16, nIp22, nIp24, nIp30, nIq2, nIq3, nIq4, hasI_0, aU_s, aU_i, aU_r, aU_u]
    rfl
theorem f135 {n : Nat} (h : I 14 4 = nI n) (hn : n ≤ 8) (b : Int32) : aF d 135 [.ref 14, .int b] (g, I, J, aP1 sl rd rl) = some (some (some (.int (sm (fun i => hasT b (nI i)) (fun i => I 18 i) n))), (g, I, J, aP1 sl rd rl)) := by
  show aE d 135 0 [.ref 14, .int b] [] _ = _
  simp (disch := omega) only [b135_0, f119_18 h hn, b135_12, aBi, aBv, aBl, nI_1, nIle_t, nIle_f, nIlt_t, nIlt_f, nIeq_t, nIeq_f, nIneg, nI_clamp, nat_le_f, nat_le_t, nat_lt_f, nat_lt_t, or_self, or_false, false_or, if_true, if_false, ↓reduceIte, Int32.or_zero, Int32.add_zero, nIm2, nIm3, nIm4, nIp2, nIp4, nIp6, nIp8, nIp14, nIp16, nIp22, nIp24, nIp30, nIq2, nIq3, nIq4, hasI_0, aU_s, aU_i, aU_r, aU_u]
theorem f118 {n : Nat} (h : I 14 0 = nI n) (hn : n ≤ 8) (b : Int32) : aF d 118 [.ref 14, .int b] (g, I, J, aP1 sl rd rl) = some (some (some (.int (sm (fun i => hasT b (nI i)) (fun i => I 15 i) n))), (g, I, J, aP1 sl rd rl)) := by
  show aE d 118 0 [.ref 14, .int b] [] _ = _
  simp (disch := omega) only [b118_0, f119_15 h hn, b118_12, aBi, aBv, aBl, nI_1, nIle_t, nIle_f, nIlt_t, nIlt_f, nIeq_t, nIeq_f, nIneg, nI_clamp, nat_le_f, nat_le_t, nat_lt_f, nat_lt_t, or_self, or_false, false_or, if_true, if_false, ↓reduceIte, Int32.or_zero, Int32.add_zero, nIm2, nIm3, nIm4, nIp2, nIp4, nIp6, nIp8, nIp14, nIp16, nIp22, nIp24, nIp30, nIq2, nIq3, nIq4, hasI_0, aU_s, aU_i, aU_r, aU_u]
theorem f120 {n : Nat} (h : I 14 0 = nI n) (hn : n ≤ 8) (b : Int32) : aF d 120 [.ref 14, .int b] (g, I, J, aP1 sl rd rl) = some (some (some (.int (sm (fun i => hasT b (nI i)) (fun i => I 16 i) n))), (g, I, J, aP1 sl rd rl)) := by
  show aE d 120 0 [.ref 14, .int b] [] _ = _
  simp (disch := omega) only [b120_0, f119_16 h hn, b120_12, aBi, aBv, aBl, nI_1, nIle_t, nIle_f, nIlt_t, nIlt_f, nIeq_t, nIeq_f, nIneg, nI_clamp, nat_le_f, nat_le_t, nat_lt_f, nat_lt_t, or_self, or_false, false_or, if_true, if_false, ↓reduceIte, Int32.or_zero, Int32.add_zero, nIm2, nIm3, nIm4, nIp2, nIp4, nIp6, nIp8, nIp14, nIp16, nIp22, nIp24, nIp30, nIq2, nIq3, nIq4, hasI_0, aU_s, aU_i, aU_r, aU_u]
/-- the first n -/
def fN (n : Int32) : Int32 := (1 <<< (n &&& 31)) - 1
theorem f132 (c : Int32) : aF d 132 [.int c] (g, I, J, aP1 sl rd rl) = some (some (some (.int (fN c))), (g, I, J, aP1 sl rd rl)) := by
  show aE d 132 0 [.int c] [] _ = _
  rw [b132_0]; rfl
theorem f131 : aF d 131 [.ref 14] (g, I, J, aP1 sl rd rl) = some (some (some (.int (fN (I 14 4)))), (g, I, J, aP1 sl rd rl)) := by
  show aE d 131 0 [.ref 14] [] _ = _
  simp (disch := omega) only [b131_0, f132, b131_7, aBi, aBv, aBl, nI_1, nIle_t, nIle_f, nIlt_t, nIlt_f, nIeq_t, nIeq_f, nIneg, nI_clamp, nat_le_f, nat_le_t, nat_lt_f, nat_lt_t, or_self, or_false, false_or, if_true, if_false, ↓reduceIte, Int32.or_zero, Int32.add_zero, nIm2, nIm3, nIm4, nIp2, nIp4, nIp6, nIp8, nIp14, nIp16, nIp22, nIp24, nIp30, nIq2, nIq3, nIq4, hasI_0, aU_s, aU_i, aU_r, aU_u]
theorem f130 (c : Int32) : aF d 130 [.ref 14, .int c] (g, I, J, aP1 sl rd rl) = some (some (some (.int (tI (decide ((c &&& (fN (I 14 4) ^^^ (-1))) = 0))))), (g, I, J, aP1 sl rd rl)) := by
  show aE d 130 0 [.ref 14, .int c] [] _ = _
  simp (disch := omega) only [b130_0, f131, b130_5, aBi, aBv, aBl, nI_1, nIle_t, nIle_f, nIlt_t, nIlt_f, nIeq_t, nIeq_f, nIneg, nI_clamp, nat_le_f, nat_le_t, nat_lt_f, nat_lt_t, or_self, or_false, false_or, if_true, if_false, ↓reduceIte, Int32.or_zero, Int32.add_zero, nIm2, nIm3, nIm4, nIp2, nIp4, nIp6, nIp8, nIp14, nIp16, nIp22, nIp24, nIp30, nIq2, nIq3, nIq4, hasI_0, aU_s, aU_i, aU_r, aU_u]
  split <;> simp_all [tI]
theorem f267 : aF d 267 [.ref 46] (g, I, J, aP1 sl rd rl) = some (some (some (.int (fN (I 46 4)))), (g, I, J, aP1 sl rd rl)) := by
  show aE d 267 0 [.ref 46] [] _ = _
  rw [b267_0]; rfl
theorem f264 (c : Int32) : aF d 264 [.ref 46, .int c] (g, I, J, aP1 sl rd rl) = some (some (some (.int (inI c 0 (fN (I 46 4))))), (g, I, J, aP1 sl rd rl)) := by
  show aE d 264 0 [.ref 46, .int c] [] _ = _
  simp (disch := omega) only [b264_0, f181, b264_13, nar_in, aBi, aBv, aBl, nI_1, nIle_t, nIle_f, nIlt_t, nIlt_f, nIeq_t, nIeq_f, nIneg, nI_clamp, nat_le_f, nat_le_t, nat_lt_f, nat_lt_t, or_self, or_false, false_or, if_true, if_false, ↓reduceIte, Int32.or_zero, Int32.add_zero, nIm2, nIm3, nIm4, nIp2, nIp4, nIp6, nIp8, nIp14, nIp16, nIp22, nIp24, nIp30, nIq2, nIq3, nIq4, hasI_0, aU_s, aU_i, aU_r, aU_u]
  rfl
theorem f214 {n : Nat} (h : I 46 1 = nI n) (hn : n ≤ 8) (c : Int32) : aF d 214 [.ref 46, .ref 47, .int c] (g, I, J, aP1 sl rd rl) = some (some (some (.int (bs (fun i => decide (I 47 (6 + i) = c)) n))), (g, I, J, aP1 sl rd rl)) := by
  show aE d 214 0 [.ref 46, .ref 47, .int c, aNo, aNo] [] _ = _
  rw [b214_0]
  refine (fo_go (X := fun i a => aE d 214 5 [.ref 46, .ref 47, .int c, .int a, .int (nI i)] [] (g, I, J, aP1 sl rd rl)) (f := fun i acc => if decide (I 47 (6 + i) = c) then acc ||| bit i else acc) n 0 0 (fun j a _ h2 => ?_)).trans ?_
  · show aE d 214 5 [.ref 46, .ref 47, .int c, .int a, .int (nI j)] [] _ = aE d 214 5 [.ref 46, .ref 47, .int c, .int (if decide (I 47 (6 + j) = c) then a ||| bit j else a), .int (nI (j + 1))] [] _
    rw [b214_5]
    simp (disch := omega) only [h, kgf8, kgt8, klt8, klf8, kmt8, kmf8, kat8, kaf8, ket8, kef8, aBi, aBv, aBl, nI_1, nIle_t, nIle_f, nIlt_t, nIlt_f, nIeq_t, nIeq_f, nIneg, nI_clamp, nat_le_f, nat_le_t, nat_lt_f, nat_lt_t, or_self, or_false, false_or, if_true, if_false, ↓reduceIte, Int32.or_zero, Int32.add_zero, nIm2, nIm3, nIm4, nIp2, nIp4, nIp6, nIp8, nIp14, nIp16, nIp22, nIp24, nIp30, nIq2, nIq3, nIq4, hasI_0, aU_s, aU_i, aU_r, aU_u]
    unfold bit
    (repeat' split) <;> simp_all
  · show aE d 214 5 [.ref 46, .ref 47, .int c, .int _, .int (nI (0 + n))] [] _ = _
    rw [b214_5]
    simp (disch := omega) only [h, Nat.zero_add, aBi, aBv, aBl, nI_1, nIle_t, nIle_f, nIlt_t, nIlt_f, nIeq_t, nIeq_f, nIneg, nI_clamp, nat_le_f, nat_le_t, nat_lt_f, nat_lt_t, or_self, or_false, false_or, if_true, if_false, ↓reduceIte, Int32.or_zero, Int32.add_zero, nIm2, nIm3, nIm4, nIp2, nIp4, nIp6, nIp8, nIp14, nIp16, nIp22, nIp24, nIp30, nIq2, nIq3, nIq4, hasI_0, aU_s, aU_i, aU_r, aU_u]
    rfl
theorem f215 {n : Nat} (h : I 46 4 = nI n) (hn : n ≤ 8) (c : Int32) : aF d 215 [.ref 46, .int c] (g, I, J, aP1 sl rd rl) = some (some (some (.int (bs (fun i => decide (I 50 (4 * i + 1) = c)) n))), (g, I, J, aP1 sl rd rl)) := by
  show aE d 215 0 [.ref 46, .int c, aNo, aNo] [] _ = _
  rw [b215_0]
  refine (fo_go (X := fun i a => aE d 215 4 [.ref 46, .int c, .int a, .int (nI i)] [] (g, I, J, aP1 sl rd rl)) (f := fun i acc => if decide (I 50 (4 * i + 1) = c) then acc ||| bit i else acc) n 0 0 (fun j a _ h2 => ?_)).trans ?_
  · show aE d 215 4 [.ref 46, .int c, .int a, .int (nI j)] [] _ = aE d 215 4 [.ref 46, .int c, .int (if decide (I 50 (4 * j + 1) = c) then a ||| bit j else a), .int (nI (j + 1))] [] _
    rw [b215_4]
    simp (disch := omega) only [h, kgf8, kgt8, klt8, klf8, kmt8, kmf8, kat8, kaf8, ket8, kef8, aBi, aBv, aBl, nI_1, nIle_t, nIle_f, nIlt_t, nIlt_f, nIeq_t, nIeq_f, nIneg, nI_clamp, nat_le_f, nat_le_t, nat_lt_f, nat_lt_t, or_self, or_false, false_or, if_true, if_false, ↓reduceIte, Int32.or_zero, Int32.add_zero, nIm2, nIm3, nIm4, nIp2, nIp4, nIp6, nIp8, nIp14, nIp16, nIp22, nIp24, nIp30, nIq2, nIq3, nIq4, hasI_0, aU_s, aU_i, aU_r, aU_u]
    unfold bit
    (repeat' split) <;> simp_all
  · show aE d 215 4 [.ref 46, .int c, .int _, .int (nI (0 + n))] [] _ = _
    rw [b215_4]
    simp (disch := omega) only [h, Nat.zero_add, aBi, aBv, aBl, nI_1, nIle_t, nIle_f, nIlt_t, nIlt_f, nIeq_t, nIeq_f, nIneg, nI_clamp, nat_le_f, nat_le_t, nat_lt_f, nat_lt_t, or_self, or_false, false_or, if_true, if_false, ↓reduceIte, Int32.or_zero, Int32.add_zero, nIm2, nIm3, nIm4, nIp2, nIp4, nIp6, nIp8, nIp14, nIp16, nIp22, nIp24, nIp30, nIq2, nIq3, nIq4, hasI_0, aU_s, aU_i, aU_r, aU_u]
    rfl
theorem f216 {n : Nat} (h : I 46 4 = nI n) (hn : n ≤ 8) (b : Int32) : aF d 216 [.ref 46, .int b] (g, I, J, aP1 sl rd rl) = some (some (some (.int (sm (fun i => hasT b (nI i)) (fun i => I 50 (4 * i)) n))), (g, I, J, aP1 sl rd rl)) := by
  show aE d 216 0 [.ref 46, .int b, aNo, aNo] [] _ = _
  rw [b216_0]
  refine (fo_go (X := fun i a => aE d 216 4 [.ref 46, .int b, .int a, .int (nI i)] [] (g, I, J, aP1 sl rd rl)) (f := fun i acc => if hasT b (nI i) then acc + I 50 (4 * i) else acc) n 0 0 (fun j a _ h2 => ?_)).trans ?_
  · show aE d 216 4 [.ref 46, .int b, .int a, .int (nI j)] [] _ = aE d 216 4 [.ref 46, .int b, .int (if hasT b (nI j) then a + I 50 (4 * j) else a), .int (nI (j + 1))] [] _
    rw [b216_4]
    simp (disch := omega) only [h, f217, b216_18, tI_0, kgf8, kgt8, klt8, klf8, kmt8, kmf8, kat8, kaf8, ket8, kef8, aBi, aBv, aBl, nI_1, nIle_t, nIle_f, nIlt_t, nIlt_f, nIeq_t, nIeq_f, nIneg, nI_clamp, nat_le_f, nat_le_t, nat_lt_f, nat_lt_t, or_self, or_false, false_or, if_true, if_false, ↓reduceIte, Int32.or_zero, Int32.add_zero, nIm2, nIm3, nIm4, nIp2, nIp4, nIp6, nIp8, nIp14, nIp16, nIp22, nIp24, nIp30, nIq2, nIq3, nIq4, hasI_0, aU_s, aU_i, aU_r, aU_u]
    (repeat' split) <;> simp_all
  · show aE d 216 4 [.ref 46, .int b, .int _, .int (nI (0 + n))] [] _ = _
    rw [b216_4]
    simp (disch := omega) only [h, Nat.zero_add, aBi, aBv, aBl, nI_1, nIle_t, nIle_f, nIlt_t, nIlt_f, nIeq_t, nIeq_f, nIneg, nI_clamp, nat_le_f, nat_le_t, nat_lt_f, nat_lt_t, or_self, or_false, false_or, if_true, if_false, ↓reduceIte, Int32.or_zero, Int32.add_zero, nIm2, nIm3, nIm4, nIp2, nIp4, nIp6, nIp8, nIp14, nIp16, nIp22, nIp24, nIp30, nIq2, nIq3, nIq4, hasI_0, aU_s, aU_i, aU_r, aU_u]
    rfl
theorem f255_49 {n : Nat} (h : I 46 1 = nI n) (hn : n ≤ 8) (b : Int32) : aF d 255 [.ref 46, .ref 49, .int b] (g, I, J, aP1 sl rd rl) = some (some (some (.int (sm (fun i => hasT b (nI i)) (fun i => I 49 i) n))), (g, I, J, aP1 sl rd rl)) := by
  show aE d 255 0 [.ref 46, .ref 49, .int b, aNo, aNo] [] _ = _
  rw [b255_0]
  refine (fo_go (X := fun i a => aE d 255 5 [.ref 46, .ref 49, .int b, .int a, .int (nI i)] [] (g, I, J, aP1 sl rd rl)) (f := fun i acc => if hasT b (nI i) then acc + I 49 i else acc) n 0 0 (fun j a _ h2 => ?_)).trans ?_
  · show aE d 255 5 [.ref 46, .ref 49, .int b, .int a, .int (nI j)] [] _ = aE d 255 5 [.ref 46, .ref 49, .int b, .int (if hasT b (nI j) then a + I 49 j else a), .int (nI (j + 1))] [] _
    rw [b255_5]
    simp (disch := omega) only [h, f217, b255_21, tI_0, kgf8, kgt8, klt8, klf8, kmt8, kmf8, kat8, kaf8, ket8, kef8, aBi, aBv, aBl, nI_1, nIle_t, nIle_f, nIlt_t, nIlt_f, nIeq_t, nIeq_f, nIneg, nI_clamp, nat_le_f, nat_le_t, nat_lt_f, nat_lt_t, or_self, or_false, false_or, if_true, if_false, ↓reduceIte, Int32.or_zero, Int32.add_zero, nIm2, nIm3, nIm4, nIp2, nIp4, nIp6, nIp8, nIp14, nIp16, nIp22, nIp24, nIp30, nIq2, nIq3, nIq4, hasI_0, aU_s, aU_i, aU_r, aU_u]
    (repeat' split) <;> simp_all
  · show aE d 255 5 [.ref 46, .ref 49, .int b, .int _, .int (nI (0 + n))] [] _ = _
    rw [b255_5]
    simp (disch := omega) only [h, Nat.zero_add, aBi, aBv, aBl, nI_1, nIle_t, nIle_f, nIlt_t, nIlt_f, nIeq_t, nIeq_f, nIneg, nI_clamp, nat_le_f, nat_le_t, nat_lt_f, nat_lt_t, or_self, or_false, false_or, if_true, if_false, ↓reduceIte, Int32.or_zero, Int32.add_zero, nIm2, nIm3, nIm4, nIp2, nIp4, nIp6, nIp8, nIp14, nIp16, nIp22, nIp24, nIp30, nIq2, nIq3, nIq4, hasI_0, aU_s, aU_i, aU_r, aU_u]
    rfl
theorem f255_48 {n : Nat} (h : I 46 1 = nI n) (hn : n ≤ 8) (b : Int32) : aF d 255 [.ref 46, .ref 48, .int b] (g, I, J, aP1 sl rd rl) = some (some (some (.int (sm (fun i => hasT b (nI i)) (fun i => I 48 i) n))), (g, I, J, aP1 sl rd rl)) := by
  show aE d 255 0 [.ref 46, .ref 48, .int b, aNo, aNo] [] _ = _
  rw [b255_0_2]
  refine (fo_go (X := fun i a => aE d 255 5 [.ref 46, .ref 48, .int b, .int a, .int (nI i)] [] (g, I, J, aP1 sl rd rl)) (f := fun i acc => if hasT b (nI i) then acc + I 48 i else acc) n 0 0 (fun j a _ h2 => ?_)).trans ?_
  · show aE d 255 5 [.ref 46, .ref 48, .int b, .int a, .int (nI j)] [] _ = aE d 255 5 [.ref 46, .ref 48, .int b, .int (if hasT b (nI j) then a + I 48 j else a), .int (nI (j + 1))] [] _
    rw [b255_5_2]
    simp (disch := omega) only [h, f217, b255_21_2, tI_0, kgf8, kgt8, klt8, klf8, kmt8, kmf8, kat8, kaf8, ket8, kef8, aBi, aBv, aBl, nI_1, nIle_t, nIle_f, nIlt_t, nIlt_f, nIeq_t, nIeq_f, nIneg, nI_clamp, nat_le_f, nat_le_t, nat_lt_f, nat_lt_t, or_self, or_false, false_or, if_true, if_false, ↓reduceIte, Int32.or_zero, Int32.add_zero, nIm2, nIm3, nIm4, nIp2, nIp4, nIp6, nIp8, nIp14, nIp16, nIp22, nIp24, nIp30, nIq2, nIq3, nIq4, hasI_0, aU_s, aU_i, aU_r, aU_u]
    (repeat' split) <;> simp_all
  · show aE d 255 5 [.ref 46, .ref 48, .int b, .int _, .int (nI (0 + n))] [] _ = _
    rw [b255_5_2]
    simp (disch := omega) only [h, Nat.zero_add, aBi, aBv, aBl, nI_1, nIle_t, nIle_f, nIlt_t, nIlt_f, nIeq_t, nIeq_f, nIneg, nI_clamp, nat_le_f, nat_le_t, nat_lt_f, nat_lt_t, or_self, or_false, false_or, if_true, if_false, ↓reduceIte, Int32.or_zero, Int32.add_zero, nIm2, nIm3, nIm4, nIp2, nIp4, nIp6, nIp8, nIp14, nIp16, nIp22, nIp24, nIp30, nIq2, nIq3, nIq4, hasI_0, aU_s, aU_i, aU_r, aU_u]
    rfl
theorem f257 {n : Nat} (h : I 46 6 = nI n) (hn : n ≤ 8)  : aF d 257 [.ref 46] (g, I, J, aP1 sl rd rl) = some (some (some (.int (bs (fun i => decide (I 47 (30 + i) = -1)) n))), (g, I, J, aP1 sl rd rl)) := by
  show aE d 257 0 [.ref 46, aNo, aNo] [] _ = _
  rw [b257_0]
  refine (fo_go (X := fun i a => aE d 257 4 [.ref 46, .int a, .int (nI i)] [] (g, I, J, aP1 sl rd rl)) (f := fun i acc => if decide (I 47 (30 + i) = -1) then acc ||| bit i else acc) n 0 0 (fun j a _ h2 => ?_)).trans ?_
  · show aE d 257 4 [.ref 46, .int a, .int (nI j)] [] _ = aE d 257 4 [.ref 46, .int (if decide (I 47 (30 + j) = -1) then a ||| bit j else a), .int (nI (j + 1))] [] _
    rw [b257_4]
    simp (disch := omega) only [h, kgf8, kgt8, klt8, klf8, kmt8, kmf8, kat8, kaf8, ket8, kef8, aBi, aBv, aBl, nI_1, nIle_t, nIle_f, nIlt_t, nIlt_f, nIeq_t, nIeq_f, nIneg, nI_clamp, nat_le_f, nat_le_t, nat_lt_f, nat_lt_t, or_self, or_false, false_or, if_true, if_false, ↓reduceIte, Int32.or_zero, Int32.add_zero, nIm2, nIm3, nIm4, nIp2, nIp4, nIp6, nIp8, nIp14, nIp16, nIp22, nIp24, nIp30, nIq2, nIq3, nIq4, hasI_0, aU_s, aU_i, aU_r, aU_u]
    unfold bit
    (repeat' split) <;> simp_all
  · show aE d 257 4 [.ref 46, .int _, .int (nI (0 + n))] [] _ = _
    rw [b257_4]
    simp (disch := omega) only [h, Nat.zero_add, aBi, aBv, aBl, nI_1, nIle_t, nIle_f, nIlt_t, nIlt_f, nIeq_t, nIeq_f, nIneg, nI_clamp, nat_le_f, nat_le_t, nat_lt_f, nat_lt_t, or_self, or_false, false_or, if_true, if_false, ↓reduceIte, Int32.or_zero, Int32.add_zero, nIm2, nIm3, nIm4, nIp2, nIp4, nIp6, nIp8, nIp14, nIp16, nIp22, nIp24, nIp30, nIq2, nIq3, nIq4, hasI_0, aU_s, aU_i, aU_r, aU_u]
    rfl
theorem f270 {n : Nat} (h : I 46 4 = nI n) (hn : n ≤ 8) (b c : Int32) : aF d 270 [.ref 46, .int b, .int c] (g, I, J, aP1 sl rd rl) = some (some (some (.int (bs (fun i => (hasT b (nI i) && decide ((I 50 (4 * i + 3) &&& (c ^^^ (-1))) = 0))) n))), (g, I, J, aP1 sl rd rl)) := by
  show aE d 270 0 [.ref 46, .int b, .int c, aNo, aNo] [] _ = _
  rw [b270_0]
  refine (fo_go (X := fun i a => aE d 270 5 [.ref 46, .int b, .int c, .int a, .int (nI i)] [] (g, I, J, aP1 sl rd rl)) (f := fun i acc => if (hasT b (nI i) && decide ((I 50 (4 * i + 3) &&& (c ^^^ (-1))) = 0)) then acc ||| bit i else acc) n 0 0 (fun j a _ h2 => ?_)).trans ?_
  · show aE d 270 5 [.ref 46, .int b, .int c, .int a, .int (nI j)] [] _ = aE d 270 5 [.ref 46, .int b, .int c, .int (if (hasT b (nI j) && decide ((I 50 (4 * j + 3) &&& (c ^^^ (-1))) = 0)) then a ||| bit j else a), .int (nI (j + 1))] [] _
    rw [b270_5]
    simp (disch := omega) only [h, f217, b270_21, tI_0, kgf8, kgt8, klt8, klf8, kmt8, kmf8, kat8, kaf8, ket8, kef8, aBi, aBv, aBl, nI_1, nIle_t, nIle_f, nIlt_t, nIlt_f, nIeq_t, nIeq_f, nIneg, nI_clamp, nat_le_f, nat_le_t, nat_lt_f, nat_lt_t, or_self, or_false, false_or, if_true, if_false, ↓reduceIte, Int32.or_zero, Int32.add_zero, nIm2, nIm3, nIm4, nIp2, nIp4, nIp6, nIp8, nIp14, nIp16, nIp22, nIp24, nIp30, nIq2, nIq3, nIq4, hasI_0, aU_s, aU_i, aU_r, aU_u]
    unfold bit
    (repeat' split) <;> simp_all
  · show aE d 270 5 [.ref 46, .int b, .int c, .int _, .int (nI (0 + n))] [] _ = _
    rw [b270_5]
    simp (disch := omega) only [h, Nat.zero_add, aBi, aBv, aBl, nI_1, nIle_t, nIle_f, nIlt_t, nIlt_f, nIeq_t, nIeq_f, nIneg, nI_clamp, nat_le_f, nat_le_t, nat_lt_f, nat_lt_t, or_self, or_false, false_or, if_true, if_false, ↓reduceIte, Int32.or_zero, Int32.add_zero, nIm2, nIm3, nIm4, nIp2, nIp4, nIp6, nIp8, nIp14, nIp16, nIp22, nIp24, nIp30, nIq2, nIq3, nIq4, hasI_0, aU_s, aU_i, aU_r, aU_u]
    rfl
/-! rows that are told -/
theorem f83 (v : Int64) : aF d 83 [.ref 12, .long v] (g, I, J, aP1 sl rd rl) = some (some none, (g, aU (aU I 12 1 0) 12 1 (nI 1), aU J 13 0 v, aP1 sl rd rl)) := by
  show aE d 83 0 [.ref 12, .long v, aNo] [] _ = _
  rw [b83_0, f84]
  simp only [aBv]
  rw [b83_4, f85 (n := 0) (aU_s I 12 1 0) (by decide)]
  simp only [aBv]
  rw [b83_9]
theorem f83' (v : Int64) : aF d 83 [.ref 12, .long v] (g, I, J, aP1 sl rd rl) = some (some none, (g, aU I 12 1 1, aU J 13 0 v, aP1 sl rd rl)) := by
  rw [f83, aU_u]; rfl
theorem f82 (v w : Int64) : aF d 82 [.ref 12, .long v, .long w] (g, I, J, aP1 sl rd rl) = some (some none, (g, aU I 12 1 2, aU (aU J 13 0 v) 13 1 w, aP1 sl rd rl)) := by
  show aE d 82 0 [.ref 12, .long v, aNo, .long w, aNo] [] _ = _
  rw [b82_0, f83']
  simp only [aBv]
  rw [b82_5, f85 (n := 1) (aU_s I 12 1 1) (by decide), aU_u]
  simp only [aBv]
  rw [b82_10]
  rfl
theorem f110 (v w x : Int64) : aF d 110 [.ref 12, .long v, .long w, .long x] (g, I, J, aP1 sl rd rl) = some (some none, (g, aU I 12 1 3, aU (aU (aU J 13 0 v) 13 1 w) 13 2 x, aP1 sl rd rl)) := by
  show aE d 110 0 [.ref 12, .long v, aNo, .long w, aNo, .long x, aNo] [] _ = _
  rw [b110_0, f82]
  simp only [aBv]
  rw [b110_6, f85 (n := 2) (aU_s I 12 1 2) (by decide), aU_u]
  simp only [aBv]
  rw [b110_12]
  rfl
theorem f229 {n : Nat} (h : I 46 12 = nI n) (hn : n < 16) (v : Int64) : aF d 229 [.ref 46, .long v] (g, I, J, aP1 sl rd rl) = some (some none, (g, aU I 46 12 (nI (n + 1)), aU J 53 n v, aP1 sl rd rl)) := by
  show aE d 229 0 [.ref 46, .long v, aNo] [] _ = _
  simp (disch := omega) only [b229_0, h, aBi, aBv, aBl, nI_1, nIle_t, nIle_f, nIlt_t, nIlt_f, nIeq_t, nIeq_f, nIneg, nI_clamp, nat_le_f, nat_le_t, nat_lt_f, nat_lt_t, or_self, or_false, false_or, if_true, if_false, ↓reduceIte, Int32.or_zero, Int32.add_zero, nIm2, nIm3, nIm4, nIp2, nIp4, nIp6, nIp8, nIp14, nIp16, nIp22, nIp24, nIp30, nIq2, nIq3, nIq4, hasI_0, aU_s, aU_i, aU_r, aU_u]
