/-! rows copied -/
variable {d : Nat} {g : Nat × Nat × Nat} {I : Nat → Nat → Int32} {J : Nat → Nat → Int64} {sl rd rl : Nat}
def cpB (r f : Nat → Int32) (o n : Nat) : Nat → Int32 := fun k => if o ≤ k ∧ k < o + n then f (k - o) else r k
theorem cpB_0 (r f : Nat → Int32) (o : Nat) : cpB r f o 0 = r := by
  funext k; unfold cpB; rw [if_neg (by omega)]
theorem cpB_1 (r f : Nat → Int32) (o n : Nat) : upd (cpB r f o n) (o + n) (f n) = cpB r f o (n + 1) := by
  funext k; unfold cpB upd
  by_cases h : k = o + n
  · subst h; rw [if_pos rfl, if_pos (by omega), show o + n - o = n by omega]
  · rw [if_neg h]
    show (if o ≤ k ∧ k < o + n then f (k - o) else r k) = _
    by_cases h2 : o ≤ k ∧ k < o + n
    · rw [if_pos h2, if_pos (by omega)]
    · rw [if_neg h2, if_neg (by omega)]
theorem cpB_in (r f : Nat → Int32) {o n k : Nat} (h : o ≤ k) (h2 : k < o + n) : cpB r f o n k = f (k - o) := if_pos ⟨h, h2⟩
theorem cpB_out (r f : Nat → Int32) {o n k : Nat} (h : k < o ∨ o + n ≤ k) : cpB r f o n k = r k := if_neg (by omega)
theorem aCp_R (I : Nat → Nat → Int32) (a i b j n : Nat) : aCpI I a i b j n = aR I b (cpB (I b) (fun k => I a (i + k)) j n) := by
  funext c k; unfold aCpI aR cpB
  by_cases h : c = b
  · subst h; simp
  · simp [h]
theorem f63_26 : aF d 63 [.ref 25, .ref 23] (g, I, J, aP1 sl rd rl) = some (some none, (g, aR I 26 (cpB (I 26) (I 24) 0 32), J, aP1 sl rd rl)) := by
  show aE d 63 0 [.ref 25, .ref 23] [] _ = _
  rw [b63_0, aCp_R]
  simp only [Nat.zero_add]
theorem f63_28 : aF d 63 [.ref 27, .ref 23] (g, I, J, aP1 sl rd rl) = some (some none, (g, aR I 28 (cpB (I 28) (I 24) 0 32), J, aP1 sl rd rl)) := by
  show aE d 63 0 [.ref 27, .ref 23] [] _ = _
  rw [b63_0_2, aCp_R]
  simp only [Nat.zero_add]
theorem n32 (a : Nat) : nI a * 32 = nI (a * 32) := pk_mul a 32
theorem f81_31 {i : Nat} (h : i < 2) : aF d 81 [.ref 23, .ref 31, .int (nI i)] (g, I, J, aP1 sl rd rl) = some (some none, (g, aR I 31 (cpB (I 31) (I 24) (32 * i) 32), J, aP1 sl rd rl)) := by
  show aE d 81 0 [.ref 23, .ref 31, .int (nI i)] [] _ = _
  have e : (nI (i + 1) * 32) = nI ((i + 1) * 32) := n32 _
  have e2 : ((64 : Int32) < nI ((i + 1) * 32)) = False := eq_false (nI_nlt (a := 64) (by omega) (by decide))
  simp (disch := omega) only [b81_0, e, e2, n32, aBi, aBv, aBl, nI_1, nIle_t, nIle_f, nIlt_t, nIlt_f, nIeq_t, nIeq_f, nIneg, nI_clamp, nat_le_f, nat_le_t, nat_lt_f, nat_lt_t, or_self, or_false, false_or, if_true, if_false, ↓reduceIte, Int32.or_zero, Int32.add_zero, nIm2, nIm3, nIm4, nIp2, nIp4, nIp6, nIp8, nIp14, nIp16, nIp22, nIp24, nIp30, nIq2, nIq3, nIq4, hasI_0, aU_s, aU_i, aU_r, aU_u]
  rw [if_pos (by refine ⟨rfl, rfl, by decide, not_false, by decide, by decide, ?_, by decide, by decide⟩; show i * 32 + 32 ≤ 64; omega), aCp_R]
  simp only [Nat.zero_add, Nat.mul_comm i 32]
theorem f81_30 {i : Nat} (h : i < 12) : aF d 81 [.ref 25, .ref 30, .int (nI i)] (g, I, J, aP1 sl rd rl) = some (some none, (g, aR I 30 (cpB (I 30) (I 26) (32 * i) 32), J, aP1 sl rd rl)) := by
  show aE d 81 0 [.ref 25, .ref 30, .int (nI i)] [] _ = _
  have e : (nI (i + 1) * 32) = nI ((i + 1) * 32) := n32 _
  have e2 : ((384 : Int32) < nI ((i + 1) * 32)) = False := eq_false (nI_nlt (a := 384) (by omega) (by decide))
  simp (disch := omega) only [b81_0_2, e, e2, n32, aBi, aBv, aBl, nI_1, nIle_t, nIle_f, nIlt_t, nIlt_f, nIeq_t, nIeq_f, nIneg, nI_clamp, nat_le_f, nat_le_t, nat_lt_f, nat_lt_t, or_self, or_false, false_or, if_true, if_false, ↓reduceIte, Int32.or_zero, Int32.add_zero, nIm2, nIm3, nIm4, nIp2, nIp4, nIp6, nIp8, nIp14, nIp16, nIp22, nIp24, nIp30, nIq2, nIq3, nIq4, hasI_0, aU_s, aU_i, aU_r, aU_u]
  rw [if_pos (by refine ⟨rfl, rfl, by decide, not_false, by decide, by decide, ?_, by decide, by decide⟩; show i * 32 + 32 ≤ 384; omega), aCp_R]
  simp only [Nat.zero_add, Nat.mul_comm i 32]
theorem f107_31 {i : Nat} (h : i < 2) : aF d 107 [.ref 23, .ref 31, .int (nI i)] (g, I, J, aP1 sl rd rl) = some (some none, (g, aR I 24 (cpB (I 24) (fun k => I 31 (32 * i + k)) 0 32), J, aP1 sl rd rl)) := by
  show aE d 107 0 [.ref 23, .ref 31, .int (nI i)] [] _ = _
  have e : (nI (i + 1) * 32) = nI ((i + 1) * 32) := n32 _
  have e2 : ((64 : Int32) < nI ((i + 1) * 32)) = False := eq_false (nI_nlt (a := 64) (by omega) (by decide))
  simp (disch := omega) only [b107_0, e, e2, n32, aBi, aBv, aBl, nI_1, nIle_t, nIle_f, nIlt_t, nIlt_f, nIeq_t, nIeq_f, nIneg, nI_clamp, nat_le_f, nat_le_t, nat_lt_f, nat_lt_t, or_self, or_false, false_or, if_true, if_false, ↓reduceIte, Int32.or_zero, Int32.add_zero, nIm2, nIm3, nIm4, nIp2, nIp4, nIp6, nIp8, nIp14, nIp16, nIp22, nIp24, nIp30, nIq2, nIq3, nIq4, hasI_0, aU_s, aU_i, aU_r, aU_u]
  rw [if_pos (by refine ⟨rfl, rfl, not_false, by decide, by decide, ?_, by decide, by decide, by decide⟩; show i * 32 + 32 ≤ 64; omega), aCp_R]
  simp only [Nat.mul_comm i 32]
theorem f107_30 {i : Nat} (h : i < 12) : aF d 107 [.ref 23, .ref 30, .int (nI i)] (g, I, J, aP1 sl rd rl) = some (some none, (g, aR I 24 (cpB (I 24) (fun k => I 30 (32 * i + k)) 0 32), J, aP1 sl rd rl)) := by
  show aE d 107 0 [.ref 23, .ref 30, .int (nI i)] [] _ = _
  have e : (nI (i + 1) * 32) = nI ((i + 1) * 32) := n32 _
  have e2 : ((384 : Int32) < nI ((i + 1) * 32)) = False := eq_false (nI_nlt (a := 384) (by omega) (by decide))
  simp (disch := omega) only [b107_0_2, e, e2, n32, aBi, aBv, aBl, nI_1, nIle_t, nIle_f, nIlt_t, nIlt_f, nIeq_t, nIeq_f, nIneg, nI_clamp, nat_le_f, nat_le_t, nat_lt_f, nat_lt_t, or_self, or_false, false_or, if_true, if_false, ↓reduceIte, Int32.or_zero, Int32.add_zero, nIm2, nIm3, nIm4, nIp2, nIp4, nIp6, nIp8, nIp14, nIp16, nIp22, nIp24, nIp30, nIq2, nIq3, nIq4, hasI_0, aU_s, aU_i, aU_r, aU_u]
  rw [if_pos (by refine ⟨rfl, rfl, not_false, by decide, by decide, ?_, by decide, by decide, by decide⟩; show i * 32 + 32 ≤ 384; omega), aCp_R]
  simp only [Nat.mul_comm i 32]
/-- the reference's copy -/
theorem f222_60 {o : Nat} (ho : o + 39 ≤ 39) : aF d 222 [.ref 47, .ref 60, .int (nI o)] (g, I, J, aP1 sl rd rl) = some (some none, (g, aR I 60 (cpB (I 60) (I 47) o 39), J, aP1 sl rd rl)) := by
  show aE d 222 0 [.ref 47, .ref 60, .int (nI o), aNo] [] _ = _
  rw [b222_0]
  have l : ∀ m j, j + m = 39 → aE d 222 2 [.ref 47, .ref 60, .int (nI o), .int (nI j)] [] (g, aR I 60 (cpB (I 60) (I 47) o j), J, aP1 sl rd rl) = some (some none, (g, aR I 60 (cpB (I 60) (I 47) o 39), J, aP1 sl rd rl)) := by
    intro m
    induction m with
    | zero => intro j hj; obtain rfl : j = 39 := by omega
              rw [b222_2]; simp (disch := omega) only [kgf39, kgt39, klt39, klf39, kmt39, kmf39, kat39, kaf39, ket39, kef39, aBi, aBv, aBl, nI_1, nIle_t, nIle_f, nIlt_t, nIlt_f, nIeq_t, nIeq_f, nIneg, nI_clamp, nat_le_f, nat_le_t, nat_lt_f, nat_lt_t, or_self, or_false, false_or, if_true, if_false, ↓reduceIte, Int32.or_zero, Int32.add_zero, nIm2, nIm3, nIm4, nIp2, nIp4, nIp6, nIp8, nIp14, nIp16, nIp22, nIp24, nIp30, nIq2, nIq3, nIq4, hasI_0, aU_s, aU_i, aU_r, aU_u]
    | succ m ih =>
      intro j hj
      rw [b222_2]
      simp (disch := omega) only [kgf39, kgt39, klt39, klf39, kmt39, kmf39, kat39, kaf39, ket39, kef39, nI_add, aU_R, aR_s, aR_u, aR_r, cpB_1, aBi, aBv, aBl, nI_1, nIle_t, nIle_f, nIlt_t, nIlt_f, nIeq_t, nIeq_f, nIneg, nI_clamp, nat_le_f, nat_le_t, nat_lt_f, nat_lt_t, or_self, or_false, false_or, if_true, if_false, ↓reduceIte, Int32.or_zero, Int32.add_zero, nIm2, nIm3, nIm4, nIp2, nIp4, nIp6, nIp8, nIp14, nIp16, nIp22, nIp24, nIp30, nIq2, nIq3, nIq4, hasI_0, aU_s, aU_i, aU_r, aU_u]
      exact ih (j + 1) (by omega)
  have l0 := l 39 0 rfl
  rw [cpB_0, aR_i] at l0
  exact l0
theorem f222_64 {o : Nat} (ho : o + 39 ≤ 78) : aF d 222 [.ref 47, .ref 64, .int (nI o)] (g, I, J, aP1 sl rd rl) = some (some none, (g, aR I 64 (cpB (I 64) (I 47) o 39), J, aP1 sl rd rl)) := by
  show aE d 222 0 [.ref 47, .ref 64, .int (nI o), aNo] [] _ = _
  rw [b222_0_2]
  have l : ∀ m j, j + m = 39 → aE d 222 2 [.ref 47, .ref 64, .int (nI o), .int (nI j)] [] (g, aR I 64 (cpB (I 64) (I 47) o j), J, aP1 sl rd rl) = some (some none, (g, aR I 64 (cpB (I 64) (I 47) o 39), J, aP1 sl rd rl)) := by
    intro m
    induction m with
    | zero => intro j hj; obtain rfl : j = 39 := by omega
              rw [b222_2_2]; simp (disch := omega) only [kgf39, kgt39, klt39, klf39, kmt39, kmf39, kat39, kaf39, ket39, kef39, aBi, aBv, aBl, nI_1, nIle_t, nIle_f, nIlt_t, nIlt_f, nIeq_t, nIeq_f, nIneg, nI_clamp, nat_le_f, nat_le_t, nat_lt_f, nat_lt_t, or_self, or_false, false_or, if_true, if_false, ↓reduceIte, Int32.or_zero, Int32.add_zero, nIm2, nIm3, nIm4, nIp2, nIp4, nIp6, nIp8, nIp14, nIp16, nIp22, nIp24, nIp30, nIq2, nIq3, nIq4, hasI_0, aU_s, aU_i, aU_r, aU_u]
    | succ m ih =>
      intro j hj
      rw [b222_2_2]
      simp (disch := omega) only [kgf39, kgt39, klt39, klf39, kmt39, kmf39, kat39, kaf39, ket39, kef39, nI_add, aU_R, aR_s, aR_u, aR_r, cpB_1, aBi, aBv, aBl, nI_1, nIle_t, nIle_f, nIlt_t, nIlt_f, nIeq_t, nIeq_f, nIneg, nI_clamp, nat_le_f, nat_le_t, nat_lt_f, nat_lt_t, or_self, or_false, false_or, if_true, if_false, ↓reduceIte, Int32.or_zero, Int32.add_zero, nIm2, nIm3, nIm4, nIp2, nIp4, nIp6, nIp8, nIp14, nIp16, nIp22, nIp24, nIp30, nIq2, nIq3, nIq4, hasI_0, aU_s, aU_i, aU_r, aU_u]
      exact ih (j + 1) (by omega)
  have l0 := l 39 0 rfl
  rw [cpB_0, aR_i] at l0
  exact l0
theorem f222_58 {o : Nat} (ho : o + 39 ≤ 468) : aF d 222 [.ref 47, .ref 58, .int (nI o)] (g, I, J, aP1 sl rd rl) = some (some none, (g, aR I 58 (cpB (I 58) (I 47) o 39), J, aP1 sl rd rl)) := by
  show aE d 222 0 [.ref 47, .ref 58, .int (nI o), aNo] [] _ = _
  rw [b222_0_3]
  have l : ∀ m j, j + m = 39 → aE d 222 2 [.ref 47, .ref 58, .int (nI o), .int (nI j)] [] (g, aR I 58 (cpB (I 58) (I 47) o j), J, aP1 sl rd rl) = some (some none, (g, aR I 58 (cpB (I 58) (I 47) o 39), J, aP1 sl rd rl)) := by
    intro m
    induction m with
    | zero => intro j hj; obtain rfl : j = 39 := by omega
              rw [b222_2_3]; simp (disch := omega) only [kgf39, kgt39, klt39, klf39, kmt39, kmf39, kat39, kaf39, ket39, kef39, aBi, aBv, aBl, nI_1, nIle_t, nIle_f, nIlt_t, nIlt_f, nIeq_t, nIeq_f, nIneg, nI_clamp, nat_le_f, nat_le_t, nat_lt_f, nat_lt_t, or_self, or_false, false_or, if_true, if_false, ↓reduceIte, Int32.or_zero, Int32.add_zero, nIm2, nIm3, nIm4, nIp2, nIp4, nIp6, nIp8, nIp14, nIp16, nIp22, nIp24, nIp30, nIq2, nIq3, nIq4, hasI_0, aU_s, aU_i, aU_r, aU_u]
    | succ m ih =>
      intro j hj
      rw [b222_2_3]
      simp (disch := omega) only [kgf39, kgt39, klt39, klf39, kmt39, kmf39, kat39, kaf39, ket39, kef39, nI_add, aU_R, aR_s, aR_u, aR_r, cpB_1, aBi, aBv, aBl, nI_1, nIle_t, nIle_f, nIlt_t, nIlt_f, nIeq_t, nIeq_f, nIneg, nI_clamp, nat_le_f, nat_le_t, nat_lt_f, nat_lt_t, or_self, or_false, false_or, if_true, if_false, ↓reduceIte, Int32.or_zero, Int32.add_zero, nIm2, nIm3, nIm4, nIp2, nIp4, nIp6, nIp8, nIp14, nIp16, nIp22, nIp24, nIp30, nIq2, nIq3, nIq4, hasI_0, aU_s, aU_i, aU_r, aU_u]
      exact ih (j + 1) (by omega)
  have l0 := l 39 0 rfl
  rw [cpB_0, aR_i] at l0
  exact l0
theorem f222_59 {o : Nat} (ho : o + 39 ≤ 39) : aF d 222 [.ref 47, .ref 59, .int (nI o)] (g, I, J, aP1 sl rd rl) = some (some none, (g, aR I 59 (cpB (I 59) (I 47) o 39), J, aP1 sl rd rl)) := by
  show aE d 222 0 [.ref 47, .ref 59, .int (nI o), aNo] [] _ = _
  rw [b222_0_4]
  have l : ∀ m j, j + m = 39 → aE d 222 2 [.ref 47, .ref 59, .int (nI o), .int (nI j)] [] (g, aR I 59 (cpB (I 59) (I 47) o j), J, aP1 sl rd rl) = some (some none, (g, aR I 59 (cpB (I 59) (I 47) o 39), J, aP1 sl rd rl)) := by
    intro m
    induction m with
    | zero => intro j hj; obtain rfl : j = 39 := by omega
              rw [b222_2_4]; simp (disch := omega) only [kgf39, kgt39, klt39, klf39, kmt39, kmf39, kat39, kaf39, ket39, kef39, aBi, aBv, aBl, nI_1, nIle_t, nIle_f, nIlt_t, nIlt_f, nIeq_t, nIeq_f, nIneg, nI_clamp, nat_le_f, nat_le_t, nat_lt_f, nat_lt_t, or_self, or_false, false_or, if_true, if_false, ↓reduceIte, Int32.or_zero, Int32.add_zero, nIm2, nIm3, nIm4, nIp2, nIp4, nIp6, nIp8, nIp14, nIp16, nIp22, nIp24, nIp30, nIq2, nIq3, nIq4, hasI_0, aU_s, aU_i, aU_r, aU_u]
    | succ m ih =>
      intro j hj
      rw [b222_2_4]
      simp (disch := omega) only [kgf39, kgt39, klt39, klf39, kmt39, kmf39, kat39, kaf39, ket39, kef39, nI_add, aU_R, aR_s, aR_u, aR_r, cpB_1, aBi, aBv, aBl, nI_1, nIle_t, nIle_f, nIlt_t, nIlt_f, nIeq_t, nIeq_f, nIneg, nI_clamp, nat_le_f, nat_le_t, nat_lt_f, nat_lt_t, or_self, or_false, false_or, if_true, if_false, ↓reduceIte, Int32.or_zero, Int32.add_zero, nIm2, nIm3, nIm4, nIp2, nIp4, nIp6, nIp8, nIp14, nIp16, nIp22, nIp24, nIp30, nIq2, nIq3, nIq4, hasI_0, aU_s, aU_i, aU_r, aU_u]
      exact ih (j + 1) (by omega)
  have l0 := l 39 0 rfl
  rw [cpB_0, aR_i] at l0
  exact l0
theorem f222_5958 {o : Nat} (ho : o + 39 ≤ 468) : aF d 222 [.ref 59, .ref 58, .int (nI o)] (g, I, J, aP1 sl rd rl) = some (some none, (g, aR I 58 (cpB (I 58) (I 59) o 39), J, aP1 sl rd rl)) := by
  show aE d 222 0 [.ref 59, .ref 58, .int (nI o), aNo] [] _ = _
  rw [b222_0_5]
  have l : ∀ m j, j + m = 39 → aE d 222 2 [.ref 59, .ref 58, .int (nI o), .int (nI j)] [] (g, aR I 58 (cpB (I 58) (I 59) o j), J, aP1 sl rd rl) = some (some none, (g, aR I 58 (cpB (I 58) (I 59) o 39), J, aP1 sl rd rl)) := by
    intro m
    induction m with
    | zero => intro j hj; obtain rfl : j = 39 := by omega
              rw [b222_2_5]; simp (disch := omega) only [kgf39, kgt39, klt39, klf39, kmt39, kmf39, kat39, kaf39, ket39, kef39, aBi, aBv, aBl, nI_1, nIle_t, nIle_f, nIlt_t, nIlt_f, nIeq_t, nIeq_f, nIneg, nI_clamp, nat_le_f, nat_le_t, nat_lt_f, nat_lt_t, or_self, or_false, false_or, if_true, if_false, ↓reduceIte, Int32.or_zero, Int32.add_zero, nIm2, nIm3, nIm4, nIp2, nIp4, nIp6, nIp8, nIp14, nIp16, nIp22, nIp24, nIp30, nIq2, nIq3, nIq4, hasI_0, aU_s, aU_i, aU_r, aU_u]
    | succ m ih =>
      intro j hj
      rw [b222_2_5]
      simp (disch := omega) only [kgf39, kgt39, klt39, klf39, kmt39, kmf39, kat39, kaf39, ket39, kef39, nI_add, aU_R, aR_s, aR_u, aR_r, cpB_1, aBi, aBv, aBl, nI_1, nIle_t, nIle_f, nIlt_t, nIlt_f, nIeq_t, nIeq_f, nIneg, nI_clamp, nat_le_f, nat_le_t, nat_lt_f, nat_lt_t, or_self, or_false, false_or, if_true, if_false, ↓reduceIte, Int32.or_zero, Int32.add_zero, nIm2, nIm3, nIm4, nIp2, nIp4, nIp6, nIp8, nIp14, nIp16, nIp22, nIp24, nIp30, nIq2, nIq3, nIq4, hasI_0, aU_s, aU_i, aU_r, aU_u]
      exact ih (j + 1) (by omega)
  have l0 := l 39 0 rfl
  rw [cpB_0, aR_i] at l0
  exact l0
