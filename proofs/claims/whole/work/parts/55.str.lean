/-! the class's rule: a stack works it out -/
variable {d : Nat} {g : Nat × Nat × Nat} {I : Nat → Nat → Int32} {J : Nat → Nat → Int64} {sl rd rl : Nat}
def jt (s a b : Int32) : Int32 := if s = 60 then (if b ≤ a then 0 else 1) else if s = 62 then (if a ≤ b then 0 else 1) else if s = 61 then (if a = b then 1 else 0) else if s = 43 then a + b else if s = 45 then a - b else if s = 42 then a * b else if b = 0 then 0 else a / b
theorem f74 (s a b : Int32) : aF d 74 [.int s, .int a, .int b] (g, I, J, aP1 sl rd rl) = some (some (some (.int (jt s a b))), (g, I, J, aP1 sl rd rl)) := by
  show aE d 74 0 [.int s, .int a, .int b] [] _ = _
  rw [b74_0]
  unfold jt
  by_cases h1 : s = 60
  · subst h1; rw [b74_1_c60, if_pos rfl]; split <;> rfl
  by_cases h2 : s = 62
  · subst h2; rw [b74_1_c62, if_neg h1, if_pos rfl]; split <;> rfl
  by_cases h3 : s = 61
  · subst h3; rw [b74_1_c61, if_neg h1, if_neg h2, if_pos rfl]; split <;> rfl
  by_cases h4 : s = 43
  · subst h4; rw [b74_1_c43, if_neg h1, if_neg h2, if_neg h3, if_pos rfl]
  by_cases h5 : s = 45
  · subst h5; rw [b74_1_c45, if_neg h1, if_neg h2, if_neg h3, if_neg h4, if_pos rfl]
  by_cases h6 : s = 42
  · subst h6; rw [b74_1_c42, if_neg h1, if_neg h2, if_neg h3, if_neg h4, if_neg h5, if_pos rfl]
  rw [s74_1 _ _ _ _ ⟨h6, h4, h5, h1, h3, h2⟩, b74_105, if_neg h1, if_neg h2, if_neg h3, if_neg h4, if_neg h5, if_neg h6]
  split
  · rfl
  · rfl
def sm1 (t : Nat → Int32) (one : Int32) (y : (Nat → Int32) × Nat) : (Nat → Int32) × Nat :=
  if 2000 ≤ one ∨ 40 ≤ y.2 then
    (if one = 2256 ∧ 0 < y.2 then (upd y.1 (y.2 - 1) (-(y.1 (y.2 - 1))), y.2)
     else if one < 2000 ∨ y.2 ≤ 1 then y
     else (upd y.1 (y.2 - 2) (jt (one - 2000) (y.1 (y.2 - 2)) (y.1 (y.2 - 1))), y.2 - 1))
  else (upd y.1 y.2 (if one - 1000 < 0 then one else if 8 ≤ one - 1000 then one else t (one - 1000).toNatClampNeg), y.2 + 1)
def le40 (n : Nat) : Prop := n ≤ 40
def smR (t code : Nat → Int32) (n : Nat) (y : Nat → Int32) : (Nat → Int32) × Nat := fo (fun i y => sm1 t (code i) y) n 0 (y, 0)
theorem ix8 {x : Int32} (h : ¬ x < 0) (h2 : ¬ 8 ≤ x) : (x < 0 ∨ 8 ≤ x.toNatClampNeg) = False := by
  rcases pk_ix x (by decide : 8 < 2 ^ 31) with h3 | h3 | ⟨j, hj, rfl⟩
  · exact absurd h3 h
  · exact absurd h3 h2
  · simp (disch := omega) only [nIneg, nI_clamp, nat_le_f, or_self]
theorem l67_33 {n : Nat} (hs : I 33 1 = nI n) (hn : n ≤ 40) (k : Int32) (w1 w2 w3 w7 w8 : Value) (y0 : Nat → Int32) : ∃ y, (smR (I 35) (I 34) n y0).1 0 = y 0 ∧ aE d 67 121 [.ref 33, w1, w2, w3, .int k, .int 0, .int 0, w7, w8] [] (g, aR I 36 y0, J, aP1 sl rd rl) = some (some (some (.int (y 0))), (g, aR I 36 y, J, aP1 sl rd rl)) := by
  obtain ⟨w, q, e⟩ := lp (X := fun j (a : (Nat → Int32) × Nat) (w : Value × Value) => aE d 67 121 [.ref 33, w1, w2, w3, .int k, .int (nI a.2), .int (nI j), w.1, w.2] [] (g, aR I 36 a.1, J, aP1 sl rd rl)) (f := fun i a => sm1 (I 35) (I 34 i) a) (fun _ a _ => le40 a.2) n 0 (y0, 0) (w7, w8) (Nat.zero_le _) (by
    intro j a w _ hj ha
    obtain ⟨y, p⟩ := a
    obtain ⟨v7, v8⟩ := w
    have ha : p ≤ 40 := ha
    show ∃ s' : Value × Value, _ ∧ aE d 67 121 [.ref 33, w1, w2, w3, .int k, .int (nI p), .int (nI j), v7, v8] [] (g, aR I 36 y, J, aP1 sl rd rl) = _
    rw [b67_121]
    simp (disch := omega) only [hs, aR_r, kgf40, kgt40, klt40, klf40, kmt40, kmf40, kat40, kaf40, ket40, kef40, aBi, aBv, aBl, nI_1, nIle_t, nIle_f, nIlt_t, nIlt_f, nIeq_t, nIeq_f, nIneg, nI_clamp, nat_le_f, nat_le_t, nat_lt_f, nat_lt_t, or_self, or_false, false_or, if_true, if_false, ↓reduceIte, Int32.or_zero, Int32.add_zero, nIm2, nIm3, nIm4, nIp2, nIp4, nIp6, nIp8, nIp14, nIp16, nIp22, nIp24, nIp30, nIq2, nIq3, nIq4, hasI_0, aU_s, aU_i, aU_r, aU_u]
    unfold sm1
    by_cases h1 : 2000 ≤ I 34 j
    · simp only [h1, true_or, if_true]
      rw [b67_215]
      by_cases h2 : I 34 j = 2256
      · by_cases h3 : 0 < p
        · obtain ⟨q, rfl⟩ : ∃ q, p = q + 1 := ⟨p - 1, by omega⟩
          simp (disch := omega) only [h2, nI_pred, aR_s, aU_R, aR_u, true_and, Nat.zero_lt_succ, Nat.add_sub_cancel, show (nI (q + 1) ≤ 0) = False from eq_false (nI_ge (a := 0) (by omega) (by omega)), b67_301, aBi, aBv, aBl, nI_1, nIle_t, nIle_f, nIlt_t, nIlt_f, nIeq_t, nIeq_f, nIneg, nI_clamp, nat_le_f, nat_le_t, nat_lt_f, nat_lt_t, or_self, or_false, false_or, if_true, if_false, ↓reduceIte, Int32.or_zero, Int32.add_zero, nIm2, nIm3, nIm4, nIp2, nIp4, nIp6, nIp8, nIp14, nIp16, nIp22, nIp24, nIp30, nIq2, nIq3, nIq4, hasI_0, aU_s, aU_i, aU_r, aU_u]
          exact ⟨(_, _), ha, rfl⟩
        · obtain rfl : p = 0 := by omega
          simp (disch := omega) only [h2, Nat.lt_irrefl, and_false, show (nI 0 ≤ 0) = True from by decide, b67_250, show ((2256 : Int32) < 2000) = False from by decide, show (nI 0 ≤ 1) = True from by decide, b67_301, Nat.zero_le, aBi, aBv, aBl, nI_1, nIle_t, nIle_f, nIlt_t, nIlt_f, nIeq_t, nIeq_f, nIneg, nI_clamp, nat_le_f, nat_le_t, nat_lt_f, nat_lt_t, or_self, or_false, false_or, if_true, if_false, ↓reduceIte, Int32.or_zero, Int32.add_zero, nIm2, nIm3, nIm4, nIp2, nIp4, nIp6, nIp8, nIp14, nIp16, nIp22, nIp24, nIp30, nIq2, nIq3, nIq4, hasI_0, aU_s, aU_i, aU_r, aU_u]
          exact ⟨(_, _), ha, rfl⟩
      · simp (disch := omega) only [h2, false_and, b67_250, show (I 34 j < 2000) = False from eq_false (by simpa using h1), false_or, aBi, aBv, aBl, nI_1, nIle_t, nIle_f, nIlt_t, nIlt_f, nIeq_t, nIeq_f, nIneg, nI_clamp, nat_le_f, nat_le_t, nat_lt_f, nat_lt_t, or_self, or_false, false_or, if_true, if_false, ↓reduceIte, Int32.or_zero, Int32.add_zero, nIm2, nIm3, nIm4, nIp2, nIp4, nIp6, nIp8, nIp14, nIp16, nIp22, nIp24, nIp30, nIq2, nIq3, nIq4, hasI_0, aU_s, aU_i, aU_r, aU_u]
        by_cases h3 : p ≤ 1
        · simp (disch := omega) only [kgf1, kgt1, klt1, klf1, kmt1, kmf1, kat1, kaf1, ket1, kef1, b67_301, aBi, aBv, aBl, nI_1, nIle_t, nIle_f, nIlt_t, nIlt_f, nIeq_t, nIeq_f, nIneg, nI_clamp, nat_le_f, nat_le_t, nat_lt_f, nat_lt_t, or_self, or_false, false_or, if_true, if_false, ↓reduceIte, Int32.or_zero, Int32.add_zero, nIm2, nIm3, nIm4, nIp2, nIp4, nIp6, nIp8, nIp14, nIp16, nIp22, nIp24, nIp30, nIq2, nIq3, nIq4, hasI_0, aU_s, aU_i, aU_r, aU_u]
          exact ⟨(_, _), ha, rfl⟩
        · obtain ⟨q, rfl⟩ : ∃ q, p = q + 2 := ⟨p - 2, by omega⟩
          simp (disch := omega) only [kgf1, kgt1, klt1, klf1, kmt1, kmf1, kat1, kaf1, ket1, kef1, pk_m1, b67_281, nI_pred, aR_s, f74, b67_300, aU_R, aR_u, b67_301, aBi, aBv, aBl, nI_1, nIle_t, nIle_f, nIlt_t, nIlt_f, nIeq_t, nIeq_f, nIneg, nI_clamp, nat_le_f, nat_le_t, nat_lt_f, nat_lt_t, or_self, or_false, false_or, if_true, if_false, ↓reduceIte, Int32.or_zero, Int32.add_zero, nIm2, nIm3, nIm4, nIp2, nIp4, nIp6, nIp8, nIp14, nIp16, nIp22, nIp24, nIp30, nIq2, nIq3, nIq4, hasI_0, aU_s, aU_i, aU_r, aU_u]
          exact ⟨(_, _), show q + 2 - 1 ≤ 40 by omega, rfl⟩
    · simp only [h1, false_or, if_false]
      by_cases h2 : 40 ≤ p
      · obtain rfl : p = 40 := by omega
        simp (disch := omega) only [kgf40, kgt40, klt40, klf40, kmt40, kmf40, kat40, kaf40, ket40, kef40, b67_215, Nat.le_refl, aBi, aBv, aBl, nI_1, nIle_t, nIle_f, nIlt_t, nIlt_f, nIeq_t, nIeq_f, nIneg, nI_clamp, nat_le_f, nat_le_t, nat_lt_f, nat_lt_t, or_self, or_false, false_or, if_true, if_false, ↓reduceIte, Int32.or_zero, Int32.add_zero, nIm2, nIm3, nIm4, nIp2, nIp4, nIp6, nIp8, nIp14, nIp16, nIp22, nIp24, nIp30, nIq2, nIq3, nIq4, hasI_0, aU_s, aU_i, aU_r, aU_u]
        have h3 : I 34 j < 2000 := by simpa using h1
        have h4 : ¬ I 34 j = 2256 := fun q => by rw [q] at h3; exact absurd h3 (by decide)
        simp (disch := omega) only [h4, b67_250, h3, b67_301, false_and, true_or, aBi, aBv, aBl, nI_1, nIle_t, nIle_f, nIlt_t, nIlt_f, nIeq_t, nIeq_f, nIneg, nI_clamp, nat_le_f, nat_le_t, nat_lt_f, nat_lt_t, or_self, or_false, false_or, if_true, if_false, ↓reduceIte, Int32.or_zero, Int32.add_zero, nIm2, nIm3, nIm4, nIp2, nIp4, nIp6, nIp8, nIp14, nIp16, nIp22, nIp24, nIp30, nIq2, nIq3, nIq4, hasI_0, aU_s, aU_i, aU_r, aU_u]
        exact ⟨(_, _), ha, rfl⟩
      · simp (disch := omega) only [kgf40, kgt40, klt40, klf40, kmt40, kmf40, kat40, kaf40, ket40, kef40, aBi, aBv, aBl, nI_1, nIle_t, nIle_f, nIlt_t, nIlt_f, nIeq_t, nIeq_f, nIneg, nI_clamp, nat_le_f, nat_le_t, nat_lt_f, nat_lt_t, or_self, or_false, false_or, if_true, if_false, ↓reduceIte, Int32.or_zero, Int32.add_zero, nIm2, nIm3, nIm4, nIp2, nIp4, nIp6, nIp8, nIp14, nIp16, nIp22, nIp24, nIp30, nIq2, nIq3, nIq4, hasI_0, aU_s, aU_i, aU_r, aU_u]
        by_cases h3 : I 34 j - 1000 < 0
        · simp (disch := omega) only [h3, b67_206, b67_208, aU_R, aR_s, aR_u, b67_301, aBi, aBv, aBl, nI_1, nIle_t, nIle_f, nIlt_t, nIlt_f, nIeq_t, nIeq_f, nIneg, nI_clamp, nat_le_f, nat_le_t, nat_lt_f, nat_lt_t, or_self, or_false, false_or, if_true, if_false, ↓reduceIte, Int32.or_zero, Int32.add_zero, nIm2, nIm3, nIm4, nIp2, nIp4, nIp6, nIp8, nIp14, nIp16, nIp22, nIp24, nIp30, nIq2, nIq3, nIq4, hasI_0, aU_s, aU_i, aU_r, aU_u]
          exact ⟨(_, _), show p + 1 ≤ 40 by omega, rfl⟩
        · by_cases h4 : 8 ≤ I 34 j - 1000
          · simp (disch := omega) only [h3, h4, b67_206, b67_208, aU_R, aR_s, aR_u, b67_301, aBi, aBv, aBl, nI_1, nIle_t, nIle_f, nIlt_t, nIlt_f, nIeq_t, nIeq_f, nIneg, nI_clamp, nat_le_f, nat_le_t, nat_lt_f, nat_lt_t, or_self, or_false, false_or, if_true, if_false, ↓reduceIte, Int32.or_zero, Int32.add_zero, nIm2, nIm3, nIm4, nIp2, nIp4, nIp6, nIp8, nIp14, nIp16, nIp22, nIp24, nIp30, nIq2, nIq3, nIq4, hasI_0, aU_s, aU_i, aU_r, aU_u]
            exact ⟨(_, _), show p + 1 ≤ 40 by omega, rfl⟩
          · rw [if_neg h3, if_neg h4, if_neg (of_eq_false (ix8 h3 h4))]
            simp (disch := omega) only [h3, h4, b67_206, b67_208, aU_R, aR_s, aR_u, b67_301, aBi, aBv, aBl, nI_1, nIle_t, nIle_f, nIlt_t, nIlt_f, nIeq_t, nIeq_f, nIneg, nI_clamp, nat_le_f, nat_le_t, nat_lt_f, nat_lt_t, or_self, or_false, false_or, if_true, if_false, ↓reduceIte, Int32.or_zero, Int32.add_zero, nIm2, nIm3, nIm4, nIp2, nIp4, nIp6, nIp8, nIp14, nIp16, nIp22, nIp24, nIp30, nIq2, nIq3, nIq4, hasI_0, aU_s, aU_i, aU_r, aU_u]
            exact ⟨(_, _), show p + 1 ≤ 40 by omega, rfl⟩)
  refine ⟨(smR (I 35) (I 34) n y0).1, rfl, e.trans ?_⟩
  show aE d 67 121 [.ref 33, w1, w2, w3, .int k, .int (nI (smR (I 35) (I 34) n y0).2), .int (nI (0 + n)), w.1, w.2] [] (g, aR I 36 (smR (I 35) (I 34) n y0).1, J, aP1 sl rd rl) = _
  rw [b67_121]
  simp (disch := omega) only [hs, aR_r, aR_s, Nat.zero_add, b67_307, aBi, aBv, aBl, nI_1, nIle_t, nIle_f, nIlt_t, nIlt_f, nIeq_t, nIeq_f, nIneg, nI_clamp, nat_le_f, nat_le_t, nat_lt_f, nat_lt_t, or_self, or_false, false_or, if_true, if_false, ↓reduceIte, Int32.or_zero, Int32.add_zero, nIm2, nIm3, nIm4, nIp2, nIp4, nIp6, nIp8, nIp14, nIp16, nIp22, nIp24, nIp30, nIq2, nIq3, nIq4, hasI_0, aU_s, aU_i, aU_r, aU_u]
theorem l67_37 {n : Nat} (hs : I 37 1 = nI n) (hn : n ≤ 40) (k : Int32) (w1 w2 w3 w7 w8 : Value) (y0 : Nat → Int32) : ∃ y, (smR (I 39) (I 38) n y0).1 0 = y 0 ∧ aE d 67 121 [.ref 37, w1, w2, w3, .int k, .int 0, .int 0, w7, w8] [] (g, aR I 40 y0, J, aP1 sl rd rl) = some (some (some (.int (y 0))), (g, aR I 40 y, J, aP1 sl rd rl)) := by
  obtain ⟨w, q, e⟩ := lp (X := fun j (a : (Nat → Int32) × Nat) (w : Value × Value) => aE d 67 121 [.ref 37, w1, w2, w3, .int k, .int (nI a.2), .int (nI j), w.1, w.2] [] (g, aR I 40 a.1, J, aP1 sl rd rl)) (f := fun i a => sm1 (I 39) (I 38 i) a) (fun _ a _ => le40 a.2) n 0 (y0, 0) (w7, w8) (Nat.zero_le _) (by
    intro j a w _ hj ha
    obtain ⟨y, p⟩ := a
    obtain ⟨v7, v8⟩ := w
    have ha : p ≤ 40 := ha
    show ∃ s' : Value × Value, _ ∧ aE d 67 121 [.ref 37, w1, w2, w3, .int k, .int (nI p), .int (nI j), v7, v8] [] (g, aR I 40 y, J, aP1 sl rd rl) = _
    rw [b67_121_2]
    simp (disch := omega) only [hs, aR_r, kgf40, kgt40, klt40, klf40, kmt40, kmf40, kat40, kaf40, ket40, kef40, aBi, aBv, aBl, nI_1, nIle_t, nIle_f, nIlt_t, nIlt_f, nIeq_t, nIeq_f, nIneg, nI_clamp, nat_le_f, nat_le_t, nat_lt_f, nat_lt_t, or_self, or_false, false_or, if_true, if_false, ↓reduceIte, Int32.or_zero, Int32.add_zero, nIm2, nIm3, nIm4, nIp2, nIp4, nIp6, nIp8, nIp14, nIp16, nIp22, nIp24, nIp30, nIq2, nIq3, nIq4, hasI_0, aU_s, aU_i, aU_r, aU_u]
    unfold sm1
    by_cases h1 : 2000 ≤ I 38 j
    · simp only [h1, true_or, if_true]
      rw [b67_215_2]
      by_cases h2 : I 38 j = 2256
      · by_cases h3 : 0 < p
        · obtain ⟨q, rfl⟩ : ∃ q, p = q + 1 := ⟨p - 1, by omega⟩
          simp (disch := omega) only [h2, nI_pred, aR_s, aU_R, aR_u, true_and, Nat.zero_lt_succ, Nat.add_sub_cancel, show (nI (q + 1) ≤ 0) = False from eq_false (nI_ge (a := 0) (by omega) (by omega)), b67_301_2, aBi, aBv, aBl, nI_1, nIle_t, nIle_f, nIlt_t, nIlt_f, nIeq_t, nIeq_f, nIneg, nI_clamp, nat_le_f, nat_le_t, nat_lt_f, nat_lt_t, or_self, or_false, false_or, if_true, if_false, ↓reduceIte, Int32.or_zero, Int32.add_zero, nIm2, nIm3, nIm4, nIp2, nIp4, nIp6, nIp8, nIp14, nIp16, nIp22, nIp24, nIp30, nIq2, nIq3, nIq4, hasI_0, aU_s, aU_i, aU_r, aU_u]
          exact ⟨(_, _), ha, rfl⟩
        · obtain rfl : p = 0 := by omega
          simp (disch := omega) only [h2, Nat.lt_irrefl, and_false, show (nI 0 ≤ 0) = True from by decide, b67_250_2, show ((2256 : Int32) < 2000) = False from by decide, show (nI 0 ≤ 1) = True from by decide, b67_301_2, Nat.zero_le, aBi, aBv, aBl, nI_1, nIle_t, nIle_f, nIlt_t, nIlt_f, nIeq_t, nIeq_f, nIneg, nI_clamp, nat_le_f, nat_le_t, nat_lt_f, nat_lt_t, or_self, or_false, false_or, if_true, if_false, ↓reduceIte, Int32.or_zero, Int32.add_zero, nIm2, nIm3, nIm4, nIp2, nIp4, nIp6, nIp8, nIp14, nIp16, nIp22, nIp24, nIp30, nIq2, nIq3, nIq4, hasI_0, aU_s, aU_i, aU_r, aU_u]
          exact ⟨(_, _), ha, rfl⟩
      · simp (disch := omega) only [h2, false_and, b67_250_2, show (I 38 j < 2000) = False from eq_false (by simpa using h1), false_or, aBi, aBv, aBl, nI_1, nIle_t, nIle_f, nIlt_t, nIlt_f, nIeq_t, nIeq_f, nIneg, nI_clamp, nat_le_f, nat_le_t, nat_lt_f, nat_lt_t, or_self, or_false, false_or, if_true, if_false, ↓reduceIte, Int32.or_zero, Int32.add_zero, nIm2, nIm3, nIm4, nIp2, nIp4, nIp6, nIp8, nIp14, nIp16, nIp22, nIp24, nIp30, nIq2, nIq3, nIq4, hasI_0, aU_s, aU_i, aU_r, aU_u]
        by_cases h3 : p ≤ 1
        · simp (disch := omega) only [kgf1, kgt1, klt1, klf1, kmt1, kmf1, kat1, kaf1, ket1, kef1, b67_301_2, aBi, aBv, aBl, nI_1, nIle_t, nIle_f, nIlt_t, nIlt_f, nIeq_t, nIeq_f, nIneg, nI_clamp, nat_le_f, nat_le_t, nat_lt_f, nat_lt_t, or_self, or_false, false_or, if_true, if_false, ↓reduceIte, Int32.or_zero, Int32.add_zero, nIm2, nIm3, nIm4, nIp2, nIp4, nIp6, nIp8, nIp14, nIp16, nIp22, nIp24, nIp30, nIq2, nIq3, nIq4, hasI_0, aU_s, aU_i, aU_r, aU_u]
          exact ⟨(_, _), ha, rfl⟩
        · obtain ⟨q, rfl⟩ : ∃ q, p = q + 2 := ⟨p - 2, by omega⟩
          simp (disch := omega) only [kgf1, kgt1, klt1, klf1, kmt1, kmf1, kat1, kaf1, ket1, kef1, pk_m1, b67_281_2, nI_pred, aR_s, f74, b67_300_2, aU_R, aR_u, b67_301_2, aBi, aBv, aBl, nI_1, nIle_t, nIle_f, nIlt_t, nIlt_f, nIeq_t, nIeq_f, nIneg, nI_clamp, nat_le_f, nat_le_t, nat_lt_f, nat_lt_t, or_self, or_false, false_or, if_true, if_false, ↓reduceIte, Int32.or_zero, Int32.add_zero, nIm2, nIm3, nIm4, nIp2, nIp4, nIp6, nIp8, nIp14, nIp16, nIp22, nIp24, nIp30, nIq2, nIq3, nIq4, hasI_0, aU_s, aU_i, aU_r, aU_u]
          exact ⟨(_, _), show q + 2 - 1 ≤ 40 by omega, rfl⟩
    · simp only [h1, false_or, if_false]
      by_cases h2 : 40 ≤ p
      · obtain rfl : p = 40 := by omega
        simp (disch := omega) only [kgf40, kgt40, klt40, klf40, kmt40, kmf40, kat40, kaf40, ket40, kef40, b67_215_2, Nat.le_refl, aBi, aBv, aBl, nI_1, nIle_t, nIle_f, nIlt_t, nIlt_f, nIeq_t, nIeq_f, nIneg, nI_clamp, nat_le_f, nat_le_t, nat_lt_f, nat_lt_t, or_self, or_false, false_or, if_true, if_false, ↓reduceIte, Int32.or_zero, Int32.add_zero, nIm2, nIm3, nIm4, nIp2, nIp4, nIp6, nIp8, nIp14, nIp16, nIp22, nIp24, nIp30, nIq2, nIq3, nIq4, hasI_0, aU_s, aU_i, aU_r, aU_u]
        have h3 : I 38 j < 2000 := by simpa using h1
        have h4 : ¬ I 38 j = 2256 := fun q => by rw [q] at h3; exact absurd h3 (by decide)
        simp (disch := omega) only [h4, b67_250_2, h3, b67_301_2, false_and, true_or, aBi, aBv, aBl, nI_1, nIle_t, nIle_f, nIlt_t, nIlt_f, nIeq_t, nIeq_f, nIneg, nI_clamp, nat_le_f, nat_le_t, nat_lt_f, nat_lt_t, or_self, or_false, false_or, if_true, if_false, ↓reduceIte, Int32.or_zero, Int32.add_zero, nIm2, nIm3, nIm4, nIp2, nIp4, nIp6, nIp8, nIp14, nIp16, nIp22, nIp24, nIp30, nIq2, nIq3, nIq4, hasI_0, aU_s, aU_i, aU_r, aU_u]
        exact ⟨(_, _), ha, rfl⟩
      · simp (disch := omega) only [kgf40, kgt40, klt40, klf40, kmt40, kmf40, kat40, kaf40, ket40, kef40, aBi, aBv, aBl, nI_1, nIle_t, nIle_f, nIlt_t, nIlt_f, nIeq_t, nIeq_f, nIneg, nI_clamp, nat_le_f, nat_le_t, nat_lt_f, nat_lt_t, or_self, or_false, false_or, if_true, if_false, ↓reduceIte, Int32.or_zero, Int32.add_zero, nIm2, nIm3, nIm4, nIp2, nIp4, nIp6, nIp8, nIp14, nIp16, nIp22, nIp24, nIp30, nIq2, nIq3, nIq4, hasI_0, aU_s, aU_i, aU_r, aU_u]
        by_cases h3 : I 38 j - 1000 < 0
        · simp (disch := omega) only [h3, b67_206_2, b67_208_2, aU_R, aR_s, aR_u, b67_301_2, aBi, aBv, aBl, nI_1, nIle_t, nIle_f, nIlt_t, nIlt_f, nIeq_t, nIeq_f, nIneg, nI_clamp, nat_le_f, nat_le_t, nat_lt_f, nat_lt_t, or_self, or_false, false_or, if_true, if_false, ↓reduceIte, Int32.or_zero, Int32.add_zero, nIm2, nIm3, nIm4, nIp2, nIp4, nIp6, nIp8, nIp14, nIp16, nIp22, nIp24, nIp30, nIq2, nIq3, nIq4, hasI_0, aU_s, aU_i, aU_r, aU_u]
          exact ⟨(_, _), show p + 1 ≤ 40 by omega, rfl⟩
        · by_cases h4 : 8 ≤ I 38 j - 1000
          · simp (disch := omega) only [h3, h4, b67_206_2, b67_208_2, aU_R, aR_s, aR_u, b67_301_2, aBi, aBv, aBl, nI_1, nIle_t, nIle_f, nIlt_t, nIlt_f, nIeq_t, nIeq_f, nIneg, nI_clamp, nat_le_f, nat_le_t, nat_lt_f, nat_lt_t, or_self, or_false, false_or, if_true, if_false, ↓reduceIte, Int32.or_zero, Int32.add_zero, nIm2, nIm3, nIm4, nIp2, nIp4, nIp6, nIp8, nIp14, nIp16, nIp22, nIp24, nIp30, nIq2, nIq3, nIq4, hasI_0, aU_s, aU_i, aU_r, aU_u]
            exact ⟨(_, _), show p + 1 ≤ 40 by omega, rfl⟩
          · rw [if_neg h3, if_neg h4, if_neg (of_eq_false (ix8 h3 h4))]
            simp (disch := omega) only [h3, h4, b67_206_2, b67_208_2, aU_R, aR_s, aR_u, b67_301_2, aBi, aBv, aBl, nI_1, nIle_t, nIle_f, nIlt_t, nIlt_f, nIeq_t, nIeq_f, nIneg, nI_clamp, nat_le_f, nat_le_t, nat_lt_f, nat_lt_t, or_self, or_false, false_or, if_true, if_false, ↓reduceIte, Int32.or_zero, Int32.add_zero, nIm2, nIm3, nIm4, nIp2, nIp4, nIp6, nIp8, nIp14, nIp16, nIp22, nIp24, nIp30, nIq2, nIq3, nIq4, hasI_0, aU_s, aU_i, aU_r, aU_u]
            exact ⟨(_, _), show p + 1 ≤ 40 by omega, rfl⟩)
  refine ⟨(smR (I 39) (I 38) n y0).1, rfl, e.trans ?_⟩
  show aE d 67 121 [.ref 37, w1, w2, w3, .int k, .int (nI (smR (I 39) (I 38) n y0).2), .int (nI (0 + n)), w.1, w.2] [] (g, aR I 40 (smR (I 39) (I 38) n y0).1, J, aP1 sl rd rl) = _
  rw [b67_121_2]
  simp (disch := omega) only [hs, aR_r, aR_s, Nat.zero_add, b67_307_2, aBi, aBv, aBl, nI_1, nIle_t, nIle_f, nIlt_t, nIlt_f, nIeq_t, nIeq_f, nIneg, nI_clamp, nat_le_f, nat_le_t, nat_lt_f, nat_lt_t, or_self, or_false, false_or, if_true, if_false, ↓reduceIte, Int32.or_zero, Int32.add_zero, nIm2, nIm3, nIm4, nIp2, nIp4, nIp6, nIp8, nIp14, nIp16, nIp22, nIp24, nIp30, nIq2, nIq3, nIq4, hasI_0, aU_s, aU_i, aU_r, aU_u]
/-- what a rule asks of driver i in state s -/
def th (sk s : Nat → Int32) (i : Nat) : Nat → Int32 := fun k => if k = 0 then sk i else if k = 1 then s (14 + i) else if k = 2 then nI i else if k = 3 then s (22 + i) else if k = 4 then s 38 - s 38 / 8 * 8 else if k = 5 then s (6 + i) else if k = 6 then s (s (6 + i)).toNatClampNeg / 10 else s (2 + (s (6 + i)).toNatClampNeg)
theorem shr1 (x : Int32) (i : Int32) : ((x >>> (i &&& 31)) &&& 1) = tI (hasT x i) := by
  have h : ∀ z : Int32, (z &&& 1) = 0 ∨ (z &&& 1) = 1 := by
    intro z
    have e : (z &&& 1) = if bt z 0 then 1 else 0 := by
      refine b_ext (fun k hk => ?_)
      rw [b_and, b_1 k hk]
      by_cases h : k = 0
      · subst h; cases bt z 0 <;> simp [b_0, b_1]
      · simp only [h, decide_false, Bool.and_false]
        cases bt z 0
        · exact (b_0 k).symm
        · rw [if_pos rfl, b_1 k hk]; simp [h]
    rw [e]
    cases bt z 0
    · exact Or.inl rfl
    · exact Or.inr rfl
  unfold hasT hasI tI
  rcases h (x >>> (i &&& 31)) with h | h <;> rw [h] <;> decide
theorem shr1' (x : Int32) (i : Int32) : (((x >>> (i &&& 31)) &&& 1) = 1) = (hasT x i = true) := by
  rw [shr1]; cases hasT x i <;> decide
theorem sm1_congr {t t' : Nat → Int32} (h : ∀ k, k < 8 → t k = t' k) (one : Int32) (y : (Nat → Int32) × Nat) : sm1 t one y = sm1 t' one y := by
  unfold sm1
  (repeat' split) <;> first | rfl | skip
  rename_i h1 h2 h3
  rw [h]
  have := ix8 h2 h3
  simp only [eq_iff_iff, iff_false, not_or] at this
  omega
theorem smR_congr {t t' : Nat → Int32} (h : ∀ k, k < 8 → t k = t' k) (code : Nat → Int32) (n : Nat) (y : Nat → Int32) : smR t code n y = smR t' code n y :=
  fo_congr _ _ _ (fun j a _ _ => sm1_congr h _ _)
/-- the class's code of a rule whose value is rv -/
def cRule (code : Nat → Int32) (n : Nat) (rv : (Nat → Int32) → Int32) : Prop := n ≤ 40 ∧ ∀ t y, (smR t code n y).1 0 = rv t
theorem cRule_congr {code : Nat → Int32} {n : Nat} {rv : (Nat → Int32) → Int32} (h : cRule code n rv) {t t' : Nat → Int32} (e : ∀ k, k < 8 → t k = t' k) : rv t = rv t' := by
  rw [← h.2 t (fun _ => 0), ← h.2 t' (fun _ => 0), smR_congr e]
theorem ix8c {k : Nat} (h : k < 8) : k = 0 ∨ k = 1 ∨ k = 2 ∨ k = 3 ∨ k = 4 ∨ k = 5 ∨ k = 6 ∨ k = 7 := by omega
theorem f67 {m i k nd : Nat} {rv : (Nat → Int32) → Int32} (hR : cRule (I 34) m rv) (hs : I 33 1 = nI m) (h0 : I 14 0 = nI nd) (hn : nd ≤ 8) (hi : i < nd) (hk : k < 2) (hI : I 24 (8 + i) = nI k) : ∃ x y, aF d 67 [.ref 33, .ref 14, .ref 23, .int (nI i)] (g, I, J, aP1 sl rd rl) = some (some (some (.int (rv (th (I 15) (cV (I 24)) i)))), (g, aR (aR I 35 x) 36 y, J, aP1 sl rd rl)) := by
  have e : ∃ T, (∀ j, j < 8 → T j = th (I 15) (cV (I 24)) i j) ∧ ∃ w1 w2 w3 w7 w8, aF d 67 [.ref 33, .ref 14, .ref 23, .int (nI i)] (g, I, J, aP1 sl rd rl) = aE d 67 121 [.ref 33, w1, w2, w3, .int (nI k), .int 0, .int 0, w7, w8] [] (g, aR I 35 T, J, aP1 sl rd rl) := by
    refine ⟨upd (upd (upd (upd (upd (upd (upd (upd (I 35) 0 (I 15 i)) 1 (tI (hasT (I 24 7) (nI i)))) 2 (nI i)) 3 (I 24 (16 + i))) 4 (I 24 6 - I 24 6 / 8 * 8)) 5 (nI k)) 6 (I 24 k / 10)) 7 (I 24 (2 + k)), ?_, ?_⟩
    · intro j hj
      rcases ix8c hj with rfl | rfl | rfl | rfl | rfl | rfl | rfl | rfl
      · rfl
      · exact (cV_x _ (by omega)).symm
      · rfl
      · exact (cV_w _ (by omega)).symm
      · rfl
      · exact (hI.symm.trans (cV_l _ (by omega)).symm)
      · show I 24 k / 10 = cV (I 24) (cV (I 24) (6 + i)).toNatClampNeg / 10
        rw [cV_l _ (by omega), hI, nI_clamp (by omega), cV_c _ (by omega) (by omega)]
      · show I 24 (2 + k) = cV (I 24) (2 + (cV (I 24) (6 + i)).toNatClampNeg)
        rw [cV_l _ (by omega), hI, nI_clamp (by omega), cV_c _ (by omega) (by omega)]
    · refine ⟨.ref 14, .ref 23, .int (nI i), aNo, aNo, ?_⟩
      show aE d 67 0 [.ref 33, .ref 14, .ref 23, .int (nI i), aNo, aNo, aNo, aNo, aNo] [] _ = _
      simp (disch := omega) only [b67_0, h0, f68_23, hI, b67_19, f69_23, b67_42, f70_23, b67_64, f71_23, b67_74, f72_23, b67_98, f73_23, b67_114, aU_R, aR_s, aR_u, aR_r, shr1, show ((1 : Int32).toNatClampNeg) = 1 from rfl, show ((3 : Int32).toNatClampNeg) = 3 from rfl, show ((4 : Int32).toNatClampNeg) = 4 from rfl, show ((6 : Int32).toNatClampNeg) = 6 from rfl, show ((7 : Int32).toNatClampNeg) = 7 from rfl, show ((1 : Int32) < 0) = False from by decide, show ((3 : Int32) < 0) = False from by decide, show ((4 : Int32) < 0) = False from by decide, show ((6 : Int32) < 0) = False from by decide, show ((7 : Int32) < 0) = False from by decide, aBi, aBv, aBl, nI_1, nIle_t, nIle_f, nIlt_t, nIlt_f, nIeq_t, nIeq_f, nIneg, nI_clamp, nat_le_f, nat_le_t, nat_lt_f, nat_lt_t, or_self, or_false, false_or, if_true, if_false, ↓reduceIte, Int32.or_zero, Int32.add_zero, nIm2, nIm3, nIm4, nIp2, nIp4, nIp6, nIp8, nIp14, nIp16, nIp22, nIp24, nIp30, nIq2, nIq3, nIq4, hasI_0, aU_s, aU_i, aU_r, aU_u]
  obtain ⟨T, hT, w1, w2, w3, w7, w8, e⟩ := e
  obtain ⟨y, hy, e2⟩ := l67_33 (d := d) (g := g) (I := aR I 35 T) (J := J) (sl := sl) (rd := rd) (rl := rl) (n := m) (by rw [aR_r _ _ (by decide)]; exact hs) hR.1 (nI k) w1 w2 w3 w7 w8 (I 36)
  refine ⟨T, y, ?_⟩
  rw [e]
  rw [show aR (aR I 35 T) 36 (I 36) = aR I 35 T from by rw [show I 36 = aR I 35 T 36 from (aR_r _ _ (by decide)).symm]; exact aR_i _ _] at e2
  rw [e2, ← hy, aR_s, aR_r _ _ (by decide), hR.2, cRule_congr hR hT]
theorem f67t {m i k nd : Nat} {rv : (Nat → Int32) → Int32} (hR : cRule (I 34) m rv) (hs : I 33 1 = nI m) (h0 : I 14 0 = nI nd) (hn : nd ≤ 8) (hi : i < nd) (hk : k < 2) (hI : I 28 (8 + i) = nI k) : ∃ x y, aF d 67 [.ref 33, .ref 14, .ref 27, .int (nI i)] (g, I, J, aP1 sl rd rl) = some (some (some (.int (rv (th (I 15) (cV (I 28)) i)))), (g, aR (aR I 35 x) 36 y, J, aP1 sl rd rl)) := by
  have e : ∃ T, (∀ j, j < 8 → T j = th (I 15) (cV (I 28)) i j) ∧ ∃ w1 w2 w3 w7 w8, aF d 67 [.ref 33, .ref 14, .ref 27, .int (nI i)] (g, I, J, aP1 sl rd rl) = aE d 67 121 [.ref 33, w1, w2, w3, .int (nI k), .int 0, .int 0, w7, w8] [] (g, aR I 35 T, J, aP1 sl rd rl) := by
    refine ⟨upd (upd (upd (upd (upd (upd (upd (upd (I 35) 0 (I 15 i)) 1 (tI (hasT (I 28 7) (nI i)))) 2 (nI i)) 3 (I 28 (16 + i))) 4 (I 28 6 - I 28 6 / 8 * 8)) 5 (nI k)) 6 (I 28 k / 10)) 7 (I 28 (2 + k)), ?_, ?_⟩
    · intro j hj
      rcases ix8c hj with rfl | rfl | rfl | rfl | rfl | rfl | rfl | rfl
      · rfl
      · exact (cV_x _ (by omega)).symm
      · rfl
      · exact (cV_w _ (by omega)).symm
      · rfl
      · exact (hI.symm.trans (cV_l _ (by omega)).symm)
      · show I 28 k / 10 = cV (I 28) (cV (I 28) (6 + i)).toNatClampNeg / 10
        rw [cV_l _ (by omega), hI, nI_clamp (by omega), cV_c _ (by omega) (by omega)]
      · show I 28 (2 + k) = cV (I 28) (2 + (cV (I 28) (6 + i)).toNatClampNeg)
        rw [cV_l _ (by omega), hI, nI_clamp (by omega), cV_c _ (by omega) (by omega)]
    · refine ⟨.ref 14, .ref 27, .int (nI i), aNo, aNo, ?_⟩
      show aE d 67 0 [.ref 33, .ref 14, .ref 27, .int (nI i), aNo, aNo, aNo, aNo, aNo] [] _ = _
      simp (disch := omega) only [b67_0_2, h0, f68_27, hI, b67_19_2, f69_27, b67_42_2, f70_27, b67_64_2, f71_27, b67_74_2, f72_27, b67_98_2, f73_27, b67_114, aU_R, aR_s, aR_u, aR_r, shr1, show ((1 : Int32).toNatClampNeg) = 1 from rfl, show ((3 : Int32).toNatClampNeg) = 3 from rfl, show ((4 : Int32).toNatClampNeg) = 4 from rfl, show ((6 : Int32).toNatClampNeg) = 6 from rfl, show ((7 : Int32).toNatClampNeg) = 7 from rfl, show ((1 : Int32) < 0) = False from by decide, show ((3 : Int32) < 0) = False from by decide, show ((4 : Int32) < 0) = False from by decide, show ((6 : Int32) < 0) = False from by decide, show ((7 : Int32) < 0) = False from by decide, aBi, aBv, aBl, nI_1, nIle_t, nIle_f, nIlt_t, nIlt_f, nIeq_t, nIeq_f, nIneg, nI_clamp, nat_le_f, nat_le_t, nat_lt_f, nat_lt_t, or_self, or_false, false_or, if_true, if_false, ↓reduceIte, Int32.or_zero, Int32.add_zero, nIm2, nIm3, nIm4, nIp2, nIp4, nIp6, nIp8, nIp14, nIp16, nIp22, nIp24, nIp30, nIq2, nIq3, nIq4, hasI_0, aU_s, aU_i, aU_r, aU_u]
  obtain ⟨T, hT, w1, w2, w3, w7, w8, e⟩ := e
  obtain ⟨y, hy, e2⟩ := l67_33 (d := d) (g := g) (I := aR I 35 T) (J := J) (sl := sl) (rd := rd) (rl := rl) (n := m) (by rw [aR_r _ _ (by decide)]; exact hs) hR.1 (nI k) w1 w2 w3 w7 w8 (I 36)
  refine ⟨T, y, ?_⟩
  rw [e]
  rw [show aR (aR I 35 T) 36 (I 36) = aR I 35 T from by rw [show I 36 = aR I 35 T 36 from (aR_r _ _ (by decide)).symm]; exact aR_i _ _] at e2
  rw [e2, ← hy, aR_s, aR_r _ _ (by decide), hR.2, cRule_congr hR hT]
theorem f67o {m i k nd : Nat} {rv : (Nat → Int32) → Int32} (hR : cRule (I 38) m rv) (hs : I 37 1 = nI m) (h0 : I 14 0 = nI nd) (hn : nd ≤ 8) (hi : i < nd) (hk : k < 2) (hI : I 28 (8 + i) = nI k) : ∃ x y, aF d 67 [.ref 37, .ref 14, .ref 27, .int (nI i)] (g, I, J, aP1 sl rd rl) = some (some (some (.int (rv (th (I 15) (cV (I 28)) i)))), (g, aR (aR I 39 x) 40 y, J, aP1 sl rd rl)) := by
  have e : ∃ T, (∀ j, j < 8 → T j = th (I 15) (cV (I 28)) i j) ∧ ∃ w1 w2 w3 w7 w8, aF d 67 [.ref 37, .ref 14, .ref 27, .int (nI i)] (g, I, J, aP1 sl rd rl) = aE d 67 121 [.ref 37, w1, w2, w3, .int (nI k), .int 0, .int 0, w7, w8] [] (g, aR I 39 T, J, aP1 sl rd rl) := by
    refine ⟨upd (upd (upd (upd (upd (upd (upd (upd (I 39) 0 (I 15 i)) 1 (tI (hasT (I 28 7) (nI i)))) 2 (nI i)) 3 (I 28 (16 + i))) 4 (I 28 6 - I 28 6 / 8 * 8)) 5 (nI k)) 6 (I 28 k / 10)) 7 (I 28 (2 + k)), ?_, ?_⟩
    · intro j hj
      rcases ix8c hj with rfl | rfl | rfl | rfl | rfl | rfl | rfl | rfl
      · rfl
      · exact (cV_x _ (by omega)).symm
      · rfl
      · exact (cV_w _ (by omega)).symm
      · rfl
      · exact (hI.symm.trans (cV_l _ (by omega)).symm)
      · show I 28 k / 10 = cV (I 28) (cV (I 28) (6 + i)).toNatClampNeg / 10
        rw [cV_l _ (by omega), hI, nI_clamp (by omega), cV_c _ (by omega) (by omega)]
      · show I 28 (2 + k) = cV (I 28) (2 + (cV (I 28) (6 + i)).toNatClampNeg)
        rw [cV_l _ (by omega), hI, nI_clamp (by omega), cV_c _ (by omega) (by omega)]
    · refine ⟨.ref 14, .ref 27, .int (nI i), aNo, aNo, ?_⟩
      show aE d 67 0 [.ref 37, .ref 14, .ref 27, .int (nI i), aNo, aNo, aNo, aNo, aNo] [] _ = _
      simp (disch := omega) only [b67_0_3, h0, f68_27, hI, b67_19_3, f69_27, b67_42_3, f70_27, b67_64_3, f71_27, b67_74_3, f72_27, b67_98_3, f73_27, b67_114_2, aU_R, aR_s, aR_u, aR_r, shr1, show ((1 : Int32).toNatClampNeg) = 1 from rfl, show ((3 : Int32).toNatClampNeg) = 3 from rfl, show ((4 : Int32).toNatClampNeg) = 4 from rfl, show ((6 : Int32).toNatClampNeg) = 6 from rfl, show ((7 : Int32).toNatClampNeg) = 7 from rfl, show ((1 : Int32) < 0) = False from by decide, show ((3 : Int32) < 0) = False from by decide, show ((4 : Int32) < 0) = False from by decide, show ((6 : Int32) < 0) = False from by decide, show ((7 : Int32) < 0) = False from by decide, aBi, aBv, aBl, nI_1, nIle_t, nIle_f, nIlt_t, nIlt_f, nIeq_t, nIeq_f, nIneg, nI_clamp, nat_le_f, nat_le_t, nat_lt_f, nat_lt_t, or_self, or_false, false_or, if_true, if_false, ↓reduceIte, Int32.or_zero, Int32.add_zero, nIm2, nIm3, nIm4, nIp2, nIp4, nIp6, nIp8, nIp14, nIp16, nIp22, nIp24, nIp30, nIq2, nIq3, nIq4, hasI_0, aU_s, aU_i, aU_r, aU_u]
  obtain ⟨T, hT, w1, w2, w3, w7, w8, e⟩ := e
  obtain ⟨y, hy, e2⟩ := l67_37 (d := d) (g := g) (I := aR I 39 T) (J := J) (sl := sl) (rd := rd) (rl := rl) (n := m) (by rw [aR_r _ _ (by decide)]; exact hs) hR.1 (nI k) w1 w2 w3 w7 w8 (I 40)
  refine ⟨T, y, ?_⟩
  rw [e]
  rw [show aR (aR I 39 T) 40 (I 40) = aR I 39 T from by rw [show I 40 = aR I 39 T 40 from (aR_r _ _ (by decide)).symm]; exact aR_i _ _] at e2
  rw [e2, ← hy, aR_s, aR_r _ _ (by decide), hR.2, cRule_congr hR hT]
