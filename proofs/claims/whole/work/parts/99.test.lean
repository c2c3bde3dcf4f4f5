section T00
/-! the class's rule: a stack works it out -/
variable {d : Nat} {g : Nat × Nat × Nat} {I : Nat → Nat → Int32} {J : Nat → Nat → Int64} {sl rd rl : Nat}
def jt (s a b : Int32) : Int32 := if s = 60 then (if b ≤ a then 0 else 1) else if s = 62 then (if a ≤ b then 0 else 1) else if s = 61 then (if a = b then 1 else 0) else if s = 43 then a + b else if s = 45 then a - b else if s = 42 then a * b else if b = 0 then 0 else a / b
theorem f74 (s a b : Int32) : aF d 74 [.int s, .int a, .int b] (g, I, J, aP1 sl rd rl) = some (some (some (.int (jt s a b))), (g, I, J, aP1 sl rd rl)) := by
  show aE d 74 0 [.int s, .int a, .int b] [] _ = _
  rw [b74_0]
  unfold jt
  by_cases h1 : s = 60
  · subst h1; rw [b74_1_c60, if_pos rfl]; split <;> rfl
  by_cases h2 : s = 62
  · subst h2; rw [b74_1_c62, if_neg h1, if_pos rfl]; split <;> rfl
  by_cases h3 : s = 61
  · subst h3; rw [b74_1_c61, if_neg h1, if_neg h2, if_pos rfl]; split <;> rfl
  by_cases h4 : s = 43
  · subst h4; rw [b74_1_c43, if_neg h1, if_neg h2, if_neg h3, if_pos rfl]
  by_cases h5 : s = 45
  · subst h5; rw [b74_1_c45, if_neg h1, if_neg h2, if_neg h3, if_neg h4, if_pos rfl]
  by_cases h6 : s = 42
  · subst h6; rw [b74_1_c42, if_neg h1, if_neg h2, if_neg h3, if_neg h4, if_neg h5, if_pos rfl]
  rw [s74_1 _ _ _ _ ⟨h6, h4, h5, h1, h3, h2⟩, b74_105, if_neg h1, if_neg h2, if_neg h3, if_neg h4, if_neg h5, if_neg h6]
  split
  · rfl
  · rfl
def sm1 (t : Nat → Int32) (one : Int32) (y : (Nat → Int32) × Nat) : (Nat → Int32) × Nat :=
  if 2000 ≤ one ∨ 40 ≤ y.2 then
    (if one = 2256 ∧ 0 < y.2 then (upd y.1 (y.2 - 1) (-(y.1 (y.2 - 1))), y.2)
     else if one < 2000 ∨ y.2 ≤ 1 then y
     else (upd y.1 (y.2 - 2) (jt (one - 2000) (y.1 (y.2 - 2)) (y.1 (y.2 - 1))), y.2 - 1))
  else (upd y.1 y.2 (if one - 1000 < 0 then one else if 8 ≤ one - 1000 then one else t (one - 1000).toNatClampNeg), y.2 + 1)
def le40 (n : Nat) : Prop := n ≤ 40
def smR (t code : Nat → Int32) (n : Nat) (y : Nat → Int32) : (Nat → Int32) × Nat := fo (fun i y => sm1 t (code i) y) n 0 (y, 0)
theorem ix8 {x : Int32} (h : ¬ x < 0) (h2 : ¬ 8 ≤ x) : (x < 0 ∨ 8 ≤ x.toNatClampNeg) = False := by
  rcases pk_ix x (by decide : 8 < 2 ^ 31) with h3 | h3 | ⟨j, hj, rfl⟩
  · exact absurd h3 h
  · exact absurd h3 h2
  · simp (disch := omega) only [nIneg, nI_clamp, nat_le_f, or_self]
theorem l67_33 {n : Nat} (hs : I 33 1 = nI n) (hn : n ≤ 40) (k : Int32) (w1 w2 w3 w7 w8 : Value) (y0 : Nat → Int32) : ∃ y, (smR (I 35) (I 34) n y0).1 0 = y 0 ∧ aE d 67 121 [.ref 33, w1, w2, w3, .int k, .int 0, .int 0, w7, w8] [] (g, aR I 36 y0, J, aP1 sl rd rl) = some (some (some (.int (y 0))), (g, aR I 36 y, J, aP1 sl rd rl)) := by
  obtain ⟨w, q, e⟩ := lp (X := fun j (a : (Nat → Int32) × Nat) (w : Value × Value) => aE d 67 121 [.ref 33, w1, w2, w3, .int k, .int (nI a.2), .int (nI j), w.1, w.2] [] (g, aR I 36 a.1, J, aP1 sl rd rl)) (f := fun i a => sm1 (I 35) (I 34 i) a) (fun _ a _ => le40 a.2) n 0 (y0, 0) (w7, w8) (Nat.zero_le _) (by
    intro j a w _ hj ha
    obtain ⟨y, p⟩ := a
    obtain ⟨v7, v8⟩ := w
    have ha : p ≤ 40 := ha
    show ∃ s' : Value × Value, _ ∧ aE d 67 121 [.ref 33, w1, w2, w3, .int k, .int (nI p), .int (nI j), v7, v8] [] (g, aR I 36 y, J, aP1 sl rd rl) = _
    rw [b67_121]
    simp (disch := omega) only [hs, aR_r, kgf40, kgt40, klt40, klf40, kmt40, kmf40, kat40, kaf40, ket40, kef40, aBi, aBv, aBl, nI_1, nIle_t, nIle_f, nIlt_t, nIlt_f, nIeq_t, nIeq_f, nIneg, nI_clamp, nat_le_f, nat_le_t, nat_lt_f, nat_lt_t, or_self, or_false, false_or, if_true, if_false, ↓reduceIte, Int32.or_zero, Int32.add_zero, nIm2, nIm3, nIm4, nIp2, nIp4, nIp6, nIp8, nIp14, nIp16, nIp22, nIp24, nIp30, nIq2, nIq3, nIq4, hasI_0, aU_s, aU_i, aU_r, aU_u]
    unfold sm1
    by_cases h1 : 2000 ≤ I 34 j
    · simp only [h1, true_or, if_true]
      rw [b67_215]
      by_cases h2 : I 34 j = 2256
      · by_cases h3 : 0 < p
        · obtain ⟨q, rfl⟩ : ∃ q, p = q + 1 := ⟨p - 1, by omega⟩
          simp (disch := omega) only [h2, nI_pred, aR_s, aU_R, aR_u, true_and, Nat.zero_lt_succ, Nat.add_sub_cancel, show (nI (q + 1) ≤ 0) = False from eq_false (nI_ge (a := 0) (by omega) (by omega)), b67_301, aBi, aBv, aBl, nI_1, nIle_t, nIle_f, nIlt_t, nIlt_f, nIeq_t, nIeq_f, nIneg, nI_clamp, nat_le_f, nat_le_t, nat_lt_f, nat_lt_t, or_self, or_false, false_or, if_true, if_false, ↓reduceIte, Int32.or_zero, Int32.add_zero, nIm2, nIm3, nIm4, nIp2, nIp4, nIp6, nIp8, nIp14, nIp16, nIp22, nIp24, nIp30, nIq2, nIq3, nIq4, hasI_0, aU_s, aU_i, aU_r, aU_u]
          exact ⟨(_, _), ha, rfl⟩
        · obtain rfl : p = 0 := by omega
          simp (disch := omega) only [h2, Nat.lt_irrefl, and_false, show (nI 0 ≤ 0) = True from by decide, b67_250, show ((2256 : Int32) < 2000) = False from by decide, show (nI 0 ≤ 1) = True from by decide, b67_301, Nat.zero_le, aBi, aBv, aBl, nI_1, nIle_t, nIle_f, nIlt_t, nIlt_f, nIeq_t, nIeq_f, nIneg, nI_clamp, nat_le_f, nat_le_t, nat_lt_f, nat_lt_t, or_self, or_false, false_or, if_true, if_false, ↓reduceIte, Int32.or_zero, Int32.add_zero, nIm2, nIm3, nIm4, nIp2, nIp4, nIp6, nIp8, nIp14, nIp16, nIp22, nIp24, nIp30, nIq2, nIq3, nIq4, hasI_0, aU_s, aU_i, aU_r, aU_u]
          exact ⟨(_, _), ha, rfl⟩
      · simp (disch := omega) only [h2, false_and, b67_250, show (I 34 j < 2000) = False from eq_false (by simpa using h1), false_or, aBi, aBv, aBl, nI_1, nIle_t, nIle_f, nIlt_t, nIlt_f, nIeq_t, nIeq_f, nIneg, nI_clamp, nat_le_f, nat_le_t, nat_lt_f, nat_lt_t, or_self, or_false, false_or, if_true, if_false, ↓reduceIte, Int32.or_zero, Int32.add_zero, nIm2, nIm3, nIm4, nIp2, nIp4, nIp6, nIp8, nIp14, nIp16, nIp22, nIp24, nIp30, nIq2, nIq3, nIq4, hasI_0, aU_s, aU_i, aU_r, aU_u]
        by_cases h3 : p ≤ 1
        · simp (disch := omega) only [kgf1, kgt1, klt1, klf1, kmt1, kmf1, kat1, kaf1, ket1, kef1, b67_301, aBi, aBv, aBl, nI_1, nIle_t, nIle_f, nIlt_t, nIlt_f, nIeq_t, nIeq_f, nIneg, nI_clamp, nat_le_f, nat_le_t, nat_lt_f, nat_lt_t, or_self, or_false, false_or, if_true, if_false, ↓reduceIte, Int32.or_zero, Int32.add_zero, nIm2, nIm3, nIm4, nIp2, nIp4, nIp6, nIp8, nIp14, nIp16, nIp22, nIp24, nIp30, nIq2, nIq3, nIq4, hasI_0, aU_s, aU_i, aU_r, aU_u]
          exact ⟨(_, _), ha, rfl⟩
        · obtain ⟨q, rfl⟩ : ∃ q, p = q + 2 := ⟨p - 2, by omega⟩
          simp (disch := omega) only [kgf1, kgt1, klt1, klf1, kmt1, kmf1, kat1, kaf1, ket1, kef1, pk_m1, b67_281, nI_pred, aR_s, f74, b67_300, aU_R, aR_u, b67_301, aBi, aBv, aBl, nI_1, nIle_t, nIle_f, nIlt_t, nIlt_f, nIeq_t, nIeq_f, nIneg, nI_clamp, nat_le_f, nat_le_t, nat_lt_f, nat_lt_t, or_self, or_false, false_or, if_true, if_false, ↓reduceIte, Int32.or_zero, Int32.add_zero, nIm2, nIm3, nIm4, nIp2, nIp4, nIp6, nIp8, nIp14, nIp16, nIp22, nIp24, nIp30, nIq2, nIq3, nIq4, hasI_0, aU_s, aU_i, aU_r, aU_u]
          exact ⟨(_, _), show q + 2 - 1 ≤ 40 by omega, rfl⟩
    · simp only [h1, false_or, if_false]
      by_cases h2 : 40 ≤ p
      · obtain rfl : p = 40 := by omega
        simp (disch := omega) only [kgf40, kgt40, klt40, klf40, kmt40, kmf40, kat40, kaf40, ket40, kef40, b67_215, Nat.le_refl, aBi, aBv, aBl, nI_1, nIle_t, nIle_f, nIlt_t, nIlt_f, nIeq_t, nIeq_f, nIneg, nI_clamp, nat_le_f, nat_le_t, nat_lt_f, nat_lt_t, or_self, or_false, false_or, if_true, if_false, ↓reduceIte, Int32.or_zero, Int32.add_zero, nIm2, nIm3, nIm4, nIp2, nIp4, nIp6, nIp8, nIp14, nIp16, nIp22, nIp24, nIp30, nIq2, nIq3, nIq4, hasI_0, aU_s, aU_i, aU_r, aU_u]
        have h3 : I 34 j < 2000 := by simpa using h1
        have h4 : ¬ I 34 j = 2256 := fun q => by rw [q] at h3; exact absurd h3 (by decide)
        simp (disch := omega) only [h4, b67_250, h3, b67_301, false_and, true_or, aBi, aBv, aBl, nI_1, nIle_t, nIle_f, nIlt_t, nIlt_f, nIeq_t, nIeq_f, nIneg, nI_clamp, nat_le_f, nat_le_t, nat_lt_f, nat_lt_t, or_self, or_false, false_or, if_true, if_false, ↓reduceIte, Int32.or_zero, Int32.add_zero, nIm2, nIm3, nIm4, nIp2, nIp4, nIp6, nIp8, nIp14, nIp16, nIp22, nIp24, nIp30, nIq2, nIq3, nIq4, hasI_0, aU_s, aU_i, aU_r, aU_u]
        exact ⟨(_, _), ha, rfl⟩
      · simp (disch := omega) only [kgf40, kgt40, klt40, klf40, kmt40, kmf40, kat40, kaf40, ket40, kef40, aBi, aBv, aBl, nI_1, nIle_t, nIle_f, nIlt_t, nIlt_f, nIeq_t, nIeq_f, nIneg, nI_clamp, nat_le_f, nat_le_t, nat_lt_f, nat_lt_t, or_self, or_false, false_or, if_true, if_false, ↓reduceIte, Int32.or_zero, Int32.add_zero, nIm2, nIm3, nIm4, nIp2, nIp4, nIp6, nIp8, nIp14, nIp16, nIp22, nIp24, nIp30, nIq2, nIq3, nIq4, hasI_0, aU_s, aU_i, aU_r, aU_u]
        by_cases h3 : I 34 j - 1000 < 0
        · simp (disch := omega) only [h3, b67_206, b67_208, aU_R, aR_s, aR_u, b67_301, aBi, aBv, aBl, nI_1, nIle_t, nIle_f, nIlt_t, nIlt_f, nIeq_t, nIeq_f, nIneg, nI_clamp, nat_le_f, nat_le_t, nat_lt_f, nat_lt_t, or_self, or_false, false_or, if_true, if_false, ↓reduceIte, Int32.or_zero, Int32.add_zero, nIm2, nIm3, nIm4, nIp2, nIp4, nIp6, nIp8, nIp14, nIp16, nIp22, nIp24, nIp30, nIq2, nIq3, nIq4, hasI_0, aU_s, aU_i, aU_r, aU_u]
          exact ⟨(_, _), show p + 1 ≤ 40 by omega, rfl⟩
        · by_cases h4 : 8 ≤ I 34 j - 1000
          · simp (disch := omega) only [h3, h4, b67_206, b67_208, aU_R, aR_s, aR_u, b67_301, aBi, aBv, aBl, nI_1, nIle_t, nIle_f, nIlt_t, nIlt_f, nIeq_t, nIeq_f, nIneg, nI_clamp, nat_le_f, nat_le_t, nat_lt_f, nat_lt_t, or_self, or_false, false_or, if_true, if_false, ↓reduceIte, Int32.or_zero, Int32.add_zero, nIm2, nIm3, nIm4, nIp2, nIp4, nIp6, nIp8, nIp14, nIp16, nIp22, nIp24, nIp30, nIq2, nIq3, nIq4, hasI_0, aU_s, aU_i, aU_r, aU_u]
            exact ⟨(_, _), show p + 1 ≤ 40 by omega, rfl⟩
          · rw [if_neg h3, if_neg h4, if_neg (of_eq_false (ix8 h3 h4))]
            simp (disch := omega) only [h3, h4, b67_206, b67_208, aU_R, aR_s, aR_u, b67_301, aBi, aBv, aBl, nI_1, nIle_t, nIle_f, nIlt_t, nIlt_f, nIeq_t, nIeq_f, nIneg, nI_clamp, nat_le_f, nat_le_t, nat_lt_f, nat_lt_t, or_self, or_false, false_or, if_true, if_false, ↓reduceIte, Int32.or_zero, Int32.add_zero, nIm2, nIm3, nIm4, nIp2, nIp4, nIp6, nIp8, nIp14, nIp16, nIp22, nIp24, nIp30, nIq2, nIq3, nIq4, hasI_0, aU_s, aU_i, aU_r, aU_u]
            exact ⟨(_, _), show p + 1 ≤ 40 by omega, rfl⟩)
  refine ⟨(smR (I 35) (I 34) n y0).1, rfl, e.trans ?_⟩
  show aE d 67 121 [.ref 33, w1, w2, w3, .int k, .int (nI (smR (I 35) (I 34) n y0).2), .int (nI (0 + n)), w.1, w.2] [] (g, aR I 36 (smR (I 35) (I 34) n y0).1, J, aP1 sl rd rl) = _
  rw [b67_121]
  simp (disch := omega) only [hs, aR_r, aR_s, Nat.zero_add, b67_307, aBi, aBv, aBl, nI_1, nIle_t, nIle_f, nIlt_t, nIlt_f, nIeq_t, nIeq_f, nIneg, nI_clamp, nat_le_f, nat_le_t, nat_lt_f, nat_lt_t, or_self, or_false, false_or, if_true, if_false, ↓reduceIte, Int32.or_zero, Int32.add_zero, nIm2, nIm3, nIm4, nIp2, nIp4, nIp6, nIp8, nIp14, nIp16, nIp22, nIp24, nIp30, nIq2, nIq3, nIq4, hasI_0, aU_s, aU_i, aU_r, aU_u]
theorem l67_37 {n : Nat} (hs : I 37 1 = nI n) (hn : n ≤ 40) (k : Int32) (w1 w2 w3 w7 w8 : Value) (y0 : Nat → Int32) : ∃ y, (smR (I 39) (I 38) n y0).1 0 = y 0 ∧ aE d 67 121 [.ref 37, w1, w2, w3, .int k, .int 0, .int 0, w7, w8] [] (g, aR I 40 y0, J, aP1 sl rd rl) = some (some (some (.int (y 0))), (g, aR I 40 y, J, aP1 sl rd rl)) := by
  obtain ⟨w, q, e⟩ := lp (X := fun j (a : (Nat → Int32) × Nat) (w : Value × Value) => aE d 67 121 [.ref 37, w1, w2, w3, .int k, .int (nI a.2), .int (nI j), w.1, w.2] [] (g, aR I 40 a.1, J, aP1 sl rd rl)) (f := fun i a => sm1 (I 39) (I 38 i) a) (fun _ a _ => le40 a.2) n 0 (y0, 0) (w7, w8) (Nat.zero_le _) (by
    intro j a w _ hj ha
    obtain ⟨y, p⟩ := a
    obtain ⟨v7, v8⟩ := w
    have ha : p ≤ 40 := ha
    show ∃ s' : Value × Value, _ ∧ aE d 67 121 [.ref 37, w1, w2, w3, .int k, .int (nI p), .int (nI j), v7, v8] [] (g, aR I 40 y, J, aP1 sl rd rl) = _
    rw [b67_121_2]
    simp (disch := omega) only [hs, aR_r, kgf40, kgt40, klt40, klf40, kmt40, kmf40, kat40, kaf40, ket40, kef40, aBi, aBv, aBl, nI_1, nIle_t, nIle_f, nIlt_t, nIlt_f, nIeq_t, nIeq_f, nIneg, nI_clamp, nat_le_f, nat_le_t, nat_lt_f, nat_lt_t, or_self, or_false, false_or, if_true, if_false, ↓reduceIte, Int32.or_zero, Int32.add_zero, nIm2, nIm3, nIm4, nIp2, nIp4, nIp6, nIp8, nIp14, nIp16, nIp22, nIp24, nIp30, nIq2, nIq3, nIq4, hasI_0, aU_s, aU_i, aU_r, aU_u]
    unfold sm1
    by_cases h1 : 2000 ≤ I 38 j
    · simp only [h1, true_or, if_true]
      rw [b67_215_2]
      by_cases h2 : I 38 j = 2256
      · by_cases h3 : 0 < p
        · obtain ⟨q, rfl⟩ : ∃ q, p = q + 1 := ⟨p - 1, by omega⟩
          simp (disch := omega) only [h2, nI_pred, aR_s, aU_R, aR_u, true_and, Nat.zero_lt_succ, Nat.add_sub_cancel, show (nI (q + 1) ≤ 0) = False from eq_false (nI_ge (a := 0) (by omega) (by omega)), b67_301_2, aBi, aBv, aBl, nI_1, nIle_t, nIle_f, nIlt_t, nIlt_f, nIeq_t, nIeq_f, nIneg, nI_clamp, nat_le_f, nat_le_t, nat_lt_f, nat_lt_t, or_self, or_false, false_or, if_true, if_false, ↓reduceIte, Int32.or_zero, Int32.add_zero, nIm2, nIm3, nIm4, nIp2, nIp4, nIp6, nIp8, nIp14, nIp16, nIp22, nIp24, nIp30, nIq2, nIq3, nIq4, hasI_0, aU_s, aU_i, aU_r, aU_u]
          exact ⟨(_, _), ha, rfl⟩
        · obtain rfl : p = 0 := by omega
          simp (disch := omega) only [h2, Nat.lt_irrefl, and_false, show (nI 0 ≤ 0) = True from by decide, b67_250_2, show ((2256 : Int32) < 2000) = False from by decide, show (nI 0 ≤ 1) = True from by decide, b67_301_2, Nat.zero_le, aBi, aBv, aBl, nI_1, nIle_t, nIle_f, nIlt_t, nIlt_f, nIeq_t, nIeq_f, nIneg, nI_clamp, nat_le_f, nat_le_t, nat_lt_f, nat_lt_t, or_self, or_false, false_or, if_true, if_false, ↓reduceIte, Int32.or_zero, Int32.add_zero, nIm2, nIm3, nIm4, nIp2, nIp4, nIp6, nIp8, nIp14, nIp16, nIp22, nIp24, nIp30, nIq2, nIq3, nIq4, hasI_0, aU_s, aU_i, aU_r, aU_u]
          exact ⟨(_, _), ha, rfl⟩
      · simp (disch := omega) only [h2, false_and, b67_250_2, show (I 38 j < 2000) = False from eq_false (by simpa using h1), false_or, aBi, aBv, aBl, nI_1, nIle_t, nIle_f, nIlt_t, nIlt_f, nIeq_t, nIeq_f, nIneg, nI_clamp, nat_le_f, nat_le_t, nat_lt_f, nat_lt_t, or_self, or_false, false_or, if_true, if_false, ↓reduceIte, Int32.or_zero, Int32.add_zero, nIm2, nIm3, nIm4, nIp2, nIp4, nIp6, nIp8, nIp14, nIp16, nIp22, nIp24, nIp30, nIq2, nIq3, nIq4, hasI_0, aU_s, aU_i, aU_r, aU_u]
        by_cases h3 : p ≤ 1
        · simp (disch := omega) only [kgf1, kgt1, klt1, klf1, kmt1, kmf1, kat1, kaf1, ket1, kef1, b67_301_2, aBi, aBv, aBl, nI_1, nIle_t, nIle_f, nIlt_t, nIlt_f, nIeq_t, nIeq_f, nIneg, nI_clamp, nat_le_f, nat_le_t, nat_lt_f, nat_lt_t, or_self, or_false, false_or, if_true, if_false, ↓reduceIte, Int32.or_zero, Int32.add_zero, nIm2, nIm3, nIm4, nIp2, nIp4, nIp6, nIp8, nIp14, nIp16, nIp22, nIp24, nIp30, nIq2, nIq3, nIq4, hasI_0, aU_s, aU_i, aU_r, aU_u]
          exact ⟨(_, _), ha, rfl⟩
        · obtain ⟨q, rfl⟩ : ∃ q, p = q + 2 := ⟨p - 2, by omega⟩
          simp (disch := omega) only [kgf1, kgt1, klt1, klf1, kmt1, kmf1, kat1, kaf1, ket1, kef1, pk_m1, b67_281_2, nI_pred, aR_s, f74, b67_300_2, aU_R, aR_u, b67_301_2, aBi, aBv, aBl, nI_1, nIle_t, nIle_f, nIlt_t, nIlt_f, nIeq_t, nIeq_f, nIneg, nI_clamp, nat_le_f, nat_le_t, nat_lt_f, nat_lt_t, or_self, or_false, false_or, if_true, if_false, ↓reduceIte, Int32.or_zero, Int32.add_zero, nIm2, nIm3, nIm4, nIp2, nIp4, nIp6, nIp8, nIp14, nIp16, nIp22, nIp24, nIp30, nIq2, nIq3, nIq4, hasI_0, aU_s, aU_i, aU_r, aU_u]
          exact ⟨(_, _), show q + 2 - 1 ≤ 40 by omega, rfl⟩
    · simp only [h1, false_or, if_false]
      by_cases h2 : 40 ≤ p
      · obtain rfl : p = 40 := by omega
        simp (disch := omega) only [kgf40, kgt40, klt40, klf40, kmt40, kmf40, kat40, kaf40, ket40, kef40, b67_215_2, Nat.le_refl, aBi, aBv, aBl, nI_1, nIle_t, nIle_f, nIlt_t, nIlt_f, nIeq_t, nIeq_f, nIneg, nI_clamp, nat_le_f, nat_le_t, nat_lt_f, nat_lt_t, or_self, or_false, false_or, if_true, if_false, ↓reduceIte, Int32.or_zero, Int32.add_zero, nIm2, nIm3, nIm4, nIp2, nIp4, nIp6, nIp8, nIp14, nIp16, nIp22, nIp24, nIp30, nIq2, nIq3, nIq4, hasI_0, aU_s, aU_i, aU_r, aU_u]
        have h3 : I 38 j < 2000 := by simpa using h1
        have h4 : ¬ I 38 j = 2256 := fun q => by rw [q] at h3; exact absurd h3 (by decide)
        simp (disch := omega) only [h4, b67_250_2, h3, b67_301_2, false_and, true_or, aBi, aBv, aBl, nI_1, nIle_t, nIle_f, nIlt_t, nIlt_f, nIeq_t, nIeq_f, nIneg, nI_clamp, nat_le_f, nat_le_t, nat_lt_f, nat_lt_t, or_self, or_false, false_or, if_true, if_false, ↓reduceIte, Int32.or_zero, Int32.add_zero, nIm2, nIm3, nIm4, nIp2, nIp4, nIp6, nIp8, nIp14, nIp16, nIp22, nIp24, nIp30, nIq2, nIq3, nIq4, hasI_0, aU_s, aU_i, aU_r, aU_u]
        exact ⟨(_, _), ha, rfl⟩
      · simp (disch := omega) only [kgf40, kgt40, klt40, klf40, kmt40, kmf40, kat40, kaf40, ket40, kef40, aBi, aBv, aBl, nI_1, nIle_t, nIle_f, nIlt_t, nIlt_f, nIeq_t, nIeq_f, nIneg, nI_clamp, nat_le_f, nat_le_t, nat_lt_f, nat_lt_t, or_self, or_false, false_or, if_true, if_false, ↓reduceIte, Int32.or_zero, Int32.add_zero, nIm2, nIm3, nIm4, nIp2, nIp4, nIp6, nIp8, nIp14, nIp16, nIp22, nIp24, nIp30, nIq2, nIq3, nIq4, hasI_0, aU_s, aU_i, aU_r, aU_u]
        by_cases h3 : I 38 j - 1000 < 0
        · simp (disch := omega) only [h3, b67_206_2, b67_208_2, aU_R, aR_s, aR_u, b67_301_2, aBi, aBv, aBl, nI_1, nIle_t, nIle_f, nIlt_t, nIlt_f, nIeq_t, nIeq_f, nIneg, nI_clamp, nat_le_f, nat_le_t, nat_lt_f, nat_lt_t, or_self, or_false, false_or, if_true, if_false, ↓reduceIte, Int32.or_zero, Int32.add_zero, nIm2, nIm3, nIm4, nIp2, nIp4, nIp6, nIp8, nIp14, nIp16, nIp22, nIp24, nIp30, nIq2, nIq3, nIq4, hasI_0, aU_s, aU_i, aU_r, aU_u]
          exact ⟨(_, _), show p + 1 ≤ 40 by omega, rfl⟩
        · by_cases h4 : 8 ≤ I 38 j - 1000
          · simp (disch := omega) only [h3, h4, b67_206_2, b67_208_2, aU_R, aR_s, aR_u, b67_301_2, aBi, aBv, aBl, nI_1, nIle_t, nIle_f, nIlt_t, nIlt_f, nIeq_t, nIeq_f, nIneg, nI_clamp, nat_le_f, nat_le_t, nat_lt_f, nat_lt_t, or_self, or_false, false_or, if_true, if_false, ↓reduceIte, Int32.or_zero, Int32.add_zero, nIm2, nIm3, nIm4, nIp2, nIp4, nIp6, nIp8, nIp14, nIp16, nIp22, nIp24, nIp30, nIq2, nIq3, nIq4, hasI_0, aU_s, aU_i, aU_r, aU_u]
            exact ⟨(_, _), show p + 1 ≤ 40 by omega, rfl⟩
          · rw [if_neg h3, if_neg h4, if_neg (of_eq_false (ix8 h3 h4))]
            simp (disch := omega) only [h3, h4, b67_206_2, b67_208_2, aU_R, aR_s, aR_u, b67_301_2, aBi, aBv, aBl, nI_1, nIle_t, nIle_f, nIlt_t, nIlt_f, nIeq_t, nIeq_f, nIneg, nI_clamp, nat_le_f, nat_le_t, nat_lt_f, nat_lt_t, or_self, or_false, false_or, if_true, if_false, ↓reduceIte, Int32.or_zero, Int32.add_zero, nIm2, nIm3, nIm4, nIp2, nIp4, nIp6, nIp8, nIp14, nIp16, nIp22, nIp24, nIp30, nIq2, nIq3, nIq4, hasI_0, aU_s, aU_i, aU_r, aU_u]
            exact ⟨(_, _), show p + 1 ≤ 40 by omega, rfl⟩)
  refine ⟨(smR (I 39) (I 38) n y0).1, rfl, e.trans ?_⟩
  show aE d 67 121 [.ref 37, w1, w2, w3, .int k, .int (nI (smR (I 39) (I 38) n y0).2), .int (nI (0 + n)), w.1, w.2] [] (g, aR I 40 (smR (I 39) (I 38) n y0).1, J, aP1 sl rd rl) = _
  rw [b67_121_2]
  simp (disch := omega) only [hs, aR_r, aR_s, Nat.zero_add, b67_307_2, aBi, aBv, aBl, nI_1, nIle_t, nIle_f, nIlt_t, nIlt_f, nIeq_t, nIeq_f, nIneg, nI_clamp, nat_le_f, nat_le_t, nat_lt_f, nat_lt_t, or_self, or_false, false_or, if_true, if_false, ↓reduceIte, Int32.or_zero, Int32.add_zero, nIm2, nIm3, nIm4, nIp2, nIp4, nIp6, nIp8, nIp14, nIp16, nIp22, nIp24, nIp30, nIq2, nIq3, nIq4, hasI_0, aU_s, aU_i, aU_r, aU_u]
/-- what a rule asks of driver i in state s -/
def th (sk s : Nat → Int32) (i : Nat) : Nat → Int32 := fun k => if k = 0 then sk i else if k = 1 then s (14 + i) else if k = 2 then nI i else if k = 3 then s (22 + i) else if k = 4 then s 38 - s 38 / 8 * 8 else if k = 5 then s (6 + i) else if k = 6 then s (s (6 + i)).toNatClampNeg / 10 else s (2 + (s (6 + i)).toNatClampNeg)
theorem shr1 (x : Int32) (i : Int32) : ((x >>> (i &&& 31)) &&& 1) = tI (hasT x i) := by
  have h : ∀ z : Int32, (z &&& 1) = 0 ∨ (z &&& 1) = 1 := by
    intro z
    have e : (z &&& 1) = if bt z 0 then 1 else 0 := by
      refine b_ext (fun k hk => ?_)
      rw [b_and, b_1 k hk]
      by_cases h : k = 0
      · subst h; cases bt z 0 <;> simp [b_0, b_1]
      · simp only [h, decide_false, Bool.and_false]
        cases bt z 0
        · exact (b_0 k).symm
        · rw [if_pos rfl, b_1 k hk]; simp [h]
    rw [e]
    cases bt z 0
    · exact Or.inl rfl
    · exact Or.inr rfl
  unfold hasT hasI tI
  rcases h (x >>> (i &&& 31)) with h | h <;> rw [h] <;> decide
theorem shr1' (x : Int32) (i : Int32) : (((x >>> (i &&& 31)) &&& 1) = 1) = (hasT x i = true) := by
  rw [shr1]; cases hasT x i <;> decide
theorem sm1_congr {t t' : Nat → Int32} (h : ∀ k, k < 8 → t k = t' k) (one : Int32) (y : (Nat → Int32) × Nat) : sm1 t one y = sm1 t' one y := by
  unfold sm1
  (repeat' split) <;> first | rfl | skip
  rename_i h1 h2 h3
  rw [h]
  have := ix8 h2 h3
  simp only [eq_iff_iff, iff_false, not_or] at this
  omega
theorem smR_congr {t t' : Nat → Int32} (h : ∀ k, k < 8 → t k = t' k) (code : Nat → Int32) (n : Nat) (y : Nat → Int32) : smR t code n y = smR t' code n y :=
  fo_congr _ _ _ (fun j a _ _ => sm1_congr h _ _)
/-- the class's code of a rule whose value is rv -/
def cRule (code : Nat → Int32) (n : Nat) (rv : (Nat → Int32) → Int32) : Prop := n ≤ 40 ∧ ∀ t y, (smR t code n y).1 0 = rv t
theorem cRule_congr {code : Nat → Int32} {n : Nat} {rv : (Nat → Int32) → Int32} (h : cRule code n rv) {t t' : Nat → Int32} (e : ∀ k, k < 8 → t k = t' k) : rv t = rv t' := by
  rw [← h.2 t (fun _ => 0), ← h.2 t' (fun _ => 0), smR_congr e]
theorem ix8c {k : Nat} (h : k < 8) : k = 0 ∨ k = 1 ∨ k = 2 ∨ k = 3 ∨ k = 4 ∨ k = 5 ∨ k = 6 ∨ k = 7 := by omega
theorem f67 {m i k nd : Nat} {rv : (Nat → Int32) → Int32} (hR : cRule (I 34) m rv) (hs : I 33 1 = nI m) (h0 : I 14 0 = nI nd) (hn : nd ≤ 8) (hi : i < nd) (hk : k < 2) (hI : I 24 (8 + i) = nI k) : ∃ x y, aF d 67 [.ref 33, .ref 14, .ref 23, .int (nI i)] (g, I, J, aP1 sl rd rl) = some (some (some (.int (rv (th (I 15) (cV (I 24)) i)))), (g, aR (aR I 35 x) 36 y, J, aP1 sl rd rl)) := by
  have e : ∃ T, (∀ j, j < 8 → T j = th (I 15) (cV (I 24)) i j) ∧ ∃ w1 w2 w3 w7 w8, aF d 67 [.ref 33, .ref 14, .ref 23, .int (nI i)] (g, I, J, aP1 sl rd rl) = aE d 67 121 [.ref 33, w1, w2, w3, .int (nI k), .int 0, .int 0, w7, w8] [] (g, aR I 35 T, J, aP1 sl rd rl) := by
    refine ⟨upd (upd (upd (upd (upd (upd (upd (upd (I 35) 0 (I 15 i)) 1 (tI (hasT (I 24 7) (nI i)))) 2 (nI i)) 3 (I 24 (16 + i))) 4 (I 24 6 - I 24 6 / 8 * 8)) 5 (nI k)) 6 (I 24 k / 10)) 7 (I 24 (2 + k)), ?_, ?_⟩
    · intro j hj
      rcases ix8c hj with rfl | rfl | rfl | rfl | rfl | rfl | rfl | rfl
      · rfl
      · exact (cV_x _ (by omega)).symm
      · rfl
      · exact (cV_w _ (by omega)).symm
      · rfl
      · exact (hI.symm.trans (cV_l _ (by omega)).symm)
      · show I 24 k / 10 = cV (I 24) (cV (I 24) (6 + i)).toNatClampNeg / 10
        rw [cV_l _ (by omega), hI, nI_clamp (by omega), cV_c _ (by omega) (by omega)]
      · show I 24 (2 + k) = cV (I 24) (2 + (cV (I 24) (6 + i)).toNatClampNeg)
        rw [cV_l _ (by omega), hI, nI_clamp (by omega), cV_c _ (by omega) (by omega)]
    · refine ⟨.ref 14, .ref 23, .int (nI i), aNo, aNo, ?_⟩
      show aE d 67 0 [.ref 33, .ref 14, .ref 23, .int (nI i), aNo, aNo, aNo, aNo, aNo] [] _ = _
      simp (disch := omega) only [b67_0, h0, f68_23, hI, b67_19, f69_23, b67_42, f70_23, b67_64, f71_23, b67_74, f72_23, b67_98, f73_23, b67_114, aU_R, aR_s, aR_u, aR_r, shr1, show ((1 : Int32).toNatClampNeg) = 1 from rfl, show ((3 : Int32).toNatClampNeg) = 3 from rfl, show ((4 : Int32).toNatClampNeg) = 4 from rfl, show ((6 : Int32).toNatClampNeg) = 6 from rfl, show ((7 : Int32).toNatClampNeg) = 7 from rfl, show ((1 : Int32) < 0) = False from by decide, show ((3 : Int32) < 0) = False from by decide, show ((4 : Int32) < 0) = False from by decide, show ((6 : Int32) < 0) = False from by decide, show ((7 : Int32) < 0) = False from by decide, aBi, aBv, aBl, nI_1, nIle_t, nIle_f, nIlt_t, nIlt_f, nIeq_t, nIeq_f, nIneg, nI_clamp, nat_le_f, nat_le_t, nat_lt_f, nat_lt_t, or_self, or_false, false_or, if_true, if_false, ↓reduceIte, Int32.or_zero, Int32.add_zero, nIm2, nIm3, nIm4, nIp2, nIp4, nIp6, nIp8, nIp14, nIp16, nIp22, nIp24, nIp30, nIq2, nIq3, nIq4, hasI_0, aU_s, aU_i, aU_r, aU_u]
  obtain ⟨T, hT, w1, w2, w3, w7, w8, e⟩ := e
  obtain ⟨y, hy, e2⟩ := l67_33 (d := d) (g := g) (I := aR I 35 T) (J := J) (sl := sl) (rd := rd) (rl := rl) (n := m) (by rw [aR_r _ _ (by decide)]; exact hs) hR.1 (nI k) w1 w2 w3 w7 w8 (I 36)
  refine ⟨T, y, ?_⟩
  rw [e]
  rw [show aR (aR I 35 T) 36 (I 36) = aR I 35 T from by rw [show I 36 = aR I 35 T 36 from (aR_r _ _ (by decide)).symm]; exact aR_i _ _] at e2
  rw [e2, ← hy, aR_s, aR_r _ _ (by decide), hR.2, cRule_congr hR hT]
theorem f67t {m i k nd : Nat} {rv : (Nat → Int32) → Int32} (hR : cRule (I 34) m rv) (hs : I 33 1 = nI m) (h0 : I 14 0 = nI nd) (hn : nd ≤ 8) (hi : i < nd) (hk : k < 2) (hI : I 28 (8 + i) = nI k) : ∃ x y, aF d 67 [.ref 33, .ref 14, .ref 27, .int (nI i)] (g, I, J, aP1 sl rd rl) = some (some (some (.int (rv (th (I 15) (cV (I 28)) i)))), (g, aR (aR I 35 x) 36 y, J, aP1 sl rd rl)) := by
  have e : ∃ T, (∀ j, j < 8 → T j = th (I 15) (cV (I 28)) i j) ∧ ∃ w1 w2 w3 w7 w8, aF d 67 [.ref 33, .ref 14, .ref 27, .int (nI i)] (g, I, J, aP1 sl rd rl) = aE d 67 121 [.ref 33, w1, w2, w3, .int (nI k), .int 0, .int 0, w7, w8] [] (g, aR I 35 T, J, aP1 sl rd rl) := by
    refine ⟨upd (upd (upd (upd (upd (upd (upd (upd (I 35) 0 (I 15 i)) 1 (tI (hasT (I 28 7) (nI i)))) 2 (nI i)) 3 (I 28 (16 + i))) 4 (I 28 6 - I 28 6 / 8 * 8)) 5 (nI k)) 6 (I 28 k / 10)) 7 (I 28 (2 + k)), ?_, ?_⟩
    · intro j hj
      rcases ix8c hj with rfl | rfl | rfl | rfl | rfl | rfl | rfl | rfl
      · rfl
      · exact (cV_x _ (by omega)).symm
      · rfl
      · exact (cV_w _ (by omega)).symm
      · rfl
      · exact (hI.symm.trans (cV_l _ (by omega)).symm)
      · show I 28 k / 10 = cV (I 28) (cV (I 28) (6 + i)).toNatClampNeg / 10
        rw [cV_l _ (by omega), hI, nI_clamp (by omega), cV_c _ (by omega) (by omega)]
      · show I 28 (2 + k) = cV (I 28) (2 + (cV (I 28) (6 + i)).toNatClampNeg)
        rw [cV_l _ (by omega), hI, nI_clamp (by omega), cV_c _ (by omega) (by omega)]
    · refine ⟨.ref 14, .ref 27, .int (nI i), aNo, aNo, ?_⟩
      show aE d 67 0 [.ref 33, .ref 14, .ref 27, .int (nI i), aNo, aNo, aNo, aNo, aNo] [] _ = _
      simp (disch := omega) only [b67_0_2, h0, f68_27, hI, b67_19_2, f69_27, b67_42_2, f70_27, b67_64_2, f71_27, b67_74_2, f72_27, b67_98_2, f73_27, b67_114, aU_R, aR_s, aR_u, aR_r, shr1, show ((1 : Int32).toNatClampNeg) = 1 from rfl, show ((3 : Int32).toNatClampNeg) = 3 from rfl, show ((4 : Int32).toNatClampNeg) = 4 from rfl, show ((6 : Int32).toNatClampNeg) = 6 from rfl, show ((7 : Int32).toNatClampNeg) = 7 from rfl, show ((1 : Int32) < 0) = False from by decide, show ((3 : Int32) < 0) = False from by decide, show ((4 : Int32) < 0) = False from by decide, show ((6 : Int32) < 0) = False from by decide, show ((7 : Int32) < 0) = False from by decide, aBi, aBv, aBl, nI_1, nIle_t, nIle_f, nIlt_t, nIlt_f, nIeq_t, nIeq_f, nIneg, nI_clamp, nat_le_f, nat_le_t, nat_lt_f, nat_lt_t, or_self, or_false, false_or, if_true, if_false, ↓reduceIte, Int32.or_zero, Int32.add_zero, nIm2, nIm3, nIm4, nIp2, nIp4, nIp6, nIp8, nIp14, nIp16, nIp22, nIp24, nIp30, nIq2, nIq3, nIq4, hasI_0, aU_s, aU_i, aU_r, aU_u]
  obtain ⟨T, hT, w1, w2, w3, w7, w8, e⟩ := e
  obtain ⟨y, hy, e2⟩ := l67_33 (d := d) (g := g) (I := aR I 35 T) (J := J) (sl := sl) (rd := rd) (rl := rl) (n := m) (by rw [aR_r _ _ (by decide)]; exact hs) hR.1 (nI k) w1 w2 w3 w7 w8 (I 36)
  refine ⟨T, y, ?_⟩
  rw [e]
  rw [show aR (aR I 35 T) 36 (I 36) = aR I 35 T from by rw [show I 36 = aR I 35 T 36 from (aR_r _ _ (by decide)).symm]; exact aR_i _ _] at e2
  rw [e2, ← hy, aR_s, aR_r _ _ (by decide), hR.2, cRule_congr hR hT]
theorem f67o {m i k nd : Nat} {rv : (Nat → Int32) → Int32} (hR : cRule (I 38) m rv) (hs : I 37 1 = nI m) (h0 : I 14 0 = nI nd) (hn : nd ≤ 8) (hi : i < nd) (hk : k < 2) (hI : I 28 (8 + i) = nI k) : ∃ x y, aF d 67 [.ref 37, .ref 14, .ref 27, .int (nI i)] (g, I, J, aP1 sl rd rl) = some (some (some (.int (rv (th (I 15) (cV (I 28)) i)))), (g, aR (aR I 39 x) 40 y, J, aP1 sl rd rl)) := by
  have e : ∃ T, (∀ j, j < 8 → T j = th (I 15) (cV (I 28)) i j) ∧ ∃ w1 w2 w3 w7 w8, aF d 67 [.ref 37, .ref 14, .ref 27, .int (nI i)] (g, I, J, aP1 sl rd rl) = aE d 67 121 [.ref 37, w1, w2, w3, .int (nI k), .int 0, .int 0, w7, w8] [] (g, aR I 39 T, J, aP1 sl rd rl) := by
    refine ⟨upd (upd (upd (upd (upd (upd (upd (upd (I 39) 0 (I 15 i)) 1 (tI (hasT (I 28 7) (nI i)))) 2 (nI i)) 3 (I 28 (16 + i))) 4 (I 28 6 - I 28 6 / 8 * 8)) 5 (nI k)) 6 (I 28 k / 10)) 7 (I 28 (2 + k)), ?_, ?_⟩
    · intro j hj
      rcases ix8c hj with rfl | rfl | rfl | rfl | rfl | rfl | rfl | rfl
      · rfl
      · exact (cV_x _ (by omega)).symm
      · rfl
      · exact (cV_w _ (by omega)).symm
      · rfl
      · exact (hI.symm.trans (cV_l _ (by omega)).symm)
      · show I 28 k / 10 = cV (I 28) (cV (I 28) (6 + i)).toNatClampNeg / 10
        rw [cV_l _ (by omega), hI, nI_clamp (by omega), cV_c _ (by omega) (by omega)]
      · show I 28 (2 + k) = cV (I 28) (2 + (cV (I 28) (6 + i)).toNatClampNeg)
        rw [cV_l _ (by omega), hI, nI_clamp (by omega), cV_c _ (by omega) (by omega)]
    · refine ⟨.ref 14, .ref 27, .int (nI i), aNo, aNo, ?_⟩
      show aE d 67 0 [.ref 37, .ref 14, .ref 27, .int (nI i), aNo, aNo, aNo, aNo, aNo] [] _ = _
      simp (disch := omega) only [b67_0_3, h0, f68_27, hI, b67_19_3, f69_27, b67_42_3, f70_27, b67_64_3, f71_27, b67_74_3, f72_27, b67_98_3, f73_27, b67_114_2, aU_R, aR_s, aR_u, aR_r, shr1, show ((1 : Int32).toNatClampNeg) = 1 from rfl, show ((3 : Int32).toNatClampNeg) = 3 from rfl, show ((4 : Int32).toNatClampNeg) = 4 from rfl, show ((6 : Int32).toNatClampNeg) = 6 from rfl, show ((7 : Int32).toNatClampNeg) = 7 from rfl, show ((1 : Int32) < 0) = False from by decide, show ((3 : Int32) < 0) = False from by decide, show ((4 : Int32) < 0) = False from by decide, show ((6 : Int32) < 0) = False from by decide, show ((7 : Int32) < 0) = False from by decide, aBi, aBv, aBl, nI_1, nIle_t, nIle_f, nIlt_t, nIlt_f, nIeq_t, nIeq_f, nIneg, nI_clamp, nat_le_f, nat_le_t, nat_lt_f, nat_lt_t, or_self, or_false, false_or, if_true, if_false, ↓reduceIte, Int32.or_zero, Int32.add_zero, nIm2, nIm3, nIm4, nIp2, nIp4, nIp6, nIp8, nIp14, nIp16, nIp22, nIp24, nIp30, nIq2, nIq3, nIq4, hasI_0, aU_s, aU_i, aU_r, aU_u]
  obtain ⟨T, hT, w1, w2, w3, w7, w8, e⟩ := e
  obtain ⟨y, hy, e2⟩ := l67_37 (d := d) (g := g) (I := aR I 39 T) (J := J) (sl := sl) (rd := rd) (rl := rl) (n := m) (by rw [aR_r _ _ (by decide)]; exact hs) hR.1 (nI k) w1 w2 w3 w7 w8 (I 40)
  refine ⟨T, y, ?_⟩
  rw [e]
  rw [show aR (aR I 39 T) 40 (I 40) = aR I 39 T from by rw [show I 40 = aR I 39 T 40 from (aR_r _ _ (by decide)).symm]; exact aR_i _ _] at e2
  rw [e2, ← hy, aR_s, aR_r _ _ (by decide), hR.2, cRule_congr hR hT]
end T00
section T01
/-! who is first; a race (the class) -/
variable {d : Nat} {g : Nat × Nat × Nat} {I : Nat → Nat → Int32} {J : Nat → Nat → Int64} {sl rd rl : Nat}
def fas1 (st : Nat → Int32) (wo : Int32) (i : Nat) (a : Int32 × Int32) : Int32 × Int32 := if hasT wo (nI i) = true then a else if a.1 = -1 then (nI i, st i) else if st i ≤ a.2 then a else (nI i, st i)
def fas (st : Nat → Int32) (wo : Int32) (n : Nat) : Int32 := (fo (fas1 st wo) n 0 (-1, 0)).1
def wn1 (st : Nat → Int32) (i b : Nat) : Nat := if st i ≤ st b then b else i
def wn (st : Nat → Int32) (n : Nat) : Nat := fo (wn1 st) (n - 1) 1 0
theorem hasT_0 (y : Int32) : hasT 0 y = false := by
  unfold hasT hasI
  have : ((0 : Int32) >>> (y &&& 31)) &&& 1 = 0 := by rw [Int32.zero_shiftRight]; rfl
  rw [this]; rfl
theorem nIm1 {i : Nat} (h : i < 8) : (nI i = -1) = False := eq_false (by rcases ix8c h with rfl | rfl | rfl | rfl | rfl | rfl | rfl | rfl <;> decide)
theorem wn_lt (st : Nat → Int32) {n : Nat} (h : 0 < n) : wn st n < n := by
  have e := fo_inv (P := fun j b => b < j) (f := wn1 st) (n - 1) 1 0 (by decide) (fun j b h1 h2 hb => by unfold wn1; split <;> omega)
  unfold wn
  omega
theorem fas_wn (st : Nat → Int32) {n : Nat} (h : 0 < n) (hn : n ≤ 8) : fas st 0 n = nI (wn st n) := by
  obtain ⟨m, rfl⟩ : ∃ m, n = m + 1 := ⟨n - 1, by omega⟩
  unfold fas wn
  rw [show fo (fas1 st 0) (m + 1) 0 (-1, 0) = fo (fas1 st 0) m 1 (nI 0, st 0) from by
    show fo (fas1 st 0) m 1 (fas1 st 0 0 (-1, 0)) = _
    unfold fas1; rw [hasT_0]; rfl]
  have e := fo_rel (P := fun j a b => b < j ∧ a = (nI b, st b)) (f := fas1 st 0) (h := wn1 st) m 1 (nI 0, st 0) 0 ⟨by decide, rfl⟩ (fun j a b h1 h2 hp => by
    obtain ⟨hb, rfl⟩ := hp
    unfold fas1 wn1
    simp only [hasT_0, nIm1 (show b < 8 by omega), if_false, Bool.false_eq_true]
    split
    · exact ⟨by omega, rfl⟩
    · exact ⟨by omega, rfl⟩)
  exact congrArg Prod.fst e.2
theorem fas_lt (st : Nat → Int32) (wo : Int32) {n : Nat} (hn : n ≤ 8) : fas st wo n = -1 ∨ ∃ i, i < n ∧ fas st wo n = nI i := by
  have e := fo_inv (P := fun j (a : Int32 × Int32) => a.1 = -1 ∨ ∃ i, i < j ∧ a.1 = nI i) (f := fas1 st wo) n 0 (-1, 0) (Or.inl rfl) (fun j a h1 h2 hp => by
    unfold fas1
    have hq : a.1 = -1 ∨ ∃ i, i < j + 1 ∧ a.1 = nI i := by
      rcases hp with hp | ⟨i, hi, hp⟩
      · exact Or.inl hp
      · exact Or.inr ⟨i, by omega, hp⟩
    (repeat' split) <;> first | exact hq | exact Or.inr ⟨j, by omega, rfl⟩)
  rw [Nat.zero_add] at e
  exact e
/-- all clubs are told -/
def clubs (f : Nat → Int32) (n : Nat) : Prop := ∀ i, i < n → ∃ k, k < 2 ∧ f i = nI k
/-- strengths -/
def sts (rv : (Nat → Int32) → Int32) (sk s : Nat → Int32) : Nat → Int32 := fun i => rv (th sk s i)
theorem aRR {α : Type} (f : Nat → Nat → α) {a b : Nat} (x y x' y' : Nat → α) (h : a ≠ b) : aR (aR (aR (aR f a x) b y) a x') b y' = aR (aR f a x') b y' := by
  rw [aR_c (aR f a x) y x' (Ne.symm h), aR_u, aR_u]
theorem f66 {m nd : Nat} {rv : (Nat → Int32) → Int32} (hR : cRule (I 34) m rv) (hs : I 33 1 = nI m) (h0 : I 14 0 = nI nd) (hn : nd ≤ 8) (hc : clubs (fun i => I 24 (8 + i)) nd) (wo : Int32) : ∃ x y, aF d 66 [.ref 33, .ref 14, .ref 23, .int wo] (g, I, J, aP1 sl rd rl) = some (some (some (.int (fas (sts rv (I 15) (cV (I 24))) wo nd))), (g, aR (aR I 35 x) 36 y, J, aP1 sl rd rl)) := by
  obtain ⟨w, _, e⟩ := lp (X := fun j (a : Int32 × Int32) (w : Value × (Nat → Int32) × (Nat → Int32)) => aE d 66 9 [.ref 33, .ref 14, .ref 23, .int wo, .int a.1, .int a.2, .int (nI j), w.1] [] (g, aR (aR I 35 w.2.1) 36 w.2.2, J, aP1 sl rd rl)) (f := fas1 (sts rv (I 15) (cV (I 24))) wo) (fun _ _ _ => True) nd 0 (-1, 0) (aNo, I 35, I 36) trivial (by
    intro j a w _ hj _
    obtain ⟨a1, a2⟩ := a
    obtain ⟨v, x, y⟩ := w
    obtain ⟨k, hk, hI⟩ := hc j (by omega)
    obtain ⟨x', y', e⟩ := f67 (d := d) (g := g) (I := aR (aR I 35 x) 36 y) (J := J) (sl := sl) (rd := rd) (rl := rl) (m := m) (i := j) (k := k) (nd := nd) (rv := rv) (by simp only [aR_r _ _ (show 34 ≠ 36 by decide), aR_r _ _ (show 34 ≠ 35 by decide)]; exact hR) (by simp only [aR_r _ _ (show 33 ≠ 36 by decide), aR_r _ _ (show 33 ≠ 35 by decide)]; exact hs) (by simp only [aR_r _ _ (show 14 ≠ 36 by decide), aR_r _ _ (show 14 ≠ 35 by decide)]; exact h0) hn (by omega) hk (by simp only [aR_r _ _ (show 24 ≠ 36 by decide), aR_r _ _ (show 24 ≠ 35 by decide)]; exact hI)
    rw [aRR _ _ _ _ _ (by decide)] at e
    simp only [aR_r _ _ (show 24 ≠ 36 by decide), aR_r _ _ (show 24 ≠ 35 by decide), aR_r _ _ (show 15 ≠ 36 by decide), aR_r _ _ (show 15 ≠ 35 by decide)] at e
    show ∃ s' : Value × (Nat → Int32) × (Nat → Int32), _ ∧ aE d 66 9 [.ref 33, .ref 14, .ref 23, .int wo, .int a1, .int a2, .int (nI j), v] [] (g, aR (aR I 35 x) 36 y, J, aP1 sl rd rl) = _
    rw [b66_9]
    simp (disch := omega) only [h0, aR_r, shr1', e, b66_39, aBi, aBv, aBl, nI_1, nIle_t, nIle_f, nIlt_t, nIlt_f, nIeq_t, nIeq_f, nIneg, nI_clamp, nat_le_f, nat_le_t, nat_lt_f, nat_lt_t, or_self, or_false, false_or, if_true, if_false, ↓reduceIte, Int32.or_zero, Int32.add_zero, nIm2, nIm3, nIm4, nIp2, nIp4, nIp6, nIp8, nIp14, nIp16, nIp22, nIp24, nIp30, nIq2, nIq3, nIq4, hasI_0, aU_s, aU_i, aU_r, aU_u]
    unfold fas1 sts
    by_cases h1 : hasT wo (nI j) = true
    · simp only [h1, if_true]
      exact ⟨(v, x, y), trivial, rfl⟩
    · simp only [h1, if_false]
      by_cases h2 : a1 = -1
      · simp only [h2, if_true]
        exact ⟨(_, x', y'), trivial, rfl⟩
      · simp only [h2, if_false]
        by_cases h3 : rv (th (I 15) (cV (I 24)) j) ≤ a2
        · simp only [h3, if_true]
          exact ⟨(_, x', y'), trivial, rfl⟩
        · simp only [h3, if_false]
          exact ⟨(_, x', y'), trivial, rfl⟩)
  refine ⟨w.2.1, w.2.2, ?_⟩
  show aE d 66 0 [.ref 33, .ref 14, .ref 23, .int wo, aNo, aNo, aNo, aNo] [] _ = _
  rw [b66_0]
  simp only [aR_i, show aR (aR I 35 (I 35)) 36 (I 36) = I from by rw [aR_i, aR_i]] at e
  refine e.trans ?_
  rw [b66_9]
  simp (disch := omega) only [h0, aR_r, Nat.zero_add, aBi, aBv, aBl, nI_1, nIle_t, nIle_f, nIlt_t, nIlt_f, nIeq_t, nIeq_f, nIneg, nI_clamp, nat_le_f, nat_le_t, nat_lt_f, nat_lt_t, or_self, or_false, false_or, if_true, if_false, ↓reduceIte, Int32.or_zero, Int32.add_zero, nIm2, nIm3, nIm4, nIp2, nIp4, nIp6, nIp8, nIp14, nIp16, nIp22, nIp24, nIp30, nIq2, nIq3, nIq4, hasI_0, aU_s, aU_i, aU_r, aU_u]
  rfl
theorem f66t {m nd : Nat} {rv : (Nat → Int32) → Int32} (hR : cRule (I 34) m rv) (hs : I 33 1 = nI m) (h0 : I 14 0 = nI nd) (hn : nd ≤ 8) (hc : clubs (fun i => I 28 (8 + i)) nd) (wo : Int32) : ∃ x y, aF d 66 [.ref 33, .ref 14, .ref 27, .int wo] (g, I, J, aP1 sl rd rl) = some (some (some (.int (fas (sts rv (I 15) (cV (I 28))) wo nd))), (g, aR (aR I 35 x) 36 y, J, aP1 sl rd rl)) := by
  obtain ⟨w, _, e⟩ := lp (X := fun j (a : Int32 × Int32) (w : Value × (Nat → Int32) × (Nat → Int32)) => aE d 66 9 [.ref 33, .ref 14, .ref 27, .int wo, .int a.1, .int a.2, .int (nI j), w.1] [] (g, aR (aR I 35 w.2.1) 36 w.2.2, J, aP1 sl rd rl)) (f := fas1 (sts rv (I 15) (cV (I 28))) wo) (fun _ _ _ => True) nd 0 (-1, 0) (aNo, I 35, I 36) trivial (by
    intro j a w _ hj _
    obtain ⟨a1, a2⟩ := a
    obtain ⟨v, x, y⟩ := w
    obtain ⟨k, hk, hI⟩ := hc j (by omega)
    obtain ⟨x', y', e⟩ := f67t (d := d) (g := g) (I := aR (aR I 35 x) 36 y) (J := J) (sl := sl) (rd := rd) (rl := rl) (m := m) (i := j) (k := k) (nd := nd) (rv := rv) (by simp only [aR_r _ _ (show 34 ≠ 36 by decide), aR_r _ _ (show 34 ≠ 35 by decide)]; exact hR) (by simp only [aR_r _ _ (show 33 ≠ 36 by decide), aR_r _ _ (show 33 ≠ 35 by decide)]; exact hs) (by simp only [aR_r _ _ (show 14 ≠ 36 by decide), aR_r _ _ (show 14 ≠ 35 by decide)]; exact h0) hn (by omega) hk (by simp only [aR_r _ _ (show 28 ≠ 36 by decide), aR_r _ _ (show 28 ≠ 35 by decide)]; exact hI)
    rw [aRR _ _ _ _ _ (by decide)] at e
    simp only [aR_r _ _ (show 28 ≠ 36 by decide), aR_r _ _ (show 28 ≠ 35 by decide), aR_r _ _ (show 15 ≠ 36 by decide), aR_r _ _ (show 15 ≠ 35 by decide)] at e
    show ∃ s' : Value × (Nat → Int32) × (Nat → Int32), _ ∧ aE d 66 9 [.ref 33, .ref 14, .ref 27, .int wo, .int a1, .int a2, .int (nI j), v] [] (g, aR (aR I 35 x) 36 y, J, aP1 sl rd rl) = _
    rw [b66_9_2]
    simp (disch := omega) only [h0, aR_r, shr1', e, b66_39_2, aBi, aBv, aBl, nI_1, nIle_t, nIle_f, nIlt_t, nIlt_f, nIeq_t, nIeq_f, nIneg, nI_clamp, nat_le_f, nat_le_t, nat_lt_f, nat_lt_t, or_self, or_false, false_or, if_true, if_false, ↓reduceIte, Int32.or_zero, Int32.add_zero, nIm2, nIm3, nIm4, nIp2, nIp4, nIp6, nIp8, nIp14, nIp16, nIp22, nIp24, nIp30, nIq2, nIq3, nIq4, hasI_0, aU_s, aU_i, aU_r, aU_u]
    unfold fas1 sts
    by_cases h1 : hasT wo (nI j) = true
    · simp only [h1, if_true]
      exact ⟨(v, x, y), trivial, rfl⟩
    · simp only [h1, if_false]
      by_cases h2 : a1 = -1
      · simp only [h2, if_true]
        exact ⟨(_, x', y'), trivial, rfl⟩
      · simp only [h2, if_false]
        by_cases h3 : rv (th (I 15) (cV (I 28)) j) ≤ a2
        · simp only [h3, if_true]
          exact ⟨(_, x', y'), trivial, rfl⟩
        · simp only [h3, if_false]
          exact ⟨(_, x', y'), trivial, rfl⟩)
  refine ⟨w.2.1, w.2.2, ?_⟩
  show aE d 66 0 [.ref 33, .ref 14, .ref 27, .int wo, aNo, aNo, aNo, aNo] [] _ = _
  rw [b66_0_2]
  simp only [aR_i, show aR (aR I 35 (I 35)) 36 (I 36) = I from by rw [aR_i, aR_i]] at e
  refine e.trans ?_
  rw [b66_9_2]
  simp (disch := omega) only [h0, aR_r, Nat.zero_add, aBi, aBv, aBl, nI_1, nIle_t, nIle_f, nIlt_t, nIlt_f, nIeq_t, nIeq_f, nIneg, nI_clamp, nat_le_f, nat_le_t, nat_lt_f, nat_lt_t, or_self, or_false, false_or, if_true, if_false, ↓reduceIte, Int32.or_zero, Int32.add_zero, nIm2, nIm3, nIm4, nIp2, nIp4, nIp6, nIp8, nIp14, nIp16, nIp22, nIp24, nIp30, nIq2, nIq3, nIq4, hasI_0, aU_s, aU_i, aU_r, aU_u]
  rfl
theorem f66o {m nd : Nat} {rv : (Nat → Int32) → Int32} (hR : cRule (I 38) m rv) (hs : I 37 1 = nI m) (h0 : I 14 0 = nI nd) (hn : nd ≤ 8) (hc : clubs (fun i => I 28 (8 + i)) nd) (wo : Int32) : ∃ x y, aF d 66 [.ref 37, .ref 14, .ref 27, .int wo] (g, I, J, aP1 sl rd rl) = some (some (some (.int (fas (sts rv (I 15) (cV (I 28))) wo nd))), (g, aR (aR I 39 x) 40 y, J, aP1 sl rd rl)) := by
  obtain ⟨w, _, e⟩ := lp (X := fun j (a : Int32 × Int32) (w : Value × (Nat → Int32) × (Nat → Int32)) => aE d 66 9 [.ref 37, .ref 14, .ref 27, .int wo, .int a.1, .int a.2, .int (nI j), w.1] [] (g, aR (aR I 39 w.2.1) 40 w.2.2, J, aP1 sl rd rl)) (f := fas1 (sts rv (I 15) (cV (I 28))) wo) (fun _ _ _ => True) nd 0 (-1, 0) (aNo, I 39, I 40) trivial (by
    intro j a w _ hj _
    obtain ⟨a1, a2⟩ := a
    obtain ⟨v, x, y⟩ := w
    obtain ⟨k, hk, hI⟩ := hc j (by omega)
    obtain ⟨x', y', e⟩ := f67o (d := d) (g := g) (I := aR (aR I 39 x) 40 y) (J := J) (sl := sl) (rd := rd) (rl := rl) (m := m) (i := j) (k := k) (nd := nd) (rv := rv) (by simp only [aR_r _ _ (show 38 ≠ 40 by decide), aR_r _ _ (show 38 ≠ 39 by decide)]; exact hR) (by simp only [aR_r _ _ (show 37 ≠ 40 by decide), aR_r _ _ (show 37 ≠ 39 by decide)]; exact hs) (by simp only [aR_r _ _ (show 14 ≠ 40 by decide), aR_r _ _ (show 14 ≠ 39 by decide)]; exact h0) hn (by omega) hk (by simp only [aR_r _ _ (show 28 ≠ 40 by decide), aR_r _ _ (show 28 ≠ 39 by decide)]; exact hI)
    rw [aRR _ _ _ _ _ (by decide)] at e
    simp only [aR_r _ _ (show 28 ≠ 40 by decide), aR_r _ _ (show 28 ≠ 39 by decide), aR_r _ _ (show 15 ≠ 40 by decide), aR_r _ _ (show 15 ≠ 39 by decide)] at e
    show ∃ s' : Value × (Nat → Int32) × (Nat → Int32), _ ∧ aE d 66 9 [.ref 37, .ref 14, .ref 27, .int wo, .int a1, .int a2, .int (nI j), v] [] (g, aR (aR I 39 x) 40 y, J, aP1 sl rd rl) = _
    rw [b66_9_3]
    simp (disch := omega) only [h0, aR_r, shr1', e, b66_39_3, aBi, aBv, aBl, nI_1, nIle_t, nIle_f, nIlt_t, nIlt_f, nIeq_t, nIeq_f, nIneg, nI_clamp, nat_le_f, nat_le_t, nat_lt_f, nat_lt_t, or_self, or_false, false_or, if_true, if_false, ↓reduceIte, Int32.or_zero, Int32.add_zero, nIm2, nIm3, nIm4, nIp2, nIp4, nIp6, nIp8, nIp14, nIp16, nIp22, nIp24, nIp30, nIq2, nIq3, nIq4, hasI_0, aU_s, aU_i, aU_r, aU_u]
    unfold fas1 sts
    by_cases h1 : hasT wo (nI j) = true
    · simp only [h1, if_true]
      exact ⟨(v, x, y), trivial, rfl⟩
    · simp only [h1, if_false]
      by_cases h2 : a1 = -1
      · simp only [h2, if_true]
        exact ⟨(_, x', y'), trivial, rfl⟩
      · simp only [h2, if_false]
        by_cases h3 : rv (th (I 15) (cV (I 28)) j) ≤ a2
        · simp only [h3, if_true]
          exact ⟨(_, x', y'), trivial, rfl⟩
        · simp only [h3, if_false]
          exact ⟨(_, x', y'), trivial, rfl⟩)
  refine ⟨w.2.1, w.2.2, ?_⟩
  show aE d 66 0 [.ref 37, .ref 14, .ref 27, .int wo, aNo, aNo, aNo, aNo] [] _ = _
  rw [b66_0_3]
  simp only [aR_i, show aR (aR I 39 (I 39)) 40 (I 40) = I from by rw [aR_i, aR_i]] at e
  refine e.trans ?_
  rw [b66_9_3]
  simp (disch := omega) only [h0, aR_r, Nat.zero_add, aBi, aBv, aBl, nI_1, nIle_t, nIle_f, nIlt_t, nIlt_f, nIeq_t, nIeq_f, nIneg, nI_clamp, nat_le_f, nat_le_t, nat_lt_f, nat_lt_t, or_self, or_false, false_or, if_true, if_false, ↓reduceIte, Int32.or_zero, Int32.add_zero, nIm2, nIm3, nIm4, nIp2, nIp4, nIp6, nIp8, nIp14, nIp16, nIp22, nIp24, nIp30, nIq2, nIq3, nIq4, hasI_0, aU_s, aU_i, aU_r, aU_u]
  rfl
def cRace (f : Nat → Int32) (i c : Nat) : Nat → Int32 :=
  let f2 := upd (upd f (16 + i) (f (16 + i) + 1)) (4 + c) (f (4 + c) + 1)
  let f5 := adA (adA (adM f2 c 10) (1 - c) 3) c (-1)
  upd f5 6 (f 6 + 1)
def rRace (f : Nat → Int32) (i c : Nat) : Nat → Int32 :=
  let f2 := upd (upd f (22 + i) (f (22 + i) + 1)) (4 + c) (f (4 + c) + 1)
  let f5 := adA (adA (adM f2 c 10) (1 - c) 3) c (-1)
  upd f5 38 (f 38 + 1)
theorem cRace_v (f : Nat → Int32) {i c : Nat} (hi : i < 8) (hc : c < 2) : cV (cRace f i c) = rRace (cV f) i c := by
  unfold cRace rRace
  simp only
  rw [cV_updr, cV_adA _ _ hc, cV_adA _ _ (by omega), cV_adM _ _ hc, cV_updc _ _ (by omega), cV_updw _ _ hi, cV_w _ hi, cV_c _ (by omega) (by omega), cV_r]
theorem rRace_r (f : Nat → Int32) {i c : Nat} (hi : i < 8) (hc : c < 2) : rV (rRace f i c) = rRace (rV f) i c := by
  unfold rRace
  simp only
  rw [rV_upd _ _ (by omega), rV_adA _ _ hc, rV_adA _ _ (by omega), rV_adM _ _ hc, rV_upd _ _ (by omega), rV_upd _ _ (by omega), rV_lt f (by omega), rV_lt f (by omega), rV_lt f (by omega)]
theorem f65 {m nd k : Nat} {rv : (Nat → Int32) → Int32} (hR : cRule (I 34) m rv) (hs : I 33 1 = nI m) (h0 : I 14 0 = nI nd) (hn : nd ≤ 8) (hd : 0 < nd) (hc : clubs (fun i => I 24 (8 + i)) nd) (hk : k < 2) (hI : I 24 (8 + wn (sts rv (I 15) (cV (I 24))) nd) = nI k) : ∃ x y, aF d 65 [.ref 23, .ref 14, .ref 33] (g, I, J, aP1 sl rd rl) = some (some (some (.int (nI (wn (sts rv (I 15) (cV (I 24))) nd)))), (g, aR (aR (aR I 24 (cRace (I 24) (wn (sts rv (I 15) (cV (I 24))) nd) k)) 35 x) 36 y, J, aP1 sl rd rl)) := by
  have hw := wn_lt (sts rv (I 15) (cV (I 24))) hd
  obtain ⟨x, y, e⟩ := f66 (d := d) (g := g) (I := I) (J := J) (sl := sl) (rd := rd) (rl := rl) hR hs h0 hn hc 0
  rw [fas_wn _ hd hn] at e
  generalize wn (sts rv (I 15) (cV (I 24))) nd = i at *
  refine ⟨x, y, ?_⟩
  show aE d 65 0 [.ref 23, .ref 14, .ref 33, aNo, aNo] [] _ = _
  have e1 (I : Nat → Nat → Int32) (v : Int32) : aF d 77 [.ref 23, .int (nI (1 - k)), .int v] (g, I, J, aP1 sl rd rl) = some (some none, (g, aR I 24 (adA (I 24) (1 - k) v), J, aP1 sl rd rl)) := f77_24 (by omega) v
  simp (disch := omega) only [b65_0, e, b65_7, f68_23, aR_r, hI, b65_13, f75, isC_n, b65_20, n10, nIp4, nIp16, f76_24, aU_R, aR_s, aR_u, b65_59, nI_1m, e1, b65_68, f77_24, b65_75, aBi, aBv, aBl, nI_1, nIle_t, nIle_f, nIlt_t, nIlt_f, nIeq_t, nIeq_f, nIneg, nI_clamp, nat_le_f, nat_le_t, nat_lt_f, nat_lt_t, or_self, or_false, false_or, if_true, if_false, ↓reduceIte, Int32.or_zero, Int32.add_zero, nIm2, nIm3, nIm4, nIp2, nIp4, nIp6, nIp8, nIp14, nIp16, nIp22, nIp24, nIp30, nIq2, nIq3, nIq4, hasI_0, aU_s, aU_i, aU_r, aU_u]
  rw [upd_n (I 24) _ (show 4 + k ≠ 16 + i by omega)]
  unfold cRace
  simp only
  have e6 : ∀ q, adA (adA (adM (upd (upd (I 24) (16 + i) (I 24 (16 + i) + 1)) (4 + k) q) k 10) (1 - k) 3) k (-1) 6 = I 24 6 := by
    intro q
    unfold adA adM
    rw [upd_n _ _ (by omega), upd_n _ _ (by omega), upd_n _ _ (by omega), upd_n _ _ (by omega), upd_n _ _ (by omega)]
  rw [e6]
  rw [aR_c (aR I 35 x) y _ (by decide), aR_c I x _ (by decide)]
theorem f65t {m nd k : Nat} {rv : (Nat → Int32) → Int32} (hR : cRule (I 34) m rv) (hs : I 33 1 = nI m) (h0 : I 14 0 = nI nd) (hn : nd ≤ 8) (hd : 0 < nd) (hc : clubs (fun i => I 28 (8 + i)) nd) (hk : k < 2) (hI : I 28 (8 + wn (sts rv (I 15) (cV (I 28))) nd) = nI k) : ∃ x y, aF d 65 [.ref 27, .ref 14, .ref 33] (g, I, J, aP1 sl rd rl) = some (some (some (.int (nI (wn (sts rv (I 15) (cV (I 28))) nd)))), (g, aR (aR (aR I 28 (cRace (I 28) (wn (sts rv (I 15) (cV (I 28))) nd) k)) 35 x) 36 y, J, aP1 sl rd rl)) := by
  have hw := wn_lt (sts rv (I 15) (cV (I 28))) hd
  obtain ⟨x, y, e⟩ := f66t (d := d) (g := g) (I := I) (J := J) (sl := sl) (rd := rd) (rl := rl) hR hs h0 hn hc 0
  rw [fas_wn _ hd hn] at e
  generalize wn (sts rv (I 15) (cV (I 28))) nd = i at *
  refine ⟨x, y, ?_⟩
  show aE d 65 0 [.ref 27, .ref 14, .ref 33, aNo, aNo] [] _ = _
  have e1 (I : Nat → Nat → Int32) (v : Int32) : aF d 77 [.ref 27, .int (nI (1 - k)), .int v] (g, I, J, aP1 sl rd rl) = some (some none, (g, aR I 28 (adA (I 28) (1 - k) v), J, aP1 sl rd rl)) := f77_28 (by omega) v
  simp (disch := omega) only [b65_0_2, e, b65_7_2, f68_27, aR_r, hI, b65_13_2, f75, isC_n, b65_20_2, n10, nIp4, nIp16, f76_28, aU_R, aR_s, aR_u, b65_59_2, nI_1m, e1, b65_68_2, f77_28, b65_75_2, aBi, aBv, aBl, nI_1, nIle_t, nIle_f, nIlt_t, nIlt_f, nIeq_t, nIeq_f, nIneg, nI_clamp, nat_le_f, nat_le_t, nat_lt_f, nat_lt_t, or_self, or_false, false_or, if_true, if_false, ↓reduceIte, Int32.or_zero, Int32.add_zero, nIm2, nIm3, nIm4, nIp2, nIp4, nIp6, nIp8, nIp14, nIp16, nIp22, nIp24, nIp30, nIq2, nIq3, nIq4, hasI_0, aU_s, aU_i, aU_r, aU_u]
  rw [upd_n (I 28) _ (show 4 + k ≠ 16 + i by omega)]
  unfold cRace
  simp only
  have e6 : ∀ q, adA (adA (adM (upd (upd (I 28) (16 + i) (I 28 (16 + i) + 1)) (4 + k) q) k 10) (1 - k) 3) k (-1) 6 = I 28 6 := by
    intro q
    unfold adA adM
    rw [upd_n _ _ (by omega), upd_n _ _ (by omega), upd_n _ _ (by omega), upd_n _ _ (by omega), upd_n _ _ (by omega)]
  rw [e6]
  rw [aR_c (aR I 35 x) y _ (by decide), aR_c I x _ (by decide)]
theorem f65o {m nd k : Nat} {rv : (Nat → Int32) → Int32} (hR : cRule (I 38) m rv) (hs : I 37 1 = nI m) (h0 : I 14 0 = nI nd) (hn : nd ≤ 8) (hd : 0 < nd) (hc : clubs (fun i => I 28 (8 + i)) nd) (hk : k < 2) (hI : I 28 (8 + wn (sts rv (I 15) (cV (I 28))) nd) = nI k) : ∃ x y, aF d 65 [.ref 27, .ref 14, .ref 37] (g, I, J, aP1 sl rd rl) = some (some (some (.int (nI (wn (sts rv (I 15) (cV (I 28))) nd)))), (g, aR (aR (aR I 28 (cRace (I 28) (wn (sts rv (I 15) (cV (I 28))) nd) k)) 39 x) 40 y, J, aP1 sl rd rl)) := by
  have hw := wn_lt (sts rv (I 15) (cV (I 28))) hd
  obtain ⟨x, y, e⟩ := f66o (d := d) (g := g) (I := I) (J := J) (sl := sl) (rd := rd) (rl := rl) hR hs h0 hn hc 0
  rw [fas_wn _ hd hn] at e
  generalize wn (sts rv (I 15) (cV (I 28))) nd = i at *
  refine ⟨x, y, ?_⟩
  show aE d 65 0 [.ref 27, .ref 14, .ref 37, aNo, aNo] [] _ = _
  have e1 (I : Nat → Nat → Int32) (v : Int32) : aF d 77 [.ref 27, .int (nI (1 - k)), .int v] (g, I, J, aP1 sl rd rl) = some (some none, (g, aR I 28 (adA (I 28) (1 - k) v), J, aP1 sl rd rl)) := f77_28 (by omega) v
  simp (disch := omega) only [b65_0_3, e, b65_7_3, f68_27, aR_r, hI, b65_13_3, f75, isC_n, b65_20_3, n10, nIp4, nIp16, f76_28, aU_R, aR_s, aR_u, b65_59_3, nI_1m, e1, b65_68_3, f77_28, b65_75_3, aBi, aBv, aBl, nI_1, nIle_t, nIle_f, nIlt_t, nIlt_f, nIeq_t, nIeq_f, nIneg, nI_clamp, nat_le_f, nat_le_t, nat_lt_f, nat_lt_t, or_self, or_false, false_or, if_true, if_false, ↓reduceIte, Int32.or_zero, Int32.add_zero, nIm2, nIm3, nIm4, nIp2, nIp4, nIp6, nIp8, nIp14, nIp16, nIp22, nIp24, nIp30, nIq2, nIq3, nIq4, hasI_0, aU_s, aU_i, aU_r, aU_u]
  rw [upd_n (I 28) _ (show 4 + k ≠ 16 + i by omega)]
  unfold cRace
  simp only
  have e6 : ∀ q, adA (adA (adM (upd (upd (I 28) (16 + i) (I 28 (16 + i) + 1)) (4 + k) q) k 10) (1 - k) 3) k (-1) 6 = I 28 6 := by
    intro q
    unfold adA adM
    rw [upd_n _ _ (by omega), upd_n _ _ (by omega), upd_n _ _ (by omega), upd_n _ _ (by omega), upd_n _ _ (by omega)]
  rw [e6]
  rw [aR_c (aR I 39 x) y _ (by decide), aR_c I x _ (by decide)]
end T01
section T02
/-! signs read one by one: both sides -/
variable {d : Nat} {g : Nat × Nat × Nat} {I : Nat → Nat → Int32} {J : Nat → Nat → Int64} {sl rd rl : Nat}
def pk (sg : Nat → Int32) (p : Nat × Int32) : Int32 := if p.2 = -1 then sg p.1 else -1
def flt (p : Nat × Int32) (x : Int32) : Nat × Int32 := if p.2 = -1 then (p.1, x) else p
def adv (p : Nat × Int32) : Nat × Int32 := (p.1 + 1, p.2)
def tk (sg : Nat → Int32) (lo hi : Int32) (p : Nat × Int32) : Int32 × (Nat × Int32) := if pk sg p < lo then (lo, flt p (nI p.1)) else if pk sg p ≤ hi then (pk sg p, adv p) else (lo, flt p (nI p.1))
def nmL (sg : Nat → Int32) : Nat → Int32 → Nat × Int32 → Int32 × (Nat × Int32)
  | 0, v, p => (v, p)
  | m + 1, v, p => if pk sg p < 48 then (v, p) else if pk sg p ≤ 57 then nmL sg m (v * 10 + pk sg p - 48) (adv p) else (v, p)
def nm (sg : Nat → Int32) (m : Nat) (p : Nat × Int32) : Int32 × (Nat × Int32) := nmL sg m ((tk sg 48 57 p).1 - 48) (tk sg 48 57 p).2
def ps (sg : Nat → Int32) (c : Int32) (p : Nat × Int32) : Nat × Int32 := if pk sg p = c then adv p else p
def nd (sg : Nat → Int32) (c : Int32) (p : Nat × Int32) : Nat × Int32 := if pk sg p = c then adv p else flt p (nI p.1)
/-- signs of the class's text, of the reference's -/
def sgc (row : Nat → Int32) (len top : Nat) : Nat → Int32 := fun a => if a < len ∧ a < top then row a else -1
def sgn (row : Nat → Int32) (len top : Nat) : Nat → Int32 := fun a => if a < len ∧ a < top then row a &&& 255 else -1
/-- nothing behind 80 -/
def sgE (sg : Nat → Int32) (n : Nat) : Prop := ∀ a, n ≤ a → sg a = -1
theorem flt_1 (p : Nat × Int32) (x : Int32) : (flt p x).1 = p.1 := by unfold flt; split <;> rfl
theorem pk_at {sg : Nat → Int32} {n : Nat} (h : sgE sg n) {p : Nat × Int32} (hp : ¬ pk sg p = -1) : p.1 < n := by
  unfold pk at hp
  split at hp
  · apply Classical.byContradiction; intro q; exact hp (h _ (by omega))
  · exact absurd rfl hp
theorem pk_ge {sg : Nat → Int32} {n : Nat} (h : sgE sg n) {p : Nat × Int32} {lo : Int32} (hlo : 0 ≤ lo) (hp : ¬ pk sg p < lo) : p.1 < n := by
  refine pk_at h (fun q => hp ?_)
  rw [q]
  rw [Int32.lt_iff_toInt_lt]
  rw [Int32.le_iff_toInt_le] at hlo
  have : (0 : Int32).toInt = 0 := rfl
  have : (-1 : Int32).toInt = -1 := rfl
  omega
theorem tk_at {sg : Nat → Int32} {n : Nat} (h : sgE sg n) {lo hi : Int32} (hlo : 0 ≤ lo) {p : Nat × Int32} (hp : p.1 ≤ n) : p.1 ≤ (tk sg lo hi p).2.1 ∧ (tk sg lo hi p).2.1 ≤ n := by
  unfold tk
  split
  · rw [flt_1]; exact ⟨Nat.le_refl _, hp⟩
  · rename_i q
    split
    · have := pk_ge h hlo q
      exact ⟨Nat.le_succ _, this⟩
    · rw [flt_1]; exact ⟨Nat.le_refl _, hp⟩
theorem nmL_at {sg : Nat → Int32} {n : Nat} (h : sgE sg n) : ∀ (m : Nat) (v : Int32) (p : Nat × Int32), p.1 ≤ n → p.1 ≤ (nmL sg m v p).2.1 ∧ (nmL sg m v p).2.1 ≤ n := by
  intro m
  induction m with
  | zero => intro v p hp; exact ⟨Nat.le_refl _, hp⟩
  | succ m ih =>
    intro v p hp
    unfold nmL
    split
    · exact ⟨Nat.le_refl _, hp⟩
    · rename_i q
      split
      · have h1 := pk_ge h (by decide) q
        have h2 := ih (v * 10 + pk sg p - 48) (adv p) h1
        exact ⟨Nat.le_trans (Nat.le_succ _) h2.1, h2.2⟩
      · exact ⟨Nat.le_refl _, hp⟩
theorem nm_at {sg : Nat → Int32} {n : Nat} (h : sgE sg n) (m : Nat) {p : Nat × Int32} (hp : p.1 ≤ n) : p.1 ≤ (nm sg m p).2.1 ∧ (nm sg m p).2.1 ≤ n := by
  have h1 := tk_at h (lo := 48) (hi := 57) (by decide) hp
  have h2 := nmL_at h m ((tk sg 48 57 p).1 - 48) _ h1.2
  exact ⟨Nat.le_trans h1.1 h2.1, h2.2⟩
theorem ps_at {sg : Nat → Int32} {n : Nat} (h : sgE sg n) {c : Int32} (hc : 0 ≤ c) {p : Nat × Int32} (hp : p.1 ≤ n) : p.1 ≤ (ps sg c p).1 ∧ (ps sg c p).1 ≤ n := by
  unfold ps
  split
  · rename_i q
    have := pk_at h (p := p) (by rw [q]; intro e; rw [e] at hc; exact absurd hc (by decide))
    exact ⟨Nat.le_succ _, this⟩
  · exact ⟨Nat.le_refl _, hp⟩
theorem nd_at {sg : Nat → Int32} {n : Nat} (h : sgE sg n) {c : Int32} (hc : 0 ≤ c) {p : Nat × Int32} (hp : p.1 ≤ n) : p.1 ≤ (nd sg c p).1 ∧ (nd sg c p).1 ≤ n := by
  unfold nd
  split
  · rename_i q
    have := pk_at h (p := p) (by rw [q]; intro e; rw [e] at hc; exact absurd hc (by decide))
    exact ⟨Nat.le_succ _, this⟩
  · rw [flt_1]; exact ⟨Nat.le_refl _, hp⟩
theorem sgc_E (row : Nat → Int32) (len top : Nat) : sgE (sgc row len top) top := fun a h => if_neg (by omega)
theorem sgn_E (row : Nat → Int32) (len top : Nat) : sgE (sgn row len top) top := fun a h => if_neg (by omega)
/-! the class -/
def pC (I : Nat → Nat → Int32) (p : Nat × Int32) : Nat → Nat → Int32 := aR I 9 (upd (upd (I 9) 2 (nI p.1)) 3 p.2)
theorem pC_2 (I : Nat → Nat → Int32) (p : Nat × Int32) : pC I p 9 2 = nI p.1 := rfl
theorem pC_3 (I : Nat → Nat → Int32) (p : Nat × Int32) : pC I p 9 3 = p.2 := rfl
theorem pC_1 (I : Nat → Nat → Int32) (p : Nat × Int32) : pC I p 9 1 = I 9 1 := rfl
theorem pC_r (I : Nat → Nat → Int32) (p : Nat × Int32) {a : Nat} (h : a ≠ 9) : pC I p a = I a := aR_r _ _ h
theorem pC_u2 (I : Nat → Nat → Int32) (p : Nat × Int32) (n : Nat) : aU (pC I p) 9 2 (nI n) = pC I (n, p.2) := by
  unfold pC
  rw [aU_R, aR_s, aR_u, upd_c _ _ _ (by decide), upd_u]
theorem pC_u3 (I : Nat → Nat → Int32) (p : Nat × Int32) (x : Int32) : aU (pC I p) 9 3 x = pC I (p.1, x) := by
  unfold pC
  rw [aU_R, aR_s, aR_u, upd_u]
theorem f30 {p : Nat × Int32} {len top : Nat} (hm : I 9 1 = nI top) (hl : I 7 1 = nI len) (h1 : len ≤ 80) (h2 : top ≤ 80) (hp : p.1 ≤ 80) : aF d 30 [.ref 9] (g, pC I p, J, aP1 sl rd rl) = some (some (some (.int (pk (sgc (I 8) len top) p))), (g, pC I p, J, aP1 sl rd rl)) := by
  show aE d 30 0 [.ref 9, aNo] [] _ = _
  rw [b30_0, pC_2, pC_3, pC_1, pC_r _ _ (by decide), pC_r _ _ (by decide), hm, hl]
  unfold pk sgc
  by_cases e1 : p.2 = -1
  · rw [if_pos e1, if_pos e1]
    by_cases e2 : top ≤ p.1
    · simp (disch := omega) only [aBi, aBv, aBl, nI_1, nIle_t, nIle_f, nIlt_t, nIlt_f, nIeq_t, nIeq_f, nIneg, nI_clamp, nat_le_f, nat_le_t, nat_lt_f, nat_lt_t, or_self, or_false, false_or, if_true, if_false, ↓reduceIte, Int32.or_zero, Int32.add_zero, nIm2, nIm3, nIm4, nIp2, nIp4, nIp6, nIp8, nIp14, nIp16, nIp22, nIp24, nIp30, nIq2, nIq3, nIq4, hasI_0, aU_s, aU_i, aU_r, aU_u]
      rw [if_neg (by omega)]
    · by_cases e3 : p.1 < len
      · simp (disch := omega) only [kgf80, kgt80, klt80, klf80, kmt80, kmf80, kat80, kaf80, ket80, kef80, aBi, aBv, aBl, nI_1, nIle_t, nIle_f, nIlt_t, nIlt_f, nIeq_t, nIeq_f, nIneg, nI_clamp, nat_le_f, nat_le_t, nat_lt_f, nat_lt_t, or_self, or_false, false_or, if_true, if_false, ↓reduceIte, Int32.or_zero, Int32.add_zero, nIm2, nIm3, nIm4, nIp2, nIp4, nIp6, nIp8, nIp14, nIp16, nIp22, nIp24, nIp30, nIq2, nIq3, nIq4, hasI_0, aU_s, aU_i, aU_r, aU_u]
        rw [if_pos (by omega)]
      · simp (disch := omega) only [aBi, aBv, aBl, nI_1, nIle_t, nIle_f, nIlt_t, nIlt_f, nIeq_t, nIeq_f, nIneg, nI_clamp, nat_le_f, nat_le_t, nat_lt_f, nat_lt_t, or_self, or_false, false_or, if_true, if_false, ↓reduceIte, Int32.or_zero, Int32.add_zero, nIm2, nIm3, nIm4, nIp2, nIp4, nIp6, nIp8, nIp14, nIp16, nIp22, nIp24, nIp30, nIq2, nIq3, nIq4, hasI_0, aU_s, aU_i, aU_r, aU_u]
        rw [if_neg (by omega)]
  · rw [if_neg e1, if_neg e1]
theorem f33 (p : Nat × Int32) : aF d 33 [.ref 9] (g, pC I p, J, aP1 sl rd rl) = some (some none, (g, pC I (adv p), J, aP1 sl rd rl)) := by
  show aE d 33 0 [.ref 9] [] _ = _
  rw [b33_0, pC_2, nI_1, pC_u2]
  rfl
theorem f37 (p : Nat × Int32) (x : Int32) : aF d 37 [.ref 9, .int x] (g, pC I p, J, aP1 sl rd rl) = some (some none, (g, pC I (flt p x), J, aP1 sl rd rl)) := by
  show aE d 37 0 [.ref 9, .int x] [] _ = _
  rw [b37_0, pC_3, pC_u3]
  unfold flt
  split <;> rfl
theorem f29 (m : Int32) : aF d 29 [.ref 9, .int m] (g, I, J, aP1 sl rd rl) = some (some none, (g, pC (aU I 9 1 m) (0, -1), J, aP1 sl rd rl)) := by
  show aE d 29 0 [.ref 9, .int m] [] _ = _
  rw [b29_0]
  unfold pC
  rw [aU_R _ 9 3, aU_R _ 9 2, aR_s, aR_u]
  rfl
theorem f36 {p : Nat × Int32} {len top : Nat} (hm : I 9 1 = nI top) (hl : I 7 1 = nI len) (h1 : len ≤ 80) (h2 : top ≤ 80) (hp : p.1 ≤ 80) (lo hi : Int32) : aF d 36 [.ref 9, .int lo, .int hi] (g, pC I p, J, aP1 sl rd rl) = some (some (some (.int (tk (sgc (I 8) len top) lo hi p).1)), (g, pC I (tk (sgc (I 8) len top) lo hi p).2, J, aP1 sl rd rl)) := by
  show aE d 36 0 [.ref 9, .int lo, .int hi, aNo] [] _ = _
  simp only [b36_0, f30 hm hl h1 h2 hp, aBi, b36_4, pC_2, f37, f33, aBv, b36_23, b36_29]
  unfold tk
  (repeat' split) <;> rfl
theorem f35 {p : Nat × Int32} {len top m : Nat} (hm : I 9 1 = nI top) (hl : I 7 1 = nI len) (h1 : len ≤ 80) (h2 : top ≤ 80) (hp : p.1 ≤ top) (hm2 : m < 8) : aF d 35 [.ref 9, .int (nI (m + 1))] (g, pC I p, J, aP1 sl rd rl) = some (some (some (.int (nm (sgc (I 8) len top) m p).1)), (g, pC I (nm (sgc (I 8) len top) m p).2, J, aP1 sl rd rl)) := by
  show aE d 35 0 [.ref 9, .int (nI (m + 1)), aNo, aNo, aNo] [] _ = _
  simp only [b35_0, f36 hm hl h1 h2 (show p.1 ≤ 80 by omega), aBi, b35_8]
  have l : ∀ (k i : Nat) (v : Int32) (p : Nat × Int32) (w : Value), p.1 ≤ top → i + k = m + 1 → aE d 35 14 [.ref 9, .int (nI (m + 1)), .int v, .int (nI i), w] [] (g, pC I p, J, aP1 sl rd rl) = some (some (some (.int (nmL (sgc (I 8) len top) k v p).1)), (g, pC I (nmL (sgc (I 8) len top) k v p).2, J, aP1 sl rd rl)) := by
    intro k
    induction k with
    | zero =>
      intro i v p w hp hi
      rw [b35_14]
      simp (disch := omega) only [aBi, aBv, aBl, nI_1, nIle_t, nIle_f, nIlt_t, nIlt_f, nIeq_t, nIeq_f, nIneg, nI_clamp, nat_le_f, nat_le_t, nat_lt_f, nat_lt_t, or_self, or_false, false_or, if_true, if_false, ↓reduceIte, Int32.or_zero, Int32.add_zero, nIm2, nIm3, nIm4, nIp2, nIp4, nIp6, nIp8, nIp14, nIp16, nIp22, nIp24, nIp30, nIq2, nIq3, nIq4, hasI_0, aU_s, aU_i, aU_r, aU_u]
      rfl
    | succ k ih =>
      intro i v p w hp hi
      rw [b35_14]
      simp (disch := omega) only [f30 hm hl h1 h2 (show p.1 ≤ 80 by omega), b35_23, f33, b35_46, aBi, aBv, aBl, nI_1, nIle_t, nIle_f, nIlt_t, nIlt_f, nIeq_t, nIeq_f, nIneg, nI_clamp, nat_le_f, nat_le_t, nat_lt_f, nat_lt_t, or_self, or_false, false_or, if_true, if_false, ↓reduceIte, Int32.or_zero, Int32.add_zero, nIm2, nIm3, nIm4, nIp2, nIp4, nIp6, nIp8, nIp14, nIp16, nIp22, nIp24, nIp30, nIq2, nIq3, nIq4, hasI_0, aU_s, aU_i, aU_r, aU_u]
      unfold nmL
      by_cases e1 : pk (sgc (I 8) len top) p < 48
      · rw [if_pos e1, if_pos e1]
      · rw [if_neg e1, if_neg e1]
        by_cases e2 : pk (sgc (I 8) len top) p ≤ 57
        · rw [if_pos e2, if_pos e2]
          exact ih (i + 1) _ _ _ (pk_ge (sgc_E _ _ _) (by decide) e1) (by omega)
        · rw [if_neg e2, if_neg e2]
  exact l m 1 _ _ _ (tk_at (sgc_E _ _ _) (by decide) hp).2 (by omega)
/-! the reference -/
def pM (I : Nat → Nat → Int32) (p : Nat × Int32) : Nat → Nat → Int32 := aR I 46 (upd (upd (I 46) 17 (nI p.1)) 18 p.2)
theorem pM_17 (I : Nat → Nat → Int32) (p : Nat × Int32) : pM I p 46 17 = nI p.1 := rfl
theorem pM_18 (I : Nat → Nat → Int32) (p : Nat × Int32) : pM I p 46 18 = p.2 := rfl
theorem pM_o (I : Nat → Nat → Int32) (p : Nat × Int32) {k : Nat} (h : k ≠ 17) (h2 : k ≠ 18) : pM I p 46 k = I 46 k := by
  unfold pM; rw [aR_s, upd_n _ _ h2, upd_n _ _ h]
theorem pM_r (I : Nat → Nat → Int32) (p : Nat × Int32) {a : Nat} (h : a ≠ 46) : pM I p a = I a := aR_r _ _ h
theorem pM_u17 (I : Nat → Nat → Int32) (p : Nat × Int32) (n : Nat) : aU (pM I p) 46 17 (nI n) = pM I (n, p.2) := by
  unfold pM
  rw [aU_R, aR_s, aR_u, upd_c _ _ _ (by decide), upd_u]
theorem pM_u18 (I : Nat → Nat → Int32) (p : Nat × Int32) (x : Int32) : aU (pM I p) 46 18 x = pM I (p.1, x) := by
  unfold pM
  rw [aU_R, aR_s, aR_u, upd_u]
theorem f185 (p : Nat × Int32) : aF d 185 [.ref 46] (g, pM I p, J, aP1 sl rd rl) = some (some (some (.int (tI (decide (p.2 = -1))))), (g, pM I p, J, aP1 sl rd rl)) := by
  show aE d 185 0 [.ref 46] [] _ = _
  rw [b185_0, pM_18]
  by_cases h : p.2 = -1
  · rw [if_pos h, decide_eq_true h]; rfl
  · rw [if_neg h, decide_eq_false h]; rfl
theorem f186 (p : Nat × Int32) (x : Int32) : aF d 186 [.ref 46, .int x] (g, pM I p, J, aP1 sl rd rl) = some (some none, (g, pM I (flt p x), J, aP1 sl rd rl)) := by
  show aE d 186 0 [.ref 46, .int x] [] _ = _
  simp only [b186_0, f185, aBi, b186_4, tI_0, pM_u18]
  unfold flt
  by_cases h : p.2 = -1
  · rw [if_pos h, if_neg (by simp [h])]
  · rw [if_neg h, if_pos (by simp [h])]
/-- rows of bytes -/
def byR (row : Nat → Int32) : Prop := ∀ k, (row k &&& 255) < 128 → row k &&& 255 = row k
theorem int_lt {a b : Int32} : a < b ↔ a.toInt < b.toInt := Int32.lt_iff_toInt_lt
theorem int_le {a b : Int32} : a ≤ b ↔ a.toInt ≤ b.toInt := Int32.le_iff_toInt_le
theorem f188_52 {p : Nat × Int32} {len top : Nat} (hl : I 46 15 = nI len) (ht : I 46 16 = nI top) (h1 : len ≤ 80) (h2 : top ≤ 80) (hp : p.1 ≤ 80) : aF d 188 [.ref 46] (g, pM I p, J, aP1 sl 53 rl) = some (some (some (.int (sgn (I 52) len top p.1))), (g, pM I p, J, aP1 sl 53 rl)) := by
  show aE d 188 0 [.ref 46] [] _ = _
  rw [b188_0_d53, pM_17, pM_o _ _ (by decide) (by decide), pM_o _ _ (by decide) (by decide), pM_r _ _ (by decide), hl, ht]
  unfold sgn
  by_cases e1 : len ≤ p.1
  · simp (disch := omega) only [aBi, aBv, aBl, nI_1, nIle_t, nIle_f, nIlt_t, nIlt_f, nIeq_t, nIeq_f, nIneg, nI_clamp, nat_le_f, nat_le_t, nat_lt_f, nat_lt_t, or_self, or_false, false_or, if_true, if_false, ↓reduceIte, Int32.or_zero, Int32.add_zero, nIm2, nIm3, nIm4, nIp2, nIp4, nIp6, nIp8, nIp14, nIp16, nIp22, nIp24, nIp30, nIq2, nIq3, nIq4, hasI_0, aU_s, aU_i, aU_r, aU_u]
    rw [if_neg (by omega)]
  · by_cases e2 : top ≤ p.1
    · simp (disch := omega) only [aBi, aBv, aBl, nI_1, nIle_t, nIle_f, nIlt_t, nIlt_f, nIeq_t, nIeq_f, nIneg, nI_clamp, nat_le_f, nat_le_t, nat_lt_f, nat_lt_t, or_self, or_false, false_or, if_true, if_false, ↓reduceIte, Int32.or_zero, Int32.add_zero, nIm2, nIm3, nIm4, nIp2, nIp4, nIp6, nIp8, nIp14, nIp16, nIp22, nIp24, nIp30, nIq2, nIq3, nIq4, hasI_0, aU_s, aU_i, aU_r, aU_u]
      rw [if_neg (by omega)]
    · simp (disch := omega) only [aBi, aBv, aBl, nI_1, nIle_t, nIle_f, nIlt_t, nIlt_f, nIeq_t, nIeq_f, nIneg, nI_clamp, nat_le_f, nat_le_t, nat_lt_f, nat_lt_t, or_self, or_false, false_or, if_true, if_false, ↓reduceIte, Int32.or_zero, Int32.add_zero, nIm2, nIm3, nIm4, nIp2, nIp4, nIp6, nIp8, nIp14, nIp16, nIp22, nIp24, nIp30, nIq2, nIq3, nIq4, hasI_0, aU_s, aU_i, aU_r, aU_u]
      rw [if_pos (by omega)]
theorem f191_52 {p : Nat × Int32} {len top : Nat} (hl : I 46 15 = nI len) (ht : I 46 16 = nI top) (h1 : len ≤ 80) (h2 : top ≤ 80) (hp : p.1 ≤ 80) {c : Int32} (hc : 0 ≤ c) : aF d 191 [.ref 46, .int c] (g, pM I p, J, aP1 sl 53 rl) = some (some (some (.int (tI (decide (pk (sgn (I 52) len top) p = c))))), (g, pM I (ps (sgn (I 52) len top) c p), J, aP1 sl 53 rl)) := by
  show aE d 191 0 [.ref 46, .int c] [] _ = _
  simp only [b191_0, f185, aBi, b191_4, tI_0, f188_52 hl ht h1 h2 hp, b191_11, pM_17, nI_1, pM_u17]
  unfold ps pk
  by_cases e1 : p.2 = -1
  · simp only [e1, decide_true, if_true, Bool.true_eq_false, if_false]
    by_cases e2 : sgn (I 52) len top p.1 = c
    · rw [if_pos e2, if_pos e2, decide_eq_true e2]; rw [← e1]; rfl
    · rw [if_neg e2, if_neg e2, decide_eq_false e2]; rfl
  · have e2 : ¬ (-1 : Int32) = c := fun q => by rw [← q] at hc; exact absurd hc (by decide)
    simp only [e1, decide_false, if_true, if_false, e2]
    rfl
theorem f192_52 {p : Nat × Int32} {len top : Nat} (hl : I 46 15 = nI len) (ht : I 46 16 = nI top) (h1 : len ≤ 80) (h2 : top ≤ 80) (hp : p.1 ≤ 80) {c : Int32} (hc : 0 ≤ c) : aF d 192 [.ref 46, .int c] (g, pM I p, J, aP1 sl 53 rl) = some (some none, (g, pM I (nd (sgn (I 52) len top) c p), J, aP1 sl 53 rl)) := by
  show aE d 192 0 [.ref 46, .int c] [] _ = _
  simp only [b192_0, f191_52 hl ht h1 h2 hp hc, aBi, b192_5, tI_0, f186, aBv, b192_16, pM_17]
  unfold ps nd
  by_cases e1 : pk (sgn (I 52) len top) p = c
  · simp only [e1, decide_true, Bool.true_eq_false, if_false, if_true]
  · simp only [e1, decide_false, if_false, if_true]
theorem f187_52 {p : Nat × Int32} {len top : Nat} (hl : I 46 15 = nI len) (ht : I 46 16 = nI top) (h1 : len ≤ 80) (h2 : top ≤ 80) (hp : p.1 ≤ 80) (hB : byR (I 52)) {lo many hi : Int32} (hlo : 0 ≤ lo) (hh : lo + many - 1 = hi) (hhi : hi < 128) : aF d 187 [.ref 46, .int lo, .int many] (g, pM I p, J, aP1 sl 53 rl) = some (some (some (.int ((tk (sgn (I 52) len top) lo hi p).1 - lo))), (g, pM I (tk (sgn (I 52) len top) lo hi p).2, J, aP1 sl 53 rl)) := by
  show aE d 187 0 [.ref 46, .int lo, .int many] [] _ = _
  have e0 : ∀ n : Nat, nI (n + 1) - 1 = nI n := nI_pred
  simp only [b187_0, f185, aBi, b187_4, tI_0, f188_52 hl ht h1 h2 hp, b187_13, f181, hh, b187_22_d53, pM_17, nI_1, e0, pM_u17, f186, aBv, b187_33]
  unfold tk
  have hn : ¬ (0 : Int32) ≤ -1 := by decide
  by_cases e1 : p.2 = -1
  · have e2 : pk (sgn (I 52) len top) p = sgn (I 52) len top p.1 := by unfold pk; rw [if_pos e1]
    have e3 : flt p (nI p.1) = (p.1, nI p.1) := by unfold flt; rw [if_pos e1]
    simp only [e1, decide_true, Bool.true_eq_false, if_false, e2, e3]
    unfold inI
    by_cases e4 : sgn (I 52) len top p.1 < lo
    · simp only [e4, if_true, Int32.sub_self]
      rw [show flt p (nI p.1) = (p.1, nI p.1) from e3]
    · by_cases e5 : hi < sgn (I 52) len top p.1
      · have e6 : ¬ sgn (I 52) len top p.1 ≤ hi := by rw [int_le]; rw [int_lt] at e5; omega
        simp only [e4, e5, e6, if_true, if_false, Int32.sub_self]
        rw [show flt p (nI p.1) = (p.1, nI p.1) from e3]
      · have e6 : sgn (I 52) len top p.1 ≤ hi := by rw [int_le]; rw [int_lt] at e5; omega
        have e7 : p.1 < len ∧ p.1 < top := by
          apply Classical.byContradiction; intro q
          unfold sgn at e4
          rw [if_neg q] at e4
          rw [int_lt] at e4
          rw [int_le] at hlo
          have : (0 : Int32).toInt = 0 := rfl
          have : (-1 : Int32).toInt = -1 := rfl
          omega
        have e8 : sgn (I 52) len top p.1 = I 52 p.1 := by
          have e9 : sgn (I 52) len top p.1 = I 52 p.1 &&& 255 := if_pos e7
          rw [e9] at e6 ⊢
          refine hB _ ?_
          rw [int_lt] at *
          rw [int_le] at e6
          omega
        simp only [e4, e5, e6, if_false, if_true, n10]
        simp (disch := omega) only [pM_r, aBi, aBv, aBl, nI_1, nIle_t, nIle_f, nIlt_t, nIlt_f, nIeq_t, nIeq_f, nIneg, nI_clamp, nat_le_f, nat_le_t, nat_lt_f, nat_lt_t, or_self, or_false, false_or, if_true, if_false, ↓reduceIte, Int32.or_zero, Int32.add_zero, nIm2, nIm3, nIm4, nIp2, nIp4, nIp6, nIp8, nIp14, nIp16, nIp22, nIp24, nIp30, nIq2, nIq3, nIq4, hasI_0, aU_s, aU_i, aU_r, aU_u]
        rw [e8]
        rfl
  · have e2 : pk (sgn (I 52) len top) p = -1 := by unfold pk; rw [if_neg e1]
    have e3 : flt p (nI p.1) = p := by unfold flt; rw [if_neg e1]
    have e4 : (-1 : Int32) < lo := by
      rw [int_lt]; rw [int_le] at hlo
      have : (0 : Int32).toInt = 0 := rfl
      have : (-1 : Int32).toInt = -1 := rfl
      omega
    simp only [e1, decide_false, if_true, e2, e3, e4, Int32.sub_self]
theorem f189_52 {p : Nat × Int32} {len top m : Nat} (hl : I 46 15 = nI len) (ht : I 46 16 = nI top) (h1 : len ≤ 80) (h2 : top ≤ 80) (hp : p.1 ≤ top) (hB : byR (I 52)) (hm2 : m < 8) : aF d 189 [.ref 46, .int (nI (m + 1))] (g, pM I p, J, aP1 sl 53 rl) = some (some (some (.int (nm (sgn (I 52) len top) m p).1)), (g, pM I (nm (sgn (I 52) len top) m p).2, J, aP1 sl 53 rl)) := by
  show aE d 189 0 [.ref 46, .int (nI (m + 1)), aNo, aNo] [] _ = _
  have q (p : Nat × Int32) (hp : p.1 ≤ 80) : aF d 187 [.ref 46, .int 48, .int 10] (g, pM I p, J, aP1 sl 53 rl) = some (some (some (.int ((tk (sgn (I 52) len top) 48 57 p).1 - 48))), (g, pM I (tk (sgn (I 52) len top) 48 57 p).2, J, aP1 sl 53 rl)) := f187_52 hl ht h1 h2 hp hB (by decide) (by decide) (by decide)
  simp only [b189_0, q p (by omega), aBi, b189_8]
  have l : ∀ (k i : Nat) (v : Int32) (p : Nat × Int32), p.1 ≤ top → i + k = m + 1 → aE d 189 11 [.ref 46, .int (nI (m + 1)), .int v, .int (nI i)] [] (g, pM I p, J, aP1 sl 53 rl) = some (some (some (.int (nmL (sgn (I 52) len top) k v p).1)), (g, pM I (nmL (sgn (I 52) len top) k v p).2, J, aP1 sl 53 rl)) := by
    intro k
    induction k with
    | zero =>
      intro i v p hp hi
      rw [b189_11]
      simp (disch := omega) only [aBi, aBv, aBl, nI_1, nIle_t, nIle_f, nIlt_t, nIlt_f, nIeq_t, nIeq_f, nIneg, nI_clamp, nat_le_f, nat_le_t, nat_lt_f, nat_lt_t, or_self, or_false, false_or, if_true, if_false, ↓reduceIte, Int32.or_zero, Int32.add_zero, nIm2, nIm3, nIm4, nIp2, nIp4, nIp6, nIp8, nIp14, nIp16, nIp22, nIp24, nIp30, nIq2, nIq3, nIq4, hasI_0, aU_s, aU_i, aU_r, aU_u]
      rfl
    | succ k ih =>
      intro i v p hp hi
      rw [b189_11]
      simp (disch := omega) only [f185, b189_20, tI_0, f188_52 hl ht h1 h2 (show p.1 ≤ 80 by omega), b189_27, f181, b189_34, q p (by omega), b189_49, aBi, aBv, aBl, nI_1, nIle_t, nIle_f, nIlt_t, nIlt_f, nIeq_t, nIeq_f, nIneg, nI_clamp, nat_le_f, nat_le_t, nat_lt_f, nat_lt_t, or_self, or_false, false_or, if_true, if_false, ↓reduceIte, Int32.or_zero, Int32.add_zero, nIm2, nIm3, nIm4, nIp2, nIp4, nIp6, nIp8, nIp14, nIp16, nIp22, nIp24, nIp30, nIq2, nIq3, nIq4, hasI_0, aU_s, aU_i, aU_r, aU_u]
      unfold nmL
      by_cases e1 : p.2 = -1
      · have e2 : pk (sgn (I 52) len top) p = sgn (I 52) len top p.1 := by unfold pk; rw [if_pos e1]
        simp only [e1, decide_true, Bool.true_eq_false, if_false, e2]
        unfold inI
        by_cases e4 : sgn (I 52) len top p.1 < 48
        · simp only [e4, if_true]
        · by_cases e5 : (57 : Int32) < sgn (I 52) len top p.1
          · have e6 : ¬ sgn (I 52) len top p.1 ≤ 57 := by rw [int_le]; rw [int_lt] at e5; omega
            simp only [e4, e5, e6, if_true, if_false]
          · have e6 : sgn (I 52) len top p.1 ≤ 57 := by rw [int_le]; rw [int_lt] at e5; omega
            have e7 : tk (sgn (I 52) len top) 48 57 p = (sgn (I 52) len top p.1, adv p) := by
              unfold tk
              rw [e2, if_neg e4, if_pos e6]
            simp only [e4, e5, e6, if_true, if_false, n10, e7]
            have e8 : 10 * v + (sgn (I 52) len top p.1 - 48) = v * 10 + sgn (I 52) len top p.1 - 48 := by
              rw [Int32.mul_comm, Int32.sub_eq_add_neg, Int32.sub_eq_add_neg, Int32.add_assoc]
            rw [e8]
            exact ih (i + 1) _ _ (pk_ge (p := p) (sgn_E _ _ _) (by decide) (by rw [e2]; exact e4)) (by omega)
      · have e2 : pk (sgn (I 52) len top) p = -1 := by unfold pk; rw [if_neg e1]
        simp only [e1, decide_false, if_true, e2, show ((-1 : Int32) < 48) = True from by decide]
  exact l m 1 _ _ (tk_at (sgn_E _ _ _) (by decide) hp).2 (by omega)
theorem f188_55 {p : Nat × Int32} {len top : Nat} (hl : I 46 15 = nI len) (ht : I 46 16 = nI top) (h1 : len ≤ 40) (h2 : top ≤ 80) (hp : p.1 ≤ 80) : aF d 188 [.ref 46] (g, pM I p, J, aP1 sl 56 rl) = some (some (some (.int (sgn (I 55) len top p.1))), (g, pM I p, J, aP1 sl 56 rl)) := by
  show aE d 188 0 [.ref 46] [] _ = _
  rw [b188_0_d56, pM_17, pM_o _ _ (by decide) (by decide), pM_o _ _ (by decide) (by decide), pM_r _ _ (by decide), hl, ht]
  unfold sgn
  by_cases e1 : len ≤ p.1
  · simp (disch := omega) only [aBi, aBv, aBl, nI_1, nIle_t, nIle_f, nIlt_t, nIlt_f, nIeq_t, nIeq_f, nIneg, nI_clamp, nat_le_f, nat_le_t, nat_lt_f, nat_lt_t, or_self, or_false, false_or, if_true, if_false, ↓reduceIte, Int32.or_zero, Int32.add_zero, nIm2, nIm3, nIm4, nIp2, nIp4, nIp6, nIp8, nIp14, nIp16, nIp22, nIp24, nIp30, nIq2, nIq3, nIq4, hasI_0, aU_s, aU_i, aU_r, aU_u]
    rw [if_neg (by omega)]
  · by_cases e2 : top ≤ p.1
    · simp (disch := omega) only [aBi, aBv, aBl, nI_1, nIle_t, nIle_f, nIlt_t, nIlt_f, nIeq_t, nIeq_f, nIneg, nI_clamp, nat_le_f, nat_le_t, nat_lt_f, nat_lt_t, or_self, or_false, false_or, if_true, if_false, ↓reduceIte, Int32.or_zero, Int32.add_zero, nIm2, nIm3, nIm4, nIp2, nIp4, nIp6, nIp8, nIp14, nIp16, nIp22, nIp24, nIp30, nIq2, nIq3, nIq4, hasI_0, aU_s, aU_i, aU_r, aU_u]
      rw [if_neg (by omega)]
    · simp (disch := omega) only [aBi, aBv, aBl, nI_1, nIle_t, nIle_f, nIlt_t, nIlt_f, nIeq_t, nIeq_f, nIneg, nI_clamp, nat_le_f, nat_le_t, nat_lt_f, nat_lt_t, or_self, or_false, false_or, if_true, if_false, ↓reduceIte, Int32.or_zero, Int32.add_zero, nIm2, nIm3, nIm4, nIp2, nIp4, nIp6, nIp8, nIp14, nIp16, nIp22, nIp24, nIp30, nIq2, nIq3, nIq4, hasI_0, aU_s, aU_i, aU_r, aU_u]
      rw [if_pos (by omega)]
theorem f191_55 {p : Nat × Int32} {len top : Nat} (hl : I 46 15 = nI len) (ht : I 46 16 = nI top) (h1 : len ≤ 40) (h2 : top ≤ 80) (hp : p.1 ≤ 80) {c : Int32} (hc : 0 ≤ c) : aF d 191 [.ref 46, .int c] (g, pM I p, J, aP1 sl 56 rl) = some (some (some (.int (tI (decide (pk (sgn (I 55) len top) p = c))))), (g, pM I (ps (sgn (I 55) len top) c p), J, aP1 sl 56 rl)) := by
  show aE d 191 0 [.ref 46, .int c] [] _ = _
  simp only [b191_0, f185, aBi, b191_4, tI_0, f188_55 hl ht h1 h2 hp, b191_11, pM_17, nI_1, pM_u17]
  unfold ps pk
  by_cases e1 : p.2 = -1
  · simp only [e1, decide_true, if_true, Bool.true_eq_false, if_false]
    by_cases e2 : sgn (I 55) len top p.1 = c
    · rw [if_pos e2, if_pos e2, decide_eq_true e2]; rw [← e1]; rfl
    · rw [if_neg e2, if_neg e2, decide_eq_false e2]; rfl
  · have e2 : ¬ (-1 : Int32) = c := fun q => by rw [← q] at hc; exact absurd hc (by decide)
    simp only [e1, decide_false, if_true, if_false, e2]
    rfl
theorem f192_55 {p : Nat × Int32} {len top : Nat} (hl : I 46 15 = nI len) (ht : I 46 16 = nI top) (h1 : len ≤ 40) (h2 : top ≤ 80) (hp : p.1 ≤ 80) {c : Int32} (hc : 0 ≤ c) : aF d 192 [.ref 46, .int c] (g, pM I p, J, aP1 sl 56 rl) = some (some none, (g, pM I (nd (sgn (I 55) len top) c p), J, aP1 sl 56 rl)) := by
  show aE d 192 0 [.ref 46, .int c] [] _ = _
  simp only [b192_0, f191_55 hl ht h1 h2 hp hc, aBi, b192_5, tI_0, f186, aBv, b192_16, pM_17]
  unfold ps nd
  by_cases e1 : pk (sgn (I 55) len top) p = c
  · simp only [e1, decide_true, Bool.true_eq_false, if_false, if_true]
  · simp only [e1, decide_false, if_false, if_true]
theorem f187_55 {p : Nat × Int32} {len top : Nat} (hl : I 46 15 = nI len) (ht : I 46 16 = nI top) (h1 : len ≤ 40) (h2 : top ≤ 80) (hp : p.1 ≤ 80) (hB : byR (I 55)) {lo many hi : Int32} (hlo : 0 ≤ lo) (hh : lo + many - 1 = hi) (hhi : hi < 128) : aF d 187 [.ref 46, .int lo, .int many] (g, pM I p, J, aP1 sl 56 rl) = some (some (some (.int ((tk (sgn (I 55) len top) lo hi p).1 - lo))), (g, pM I (tk (sgn (I 55) len top) lo hi p).2, J, aP1 sl 56 rl)) := by
  show aE d 187 0 [.ref 46, .int lo, .int many] [] _ = _
  have e0 : ∀ n : Nat, nI (n + 1) - 1 = nI n := nI_pred
  simp only [b187_0, f185, aBi, b187_4, tI_0, f188_55 hl ht h1 h2 hp, b187_13, f181, hh, b187_22_d56, pM_17, nI_1, e0, pM_u17, f186, aBv, b187_33]
  unfold tk
  have hn : ¬ (0 : Int32) ≤ -1 := by decide
  by_cases e1 : p.2 = -1
  · have e2 : pk (sgn (I 55) len top) p = sgn (I 55) len top p.1 := by unfold pk; rw [if_pos e1]
    have e3 : flt p (nI p.1) = (p.1, nI p.1) := by unfold flt; rw [if_pos e1]
    simp only [e1, decide_true, Bool.true_eq_false, if_false, e2, e3]
    unfold inI
    by_cases e4 : sgn (I 55) len top p.1 < lo
    · simp only [e4, if_true, Int32.sub_self]
      rw [show flt p (nI p.1) = (p.1, nI p.1) from e3]
    · by_cases e5 : hi < sgn (I 55) len top p.1
      · have e6 : ¬ sgn (I 55) len top p.1 ≤ hi := by rw [int_le]; rw [int_lt] at e5; omega
        simp only [e4, e5, e6, if_true, if_false, Int32.sub_self]
        rw [show flt p (nI p.1) = (p.1, nI p.1) from e3]
      · have e6 : sgn (I 55) len top p.1 ≤ hi := by rw [int_le]; rw [int_lt] at e5; omega
        have e7 : p.1 < len ∧ p.1 < top := by
          apply Classical.byContradiction; intro q
          unfold sgn at e4
          rw [if_neg q] at e4
          rw [int_lt] at e4
          rw [int_le] at hlo
          have : (0 : Int32).toInt = 0 := rfl
          have : (-1 : Int32).toInt = -1 := rfl
          omega
        have e8 : sgn (I 55) len top p.1 = I 55 p.1 := by
          have e9 : sgn (I 55) len top p.1 = I 55 p.1 &&& 255 := if_pos e7
          rw [e9] at e6 ⊢
          refine hB _ ?_
          rw [int_lt] at *
          rw [int_le] at e6
          omega
        simp only [e4, e5, e6, if_false, if_true, n10]
        simp (disch := omega) only [pM_r, aBi, aBv, aBl, nI_1, nIle_t, nIle_f, nIlt_t, nIlt_f, nIeq_t, nIeq_f, nIneg, nI_clamp, nat_le_f, nat_le_t, nat_lt_f, nat_lt_t, or_self, or_false, false_or, if_true, if_false, ↓reduceIte, Int32.or_zero, Int32.add_zero, nIm2, nIm3, nIm4, nIp2, nIp4, nIp6, nIp8, nIp14, nIp16, nIp22, nIp24, nIp30, nIq2, nIq3, nIq4, hasI_0, aU_s, aU_i, aU_r, aU_u]
        rw [e8]
        rfl
  · have e2 : pk (sgn (I 55) len top) p = -1 := by unfold pk; rw [if_neg e1]
    have e3 : flt p (nI p.1) = p := by unfold flt; rw [if_neg e1]
    have e4 : (-1 : Int32) < lo := by
      rw [int_lt]; rw [int_le] at hlo
      have : (0 : Int32).toInt = 0 := rfl
      have : (-1 : Int32).toInt = -1 := rfl
      omega
    simp only [e1, decide_false, if_true, e2, e3, e4, Int32.sub_self]
theorem f189_55 {p : Nat × Int32} {len top m : Nat} (hl : I 46 15 = nI len) (ht : I 46 16 = nI top) (h1 : len ≤ 40) (h2 : top ≤ 80) (hp : p.1 ≤ top) (hB : byR (I 55)) (hm2 : m < 8) : aF d 189 [.ref 46, .int (nI (m + 1))] (g, pM I p, J, aP1 sl 56 rl) = some (some (some (.int (nm (sgn (I 55) len top) m p).1)), (g, pM I (nm (sgn (I 55) len top) m p).2, J, aP1 sl 56 rl)) := by
  show aE d 189 0 [.ref 46, .int (nI (m + 1)), aNo, aNo] [] _ = _
  have q (p : Nat × Int32) (hp : p.1 ≤ 80) : aF d 187 [.ref 46, .int 48, .int 10] (g, pM I p, J, aP1 sl 56 rl) = some (some (some (.int ((tk (sgn (I 55) len top) 48 57 p).1 - 48))), (g, pM I (tk (sgn (I 55) len top) 48 57 p).2, J, aP1 sl 56 rl)) := f187_55 hl ht h1 h2 hp hB (by decide) (by decide) (by decide)
  simp only [b189_0, q p (by omega), aBi, b189_8]
  have l : ∀ (k i : Nat) (v : Int32) (p : Nat × Int32), p.1 ≤ top → i + k = m + 1 → aE d 189 11 [.ref 46, .int (nI (m + 1)), .int v, .int (nI i)] [] (g, pM I p, J, aP1 sl 56 rl) = some (some (some (.int (nmL (sgn (I 55) len top) k v p).1)), (g, pM I (nmL (sgn (I 55) len top) k v p).2, J, aP1 sl 56 rl)) := by
    intro k
    induction k with
    | zero =>
      intro i v p hp hi
      rw [b189_11]
      simp (disch := omega) only [aBi, aBv, aBl, nI_1, nIle_t, nIle_f, nIlt_t, nIlt_f, nIeq_t, nIeq_f, nIneg, nI_clamp, nat_le_f, nat_le_t, nat_lt_f, nat_lt_t, or_self, or_false, false_or, if_true, if_false, ↓reduceIte, Int32.or_zero, Int32.add_zero, nIm2, nIm3, nIm4, nIp2, nIp4, nIp6, nIp8, nIp14, nIp16, nIp22, nIp24, nIp30, nIq2, nIq3, nIq4, hasI_0, aU_s, aU_i, aU_r, aU_u]
      rfl
    | succ k ih =>
      intro i v p hp hi
      rw [b189_11]
      simp (disch := omega) only [f185, b189_20, tI_0, f188_55 hl ht h1 h2 (show p.1 ≤ 80 by omega), b189_27, f181, b189_34, q p (by omega), b189_49, aBi, aBv, aBl, nI_1, nIle_t, nIle_f, nIlt_t, nIlt_f, nIeq_t, nIeq_f, nIneg, nI_clamp, nat_le_f, nat_le_t, nat_lt_f, nat_lt_t, or_self, or_false, false_or, if_true, if_false, ↓reduceIte, Int32.or_zero, Int32.add_zero, nIm2, nIm3, nIm4, nIp2, nIp4, nIp6, nIp8, nIp14, nIp16, nIp22, nIp24, nIp30, nIq2, nIq3, nIq4, hasI_0, aU_s, aU_i, aU_r, aU_u]
      unfold nmL
      by_cases e1 : p.2 = -1
      · have e2 : pk (sgn (I 55) len top) p = sgn (I 55) len top p.1 := by unfold pk; rw [if_pos e1]
        simp only [e1, decide_true, Bool.true_eq_false, if_false, e2]
        unfold inI
        by_cases e4 : sgn (I 55) len top p.1 < 48
        · simp only [e4, if_true]
        · by_cases e5 : (57 : Int32) < sgn (I 55) len top p.1
          · have e6 : ¬ sgn (I 55) len top p.1 ≤ 57 := by rw [int_le]; rw [int_lt] at e5; omega
            simp only [e4, e5, e6, if_true, if_false]
          · have e6 : sgn (I 55) len top p.1 ≤ 57 := by rw [int_le]; rw [int_lt] at e5; omega
            have e7 : tk (sgn (I 55) len top) 48 57 p = (sgn (I 55) len top p.1, adv p) := by
              unfold tk
              rw [e2, if_neg e4, if_pos e6]
            simp only [e4, e5, e6, if_true, if_false, n10, e7]
            have e8 : 10 * v + (sgn (I 55) len top p.1 - 48) = v * 10 + sgn (I 55) len top p.1 - 48 := by
              rw [Int32.mul_comm, Int32.sub_eq_add_neg, Int32.sub_eq_add_neg, Int32.add_assoc]
            rw [e8]
            exact ih (i + 1) _ _ (pk_ge (p := p) (sgn_E _ _ _) (by decide) (by rw [e2]; exact e4)) (by omega)
      · have e2 : pk (sgn (I 55) len top) p = -1 := by unfold pk; rw [if_neg e1]
        simp only [e1, decide_false, if_true, e2, show ((-1 : Int32) < 48) = True from by decide]
  exact l m 1 _ _ (tk_at (sgn_E _ _ _) (by decide) hp).2 (by omega)
theorem f188_56 {p : Nat × Int32} {len top : Nat} (hl : I 46 15 = nI len) (ht : I 46 16 = nI top) (h1 : len ≤ 40) (h2 : top ≤ 80) (hp : p.1 ≤ 80) : aF d 188 [.ref 46] (g, pM I p, J, aP1 sl 57 rl) = some (some (some (.int (sgn (I 56) len top p.1))), (g, pM I p, J, aP1 sl 57 rl)) := by
  show aE d 188 0 [.ref 46] [] _ = _
  rw [b188_0_d57, pM_17, pM_o _ _ (by decide) (by decide), pM_o _ _ (by decide) (by decide), pM_r _ _ (by decide), hl, ht]
  unfold sgn
  by_cases e1 : len ≤ p.1
  · simp (disch := omega) only [aBi, aBv, aBl, nI_1, nIle_t, nIle_f, nIlt_t, nIlt_f, nIeq_t, nIeq_f, nIneg, nI_clamp, nat_le_f, nat_le_t, nat_lt_f, nat_lt_t, or_self, or_false, false_or, if_true, if_false, ↓reduceIte, Int32.or_zero, Int32.add_zero, nIm2, nIm3, nIm4, nIp2, nIp4, nIp6, nIp8, nIp14, nIp16, nIp22, nIp24, nIp30, nIq2, nIq3, nIq4, hasI_0, aU_s, aU_i, aU_r, aU_u]
    rw [if_neg (by omega)]
  · by_cases e2 : top ≤ p.1
    · simp (disch := omega) only [aBi, aBv, aBl, nI_1, nIle_t, nIle_f, nIlt_t, nIlt_f, nIeq_t, nIeq_f, nIneg, nI_clamp, nat_le_f, nat_le_t, nat_lt_f, nat_lt_t, or_self, or_false, false_or, if_true, if_false, ↓reduceIte, Int32.or_zero, Int32.add_zero, nIm2, nIm3, nIm4, nIp2, nIp4, nIp6, nIp8, nIp14, nIp16, nIp22, nIp24, nIp30, nIq2, nIq3, nIq4, hasI_0, aU_s, aU_i, aU_r, aU_u]
      rw [if_neg (by omega)]
    · simp (disch := omega) only [aBi, aBv, aBl, nI_1, nIle_t, nIle_f, nIlt_t, nIlt_f, nIeq_t, nIeq_f, nIneg, nI_clamp, nat_le_f, nat_le_t, nat_lt_f, nat_lt_t, or_self, or_false, false_or, if_true, if_false, ↓reduceIte, Int32.or_zero, Int32.add_zero, nIm2, nIm3, nIm4, nIp2, nIp4, nIp6, nIp8, nIp14, nIp16, nIp22, nIp24, nIp30, nIq2, nIq3, nIq4, hasI_0, aU_s, aU_i, aU_r, aU_u]
      rw [if_pos (by omega)]
theorem f191_56 {p : Nat × Int32} {len top : Nat} (hl : I 46 15 = nI len) (ht : I 46 16 = nI top) (h1 : len ≤ 40) (h2 : top ≤ 80) (hp : p.1 ≤ 80) {c : Int32} (hc : 0 ≤ c) : aF d 191 [.ref 46, .int c] (g, pM I p, J, aP1 sl 57 rl) = some (some (some (.int (tI (decide (pk (sgn (I 56) len top) p = c))))), (g, pM I (ps (sgn (I 56) len top) c p), J, aP1 sl 57 rl)) := by
  show aE d 191 0 [.ref 46, .int c] [] _ = _
  simp only [b191_0, f185, aBi, b191_4, tI_0, f188_56 hl ht h1 h2 hp, b191_11, pM_17, nI_1, pM_u17]
  unfold ps pk
  by_cases e1 : p.2 = -1
  · simp only [e1, decide_true, if_true, Bool.true_eq_false, if_false]
    by_cases e2 : sgn (I 56) len top p.1 = c
    · rw [if_pos e2, if_pos e2, decide_eq_true e2]; rw [← e1]; rfl
    · rw [if_neg e2, if_neg e2, decide_eq_false e2]; rfl
  · have e2 : ¬ (-1 : Int32) = c := fun q => by rw [← q] at hc; exact absurd hc (by decide)
    simp only [e1, decide_false, if_true, if_false, e2]
    rfl
theorem f192_56 {p : Nat × Int32} {len top : Nat} (hl : I 46 15 = nI len) (ht : I 46 16 = nI top) (h1 : len ≤ 40) (h2 : top ≤ 80) (hp : p.1 ≤ 80) {c : Int32} (hc : 0 ≤ c) : aF d 192 [.ref 46, .int c] (g, pM I p, J, aP1 sl 57 rl) = some (some none, (g, pM I (nd (sgn (I 56) len top) c p), J, aP1 sl 57 rl)) := by
  show aE d 192 0 [.ref 46, .int c] [] _ = _
  simp only [b192_0, f191_56 hl ht h1 h2 hp hc, aBi, b192_5, tI_0, f186, aBv, b192_16, pM_17]
  unfold ps nd
  by_cases e1 : pk (sgn (I 56) len top) p = c
  · simp only [e1, decide_true, Bool.true_eq_false, if_false, if_true]
  · simp only [e1, decide_false, if_false, if_true]
theorem f187_56 {p : Nat × Int32} {len top : Nat} (hl : I 46 15 = nI len) (ht : I 46 16 = nI top) (h1 : len ≤ 40) (h2 : top ≤ 80) (hp : p.1 ≤ 80) (hB : byR (I 56)) {lo many hi : Int32} (hlo : 0 ≤ lo) (hh : lo + many - 1 = hi) (hhi : hi < 128) : aF d 187 [.ref 46, .int lo, .int many] (g, pM I p, J, aP1 sl 57 rl) = some (some (some (.int ((tk (sgn (I 56) len top) lo hi p).1 - lo))), (g, pM I (tk (sgn (I 56) len top) lo hi p).2, J, aP1 sl 57 rl)) := by
  show aE d 187 0 [.ref 46, .int lo, .int many] [] _ = _
  have e0 : ∀ n : Nat, nI (n + 1) - 1 = nI n := nI_pred
  simp only [b187_0, f185, aBi, b187_4, tI_0, f188_56 hl ht h1 h2 hp, b187_13, f181, hh, b187_22_d57, pM_17, nI_1, e0, pM_u17, f186, aBv, b187_33]
  unfold tk
  have hn : ¬ (0 : Int32) ≤ -1 := by decide
  by_cases e1 : p.2 = -1
  · have e2 : pk (sgn (I 56) len top) p = sgn (I 56) len top p.1 := by unfold pk; rw [if_pos e1]
    have e3 : flt p (nI p.1) = (p.1, nI p.1) := by unfold flt; rw [if_pos e1]
    simp only [e1, decide_true, Bool.true_eq_false, if_false, e2, e3]
    unfold inI
    by_cases e4 : sgn (I 56) len top p.1 < lo
    · simp only [e4, if_true, Int32.sub_self]
      rw [show flt p (nI p.1) = (p.1, nI p.1) from e3]
    · by_cases e5 : hi < sgn (I 56) len top p.1
      · have e6 : ¬ sgn (I 56) len top p.1 ≤ hi := by rw [int_le]; rw [int_lt] at e5; omega
        simp only [e4, e5, e6, if_true, if_false, Int32.sub_self]
        rw [show flt p (nI p.1) = (p.1, nI p.1) from e3]
      · have e6 : sgn (I 56) len top p.1 ≤ hi := by rw [int_le]; rw [int_lt] at e5; omega
        have e7 : p.1 < len ∧ p.1 < top := by
          apply Classical.byContradiction; intro q
          unfold sgn at e4
          rw [if_neg q] at e4
          rw [int_lt] at e4
          rw [int_le] at hlo
          have : (0 : Int32).toInt = 0 := rfl
          have : (-1 : Int32).toInt = -1 := rfl
          omega
        have e8 : sgn (I 56) len top p.1 = I 56 p.1 := by
          have e9 : sgn (I 56) len top p.1 = I 56 p.1 &&& 255 := if_pos e7
          rw [e9] at e6 ⊢
          refine hB _ ?_
          rw [int_lt] at *
          rw [int_le] at e6
          omega
        simp only [e4, e5, e6, if_false, if_true, n10]
        simp (disch := omega) only [pM_r, aBi, aBv, aBl, nI_1, nIle_t, nIle_f, nIlt_t, nIlt_f, nIeq_t, nIeq_f, nIneg, nI_clamp, nat_le_f, nat_le_t, nat_lt_f, nat_lt_t, or_self, or_false, false_or, if_true, if_false, ↓reduceIte, Int32.or_zero, Int32.add_zero, nIm2, nIm3, nIm4, nIp2, nIp4, nIp6, nIp8, nIp14, nIp16, nIp22, nIp24, nIp30, nIq2, nIq3, nIq4, hasI_0, aU_s, aU_i, aU_r, aU_u]
        rw [e8]
        rfl
  · have e2 : pk (sgn (I 56) len top) p = -1 := by unfold pk; rw [if_neg e1]
    have e3 : flt p (nI p.1) = p := by unfold flt; rw [if_neg e1]
    have e4 : (-1 : Int32) < lo := by
      rw [int_lt]; rw [int_le] at hlo
      have : (0 : Int32).toInt = 0 := rfl
      have : (-1 : Int32).toInt = -1 := rfl
      omega
    simp only [e1, decide_false, if_true, e2, e3, e4, Int32.sub_self]
theorem f189_56 {p : Nat × Int32} {len top m : Nat} (hl : I 46 15 = nI len) (ht : I 46 16 = nI top) (h1 : len ≤ 40) (h2 : top ≤ 80) (hp : p.1 ≤ top) (hB : byR (I 56)) (hm2 : m < 8) : aF d 189 [.ref 46, .int (nI (m + 1))] (g, pM I p, J, aP1 sl 57 rl) = some (some (some (.int (nm (sgn (I 56) len top) m p).1)), (g, pM I (nm (sgn (I 56) len top) m p).2, J, aP1 sl 57 rl)) := by
  show aE d 189 0 [.ref 46, .int (nI (m + 1)), aNo, aNo] [] _ = _
  have q (p : Nat × Int32) (hp : p.1 ≤ 80) : aF d 187 [.ref 46, .int 48, .int 10] (g, pM I p, J, aP1 sl 57 rl) = some (some (some (.int ((tk (sgn (I 56) len top) 48 57 p).1 - 48))), (g, pM I (tk (sgn (I 56) len top) 48 57 p).2, J, aP1 sl 57 rl)) := f187_56 hl ht h1 h2 hp hB (by decide) (by decide) (by decide)
  simp only [b189_0, q p (by omega), aBi, b189_8]
  have l : ∀ (k i : Nat) (v : Int32) (p : Nat × Int32), p.1 ≤ top → i + k = m + 1 → aE d 189 11 [.ref 46, .int (nI (m + 1)), .int v, .int (nI i)] [] (g, pM I p, J, aP1 sl 57 rl) = some (some (some (.int (nmL (sgn (I 56) len top) k v p).1)), (g, pM I (nmL (sgn (I 56) len top) k v p).2, J, aP1 sl 57 rl)) := by
    intro k
    induction k with
    | zero =>
      intro i v p hp hi
      rw [b189_11]
      simp (disch := omega) only [aBi, aBv, aBl, nI_1, nIle_t, nIle_f, nIlt_t, nIlt_f, nIeq_t, nIeq_f, nIneg, nI_clamp, nat_le_f, nat_le_t, nat_lt_f, nat_lt_t, or_self, or_false, false_or, if_true, if_false, ↓reduceIte, Int32.or_zero, Int32.add_zero, nIm2, nIm3, nIm4, nIp2, nIp4, nIp6, nIp8, nIp14, nIp16, nIp22, nIp24, nIp30, nIq2, nIq3, nIq4, hasI_0, aU_s, aU_i, aU_r, aU_u]
      rfl
    | succ k ih =>
      intro i v p hp hi
      rw [b189_11]
      simp (disch := omega) only [f185, b189_20, tI_0, f188_56 hl ht h1 h2 (show p.1 ≤ 80 by omega), b189_27, f181, b189_34, q p (by omega), b189_49, aBi, aBv, aBl, nI_1, nIle_t, nIle_f, nIlt_t, nIlt_f, nIeq_t, nIeq_f, nIneg, nI_clamp, nat_le_f, nat_le_t, nat_lt_f, nat_lt_t, or_self, or_false, false_or, if_true, if_false, ↓reduceIte, Int32.or_zero, Int32.add_zero, nIm2, nIm3, nIm4, nIp2, nIp4, nIp6, nIp8, nIp14, nIp16, nIp22, nIp24, nIp30, nIq2, nIq3, nIq4, hasI_0, aU_s, aU_i, aU_r, aU_u]
      unfold nmL
      by_cases e1 : p.2 = -1
      · have e2 : pk (sgn (I 56) len top) p = sgn (I 56) len top p.1 := by unfold pk; rw [if_pos e1]
        simp only [e1, decide_true, Bool.true_eq_false, if_false, e2]
        unfold inI
        by_cases e4 : sgn (I 56) len top p.1 < 48
        · simp only [e4, if_true]
        · by_cases e5 : (57 : Int32) < sgn (I 56) len top p.1
          · have e6 : ¬ sgn (I 56) len top p.1 ≤ 57 := by rw [int_le]; rw [int_lt] at e5; omega
            simp only [e4, e5, e6, if_true, if_false]
          · have e6 : sgn (I 56) len top p.1 ≤ 57 := by rw [int_le]; rw [int_lt] at e5; omega
            have e7 : tk (sgn (I 56) len top) 48 57 p = (sgn (I 56) len top p.1, adv p) := by
              unfold tk
              rw [e2, if_neg e4, if_pos e6]
            simp only [e4, e5, e6, if_true, if_false, n10, e7]
            have e8 : 10 * v + (sgn (I 56) len top p.1 - 48) = v * 10 + sgn (I 56) len top p.1 - 48 := by
              rw [Int32.mul_comm, Int32.sub_eq_add_neg, Int32.sub_eq_add_neg, Int32.add_assoc]
            rw [e8]
            exact ih (i + 1) _ _ (pk_ge (p := p) (sgn_E _ _ _) (by decide) (by rw [e2]; exact e4)) (by omega)
      · have e2 : pk (sgn (I 56) len top) p = -1 := by unfold pk; rw [if_neg e1]
        simp only [e1, decide_false, if_true, e2, show ((-1 : Int32) < 48) = True from by decide]
  exact l m 1 _ _ (tk_at (sgn_E _ _ _) (by decide) hp).2 (by omega)
end T02
section T03
/-! a rule as signs; its code; the reference's way through it -/
variable {d : Nat} {g : Nat × Nat × Nat} {I : Nat → Nat → Int32} {J : Nat → Nat → Int64} {sl rd rl : Nat}
def lt8 (c : Int32) : Int32 := if c = 115 then 0 else if c = 99 then 1 else if c = 105 then 2 else if c = 119 then 3 else if c = 110 then 4 else if c = 111 then 5 else if c = 109 then 6 else if c = 97 then 7 else -1
/-- tags: 0 held, 1 sum, 2 its rest, 3 product, 4 its rest, 5 thing -/
def pc (sg : Nat → Int32) : Nat → Nat → Nat → List Int32 → Nat × Int32 → List Int32 × (Nat × Int32)
  | 0, _, _, v, p => (v, p)
  | n + 1, tag, deep, v, p =>
    if tag = 0 then
      let r := pc sg n 1 deep [] p
      if pk sg r.2 = 60 ∨ pk sg r.2 = 62 ∨ pk sg r.2 = 61 then
        let q := pc sg n 1 deep [] (adv r.2)
        (r.1 ++ q.1 ++ [2000 + pk sg r.2], q.2)
      else r
    else if tag = 1 then
      let r := pc sg n 3 deep [] p
      pc sg n 2 deep r.1 r.2
    else if tag = 2 then
      if pk sg p = 43 ∨ pk sg p = 45 then
        let r := pc sg n 3 deep [] (adv p)
        pc sg n 2 deep (v ++ r.1 ++ [2000 + pk sg p]) r.2
      else (v, p)
    else if tag = 3 then
      let r := pc sg n 5 deep [] p
      pc sg n 4 deep r.1 r.2
    else if tag = 4 then
      if pk sg p = 42 ∨ pk sg p = 47 then
        let r := pc sg n 5 deep [] (adv p)
        pc sg n 4 deep (v ++ r.1 ++ [2000 + pk sg p]) r.2
      else (v, p)
    else
      if pk sg p = 45 then
        let r := pc sg n 5 deep [] (adv p)
        (r.1 ++ [2256], r.2)
      else if ¬ p.2 = -1 then ([], p)
      else if pk sg p = 40 ∧ deep < 4 then
        let r := pc sg n 0 (deep + 1) [] (adv p)
        (r.1, nd sg 41 r.2)
      else if lt8 (pk sg p) = -1 then
        let r := nm sg 2 p
        ([r.1], r.2)
      else ([1000 + lt8 (pk sg p)], adv p)
theorem pkv {sg : Nat → Int32} {n : Nat} (h : sgE sg n) {p : Nat × Int32} {c : Int32} (e : pk sg p = c) (hc : ¬ c = -1) : p.1 < n := pk_at h (by rw [e]; exact hc)
theorem pc_at {sg : Nat → Int32} {N : Nat} (h : sgE sg N) : ∀ (n tag deep : Nat) (v : List Int32) (p : Nat × Int32), p.1 ≤ N → p.1 ≤ (pc sg n tag deep v p).2.1 ∧ (pc sg n tag deep v p).2.1 ≤ N := by
  intro n
  induction n with
  | zero => intro tag deep v p hp; exact ⟨Nat.le_refl _, hp⟩
  | succ n ih =>
    intro tag deep v p hp
    have adv_ok : ∀ q : Nat × Int32, ¬ pk sg q = -1 → (adv q).1 ≤ N := fun q hq => pk_at h hq
    have two : ∀ (t1 t2 d1 d2 : Nat) (v1 v2 : List Int32) (q : Nat × Int32), q.1 ≤ N → q.1 ≤ (pc sg n t2 d2 v2 (pc sg n t1 d1 v1 q).2).2.1 ∧ (pc sg n t2 d2 v2 (pc sg n t1 d1 v1 q).2).2.1 ≤ N := by
      intro t1 t2 d1 d2 v1 v2 q hq
      have a := ih t1 d1 v1 q hq
      have b := ih t2 d2 v2 _ a.2
      exact ⟨Nat.le_trans a.1 b.1, b.2⟩
    unfold pc
    split
    · have a := ih 1 deep [] p hp
      simp only
      split
      · rename_i hq
        have hne : ¬ pk sg (pc sg n 1 deep [] p).2 = -1 := by
          rcases hq with e | e | e <;> rw [e] <;> decide
        have b := ih 1 deep [] _ (adv_ok _ hne)
        exact ⟨Nat.le_trans a.1 (Nat.le_trans (Nat.le_succ _) b.1), b.2⟩
      · exact a
    split
    · exact two _ _ _ _ _ _ _ hp
    split
    · split
      · rename_i hq
        have hne : ¬ pk sg p = -1 := by
          rcases hq with e | e <;> rw [e] <;> decide
        have b := two 3 2 deep deep [] (v ++ (pc sg n 3 deep [] (adv p)).1 ++ [2000 + pk sg p]) _ (adv_ok _ hne)
        exact ⟨Nat.le_trans (Nat.le_succ _) b.1, b.2⟩
      · exact ⟨Nat.le_refl _, hp⟩
    split
    · exact two _ _ _ _ _ _ _ hp
    split
    · split
      · rename_i hq
        have hne : ¬ pk sg p = -1 := by
          rcases hq with e | e <;> rw [e] <;> decide
        have b := two 5 4 deep deep [] (v ++ (pc sg n 5 deep [] (adv p)).1 ++ [2000 + pk sg p]) _ (adv_ok _ hne)
        exact ⟨Nat.le_trans (Nat.le_succ _) b.1, b.2⟩
      · exact ⟨Nat.le_refl _, hp⟩
    split
    · rename_i hq
      have b := ih 5 deep [] _ (adv_ok p (by rw [hq]; decide))
      exact ⟨Nat.le_trans (Nat.le_succ _) b.1, b.2⟩
    split
    · exact ⟨Nat.le_refl _, hp⟩
    split
    · rename_i hq
      have b := ih 0 (deep + 1) [] _ (adv_ok p (by rw [hq.1]; decide))
      have c := nd_at h (c := 41) (by decide) b.2
      exact ⟨Nat.le_trans (Nat.le_succ _) (Nat.le_trans b.1 c.1), c.2⟩
    split
    · exact nm_at h 2 hp
    · rename_i hq
      exact ⟨Nat.le_succ _, adv_ok p (fun e => hq (by rw [e]; decide))⟩
/-- a code, worked out -/
def ev1 (t : Nat → Int32) (one : Int32) (S : List Int32) : List Int32 :=
  if 2000 ≤ one then
    (if one = 2256 then (match S with
      | [] => []
      | a :: S' => -a :: S')
     else (match S with
      | b :: a :: S' => jt (one - 2000) a b :: S'
      | S' => S'))
  else (if one - 1000 < 0 then one else if 8 ≤ one - 1000 then one else t (one - 1000).toNatClampNeg) :: S
def ev (t : Nat → Int32) : List Int32 → List Int32 → List Int32
  | [], S => S
  | one :: c, S => ev t c (ev1 t one S)
theorem ev_app (t : Nat → Int32) : ∀ (a b : List Int32) (S : List Int32), ev t (a ++ b) S = ev t b (ev t a S)
  | [], _, _ => rfl
  | _ :: a, b, S => ev_app t a b _
theorem f204 (c : Int32) : aF d 204 [.int c] (g, I, J, aP1 sl rd rl) = some (some (some (.int (lt8 c))), (g, I, J, aP1 sl rd rl)) := by
  show aE d 204 0 [.int c] [] _ = _
  rw [b204_0]
  unfold lt8
  (repeat' split) <;> rfl
theorem lt8_ix (c : Int32) : lt8 c = -1 ∨ ∃ k, k < 8 ∧ lt8 c = nI k := by
  unfold lt8
  (repeat' split) <;> first | exact Or.inl rfl | exact Or.inr ⟨0, by decide, rfl⟩ | exact Or.inr ⟨1, by decide, rfl⟩ | exact Or.inr ⟨2, by decide, rfl⟩ | exact Or.inr ⟨3, by decide, rfl⟩ | exact Or.inr ⟨4, by decide, rfl⟩ | exact Or.inr ⟨5, by decide, rfl⟩ | exact Or.inr ⟨6, by decide, rfl⟩ | exact Or.inr ⟨7, by decide, rfl⟩
theorem lt8_dig {c : Int32} (h : ¬ c < 48) (h2 : c ≤ 57) : lt8 c = -1 := by
  unfold lt8
  have q : ∀ k : Int32, 57 < k.toInt → c ≠ k := fun k hk e => by
    rw [int_le, e] at h2
    have : (57 : Int32).toInt = 57 := rfl
    omega
  rw [if_neg (q _ (by decide)), if_neg (q _ (by decide)), if_neg (q _ (by decide)), if_neg (q _ (by decide)), if_neg (q _ (by decide)), if_neg (q _ (by decide)), if_neg (q _ (by decide)), if_neg (q _ (by decide))]
theorem ev_thing (t : Nat → Int32) {k : Nat} (h : k < 8) (S : List Int32) : ev t [1000 + nI k] S = t k :: S := by
  rcases ix8c h with rfl | rfl | rfl | rfl | rfl | rfl | rfl | rfl <;> rfl
theorem ev_sign (t : Nat → Int32) (s a b : Int32) (S : List Int32) (h : 2000 ≤ 2000 + s) (h2 : ¬ 2000 + s = 2256) : ev t [2000 + s] (b :: a :: S) = jt s a b :: S := by
  show ev1 t (2000 + s) (b :: a :: S) = _
  unfold ev1
  rw [if_pos h, if_neg h2]
  simp only
  rw [show 2000 + s - 2000 = s by rw [Int32.add_comm, Int32.add_sub_cancel]]
theorem ev_neg (t : Nat → Int32) (a : Int32) (S : List Int32) : ev t [2256] (a :: S) = -a :: S := rfl
theorem num1 : ∀ b, b < 1000 → (nI b - 1000 < 0 ∧ ¬ 2000 ≤ nI b) := by decide +kernel
theorem dig {x : Int32} (h : ¬ x < 48) (h2 : x ≤ 57) : ∃ k, k < 10 ∧ x = nI (48 + k) := by
  obtain ⟨j, hj, rfl⟩ := nI_of2 (x := x) (M := 57) (n := 57) rfl (fun q => h (by rw [int_lt] at q ⊢; have : (0 : Int32).toInt = 0 := rfl; have : (48 : Int32).toInt = 48 := rfl; omega)) h2
  refine ⟨j - 48, by omega, ?_⟩
  have : 48 ≤ j := by
    apply Classical.byContradiction; intro q
    exact h (nI_lt (b := 48) (by omega) (by decide))
  rw [show 48 + (j - 48) = j by omega]
theorem nmL_rng (sg : Nat → Int32) : ∀ (m B a : Nat) (p : Nat × Int32), a < B → ∃ b, b < B * 10 ^ m ∧ (nmL sg m (nI a) p).1 = nI b := by
  intro m
  induction m with
  | zero => intro B a p h; exact ⟨a, by omega, rfl⟩
  | succ m ih =>
    intro B a p h
    have hw : ∃ b, b < B * 10 ^ (m + 1) ∧ nI a = nI b := ⟨a, by
      have : 0 < 10 ^ (m + 1) := Nat.pow_pos (by decide)
      exact Nat.lt_of_lt_of_le h (Nat.le_mul_of_pos_right _ this), rfl⟩
    unfold nmL
    split
    · exact hw
    · rename_i h1
      split
      · rename_i h2
        obtain ⟨k, hk, e⟩ := dig h1 h2
        have e2 : nI a * 10 + pk sg p - 48 = nI (a * 10 + k) := by
          rw [e, show nI a * 10 = nI (a * 10) from pk_mul a 10, nI_add, show (48 : Int32) = nI 48 from rfl, pk_sub (by omega)]
          congr 1; omega
        rw [e2]
        obtain ⟨b, hb, q⟩ := ih (B * 10) (a * 10 + k) (adv p) (by omega)
        exact ⟨b, by rw [Nat.pow_succ, Nat.mul_comm (10 ^ m) 10, ← Nat.mul_assoc]; exact hb, q⟩
      · exact hw
theorem nm_rng (sg : Nat → Int32) (m : Nat) (p : Nat × Int32) : ∃ b, b < 10 ^ (m + 1) ∧ (nm sg m p).1 = nI b := by
  have h : ∃ a, a < 10 ∧ (tk sg 48 57 p).1 - 48 = nI a := by
    unfold tk
    split
    · exact ⟨0, by decide, rfl⟩
    · rename_i h1
      split
      · rename_i h2
        obtain ⟨k, hk, e⟩ := dig h1 h2
        refine ⟨k, hk, ?_⟩
        simp only
        rw [e, show (48 : Int32) = nI 48 from rfl, pk_sub (by omega)]
        congr 1; omega
      · exact ⟨0, by decide, rfl⟩
  obtain ⟨a, ha, e⟩ := h
  unfold nm
  rw [e]
  obtain ⟨b, hb, q⟩ := nmL_rng sg m 10 a (tk sg 48 57 p).2 ha
  exact ⟨b, by rw [Nat.pow_succ, Nat.mul_comm]; exact hb, q⟩
theorem ev_num (t sg : Nat → Int32) (p : Nat × Int32) (S : List Int32) : ev t [(nm sg 2 p).1] S = (nm sg 2 p).1 :: S := by
  obtain ⟨b, hb, e⟩ := nm_rng sg 2 p
  rw [e]
  have h := num1 b hb
  show ev1 t (nI b) S = _
  unfold ev1
  rw [if_neg h.2, if_pos h.1]
/-- no digit: where a number is wanted nothing moves -/
theorem nI_m1 {k : Nat} (h : k < 2 ^ 31) : ¬ nI k = -1 := fun e => by
  have q := nI_pos h
  rw [e] at q
  exact q (by decide)
theorem nm_no {sg : Nat → Int32} {p : Nat × Int32} (h0 : p.1 ≤ 80) (h : pk sg p < 48 ∨ ¬ pk sg p ≤ 57) (hp : p.2 = -1) : nm sg 2 p = (0, flt p (nI p.1)) := by
  have e : tk sg 48 57 p = (48, flt p (nI p.1)) := by
    unfold tk
    rcases h with h | h
    · rw [if_pos h]
    · rw [if_neg h, ite_self]
  unfold nm
  rw [e]
  have e2 : pk sg (flt p (nI p.1)) < 48 := by
    unfold pk flt
    rw [if_pos hp]
    simp only
    rw [if_neg (nI_m1 (by omega))]
    decide
  show nmL sg 2 (48 - 48) (flt p (nI p.1)) = _
  unfold nmL
  rw [if_pos e2]
  rfl
/-- one way through -/
def rOK (d : Nat) (g : Nat × Nat × Nat) (I : Nat → Nat → Int32) (J : Nat → Nat → Int64) (sl rd rl : Nat) (x : Option aO) (r : List Int32 × (Nat × Int32)) : Prop :=
  ∃ v, x = some (some (some (.int v)), (g, pM I r.2, J, aP1 sl rd rl)) ∧ (r.2.2 = -1 → I 46 23 ≠ 0 → ∀ S, ev (I 57) r.1 S = v :: S)
theorem pc_0 (sg : Nat → Int32) (n deep : Nat) (v : List Int32) (p : Nat × Int32) : pc sg (n + 1) 0 deep v p = if pk sg (pc sg n 1 deep [] p).2 = 60 ∨ pk sg (pc sg n 1 deep [] p).2 = 62 ∨ pk sg (pc sg n 1 deep [] p).2 = 61 then ((pc sg n 1 deep [] p).1 ++ (pc sg n 1 deep [] (adv (pc sg n 1 deep [] p).2)).1 ++ [2000 + pk sg (pc sg n 1 deep [] p).2], (pc sg n 1 deep [] (adv (pc sg n 1 deep [] p).2)).2) else pc sg n 1 deep [] p := rfl
theorem pc_1 (sg : Nat → Int32) (n deep : Nat) (v : List Int32) (p : Nat × Int32) : pc sg (n + 1) 1 deep v p = pc sg n 2 deep (pc sg n 3 deep [] p).1 (pc sg n 3 deep [] p).2 := rfl
theorem pc_2 (sg : Nat → Int32) (n deep : Nat) (v : List Int32) (p : Nat × Int32) : pc sg (n + 1) 2 deep v p = if pk sg p = 43 ∨ pk sg p = 45 then pc sg n 2 deep (v ++ (pc sg n 3 deep [] (adv p)).1 ++ [2000 + pk sg p]) (pc sg n 3 deep [] (adv p)).2 else (v, p) := rfl
theorem pc_3 (sg : Nat → Int32) (n deep : Nat) (v : List Int32) (p : Nat × Int32) : pc sg (n + 1) 3 deep v p = pc sg n 4 deep (pc sg n 5 deep [] p).1 (pc sg n 5 deep [] p).2 := rfl
theorem pc_4 (sg : Nat → Int32) (n deep : Nat) (v : List Int32) (p : Nat × Int32) : pc sg (n + 1) 4 deep v p = if pk sg p = 42 ∨ pk sg p = 47 then pc sg n 4 deep (v ++ (pc sg n 5 deep [] (adv p)).1 ++ [2000 + pk sg p]) (pc sg n 5 deep [] (adv p)).2 else (v, p) := rfl
theorem pc_5 (sg : Nat → Int32) (n deep : Nat) (v : List Int32) (p : Nat × Int32) : pc sg (n + 1) 5 deep v p = if pk sg p = 45 then ((pc sg n 5 deep [] (adv p)).1 ++ [2256], (pc sg n 5 deep [] (adv p)).2) else if ¬ p.2 = -1 then ([], p) else if pk sg p = 40 ∧ deep < 4 then ((pc sg n 0 (deep + 1) [] (adv p)).1, nd sg 41 (pc sg n 0 (deep + 1) [] (adv p)).2) else if lt8 (pk sg p) = -1 then ([(nm sg 2 p).1], (nm sg 2 p).2) else ([1000 + lt8 (pk sg p)], adv p) := rfl
theorem pk_fine {sg : Nat → Int32} {p : Nat × Int32} (h : ¬ pk sg p = -1) : p.2 = -1 := by
  unfold pk at h
  split at h
  · assumption
  · exact absurd rfl h
/-- what went wrong stays wrong -/
theorem pc_wrong (sg : Nat → Int32) : ∀ (n tag deep : Nat) (v : List Int32) (p : Nat × Int32), ¬ p.2 = -1 → (pc sg n tag deep v p).2 = p := by
  intro n
  induction n with
  | zero => intro tag deep v p hp; rfl
  | succ n ih =>
    intro tag deep v p hp
    have e : pk sg p = -1 := by unfold pk; rw [if_neg hp]
    unfold pc
    simp only [ih _ _ _ p hp, e]
    (repeat' split) <;> first | rfl | exact ih _ _ _ p hp | (rename_i h; exact absurd h (by decide)) | (exfalso; simp_all; done)
def rQ (g : Nat × Nat × Nat) (I : Nat → Nat → Int32) (J : Nat → Nat → Int64) (sl rd rl row len n tag k c : Nat) : Prop := ∀ (d deep : Nat) (p : Nat × Int32), p.1 ≤ 40 → 6 * (41 - p.1) + c ≤ n → 41 ≤ d + p.1 → deep ≤ 4 → rOK d g I J sl rd rl (aF d k [.ref 46, .int (nI deep)] (g, pM I p, J, aP1 sl rd rl)) (pc (sgn (I row) len 40) n tag deep [] p)
def rL (g : Nat × Nat × Nat) (I : Nat → Nat → Int32) (J : Nat → Nat → Int64) (sl rd rl row len n tag k c : Nat) : Prop := ∀ (d deep : Nat) (p : Nat × Int32) (a : List Int32) (v : Int32) (w3 w4 : Value), p.1 ≤ 40 → 6 * (41 - p.1) + c ≤ n → 41 ≤ d + p.1 → deep ≤ 4 → (p.2 = -1 → I 46 23 ≠ 0 → ∀ S, ev (I 57) a S = v :: S) → rOK d g I J sl rd rl (aE d k 6 [.ref 46, .int (nI deep), .int v, w3, w4] [] (g, pM I p, J, aP1 sl rd rl)) (pc (sgn (I row) len 40) n tag deep a p)
theorem tI_t : tI true = 1 := rfl
theorem tI_f : tI false = 0 := rfl
theorem n00 : ((0 : Int32) = 0) = True := eq_true rfl
theorem t5_52 {len n : Nat} (hl : I 46 15 = nI len) (ht : I 46 16 = nI 40) (h1 : len ≤ 80) (hB : byR (I 52)) (i5 : rQ g I J sl 53 rl 52 len n 5 203 1) (i0 : rQ g I J sl 53 rl 52 len n 0 200 4) : rQ g I J sl 53 rl 52 len (n + 1) 5 203 1 := by
  intro d deep p hp hn hd hdp
  obtain ⟨e, rfl⟩ : ∃ e, d = e + 1 := ⟨d - 1, by omega⟩
  have hE := sgn_E (I 52) len 40
  rw [pc_5]
  show rOK (e + 1) g I J sl 53 rl (aE (e + 1) 203 0 [.ref 46, .int (nI deep), aNo, aNo] [] (g, pM I p, J, aP1 sl 53 rl)) _
  rw [b203_0, f191_52 hl ht h1 (by omega) (by omega) (by decide)]
  simp only [aBi]
  rw [b203_6]
  generalize hsg : sgn (I 52) len 40 = sg at *
  by_cases s1 : pk sg p = 45
  · have hlt := pkv hE s1 (by decide)
    have e1 : ps sg 45 p = adv p := by unfold ps; rw [if_pos s1]
    simp only [s1, decide_true, tI_t, n10, if_false, if_true, e1]
    obtain ⟨v, e2, e3⟩ := i5 e deep (adv p) hlt (by show 6 * (41 - (p.1 + 1)) + 1 ≤ n; omega) (by show 41 ≤ e + (p.1 + 1); omega) hdp
    rw [hsg] at e2 e3
    rw [e2]
    simp only [aBi]
    rw [b203_14]
    refine ⟨-v, rfl, fun q1 q2 S => ?_⟩
    rw [ev_app, e3 q1 q2]
    rfl
  · have e1 : ps sg 45 p = p := by unfold ps; rw [if_neg s1]
    simp only [s1, decide_false, tI_f, n00, if_true, if_false, e1, f185, aBi, b203_20, tI_0]
    by_cases s2 : p.2 = -1
    · have hpk : sg p.1 = pk sg p := by unfold pk; rw [if_pos s2]
      simp only [s2, decide_true, Bool.true_eq_false, if_false, not_true_eq_false]
      rw [f188_52 hl ht h1 (by omega) (by omega), hsg, hpk]
      simp only [aBi]
      rw [b203_29]
      have rest : ∀ (a : Option aO), a = aBi (aF (e + 1) 181 [.int (pk sg p), .int 48, .int 57] (g, pM I p, J, aP1 sl 53 rl)) (fun x1 t1 => aE (e + 1) 203 75 [.ref 46, .int (nI deep), .int (pk sg p), aNo] [.int x1] t1) → rOK (e + 1) g I J sl 53 rl a (if lt8 (pk sg p) = -1 then ([(nm sg 2 p).1], (nm sg 2 p).2) else ([1000 + lt8 (pk sg p)], adv p)) := by
        rintro _ rfl
        rw [f181]
        simp only [aBi]
        rw [b203_75]
        unfold inI
        by_cases q1 : pk sg p < 48 ∨ ¬ pk sg p ≤ 57
        · have q2 : (if pk sg p < 48 then (0 : Int32) else if 57 < pk sg p then 0 else 1) = 0 := by
            rcases q1 with q | q
            · rw [if_pos q]
            · rw [if_pos (show 57 < pk sg p by rw [int_lt]; rw [int_le] at q; omega), ite_self]
          rw [q2, if_pos rfl, f204]
          simp only [aBi]
          rw [b203_88]
          by_cases q3 : lt8 (pk sg p) = -1
          · rw [if_pos q3, if_pos q3, pM_17, f186]
            simp only [aBv]
            rw [b203_100, nm_no (by omega) q1 s2]
            refine ⟨0, rfl, fun q => ?_⟩
            exfalso
            simp only at q
            unfold flt at q
            rw [if_pos s2] at q
            exact nI_m1 (by omega) q
          · rw [if_neg q3, if_neg q3, pM_17, nI_1, pM_u17, pM_o _ _ (by decide) (by decide)]
            obtain ⟨k, hk, q4⟩ : ∃ k, k < 8 ∧ lt8 (pk sg p) = nI k := by
              rcases lt8_ix (pk sg p) with q | q
              · exact absurd q q3
              · exact q
            by_cases q5 : I 46 23 = 0
            · rw [if_pos q5]
              exact ⟨0, rfl, fun _ q => absurd q5 q⟩
            · rw [if_neg q5, f204]
              simp only [aBi]
              rw [b203_127, q4]
              simp (disch := omega) only [pM_r, aBi, aBv, aBl, nI_1, nIle_t, nIle_f, nIlt_t, nIlt_f, nIeq_t, nIeq_f, nIneg, nI_clamp, nat_le_f, nat_le_t, nat_lt_f, nat_lt_t, or_self, or_false, false_or, if_true, if_false, ↓reduceIte, Int32.or_zero, Int32.add_zero, nIm2, nIm3, nIm4, nIp2, nIp4, nIp6, nIp8, nIp14, nIp16, nIp22, nIp24, nIp30, nIq2, nIq3, nIq4, hasI_0, aU_s, aU_i, aU_r, aU_u]
              refine ⟨I 57 k, rfl, fun _ _ S => ?_⟩
              rw [ev_thing _ hk]
        · have q2 : ¬ pk sg p < 48 := fun q => q1 (Or.inl q)
          have q3 : pk sg p ≤ 57 := Classical.byContradiction (fun q => q1 (Or.inr q))
          have q4 : ¬ 57 < pk sg p := by rw [int_lt]; rw [int_le] at q3; omega
          rw [if_neg q2, if_neg q4, if_neg (by decide), if_pos (lt8_dig q2 q3)]
          have q5 := f189_52 (d := e + 1) (g := g) (J := J) (sl := sl) (rl := rl) (I := I) (p := p) (len := len) (top := 40) (m := 2) hl ht h1 (by omega) hp hB (by decide)
          rw [hsg] at q5
          rw [show (3 : Int32) = nI (2 + 1) from rfl, q5]
          simp only [aBi]
          rw [b203_83]
          exact ⟨_, rfl, fun _ _ S => ev_num _ _ _ _⟩
      by_cases s3 : pk sg p = 40
      · by_cases s4 : deep < 4
        · have hlt := pkv hE s3 (by decide)
          rw [if_pos s3, if_neg (show ¬ 4 ≤ nI deep from nI_ge (a := 4) (by omega) (by decide)), if_pos ⟨s3, s4⟩, pM_17, nI_1, pM_u17, nI_1]
          obtain ⟨v, e2, e3⟩ := i0 e (deep + 1) (adv p) hlt (by show 6 * (41 - (p.1 + 1)) + 4 ≤ n; omega) (by show 41 ≤ e + (p.1 + 1); omega) (by omega)
          have hat := pc_at hE n 0 (deep + 1) [] (adv p) hlt
          rw [hsg] at e2 e3
          show rOK (e + 1) g I J sl 53 rl (aBi (aF e 200 [.ref 46, .int (nI (deep + 1))] (g, pM I (adv p), J, aP1 sl 53 rl)) _) _
          rw [e2]
          simp only [aBi]
          have q5 := f192_52 (d := e + 1) (g := g) (J := J) (sl := sl) (rl := rl) (I := I) (p := (pc sg n 0 (deep + 1) [] (adv p)).2) (len := len) (top := 40) (c := 41) hl ht h1 (by omega) (by omega) (by decide)
          rw [hsg] at q5
          rw [b203_58, q5]
          simp only [aBv]
          rw [b203_65]
          refine ⟨v, rfl, fun q1 q2 S => e3 ?_ q2 S⟩
          simp only at q1
          unfold nd at q1
          split at q1
          · exact q1
          · unfold flt at q1
            split at q1
            · assumption
            · exact q1
        · rw [if_pos s3, if_pos (show 4 ≤ nI deep from nI_le (a := 4) (by omega) (by omega)), if_neg (fun q => s4 q.2)]
          exact rest _ rfl
      · rw [if_neg s3, if_neg (fun q => s3 q.1)]
        exact rest _ rfl
    · simp only [s2, decide_false, if_true, not_false_eq_true]
      exact ⟨0, rfl, fun q => absurd q s2⟩
theorem t5_55 {len n : Nat} (hl : I 46 15 = nI len) (ht : I 46 16 = nI 40) (h1 : len ≤ 40) (hB : byR (I 55)) (i5 : rQ g I J sl 56 rl 55 len n 5 203 1) (i0 : rQ g I J sl 56 rl 55 len n 0 200 4) : rQ g I J sl 56 rl 55 len (n + 1) 5 203 1 := by
  intro d deep p hp hn hd hdp
  obtain ⟨e, rfl⟩ : ∃ e, d = e + 1 := ⟨d - 1, by omega⟩
  have hE := sgn_E (I 55) len 40
  rw [pc_5]
  show rOK (e + 1) g I J sl 56 rl (aE (e + 1) 203 0 [.ref 46, .int (nI deep), aNo, aNo] [] (g, pM I p, J, aP1 sl 56 rl)) _
  rw [b203_0, f191_55 hl ht h1 (by omega) (by omega) (by decide)]
  simp only [aBi]
  rw [b203_6]
  generalize hsg : sgn (I 55) len 40 = sg at *
  by_cases s1 : pk sg p = 45
  · have hlt := pkv hE s1 (by decide)
    have e1 : ps sg 45 p = adv p := by unfold ps; rw [if_pos s1]
    simp only [s1, decide_true, tI_t, n10, if_false, if_true, e1]
    obtain ⟨v, e2, e3⟩ := i5 e deep (adv p) hlt (by show 6 * (41 - (p.1 + 1)) + 1 ≤ n; omega) (by show 41 ≤ e + (p.1 + 1); omega) hdp
    rw [hsg] at e2 e3
    rw [e2]
    simp only [aBi]
    rw [b203_14]
    refine ⟨-v, rfl, fun q1 q2 S => ?_⟩
    rw [ev_app, e3 q1 q2]
    rfl
  · have e1 : ps sg 45 p = p := by unfold ps; rw [if_neg s1]
    simp only [s1, decide_false, tI_f, n00, if_true, if_false, e1, f185, aBi, b203_20, tI_0]
    by_cases s2 : p.2 = -1
    · have hpk : sg p.1 = pk sg p := by unfold pk; rw [if_pos s2]
      simp only [s2, decide_true, Bool.true_eq_false, if_false, not_true_eq_false]
      rw [f188_55 hl ht h1 (by omega) (by omega), hsg, hpk]
      simp only [aBi]
      rw [b203_29]
      have rest : ∀ (a : Option aO), a = aBi (aF (e + 1) 181 [.int (pk sg p), .int 48, .int 57] (g, pM I p, J, aP1 sl 56 rl)) (fun x1 t1 => aE (e + 1) 203 75 [.ref 46, .int (nI deep), .int (pk sg p), aNo] [.int x1] t1) → rOK (e + 1) g I J sl 56 rl a (if lt8 (pk sg p) = -1 then ([(nm sg 2 p).1], (nm sg 2 p).2) else ([1000 + lt8 (pk sg p)], adv p)) := by
        rintro _ rfl
        rw [f181]
        simp only [aBi]
        rw [b203_75]
        unfold inI
        by_cases q1 : pk sg p < 48 ∨ ¬ pk sg p ≤ 57
        · have q2 : (if pk sg p < 48 then (0 : Int32) else if 57 < pk sg p then 0 else 1) = 0 := by
            rcases q1 with q | q
            · rw [if_pos q]
            · rw [if_pos (show 57 < pk sg p by rw [int_lt]; rw [int_le] at q; omega), ite_self]
          rw [q2, if_pos rfl, f204]
          simp only [aBi]
          rw [b203_88]
          by_cases q3 : lt8 (pk sg p) = -1
          · rw [if_pos q3, if_pos q3, pM_17, f186]
            simp only [aBv]
            rw [b203_100, nm_no (by omega) q1 s2]
            refine ⟨0, rfl, fun q => ?_⟩
            exfalso
            simp only at q
            unfold flt at q
            rw [if_pos s2] at q
            exact nI_m1 (by omega) q
          · rw [if_neg q3, if_neg q3, pM_17, nI_1, pM_u17, pM_o _ _ (by decide) (by decide)]
            obtain ⟨k, hk, q4⟩ : ∃ k, k < 8 ∧ lt8 (pk sg p) = nI k := by
              rcases lt8_ix (pk sg p) with q | q
              · exact absurd q q3
              · exact q
            by_cases q5 : I 46 23 = 0
            · rw [if_pos q5]
              exact ⟨0, rfl, fun _ q => absurd q5 q⟩
            · rw [if_neg q5, f204]
              simp only [aBi]
              rw [b203_127, q4]
              simp (disch := omega) only [pM_r, aBi, aBv, aBl, nI_1, nIle_t, nIle_f, nIlt_t, nIlt_f, nIeq_t, nIeq_f, nIneg, nI_clamp, nat_le_f, nat_le_t, nat_lt_f, nat_lt_t, or_self, or_false, false_or, if_true, if_false, ↓reduceIte, Int32.or_zero, Int32.add_zero, nIm2, nIm3, nIm4, nIp2, nIp4, nIp6, nIp8, nIp14, nIp16, nIp22, nIp24, nIp30, nIq2, nIq3, nIq4, hasI_0, aU_s, aU_i, aU_r, aU_u]
              refine ⟨I 57 k, rfl, fun _ _ S => ?_⟩
              rw [ev_thing _ hk]
        · have q2 : ¬ pk sg p < 48 := fun q => q1 (Or.inl q)
          have q3 : pk sg p ≤ 57 := Classical.byContradiction (fun q => q1 (Or.inr q))
          have q4 : ¬ 57 < pk sg p := by rw [int_lt]; rw [int_le] at q3; omega
          rw [if_neg q2, if_neg q4, if_neg (by decide), if_pos (lt8_dig q2 q3)]
          have q5 := f189_55 (d := e + 1) (g := g) (J := J) (sl := sl) (rl := rl) (I := I) (p := p) (len := len) (top := 40) (m := 2) hl ht h1 (by omega) hp hB (by decide)
          rw [hsg] at q5
          rw [show (3 : Int32) = nI (2 + 1) from rfl, q5]
          simp only [aBi]
          rw [b203_83]
          exact ⟨_, rfl, fun _ _ S => ev_num _ _ _ _⟩
      by_cases s3 : pk sg p = 40
      · by_cases s4 : deep < 4
        · have hlt := pkv hE s3 (by decide)
          rw [if_pos s3, if_neg (show ¬ 4 ≤ nI deep from nI_ge (a := 4) (by omega) (by decide)), if_pos ⟨s3, s4⟩, pM_17, nI_1, pM_u17, nI_1]
          obtain ⟨v, e2, e3⟩ := i0 e (deep + 1) (adv p) hlt (by show 6 * (41 - (p.1 + 1)) + 4 ≤ n; omega) (by show 41 ≤ e + (p.1 + 1); omega) (by omega)
          have hat := pc_at hE n 0 (deep + 1) [] (adv p) hlt
          rw [hsg] at e2 e3
          show rOK (e + 1) g I J sl 56 rl (aBi (aF e 200 [.ref 46, .int (nI (deep + 1))] (g, pM I (adv p), J, aP1 sl 56 rl)) _) _
          rw [e2]
          simp only [aBi]
          have q5 := f192_55 (d := e + 1) (g := g) (J := J) (sl := sl) (rl := rl) (I := I) (p := (pc sg n 0 (deep + 1) [] (adv p)).2) (len := len) (top := 40) (c := 41) hl ht h1 (by omega) (by omega) (by decide)
          rw [hsg] at q5
          rw [b203_58, q5]
          simp only [aBv]
          rw [b203_65]
          refine ⟨v, rfl, fun q1 q2 S => e3 ?_ q2 S⟩
          simp only at q1
          unfold nd at q1
          split at q1
          · exact q1
          · unfold flt at q1
            split at q1
            · assumption
            · exact q1
        · rw [if_pos s3, if_pos (show 4 ≤ nI deep from nI_le (a := 4) (by omega) (by omega)), if_neg (fun q => s4 q.2)]
          exact rest _ rfl
      · rw [if_neg s3, if_neg (fun q => s3 q.1)]
        exact rest _ rfl
    · simp only [s2, decide_false, if_true, not_false_eq_true]
      exact ⟨0, rfl, fun q => absurd q s2⟩
theorem t5_56 {len n : Nat} (hl : I 46 15 = nI len) (ht : I 46 16 = nI 40) (h1 : len ≤ 40) (hB : byR (I 56)) (i5 : rQ g I J sl 57 rl 56 len n 5 203 1) (i0 : rQ g I J sl 57 rl 56 len n 0 200 4) : rQ g I J sl 57 rl 56 len (n + 1) 5 203 1 := by
  intro d deep p hp hn hd hdp
  obtain ⟨e, rfl⟩ : ∃ e, d = e + 1 := ⟨d - 1, by omega⟩
  have hE := sgn_E (I 56) len 40
  rw [pc_5]
  show rOK (e + 1) g I J sl 57 rl (aE (e + 1) 203 0 [.ref 46, .int (nI deep), aNo, aNo] [] (g, pM I p, J, aP1 sl 57 rl)) _
  rw [b203_0, f191_56 hl ht h1 (by omega) (by omega) (by decide)]
  simp only [aBi]
  rw [b203_6]
  generalize hsg : sgn (I 56) len 40 = sg at *
  by_cases s1 : pk sg p = 45
  · have hlt := pkv hE s1 (by decide)
    have e1 : ps sg 45 p = adv p := by unfold ps; rw [if_pos s1]
    simp only [s1, decide_true, tI_t, n10, if_false, if_true, e1]
    obtain ⟨v, e2, e3⟩ := i5 e deep (adv p) hlt (by show 6 * (41 - (p.1 + 1)) + 1 ≤ n; omega) (by show 41 ≤ e + (p.1 + 1); omega) hdp
    rw [hsg] at e2 e3
    rw [e2]
    simp only [aBi]
    rw [b203_14]
    refine ⟨-v, rfl, fun q1 q2 S => ?_⟩
    rw [ev_app, e3 q1 q2]
    rfl
  · have e1 : ps sg 45 p = p := by unfold ps; rw [if_neg s1]
    simp only [s1, decide_false, tI_f, n00, if_true, if_false, e1, f185, aBi, b203_20, tI_0]
    by_cases s2 : p.2 = -1
    · have hpk : sg p.1 = pk sg p := by unfold pk; rw [if_pos s2]
      simp only [s2, decide_true, Bool.true_eq_false, if_false, not_true_eq_false]
      rw [f188_56 hl ht h1 (by omega) (by omega), hsg, hpk]
      simp only [aBi]
      rw [b203_29]
      have rest : ∀ (a : Option aO), a = aBi (aF (e + 1) 181 [.int (pk sg p), .int 48, .int 57] (g, pM I p, J, aP1 sl 57 rl)) (fun x1 t1 => aE (e + 1) 203 75 [.ref 46, .int (nI deep), .int (pk sg p), aNo] [.int x1] t1) → rOK (e + 1) g I J sl 57 rl a (if lt8 (pk sg p) = -1 then ([(nm sg 2 p).1], (nm sg 2 p).2) else ([1000 + lt8 (pk sg p)], adv p)) := by
        rintro _ rfl
        rw [f181]
        simp only [aBi]
        rw [b203_75]
        unfold inI
        by_cases q1 : pk sg p < 48 ∨ ¬ pk sg p ≤ 57
        · have q2 : (if pk sg p < 48 then (0 : Int32) else if 57 < pk sg p then 0 else 1) = 0 := by
            rcases q1 with q | q
            · rw [if_pos q]
            · rw [if_pos (show 57 < pk sg p by rw [int_lt]; rw [int_le] at q; omega), ite_self]
          rw [q2, if_pos rfl, f204]
          simp only [aBi]
          rw [b203_88]
          by_cases q3 : lt8 (pk sg p) = -1
          · rw [if_pos q3, if_pos q3, pM_17, f186]
            simp only [aBv]
            rw [b203_100, nm_no (by omega) q1 s2]
            refine ⟨0, rfl, fun q => ?_⟩
            exfalso
            simp only at q
            unfold flt at q
            rw [if_pos s2] at q
            exact nI_m1 (by omega) q
          · rw [if_neg q3, if_neg q3, pM_17, nI_1, pM_u17, pM_o _ _ (by decide) (by decide)]
            obtain ⟨k, hk, q4⟩ : ∃ k, k < 8 ∧ lt8 (pk sg p) = nI k := by
              rcases lt8_ix (pk sg p) with q | q
              · exact absurd q q3
              · exact q
            by_cases q5 : I 46 23 = 0
            · rw [if_pos q5]
              exact ⟨0, rfl, fun _ q => absurd q5 q⟩
            · rw [if_neg q5, f204]
              simp only [aBi]
              rw [b203_127, q4]
              simp (disch := omega) only [pM_r, aBi, aBv, aBl, nI_1, nIle_t, nIle_f, nIlt_t, nIlt_f, nIeq_t, nIeq_f, nIneg, nI_clamp, nat_le_f, nat_le_t, nat_lt_f, nat_lt_t, or_self, or_false, false_or, if_true, if_false, ↓reduceIte, Int32.or_zero, Int32.add_zero, nIm2, nIm3, nIm4, nIp2, nIp4, nIp6, nIp8, nIp14, nIp16, nIp22, nIp24, nIp30, nIq2, nIq3, nIq4, hasI_0, aU_s, aU_i, aU_r, aU_u]
              refine ⟨I 57 k, rfl, fun _ _ S => ?_⟩
              rw [ev_thing _ hk]
        · have q2 : ¬ pk sg p < 48 := fun q => q1 (Or.inl q)
          have q3 : pk sg p ≤ 57 := Classical.byContradiction (fun q => q1 (Or.inr q))
          have q4 : ¬ 57 < pk sg p := by rw [int_lt]; rw [int_le] at q3; omega
          rw [if_neg q2, if_neg q4, if_neg (by decide), if_pos (lt8_dig q2 q3)]
          have q5 := f189_56 (d := e + 1) (g := g) (J := J) (sl := sl) (rl := rl) (I := I) (p := p) (len := len) (top := 40) (m := 2) hl ht h1 (by omega) hp hB (by decide)
          rw [hsg] at q5
          rw [show (3 : Int32) = nI (2 + 1) from rfl, q5]
          simp only [aBi]
          rw [b203_83]
          exact ⟨_, rfl, fun _ _ S => ev_num _ _ _ _⟩
      by_cases s3 : pk sg p = 40
      · by_cases s4 : deep < 4
        · have hlt := pkv hE s3 (by decide)
          rw [if_pos s3, if_neg (show ¬ 4 ≤ nI deep from nI_ge (a := 4) (by omega) (by decide)), if_pos ⟨s3, s4⟩, pM_17, nI_1, pM_u17, nI_1]
          obtain ⟨v, e2, e3⟩ := i0 e (deep + 1) (adv p) hlt (by show 6 * (41 - (p.1 + 1)) + 4 ≤ n; omega) (by show 41 ≤ e + (p.1 + 1); omega) (by omega)
          have hat := pc_at hE n 0 (deep + 1) [] (adv p) hlt
          rw [hsg] at e2 e3
          show rOK (e + 1) g I J sl 57 rl (aBi (aF e 200 [.ref 46, .int (nI (deep + 1))] (g, pM I (adv p), J, aP1 sl 57 rl)) _) _
          rw [e2]
          simp only [aBi]
          have q5 := f192_56 (d := e + 1) (g := g) (J := J) (sl := sl) (rl := rl) (I := I) (p := (pc sg n 0 (deep + 1) [] (adv p)).2) (len := len) (top := 40) (c := 41) hl ht h1 (by omega) (by omega) (by decide)
          rw [hsg] at q5
          rw [b203_58, q5]
          simp only [aBv]
          rw [b203_65]
          refine ⟨v, rfl, fun q1 q2 S => e3 ?_ q2 S⟩
          simp only at q1
          unfold nd at q1
          split at q1
          · exact q1
          · unfold flt at q1
            split at q1
            · assumption
            · exact q1
        · rw [if_pos s3, if_pos (show 4 ≤ nI deep from nI_le (a := 4) (by omega) (by omega)), if_neg (fun q => s4 q.2)]
          exact rest _ rfl
      · rw [if_neg s3, if_neg (fun q => s3 q.1)]
        exact rest _ rfl
    · simp only [s2, decide_false, if_true, not_false_eq_true]
      exact ⟨0, rfl, fun q => absurd q s2⟩
theorem jt42 (a b : Int32) : jt 42 a b = a * b := rfl
theorem jt43 (a b : Int32) : jt 43 a b = a + b := rfl
theorem jt45 (a b : Int32) : jt 45 a b = a - b := rfl
theorem jt47 (a b : Int32) : jt 47 a b = if b = 0 then 0 else a / b := rfl
theorem jt60 (a b : Int32) : jt 60 a b = if b ≤ a then 0 else 1 := rfl
theorem jt62 (a b : Int32) : jt 62 a b = if a ≤ b then 0 else 1 := rfl
theorem jt61 (a b : Int32) : jt 61 a b = if a = b then 1 else 0 := rfl
theorem evs (t : Nat → Int32) {a b : List Int32} {v w s : Int32} (S : List Int32) (ha : ev t a S = v :: S) (hb : ∀ S, ev t b S = w :: S) (h : 2000 ≤ 2000 + s) (h2 : ¬ 2000 + s = 2256) : ev t (a ++ b ++ [2000 + s]) S = jt s v w :: S := by
  rw [ev_app, ev_app, ha, hb, ev_sign _ _ _ _ _ h h2]
theorem t4_52 {len n : Nat} (hl : I 46 15 = nI len) (ht : I 46 16 = nI 40) (h1 : len ≤ 80) (i5 : rQ g I J sl 53 rl 52 len n 5 203 1) (i4 : rL g I J sl 53 rl 52 len n 4 202 1) : rL g I J sl 53 rl 52 len (n + 1) 4 202 1 := by
  intro d deep p a v w3 w4 hp hn hd hdp ha
  have hE := sgn_E (I 52) len 40
  rw [pc_4, b202_6, f185]
  simp only [aBi]
  rw [b202_10]
  generalize hsg : sgn (I 52) len 40 = sg at *
  by_cases s2 : p.2 = -1
  · have hpk : sg p.1 = pk sg p := by unfold pk; rw [if_pos s2]
    have hh := f188_52 (d := d) (g := g) (J := J) (sl := sl) (rl := rl) (I := I) (p := p) (len := len) (top := 40) hl ht h1 (by omega) (by omega)
    rw [hsg, hpk] at hh
    simp only [s2, decide_true, tI_t, n10, if_false, hh, aBi, b202_17, b202_35, b202_26, pM_17, nI_1, pM_u17]
    have go : ∀ s, pk sg p = s → ¬ s = -1 → ∀ (F : Int32 → aS → Option aO) (X : Option aO) (q : Int32 → Int32), X = aBi (aF d 203 [.ref 46, .int (nI deep)] (g, pM I (adv p), J, aP1 sl 53 rl)) F → (∀ w, ∃ w3 w4, F w (g, pM I (pc sg n 5 deep [] (adv p)).2, J, aP1 sl 53 rl) = aE d 202 6 [.ref 46, .int (nI deep), .int (q w), w3, w4] [] (g, pM I (pc sg n 5 deep [] (adv p)).2, J, aP1 sl 53 rl)) → (∀ w, q w = jt s v w) → 2000 ≤ 2000 + s → ¬ 2000 + s = 2256 → rOK d g I J sl 53 rl X (pc sg n 4 deep (a ++ (pc sg n 5 deep [] (adv p)).1 ++ [2000 + s]) (pc sg n 5 deep [] (adv p)).2) := by
      intro s hs hs1 F X q hX hF hq k1 k2
      have hlt := pkv hE hs hs1
      obtain ⟨w, e2, e3⟩ := i5 d deep (adv p) hlt (by show 6 * (41 - (p.1 + 1)) + 1 ≤ n; omega) (by show 41 ≤ d + (p.1 + 1); omega) hdp
      rw [hsg] at e2 e3
      have hat := pc_at hE n 5 deep [] (adv p) hlt
      have hat1 : p.1 + 1 ≤ (pc sg n 5 deep [] (adv p)).2.1 := hat.1
      rw [hX, e2]
      simp only [aBi]
      obtain ⟨u3, u4, e4⟩ := hF w
      rw [e4]
      have e5 := i4 d deep (pc sg n 5 deep [] (adv p)).2 (a ++ (pc sg n 5 deep [] (adv p)).1 ++ [2000 + s]) (q w) u3 u4 hat.2 (by omega) (by omega) hdp (fun q1 q2 S => by
        rw [hq]
        exact evs _ S (ha s2 q2 S) (e3 q1 q2) k1 k2)
      rw [hsg] at e5
      exact e5
    by_cases s3 : pk sg p = 42
    · simp only [s3, if_true, true_or]
      refine go 42 s3 (by decide) _ _ (fun w => v * w) rfl (fun w => ⟨_, _, ?_⟩) (fun w => rfl) (by decide) (by decide)
      rw [b202_61, if_neg (by decide)]
    · by_cases s4 : pk sg p = 47
      · simp only [s4, if_true, or_true, show ((47 : Int32) = 42) = False from by decide, if_false]
        refine go 47 s4 (by decide) _ _ (fun w => if w = 0 then 0 else v / w) rfl (fun w => ⟨_, _, ?_⟩) (fun w => rfl) (by decide) (by decide)
        rw [b202_61, if_pos rfl]
        by_cases hw : w = 0
        · rw [if_pos hw, if_pos hw]
        · rw [if_neg hw, if_neg hw, if_neg hw]
      · simp only [s3, s4, if_false, or_self]
        exact ⟨v, rfl, fun q1 q2 S => ha q1 q2 S⟩
  · have hpk : pk sg p = -1 := by unfold pk; rw [if_neg s2]
    simp only [s2, decide_false, tI_f, n00, if_true, hpk, show ((-1 : Int32) = 42) = False from by decide, show ((-1 : Int32) = 47) = False from by decide, or_self, if_false]
    exact ⟨v, rfl, fun q => absurd q s2⟩
theorem t2_52 {len n : Nat} (hl : I 46 15 = nI len) (ht : I 46 16 = nI 40) (h1 : len ≤ 80) (i5 : rQ g I J sl 53 rl 52 len n 3 202 2) (i4 : rL g I J sl 53 rl 52 len n 2 201 1) : rL g I J sl 53 rl 52 len (n + 1) 2 201 1 := by
  intro d deep p a v w3 w4 hp hn hd hdp ha
  have hE := sgn_E (I 52) len 40
  rw [pc_2, b201_6, f185]
  simp only [aBi]
  rw [b201_10]
  generalize hsg : sgn (I 52) len 40 = sg at *
  by_cases s2 : p.2 = -1
  · have hpk : sg p.1 = pk sg p := by unfold pk; rw [if_pos s2]
    have hh := f188_52 (d := d) (g := g) (J := J) (sl := sl) (rl := rl) (I := I) (p := p) (len := len) (top := 40) hl ht h1 (by omega) (by omega)
    rw [hsg, hpk] at hh
    simp only [s2, decide_true, tI_t, n10, if_false, hh, aBi, b201_17, b201_35, b201_26, pM_17, nI_1, pM_u17]
    have go : ∀ s, pk sg p = s → ¬ s = -1 → ∀ (F : Int32 → aS → Option aO) (X : Option aO) (q : Int32 → Int32), X = aBi (aF d 202 [.ref 46, .int (nI deep)] (g, pM I (adv p), J, aP1 sl 53 rl)) F → (∀ w, ∃ w3 w4, F w (g, pM I (pc sg n 3 deep [] (adv p)).2, J, aP1 sl 53 rl) = aE d 201 6 [.ref 46, .int (nI deep), .int (q w), w3, w4] [] (g, pM I (pc sg n 3 deep [] (adv p)).2, J, aP1 sl 53 rl)) → (∀ w, q w = jt s v w) → 2000 ≤ 2000 + s → ¬ 2000 + s = 2256 → rOK d g I J sl 53 rl X (pc sg n 2 deep (a ++ (pc sg n 3 deep [] (adv p)).1 ++ [2000 + s]) (pc sg n 3 deep [] (adv p)).2) := by
      intro s hs hs1 F X q hX hF hq k1 k2
      have hlt := pkv hE hs hs1
      obtain ⟨w, e2, e3⟩ := i5 d deep (adv p) hlt (by show 6 * (41 - (p.1 + 1)) + 2 ≤ n; omega) (by show 41 ≤ d + (p.1 + 1); omega) hdp
      rw [hsg] at e2 e3
      have hat := pc_at hE n 3 deep [] (adv p) hlt
      have hat1 : p.1 + 1 ≤ (pc sg n 3 deep [] (adv p)).2.1 := hat.1
      rw [hX, e2]
      simp only [aBi]
      obtain ⟨u3, u4, e4⟩ := hF w
      rw [e4]
      have e5 := i4 d deep (pc sg n 3 deep [] (adv p)).2 (a ++ (pc sg n 3 deep [] (adv p)).1 ++ [2000 + s]) (q w) u3 u4 hat.2 (by omega) (by omega) hdp (fun q1 q2 S => by
        rw [hq]
        exact evs _ S (ha s2 q2 S) (e3 q1 q2) k1 k2)
      rw [hsg] at e5
      exact e5
    by_cases s3 : pk sg p = 43
    · simp only [s3, if_true, true_or]
      refine go 43 s3 (by decide) _ _ (fun w => v + w) rfl (fun w => ⟨_, _, ?_⟩) (fun w => rfl) (by decide) (by decide)
      rw [b201_61, if_neg (by decide)]
    · by_cases s4 : pk sg p = 45
      · simp only [s4, if_true, or_true, show ((45 : Int32) = 43) = False from by decide, if_false]
        refine go 45 s4 (by decide) _ _ (fun w => v - w) rfl (fun w => ⟨_, _, ?_⟩) (fun w => rfl) (by decide) (by decide)
        rw [b201_61, if_pos rfl]
      · simp only [s3, s4, if_false, or_self]
        exact ⟨v, rfl, fun q1 q2 S => ha q1 q2 S⟩
  · have hpk : pk sg p = -1 := by unfold pk; rw [if_neg s2]
    simp only [s2, decide_false, tI_f, n00, if_true, hpk, show ((-1 : Int32) = 43) = False from by decide, show ((-1 : Int32) = 45) = False from by decide, or_self, if_false]
    exact ⟨v, rfl, fun q => absurd q s2⟩
theorem t3_52 {len n : Nat} (i5 : rQ g I J sl 53 rl 52 len n 5 203 1) (i4 : rL g I J sl 53 rl 52 len n 4 202 1) : rQ g I J sl 53 rl 52 len (n + 1) 3 202 2 := by
  intro d deep p hp hn hd hdp
  have hE := sgn_E (I 52) len 40
  rw [pc_3]
  show rOK d g I J sl 53 rl (aE d 202 0 [.ref 46, .int (nI deep), aNo, aNo, aNo] [] (g, pM I p, J, aP1 sl 53 rl)) _
  obtain ⟨w, e2, e3⟩ := i5 d deep p hp (by omega) hd hdp
  have hat := pc_at hE n 5 deep [] p hp
  rw [b202_0, e2]
  simp only [aBi]
  rw [b202_5]
  exact i4 d deep _ _ _ _ _ hat.2 (by omega) (by omega) hdp e3
theorem t1_52 {len n : Nat} (i5 : rQ g I J sl 53 rl 52 len n 3 202 2) (i4 : rL g I J sl 53 rl 52 len n 2 201 1) : rQ g I J sl 53 rl 52 len (n + 1) 1 201 3 := by
  intro d deep p hp hn hd hdp
  have hE := sgn_E (I 52) len 40
  rw [pc_1]
  show rOK d g I J sl 53 rl (aE d 201 0 [.ref 46, .int (nI deep), aNo, aNo, aNo] [] (g, pM I p, J, aP1 sl 53 rl)) _
  obtain ⟨w, e2, e3⟩ := i5 d deep p hp (by omega) hd hdp
  have hat := pc_at hE n 3 deep [] p hp
  rw [b201_0, e2]
  simp only [aBi]
  rw [b201_5]
  exact i4 d deep _ _ _ _ _ hat.2 (by omega) (by omega) hdp e3
theorem t0_52 {len n : Nat} (hl : I 46 15 = nI len) (ht : I 46 16 = nI 40) (h1 : len ≤ 80) (i1 : rQ g I J sl 53 rl 52 len n 1 201 3) : rQ g I J sl 53 rl 52 len (n + 1) 0 200 4 := by
  intro d deep p hp hn hd hdp
  have hE := sgn_E (I 52) len 40
  rw [pc_0]
  show rOK d g I J sl 53 rl (aE d 200 0 [.ref 46, .int (nI deep), aNo] [] (g, pM I p, J, aP1 sl 53 rl)) _
  obtain ⟨v, e2, e3⟩ := i1 d deep p hp (by omega) hd hdp
  have hat := pc_at hE n 1 deep [] p hp
  rw [b200_0, e2]
  simp only [aBi]
  rw [b200_5]
  generalize hsg : sgn (I 52) len 40 = sg at *
  generalize hr : pc sg n 1 deep [] p = r at *
  have hh (c : Int32) (hc : 0 ≤ c) := f191_52 (d := d) (g := g) (J := J) (sl := sl) (rl := rl) (I := I) (p := r.2) (len := len) (top := 40) hl ht h1 (by omega) (by omega) hc
  rw [hsg] at hh
  have two : ∀ s, pk sg r.2 = s → ¬ s = -1 → ∀ (F : Int32 → aS → Option aO) (q : Int32 → Int32), (∀ w, F w (g, pM I (pc sg n 1 deep [] (adv r.2)).2, J, aP1 sl 53 rl) = some (some (some (.int (q w))), (g, pM I (pc sg n 1 deep [] (adv r.2)).2, J, aP1 sl 53 rl))) → (∀ w, q w = jt s v w) → 2000 ≤ 2000 + s → ¬ 2000 + s = 2256 → rOK d g I J sl 53 rl (aBi (aF d 201 [.ref 46, .int (nI deep)] (g, pM I (adv r.2), J, aP1 sl 53 rl)) F) (r.1 ++ (pc sg n 1 deep [] (adv r.2)).1 ++ [2000 + s], (pc sg n 1 deep [] (adv r.2)).2) := by
    intro s hs hs1 F q hF hq k1 k2
    have hlt := pkv hE hs hs1
    obtain ⟨w, e4, e5⟩ := i1 d deep (adv r.2) hlt (by show 6 * (41 - (r.2.1 + 1)) + 3 ≤ n; omega) (by show 41 ≤ d + (r.2.1 + 1); omega) hdp
    rw [hsg] at e4 e5
    rw [e4]
    simp only [aBi]
    rw [hF]
    refine ⟨q w, rfl, fun q1 q2 S => ?_⟩
    rw [hq]
    exact evs _ S (e3 (pk_fine (by rw [hs]; exact hs1)) q2 S) (e5 q1 q2) k1 k2
  have no (c : Int32) (h : ¬ pk sg r.2 = c) : ps sg c r.2 = r.2 := by unfold ps; rw [if_neg h]
  have ye (c : Int32) (h : pk sg r.2 = c) : ps sg c r.2 = adv r.2 := by unfold ps; rw [if_pos h]
  rw [hh 60 (by decide)]
  simp only [aBi]
  rw [b200_12]
  by_cases s1 : pk sg r.2 = 60
  · rw [ye 60 s1]
    simp only [s1, decide_true, tI_t, n10, if_false, true_or, if_true]
    refine two 60 s1 (by decide) _ (fun w => if w ≤ v then 0 else 1) (fun w => ?_) (fun w => rfl) (by decide) (by decide)
    rw [b200_21]
    split <;> rfl
  · rw [no 60 s1]
    simp only [s1, decide_false, tI_f, n00, if_true, false_or]
    rw [hh 62 (by decide)]
    simp only [aBi]
    rw [b200_36]
    by_cases s2 : pk sg r.2 = 62
    · rw [ye 62 s2]
      simp only [s2, decide_true, tI_t, n10, if_false, true_or, if_true]
      refine two 62 s2 (by decide) _ (fun w => if v ≤ w then 0 else 1) (fun w => ?_) (fun w => rfl) (by decide) (by decide)
      rw [b200_45]
      split <;> rfl
    · rw [no 62 s2]
      simp only [s2, decide_false, tI_f, n00, if_true, false_or]
      rw [hh 61 (by decide)]
      simp only [aBi]
      rw [b200_60]
      by_cases s3 : pk sg r.2 = 61
      · rw [ye 61 s3]
        simp only [s3, decide_true, tI_t, n10, if_false, if_true]
        refine two 61 s3 (by decide) _ (fun w => if v = w then 1 else 0) (fun w => ?_) (fun w => rfl) (by decide) (by decide)
        rw [b200_69]
        split <;> rfl
      · rw [no 61 s3]
        simp only [s3, decide_false, tI_f, n00, if_true, if_false]
        exact ⟨v, rfl, e3⟩
theorem rAll_52 {len : Nat} (hl : I 46 15 = nI len) (ht : I 46 16 = nI 40) (h1 : len ≤ 80) (hB : byR (I 52)) : ∀ n, rQ g I J sl 53 rl 52 len n 0 200 4 ∧ rQ g I J sl 53 rl 52 len n 1 201 3 ∧ rL g I J sl 53 rl 52 len n 2 201 1 ∧ rQ g I J sl 53 rl 52 len n 3 202 2 ∧ rL g I J sl 53 rl 52 len n 4 202 1 ∧ rQ g I J sl 53 rl 52 len n 5 203 1 := by
  intro n
  induction n with
  | zero =>
    refine ⟨?_, ?_, ?_, ?_, ?_, ?_⟩ <;> intro d deep p
    · intro h1 h2; omega
    · intro h1 h2; omega
    · intro a v w3 w4 h1 h2; omega
    · intro h1 h2; omega
    · intro a v w3 w4 h1 h2; omega
    · intro h1 h2; omega
  | succ n ih =>
    obtain ⟨i0, i1, i2, i3, i4, i5⟩ := ih
    exact ⟨t0_52 hl ht h1 i1, t1_52 i3 i2, t2_52 hl ht h1 i3 i2, t3_52 i5 i4, t4_52 hl ht h1 i5 i4, t5_52 hl ht h1 hB i5 i0⟩
theorem t4_55 {len n : Nat} (hl : I 46 15 = nI len) (ht : I 46 16 = nI 40) (h1 : len ≤ 40) (i5 : rQ g I J sl 56 rl 55 len n 5 203 1) (i4 : rL g I J sl 56 rl 55 len n 4 202 1) : rL g I J sl 56 rl 55 len (n + 1) 4 202 1 := by
  intro d deep p a v w3 w4 hp hn hd hdp ha
  have hE := sgn_E (I 55) len 40
  rw [pc_4, b202_6, f185]
  simp only [aBi]
  rw [b202_10]
  generalize hsg : sgn (I 55) len 40 = sg at *
  by_cases s2 : p.2 = -1
  · have hpk : sg p.1 = pk sg p := by unfold pk; rw [if_pos s2]
    have hh := f188_55 (d := d) (g := g) (J := J) (sl := sl) (rl := rl) (I := I) (p := p) (len := len) (top := 40) hl ht h1 (by omega) (by omega)
    rw [hsg, hpk] at hh
    simp only [s2, decide_true, tI_t, n10, if_false, hh, aBi, b202_17, b202_35, b202_26, pM_17, nI_1, pM_u17]
    have go : ∀ s, pk sg p = s → ¬ s = -1 → ∀ (F : Int32 → aS → Option aO) (X : Option aO) (q : Int32 → Int32), X = aBi (aF d 203 [.ref 46, .int (nI deep)] (g, pM I (adv p), J, aP1 sl 56 rl)) F → (∀ w, ∃ w3 w4, F w (g, pM I (pc sg n 5 deep [] (adv p)).2, J, aP1 sl 56 rl) = aE d 202 6 [.ref 46, .int (nI deep), .int (q w), w3, w4] [] (g, pM I (pc sg n 5 deep [] (adv p)).2, J, aP1 sl 56 rl)) → (∀ w, q w = jt s v w) → 2000 ≤ 2000 + s → ¬ 2000 + s = 2256 → rOK d g I J sl 56 rl X (pc sg n 4 deep (a ++ (pc sg n 5 deep [] (adv p)).1 ++ [2000 + s]) (pc sg n 5 deep [] (adv p)).2) := by
      intro s hs hs1 F X q hX hF hq k1 k2
      have hlt := pkv hE hs hs1
      obtain ⟨w, e2, e3⟩ := i5 d deep (adv p) hlt (by show 6 * (41 - (p.1 + 1)) + 1 ≤ n; omega) (by show 41 ≤ d + (p.1 + 1); omega) hdp
      rw [hsg] at e2 e3
      have hat := pc_at hE n 5 deep [] (adv p) hlt
      have hat1 : p.1 + 1 ≤ (pc sg n 5 deep [] (adv p)).2.1 := hat.1
      rw [hX, e2]
      simp only [aBi]
      obtain ⟨u3, u4, e4⟩ := hF w
      rw [e4]
      have e5 := i4 d deep (pc sg n 5 deep [] (adv p)).2 (a ++ (pc sg n 5 deep [] (adv p)).1 ++ [2000 + s]) (q w) u3 u4 hat.2 (by omega) (by omega) hdp (fun q1 q2 S => by
        rw [hq]
        exact evs _ S (ha s2 q2 S) (e3 q1 q2) k1 k2)
      rw [hsg] at e5
      exact e5
    by_cases s3 : pk sg p = 42
    · simp only [s3, if_true, true_or]
      refine go 42 s3 (by decide) _ _ (fun w => v * w) rfl (fun w => ⟨_, _, ?_⟩) (fun w => rfl) (by decide) (by decide)
      rw [b202_61, if_neg (by decide)]
    · by_cases s4 : pk sg p = 47
      · simp only [s4, if_true, or_true, show ((47 : Int32) = 42) = False from by decide, if_false]
        refine go 47 s4 (by decide) _ _ (fun w => if w = 0 then 0 else v / w) rfl (fun w => ⟨_, _, ?_⟩) (fun w => rfl) (by decide) (by decide)
        rw [b202_61, if_pos rfl]
        by_cases hw : w = 0
        · rw [if_pos hw, if_pos hw]
        · rw [if_neg hw, if_neg hw, if_neg hw]
      · simp only [s3, s4, if_false, or_self]
        exact ⟨v, rfl, fun q1 q2 S => ha q1 q2 S⟩
  · have hpk : pk sg p = -1 := by unfold pk; rw [if_neg s2]
    simp only [s2, decide_false, tI_f, n00, if_true, hpk, show ((-1 : Int32) = 42) = False from by decide, show ((-1 : Int32) = 47) = False from by decide, or_self, if_false]
    exact ⟨v, rfl, fun q => absurd q s2⟩
theorem t2_55 {len n : Nat} (hl : I 46 15 = nI len) (ht : I 46 16 = nI 40) (h1 : len ≤ 40) (i5 : rQ g I J sl 56 rl 55 len n 3 202 2) (i4 : rL g I J sl 56 rl 55 len n 2 201 1) : rL g I J sl 56 rl 55 len (n + 1) 2 201 1 := by
  intro d deep p a v w3 w4 hp hn hd hdp ha
  have hE := sgn_E (I 55) len 40
  rw [pc_2, b201_6, f185]
  simp only [aBi]
  rw [b201_10]
  generalize hsg : sgn (I 55) len 40 = sg at *
  by_cases s2 : p.2 = -1
  · have hpk : sg p.1 = pk sg p := by unfold pk; rw [if_pos s2]
    have hh := f188_55 (d := d) (g := g) (J := J) (sl := sl) (rl := rl) (I := I) (p := p) (len := len) (top := 40) hl ht h1 (by omega) (by omega)
    rw [hsg, hpk] at hh
    simp only [s2, decide_true, tI_t, n10, if_false, hh, aBi, b201_17, b201_35, b201_26, pM_17, nI_1, pM_u17]
    have go : ∀ s, pk sg p = s → ¬ s = -1 → ∀ (F : Int32 → aS → Option aO) (X : Option aO) (q : Int32 → Int32), X = aBi (aF d 202 [.ref 46, .int (nI deep)] (g, pM I (adv p), J, aP1 sl 56 rl)) F → (∀ w, ∃ w3 w4, F w (g, pM I (pc sg n 3 deep [] (adv p)).2, J, aP1 sl 56 rl) = aE d 201 6 [.ref 46, .int (nI deep), .int (q w), w3, w4] [] (g, pM I (pc sg n 3 deep [] (adv p)).2, J, aP1 sl 56 rl)) → (∀ w, q w = jt s v w) → 2000 ≤ 2000 + s → ¬ 2000 + s = 2256 → rOK d g I J sl 56 rl X (pc sg n 2 deep (a ++ (pc sg n 3 deep [] (adv p)).1 ++ [2000 + s]) (pc sg n 3 deep [] (adv p)).2) := by
      intro s hs hs1 F X q hX hF hq k1 k2
      have hlt := pkv hE hs hs1
      obtain ⟨w, e2, e3⟩ := i5 d deep (adv p) hlt (by show 6 * (41 - (p.1 + 1)) + 2 ≤ n; omega) (by show 41 ≤ d + (p.1 + 1); omega) hdp
      rw [hsg] at e2 e3
      have hat := pc_at hE n 3 deep [] (adv p) hlt
      have hat1 : p.1 + 1 ≤ (pc sg n 3 deep [] (adv p)).2.1 := hat.1
      rw [hX, e2]
      simp only [aBi]
      obtain ⟨u3, u4, e4⟩ := hF w
      rw [e4]
      have e5 := i4 d deep (pc sg n 3 deep [] (adv p)).2 (a ++ (pc sg n 3 deep [] (adv p)).1 ++ [2000 + s]) (q w) u3 u4 hat.2 (by omega) (by omega) hdp (fun q1 q2 S => by
        rw [hq]
        exact evs _ S (ha s2 q2 S) (e3 q1 q2) k1 k2)
      rw [hsg] at e5
      exact e5
    by_cases s3 : pk sg p = 43
    · simp only [s3, if_true, true_or]
      refine go 43 s3 (by decide) _ _ (fun w => v + w) rfl (fun w => ⟨_, _, ?_⟩) (fun w => rfl) (by decide) (by decide)
      rw [b201_61, if_neg (by decide)]
    · by_cases s4 : pk sg p = 45
      · simp only [s4, if_true, or_true, show ((45 : Int32) = 43) = False from by decide, if_false]
        refine go 45 s4 (by decide) _ _ (fun w => v - w) rfl (fun w => ⟨_, _, ?_⟩) (fun w => rfl) (by decide) (by decide)
        rw [b201_61, if_pos rfl]
      · simp only [s3, s4, if_false, or_self]
        exact ⟨v, rfl, fun q1 q2 S => ha q1 q2 S⟩
  · have hpk : pk sg p = -1 := by unfold pk; rw [if_neg s2]
    simp only [s2, decide_false, tI_f, n00, if_true, hpk, show ((-1 : Int32) = 43) = False from by decide, show ((-1 : Int32) = 45) = False from by decide, or_self, if_false]
    exact ⟨v, rfl, fun q => absurd q s2⟩
theorem t3_55 {len n : Nat} (i5 : rQ g I J sl 56 rl 55 len n 5 203 1) (i4 : rL g I J sl 56 rl 55 len n 4 202 1) : rQ g I J sl 56 rl 55 len (n + 1) 3 202 2 := by
  intro d deep p hp hn hd hdp
  have hE := sgn_E (I 55) len 40
  rw [pc_3]
  show rOK d g I J sl 56 rl (aE d 202 0 [.ref 46, .int (nI deep), aNo, aNo, aNo] [] (g, pM I p, J, aP1 sl 56 rl)) _
  obtain ⟨w, e2, e3⟩ := i5 d deep p hp (by omega) hd hdp
  have hat := pc_at hE n 5 deep [] p hp
  rw [b202_0, e2]
  simp only [aBi]
  rw [b202_5]
  exact i4 d deep _ _ _ _ _ hat.2 (by omega) (by omega) hdp e3
theorem t1_55 {len n : Nat} (i5 : rQ g I J sl 56 rl 55 len n 3 202 2) (i4 : rL g I J sl 56 rl 55 len n 2 201 1) : rQ g I J sl 56 rl 55 len (n + 1) 1 201 3 := by
  intro d deep p hp hn hd hdp
  have hE := sgn_E (I 55) len 40
  rw [pc_1]
  show rOK d g I J sl 56 rl (aE d 201 0 [.ref 46, .int (nI deep), aNo, aNo, aNo] [] (g, pM I p, J, aP1 sl 56 rl)) _
  obtain ⟨w, e2, e3⟩ := i5 d deep p hp (by omega) hd hdp
  have hat := pc_at hE n 3 deep [] p hp
  rw [b201_0, e2]
  simp only [aBi]
  rw [b201_5]
  exact i4 d deep _ _ _ _ _ hat.2 (by omega) (by omega) hdp e3
theorem t0_55 {len n : Nat} (hl : I 46 15 = nI len) (ht : I 46 16 = nI 40) (h1 : len ≤ 40) (i1 : rQ g I J sl 56 rl 55 len n 1 201 3) : rQ g I J sl 56 rl 55 len (n + 1) 0 200 4 := by
  intro d deep p hp hn hd hdp
  have hE := sgn_E (I 55) len 40
  rw [pc_0]
  show rOK d g I J sl 56 rl (aE d 200 0 [.ref 46, .int (nI deep), aNo] [] (g, pM I p, J, aP1 sl 56 rl)) _
  obtain ⟨v, e2, e3⟩ := i1 d deep p hp (by omega) hd hdp
  have hat := pc_at hE n 1 deep [] p hp
  rw [b200_0, e2]
  simp only [aBi]
  rw [b200_5]
  generalize hsg : sgn (I 55) len 40 = sg at *
  generalize hr : pc sg n 1 deep [] p = r at *
  have hh (c : Int32) (hc : 0 ≤ c) := f191_55 (d := d) (g := g) (J := J) (sl := sl) (rl := rl) (I := I) (p := r.2) (len := len) (top := 40) hl ht h1 (by omega) (by omega) hc
  rw [hsg] at hh
  have two : ∀ s, pk sg r.2 = s → ¬ s = -1 → ∀ (F : Int32 → aS → Option aO) (q : Int32 → Int32), (∀ w, F w (g, pM I (pc sg n 1 deep [] (adv r.2)).2, J, aP1 sl 56 rl) = some (some (some (.int (q w))), (g, pM I (pc sg n 1 deep [] (adv r.2)).2, J, aP1 sl 56 rl))) → (∀ w, q w = jt s v w) → 2000 ≤ 2000 + s → ¬ 2000 + s = 2256 → rOK d g I J sl 56 rl (aBi (aF d 201 [.ref 46, .int (nI deep)] (g, pM I (adv r.2), J, aP1 sl 56 rl)) F) (r.1 ++ (pc sg n 1 deep [] (adv r.2)).1 ++ [2000 + s], (pc sg n 1 deep [] (adv r.2)).2) := by
    intro s hs hs1 F q hF hq k1 k2
    have hlt := pkv hE hs hs1
    obtain ⟨w, e4, e5⟩ := i1 d deep (adv r.2) hlt (by show 6 * (41 - (r.2.1 + 1)) + 3 ≤ n; omega) (by show 41 ≤ d + (r.2.1 + 1); omega) hdp
    rw [hsg] at e4 e5
    rw [e4]
    simp only [aBi]
    rw [hF]
    refine ⟨q w, rfl, fun q1 q2 S => ?_⟩
    rw [hq]
    exact evs _ S (e3 (pk_fine (by rw [hs]; exact hs1)) q2 S) (e5 q1 q2) k1 k2
  have no (c : Int32) (h : ¬ pk sg r.2 = c) : ps sg c r.2 = r.2 := by unfold ps; rw [if_neg h]
  have ye (c : Int32) (h : pk sg r.2 = c) : ps sg c r.2 = adv r.2 := by unfold ps; rw [if_pos h]
  rw [hh 60 (by decide)]
  simp only [aBi]
  rw [b200_12]
  by_cases s1 : pk sg r.2 = 60
  · rw [ye 60 s1]
    simp only [s1, decide_true, tI_t, n10, if_false, true_or, if_true]
    refine two 60 s1 (by decide) _ (fun w => if w ≤ v then 0 else 1) (fun w => ?_) (fun w => rfl) (by decide) (by decide)
    rw [b200_21]
    split <;> rfl
  · rw [no 60 s1]
    simp only [s1, decide_false, tI_f, n00, if_true, false_or]
    rw [hh 62 (by decide)]
    simp only [aBi]
    rw [b200_36]
    by_cases s2 : pk sg r.2 = 62
    · rw [ye 62 s2]
      simp only [s2, decide_true, tI_t, n10, if_false, true_or, if_true]
      refine two 62 s2 (by decide) _ (fun w => if v ≤ w then 0 else 1) (fun w => ?_) (fun w => rfl) (by decide) (by decide)
      rw [b200_45]
      split <;> rfl
    · rw [no 62 s2]
      simp only [s2, decide_false, tI_f, n00, if_true, false_or]
      rw [hh 61 (by decide)]
      simp only [aBi]
      rw [b200_60]
      by_cases s3 : pk sg r.2 = 61
      · rw [ye 61 s3]
        simp only [s3, decide_true, tI_t, n10, if_false, if_true]
        refine two 61 s3 (by decide) _ (fun w => if v = w then 1 else 0) (fun w => ?_) (fun w => rfl) (by decide) (by decide)
        rw [b200_69]
        split <;> rfl
      · rw [no 61 s3]
        simp only [s3, decide_false, tI_f, n00, if_true, if_false]
        exact ⟨v, rfl, e3⟩
theorem rAll_55 {len : Nat} (hl : I 46 15 = nI len) (ht : I 46 16 = nI 40) (h1 : len ≤ 40) (hB : byR (I 55)) : ∀ n, rQ g I J sl 56 rl 55 len n 0 200 4 ∧ rQ g I J sl 56 rl 55 len n 1 201 3 ∧ rL g I J sl 56 rl 55 len n 2 201 1 ∧ rQ g I J sl 56 rl 55 len n 3 202 2 ∧ rL g I J sl 56 rl 55 len n 4 202 1 ∧ rQ g I J sl 56 rl 55 len n 5 203 1 := by
  intro n
  induction n with
  | zero =>
    refine ⟨?_, ?_, ?_, ?_, ?_, ?_⟩ <;> intro d deep p
    · intro h1 h2; omega
    · intro h1 h2; omega
    · intro a v w3 w4 h1 h2; omega
    · intro h1 h2; omega
    · intro a v w3 w4 h1 h2; omega
    · intro h1 h2; omega
  | succ n ih =>
    obtain ⟨i0, i1, i2, i3, i4, i5⟩ := ih
    exact ⟨t0_55 hl ht h1 i1, t1_55 i3 i2, t2_55 hl ht h1 i3 i2, t3_55 i5 i4, t4_55 hl ht h1 i5 i4, t5_55 hl ht h1 hB i5 i0⟩
theorem t4_56 {len n : Nat} (hl : I 46 15 = nI len) (ht : I 46 16 = nI 40) (h1 : len ≤ 40) (i5 : rQ g I J sl 57 rl 56 len n 5 203 1) (i4 : rL g I J sl 57 rl 56 len n 4 202 1) : rL g I J sl 57 rl 56 len (n + 1) 4 202 1 := by
  intro d deep p a v w3 w4 hp hn hd hdp ha
  have hE := sgn_E (I 56) len 40
  rw [pc_4, b202_6, f185]
  simp only [aBi]
  rw [b202_10]
  generalize hsg : sgn (I 56) len 40 = sg at *
  by_cases s2 : p.2 = -1
  · have hpk : sg p.1 = pk sg p := by unfold pk; rw [if_pos s2]
    have hh := f188_56 (d := d) (g := g) (J := J) (sl := sl) (rl := rl) (I := I) (p := p) (len := len) (top := 40) hl ht h1 (by omega) (by omega)
    rw [hsg, hpk] at hh
    simp only [s2, decide_true, tI_t, n10, if_false, hh, aBi, b202_17, b202_35, b202_26, pM_17, nI_1, pM_u17]
    have go : ∀ s, pk sg p = s → ¬ s = -1 → ∀ (F : Int32 → aS → Option aO) (X : Option aO) (q : Int32 → Int32), X = aBi (aF d 203 [.ref 46, .int (nI deep)] (g, pM I (adv p), J, aP1 sl 57 rl)) F → (∀ w, ∃ w3 w4, F w (g, pM I (pc sg n 5 deep [] (adv p)).2, J, aP1 sl 57 rl) = aE d 202 6 [.ref 46, .int (nI deep), .int (q w), w3, w4] [] (g, pM I (pc sg n 5 deep [] (adv p)).2, J, aP1 sl 57 rl)) → (∀ w, q w = jt s v w) → 2000 ≤ 2000 + s → ¬ 2000 + s = 2256 → rOK d g I J sl 57 rl X (pc sg n 4 deep (a ++ (pc sg n 5 deep [] (adv p)).1 ++ [2000 + s]) (pc sg n 5 deep [] (adv p)).2) := by
      intro s hs hs1 F X q hX hF hq k1 k2
      have hlt := pkv hE hs hs1
      obtain ⟨w, e2, e3⟩ := i5 d deep (adv p) hlt (by show 6 * (41 - (p.1 + 1)) + 1 ≤ n; omega) (by show 41 ≤ d + (p.1 + 1); omega) hdp
      rw [hsg] at e2 e3
      have hat := pc_at hE n 5 deep [] (adv p) hlt
      have hat1 : p.1 + 1 ≤ (pc sg n 5 deep [] (adv p)).2.1 := hat.1
      rw [hX, e2]
      simp only [aBi]
      obtain ⟨u3, u4, e4⟩ := hF w
      rw [e4]
      have e5 := i4 d deep (pc sg n 5 deep [] (adv p)).2 (a ++ (pc sg n 5 deep [] (adv p)).1 ++ [2000 + s]) (q w) u3 u4 hat.2 (by omega) (by omega) hdp (fun q1 q2 S => by
        rw [hq]
        exact evs _ S (ha s2 q2 S) (e3 q1 q2) k1 k2)
      rw [hsg] at e5
      exact e5
    by_cases s3 : pk sg p = 42
    · simp only [s3, if_true, true_or]
      refine go 42 s3 (by decide) _ _ (fun w => v * w) rfl (fun w => ⟨_, _, ?_⟩) (fun w => rfl) (by decide) (by decide)
      rw [b202_61, if_neg (by decide)]
    · by_cases s4 : pk sg p = 47
      · simp only [s4, if_true, or_true, show ((47 : Int32) = 42) = False from by decide, if_false]
        refine go 47 s4 (by decide) _ _ (fun w => if w = 0 then 0 else v / w) rfl (fun w => ⟨_, _, ?_⟩) (fun w => rfl) (by decide) (by decide)
        rw [b202_61, if_pos rfl]
        by_cases hw : w = 0
        · rw [if_pos hw, if_pos hw]
        · rw [if_neg hw, if_neg hw, if_neg hw]
      · simp only [s3, s4, if_false, or_self]
        exact ⟨v, rfl, fun q1 q2 S => ha q1 q2 S⟩
  · have hpk : pk sg p = -1 := by unfold pk; rw [if_neg s2]
    simp only [s2, decide_false, tI_f, n00, if_true, hpk, show ((-1 : Int32) = 42) = False from by decide, show ((-1 : Int32) = 47) = False from by decide, or_self, if_false]
    exact ⟨v, rfl, fun q => absurd q s2⟩
theorem t2_56 {len n : Nat} (hl : I 46 15 = nI len) (ht : I 46 16 = nI 40) (h1 : len ≤ 40) (i5 : rQ g I J sl 57 rl 56 len n 3 202 2) (i4 : rL g I J sl 57 rl 56 len n 2 201 1) : rL g I J sl 57 rl 56 len (n + 1) 2 201 1 := by
  intro d deep p a v w3 w4 hp hn hd hdp ha
  have hE := sgn_E (I 56) len 40
  rw [pc_2, b201_6, f185]
  simp only [aBi]
  rw [b201_10]
  generalize hsg : sgn (I 56) len 40 = sg at *
  by_cases s2 : p.2 = -1
  · have hpk : sg p.1 = pk sg p := by unfold pk; rw [if_pos s2]
    have hh := f188_56 (d := d) (g := g) (J := J) (sl := sl) (rl := rl) (I := I) (p := p) (len := len) (top := 40) hl ht h1 (by omega) (by omega)
    rw [hsg, hpk] at hh
    simp only [s2, decide_true, tI_t, n10, if_false, hh, aBi, b201_17, b201_35, b201_26, pM_17, nI_1, pM_u17]
    have go : ∀ s, pk sg p = s → ¬ s = -1 → ∀ (F : Int32 → aS → Option aO) (X : Option aO) (q : Int32 → Int32), X = aBi (aF d 202 [.ref 46, .int (nI deep)] (g, pM I (adv p), J, aP1 sl 57 rl)) F → (∀ w, ∃ w3 w4, F w (g, pM I (pc sg n 3 deep [] (adv p)).2, J, aP1 sl 57 rl) = aE d 201 6 [.ref 46, .int (nI deep), .int (q w), w3, w4] [] (g, pM I (pc sg n 3 deep [] (adv p)).2, J, aP1 sl 57 rl)) → (∀ w, q w = jt s v w) → 2000 ≤ 2000 + s → ¬ 2000 + s = 2256 → rOK d g I J sl 57 rl X (pc sg n 2 deep (a ++ (pc sg n 3 deep [] (adv p)).1 ++ [2000 + s]) (pc sg n 3 deep [] (adv p)).2) := by
      intro s hs hs1 F X q hX hF hq k1 k2
      have hlt := pkv hE hs hs1
      obtain ⟨w, e2, e3⟩ := i5 d deep (adv p) hlt (by show 6 * (41 - (p.1 + 1)) + 2 ≤ n; omega) (by show 41 ≤ d + (p.1 + 1); omega) hdp
      rw [hsg] at e2 e3
      have hat := pc_at hE n 3 deep [] (adv p) hlt
      have hat1 : p.1 + 1 ≤ (pc sg n 3 deep [] (adv p)).2.1 := hat.1
      rw [hX, e2]
      simp only [aBi]
      obtain ⟨u3, u4, e4⟩ := hF w
      rw [e4]
      have e5 := i4 d deep (pc sg n 3 deep [] (adv p)).2 (a ++ (pc sg n 3 deep [] (adv p)).1 ++ [2000 + s]) (q w) u3 u4 hat.2 (by omega) (by omega) hdp (fun q1 q2 S => by
        rw [hq]
        exact evs _ S (ha s2 q2 S) (e3 q1 q2) k1 k2)
      rw [hsg] at e5
      exact e5
    by_cases s3 : pk sg p = 43
    · simp only [s3, if_true, true_or]
      refine go 43 s3 (by decide) _ _ (fun w => v + w) rfl (fun w => ⟨_, _, ?_⟩) (fun w => rfl) (by decide) (by decide)
      rw [b201_61, if_neg (by decide)]
    · by_cases s4 : pk sg p = 45
      · simp only [s4, if_true, or_true, show ((45 : Int32) = 43) = False from by decide, if_false]
        refine go 45 s4 (by decide) _ _ (fun w => v - w) rfl (fun w => ⟨_, _, ?_⟩) (fun w => rfl) (by decide) (by decide)
        rw [b201_61, if_pos rfl]
      · simp only [s3, s4, if_false, or_self]
        exact ⟨v, rfl, fun q1 q2 S => ha q1 q2 S⟩
  · have hpk : pk sg p = -1 := by unfold pk; rw [if_neg s2]
    simp only [s2, decide_false, tI_f, n00, if_true, hpk, show ((-1 : Int32) = 43) = False from by decide, show ((-1 : Int32) = 45) = False from by decide, or_self, if_false]
    exact ⟨v, rfl, fun q => absurd q s2⟩
theorem t3_56 {len n : Nat} (i5 : rQ g I J sl 57 rl 56 len n 5 203 1) (i4 : rL g I J sl 57 rl 56 len n 4 202 1) : rQ g I J sl 57 rl 56 len (n + 1) 3 202 2 := by
  intro d deep p hp hn hd hdp
  have hE := sgn_E (I 56) len 40
  rw [pc_3]
  show rOK d g I J sl 57 rl (aE d 202 0 [.ref 46, .int (nI deep), aNo, aNo, aNo] [] (g, pM I p, J, aP1 sl 57 rl)) _
  obtain ⟨w, e2, e3⟩ := i5 d deep p hp (by omega) hd hdp
  have hat := pc_at hE n 5 deep [] p hp
  rw [b202_0, e2]
  simp only [aBi]
  rw [b202_5]
  exact i4 d deep _ _ _ _ _ hat.2 (by omega) (by omega) hdp e3
theorem t1_56 {len n : Nat} (i5 : rQ g I J sl 57 rl 56 len n 3 202 2) (i4 : rL g I J sl 57 rl 56 len n 2 201 1) : rQ g I J sl 57 rl 56 len (n + 1) 1 201 3 := by
  intro d deep p hp hn hd hdp
  have hE := sgn_E (I 56) len 40
  rw [pc_1]
  show rOK d g I J sl 57 rl (aE d 201 0 [.ref 46, .int (nI deep), aNo, aNo, aNo] [] (g, pM I p, J, aP1 sl 57 rl)) _
  obtain ⟨w, e2, e3⟩ := i5 d deep p hp (by omega) hd hdp
  have hat := pc_at hE n 3 deep [] p hp
  rw [b201_0, e2]
  simp only [aBi]
  rw [b201_5]
  exact i4 d deep _ _ _ _ _ hat.2 (by omega) (by omega) hdp e3
theorem t0_56 {len n : Nat} (hl : I 46 15 = nI len) (ht : I 46 16 = nI 40) (h1 : len ≤ 40) (i1 : rQ g I J sl 57 rl 56 len n 1 201 3) : rQ g I J sl 57 rl 56 len (n + 1) 0 200 4 := by
  intro d deep p hp hn hd hdp
  have hE := sgn_E (I 56) len 40
  rw [pc_0]
  show rOK d g I J sl 57 rl (aE d 200 0 [.ref 46, .int (nI deep), aNo] [] (g, pM I p, J, aP1 sl 57 rl)) _
  obtain ⟨v, e2, e3⟩ := i1 d deep p hp (by omega) hd hdp
  have hat := pc_at hE n 1 deep [] p hp
  rw [b200_0, e2]
  simp only [aBi]
  rw [b200_5]
  generalize hsg : sgn (I 56) len 40 = sg at *
  generalize hr : pc sg n 1 deep [] p = r at *
  have hh (c : Int32) (hc : 0 ≤ c) := f191_56 (d := d) (g := g) (J := J) (sl := sl) (rl := rl) (I := I) (p := r.2) (len := len) (top := 40) hl ht h1 (by omega) (by omega) hc
  rw [hsg] at hh
  have two : ∀ s, pk sg r.2 = s → ¬ s = -1 → ∀ (F : Int32 → aS → Option aO) (q : Int32 → Int32), (∀ w, F w (g, pM I (pc sg n 1 deep [] (adv r.2)).2, J, aP1 sl 57 rl) = some (some (some (.int (q w))), (g, pM I (pc sg n 1 deep [] (adv r.2)).2, J, aP1 sl 57 rl))) → (∀ w, q w = jt s v w) → 2000 ≤ 2000 + s → ¬ 2000 + s = 2256 → rOK d g I J sl 57 rl (aBi (aF d 201 [.ref 46, .int (nI deep)] (g, pM I (adv r.2), J, aP1 sl 57 rl)) F) (r.1 ++ (pc sg n 1 deep [] (adv r.2)).1 ++ [2000 + s], (pc sg n 1 deep [] (adv r.2)).2) := by
    intro s hs hs1 F q hF hq k1 k2
    have hlt := pkv hE hs hs1
    obtain ⟨w, e4, e5⟩ := i1 d deep (adv r.2) hlt (by show 6 * (41 - (r.2.1 + 1)) + 3 ≤ n; omega) (by show 41 ≤ d + (r.2.1 + 1); omega) hdp
    rw [hsg] at e4 e5
    rw [e4]
    simp only [aBi]
    rw [hF]
    refine ⟨q w, rfl, fun q1 q2 S => ?_⟩
    rw [hq]
    exact evs _ S (e3 (pk_fine (by rw [hs]; exact hs1)) q2 S) (e5 q1 q2) k1 k2
  have no (c : Int32) (h : ¬ pk sg r.2 = c) : ps sg c r.2 = r.2 := by unfold ps; rw [if_neg h]
  have ye (c : Int32) (h : pk sg r.2 = c) : ps sg c r.2 = adv r.2 := by unfold ps; rw [if_pos h]
  rw [hh 60 (by decide)]
  simp only [aBi]
  rw [b200_12]
  by_cases s1 : pk sg r.2 = 60
  · rw [ye 60 s1]
    simp only [s1, decide_true, tI_t, n10, if_false, true_or, if_true]
    refine two 60 s1 (by decide) _ (fun w => if w ≤ v then 0 else 1) (fun w => ?_) (fun w => rfl) (by decide) (by decide)
    rw [b200_21]
    split <;> rfl
  · rw [no 60 s1]
    simp only [s1, decide_false, tI_f, n00, if_true, false_or]
    rw [hh 62 (by decide)]
    simp only [aBi]
    rw [b200_36]
    by_cases s2 : pk sg r.2 = 62
    · rw [ye 62 s2]
      simp only [s2, decide_true, tI_t, n10, if_false, true_or, if_true]
      refine two 62 s2 (by decide) _ (fun w => if v ≤ w then 0 else 1) (fun w => ?_) (fun w => rfl) (by decide) (by decide)
      rw [b200_45]
      split <;> rfl
    · rw [no 62 s2]
      simp only [s2, decide_false, tI_f, n00, if_true, false_or]
      rw [hh 61 (by decide)]
      simp only [aBi]
      rw [b200_60]
      by_cases s3 : pk sg r.2 = 61
      · rw [ye 61 s3]
        simp only [s3, decide_true, tI_t, n10, if_false, if_true]
        refine two 61 s3 (by decide) _ (fun w => if v = w then 1 else 0) (fun w => ?_) (fun w => rfl) (by decide) (by decide)
        rw [b200_69]
        split <;> rfl
      · rw [no 61 s3]
        simp only [s3, decide_false, tI_f, n00, if_true, if_false]
        exact ⟨v, rfl, e3⟩
theorem rAll_56 {len : Nat} (hl : I 46 15 = nI len) (ht : I 46 16 = nI 40) (h1 : len ≤ 40) (hB : byR (I 56)) : ∀ n, rQ g I J sl 57 rl 56 len n 0 200 4 ∧ rQ g I J sl 57 rl 56 len n 1 201 3 ∧ rL g I J sl 57 rl 56 len n 2 201 1 ∧ rQ g I J sl 57 rl 56 len n 3 202 2 ∧ rL g I J sl 57 rl 56 len n 4 202 1 ∧ rQ g I J sl 57 rl 56 len n 5 203 1 := by
  intro n
  induction n with
  | zero =>
    refine ⟨?_, ?_, ?_, ?_, ?_, ?_⟩ <;> intro d deep p
    · intro h1 h2; omega
    · intro h1 h2; omega
    · intro a v w3 w4 h1 h2; omega
    · intro h1 h2; omega
    · intro a v w3 w4 h1 h2; omega
    · intro h1 h2; omega
  | succ n ih =>
    obtain ⟨i0, i1, i2, i3, i4, i5⟩ := ih
    exact ⟨t0_56 hl ht h1 i1, t1_56 i3 i2, t2_56 hl ht h1 i3 i2, t3_56 i5 i4, t4_56 hl ht h1 i5 i4, t5_56 hl ht h1 hB i5 i0⟩
end T03
section T04
/-! the class's way through a rule's signs makes the same code -/
def bnd (s : Int32) : Int32 := if s = 60 then 1 else if s = 62 then 1 else if s = 61 then 1 else if s = 43 then 2 else if s = 45 then 2 else if s = 42 then 3 else if s = 47 then 3 else if s = 256 then 4 else 0
def stl (b : Int32) : List Int32 → List Int32 → List Int32 × List Int32
  | c, [] => (c, [])
  | c, w :: ws => if b ≤ bnd w then stl b (c ++ [2000 + w]) ws else (c, w :: ws)
/-- at, wrong; code; waiting; depth; compared; wants a thing -/
abbrev yC := (Nat × Int32) × List Int32 × List Int32 × Nat × Int32 × Bool
def yT (sg : Nat → Int32) (p : Nat × Int32) (c w : List Int32) (e : Nat) (m : Int32) : yC :=
  if pk sg p = 45 then (adv p, c, 256 :: w, e, m, true)
  else if pk sg p = 40 ∧ e < 4 then (adv p, c, 40 :: w, e + 1, m &&& (bit (e + 1) ^^^ (-1)), true)
  else if lt8 (pk sg p) = -1 then ((nm sg 2 p).2, c ++ [(nm sg 2 p).1], w, e, m, false)
  else (adv p, c ++ [1000 + lt8 (pk sg p)], w, e, m, false)
def yG (sg : Nat → Int32) (p : Nat × Int32) (c w : List Int32) (e : Nat) (m : Int32) : yC :=
  if pk sg p = 41 ∧ 0 < e then (adv p, (stl 1 c w).1, (stl 1 c w).2.tail, e - 1, m, false)
  else if bnd (pk sg p) = 0 ∨ (bnd (pk sg p) = 1 ∧ bt m e = true) then (flt p (nI p.1), c, w, e, m, false)
  else (adv p, (stl (bnd (pk sg p)) c w).1, pk sg p :: (stl (bnd (pk sg p)) c w).2, e, if bnd (pk sg p) = 1 then m ||| bit e else m, true)
def yS (sg : Nat → Int32) (y : yC) : yC := if y.2.2.2.2.2 = true then yT sg y.1 y.2.1 y.2.2.1 y.2.2.2.1 y.2.2.2.2.1 else yG sg y.1 y.2.1 y.2.2.1 y.2.2.2.1 y.2.2.2.2.1
def yL (sg : Nat → Int32) : Nat → yC → yC
  | 0, y => y
  | n + 1, y => if pk sg y.1 = -1 then y else yL sg n (yS sg y)
/-- what is wrong in the end, all read -/
def yW (y : yC) : Int32 := if y.2.2.2.2.2 = true ∨ 0 < y.2.2.2.1 then (flt y.1 (nI y.1.1)).2 else y.1.2
def yR (sg : Nat → Int32) (y z : yC) : Prop := ∀ m, 40 - y.1.1 ≤ m → ∃ m', 40 - z.1.1 ≤ m' ∧ yL sg m y = yL sg m' z
theorem yR_t {sg : Nat → Int32} {x y z : yC} (a : yR sg x y) (b : yR sg y z) : yR sg x z := by
  intro m hm
  obtain ⟨m1, h1, e1⟩ := a m hm
  obtain ⟨m2, h2, e2⟩ := b m1 h1
  exact ⟨m2, h2, e1.trans e2⟩
theorem yR_r (sg : Nat → Int32) (y : yC) : yR sg y y := fun m h => ⟨m, h, rfl⟩
theorem yR_1 {sg : Nat → Int32} (hE : sgE sg 40) {y : yC} (h : ¬ pk sg y.1 = -1) (h2 : y.1.1 < (yS sg y).1.1) : yR sg y (yS sg y) := by
  intro m hm
  have := pk_at hE h
  obtain ⟨k, rfl⟩ : ∃ k, m = k + 1 := ⟨m - 1, by omega⟩
  refine ⟨k, by omega, ?_⟩
  show (if pk sg y.1 = -1 then y else yL sg k (yS sg y)) = _
  rw [if_neg h]
/-- it comes to be wrong at w -/
def yF (sg : Nat → Int32) (y : yC) (w : Int32) : Prop := ∀ m, 40 - y.1.1 ≤ m → yW (yL sg m y) = w
theorem yF_t {sg : Nat → Int32} {x y : yC} {w : Int32} (a : yR sg x y) (b : yF sg y w) : yF sg x w := by
  intro m hm
  obtain ⟨m1, h1, e1⟩ := a m hm
  rw [e1]
  exact b m1 h1
theorem yL_end {sg : Nat → Int32} {y : yC} (h : pk sg y.1 = -1) : ∀ m, yL sg m y = y
  | 0 => rfl
  | m + 1 => if_pos h
theorem yW_wrong {y : yC} (h : ¬ y.1.2 = -1) : yW y = y.1.2 := by
  unfold yW flt
  split
  · rw [if_neg h]
  · rfl
/-- a step that goes wrong -/
theorem yF_1 {sg : Nat → Int32} (hE : sgE sg 40) {y : yC} (h : ¬ pk sg y.1 = -1) (h2 : ¬ (yS sg y).1.2 = -1) : yF sg y (yS sg y).1.2 := by
  intro m hm
  have := pk_at hE h
  obtain ⟨k, rfl⟩ : ∃ k, m = k + 1 := ⟨m - 1, by omega⟩
  have e : yL sg (k + 1) y = yL sg k (yS sg y) := by
    show (if pk sg y.1 = -1 then y else yL sg k (yS sg y)) = _
    rw [if_neg h]
  have e2 : pk sg (yS sg y).1 = -1 := by unfold pk; rw [if_neg h2]
  rw [e, yL_end e2, yW_wrong h2]
/-- the end, too early -/
theorem yF_0 {sg : Nat → Int32} {y : yC} (h : pk sg y.1 = -1) (h2 : y.1.2 = -1) (h3 : y.2.2.2.2.2 = true ∨ 0 < y.2.2.2.1) : yF sg y (nI y.1.1) := by
  intro m hm
  rw [yL_end h]
  unfold yW flt
  rw [if_pos h3, if_pos h2]
def top (b : Int32) (w : List Int32) : Prop := ∀ x r, w = x :: r → ¬ b ≤ bnd x
theorem stl_all {b : Int32} : ∀ (pd c w : List Int32), (∀ x, x ∈ pd → b ≤ bnd x) → top b w → stl b c (pd ++ w) = (c ++ pd.map (fun x => 2000 + x), w)
  | [], c, [], _, _ => by simp [stl]
  | [], c, x :: w, _, h => by
    show (if b ≤ bnd x then _ else _) = _
    rw [if_neg (h x w rfl)]; simp
  | y :: pd, c, w, h1, h2 => by
    show (if b ≤ bnd y then stl b (c ++ [2000 + y]) (pd ++ w) else _) = _
    rw [if_pos (h1 y (List.mem_cons_self ..)), stl_all pd _ w (fun x hx => h1 x (List.mem_cons_of_mem _ hx)) h2]
    simp
/-- where a piece ends: code and what still waits -/
def yP (sg : Nat → Int32) (b : Int32) (y : yC) (p : Nat × Int32) (c w : List Int32) (e : Nat) (m : Int32) (r : List Int32 × (Nat × Int32)) : Prop :=
  (¬ r.2.2 = -1 → yF sg y r.2.2) ∧ (r.2.2 = -1 → ∃ cd pd m', yR sg y (r.2, c ++ cd, pd ++ w, e, m', false) ∧ r.1 = cd ++ pd.map (fun x => 2000 + x) ∧ (∀ x, x ∈ pd → b ≤ bnd x) ∧ (∀ i, i ≤ e → bt m' i = bt m i))
theorem lePos {a b : Int32} (h : a ≤ b) {c : Int32} (h2 : b ≤ c) : a ≤ c := by
  rw [int_le] at *; omega
theorem pair_fst {α β : Type} (a : α) (b : β) : (a, b).1 = a := rfl
/-- a thing -/
def y5 (sg : Nat → Int32) (n : Nat) : Prop := ∀ (p : Nat × Int32) (c w : List Int32) (e : Nat) (m : Int32), p.2 = -1 → p.1 ≤ 40 → 6 * (41 - p.1) + 1 ≤ n → e ≤ 4 → yP sg 4 (p, c, w, e, m, true) p c w e m (pc sg n 5 e [] p)
def y3 (sg : Nat → Int32) (n : Nat) : Prop := ∀ (p : Nat × Int32) (c w : List Int32) (e : Nat) (m : Int32), p.2 = -1 → p.1 ≤ 40 → 6 * (41 - p.1) + 2 ≤ n → e ≤ 4 → top 3 w → yP sg 3 (p, c, w, e, m, true) p c w e m (pc sg n 3 e [] p) ∧ ((pc sg n 3 e [] p).2.2 = -1 → ¬ pk sg (pc sg n 3 e [] p).2 = 42 ∧ ¬ pk sg (pc sg n 3 e [] p).2 = 47)
def y4 (sg : Nat → Int32) (n : Nat) : Prop := ∀ (p : Nat × Int32) (c w a pd : List Int32) (e : Nat) (m : Int32), p.2 = -1 → p.1 ≤ 40 → 6 * (41 - p.1) + 1 ≤ n → e ≤ 4 → top 3 w → (∀ x, x ∈ pd → 3 ≤ bnd x) → yP sg 3 (p, c ++ a, pd ++ w, e, m, false) p c w e m (pc sg n 4 e (a ++ pd.map (fun x => 2000 + x)) p) ∧ ((pc sg n 4 e (a ++ pd.map (fun x => 2000 + x)) p).2.2 = -1 → ¬ pk sg (pc sg n 4 e (a ++ pd.map (fun x => 2000 + x)) p).2 = 42 ∧ ¬ pk sg (pc sg n 4 e (a ++ pd.map (fun x => 2000 + x)) p).2 = 47)
def yN (sg : Nat → Int32) (p : Nat × Int32) : Prop := ¬ pk sg p = 42 ∧ ¬ pk sg p = 47 ∧ ¬ pk sg p = 43 ∧ ¬ pk sg p = 45
def y1 (sg : Nat → Int32) (n : Nat) : Prop := ∀ (p : Nat × Int32) (c w : List Int32) (e : Nat) (m : Int32), p.2 = -1 → p.1 ≤ 40 → 6 * (41 - p.1) + 3 ≤ n → e ≤ 4 → top 2 w → yP sg 2 (p, c, w, e, m, true) p c w e m (pc sg n 1 e [] p) ∧ ((pc sg n 1 e [] p).2.2 = -1 → yN sg (pc sg n 1 e [] p).2)
def y2 (sg : Nat → Int32) (n : Nat) : Prop := ∀ (p : Nat × Int32) (c w a pd : List Int32) (e : Nat) (m : Int32), p.2 = -1 → p.1 ≤ 40 → 6 * (41 - p.1) + 1 ≤ n → e ≤ 4 → top 2 w → (∀ x, x ∈ pd → 2 ≤ bnd x) → ¬ pk sg p = 42 → ¬ pk sg p = 47 → yP sg 2 (p, c ++ a, pd ++ w, e, m, false) p c w e m (pc sg n 2 e (a ++ pd.map (fun x => 2000 + x)) p) ∧ ((pc sg n 2 e (a ++ pd.map (fun x => 2000 + x)) p).2.2 = -1 → yN sg (pc sg n 2 e (a ++ pd.map (fun x => 2000 + x)) p).2)
/-- as yP, but the depth's own sign of a comparison may be set -/
def y0 (sg : Nat → Int32) (n : Nat) : Prop := ∀ (p : Nat × Int32) (c w : List Int32) (e : Nat) (m : Int32), p.2 = -1 → p.1 ≤ 40 → 6 * (41 - p.1) + 4 ≤ n → e ≤ 4 → top 1 w → bt m e = false →
  (¬ (pc sg n 0 e [] p).2.2 = -1 → yF sg (p, c, w, e, m, true) (pc sg n 0 e [] p).2.2) ∧ ((pc sg n 0 e [] p).2.2 = -1 → ∃ cd pd m', yR sg (p, c, w, e, m, true) ((pc sg n 0 e [] p).2, c ++ cd, pd ++ w, e, m', false) ∧ (pc sg n 0 e [] p).1 = cd ++ pd.map (fun x => 2000 + x) ∧ (∀ x, x ∈ pd → 1 ≤ bnd x) ∧ (∀ i, i < e → bt m' i = bt m i) ∧ yN sg (pc sg n 0 e [] p).2 ∧ (bt m' e = true ∨ (¬ pk sg (pc sg n 0 e [] p).2 = 60 ∧ ¬ pk sg (pc sg n 0 e [] p).2 = 62 ∧ ¬ pk sg (pc sg n 0 e [] p).2 = 61)))
theorem nm_ok {sg : Nat → Int32} {p : Nat × Int32} (h0 : p.1 ≤ 80) (hf : p.2 = -1) {N : Nat} (hE : sgE sg N) (hp : p.1 ≤ N) (h : (nm sg 2 p).2.2 = -1) : p.1 < (nm sg 2 p).2.1 := by
  by_cases q1 : pk sg p < 48 ∨ ¬ pk sg p ≤ 57
  · exfalso
    rw [nm_no h0 q1 hf] at h
    simp only at h
    unfold flt at h
    rw [if_pos hf] at h
    exact nI_m1 (by omega) h
  · have q2 : ¬ pk sg p < 48 := fun q => q1 (Or.inl q)
    have q3 : pk sg p ≤ 57 := Classical.byContradiction (fun q => q1 (Or.inr q))
    have e : tk sg 48 57 p = (pk sg p, adv p) := by unfold tk; rw [if_neg q2, if_pos q3]
    have hlt := pk_ge hE (by decide) q2
    have := nmL_at hE 2 (pk sg p - 48) (adv p) hlt
    unfold nm
    rw [e]
    exact this.1
theorem pk256 {sg : Nat → Int32} (h : ∀ a, ¬ sg a = 256) (p : Nat × Int32) : ¬ pk sg p = 256 := by
  unfold pk
  split
  · exact h _
  · decide
theorem bnd_0 {s : Int32} (h : ¬ s = 256) (h1 : ¬ s = 42) (h2 : ¬ s = 47) (h3 : ¬ s = 43) (h4 : ¬ s = 45) (h5 : ¬ s = 60 ∧ ¬ s = 62 ∧ ¬ s = 61) : bnd s = 0 := by
  unfold bnd
  rw [if_neg h5.1, if_neg h5.2.1, if_neg h5.2.2, if_neg h3, if_neg h4, if_neg h1, if_neg h2, if_neg h]
theorem top_up {a b : Int32} (h : a ≤ b) {w : List Int32} (t : top a w) : top b w := fun x r e q => t x r e (lePos h q)
theorem top_c {b s : Int32} (h : ¬ b ≤ bnd s) (w : List Int32) : top b (s :: w) := fun x r e => by
  obtain ⟨rfl, _⟩ := List.cons.inj e; exact h
theorem flt_w {p : Nat × Int32} (h : p.2 = -1) (x : Int32) : flt p x = (p.1, x) := if_pos h
theorem flt_n {p : Nat × Int32} (h : ¬ p.2 = -1) (x : Int32) : flt p x = p := if_neg h
theorem pk_wr (sg : Nat → Int32) {p : Nat × Int32} (h : ¬ p.2 = -1) : pk sg p = -1 := if_neg h
theorem s5 {sg : Nat → Int32} (hE : sgE sg 40) (h256 : ∀ a, ¬ sg a = 256) {n : Nat} (i5 : y5 sg n) (i0 : y0 sg n) : y5 sg (n + 1) := by
  intro p c w e m hf hp hn he
  rw [pc_5]
  by_cases s1 : pk sg p = 45
  · rw [if_pos s1]
    have hlt := pkv hE s1 (by decide)
    have ey : yS sg (p, c, w, e, m, true) = (adv p, c, 256 :: w, e, m, true) := by
      show yT sg p c w e m = _
      unfold yT; rw [if_pos s1]
    have e1 : yR sg (p, c, w, e, m, true) (adv p, c, 256 :: w, e, m, true) := by
      rw [← ey]; exact yR_1 hE (by show ¬ pk sg p = -1; rw [s1]; decide) (by rw [ey]; exact Nat.lt_succ_self _)
    obtain ⟨a, b⟩ := i5 (adv p) c (256 :: w) e m hf hlt (by show 6 * (41 - (p.1 + 1)) + 1 ≤ n; omega) he
    refine ⟨fun q => yF_t e1 (a q), fun q => ?_⟩
    obtain ⟨cd, pd, m', h1, h2, h3, h4⟩ := b q
    refine ⟨cd, pd ++ [256], m', yR_t e1 (by simpa using h1), ?_, ?_, h4⟩
    · simp only
      rw [h2]; simp
    · intro x hx
      rcases List.mem_append.mp hx with hx | hx
      · exact h3 x hx
      · rw [List.mem_singleton.mp hx]; decide
  · rw [if_neg s1, if_neg (fun q => q hf)]
    by_cases s2 : pk sg p = 40 ∧ e < 4
    · rw [if_pos s2]
      have hlt := pkv hE s2.1 (by decide)
      have ey : yS sg (p, c, w, e, m, true) = (adv p, c, 40 :: w, e + 1, m &&& (bit (e + 1) ^^^ (-1)), true) := by
        show yT sg p c w e m = _
        unfold yT; rw [if_neg s1, if_pos s2]
      have e1 : yR sg (p, c, w, e, m, true) (adv p, c, 40 :: w, e + 1, m &&& (bit (e + 1) ^^^ (-1)), true) := by
        rw [← ey]; exact yR_1 hE (by show ¬ pk sg p = -1; rw [s2.1]; decide) (by rw [ey]; exact Nat.lt_succ_self _)
      have hm : ∀ i, i ≤ e + 1 → bt (m &&& (bit (e + 1) ^^^ (-1))) i = (bt m i && !decide (i = e + 1)) := by
        intro i hi
        rw [b_and, b_not _ (by omega), b_bit (by omega) (by omega)]
      obtain ⟨a, b⟩ := i0 (adv p) c (40 :: w) (e + 1) (m &&& (bit (e + 1) ^^^ (-1))) hf hlt (by show 6 * (41 - (p.1 + 1)) + 4 ≤ n; omega) (by omega) (top_c (by decide) w) (by rw [hm _ (Nat.le_refl _)]; simp)
      generalize hq : pc sg n 0 (e + 1) [] (adv p) = q at *
      by_cases q1 : q.2.2 = -1
      · obtain ⟨cd, pd, m', h1, h2, h3, h4, h5, h6⟩ := b q1
        have hat := pc_at hE n 0 (e + 1) [] (adv p) hlt
        rw [hq] at hat
        by_cases s3 : pk sg q.2 = 41
        · have e2 : nd sg 41 q.2 = adv q.2 := by unfold nd; rw [if_pos s3]
          have ey2 : yS sg (q.2, c ++ cd, pd ++ 40 :: w, e + 1, m', false) = (adv q.2, c ++ q.1, w, e, m', false) := by
            show yG sg q.2 (c ++ cd) (pd ++ 40 :: w) (e + 1) m' = _
            unfold yG; rw [if_pos ⟨s3, by omega⟩, stl_all pd _ _ h3 (top_c (by decide) w), h2]
            simp
          have e3 : yR sg (q.2, c ++ cd, pd ++ 40 :: w, e + 1, m', false) (adv q.2, c ++ q.1, w, e, m', false) := by
            rw [← ey2]; exact yR_1 hE (by show ¬ pk sg q.2 = -1; rw [s3]; decide) (by rw [ey2]; exact Nat.lt_succ_self _)
          rw [e2]
          refine ⟨fun q2 => absurd q1 q2, fun _ => ⟨q.1, [], m', yR_t e1 (yR_t h1 e3), by simp, fun x hx => absurd hx (List.not_mem_nil), fun i hi => ?_⟩⟩
          rw [h4 i (by omega), hm i (by omega)]
          simp only [show ¬ i = e + 1 by omega, decide_false, Bool.not_false, Bool.and_true]
        · have e2 : nd sg 41 q.2 = (q.2.1, nI q.2.1) := by unfold nd; rw [if_neg s3, flt_w q1]
          have hw : ¬ nI q.2.1 = -1 := nI_m1 (by omega)
          rw [e2]
          refine ⟨fun _ => yF_t e1 (yF_t h1 ?_), fun q2 => absurd q2 hw⟩
          by_cases s4 : pk sg q.2 = -1
          · exact yF_0 s4 q1 (Or.inr (Nat.succ_pos _))
          · have hb : bnd (pk sg q.2) = 0 ∨ (bnd (pk sg q.2) = 1 ∧ bt m' (e + 1) = true) := by
              by_cases hc : ¬ pk sg q.2 = 60 ∧ ¬ pk sg q.2 = 62 ∧ ¬ pk sg q.2 = 61
              · exact Or.inl (bnd_0 (pk256 h256 _) h5.1 h5.2.1 h5.2.2.1 h5.2.2.2 hc)
              · refine Or.inr ⟨?_, ?_⟩
                · by_cases c1 : pk sg q.2 = 60
                  · rw [c1]; rfl
                  · by_cases c2 : pk sg q.2 = 62
                    · rw [c2]; rfl
                    · by_cases c3 : pk sg q.2 = 61
                      · rw [c3]; rfl
                      · exact absurd ⟨c1, c2, c3⟩ hc
                · rcases h6 with h6 | h6
                  · exact h6
                  · exact absurd h6 hc
            have ey2 : yS sg (q.2, c ++ cd, pd ++ 40 :: w, e + 1, m', false) = ((q.2.1, nI q.2.1), c ++ cd, pd ++ 40 :: w, e + 1, m', false) := by
              show yG sg q.2 (c ++ cd) (pd ++ 40 :: w) (e + 1) m' = _
              unfold yG; rw [if_neg (fun q => s3 q.1), if_pos hb, flt_w q1]
            have e3 := yF_1 hE (y := (q.2, c ++ cd, pd ++ 40 :: w, e + 1, m', false)) s4 (by rw [ey2]; exact hw)
            rw [ey2] at e3
            exact e3
      · have e2 : nd sg 41 q.2 = q.2 := by unfold nd; rw [pk_wr sg q1, if_neg (by decide), flt_n q1]
        rw [e2]
        exact ⟨fun _ => yF_t e1 (a q1), fun q2 => absurd q2 q1⟩
    · rw [if_neg s2]
      by_cases s3 : lt8 (pk sg p) = -1
      · rw [if_pos s3]
        by_cases s4 : pk sg p = -1
        · rw [nm_no (by omega) (Or.inl (by rw [s4]; decide)) hf, flt_w hf]
          exact ⟨fun _ => yF_0 s4 hf (Or.inl rfl), fun q => absurd q (nI_m1 (by omega))⟩
        · have ey : yS sg (p, c, w, e, m, true) = ((nm sg 2 p).2, c ++ [(nm sg 2 p).1], w, e, m, false) := by
            show yT sg p c w e m = _
            unfold yT; rw [if_neg s1, if_neg s2, if_pos s3]
          refine ⟨fun q => ?_, fun q => ⟨[(nm sg 2 p).1], [], m, ?_, by simp, fun x hx => absurd hx (List.not_mem_nil), fun i hi => rfl⟩⟩
          · have e3 := yF_1 hE (y := (p, c, w, e, m, true)) s4 (by rw [ey]; exact q)
            rw [ey] at e3
            exact e3
          · have e3 := yR_1 hE (y := (p, c, w, e, m, true)) s4 (by rw [ey]; exact nm_ok (by omega) hf hE hp q)
            rw [ey] at e3
            exact e3
      · rw [if_neg s3]
        have s4 : ¬ pk sg p = -1 := fun q => s3 (by rw [q]; decide)
        have ey : yS sg (p, c, w, e, m, true) = (adv p, c ++ [1000 + lt8 (pk sg p)], w, e, m, false) := by
          show yT sg p c w e m = _
          unfold yT; rw [if_neg s1, if_neg s2, if_neg s3]
        refine ⟨fun q => absurd hf q, fun q => ⟨[1000 + lt8 (pk sg p)], [], m, ?_, by simp, fun x hx => absurd hx (List.not_mem_nil), fun i hi => rfl⟩⟩
        have e3 := yR_1 hE (y := (p, c, w, e, m, true)) s4 (by rw [ey]; exact Nat.lt_succ_self _)
        rw [ey] at e3
        exact e3
theorem s4_s {sg : Nat → Int32} (hE : sgE sg 40) {b : Int32} {p : Nat × Int32} {c w a pd : List Int32} {e : Nat} {m : Int32} (hs : ¬ pk sg p = -1) (h41 : ¬ pk sg p = 41) (hb : bnd (pk sg p) = b) (hb0 : ¬ b = 0) (hb1 : b = 1 → bt m e = false) (ht : top b w) (hpd : ∀ x, x ∈ pd → b ≤ bnd x) : yR sg (p, c ++ a, pd ++ w, e, m, false) (adv p, c ++ (a ++ pd.map (fun x => 2000 + x)), pk sg p :: w, e, if b = 1 then m ||| bit e else m, true) := by
  have ey : yS sg (p, c ++ a, pd ++ w, e, m, false) = (adv p, c ++ (a ++ pd.map (fun x => 2000 + x)), pk sg p :: w, e, if b = 1 then m ||| bit e else m, true) := by
    show yG sg p (c ++ a) (pd ++ w) e m = _
    unfold yG
    rw [if_neg (fun q => h41 q.1), hb, if_neg (by
      rintro (q | ⟨q1, q2⟩)
      · exact hb0 q
      · rw [hb1 q1] at q2; cases q2), stl_all pd _ _ hpd ht, List.append_assoc]
  have e3 := yR_1 hE (y := (p, c ++ a, pd ++ w, e, m, false)) hs (by rw [ey]; exact Nat.lt_succ_self _)
  rw [ey] at e3
  exact e3
theorem s4 {sg : Nat → Int32} (hE : sgE sg 40) {n : Nat} (i5 : y5 sg n) (i4 : y4 sg n) : y4 sg (n + 1) := by
  intro p c w a pd e m hf hp hn he ht hpd
  rw [pc_4]
  by_cases s1 : pk sg p = 42 ∨ pk sg p = 47
  · rw [if_pos s1]
    have hs : ¬ pk sg p = -1 := by rcases s1 with q | q <;> rw [q] <;> decide
    have h41 : ¬ pk sg p = 41 := by rcases s1 with q | q <;> rw [q] <;> decide
    have hb : bnd (pk sg p) = 3 := by rcases s1 with q | q <;> rw [q] <;> rfl
    have hlt := pk_at hE hs
    have e1 := s4_s hE (c := c) (a := a) (m := m) (e := e) hs h41 hb (by decide) (fun q => absurd q (by decide)) ht hpd
    rw [if_neg (by decide)] at e1
    generalize hA : a ++ pd.map (fun x => 2000 + x) = A at *
    obtain ⟨f1, f2⟩ := i5 (adv p) (c ++ A) (pk sg p :: w) e m hf hlt (by show 6 * (41 - (p.1 + 1)) + 1 ≤ n; omega) he
    have hat := pc_at hE n 5 e [] (adv p) hlt
    generalize hq : pc sg n 5 e [] (adv p) = q at *
    have hat1 : p.1 + 1 ≤ q.2.1 := hat.1
    by_cases q1 : q.2.2 = -1
    · obtain ⟨cd, pd', m', h1, h2, h3, h4⟩ := f2 q1
      have k := i4 q.2 c w (A ++ cd) (pd' ++ [pk sg p]) e m' q1 hat.2 (by omega) he ht (by
        intro x hx
        rcases List.mem_append.mp hx with hx | hx
        · exact lePos (by decide) (h3 x hx)
        · rw [List.mem_singleton.mp hx, hb]; decide)
      have el : A ++ cd ++ (pd' ++ [pk sg p]).map (fun x => 2000 + x) = A ++ q.1 ++ [2000 + pk sg p] := by rw [h2]; simp
      rw [el] at k
      have e2 : yR sg (p, c ++ a, pd ++ w, e, m, false) (q.2, c ++ (A ++ cd), (pd' ++ [pk sg p]) ++ w, e, m', false) := yR_t e1 (by simpa using h1)
      refine ⟨⟨fun q2 => yF_t e2 (k.1.1 q2), fun q2 => ?_⟩, k.2⟩
      obtain ⟨cd2, pd2, m2, g1, g2, g3, g4⟩ := k.1.2 q2
      exact ⟨cd2, pd2, m2, yR_t e2 g1, g2, g3, fun i hi => (g4 i hi).trans (h4 i hi)⟩
    · have e2 : (pc sg n 4 e (A ++ q.1 ++ [2000 + pk sg p]) q.2).2 = q.2 := pc_wrong sg n 4 e _ q.2 q1
      unfold yP
      rw [e2]
      exact ⟨⟨fun _ => yF_t e1 (f1 q1), fun q2 => absurd q2 q1⟩, fun q2 => absurd q2 q1⟩
  · rw [if_neg s1]
    exact ⟨⟨fun q => absurd hf q, fun _ => ⟨a, pd, m, yR_r _ _, rfl, hpd, fun i hi => rfl⟩⟩, fun _ => ⟨fun q => s1 (Or.inl q), fun q => s1 (Or.inr q)⟩⟩
theorem s3 {sg : Nat → Int32} (hE : sgE sg 40) {n : Nat} (i5 : y5 sg n) (i4 : y4 sg n) : y3 sg (n + 1) := by
  intro p c w e m hf hp hn he ht
  rw [pc_3]
  obtain ⟨f1, f2⟩ := i5 p c w e m hf hp (by omega) he
  have hat := pc_at hE n 5 e [] p hp
  generalize hq : pc sg n 5 e [] p = q at *
  by_cases q1 : q.2.2 = -1
  · obtain ⟨cd, pd, m', h1, h2, h3, h4⟩ := f2 q1
    have k := i4 q.2 c w cd pd e m' q1 hat.2 (by omega) he ht (fun x hx => lePos (by decide) (h3 x hx))
    rw [← h2] at k
    refine ⟨⟨fun q2 => yF_t h1 (k.1.1 q2), fun q2 => ?_⟩, k.2⟩
    obtain ⟨cd2, pd2, m2, g1, g2, g3, g4⟩ := k.1.2 q2
    exact ⟨cd2, pd2, m2, yR_t h1 g1, g2, g3, fun i hi => (g4 i hi).trans (h4 i hi)⟩
  · have e2 : (pc sg n 4 e q.1 q.2).2 = q.2 := pc_wrong sg n 4 e _ q.2 q1
    unfold yP
    rw [e2]
    exact ⟨⟨fun _ => f1 q1, fun q2 => absurd q2 q1⟩, fun q2 => absurd q2 q1⟩
theorem s2 {sg : Nat → Int32} (hE : sgE sg 40) {n : Nat} (i5 : y3 sg n) (i4 : y2 sg n) : y2 sg (n + 1) := by
  intro p c w a pd e m hf hp hn he ht hpd n42 n47
  rw [pc_2]
  by_cases s1 : pk sg p = 43 ∨ pk sg p = 45
  · rw [if_pos s1]
    have hs : ¬ pk sg p = -1 := by rcases s1 with q | q <;> rw [q] <;> decide
    have h41 : ¬ pk sg p = 41 := by rcases s1 with q | q <;> rw [q] <;> decide
    have hb : bnd (pk sg p) = 2 := by rcases s1 with q | q <;> rw [q] <;> rfl
    have hlt := pk_at hE hs
    have e1 := s4_s hE (c := c) (a := a) (m := m) (e := e) hs h41 hb (by decide) (fun q => absurd q (by decide)) ht hpd
    rw [if_neg (by decide)] at e1
    generalize hA : a ++ pd.map (fun x => 2000 + x) = A at *
    obtain ⟨⟨f1, f2⟩, f3⟩ := i5 (adv p) (c ++ A) (pk sg p :: w) e m hf hlt (by show 6 * (41 - (p.1 + 1)) + 2 ≤ n; omega) he (top_c (by rw [hb]; decide) w)
    have hat := pc_at hE n 3 e [] (adv p) hlt
    generalize hq : pc sg n 3 e [] (adv p) = q at *
    have hat1 : p.1 + 1 ≤ q.2.1 := hat.1
    by_cases q1 : q.2.2 = -1
    · obtain ⟨cd, pd', m', h1, h2, h3, h4⟩ := f2 q1
      have k := i4 q.2 c w (A ++ cd) (pd' ++ [pk sg p]) e m' q1 hat.2 (by omega) he ht (by
        intro x hx
        rcases List.mem_append.mp hx with hx | hx
        · exact lePos (by decide) (h3 x hx)
        · rw [List.mem_singleton.mp hx, hb]; decide) (f3 q1).1 (f3 q1).2
      have el : A ++ cd ++ (pd' ++ [pk sg p]).map (fun x => 2000 + x) = A ++ q.1 ++ [2000 + pk sg p] := by rw [h2]; simp
      rw [el] at k
      have e2 : yR sg (p, c ++ a, pd ++ w, e, m, false) (q.2, c ++ (A ++ cd), (pd' ++ [pk sg p]) ++ w, e, m', false) := yR_t e1 (by simpa using h1)
      refine ⟨⟨fun q2 => yF_t e2 (k.1.1 q2), fun q2 => ?_⟩, k.2⟩
      obtain ⟨cd2, pd2, m2, g1, g2, g3, g4⟩ := k.1.2 q2
      exact ⟨cd2, pd2, m2, yR_t e2 g1, g2, g3, fun i hi => (g4 i hi).trans (h4 i hi)⟩
    · have e2 : (pc sg n 2 e (A ++ q.1 ++ [2000 + pk sg p]) q.2).2 = q.2 := pc_wrong sg n 2 e _ q.2 q1
      unfold yP
      rw [e2]
      exact ⟨⟨fun _ => yF_t e1 (f1 q1), fun q2 => absurd q2 q1⟩, fun q2 => absurd q2 q1⟩
  · rw [if_neg s1]
    exact ⟨⟨fun q => absurd hf q, fun _ => ⟨a, pd, m, yR_r _ _, rfl, hpd, fun i hi => rfl⟩⟩, fun _ => ⟨n42, n47, fun q => s1 (Or.inl q), fun q => s1 (Or.inr q)⟩⟩
theorem s1 {sg : Nat → Int32} (hE : sgE sg 40) {n : Nat} (i5 : y3 sg n) (i4 : y2 sg n) : y1 sg (n + 1) := by
  intro p c w e m hf hp hn he ht
  rw [pc_1]
  obtain ⟨⟨f1, f2⟩, f3⟩ := i5 p c w e m hf hp (by omega) he (top_up (by decide) ht)
  have hat := pc_at hE n 3 e [] p hp
  generalize hq : pc sg n 3 e [] p = q at *
  by_cases q1 : q.2.2 = -1
  · obtain ⟨cd, pd, m', h1, h2, h3, h4⟩ := f2 q1
    have k := i4 q.2 c w cd pd e m' q1 hat.2 (by omega) he ht (fun x hx => lePos (by decide) (h3 x hx)) (f3 q1).1 (f3 q1).2
    rw [← h2] at k
    refine ⟨⟨fun q2 => yF_t h1 (k.1.1 q2), fun q2 => ?_⟩, k.2⟩
    obtain ⟨cd2, pd2, m2, g1, g2, g3, g4⟩ := k.1.2 q2
    exact ⟨cd2, pd2, m2, yR_t h1 g1, g2, g3, fun i hi => (g4 i hi).trans (h4 i hi)⟩
  · have e2 : (pc sg n 2 e q.1 q.2).2 = q.2 := pc_wrong sg n 2 e _ q.2 q1
    unfold yP
    rw [e2]
    exact ⟨⟨fun _ => f1 q1, fun q2 => absurd q2 q1⟩, fun q2 => absurd q2 q1⟩
theorem s0 {sg : Nat → Int32} (hE : sgE sg 40) {n : Nat} (i1 : y1 sg n) : y0 sg (n + 1) := by
  intro p c w e m hf hp hn he ht hm
  rw [pc_0]
  obtain ⟨⟨f1, f2⟩, f3⟩ := i1 p c w e m hf hp (by omega) he (top_up (by decide) ht)
  have hat := pc_at hE n 1 e [] p hp
  generalize hr : pc sg n 1 e [] p = r at *
  by_cases q1 : r.2.2 = -1
  · obtain ⟨cd, pd, m', h1, h2, h3, h4⟩ := f2 q1
    by_cases s1 : pk sg r.2 = 60 ∨ pk sg r.2 = 62 ∨ pk sg r.2 = 61
    · rw [if_pos s1]
      have hs : ¬ pk sg r.2 = -1 := by rcases s1 with q | q | q <;> rw [q] <;> decide
      have h41 : ¬ pk sg r.2 = 41 := by rcases s1 with q | q | q <;> rw [q] <;> decide
      have hb : bnd (pk sg r.2) = 1 := by rcases s1 with q | q | q <;> rw [q] <;> rfl
      have hlt := pk_at hE hs
      have e1 := s4_s hE (c := c) (a := cd) (m := m') (e := e) hs h41 hb (by decide) (fun _ => by rw [h4 e (Nat.le_refl _)]; exact hm) ht (fun x hx => lePos (by decide) (h3 x hx))
      rw [if_pos rfl, ← h2] at e1
      obtain ⟨⟨k1, k2⟩, k3⟩ := i1 (adv r.2) (c ++ r.1) (pk sg r.2 :: w) e (m' ||| bit e) q1 hlt (by show 6 * (41 - (r.2.1 + 1)) + 3 ≤ n; omega) he (top_c (by rw [hb]; decide) w)
      generalize hq : pc sg n 1 e [] (adv r.2) = q at *
      refine ⟨fun q2 => yF_t h1 (yF_t e1 (k1 q2)), fun q2 => ?_⟩
      obtain ⟨cd2, pd2, m2, g1, g2, g3, g4⟩ := k2 q2
      refine ⟨r.1 ++ cd2, pd2 ++ [pk sg r.2], m2, yR_t h1 (yR_t e1 (by simpa using g1)), ?_, ?_, ?_, k3 q2, Or.inl ?_⟩
      · simp only
        rw [g2]; simp
      · intro x hx
        rcases List.mem_append.mp hx with hx | hx
        · exact lePos (by decide) (g3 x hx)
        · rw [List.mem_singleton.mp hx, hb]; decide
      · intro i hi
        rw [g4 i (by omega), b_or, b_bit (by omega) (by omega), h4 i (by omega)]
        simp only [show ¬ i = e by omega, decide_false, Bool.or_false]
      · rw [g4 e (Nat.le_refl _), b_or, b_bit (by omega) (by omega)]
        simp
    · rw [if_neg s1]
      exact ⟨fun q2 => absurd q1 q2, fun _ => ⟨cd, pd, m', h1, h2, fun x hx => lePos (by decide) (h3 x hx), fun i hi => h4 i (by omega), f3 q1, Or.inr ⟨fun q => s1 (Or.inl q), fun q => s1 (Or.inr (Or.inl q)), fun q => s1 (Or.inr (Or.inr q))⟩⟩⟩
  · have s1 : ¬ (pk sg r.2 = 60 ∨ pk sg r.2 = 62 ∨ pk sg r.2 = 61) := by
      rw [pk_wr sg q1]; decide
    rw [if_neg s1]
    exact ⟨fun _ => f1 q1, fun q2 => absurd q2 q1⟩
theorem yAll {sg : Nat → Int32} (hE : sgE sg 40) (h256 : ∀ a, ¬ sg a = 256) : ∀ n, y0 sg n ∧ y1 sg n ∧ y2 sg n ∧ y3 sg n ∧ y4 sg n ∧ y5 sg n := by
  intro n
  induction n with
  | zero =>
    refine ⟨?_, ?_, ?_, ?_, ?_, ?_⟩
    · intro p c w e m _ h1 h2; omega
    · intro p c w e m _ h1 h2; omega
    · intro p c w a pd e m _ h1 h2; omega
    · intro p c w e m _ h1 h2; omega
    · intro p c w a pd e m _ h1 h2; omega
    · intro p c w e m _ h1 h2; omega
  | succ n ih =>
    obtain ⟨i0, i1, i2, i3, i4, i5⟩ := ih
    exact ⟨s0 hE i1, s1 hE i3 i2, s2 hE i3 i2, s3 hE i5 i4, s4 hE i5 i4, s5 hE h256 i5 i0⟩
/-- all signs of a rule: both come to the same -/
def yE (sg : Nat → Int32) : yC := yL sg 40 ((0, -1), [], [], 0, 0, true)
theorem yard {sg : Nat → Int32} (hE : sgE sg 40) (h256 : ∀ a, ¬ sg a = 256) :
    (¬ (pc sg 300 0 0 [] (0, -1)).2.2 = -1 → yW (yE sg) = (pc sg 300 0 0 [] (0, -1)).2.2) ∧
    ((pc sg 300 0 0 [] (0, -1)).2.2 = -1 → pk sg (pc sg 300 0 0 [] (0, -1)).2 = -1 → yW (yE sg) = -1 ∧ (yE sg).1 = (pc sg 300 0 0 [] (0, -1)).2 ∧ (stl 1 (yE sg).2.1 (yE sg).2.2.1).1 = (pc sg 300 0 0 [] (0, -1)).1) ∧
    ((pc sg 300 0 0 [] (0, -1)).2.2 = -1 → ¬ pk sg (pc sg 300 0 0 [] (0, -1)).2 = -1 → yW (yE sg) = nI (pc sg 300 0 0 [] (0, -1)).2.1) := by
  obtain ⟨a, b⟩ := (yAll hE h256 300).1 (0, -1) [] [] 0 0 rfl (by decide) (by decide) (by decide) (fun x r q => by cases q) (b_0 0)
  have hat := pc_at hE 300 0 0 [] (0, -1) (by decide)
  generalize hq : pc sg 300 0 0 [] (0, -1) = q at *
  refine ⟨fun q1 => a q1 40 (by decide), fun q1 q2 => ?_, fun q1 q2 => ?_⟩
  · obtain ⟨cd, pd, m', h1, h2, h3, h4, h5, h6⟩ := b q1
    obtain ⟨m1, _, e⟩ := h1 40 (by decide)
    have e2 : yE sg = (q.2, [] ++ cd, pd ++ [], 0, m', false) := by
      unfold yE
      rw [e]
      exact yL_end q2 m1
    rw [e2]
    refine ⟨?_, rfl, ?_⟩
    · unfold yW
      simp only [Bool.false_eq_true, Nat.lt_irrefl, or_self, if_false]
      exact q1
    · simp only
      rw [stl_all pd _ [] h3 (fun x r q => by cases q), h2]
      simp
  · obtain ⟨cd, pd, m', h1, h2, h3, h4, h5, h6⟩ := b q1
    have hw : ¬ nI q.2.1 = -1 := nI_m1 (by have := hat.2; omega)
    have hb : bnd (pk sg q.2) = 0 ∨ (bnd (pk sg q.2) = 1 ∧ bt m' 0 = true) := by
      by_cases hc : ¬ pk sg q.2 = 60 ∧ ¬ pk sg q.2 = 62 ∧ ¬ pk sg q.2 = 61
      · exact Or.inl (bnd_0 (pk256 h256 _) h5.1 h5.2.1 h5.2.2.1 h5.2.2.2 hc)
      · refine Or.inr ⟨?_, ?_⟩
        · by_cases c1 : pk sg q.2 = 60
          · rw [c1]; rfl
          · by_cases c2 : pk sg q.2 = 62
            · rw [c2]; rfl
            · by_cases c3 : pk sg q.2 = 61
              · rw [c3]; rfl
              · exact absurd ⟨c1, c2, c3⟩ hc
        · rcases h6 with h6 | h6
          · exact h6
          · exact absurd h6 hc
    have ey2 : yS sg (q.2, [] ++ cd, pd ++ [], 0, m', false) = ((q.2.1, nI q.2.1), [] ++ cd, pd ++ [], 0, m', false) := by
      show yG sg q.2 ([] ++ cd) (pd ++ []) 0 m' = _
      unfold yG; rw [if_neg (fun q => absurd q.2 (by decide)), if_pos hb, flt_w q1]
    have e3 := yF_1 hE (y := (q.2, [] ++ cd, pd ++ [], 0, m', false)) q2 (by rw [ey2]; exact hw)
    rw [ey2] at e3
    exact yF_t h1 e3 40 (by decide)
end T04
section T05
/-! what holds between calls -/
def Fr (S : List Nat) (I I' : Nat → Nat → Int32) : Prop := ∀ a, a ∉ S → I' a = I a
theorem Fr_r (S : List Nat) (I : Nat → Nat → Int32) : Fr S I I := fun _ _ => rfl
theorem Fr_t {S : List Nat} {I I' I'' : Nat → Nat → Int32} (h : Fr S I I') (h2 : Fr S I' I'') : Fr S I I'' := fun a ha => (h2 a ha).trans (h a ha)
theorem Fr_s {S : List Nat} {I I' : Nat → Nat → Int32} {b : Nat} (h : Fr S I I') (r : Nat → Int32) (hb : b ∈ S) : Fr S I (aR I' b r) := fun a ha => by
  rw [aR_r _ _ (fun e => ha (e ▸ hb))]; exact h a ha
theorem Fr_w {S S' : List Nat} {I I' : Nat → Nat → Int32} (h : Fr S I I') (hs : ∀ a, a ∈ S → a ∈ S') : Fr S' I I' := fun a ha => h a (fun q => ha (hs a q))
theorem nI_lei {a b : Nat} (h : nI a ≤ nI b) (ha : a < 2 ^ 31) : a ≤ b := by
  apply Classical.byContradiction; intro q; exact nI_ge (by omega) ha h
theorem nI_lti {a b : Nat} (h : nI a < nI b) (ha : a < 2 ^ 31) : a < b := by
  apply Classical.byContradiction; intro q; exact nI_nlt (by omega) ha h
/-- a state that can be: of n drivers, q quarrels -/
def okW (n q : Nat) (v : Nat → Int32) : Prop :=
  (∀ c, c < 2 → ∃ m, m ≤ 9999 ∧ v c = nI m) ∧ (∀ c, c < 2 → ∃ m, m ≤ 999 ∧ v (2 + c) = nI m) ∧ clubs (fun i => v (6 + i)) n ∧ (∀ i, n ≤ i → i < 8 → v (14 + i) = 0 ∧ v (22 + i) = 0) ∧ (∀ j, q ≤ j → j < 8 → v (30 + j) = -1)
theorem okW_upd {n q : Nat} {v : Nat → Int32} (h : okW n q v) (k : Nat) (x : Int32)
    (h1 : k < 2 → ∃ m, m ≤ 9999 ∧ x = nI m) (h2 : ∀ c, c < 2 → k = 2 + c → ∃ m, m ≤ 999 ∧ x = nI m) (h3 : ∀ i, i < n → k = 6 + i → ∃ c, c < 2 ∧ x = nI c) (h4 : ∀ i, n ≤ i → i < 8 → ¬ k = 14 + i ∧ ¬ k = 22 + i) (h5 : ∀ j, q ≤ j → j < 8 → ¬ k = 30 + j) : okW n q (upd v k x) := by
  obtain ⟨a1, a2, a3, a4, a5⟩ := h
  refine ⟨fun c hc => ?_, fun c hc => ?_, fun i hi => ?_, fun i hi hi2 => ?_, fun j hj hj2 => ?_⟩
  · by_cases e : c = k
    · subst e; rw [upd_s]; exact h1 hc
    · rw [upd_n _ _ e]; exact a1 c hc
  · by_cases e : 2 + c = k
    · rw [e, upd_s]; exact h2 c hc e.symm
    · rw [upd_n _ _ e]; exact a2 c hc
  · show ∃ c, c < 2 ∧ upd v k x (6 + i) = nI c
    by_cases e : 6 + i = k
    · rw [e, upd_s]; exact h3 i hi e.symm
    · rw [upd_n _ _ e]; exact a3 i hi
  · rw [upd_n _ _ (fun e => (h4 i hi hi2).1 e.symm), upd_n _ _ (fun e => (h4 i hi hi2).2 e.symm)]; exact a4 i hi hi2
  · rw [upd_n _ _ (fun e => h5 j hj hj2 e.symm)]; exact a5 j hj hj2
theorem cl9_ok (x : Int32) : ∃ m, m ≤ 999 ∧ cl9 x = nI m := by
  unfold cl9
  by_cases h : x < 999
  · rw [if_pos h]
    by_cases h2 : 0 < x
    · rw [if_pos h2]
      refine nI_of2 (M := 999) (n := 999) rfl (fun q => ?_) ?_
      · rw [int_lt] at *; omega
      · rw [int_le]; rw [int_lt] at h; omega
    · rw [if_neg h2]; exact ⟨0, by decide, rfl⟩
  · rw [if_neg h, if_pos (by decide)]; exact ⟨999, by decide, rfl⟩
theorem mn9_ok {m p : Nat} (hm : m ≤ 9999) (hp : p ≤ 9999) : ∃ k, k ≤ 9999 ∧ mn9 (nI m + nI p) = nI k := by
  rw [nI_add]; unfold mn9
  by_cases h : nI (m + p) < 9999
  · rw [if_pos h]; exact ⟨m + p, Nat.le_of_lt (nI_lti (b := 9999) h (by omega)), rfl⟩
  · rw [if_neg h]; exact ⟨9999, by decide, rfl⟩
theorem okW_A {n q : Nat} {v : Nat → Int32} (h : okW n q v) {c : Nat} (hc : c < 2) (x : Int32) : okW n q (adA v c x) :=
  okW_upd h (2 + c) _ (fun _ => by exfalso; omega) (fun _ _ _ => cl9_ok _) (fun _ _ _ => by exfalso; omega) (fun _ _ _ => by omega) (fun _ _ _ => by omega)
theorem okW_M {n q : Nat} {v : Nat → Int32} (h : okW n q v) {c p : Nat} (hc : c < 2) (hp : p ≤ 9999) : okW n q (adM v c (nI p)) := by
  obtain ⟨m, hm, e⟩ := h.1 c hc
  unfold adM
  rw [e]
  exact okW_upd h c _ (fun _ => mn9_ok hm hp) (fun _ _ _ => by exfalso; omega) (fun _ _ _ => by exfalso; omega) (fun _ _ _ => by omega) (fun _ _ _ => by omega)
theorem okW_c {n q : Nat} {v : Nat → Int32} (h : okW n q v) {c m : Nat} (hc : c < 2) (hm : m ≤ 9999) : okW n q (upd v c (nI m)) :=
  okW_upd h c _ (fun _ => ⟨m, hm, rfl⟩) (fun _ _ _ => by exfalso; omega) (fun _ _ _ => by exfalso; omega) (fun _ _ _ => by omega) (fun _ _ _ => by omega)
theorem okW_l {n q : Nat} {v : Nat → Int32} (h : okW n q v) {i c : Nat} (hi : i < 8) (hc : c < 2) : okW n q (upd v (6 + i) (nI c)) :=
  okW_upd h (6 + i) _ (fun _ => by exfalso; omega) (fun _ _ _ => by exfalso; omega) (fun _ _ _ => ⟨c, hc, rfl⟩) (fun _ _ _ => by omega) (fun _ _ _ => by omega)
theorem okW_x {n q : Nat} {v : Nat → Int32} (h : okW n q v) {i : Nat} (hi : i < n) (hn : n ≤ 8) (x : Int32) : okW n q (upd v (14 + i) x) :=
  okW_upd h (14 + i) _ (fun _ => by exfalso; omega) (fun _ _ _ => by exfalso; omega) (fun _ _ _ => by exfalso; omega) (fun _ _ _ => by omega) (fun _ _ _ => by omega)
theorem okW_w {n q : Nat} {v : Nat → Int32} (h : okW n q v) {i : Nat} (hi : i < n) (hn : n ≤ 8) (x : Int32) : okW n q (upd v (22 + i) x) :=
  okW_upd h (22 + i) _ (fun _ => by exfalso; omega) (fun _ _ _ => by exfalso; omega) (fun _ _ _ => by exfalso; omega) (fun _ _ _ => by omega) (fun _ _ _ => by omega)
theorem okW_s {n q : Nat} {v : Nat → Int32} (h : okW n q v) {j : Nat} (hj : j < q) (hn : n ≤ 8) (hq : q ≤ 8) (x : Int32) : okW n q (upd v (30 + j) x) :=
  okW_upd h (30 + j) _ (fun _ => by exfalso; omega) (fun _ _ _ => by exfalso; omega) (fun _ _ _ => by exfalso; omega) (fun _ _ _ => by omega) (fun _ _ _ => by omega)
theorem okW_v {n q : Nat} {v : Nat → Int32} (h : okW n q v) {c : Nat} (hc : c < 2) (hn : n ≤ 8) (x : Int32) : okW n q (upd v (4 + c) x) :=
  okW_upd h (4 + c) _ (fun _ => by exfalso; omega) (fun _ _ _ => by exfalso; omega) (fun _ _ _ => by exfalso; omega) (fun _ _ _ => by omega) (fun _ _ _ => by omega)
theorem okW_r {n q : Nat} {v : Nat → Int32} (h : okW n q v) (hn : n ≤ 8) (x : Int32) : okW n q (upd v 38 x) :=
  okW_upd h 38 _ (fun _ => by exfalso; omega) (fun _ _ _ => by exfalso; omega) (fun _ _ _ => by exfalso; omega) (fun _ _ _ => by omega) (fun _ _ _ => by omega)
theorem okW_race {n q : Nat} {v : Nat → Int32} (h : okW n q v) {i c : Nat} (hi : i < n) (hn : n ≤ 8) (hc : c < 2) : okW n q (rRace v i c) := by
  unfold rRace
  exact okW_r (okW_A (okW_A (okW_M (p := 10) (okW_v (okW_w h hi hn _) hc hn _) hc (by decide)) (by omega) _) hc _) hn _
theorem okW_buy {n q : Nat} {v : Nat → Int32} (h : okW n q v) {i c m p : Nat} (hi : i < n) (hn : n ≤ 8) (hc : c < 2) (hp : p ≤ 99) (hv : v c = nI m) (hm : m ≤ 9999) (hpm : p ≤ m) : okW n q (rBuy v c i (nI p)) := by
  unfold rBuy
  rw [hv, pk_sub hpm]
  exact okW_l (okW_M (okW_c h hc (by omega)) (by omega) (by omega)) (by omega) hc
theorem okW_hex {n q : Nat} {v : Nat → Int32} (h : okW n q v) {i c m : Nat} (hi : i < n) (hn : n ≤ 8) (hc : c < 2) (hv : v c = nI m) (hm : m ≤ 9999) (hpm : 5 ≤ m) : okW n q (rHex v c i) := by
  unfold rHex
  rw [hv, show nI m - 5 = nI (m - 5) from pk_sub (b := 5) hpm]
  exact okW_x (okW_c h hc (by omega)) hi hn _
theorem okW_dig {n q : Nat} {v : Nat → Int32} (h : okW n q v) {i c m : Nat} (hi : i < n) (hn : n ≤ 8) (hc : c < 2) (hv : v c = nI m) (hm : m ≤ 9999) (hpm : 3 ≤ m) : okW n q (rDig v c i) := by
  unfold rDig
  rw [hv, show nI m - 3 = nI (m - 3) from pk_sub (b := 3) hpm]
  exact okW_x (okW_c h hc (by omega)) hi hn _
theorem okW_side {n q : Nat} {v : Nat → Int32} (h : okW n q v) {j : Nat} (hj : j < q) (hn : n ≤ 8) (hq : q ≤ 8) (b : Nat) (x y : Int32) : okW n q (rSide v j b x y) := by
  unfold rSide
  exact okW_A (okW_A (okW_s h hj hn hq _) (by omega) _) (by omega) _
def hi8 (x : Int32) : Prop := ∀ i, 8 ≤ i → i < 32 → bt x i = false
/-- a state of the class, and the reference's -/
def okS (n q : Nat) (f h : Nat → Int32) : Prop := cV f = rV h ∧ okW n q (rV h) ∧ hi8 (f 7)
theorem okS_congr {n q : Nat} {f h f' h' : Nat → Int32} (H : okS n q f h) (e : ∀ i, i < 32 → f' i = f i) (e2 : ∀ i, i < 39 → h' i = h i) : okS n q f' h' := by
  obtain ⟨a, b, c⟩ := H
  refine ⟨?_, ?_, ?_⟩
  · rw [cV_congr e, rV_congr e2, a]
  · rw [rV_congr e2]; exact b
  · rw [e 7 (by decide)]; exact c
section OkS
variable {n q : Nat} {f h : Nat → Int32}
theorem okS_c (H : okS n q f h) {c : Nat} (hc : c < 6) : f c = h c := by
  rw [← cV_c f (by omega) hc, H.1, rV_lt _ (by omega)]
theorem okS_l (H : okS n q f h) {i : Nat} (hi : i < 8) : f (8 + i) = h (6 + i) := by
  rw [← cV_l f hi, H.1, rV_lt _ (by omega)]
theorem okS_w (H : okS n q f h) {i : Nat} (hi : i < 8) : f (16 + i) = h (22 + i) := by
  rw [← cV_w f hi, H.1, rV_lt _ (by omega)]
theorem okS_s (H : okS n q f h) {i : Nat} (hi : i < 8) : f (24 + i) = h (30 + i) := by
  rw [← cV_s f hi, H.1, rV_lt _ (by omega)]
theorem okS_x (H : okS n q f h) {i : Nat} (hi : i < 8) : h (14 + i) = tI (hasT (f 7) (nI i)) := by
  rw [← cV_x f hi, H.1, rV_lt _ (by omega)]
theorem okS_r (H : okS n q f h) : f 6 = h 38 := by
  rw [← cV_r f, H.1, rV_lt _ (by omega)]
theorem okS_m (H : okS n q f h) {c : Nat} (hc : c < 2) : ∃ m, m ≤ 9999 ∧ f c = nI m ∧ h c = nI m := by
  obtain ⟨m, h1, h2⟩ := H.2.1.1 c hc
  rw [rV_lt _ (by omega)] at h2
  exact ⟨m, h1, by rw [okS_c H (by omega)]; exact h2, h2⟩
theorem okS_a (H : okS n q f h) {c : Nat} (hc : c < 2) : ∃ m, m ≤ 999 ∧ f (2 + c) = nI m ∧ h (2 + c) = nI m := by
  obtain ⟨m, h1, h2⟩ := H.2.1.2.1 c hc
  rw [rV_lt _ (by omega)] at h2
  exact ⟨m, h1, by rw [okS_c H (by omega)]; exact h2, h2⟩
theorem okS_k (H : okS n q f h) (hn : n ≤ 8) {i : Nat} (hi : i < n) : ∃ k, k < 2 ∧ f (8 + i) = nI k ∧ h (6 + i) = nI k := by
  obtain ⟨k, h1, h2⟩ := H.2.1.2.2.1 i hi
  simp only at h2
  rw [rV_lt _ (by omega)] at h2
  exact ⟨k, h1, by rw [okS_l H (by omega)]; exact h2, h2⟩
theorem okS_cl (H : okS n q f h) (hn : n ≤ 8) : clubs (fun i => f (8 + i)) n := fun i hi => by
  obtain ⟨k, h1, h2, _⟩ := okS_k H hn hi
  exact ⟨k, h1, h2⟩
theorem okS_clr (H : okS n q f h) (hn : n ≤ 8) : clubs (fun i => h (6 + i)) n := fun i hi => by
  obtain ⟨k, h1, _, h2⟩ := okS_k H hn hi
  exact ⟨k, h1, h2⟩
theorem okS_buy (H : okS n q f h) {c i p : Nat} (hc : c < 2) (hi : i < n) (hn : n ≤ 8) (hp : p ≤ 99) (hm : nI p ≤ f c) : okS n q (cBuy f c i (nI p)) (rBuy h c i (nI p)) := by
  obtain ⟨m, m1, m2, m3⟩ := okS_m H hc
  rw [m2] at hm
  have m4 := nI_lei hm (by omega)
  refine ⟨?_, ?_, ?_⟩
  · rw [cBuy_v hc (by omega) m2 m1 m4, rBuy_r _ _ hc (by omega), H.1]
  · rw [rBuy_r _ _ hc (by omega)]
    exact okW_buy H.2.1 hi hn hc hp (by rw [rV_lt _ (by omega)]; exact m3) m1 m4
  · unfold cBuy adM
    rw [upd_n _ _ (by omega), upd_n _ _ (by omega), upd_n _ _ (by omega)]
    exact H.2.2
theorem okS_hex (H : okS n q f h) {c i : Nat} (hc : c < 2) (hi : i < n) (hn : n ≤ 8) (hm : 5 ≤ f c) : okS n q (cHex f c i) (rHex h c i) := by
  obtain ⟨m, m1, m2, m3⟩ := okS_m H hc
  rw [m2] at hm
  have m4 : 5 ≤ m := nI_lei (a := 5) hm (by omega)
  refine ⟨?_, ?_, ?_⟩
  · rw [cHex_v hc (by omega) m2 m1 m4, rHex_r _ hc (by omega), H.1]
  · rw [rHex_r _ hc (by omega)]
    exact okW_hex H.2.1 hi hn hc (by rw [rV_lt _ (by omega)]; exact m3) m1 m4
  · unfold cHex
    rw [upd_s]
    intro j h1 h2
    rw [b_or, H.2.2 j h1 h2, b_bit (by omega) h2]
    simp only [Bool.false_or, decide_eq_false_iff_not]
    omega
theorem okS_dig (H : okS n q f h) {c i : Nat} (hc : c < 2) (hi : i < n) (hn : n ≤ 8) (hm : 3 ≤ f c) : okS n q (cDig f c i) (rDig h c i) := by
  obtain ⟨m, m1, m2, m3⟩ := okS_m H hc
  rw [m2] at hm
  have m4 : 3 ≤ m := nI_lei (a := 3) hm (by omega)
  refine ⟨?_, ?_, ?_⟩
  · rw [cDig_v hc (by omega) m2 m1 m4, rDig_r _ hc (by omega), H.1]
  · rw [rDig_r _ hc (by omega)]
    exact okW_dig H.2.1 hi hn hc (by rw [rV_lt _ (by omega)]; exact m3) m1 m4
  · unfold cDig
    rw [upd_s]
    intro j h1 h2
    rw [b_and, H.2.2 j h1 h2, Bool.false_and]
theorem okS_side (H : okS n q f h) {j : Nat} (hj : j < q) (hn : n ≤ 8) (hq : q ≤ 8) (b : Nat) (x y : Int32) : okS n q (cSide f j b x y) (rSide h j b x y) := by
  refine ⟨?_, ?_, ?_⟩
  · rw [cSide_v _ _ _ (by omega), rSide_r _ _ _ (by omega), H.1]
  · rw [rSide_r _ _ _ (by omega)]
    exact okW_side H.2.1 hj hn hq b x y
  · unfold cSide adA
    rw [upd_n _ _ (by omega), upd_n _ _ (by omega), upd_n _ _ (by omega)]
    exact H.2.2
theorem okS_A (H : okS n q f h) {c : Nat} (hc : c < 2) (x : Int32) : okS n q (adA f c x) (adA h c x) := by
  refine ⟨?_, ?_, ?_⟩
  · rw [cV_adA _ _ hc, rV_adA _ _ hc, H.1]
  · rw [rV_adA _ _ hc]; exact okW_A H.2.1 hc x
  · unfold adA; rw [upd_n _ _ (by omega)]; exact H.2.2
end OkS
/-! what undo goes back to -/
def okU (n q u x : Nat) (r30 r58 : Nat → Int32) : Prop := u ≤ 12 ∧ x < 12 ∧ ∀ j, j < u → okS n q (fun i => r30 (32 * ((x + 12 - u + j) % 12) + i)) (fun i => r58 (39 * j + i))
def shR (r : Nat → Int32) : Nat → Int32 := fun k => if k < 429 then r (k + 39) else r k
def remR (r v : Nat → Int32) (u : Nat) : Nat → Int32 := if u = 12 then cpB (shR r) v 429 39 else cpB r v (39 * u) 39
def up12 (u : Nat) : Nat := if u < 12 then u + 1 else 12
theorem okU_push {n q u x : Nat} {r30 r58 f h : Nat → Int32} (H : okU n q u x r30 r58) (S : okS n q f h) : okU n q (up12 u) ((x + 1) % 12) (cpB r30 f (32 * x) 32) (remR r58 h u) := by
  obtain ⟨h1, h2, h3⟩ := H
  have new : ∀ (k o : Nat) (r : Nat → Int32), k = x → okS n q (fun i => cpB r30 f (32 * x) 32 (32 * k + i)) (fun i => cpB r h o 39 (o + i)) := fun k o r hk => okS_congr S (fun i hi => by
    subst hk
    simp only
    rw [cpB_in _ _ (by omega) (by omega)]; congr 1; omega) (fun i hi => by
    simp only
    rw [cpB_in _ _ (by omega) (by omega)]; congr 1; omega)
  by_cases hu : u = 12
  · subst hu
    refine ⟨by decide, by omega, fun j hj => ?_⟩
    have hj : j < 12 := hj
    show okS n q (fun i => cpB r30 f (32 * x) 32 (32 * (((x + 1) % 12 + 12 - 12 + j) % 12) + i)) (fun i => cpB (shR r58) h 429 39 (39 * j + i))
    by_cases e : j = 11
    · subst e
      exact new _ 429 _ (by omega)
    · refine okS_congr (h3 (j + 1) (by omega)) (fun i hi => ?_) (fun i hi => ?_)
      · simp only
        rw [cpB_out _ _ (by omega)]; congr 1; omega
      · simp only
        rw [cpB_out _ _ (by omega)]; unfold shR; rw [if_pos (by omega)]; congr 1; omega
  · refine ⟨by unfold up12; split <;> omega, by omega, fun j hj => ?_⟩
    unfold up12 at hj
    rw [if_pos (by omega)] at hj
    unfold remR up12
    rw [if_neg hu, if_pos (by omega)]
    by_cases e : j = u
    · subst e
      exact new _ (39 * j) _ (by omega)
    · refine okS_congr (h3 j (by omega)) (fun i hi => ?_) (fun i hi => ?_)
      · simp only
        rw [cpB_out _ _ (by omega)]; congr 1; omega
      · simp only
        rw [cpB_out _ _ (by omega)]
theorem okU_pop {n q u x : Nat} {r30 r58 : Nat → Int32} (H : okU n q (u + 1) x r30 r58) : okU n q u ((x + 11) % 12) r30 r58 ∧ okS n q (fun i => r30 (32 * ((x + 11) % 12) + i)) (fun i => r58 (39 * u + i)) := by
  obtain ⟨h1, h2, h3⟩ := H
  refine ⟨⟨by omega, by omega, fun j hj => ?_⟩, ?_⟩
  · have := h3 j (by omega)
    rw [show (x + 11) % 12 + 12 - u + j = (x + 11) % 12 + (12 - u + j) by omega]
    rw [show ((x + 11) % 12 + (12 - u + j)) % 12 = (x + 12 - (u + 1) + j) % 12 by omega]
    exact this
  · have := h3 u (by omega)
    rw [show (x + 12 - (u + 1) + u) % 12 = (x + 11) % 12 by omega] at this
    exact this
theorem okU_0 {n q n' q' u x : Nat} {r30 r58 r30' r58' : Nat → Int32} (H : okU n q u x r30 r58) : okU n' q' 0 x r30' r58' := ⟨by omega, H.2.1, fun j hj => by omega⟩
def okK (n q c : Nat) (r31 r32 r64 r65 r66 : Nat → Int32) : Prop := ∀ i, i < 2 → (r32 i = 0 ∨ r32 i = 1) ∧ (∃ k, k ≤ c ∧ r66 i = nI k) ∧ (r32 i = 1 ↔ (¬ r65 i = 0 ∧ r66 i = nI c)) ∧ (r32 i = 1 → okS n q (fun k => r31 (32 * i + k)) (fun k => r64 (39 * i + k)))
/-- the rule as the reference keeps it -/
def rRule (row : Nat → Int32) (n : Nat) (rv : (Nat → Int32) → Int32) : Prop :=
  (n = 0 ∧ ∀ t, rv t = t 0 * 10 - t 1 * 15 + (t 4 + t 2) / 3) ∨ (0 < n ∧ n ≤ 40 ∧ (pc (sgn row n 40) 300 0 0 [] (0, -1)).2.2 = -1 ∧ ∀ t S, ev t (pc (sgn row n 40) 300 0 0 [] (0, -1)).1 S = rv t :: S)
def zT (a b : Int32) (r8 r52 : Nat → Int32) : Prop := ∃ k, k ≤ 80 ∧ a = nI k ∧ b = nI k ∧ (∀ i, i < k → r8 i = r52 i &&& 255) ∧ byR r52
def zR (a b : Int32) (j13 j53 : Nat → Int64) : Prop := ∃ k, k ≤ 8 ∧ a = nI k ∧ b = nI k ∧ ∀ i, i < k → j13 i = j53 i
def zD (n : Nat) (a b : Int32) (r15 r16 r48 r49 : Nat → Int32) : Prop := n ≤ 8 ∧ a = nI n ∧ b = nI n ∧ ∀ i, i < n → r15 i = r48 i ∧ r16 i = r49 i ∧ (∃ p, p ≤ 99 ∧ r16 i = nI p) ∧ ∃ p, p ≤ 99 ∧ r15 i = nI p
def zQ (m : Nat) (a b : Int32) (r18 r19 r20 r21 r50 : Nat → Int32) : Prop := m ≤ 8 ∧ a = nI m ∧ b = nI m ∧ ∀ i, i < m → r18 i = r50 (4 * i) ∧ r19 i = r50 (4 * i + 1) ∧ r20 i = r50 (4 * i + 2) ∧ r21 i = r50 (4 * i + 3) ∧ (∃ p, p ≤ 99 ∧ r18 i = nI p) ∧ (∃ p, p < 2 ∧ r19 i = nI p) ∧ ∃ p, p ≤ 99 ∧ r20 i = nI p
def zS (q : Nat) (a b : Int32) (r22 r51 : Nat → Int32) : Prop := q ≤ 8 ∧ a = nI q ∧ b = nI q ∧ ∀ i, i < 4 * q → r22 i = r51 i ∧ ∃ p, p ≤ 99 ∧ r22 i = nI p
def zU (n q : Nat) (a b x : Int32) (r30 r58 : Nat → Int32) : Prop := ∃ u y, a = nI u ∧ b = nI u ∧ x = nI y ∧ okU n q u y r30 r58
def zK (t n q : Nat) (a : Int32) (r31 r32 r64 r65 r66 : Nat → Int32) : Prop := ∃ c, c ≤ t ∧ a = nI c ∧ okK n q c r31 r32 r64 r65 r66
def zV (a b : Int32) (r34 r55 : Nat → Int32) : Prop := ∃ m k rv, a = nI m ∧ b = nI k ∧ cRule r34 m rv ∧ rRule r55 k rv ∧ byR r55
def zH (a b : Int32) (r43 r44 r62 r63 : Nat → Int32) : Prop := ∃ k, k ≤ 12 ∧ a = nI k ∧ b = nI k ∧ ∀ i, i < k → r43 i = r62 i ∧ r44 i = r63 i ∧ (∃ p, p < 5 ∧ r43 i = nI p) ∧ (∃ p, p ≤ 99 ∧ r44 i = nI p) ∧ (r43 i = 0 → ∃ p, p < 2 ∧ r44 i = nI p)
def zInv (t n m q : Nat) (I : Nat → Nat → Int32) (J : Nat → Nat → Int64) : Prop :=
  zT (I 7 1) (I 46 10) (I 8) (I 52) ∧ zR (I 12 1) (I 46 12) (J 13) (J 53) ∧ zD n (I 14 0) (I 46 1) (I 15) (I 16) (I 48) (I 49) ∧ zQ m (I 14 4) (I 46 4) (I 18) (I 19) (I 20) (I 21) (I 50) ∧ zS q (I 14 9) (I 46 6) (I 22) (I 51) ∧ I 14 11 = I 46 8 ∧ okS n q (I 24) (I 47) ∧ zU n q (I 29 1) (I 46 26) (I 29 2) (I 30) (I 58) ∧ zK t n q (I 46 37) (I 31) (I 32) (I 64) (I 65) (I 66) ∧ zV (I 33 1) (I 46 22) (I 34) (I 55) ∧ zH (I 42 2) (I 46 35) (I 43) (I 44) (I 62) (I 63)
theorem zK_up {t n q : Nat} {a : Int32} {r31 r32 r64 r65 r66 : Nat → Int32} (h : zK t n q a r31 r32 r64 r65 r66) : zK (t + 1) n q a r31 r32 r64 r65 r66 := by
  obtain ⟨c, h1, h2⟩ := h; exact ⟨c, by omega, h2⟩
theorem zInv_up {t n m q : Nat} {I : Nat → Nat → Int32} {J : Nat → Nat → Int64} (H : zInv t n m q I J) : zInv (t + 1) n m q I J := by
  obtain ⟨a1, a2, a3, a4, a5, a6, a7, a8, a9, b1, b2⟩ := H
  exact ⟨a1, a2, a3, a4, a5, a6, a7, a8, zK_up a9, b1, b2⟩
/-- cells that tell nothing between calls; likewise of the reference's own fields -/
def scr : List Nat := [9, 10, 11, 17, 25, 26, 27, 28, 35, 36, 37, 38, 39, 40, 41, 45, 46, 54, 56, 57, 59, 60, 61]
def scf : List Nat := [13, 15, 16, 17, 18, 23, 29, 30, 31, 36]
def F46 (S : List Nat) (I I' : Nat → Nat → Int32) : Prop := ∀ j, j ∉ S → I' 46 j = I 46 j
theorem F46_t {S : List Nat} {I I' I'' : Nat → Nat → Int32} (h : F46 S I I') (h2 : F46 S I' I'') : F46 S I I'' := fun a ha => (h2 a ha).trans (h a ha)
theorem F46_f {S T : List Nat} {I I' : Nat → Nat → Int32} (h : Fr S I I') (hs : 46 ∉ S) : F46 T I I' := fun j _ => by rw [h 46 hs]
/-- nothing but such changed, and the row that is told -/
theorem zInv_R {t n m q : Nat} {I I' : Nat → Nat → Int32} {J J' : Nat → Nat → Int64} (H : zInv t n m q I J) (h : Fr (12 :: scr) I I') (h2 : F46 (12 :: scf) I I') (hR : zR (I' 12 1) (I' 46 12) (J' 13) (J' 53)) : zInv t n m q I' J' := by
  obtain ⟨a1, a2, a3, a4, a5, a6, a7, a8, a9, b1, b2⟩ := H
  unfold zInv
  have h0 : ∀ a, a ∉ _ → I' a = I a := h
  simp (disch := decide) only [h0, h2 10, h2 1, h2 4, h2 6, h2 8, h2 26, h2 37, h2 22, h2 35]
  exact ⟨a1, hR, a3, a4, a5, a6, a7, a8, a9, b1, b2⟩
theorem zInv_0 {t n m q : Nat} {I I' : Nat → Nat → Int32} {J : Nat → Nat → Int64} (H : zInv t n m q I J) (h : Fr scr I I') (h2 : F46 scf I I') : zInv t n m q I' J :=
  zInv_R H (Fr_w h (by decide)) (fun j hj => h2 j (fun q => hj (List.mem_cons_of_mem _ q))) (by rw [h 12 (by decide), h2 12 (by decide)]; exact H.2.1)
/-- .. and the state, and what undo goes back to -/
theorem zInv_N {t n m q : Nat} {I I' : Nat → Nat → Int32} {J J' : Nat → Nat → Int64} (H : zInv t n m q I J) (h : Fr (12 :: 24 :: 29 :: 30 :: 47 :: 58 :: scr) I I') (h2 : F46 (12 :: 26 :: scf) I I') (hR : zR (I' 12 1) (I' 46 12) (J' 13) (J' 53)) (hN : okS n q (I' 24) (I' 47)) (hU : zU n q (I' 29 1) (I' 46 26) (I' 29 2) (I' 30) (I' 58)) : zInv t n m q I' J' := by
  obtain ⟨a1, a2, a3, a4, a5, a6, a7, a8, a9, b1, b2⟩ := H
  unfold zInv
  have h0 : ∀ a, a ∉ _ → I' a = I a := h
  simp (disch := decide) only [h0, h2 10, h2 1, h2 4, h2 6, h2 8, h2 37, h2 22, h2 35]
  exact ⟨a1, hR, a3, a4, a5, a6, hN, hU, a9, b1, b2⟩
end T05
section T06
/-! the reference: strength, who is first, a race -/
variable {d : Nat} {g : Nat × Nat × Nat} {I : Nat → Nat → Int32} {J : Nat → Nat → Int64} {sl rd rl : Nat}
theorem pM_u (I : Nat → Nat → Int32) (p : Nat × Int32) {k : Nat} (h : k ≠ 17) (h2 : k ≠ 18) (x : Int32) : aU (pM I p) 46 k x = pM (aU I 46 k x) p := by
  unfold pM
  rw [aU_R, aR_s, aR_u, aU_R I, aR_s, aR_u, upd_c _ _ _ (Ne.symm h2), upd_c _ _ _ (Ne.symm h)]
theorem f184_52 (a b : Int32) : aF d 184 [.ref 46, .ref 52, .int a, .int b] (g, I, J, aP1 sl rd rl) = some (some none, (g, pM (aU (aU I 46 15 a) 46 16 b) (0, -1), J, aP1 sl 53 rl)) := by
  show aE d 184 0 [.ref 46, .ref 52, .int a, .int b] [] _ = _
  rw [b184_0, aP1_rd]
  unfold pM
  rw [aU_R _ 46 18, aU_R _ 46 17, aR_s, aR_u]
  rfl
theorem f184_55 (a b : Int32) : aF d 184 [.ref 46, .ref 55, .int a, .int b] (g, I, J, aP1 sl rd rl) = some (some none, (g, pM (aU (aU I 46 15 a) 46 16 b) (0, -1), J, aP1 sl 56 rl)) := by
  show aE d 184 0 [.ref 46, .ref 55, .int a, .int b] [] _ = _
  rw [b184_0_2, aP1_rd]
  unfold pM
  rw [aU_R _ 46 18, aU_R _ 46 17, aR_s, aR_u]
  rfl
theorem f184_56 (a b : Int32) : aF d 184 [.ref 46, .ref 56, .int a, .int b] (g, I, J, aP1 sl rd rl) = some (some none, (g, pM (aU (aU I 46 15 a) 46 16 b) (0, -1), J, aP1 sl 57 rl)) := by
  show aE d 184 0 [.ref 46, .ref 56, .int a, .int b] [] _ = _
  rw [b184_0_3, aP1_rd]
  unfold pM
  rw [aU_R _ 46 18, aU_R _ 46 17, aR_s, aR_u]
  rfl
theorem clamp1 : (1 : Int32).toNatClampNeg = 1 := rfl
theorem f209 {i k rs : Nat} {rv : (Nat → Int32) → Int32} {sk : Nat → Int32} (hd : 41 ≤ d) (hV : rRule (I 55) rs rv) (hB : byR (I 55)) (hC : ∀ t t' : Nat → Int32, (∀ k, k < 8 → t k = t' k) → rv t = rv t') (hs : I 46 22 = nI rs) (hi : i < 8) (hk : k < 2) (hI : I 47 (6 + i) = nI k) (hsk : I 48 i = sk i) : ∃ I' rd', Fr [46, 57] I I' ∧ F46 [15, 16, 17, 18, 23] I I' ∧ aF d 209 [.ref 46, .ref 47, .int (nI i)] (g, I, J, aP1 sl rd 56) = some (some (some (.int (rv (th sk (rV (I 47)) i)))), (g, I', J, aP1 sl rd' 56)) := by
  by_cases hz : rs = 0
  · subst hz
    rcases hV with ⟨_, hV⟩ | ⟨h, _⟩
    · refine ⟨I, rd, Fr_r _ _, fun _ _ => rfl, ?_⟩
      show aE d 209 0 [.ref 46, .ref 47, .int (nI i), aNo, aNo] [] _ = _
      rw [b209_0_l56]
      simp (disch := omega) only [hs, show (nI 0 = (0 : Int32)) = True from eq_true rfl, aBi, aBv, aBl, nI_1, nIle_t, nIle_f, nIlt_t, nIlt_f, nIeq_t, nIeq_f, nIneg, nI_clamp, nat_le_f, nat_le_t, nat_lt_f, nat_lt_t, or_self, or_false, false_or, if_true, if_false, ↓reduceIte, Int32.or_zero, Int32.add_zero, nIm2, nIm3, nIm4, nIp2, nIp4, nIp6, nIp8, nIp14, nIp16, nIp22, nIp24, nIp30, nIq2, nIq3, nIq4, hasI_0, aU_s, aU_i, aU_r, aU_u]
      rw [hV, show th sk (rV (I 47)) i 0 = I 48 i from hsk.symm, show th sk (rV (I 47)) i 1 = I 47 (14 + i) from rV_lt _ (by omega), show th sk (rV (I 47)) i 4 = I 47 38 - I 47 38 / 8 * 8 from rfl, show th sk (rV (I 47)) i 2 = nI i from rfl]
    · omega
  · obtain ⟨h0, h40, hw, hev⟩ : 0 < rs ∧ rs ≤ 40 ∧ (pc (sgn (I 55) rs 40) 300 0 0 [] (0, -1)).2.2 = -1 ∧ ∀ t S, ev t (pc (sgn (I 55) rs 40) 300 0 0 [] (0, -1)).1 S = rv t :: S := by
      rcases hV with ⟨h, _⟩ | h
      · exact absurd h hz
      · exact h
    have e : ∃ T, (∀ j, j < 8 → T j = th sk (rV (I 47)) i j) ∧ aF d 209 [.ref 46, .ref 47, .int (nI i)] (g, I, J, aP1 sl rd 56) = aBv (aF d 184 [.ref 46, .ref 55, .int (nI rs), .int 40] (g, aR I 57 T, J, aP1 sl rd 56)) (fun t0 => aE d 209 148 [.ref 46, .ref 47, .int (nI i), .int (nI k), aNo] [] t0) := by
      refine ⟨upd (upd (upd (upd (upd (upd (upd (upd (I 57) 0 (I 48 i)) 1 (I 47 (14 + i))) 2 (nI i)) 3 (I 47 (22 + i))) 4 (I 47 38 - I 47 38 / 8 * 8)) 5 (nI k)) 6 (I 47 k / 10)) 7 (I 47 (2 + k)), ?_, ?_⟩
      · intro j hj
        rcases ix8c hj with rfl | rfl | rfl | rfl | rfl | rfl | rfl | rfl
        · exact hsk
        · exact (rV_lt _ (by omega)).symm
        · rfl
        · exact (rV_lt _ (by omega)).symm
        · rfl
        · exact hI.symm.trans (rV_lt _ (by omega)).symm
        · show I 47 k / 10 = rV (I 47) (rV (I 47) (6 + i)).toNatClampNeg / 10
          rw [rV_lt (I 47) (show 6 + i < 39 by omega), hI, nI_clamp (by omega), rV_lt _ (by omega)]
        · show I 47 (2 + k) = rV (I 47) (2 + (rV (I 47) (6 + i)).toNatClampNeg)
          rw [rV_lt (I 47) (show 6 + i < 39 by omega), hI, nI_clamp (by omega), rV_lt _ (by omega)]
      · show aE d 209 0 [.ref 46, .ref 47, .int (nI i), aNo, aNo] [] _ = _
        rw [b209_0_l56]
        simp (disch := omega) only [hs, hI, show (nI rs = (0 : Int32)) = False from eq_false (fun e => hz ((nI_eq (b := 0) (by omega) (by decide)).mp e)), aU_R, aR_s, aR_u, aBi, aBv, aBl, nI_1, nIle_t, nIle_f, nIlt_t, nIlt_f, nIeq_t, nIeq_f, nIneg, nI_clamp, nat_le_f, nat_le_t, nat_lt_f, nat_lt_t, or_self, or_false, false_or, if_true, if_false, ↓reduceIte, Int32.or_zero, Int32.add_zero, nIm2, nIm3, nIm4, nIp2, nIp4, nIp6, nIp8, nIp14, nIp16, nIp22, nIp24, nIp30, nIq2, nIq3, nIq4, hasI_0, aU_s, aU_i, aU_r, aU_u]
    obtain ⟨T, hT, e⟩ := e
    generalize hI3 : aU (aU (aU (aR I 57 T) 46 15 (nI rs)) 46 16 40) 46 23 1 = I3
    have r55 : I3 55 = I 55 := by rw [← hI3, aU_r _ _ (by decide), aU_r _ _ (by decide), aU_r _ _ (by decide), aR_r _ _ (by decide)]
    have r57 : I3 57 = T := by rw [← hI3, aU_r _ _ (by decide), aU_r _ _ (by decide), aU_r _ _ (by decide), aR_s]
    have r23 : I3 46 23 = 1 := by rw [← hI3, aU_s]
    have r16 : I3 46 16 = 40 := by rw [← hI3, aU_i _ _ (by decide), aU_s]
    have r15 : I3 46 15 = nI rs := by rw [← hI3, aU_i _ _ (by decide), aU_i _ _ (by decide), aU_s]
    obtain ⟨v, e2, e3⟩ := (rAll_55 (g := g) (I := I3) (J := J) (sl := sl) (rl := 56) (len := rs) r15 r16 (by omega) (by rw [r55]; exact hB) 300).1 d 0 (0, -1) (by decide) (by decide) (by omega) (by decide)
    rw [r55] at e2 e3
    have hv : v = rv T := by
      have q := e3 hw (by rw [r23]; decide) []
      rw [r57, hev] at q
      exact (List.cons.inj q).1.symm
    have e4 : aF d 200 [.ref 46, .int 0] (g, pM I3 (0, -1), J, aP1 sl 56 56) = some (some (some (.int v)), (g, pM I3 (pc (sgn (I 55) rs 40) 300 0 0 [] (0, -1)).2, J, aP1 sl 56 56)) := e2
    generalize (pc (sgn (I 55) rs 40) 300 0 0 [] (0, -1)).2 = p at e4
    refine ⟨aU (pM I3 p) 46 23 0, 56, ?_, ?_, ?_⟩
    · rw [← hI3]
      unfold pM
      simp only [aU_R, aR_s, aR_u]
      exact Fr_s (Fr_s (Fr_r _ _) _ (by decide)) _ (by decide)
    · intro j hj
      have hj : j ≠ 15 ∧ j ≠ 16 ∧ j ≠ 17 ∧ j ≠ 18 ∧ j ≠ 23 := by simpa using hj
      rw [aU_i _ _ hj.2.2.2.2, pM_o _ _ hj.2.2.1 hj.2.2.2.1, ← hI3, aU_i _ _ hj.2.2.2.2, aU_i _ _ hj.2.1, aU_i _ _ hj.1, aR_r _ _ (by decide)]
    · rw [e, f184_55]
      simp only [aBv]
      rw [b209_148, pM_u _ _ (by decide) (by decide), hI3, e4]
      simp only [aBi]
      rw [b209_158, hv, hC T _ hT]
theorem f209t {i k rs : Nat} {rv : (Nat → Int32) → Int32} {sk : Nat → Int32} (hd : 41 ≤ d) (hV : rRule (I 55) rs rv) (hB : byR (I 55)) (hC : ∀ t t' : Nat → Int32, (∀ k, k < 8 → t k = t' k) → rv t = rv t') (hs : I 46 22 = nI rs) (hi : i < 8) (hk : k < 2) (hI : I 60 (6 + i) = nI k) (hsk : I 48 i = sk i) : ∃ I' rd', Fr [46, 57] I I' ∧ F46 [15, 16, 17, 18, 23] I I' ∧ aF d 209 [.ref 46, .ref 60, .int (nI i)] (g, I, J, aP1 sl rd 56) = some (some (some (.int (rv (th sk (rV (I 60)) i)))), (g, I', J, aP1 sl rd' 56)) := by
  by_cases hz : rs = 0
  · subst hz
    rcases hV with ⟨_, hV⟩ | ⟨h, _⟩
    · refine ⟨I, rd, Fr_r _ _, fun _ _ => rfl, ?_⟩
      show aE d 209 0 [.ref 46, .ref 60, .int (nI i), aNo, aNo] [] _ = _
      rw [b209_0_2_l56]
      simp (disch := omega) only [hs, show (nI 0 = (0 : Int32)) = True from eq_true rfl, aBi, aBv, aBl, nI_1, nIle_t, nIle_f, nIlt_t, nIlt_f, nIeq_t, nIeq_f, nIneg, nI_clamp, nat_le_f, nat_le_t, nat_lt_f, nat_lt_t, or_self, or_false, false_or, if_true, if_false, ↓reduceIte, Int32.or_zero, Int32.add_zero, nIm2, nIm3, nIm4, nIp2, nIp4, nIp6, nIp8, nIp14, nIp16, nIp22, nIp24, nIp30, nIq2, nIq3, nIq4, hasI_0, aU_s, aU_i, aU_r, aU_u]
      rw [hV, show th sk (rV (I 60)) i 0 = I 48 i from hsk.symm, show th sk (rV (I 60)) i 1 = I 60 (14 + i) from rV_lt _ (by omega), show th sk (rV (I 60)) i 4 = I 60 38 - I 60 38 / 8 * 8 from rfl, show th sk (rV (I 60)) i 2 = nI i from rfl]
    · omega
  · obtain ⟨h0, h40, hw, hev⟩ : 0 < rs ∧ rs ≤ 40 ∧ (pc (sgn (I 55) rs 40) 300 0 0 [] (0, -1)).2.2 = -1 ∧ ∀ t S, ev t (pc (sgn (I 55) rs 40) 300 0 0 [] (0, -1)).1 S = rv t :: S := by
      rcases hV with ⟨h, _⟩ | h
      · exact absurd h hz
      · exact h
    have e : ∃ T, (∀ j, j < 8 → T j = th sk (rV (I 60)) i j) ∧ aF d 209 [.ref 46, .ref 60, .int (nI i)] (g, I, J, aP1 sl rd 56) = aBv (aF d 184 [.ref 46, .ref 55, .int (nI rs), .int 40] (g, aR I 57 T, J, aP1 sl rd 56)) (fun t0 => aE d 209 148 [.ref 46, .ref 60, .int (nI i), .int (nI k), aNo] [] t0) := by
      refine ⟨upd (upd (upd (upd (upd (upd (upd (upd (I 57) 0 (I 48 i)) 1 (I 60 (14 + i))) 2 (nI i)) 3 (I 60 (22 + i))) 4 (I 60 38 - I 60 38 / 8 * 8)) 5 (nI k)) 6 (I 60 k / 10)) 7 (I 60 (2 + k)), ?_, ?_⟩
      · intro j hj
        rcases ix8c hj with rfl | rfl | rfl | rfl | rfl | rfl | rfl | rfl
        · exact hsk
        · exact (rV_lt _ (by omega)).symm
        · rfl
        · exact (rV_lt _ (by omega)).symm
        · rfl
        · exact hI.symm.trans (rV_lt _ (by omega)).symm
        · show I 60 k / 10 = rV (I 60) (rV (I 60) (6 + i)).toNatClampNeg / 10
          rw [rV_lt (I 60) (show 6 + i < 39 by omega), hI, nI_clamp (by omega), rV_lt _ (by omega)]
        · show I 60 (2 + k) = rV (I 60) (2 + (rV (I 60) (6 + i)).toNatClampNeg)
          rw [rV_lt (I 60) (show 6 + i < 39 by omega), hI, nI_clamp (by omega), rV_lt _ (by omega)]
      · show aE d 209 0 [.ref 46, .ref 60, .int (nI i), aNo, aNo] [] _ = _
        rw [b209_0_2_l56]
        simp (disch := omega) only [hs, hI, show (nI rs = (0 : Int32)) = False from eq_false (fun e => hz ((nI_eq (b := 0) (by omega) (by decide)).mp e)), aU_R, aR_s, aR_u, aBi, aBv, aBl, nI_1, nIle_t, nIle_f, nIlt_t, nIlt_f, nIeq_t, nIeq_f, nIneg, nI_clamp, nat_le_f, nat_le_t, nat_lt_f, nat_lt_t, or_self, or_false, false_or, if_true, if_false, ↓reduceIte, Int32.or_zero, Int32.add_zero, nIm2, nIm3, nIm4, nIp2, nIp4, nIp6, nIp8, nIp14, nIp16, nIp22, nIp24, nIp30, nIq2, nIq3, nIq4, hasI_0, aU_s, aU_i, aU_r, aU_u]
    obtain ⟨T, hT, e⟩ := e
    generalize hI3 : aU (aU (aU (aR I 57 T) 46 15 (nI rs)) 46 16 40) 46 23 1 = I3
    have r55 : I3 55 = I 55 := by rw [← hI3, aU_r _ _ (by decide), aU_r _ _ (by decide), aU_r _ _ (by decide), aR_r _ _ (by decide)]
    have r57 : I3 57 = T := by rw [← hI3, aU_r _ _ (by decide), aU_r _ _ (by decide), aU_r _ _ (by decide), aR_s]
    have r23 : I3 46 23 = 1 := by rw [← hI3, aU_s]
    have r16 : I3 46 16 = 40 := by rw [← hI3, aU_i _ _ (by decide), aU_s]
    have r15 : I3 46 15 = nI rs := by rw [← hI3, aU_i _ _ (by decide), aU_i _ _ (by decide), aU_s]
    obtain ⟨v, e2, e3⟩ := (rAll_55 (g := g) (I := I3) (J := J) (sl := sl) (rl := 56) (len := rs) r15 r16 (by omega) (by rw [r55]; exact hB) 300).1 d 0 (0, -1) (by decide) (by decide) (by omega) (by decide)
    rw [r55] at e2 e3
    have hv : v = rv T := by
      have q := e3 hw (by rw [r23]; decide) []
      rw [r57, hev] at q
      exact (List.cons.inj q).1.symm
    have e4 : aF d 200 [.ref 46, .int 0] (g, pM I3 (0, -1), J, aP1 sl 56 56) = some (some (some (.int v)), (g, pM I3 (pc (sgn (I 55) rs 40) 300 0 0 [] (0, -1)).2, J, aP1 sl 56 56)) := e2
    generalize (pc (sgn (I 55) rs 40) 300 0 0 [] (0, -1)).2 = p at e4
    refine ⟨aU (pM I3 p) 46 23 0, 56, ?_, ?_, ?_⟩
    · rw [← hI3]
      unfold pM
      simp only [aU_R, aR_s, aR_u]
      exact Fr_s (Fr_s (Fr_r _ _) _ (by decide)) _ (by decide)
    · intro j hj
      have hj : j ≠ 15 ∧ j ≠ 16 ∧ j ≠ 17 ∧ j ≠ 18 ∧ j ≠ 23 := by simpa using hj
      rw [aU_i _ _ hj.2.2.2.2, pM_o _ _ hj.2.2.1 hj.2.2.2.1, ← hI3, aU_i _ _ hj.2.2.2.2, aU_i _ _ hj.2.1, aU_i _ _ hj.1, aR_r _ _ (by decide)]
    · rw [e, f184_55]
      simp only [aBv]
      rw [b209_148, pM_u _ _ (by decide) (by decide), hI3, e4]
      simp only [aBi]
      rw [b209_158, hv, hC T _ hT]
theorem f209o {i k rs : Nat} {rv : (Nat → Int32) → Int32} {sk : Nat → Int32} (hd : 41 ≤ d) (hV : rRule (I 56) rs rv) (hB : byR (I 56)) (hC : ∀ t t' : Nat → Int32, (∀ k, k < 8 → t k = t' k) → rv t = rv t') (hs : I 46 22 = nI rs) (hi : i < 8) (hk : k < 2) (hI : I 60 (6 + i) = nI k) (hsk : I 48 i = sk i) : ∃ I' rd', Fr [46, 57] I I' ∧ F46 [15, 16, 17, 18, 23] I I' ∧ aF d 209 [.ref 46, .ref 60, .int (nI i)] (g, I, J, aP1 sl rd 57) = some (some (some (.int (rv (th sk (rV (I 60)) i)))), (g, I', J, aP1 sl rd' 57)) := by
  by_cases hz : rs = 0
  · subst hz
    rcases hV with ⟨_, hV⟩ | ⟨h, _⟩
    · refine ⟨I, rd, Fr_r _ _, fun _ _ => rfl, ?_⟩
      show aE d 209 0 [.ref 46, .ref 60, .int (nI i), aNo, aNo] [] _ = _
      rw [b209_0_2_l57]
      simp (disch := omega) only [hs, show (nI 0 = (0 : Int32)) = True from eq_true rfl, aBi, aBv, aBl, nI_1, nIle_t, nIle_f, nIlt_t, nIlt_f, nIeq_t, nIeq_f, nIneg, nI_clamp, nat_le_f, nat_le_t, nat_lt_f, nat_lt_t, or_self, or_false, false_or, if_true, if_false, ↓reduceIte, Int32.or_zero, Int32.add_zero, nIm2, nIm3, nIm4, nIp2, nIp4, nIp6, nIp8, nIp14, nIp16, nIp22, nIp24, nIp30, nIq2, nIq3, nIq4, hasI_0, aU_s, aU_i, aU_r, aU_u]
      rw [hV, show th sk (rV (I 60)) i 0 = I 48 i from hsk.symm, show th sk (rV (I 60)) i 1 = I 60 (14 + i) from rV_lt _ (by omega), show th sk (rV (I 60)) i 4 = I 60 38 - I 60 38 / 8 * 8 from rfl, show th sk (rV (I 60)) i 2 = nI i from rfl]
    · omega
  · obtain ⟨h0, h40, hw, hev⟩ : 0 < rs ∧ rs ≤ 40 ∧ (pc (sgn (I 56) rs 40) 300 0 0 [] (0, -1)).2.2 = -1 ∧ ∀ t S, ev t (pc (sgn (I 56) rs 40) 300 0 0 [] (0, -1)).1 S = rv t :: S := by
      rcases hV with ⟨h, _⟩ | h
      · exact absurd h hz
      · exact h
    have e : ∃ T, (∀ j, j < 8 → T j = th sk (rV (I 60)) i j) ∧ aF d 209 [.ref 46, .ref 60, .int (nI i)] (g, I, J, aP1 sl rd 57) = aBv (aF d 184 [.ref 46, .ref 56, .int (nI rs), .int 40] (g, aR I 57 T, J, aP1 sl rd 57)) (fun t0 => aE d 209 148 [.ref 46, .ref 60, .int (nI i), .int (nI k), aNo] [] t0) := by
      refine ⟨upd (upd (upd (upd (upd (upd (upd (upd (I 57) 0 (I 48 i)) 1 (I 60 (14 + i))) 2 (nI i)) 3 (I 60 (22 + i))) 4 (I 60 38 - I 60 38 / 8 * 8)) 5 (nI k)) 6 (I 60 k / 10)) 7 (I 60 (2 + k)), ?_, ?_⟩
      · intro j hj
        rcases ix8c hj with rfl | rfl | rfl | rfl | rfl | rfl | rfl | rfl
        · exact hsk
        · exact (rV_lt _ (by omega)).symm
        · rfl
        · exact (rV_lt _ (by omega)).symm
        · rfl
        · exact hI.symm.trans (rV_lt _ (by omega)).symm
        · show I 60 k / 10 = rV (I 60) (rV (I 60) (6 + i)).toNatClampNeg / 10
          rw [rV_lt (I 60) (show 6 + i < 39 by omega), hI, nI_clamp (by omega), rV_lt _ (by omega)]
        · show I 60 (2 + k) = rV (I 60) (2 + (rV (I 60) (6 + i)).toNatClampNeg)
          rw [rV_lt (I 60) (show 6 + i < 39 by omega), hI, nI_clamp (by omega), rV_lt _ (by omega)]
      · show aE d 209 0 [.ref 46, .ref 60, .int (nI i), aNo, aNo] [] _ = _
        rw [b209_0_2_l57]
        simp (disch := omega) only [hs, hI, show (nI rs = (0 : Int32)) = False from eq_false (fun e => hz ((nI_eq (b := 0) (by omega) (by decide)).mp e)), aU_R, aR_s, aR_u, aBi, aBv, aBl, nI_1, nIle_t, nIle_f, nIlt_t, nIlt_f, nIeq_t, nIeq_f, nIneg, nI_clamp, nat_le_f, nat_le_t, nat_lt_f, nat_lt_t, or_self, or_false, false_or, if_true, if_false, ↓reduceIte, Int32.or_zero, Int32.add_zero, nIm2, nIm3, nIm4, nIp2, nIp4, nIp6, nIp8, nIp14, nIp16, nIp22, nIp24, nIp30, nIq2, nIq3, nIq4, hasI_0, aU_s, aU_i, aU_r, aU_u]
    obtain ⟨T, hT, e⟩ := e
    generalize hI3 : aU (aU (aU (aR I 57 T) 46 15 (nI rs)) 46 16 40) 46 23 1 = I3
    have r55 : I3 56 = I 56 := by rw [← hI3, aU_r _ _ (by decide), aU_r _ _ (by decide), aU_r _ _ (by decide), aR_r _ _ (by decide)]
    have r57 : I3 57 = T := by rw [← hI3, aU_r _ _ (by decide), aU_r _ _ (by decide), aU_r _ _ (by decide), aR_s]
    have r23 : I3 46 23 = 1 := by rw [← hI3, aU_s]
    have r16 : I3 46 16 = 40 := by rw [← hI3, aU_i _ _ (by decide), aU_s]
    have r15 : I3 46 15 = nI rs := by rw [← hI3, aU_i _ _ (by decide), aU_i _ _ (by decide), aU_s]
    obtain ⟨v, e2, e3⟩ := (rAll_56 (g := g) (I := I3) (J := J) (sl := sl) (rl := 57) (len := rs) r15 r16 (by omega) (by rw [r55]; exact hB) 300).1 d 0 (0, -1) (by decide) (by decide) (by omega) (by decide)
    rw [r55] at e2 e3
    have hv : v = rv T := by
      have q := e3 hw (by rw [r23]; decide) []
      rw [r57, hev] at q
      exact (List.cons.inj q).1.symm
    have e4 : aF d 200 [.ref 46, .int 0] (g, pM I3 (0, -1), J, aP1 sl 57 57) = some (some (some (.int v)), (g, pM I3 (pc (sgn (I 56) rs 40) 300 0 0 [] (0, -1)).2, J, aP1 sl 57 57)) := e2
    generalize (pc (sgn (I 56) rs 40) 300 0 0 [] (0, -1)).2 = p at e4
    refine ⟨aU (pM I3 p) 46 23 0, 57, ?_, ?_, ?_⟩
    · rw [← hI3]
      unfold pM
      simp only [aU_R, aR_s, aR_u]
      exact Fr_s (Fr_s (Fr_r _ _) _ (by decide)) _ (by decide)
    · intro j hj
      have hj : j ≠ 15 ∧ j ≠ 16 ∧ j ≠ 17 ∧ j ≠ 18 ∧ j ≠ 23 := by simpa using hj
      rw [aU_i _ _ hj.2.2.2.2, pM_o _ _ hj.2.2.1 hj.2.2.2.1, ← hI3, aU_i _ _ hj.2.2.2.2, aU_i _ _ hj.2.1, aU_i _ _ hj.1, aR_r _ _ (by decide)]
    · rw [e, f184_56]
      simp only [aBv]
      rw [b209_148, pM_u _ _ (by decide) (by decide), hI3, e4]
      simp only [aBi]
      rw [b209_158, hv, hC T _ hT]
theorem F46_r (S : List Nat) (I : Nat → Nat → Int32) : F46 S I I := fun _ _ => rfl
theorem f225 {nd rs : Nat} {rv : (Nat → Int32) → Int32} {sk : Nat → Int32} (hd : 41 ≤ d) (hV : rRule (I 55) rs rv) (hB : byR (I 55)) (hC : ∀ t t' : Nat → Int32, (∀ k, k < 8 → t k = t' k) → rv t = rv t') (hs : I 46 22 = nI rs) (hN : I 46 1 = nI nd) (hn : nd ≤ 8) (h0 : 0 < nd) (hc : clubs (fun i => I 47 (6 + i)) nd) (hsk : ∀ i, i < nd → I 48 i = sk i) : ∃ I' rd', Fr [46, 57] I I' ∧ F46 [15, 16, 17, 18, 23] I I' ∧ aF d 225 [.ref 46, .ref 47] (g, I, J, aP1 sl rd 56) = some (some (some (.int (nI (wn (sts rv sk (rV (I 47))) nd)))), (g, I', J, aP1 sl rd' 56)) := by
  have st : ∀ (i : Nat) (I1 : Nat → Nat → Int32) (rd1 : Nat), i < nd → Fr [46, 57] I I1 → F46 [15, 16, 17, 18, 23] I I1 → ∃ I' rd', Fr [46, 57] I I' ∧ F46 [15, 16, 17, 18, 23] I I' ∧ aF d 209 [.ref 46, .ref 47, .int (nI i)] (g, I1, J, aP1 sl rd1 56) = some (some (some (.int (sts rv sk (rV (I 47)) i))), (g, I', J, aP1 sl rd' 56)) := by
    intro i I1 rd1 hi q1 q2
    obtain ⟨k, hk, hI⟩ := hc i hi
    obtain ⟨I', rd', f1, f2, f3⟩ := f209 (d := d) (g := g) (I := I1) (J := J) (sl := sl) (rd := rd1) (i := i) (k := k) (rs := rs) (rv := rv) (sk := sk) hd (by rw [q1 55 (by decide)]; exact hV) (by rw [q1 55 (by decide)]; exact hB) hC (by rw [q2 22 (by decide)]; exact hs) (by omega) hk (by rw [q1 47 (by decide)]; exact hI) (by rw [q1 48 (by decide)]; exact hsk i hi)
    rw [q1 47 (by decide)] at f3
    exact ⟨I', rd', Fr_t q1 f1, F46_t q2 f2, f3⟩
  have l : ∀ (m j b : Nat) (I1 : Nat → Nat → Int32) (rd1 : Nat), j + m = nd → b < j → Fr [46, 57] I I1 → F46 [15, 16, 17, 18, 23] I I1 → ∃ I' rd', Fr [46, 57] I I' ∧ F46 [15, 16, 17, 18, 23] I I' ∧ aE d 225 4 [.ref 46, .ref 47, .int (nI b), .int (nI j)] [] (g, I1, J, aP1 sl rd1 56) = some (some (some (.int (nI (fo (wn1 (sts rv sk (rV (I 47)))) m j b)))), (g, I', J, aP1 sl rd' 56)) := by
    intro m
    induction m with
    | zero =>
      intro j b I1 rd1 hj hb q1 q2
      refine ⟨I1, rd1, q1, q2, ?_⟩
      have hN1 : I1 46 1 = nI nd := (q2 1 (by decide)).trans hN
      rw [b225_4]
      simp (disch := omega) only [hN1, aBi, aBv, aBl, nI_1, nIle_t, nIle_f, nIlt_t, nIlt_f, nIeq_t, nIeq_f, nIneg, nI_clamp, nat_le_f, nat_le_t, nat_lt_f, nat_lt_t, or_self, or_false, false_or, if_true, if_false, ↓reduceIte, Int32.or_zero, Int32.add_zero, nIm2, nIm3, nIm4, nIp2, nIp4, nIp6, nIp8, nIp14, nIp16, nIp22, nIp24, nIp30, nIq2, nIq3, nIq4, hasI_0, aU_s, aU_i, aU_r, aU_u]
      rfl
    | succ m ih =>
      intro j b I1 rd1 hj hb q1 q2
      have hN1 : I1 46 1 = nI nd := (q2 1 (by decide)).trans hN
      obtain ⟨I2, rd2, a1, a2, a3⟩ := st j I1 rd1 (by omega) q1 q2
      obtain ⟨I3, rd3, b1, b2, b3⟩ := st b I2 rd2 (by omega) a1 a2
      rw [b225_4]
      simp (disch := omega) only [hN1, a3, b225_18, b3, b225_24, aBi, aBv, aBl, nI_1, nIle_t, nIle_f, nIlt_t, nIlt_f, nIeq_t, nIeq_f, nIneg, nI_clamp, nat_le_f, nat_le_t, nat_lt_f, nat_lt_t, or_self, or_false, false_or, if_true, if_false, ↓reduceIte, Int32.or_zero, Int32.add_zero, nIm2, nIm3, nIm4, nIp2, nIp4, nIp6, nIp8, nIp14, nIp16, nIp22, nIp24, nIp30, nIq2, nIq3, nIq4, hasI_0, aU_s, aU_i, aU_r, aU_u]
      by_cases h : sts rv sk (rV (I 47)) j ≤ sts rv sk (rV (I 47)) b
      · rw [if_pos h]
        obtain ⟨I', rd', c1, c2, c3⟩ := ih (j + 1) b I3 rd3 (by omega) (by omega) b1 b2
        refine ⟨I', rd', c1, c2, c3.trans ?_⟩
        show _ = some (some (some (.int (nI (fo (wn1 (sts rv sk (rV (I 47)))) m (j + 1) (wn1 (sts rv sk (rV (I 47))) j b))))), _)
        rw [show wn1 (sts rv sk (rV (I 47))) j b = b from if_pos h]
      · rw [if_neg h]
        obtain ⟨I', rd', c1, c2, c3⟩ := ih (j + 1) j I3 rd3 (by omega) (by omega) b1 b2
        refine ⟨I', rd', c1, c2, c3.trans ?_⟩
        show _ = some (some (some (.int (nI (fo (wn1 (sts rv sk (rV (I 47)))) m (j + 1) (wn1 (sts rv sk (rV (I 47))) j b))))), _)
        rw [show wn1 (sts rv sk (rV (I 47))) j b = j from if_neg h]
  obtain ⟨I', rd', c1, c2, c3⟩ := l (nd - 1) 1 0 I rd (by omega) (by omega) (Fr_r _ _) (F46_r _ _)
  refine ⟨I', rd', c1, c2, ?_⟩
  show aE d 225 0 [.ref 46, .ref 47, aNo, aNo] [] _ = _
  rw [b225_0]
  exact c3
theorem f225t {nd rs : Nat} {rv : (Nat → Int32) → Int32} {sk : Nat → Int32} (hd : 41 ≤ d) (hV : rRule (I 55) rs rv) (hB : byR (I 55)) (hC : ∀ t t' : Nat → Int32, (∀ k, k < 8 → t k = t' k) → rv t = rv t') (hs : I 46 22 = nI rs) (hN : I 46 1 = nI nd) (hn : nd ≤ 8) (h0 : 0 < nd) (hc : clubs (fun i => I 60 (6 + i)) nd) (hsk : ∀ i, i < nd → I 48 i = sk i) : ∃ I' rd', Fr [46, 57] I I' ∧ F46 [15, 16, 17, 18, 23] I I' ∧ aF d 225 [.ref 46, .ref 60] (g, I, J, aP1 sl rd 56) = some (some (some (.int (nI (wn (sts rv sk (rV (I 60))) nd)))), (g, I', J, aP1 sl rd' 56)) := by
  have st : ∀ (i : Nat) (I1 : Nat → Nat → Int32) (rd1 : Nat), i < nd → Fr [46, 57] I I1 → F46 [15, 16, 17, 18, 23] I I1 → ∃ I' rd', Fr [46, 57] I I' ∧ F46 [15, 16, 17, 18, 23] I I' ∧ aF d 209 [.ref 46, .ref 60, .int (nI i)] (g, I1, J, aP1 sl rd1 56) = some (some (some (.int (sts rv sk (rV (I 60)) i))), (g, I', J, aP1 sl rd' 56)) := by
    intro i I1 rd1 hi q1 q2
    obtain ⟨k, hk, hI⟩ := hc i hi
    obtain ⟨I', rd', f1, f2, f3⟩ := f209t (d := d) (g := g) (I := I1) (J := J) (sl := sl) (rd := rd1) (i := i) (k := k) (rs := rs) (rv := rv) (sk := sk) hd (by rw [q1 55 (by decide)]; exact hV) (by rw [q1 55 (by decide)]; exact hB) hC (by rw [q2 22 (by decide)]; exact hs) (by omega) hk (by rw [q1 60 (by decide)]; exact hI) (by rw [q1 48 (by decide)]; exact hsk i hi)
    rw [q1 60 (by decide)] at f3
    exact ⟨I', rd', Fr_t q1 f1, F46_t q2 f2, f3⟩
  have l : ∀ (m j b : Nat) (I1 : Nat → Nat → Int32) (rd1 : Nat), j + m = nd → b < j → Fr [46, 57] I I1 → F46 [15, 16, 17, 18, 23] I I1 → ∃ I' rd', Fr [46, 57] I I' ∧ F46 [15, 16, 17, 18, 23] I I' ∧ aE d 225 4 [.ref 46, .ref 60, .int (nI b), .int (nI j)] [] (g, I1, J, aP1 sl rd1 56) = some (some (some (.int (nI (fo (wn1 (sts rv sk (rV (I 60)))) m j b)))), (g, I', J, aP1 sl rd' 56)) := by
    intro m
    induction m with
    | zero =>
      intro j b I1 rd1 hj hb q1 q2
      refine ⟨I1, rd1, q1, q2, ?_⟩
      have hN1 : I1 46 1 = nI nd := (q2 1 (by decide)).trans hN
      rw [b225_4_2]
      simp (disch := omega) only [hN1, aBi, aBv, aBl, nI_1, nIle_t, nIle_f, nIlt_t, nIlt_f, nIeq_t, nIeq_f, nIneg, nI_clamp, nat_le_f, nat_le_t, nat_lt_f, nat_lt_t, or_self, or_false, false_or, if_true, if_false, ↓reduceIte, Int32.or_zero, Int32.add_zero, nIm2, nIm3, nIm4, nIp2, nIp4, nIp6, nIp8, nIp14, nIp16, nIp22, nIp24, nIp30, nIq2, nIq3, nIq4, hasI_0, aU_s, aU_i, aU_r, aU_u]
      rfl
    | succ m ih =>
      intro j b I1 rd1 hj hb q1 q2
      have hN1 : I1 46 1 = nI nd := (q2 1 (by decide)).trans hN
      obtain ⟨I2, rd2, a1, a2, a3⟩ := st j I1 rd1 (by omega) q1 q2
      obtain ⟨I3, rd3, b1, b2, b3⟩ := st b I2 rd2 (by omega) a1 a2
      rw [b225_4_2]
      simp (disch := omega) only [hN1, a3, b225_18_2, b3, b225_24_2, aBi, aBv, aBl, nI_1, nIle_t, nIle_f, nIlt_t, nIlt_f, nIeq_t, nIeq_f, nIneg, nI_clamp, nat_le_f, nat_le_t, nat_lt_f, nat_lt_t, or_self, or_false, false_or, if_true, if_false, ↓reduceIte, Int32.or_zero, Int32.add_zero, nIm2, nIm3, nIm4, nIp2, nIp4, nIp6, nIp8, nIp14, nIp16, nIp22, nIp24, nIp30, nIq2, nIq3, nIq4, hasI_0, aU_s, aU_i, aU_r, aU_u]
      by_cases h : sts rv sk (rV (I 60)) j ≤ sts rv sk (rV (I 60)) b
      · rw [if_pos h]
        obtain ⟨I', rd', c1, c2, c3⟩ := ih (j + 1) b I3 rd3 (by omega) (by omega) b1 b2
        refine ⟨I', rd', c1, c2, c3.trans ?_⟩
        show _ = some (some (some (.int (nI (fo (wn1 (sts rv sk (rV (I 60)))) m (j + 1) (wn1 (sts rv sk (rV (I 60))) j b))))), _)
        rw [show wn1 (sts rv sk (rV (I 60))) j b = b from if_pos h]
      · rw [if_neg h]
        obtain ⟨I', rd', c1, c2, c3⟩ := ih (j + 1) j I3 rd3 (by omega) (by omega) b1 b2
        refine ⟨I', rd', c1, c2, c3.trans ?_⟩
        show _ = some (some (some (.int (nI (fo (wn1 (sts rv sk (rV (I 60)))) m (j + 1) (wn1 (sts rv sk (rV (I 60))) j b))))), _)
        rw [show wn1 (sts rv sk (rV (I 60))) j b = j from if_neg h]
  obtain ⟨I', rd', c1, c2, c3⟩ := l (nd - 1) 1 0 I rd (by omega) (by omega) (Fr_r _ _) (F46_r _ _)
  refine ⟨I', rd', c1, c2, ?_⟩
  show aE d 225 0 [.ref 46, .ref 60, aNo, aNo] [] _ = _
  rw [b225_0_2]
  exact c3
theorem f225o {nd rs : Nat} {rv : (Nat → Int32) → Int32} {sk : Nat → Int32} (hd : 41 ≤ d) (hV : rRule (I 56) rs rv) (hB : byR (I 56)) (hC : ∀ t t' : Nat → Int32, (∀ k, k < 8 → t k = t' k) → rv t = rv t') (hs : I 46 22 = nI rs) (hN : I 46 1 = nI nd) (hn : nd ≤ 8) (h0 : 0 < nd) (hc : clubs (fun i => I 60 (6 + i)) nd) (hsk : ∀ i, i < nd → I 48 i = sk i) : ∃ I' rd', Fr [46, 57] I I' ∧ F46 [15, 16, 17, 18, 23] I I' ∧ aF d 225 [.ref 46, .ref 60] (g, I, J, aP1 sl rd 57) = some (some (some (.int (nI (wn (sts rv sk (rV (I 60))) nd)))), (g, I', J, aP1 sl rd' 57)) := by
  have st : ∀ (i : Nat) (I1 : Nat → Nat → Int32) (rd1 : Nat), i < nd → Fr [46, 57] I I1 → F46 [15, 16, 17, 18, 23] I I1 → ∃ I' rd', Fr [46, 57] I I' ∧ F46 [15, 16, 17, 18, 23] I I' ∧ aF d 209 [.ref 46, .ref 60, .int (nI i)] (g, I1, J, aP1 sl rd1 57) = some (some (some (.int (sts rv sk (rV (I 60)) i))), (g, I', J, aP1 sl rd' 57)) := by
    intro i I1 rd1 hi q1 q2
    obtain ⟨k, hk, hI⟩ := hc i hi
    obtain ⟨I', rd', f1, f2, f3⟩ := f209o (d := d) (g := g) (I := I1) (J := J) (sl := sl) (rd := rd1) (i := i) (k := k) (rs := rs) (rv := rv) (sk := sk) hd (by rw [q1 56 (by decide)]; exact hV) (by rw [q1 56 (by decide)]; exact hB) hC (by rw [q2 22 (by decide)]; exact hs) (by omega) hk (by rw [q1 60 (by decide)]; exact hI) (by rw [q1 48 (by decide)]; exact hsk i hi)
    rw [q1 60 (by decide)] at f3
    exact ⟨I', rd', Fr_t q1 f1, F46_t q2 f2, f3⟩
  have l : ∀ (m j b : Nat) (I1 : Nat → Nat → Int32) (rd1 : Nat), j + m = nd → b < j → Fr [46, 57] I I1 → F46 [15, 16, 17, 18, 23] I I1 → ∃ I' rd', Fr [46, 57] I I' ∧ F46 [15, 16, 17, 18, 23] I I' ∧ aE d 225 4 [.ref 46, .ref 60, .int (nI b), .int (nI j)] [] (g, I1, J, aP1 sl rd1 57) = some (some (some (.int (nI (fo (wn1 (sts rv sk (rV (I 60)))) m j b)))), (g, I', J, aP1 sl rd' 57)) := by
    intro m
    induction m with
    | zero =>
      intro j b I1 rd1 hj hb q1 q2
      refine ⟨I1, rd1, q1, q2, ?_⟩
      have hN1 : I1 46 1 = nI nd := (q2 1 (by decide)).trans hN
      rw [b225_4_2]
      simp (disch := omega) only [hN1, aBi, aBv, aBl, nI_1, nIle_t, nIle_f, nIlt_t, nIlt_f, nIeq_t, nIeq_f, nIneg, nI_clamp, nat_le_f, nat_le_t, nat_lt_f, nat_lt_t, or_self, or_false, false_or, if_true, if_false, ↓reduceIte, Int32.or_zero, Int32.add_zero, nIm2, nIm3, nIm4, nIp2, nIp4, nIp6, nIp8, nIp14, nIp16, nIp22, nIp24, nIp30, nIq2, nIq3, nIq4, hasI_0, aU_s, aU_i, aU_r, aU_u]
      rfl
    | succ m ih =>
      intro j b I1 rd1 hj hb q1 q2
      have hN1 : I1 46 1 = nI nd := (q2 1 (by decide)).trans hN
      obtain ⟨I2, rd2, a1, a2, a3⟩ := st j I1 rd1 (by omega) q1 q2
      obtain ⟨I3, rd3, b1, b2, b3⟩ := st b I2 rd2 (by omega) a1 a2
      rw [b225_4_2]
      simp (disch := omega) only [hN1, a3, b225_18_2, b3, b225_24_2, aBi, aBv, aBl, nI_1, nIle_t, nIle_f, nIlt_t, nIlt_f, nIeq_t, nIeq_f, nIneg, nI_clamp, nat_le_f, nat_le_t, nat_lt_f, nat_lt_t, or_self, or_false, false_or, if_true, if_false, ↓reduceIte, Int32.or_zero, Int32.add_zero, nIm2, nIm3, nIm4, nIp2, nIp4, nIp6, nIp8, nIp14, nIp16, nIp22, nIp24, nIp30, nIq2, nIq3, nIq4, hasI_0, aU_s, aU_i, aU_r, aU_u]
      by_cases h : sts rv sk (rV (I 60)) j ≤ sts rv sk (rV (I 60)) b
      · rw [if_pos h]
        obtain ⟨I', rd', c1, c2, c3⟩ := ih (j + 1) b I3 rd3 (by omega) (by omega) b1 b2
        refine ⟨I', rd', c1, c2, c3.trans ?_⟩
        show _ = some (some (some (.int (nI (fo (wn1 (sts rv sk (rV (I 60)))) m (j + 1) (wn1 (sts rv sk (rV (I 60))) j b))))), _)
        rw [show wn1 (sts rv sk (rV (I 60))) j b = b from if_pos h]
      · rw [if_neg h]
        obtain ⟨I', rd', c1, c2, c3⟩ := ih (j + 1) j I3 rd3 (by omega) (by omega) b1 b2
        refine ⟨I', rd', c1, c2, c3.trans ?_⟩
        show _ = some (some (some (.int (nI (fo (wn1 (sts rv sk (rV (I 60)))) m (j + 1) (wn1 (sts rv sk (rV (I 60))) j b))))), _)
        rw [show wn1 (sts rv sk (rV (I 60))) j b = j from if_neg h]
  obtain ⟨I', rd', c1, c2, c3⟩ := l (nd - 1) 1 0 I rd (by omega) (by omega) (Fr_r _ _) (F46_r _ _)
  refine ⟨I', rd', c1, c2, ?_⟩
  show aE d 225 0 [.ref 46, .ref 60, aNo, aNo] [] _ = _
  rw [b225_0_2]
  exact c3
theorem f224 {nd rs : Nat} {rv : (Nat → Int32) → Int32} {sk : Nat → Int32} (hd : 41 ≤ d) (hV : rRule (I 55) rs rv) (hB : byR (I 55)) (hC : ∀ t t' : Nat → Int32, (∀ k, k < 8 → t k = t' k) → rv t = rv t') (hs : I 46 22 = nI rs) (hN : I 46 1 = nI nd) (hn : nd ≤ 8) (h0 : 0 < nd) (hc : clubs (fun i => I 47 (6 + i)) nd) (hsk : ∀ i, i < nd → I 48 i = sk i) : ∃ I' rd' k, k < 2 ∧ I 47 (6 + wn (sts rv sk (rV (I 47))) nd) = nI k ∧ I' 47 = rRace (I 47) (wn (sts rv sk (rV (I 47))) nd) k ∧ Fr [46, 57, 47] I I' ∧ F46 [15, 16, 17, 18, 23] I I' ∧ aF d 224 [.ref 46, .ref 47] (g, I, J, aP1 sl rd 56) = some (some (some (.int (nI (wn (sts rv sk (rV (I 47))) nd)))), (g, I', J, aP1 sl rd' 56)) := by
  have hw := wn_lt (sts rv sk (rV (I 47))) h0
  obtain ⟨I1, rd1, a1, a2, a3⟩ := f225 (d := d) (g := g) (I := I) (J := J) (sl := sl) (rd := rd) hd hV hB hC hs hN hn h0 hc hsk
  obtain ⟨k, hk, hI⟩ := hc _ hw
  generalize wn (sts rv sk (rV (I 47))) nd = i at *
  have hI : I 47 (6 + i) = nI k := hI
  have ew : I1 47 = I 47 := a1 47 (by decide)
  refine ⟨aR I1 47 (rRace (I 47) i k), rd1, k, hk, hI, aR_s _ _ _, ?_, ?_, ?_⟩
  · exact Fr_s (Fr_w a1 (by decide)) _ (by decide)
  · intro j hj; rw [aR_r _ _ (by decide)]; exact a2 j hj
  · show aE d 224 0 [.ref 46, .ref 47, aNo, aNo] [] _ = _
    have e1 (I : Nat → Nat → Int32) (v : Int32) (rd : Nat) : aF d 227 [.ref 47, .int (nI (1 - k)), .int v] (g, I, J, aP1 sl rd 56) = some (some none, (g, aR I 47 (adA (I 47) (1 - k) v), J, aP1 sl rd 56)) := f227_47 (by omega) v
    simp (disch := omega) only [b224_0_2, a3, b224_5_2, ew, hI, f226_47, aU_R, aR_s, aR_u, b224_39_2, nI_1m, e1, b224_47_2, f227_47, b224_53_2, aBi, aBv, aBl, nI_1, nIle_t, nIle_f, nIlt_t, nIlt_f, nIeq_t, nIeq_f, nIneg, nI_clamp, nat_le_f, nat_le_t, nat_lt_f, nat_lt_t, or_self, or_false, false_or, if_true, if_false, ↓reduceIte, Int32.or_zero, Int32.add_zero, nIm2, nIm3, nIm4, nIp2, nIp4, nIp6, nIp8, nIp14, nIp16, nIp22, nIp24, nIp30, nIq2, nIq3, nIq4, hasI_0, aU_s, aU_i, aU_r, aU_u]
    rw [upd_n (I 47) _ (show 4 + k ≠ 22 + i by omega)]
    unfold rRace
    simp only
    have e6 : ∀ q, adA (adA (adM (upd (upd (I 47) (22 + i) (I 47 (22 + i) + 1)) (4 + k) q) k 10) (1 - k) 3) k (-1) 38 = I 47 38 := by
      intro q
      unfold adA adM
      rw [upd_n _ _ (by omega), upd_n _ _ (by omega), upd_n _ _ (by omega), upd_n _ _ (by omega), upd_n _ _ (by omega)]
    rw [e6]
theorem f224t {nd rs : Nat} {rv : (Nat → Int32) → Int32} {sk : Nat → Int32} (hd : 41 ≤ d) (hV : rRule (I 55) rs rv) (hB : byR (I 55)) (hC : ∀ t t' : Nat → Int32, (∀ k, k < 8 → t k = t' k) → rv t = rv t') (hs : I 46 22 = nI rs) (hN : I 46 1 = nI nd) (hn : nd ≤ 8) (h0 : 0 < nd) (hc : clubs (fun i => I 60 (6 + i)) nd) (hsk : ∀ i, i < nd → I 48 i = sk i) : ∃ I' rd' k, k < 2 ∧ I 60 (6 + wn (sts rv sk (rV (I 60))) nd) = nI k ∧ I' 60 = rRace (I 60) (wn (sts rv sk (rV (I 60))) nd) k ∧ Fr [46, 57, 60] I I' ∧ F46 [15, 16, 17, 18, 23] I I' ∧ aF d 224 [.ref 46, .ref 60] (g, I, J, aP1 sl rd 56) = some (some (some (.int (nI (wn (sts rv sk (rV (I 60))) nd)))), (g, I', J, aP1 sl rd' 56)) := by
  have hw := wn_lt (sts rv sk (rV (I 60))) h0
  obtain ⟨I1, rd1, a1, a2, a3⟩ := f225t (d := d) (g := g) (I := I) (J := J) (sl := sl) (rd := rd) hd hV hB hC hs hN hn h0 hc hsk
  obtain ⟨k, hk, hI⟩ := hc _ hw
  generalize wn (sts rv sk (rV (I 60))) nd = i at *
  have hI : I 60 (6 + i) = nI k := hI
  have ew : I1 60 = I 60 := a1 60 (by decide)
  refine ⟨aR I1 60 (rRace (I 60) i k), rd1, k, hk, hI, aR_s _ _ _, ?_, ?_, ?_⟩
  · exact Fr_s (Fr_w a1 (by decide)) _ (by decide)
  · intro j hj; rw [aR_r _ _ (by decide)]; exact a2 j hj
  · show aE d 224 0 [.ref 46, .ref 60, aNo, aNo] [] _ = _
    have e1 (I : Nat → Nat → Int32) (v : Int32) (rd : Nat) : aF d 227 [.ref 60, .int (nI (1 - k)), .int v] (g, I, J, aP1 sl rd 56) = some (some none, (g, aR I 60 (adA (I 60) (1 - k) v), J, aP1 sl rd 56)) := f227_60 (by omega) v
    simp (disch := omega) only [b224_0, a3, b224_5, ew, hI, f226_60, aU_R, aR_s, aR_u, b224_39, nI_1m, e1, b224_47, f227_60, b224_53, aBi, aBv, aBl, nI_1, nIle_t, nIle_f, nIlt_t, nIlt_f, nIeq_t, nIeq_f, nIneg, nI_clamp, nat_le_f, nat_le_t, nat_lt_f, nat_lt_t, or_self, or_false, false_or, if_true, if_false, ↓reduceIte, Int32.or_zero, Int32.add_zero, nIm2, nIm3, nIm4, nIp2, nIp4, nIp6, nIp8, nIp14, nIp16, nIp22, nIp24, nIp30, nIq2, nIq3, nIq4, hasI_0, aU_s, aU_i, aU_r, aU_u]
    rw [upd_n (I 60) _ (show 4 + k ≠ 22 + i by omega)]
    unfold rRace
    simp only
    have e6 : ∀ q, adA (adA (adM (upd (upd (I 60) (22 + i) (I 60 (22 + i) + 1)) (4 + k) q) k 10) (1 - k) 3) k (-1) 38 = I 60 38 := by
      intro q
      unfold adA adM
      rw [upd_n _ _ (by omega), upd_n _ _ (by omega), upd_n _ _ (by omega), upd_n _ _ (by omega), upd_n _ _ (by omega)]
    rw [e6]
theorem f224o {nd rs : Nat} {rv : (Nat → Int32) → Int32} {sk : Nat → Int32} (hd : 41 ≤ d) (hV : rRule (I 56) rs rv) (hB : byR (I 56)) (hC : ∀ t t' : Nat → Int32, (∀ k, k < 8 → t k = t' k) → rv t = rv t') (hs : I 46 22 = nI rs) (hN : I 46 1 = nI nd) (hn : nd ≤ 8) (h0 : 0 < nd) (hc : clubs (fun i => I 60 (6 + i)) nd) (hsk : ∀ i, i < nd → I 48 i = sk i) : ∃ I' rd' k, k < 2 ∧ I 60 (6 + wn (sts rv sk (rV (I 60))) nd) = nI k ∧ I' 60 = rRace (I 60) (wn (sts rv sk (rV (I 60))) nd) k ∧ Fr [46, 57, 60] I I' ∧ F46 [15, 16, 17, 18, 23] I I' ∧ aF d 224 [.ref 46, .ref 60] (g, I, J, aP1 sl rd 57) = some (some (some (.int (nI (wn (sts rv sk (rV (I 60))) nd)))), (g, I', J, aP1 sl rd' 57)) := by
  have hw := wn_lt (sts rv sk (rV (I 60))) h0
  obtain ⟨I1, rd1, a1, a2, a3⟩ := f225o (d := d) (g := g) (I := I) (J := J) (sl := sl) (rd := rd) hd hV hB hC hs hN hn h0 hc hsk
  obtain ⟨k, hk, hI⟩ := hc _ hw
  generalize wn (sts rv sk (rV (I 60))) nd = i at *
  have hI : I 60 (6 + i) = nI k := hI
  have ew : I1 60 = I 60 := a1 60 (by decide)
  refine ⟨aR I1 60 (rRace (I 60) i k), rd1, k, hk, hI, aR_s _ _ _, ?_, ?_, ?_⟩
  · exact Fr_s (Fr_w a1 (by decide)) _ (by decide)
  · intro j hj; rw [aR_r _ _ (by decide)]; exact a2 j hj
  · show aE d 224 0 [.ref 46, .ref 60, aNo, aNo] [] _ = _
    have e1 (I : Nat → Nat → Int32) (v : Int32) (rd : Nat) : aF d 227 [.ref 60, .int (nI (1 - k)), .int v] (g, I, J, aP1 sl rd 57) = some (some none, (g, aR I 60 (adA (I 60) (1 - k) v), J, aP1 sl rd 57)) := f227_60 (by omega) v
    simp (disch := omega) only [b224_0, a3, b224_5, ew, hI, f226_60, aU_R, aR_s, aR_u, b224_39, nI_1m, e1, b224_47, f227_60, b224_53, aBi, aBv, aBl, nI_1, nIle_t, nIle_f, nIlt_t, nIlt_f, nIeq_t, nIeq_f, nIneg, nI_clamp, nat_le_f, nat_le_t, nat_lt_f, nat_lt_t, or_self, or_false, false_or, if_true, if_false, ↓reduceIte, Int32.or_zero, Int32.add_zero, nIm2, nIm3, nIm4, nIp2, nIp4, nIp6, nIp8, nIp14, nIp16, nIp22, nIp24, nIp30, nIq2, nIq3, nIq4, hasI_0, aU_s, aU_i, aU_r, aU_u]
    rw [upd_n (I 60) _ (show 4 + k ≠ 22 + i by omega)]
    unfold rRace
    simp only
    have e6 : ∀ q, adA (adA (adM (upd (upd (I 60) (22 + i) (I 60 (22 + i) + 1)) (4 + k) q) k 10) (1 - k) 3) k (-1) 38 = I 60 38 := by
      intro q
      unfold adA adM
      rw [upd_n _ _ (by omega), upd_n _ _ (by omega), upd_n _ _ (by omega), upd_n _ _ (by omega), upd_n _ _ (by omega)]
    rw [e6]
end T06
section T07
/-! races one behind another: both sides -/
variable {d : Nat} {g : Nat × Nat × Nat} {I : Nat → Nat → Int32} {J : Nat → Nat → Int64} {sl rd rl : Nat}
section Vs
variable (st : (Nat → Int32) → Nat → Int32) (n : Nat) (v : Nat → Int32)
def vsR : Nat → (Nat → Int32)
  | 0 => v
  | j + 1 => rRace (vsR j) (wn (st (vsR j)) n) (vsR j (6 + wn (st (vsR j)) n)).toNatClampNeg
def wnR (j : Nat) : Nat := wn (st (vsR st n v j)) n
def isB (j : Nat) : Bool := decide (vsR st n v j (6 + wnR st n v j) = 0)
def blR : Nat → Nat
  | 0 => 0
  | j + 1 => if isB st n v j = true then blR j + 1 else blR j
def joR (lim : Int32) : Nat → Nat
  | 0 => 0
  | j + 1 => joR lim j + (jn (vsR st n v (j + 1)) lim).toNat
def biR : Nat → Nat
  | 0 => 0
  | j + 1 => if isB st n v j = true then biR j + 1 else 0
def giR : Nat → Nat
  | 0 => 0
  | j + 1 => if isB st n v j = true then 0 else giR j + 1
def mbR : Nat → Nat
  | 0 => 0
  | j + 1 => if mbR j < biR st n v (j + 1) then biR st n v (j + 1) else mbR j
def mgR : Nat → Nat
  | 0 => 0
  | j + 1 => if mgR j < giR st n v (j + 1) then giR st n v (j + 1) else mgR j
def laR : Nat → Int32
  | 0 => -1
  | j + 1 => nI (wnR st n v j)
theorem blR_le : ∀ j, blR st n v j ≤ j
  | 0 => Nat.le_refl _
  | j + 1 => by have := blR_le j; unfold blR; split <;> omega
theorem joR_le (lim : Int32) : ∀ j, joR st n v lim j ≤ j
  | 0 => Nat.le_refl _
  | j + 1 => by have := joR_le lim j; unfold joR; have := Bool.toNat_le (jn (vsR st n v (j + 1)) lim); omega
theorem biR_le : ∀ j, biR st n v j ≤ j
  | 0 => Nat.le_refl _
  | j + 1 => by have := biR_le j; unfold biR; split <;> omega
theorem giR_le : ∀ j, giR st n v j ≤ j
  | 0 => Nat.le_refl _
  | j + 1 => by have := giR_le j; unfold giR; split <;> omega
theorem mbR_le : ∀ j, mbR st n v j ≤ j
  | 0 => Nat.le_refl _
  | j + 1 => by have := mbR_le j; have := biR_le st n v (j + 1); unfold mbR; split <;> omega
theorem mgR_le : ∀ j, mgR st n v j ≤ j
  | 0 => Nat.le_refl _
  | j + 1 => by have := mgR_le j; have := giR_le st n v (j + 1); unfold mgR; split <;> omega
end Vs
theorem rRace_l (v : Nat → Int32) {i c k : Nat} (hi : i < 8) (hc : c < 2) (hk : k < 8) : rRace v i c (6 + k) = v (6 + k) := by
  unfold rRace adA adM
  simp only
  rw [upd_n _ _ (by omega), upd_n _ _ (by omega), upd_n _ _ (by omega), upd_n _ _ (by omega), upd_n _ _ (by omega), upd_n _ _ (by omega)]
section Vs2
variable {st : (Nat → Int32) → Nat → Int32} {n q : Nat} {v : Nat → Int32}
theorem vsR_1 (hc : clubs (fun i => v (6 + i)) n) (hn : n ≤ 8) (h0 : 0 < n) : ∀ j, (∀ k, k < 8 → vsR st n v j (6 + k) = v (6 + k)) ∧ ∃ k, k < 2 ∧ vsR st n v j (6 + wnR st n v j) = nI k ∧ vsR st n v (j + 1) = rRace (vsR st n v j) (wnR st n v j) k := by
  have two : ∀ j, (∀ k, k < 8 → vsR st n v j (6 + k) = v (6 + k)) → ∃ k, k < 2 ∧ vsR st n v j (6 + wnR st n v j) = nI k ∧ vsR st n v (j + 1) = rRace (vsR st n v j) (wnR st n v j) k := by
    intro j h
    have hw : wnR st n v j < n := wn_lt _ h0
    obtain ⟨k, hk, e⟩ := hc _ hw
    have e2 : vsR st n v j (6 + wnR st n v j) = nI k := (h _ (by omega)).trans e
    refine ⟨k, hk, e2, ?_⟩
    show rRace (vsR st n v j) (wnR st n v j) (vsR st n v j (6 + wnR st n v j)).toNatClampNeg = _
    rw [e2, nI_clamp (by omega)]
  intro j
  induction j with
  | zero => exact ⟨fun _ _ => rfl, two 0 (fun _ _ => rfl)⟩
  | succ j ih =>
    obtain ⟨h1, k, hk, e1, e2⟩ := ih
    have hw : wnR st n v j < n := wn_lt _ h0
    have h2 : ∀ k, k < 8 → vsR st n v (j + 1) (6 + k) = v (6 + k) := fun i hi => by
      rw [e2, rRace_l _ (by omega) hk hi]; exact h1 i hi
    exact ⟨h2, two _ h2⟩
theorem vsR_ok (hW : okW n q v) (hn : n ≤ 8) (h0 : 0 < n) : ∀ j, okW n q (vsR st n v j) := by
  intro j
  induction j with
  | zero => exact hW
  | succ j ih =>
    obtain ⟨_, k, hk, _, e2⟩ := vsR_1 (st := st) hW.2.2.1 hn h0 j
    rw [e2]
    exact okW_race ih (wn_lt _ h0) hn hk
end Vs2
theorem tI_n (b : Bool) : tI b = nI b.toNat := by cases b <;> rfl
theorem nI_00 : (nI 0 = (0 : Int32)) = True := eq_true rfl
theorem nI_10 : (nI 1 = (0 : Int32)) = False := eq_false (by decide)
theorem ifT {α : Type} (b : Bool) (F : Int32 → α) (y : Int32) : (if tI b = 0 then F (y + 0) else F (y + 1)) = F (y + tI b) := by cases b <;> rfl
theorem jn_cV (f : Nat → Int32) (l : Int32) : jn (cV f) l = jn f l := rfl
theorem jn_rV (f : Nat → Int32) (l : Int32) : jn (rV f) l = jn f l := rfl
theorem f64 {nd m N : Nat} {rv : (Nat → Int32) → Int32} (hR : cRule (I 34) m rv) (hs : I 33 1 = nI m) (h0 : I 14 0 = nI nd) (hn : nd ≤ 8) (hd : 0 < nd) (hc : clubs (fun i => I 24 (8 + i)) nd) (hN : N ≤ 99) : ∃ I', Fr [24, 35, 36, 41] I I' ∧ cV (I' 24) = vsR (sts rv (I 15)) nd (cV (I 24)) N ∧ I' 24 7 = I 24 7 ∧ I' 41 0 = laR (sts rv (I 15)) nd (cV (I 24)) N ∧ I' 41 1 = nI (joR (sts rv (I 15)) nd (cV (I 24)) (I 14 11) N) ∧ I' 41 2 = nI (mbR (sts rv (I 15)) nd (cV (I 24)) N) ∧ I' 41 3 = nI (mgR (sts rv (I 15)) nd (cV (I 24)) N) ∧ I' 41 4 = I 41 4 ∧ aF d 64 [.ref 41, .ref 14, .ref 23, .ref 33, .int (nI N)] (g, I, J, aP1 sl rd rl) = some (some (some (.int (nI (blR (sts rv (I 15)) nd (cV (I 24)) N)))), (g, I', J, aP1 sl rd rl)) := by
  have hcV : clubs (fun i => cV (I 24) (6 + i)) nd := fun i hi => by
    obtain ⟨k, hk, e⟩ := hc i hi
    exact ⟨k, hk, (cV_l _ (by omega)).trans e⟩
  have V := vsR_1 (st := sts rv (I 15)) hcV hn hd
  have B1 := blR_le (sts rv (I 15)) nd (cV (I 24))
  have B2 := biR_le (sts rv (I 15)) nd (cV (I 24))
  have B3 := giR_le (sts rv (I 15)) nd (cV (I 24))
  have B4 := mbR_le (sts rv (I 15)) nd (cV (I 24))
  have B5 := mgR_le (sts rv (I 15)) nd (cV (I 24))
  have l : ∀ (M j : Nat) (I1 : Nat → Nat → Int32) (w9 : Value), j + M = N → Fr [24, 35, 36, 41] I I1 → cV (I1 24) = vsR (sts rv (I 15)) nd (cV (I 24)) j → I1 24 7 = I 24 7 → I1 41 0 = laR (sts rv (I 15)) nd (cV (I 24)) j → I1 41 1 = nI (joR (sts rv (I 15)) nd (cV (I 24)) (I 14 11) j) → I1 41 2 = nI (mbR (sts rv (I 15)) nd (cV (I 24)) j) → I1 41 3 = nI (mgR (sts rv (I 15)) nd (cV (I 24)) j) → I1 41 4 = I 41 4 → ∃ I', Fr [24, 35, 36, 41] I I' ∧ cV (I' 24) = vsR (sts rv (I 15)) nd (cV (I 24)) N ∧ I' 24 7 = I 24 7 ∧ I' 41 0 = laR (sts rv (I 15)) nd (cV (I 24)) N ∧ I' 41 1 = nI (joR (sts rv (I 15)) nd (cV (I 24)) (I 14 11) N) ∧ I' 41 2 = nI (mbR (sts rv (I 15)) nd (cV (I 24)) N) ∧ I' 41 3 = nI (mgR (sts rv (I 15)) nd (cV (I 24)) N) ∧ I' 41 4 = I 41 4 ∧ aE d 64 32 [.ref 41, .ref 14, .ref 23, .ref 33, .int (nI N), .int (nI (blR (sts rv (I 15)) nd (cV (I 24)) j)), .int (nI (biR (sts rv (I 15)) nd (cV (I 24)) j)), .int (nI (giR (sts rv (I 15)) nd (cV (I 24)) j)), .int (nI j), w9] [] (g, I1, J, aP1 sl rd rl) = some (some (some (.int (nI (blR (sts rv (I 15)) nd (cV (I 24)) N)))), (g, I', J, aP1 sl rd rl)) := by
    intro M
    induction M with
    | zero =>
      intro j I1 w9 hj q q1 q2 q3 q4 q5 q6 q7
      obtain rfl : j = N := by omega
      refine ⟨I1, q, q1, q2, q3, q4, q5, q6, q7, ?_⟩
      rw [b64_32]
      simp (disch := omega) only [Int32.le_refl, aBi, aBv, aBl, nI_1, nIle_t, nIle_f, nIlt_t, nIlt_f, nIeq_t, nIeq_f, nIneg, nI_clamp, nat_le_f, nat_le_t, nat_lt_f, nat_lt_t, or_self, or_false, false_or, if_true, if_false, ↓reduceIte, Int32.or_zero, Int32.add_zero, nIm2, nIm3, nIm4, nIp2, nIp4, nIp6, nIp8, nIp14, nIp16, nIp22, nIp24, nIp30, nIq2, nIq3, nIq4, hasI_0, aU_s, aU_i, aU_r, aU_u]
    | succ M ih =>
      intro j I1 w9 hj q q1 q2 q3 q4 q5 q6 q7
      obtain ⟨hl, k, hk, e1, e2⟩ := V j
      have hW : wnR (sts rv (I 15)) nd (cV (I 24)) j < nd := wn_lt _ hd
      have e15 : I1 15 = I 15 := q 15 (by decide)
      have hcl : ∀ i, i < 8 → I1 24 (8 + i) = cV (I 24) (6 + i) := fun i hi => by
        rw [← cV_l _ hi, q1]; exact hl i hi
      have hk1 : I1 24 (8 + wnR (sts rv (I 15)) nd (cV (I 24)) j) = nI k := by
        rw [← cV_l _ (by omega), q1]; exact e1
      have f := f65 (d := d) (g := g) (I := I1) (J := J) (sl := sl) (rd := rd) (rl := rl) (m := m) (nd := nd) (k := k) (rv := rv) (by rw [q 34 (by decide)]; exact hR) (by rw [q 33 (by decide)]; exact hs) (by rw [q 14 (by decide)]; exact h0) hn hd (fun i hi => by
        obtain ⟨k, hk, e⟩ := hcV i hi
        exact ⟨k, hk, (hcl i (by omega)).trans e⟩) hk (by rw [e15, q1]; exact hk1)
      rw [e15, q1] at f
      obtain ⟨x, y, f⟩ := f
      have f : aF d 65 [.ref 23, .ref 14, .ref 33] (g, I1, J, aP1 sl rd rl) = some (some (some (.int (nI (wnR (sts rv (I 15)) nd (cV (I 24)) j)))), (g, aR (aR (aR I1 24 (cRace (I1 24) (wnR (sts rv (I 15)) nd (cV (I 24)) j) k)) 35 x) 36 y, J, aP1 sl rd rl)) := f
      have hB : isB (sts rv (I 15)) nd (cV (I 24)) j = decide (nI k = 0) := by unfold isB; rw [e1]
      generalize hI2 : aR (aR (aR I1 24 (cRace (I1 24) (wnR (sts rv (I 15)) nd (cV (I 24)) j) k)) 35 x) 36 y = I2 at f
      have g1 : Fr [24, 35, 36, 41] I I2 := by
        rw [← hI2]; exact Fr_s (Fr_s (Fr_s q _ (by decide)) _ (by decide)) _ (by decide)
      have g2 : I2 24 = cRace (I1 24) (wnR (sts rv (I 15)) nd (cV (I 24)) j) k := by
        rw [← hI2, aR_r _ _ (by decide), aR_r _ _ (by decide), aR_s]
      have g3 : cV (I2 24) = vsR (sts rv (I 15)) nd (cV (I 24)) (j + 1) := by
        rw [g2, cRace_v _ (by omega) hk, q1, e2]
      have g4 : I2 24 7 = I 24 7 := by
        rw [g2, ← q2]
        unfold cRace adA adM
        simp only
        rw [upd_n _ _ (by omega), upd_n _ _ (by omega), upd_n _ _ (by omega), upd_n _ _ (by omega), upd_n _ _ (by omega), upd_n _ _ (by omega)]
      have g5 : I2 41 = I1 41 := by
        rw [← hI2, aR_r _ _ (by decide), aR_r _ _ (by decide), aR_r _ _ (by decide)]
      have g6 : I2 24 (8 + wnR (sts rv (I 15)) nd (cV (I 24)) j) = nI k := by
        rw [← cV_l _ (by omega), g3, e2, rRace_l _ (by omega) hk (by omega)]; exact e1
      have e78 : ∀ I5 : Nat → Nat → Int32, I5 24 = I2 24 → I5 14 = I 14 → aF d 78 [.ref 23, .ref 14] (g, I5, J, aP1 sl rd rl) = some (some (some (.int (tI (jn (vsR (sts rv (I 15)) nd (cV (I 24)) (j + 1)) (I 14 11))))), (g, I5, J, aP1 sl rd rl)) := by
        intro I5 h1 h2
        rw [f78_23, jn_c, ← jn_cV, h1, h2, g3]
      have j1 : joR (sts rv (I 15)) nd (cV (I 24)) (I 14 11) (j + 1) = joR (sts rv (I 15)) nd (cV (I 24)) (I 14 11) j + (jn (vsR (sts rv (I 15)) nd (cV (I 24)) (j + 1)) (I 14 11)).toNat := rfl
      have b1 := B1 j
      have b2 := B2 j
      have b3 := B3 j
      have b4 := B4 j
      have b5 := B5 j
      rw [b64_32, if_neg (nI_ge (by omega) (by omega)), f]
      simp only [aBi]
      rw [b64_46, f68_23 (by omega)]
      simp only [aBi]
      rw [aU_r _ _ (by decide), g6, b64_57]
      rcases (by omega : k = 0 ∨ k = 1) with rfl | rfl
      · have hB : isB (sts rv (I 15)) nd (cV (I 24)) j = true := by rw [hB]; rfl
        have c1 : blR (sts rv (I 15)) nd (cV (I 24)) (j + 1) = blR (sts rv (I 15)) nd (cV (I 24)) j + 1 := if_pos hB
        have c2 : biR (sts rv (I 15)) nd (cV (I 24)) (j + 1) = biR (sts rv (I 15)) nd (cV (I 24)) j + 1 := if_pos hB
        have c3 : giR (sts rv (I 15)) nd (cV (I 24)) (j + 1) = 0 := if_pos hB
        have c4 : (if nI (mbR (sts rv (I 15)) nd (cV (I 24)) j) < nI (biR (sts rv (I 15)) nd (cV (I 24)) j + 1) then nI (biR (sts rv (I 15)) nd (cV (I 24)) j + 1) else nI (mbR (sts rv (I 15)) nd (cV (I 24)) j)) = nI (mbR (sts rv (I 15)) nd (cV (I 24)) (j + 1)) := by
          show _ = nI (if mbR (sts rv (I 15)) nd (cV (I 24)) j < biR (sts rv (I 15)) nd (cV (I 24)) (j + 1) then biR (sts rv (I 15)) nd (cV (I 24)) (j + 1) else mbR (sts rv (I 15)) nd (cV (I 24)) j)
          rw [c2]
          by_cases h : mbR (sts rv (I 15)) nd (cV (I 24)) j < biR (sts rv (I 15)) nd (cV (I 24)) j + 1
          · rw [if_pos h, if_pos (nI_lt h (by omega))]
          · rw [if_neg h, if_neg (nI_nlt (by omega) (by omega))]
        have c5 : (if nI (mgR (sts rv (I 15)) nd (cV (I 24)) j) < 0 then 0 else nI (mgR (sts rv (I 15)) nd (cV (I 24)) j)) = nI (mgR (sts rv (I 15)) nd (cV (I 24)) (j + 1)) := by
          show _ = nI (if mgR (sts rv (I 15)) nd (cV (I 24)) j < giR (sts rv (I 15)) nd (cV (I 24)) (j + 1) then giR (sts rv (I 15)) nd (cV (I 24)) (j + 1) else mgR (sts rv (I 15)) nd (cV (I 24)) j)
          rw [c3, if_neg (Nat.not_lt_zero _), if_neg (nI_pos (by omega))]
        rw [if_pos rfl, e78 _ (by simp (disch := decide) only [aU_r]) (by simp (disch := decide) only [aU_r]; exact g1 14 (by decide))]
        simp only [aBi]
        rw [b64_148]
        simp (disch := decide) only [aU_s, aU_i, g5, q4, q5, q6, nI_1, c4, c5]
        rw [ifT _ (fun z => aE d 64 32 _ _ (g, aU _ 41 1 z, J, aP1 sl rd rl)), tI_n, nI_add, ← j1, ← c1, ← c2, show (0 : Int32) = nI (giR (sts rv (I 15)) nd (cV (I 24)) (j + 1)) from by rw [c3]; rfl]
        refine ih (j + 1) _ _ (by omega) ?_ ?_ ?_ ?_ ?_ ?_ ?_ ?_
        · simp only [aU_R]
          exact Fr_s (Fr_s (Fr_s (Fr_s g1 _ (by decide)) _ (by decide)) _ (by decide)) _ (by decide)
        · simp (disch := decide) only [aU_r]; exact g3
        · simp (disch := decide) only [aU_r]; exact g4
        · simp (disch := decide) only [aU_s, aU_i]; rfl
        · rw [aU_s]
        · simp (disch := decide) only [aU_s, aU_i]
        · simp (disch := decide) only [aU_s, aU_i]
        · simp (disch := decide) only [aU_i, g5]; exact q7
      · have hB : ¬ isB (sts rv (I 15)) nd (cV (I 24)) j = true := by rw [hB]; decide
        have c1 : blR (sts rv (I 15)) nd (cV (I 24)) (j + 1) = blR (sts rv (I 15)) nd (cV (I 24)) j := if_neg hB
        have c2 : biR (sts rv (I 15)) nd (cV (I 24)) (j + 1) = 0 := if_neg hB
        have c3 : giR (sts rv (I 15)) nd (cV (I 24)) (j + 1) = giR (sts rv (I 15)) nd (cV (I 24)) j + 1 := if_neg hB
        have c4 : (if nI (mgR (sts rv (I 15)) nd (cV (I 24)) j) < nI (giR (sts rv (I 15)) nd (cV (I 24)) j + 1) then nI (giR (sts rv (I 15)) nd (cV (I 24)) j + 1) else nI (mgR (sts rv (I 15)) nd (cV (I 24)) j)) = nI (mgR (sts rv (I 15)) nd (cV (I 24)) (j + 1)) := by
          show _ = nI (if mgR (sts rv (I 15)) nd (cV (I 24)) j < giR (sts rv (I 15)) nd (cV (I 24)) (j + 1) then giR (sts rv (I 15)) nd (cV (I 24)) (j + 1) else mgR (sts rv (I 15)) nd (cV (I 24)) j)
          rw [c3]
          by_cases h : mgR (sts rv (I 15)) nd (cV (I 24)) j < giR (sts rv (I 15)) nd (cV (I 24)) j + 1
          · rw [if_pos h, if_pos (nI_lt h (by omega))]
          · rw [if_neg h, if_neg (nI_nlt (by omega) (by omega))]
        have c5 : (if nI (mbR (sts rv (I 15)) nd (cV (I 24)) j) < 0 then 0 else nI (mbR (sts rv (I 15)) nd (cV (I 24)) j)) = nI (mbR (sts rv (I 15)) nd (cV (I 24)) (j + 1)) := by
          show _ = nI (if mbR (sts rv (I 15)) nd (cV (I 24)) j < biR (sts rv (I 15)) nd (cV (I 24)) (j + 1) then biR (sts rv (I 15)) nd (cV (I 24)) (j + 1) else mbR (sts rv (I 15)) nd (cV (I 24)) j)
          rw [c2, if_neg (Nat.not_lt_zero _), if_neg (nI_pos (by omega))]
        rw [if_neg (by decide), e78 _ (by simp (disch := decide) only [aU_r]) (by simp (disch := decide) only [aU_r]; exact g1 14 (by decide))]
        simp only [aBi]
        rw [b64_148]
        simp (disch := decide) only [aU_s, aU_i, g5, q4, q5, q6, nI_1, c4, c5, Int32.add_zero]
        rw [ifT _ (fun z => aE d 64 32 _ _ (g, aU _ 41 1 z, J, aP1 sl rd rl)), tI_n, nI_add, ← j1, ← c1, ← c3, show (0 : Int32) = nI (biR (sts rv (I 15)) nd (cV (I 24)) (j + 1)) from by rw [c2]; rfl]
        refine ih (j + 1) _ _ (by omega) ?_ ?_ ?_ ?_ ?_ ?_ ?_ ?_
        · simp only [aU_R]
          exact Fr_s (Fr_s (Fr_s (Fr_s g1 _ (by decide)) _ (by decide)) _ (by decide)) _ (by decide)
        · simp (disch := decide) only [aU_r]; exact g3
        · simp (disch := decide) only [aU_r]; exact g4
        · simp (disch := decide) only [aU_s, aU_i]; rfl
        · rw [aU_s]
        · simp (disch := decide) only [aU_s, aU_i]
        · simp (disch := decide) only [aU_s, aU_i]
        · simp (disch := decide) only [aU_i, g5]; exact q7
  obtain ⟨I', h1, h2⟩ := l N 0 (aU (aU (aU (aU I 41 0 (-1)) 41 1 0) 41 2 0) 41 3 0) aNo (by omega) (by
    simp only [aU_R]
    exact Fr_s (Fr_s (Fr_s (Fr_s (Fr_r _ _) _ (by decide)) _ (by decide)) _ (by decide)) _ (by decide)) (by simp (disch := decide) only [aU_r]; rfl) (by simp (disch := decide) only [aU_r]) (by simp (disch := decide) only [aU_s, aU_i]; rfl) (by simp (disch := decide) only [aU_s, aU_i]; rfl) (by simp (disch := decide) only [aU_s, aU_i]; rfl) (by simp (disch := decide) only [aU_s, aU_i]; rfl) (by simp (disch := decide) only [aU_i])
  refine ⟨I', h1, h2.1, h2.2.1, h2.2.2.1, h2.2.2.2.1, h2.2.2.2.2.1, h2.2.2.2.2.2.1, h2.2.2.2.2.2.2.1, ?_⟩
  show aE d 64 0 [.ref 41, .ref 14, .ref 23, .ref 33, .int (nI N), aNo, aNo, aNo, aNo, aNo] [] _ = _
  rw [b64_0]
  exact h2.2.2.2.2.2.2.2
theorem f64t {nd m N : Nat} {rv : (Nat → Int32) → Int32} (hR : cRule (I 34) m rv) (hs : I 33 1 = nI m) (h0 : I 14 0 = nI nd) (hn : nd ≤ 8) (hd : 0 < nd) (hc : clubs (fun i => I 28 (8 + i)) nd) (hN : N ≤ 99) : ∃ I', Fr [28, 35, 36, 41] I I' ∧ cV (I' 28) = vsR (sts rv (I 15)) nd (cV (I 28)) N ∧ I' 28 7 = I 28 7 ∧ I' 41 0 = laR (sts rv (I 15)) nd (cV (I 28)) N ∧ I' 41 1 = nI (joR (sts rv (I 15)) nd (cV (I 28)) (I 14 11) N) ∧ I' 41 2 = nI (mbR (sts rv (I 15)) nd (cV (I 28)) N) ∧ I' 41 3 = nI (mgR (sts rv (I 15)) nd (cV (I 28)) N) ∧ I' 41 4 = I 41 4 ∧ aF d 64 [.ref 41, .ref 14, .ref 27, .ref 33, .int (nI N)] (g, I, J, aP1 sl rd rl) = some (some (some (.int (nI (blR (sts rv (I 15)) nd (cV (I 28)) N)))), (g, I', J, aP1 sl rd rl)) := by
  have hcV : clubs (fun i => cV (I 28) (6 + i)) nd := fun i hi => by
    obtain ⟨k, hk, e⟩ := hc i hi
    exact ⟨k, hk, (cV_l _ (by omega)).trans e⟩
  have V := vsR_1 (st := sts rv (I 15)) hcV hn hd
  have B1 := blR_le (sts rv (I 15)) nd (cV (I 28))
  have B2 := biR_le (sts rv (I 15)) nd (cV (I 28))
  have B3 := giR_le (sts rv (I 15)) nd (cV (I 28))
  have B4 := mbR_le (sts rv (I 15)) nd (cV (I 28))
  have B5 := mgR_le (sts rv (I 15)) nd (cV (I 28))
  have l : ∀ (M j : Nat) (I1 : Nat → Nat → Int32) (w9 : Value), j + M = N → Fr [28, 35, 36, 41] I I1 → cV (I1 28) = vsR (sts rv (I 15)) nd (cV (I 28)) j → I1 28 7 = I 28 7 → I1 41 0 = laR (sts rv (I 15)) nd (cV (I 28)) j → I1 41 1 = nI (joR (sts rv (I 15)) nd (cV (I 28)) (I 14 11) j) → I1 41 2 = nI (mbR (sts rv (I 15)) nd (cV (I 28)) j) → I1 41 3 = nI (mgR (sts rv (I 15)) nd (cV (I 28)) j) → I1 41 4 = I 41 4 → ∃ I', Fr [28, 35, 36, 41] I I' ∧ cV (I' 28) = vsR (sts rv (I 15)) nd (cV (I 28)) N ∧ I' 28 7 = I 28 7 ∧ I' 41 0 = laR (sts rv (I 15)) nd (cV (I 28)) N ∧ I' 41 1 = nI (joR (sts rv (I 15)) nd (cV (I 28)) (I 14 11) N) ∧ I' 41 2 = nI (mbR (sts rv (I 15)) nd (cV (I 28)) N) ∧ I' 41 3 = nI (mgR (sts rv (I 15)) nd (cV (I 28)) N) ∧ I' 41 4 = I 41 4 ∧ aE d 64 32 [.ref 41, .ref 14, .ref 27, .ref 33, .int (nI N), .int (nI (blR (sts rv (I 15)) nd (cV (I 28)) j)), .int (nI (biR (sts rv (I 15)) nd (cV (I 28)) j)), .int (nI (giR (sts rv (I 15)) nd (cV (I 28)) j)), .int (nI j), w9] [] (g, I1, J, aP1 sl rd rl) = some (some (some (.int (nI (blR (sts rv (I 15)) nd (cV (I 28)) N)))), (g, I', J, aP1 sl rd rl)) := by
    intro M
    induction M with
    | zero =>
      intro j I1 w9 hj q q1 q2 q3 q4 q5 q6 q7
      obtain rfl : j = N := by omega
      refine ⟨I1, q, q1, q2, q3, q4, q5, q6, q7, ?_⟩
      rw [b64_32_2]
      simp (disch := omega) only [Int32.le_refl, aBi, aBv, aBl, nI_1, nIle_t, nIle_f, nIlt_t, nIlt_f, nIeq_t, nIeq_f, nIneg, nI_clamp, nat_le_f, nat_le_t, nat_lt_f, nat_lt_t, or_self, or_false, false_or, if_true, if_false, ↓reduceIte, Int32.or_zero, Int32.add_zero, nIm2, nIm3, nIm4, nIp2, nIp4, nIp6, nIp8, nIp14, nIp16, nIp22, nIp24, nIp30, nIq2, nIq3, nIq4, hasI_0, aU_s, aU_i, aU_r, aU_u]
    | succ M ih =>
      intro j I1 w9 hj q q1 q2 q3 q4 q5 q6 q7
      obtain ⟨hl, k, hk, e1, e2⟩ := V j
      have hW : wnR (sts rv (I 15)) nd (cV (I 28)) j < nd := wn_lt _ hd
      have e15 : I1 15 = I 15 := q 15 (by decide)
      have hcl : ∀ i, i < 8 → I1 28 (8 + i) = cV (I 28) (6 + i) := fun i hi => by
        rw [← cV_l _ hi, q1]; exact hl i hi
      have hk1 : I1 28 (8 + wnR (sts rv (I 15)) nd (cV (I 28)) j) = nI k := by
        rw [← cV_l _ (by omega), q1]; exact e1
      have f := f65t (d := d) (g := g) (I := I1) (J := J) (sl := sl) (rd := rd) (rl := rl) (m := m) (nd := nd) (k := k) (rv := rv) (by rw [q 34 (by decide)]; exact hR) (by rw [q 33 (by decide)]; exact hs) (by rw [q 14 (by decide)]; exact h0) hn hd (fun i hi => by
        obtain ⟨k, hk, e⟩ := hcV i hi
        exact ⟨k, hk, (hcl i (by omega)).trans e⟩) hk (by rw [e15, q1]; exact hk1)
      rw [e15, q1] at f
      obtain ⟨x, y, f⟩ := f
      have f : aF d 65 [.ref 27, .ref 14, .ref 33] (g, I1, J, aP1 sl rd rl) = some (some (some (.int (nI (wnR (sts rv (I 15)) nd (cV (I 28)) j)))), (g, aR (aR (aR I1 28 (cRace (I1 28) (wnR (sts rv (I 15)) nd (cV (I 28)) j) k)) 35 x) 36 y, J, aP1 sl rd rl)) := f
      have hB : isB (sts rv (I 15)) nd (cV (I 28)) j = decide (nI k = 0) := by unfold isB; rw [e1]
      generalize hI2 : aR (aR (aR I1 28 (cRace (I1 28) (wnR (sts rv (I 15)) nd (cV (I 28)) j) k)) 35 x) 36 y = I2 at f
      have g1 : Fr [28, 35, 36, 41] I I2 := by
        rw [← hI2]; exact Fr_s (Fr_s (Fr_s q _ (by decide)) _ (by decide)) _ (by decide)
      have g2 : I2 28 = cRace (I1 28) (wnR (sts rv (I 15)) nd (cV (I 28)) j) k := by
        rw [← hI2, aR_r _ _ (by decide), aR_r _ _ (by decide), aR_s]
      have g3 : cV (I2 28) = vsR (sts rv (I 15)) nd (cV (I 28)) (j + 1) := by
        rw [g2, cRace_v _ (by omega) hk, q1, e2]
      have g4 : I2 28 7 = I 28 7 := by
        rw [g2, ← q2]
        unfold cRace adA adM
        simp only
        rw [upd_n _ _ (by omega), upd_n _ _ (by omega), upd_n _ _ (by omega), upd_n _ _ (by omega), upd_n _ _ (by omega), upd_n _ _ (by omega)]
      have g5 : I2 41 = I1 41 := by
        rw [← hI2, aR_r _ _ (by decide), aR_r _ _ (by decide), aR_r _ _ (by decide)]
      have g6 : I2 28 (8 + wnR (sts rv (I 15)) nd (cV (I 28)) j) = nI k := by
        rw [← cV_l _ (by omega), g3, e2, rRace_l _ (by omega) hk (by omega)]; exact e1
      have e78 : ∀ I5 : Nat → Nat → Int32, I5 28 = I2 28 → I5 14 = I 14 → aF d 78 [.ref 27, .ref 14] (g, I5, J, aP1 sl rd rl) = some (some (some (.int (tI (jn (vsR (sts rv (I 15)) nd (cV (I 28)) (j + 1)) (I 14 11))))), (g, I5, J, aP1 sl rd rl)) := by
        intro I5 h1 h2
        rw [f78_27, jn_c, ← jn_cV, h1, h2, g3]
      have j1 : joR (sts rv (I 15)) nd (cV (I 28)) (I 14 11) (j + 1) = joR (sts rv (I 15)) nd (cV (I 28)) (I 14 11) j + (jn (vsR (sts rv (I 15)) nd (cV (I 28)) (j + 1)) (I 14 11)).toNat := rfl
      have b1 := B1 j
      have b2 := B2 j
      have b3 := B3 j
      have b4 := B4 j
      have b5 := B5 j
      rw [b64_32_2, if_neg (nI_ge (by omega) (by omega)), f]
      simp only [aBi]
      rw [b64_46_2, f68_27 (by omega)]
      simp only [aBi]
      rw [aU_r _ _ (by decide), g6, b64_57_2]
      rcases (by omega : k = 0 ∨ k = 1) with rfl | rfl
      · have hB : isB (sts rv (I 15)) nd (cV (I 28)) j = true := by rw [hB]; rfl
        have c1 : blR (sts rv (I 15)) nd (cV (I 28)) (j + 1) = blR (sts rv (I 15)) nd (cV (I 28)) j + 1 := if_pos hB
        have c2 : biR (sts rv (I 15)) nd (cV (I 28)) (j + 1) = biR (sts rv (I 15)) nd (cV (I 28)) j + 1 := if_pos hB
        have c3 : giR (sts rv (I 15)) nd (cV (I 28)) (j + 1) = 0 := if_pos hB
        have c4 : (if nI (mbR (sts rv (I 15)) nd (cV (I 28)) j) < nI (biR (sts rv (I 15)) nd (cV (I 28)) j + 1) then nI (biR (sts rv (I 15)) nd (cV (I 28)) j + 1) else nI (mbR (sts rv (I 15)) nd (cV (I 28)) j)) = nI (mbR (sts rv (I 15)) nd (cV (I 28)) (j + 1)) := by
          show _ = nI (if mbR (sts rv (I 15)) nd (cV (I 28)) j < biR (sts rv (I 15)) nd (cV (I 28)) (j + 1) then biR (sts rv (I 15)) nd (cV (I 28)) (j + 1) else mbR (sts rv (I 15)) nd (cV (I 28)) j)
          rw [c2]
          by_cases h : mbR (sts rv (I 15)) nd (cV (I 28)) j < biR (sts rv (I 15)) nd (cV (I 28)) j + 1
          · rw [if_pos h, if_pos (nI_lt h (by omega))]
          · rw [if_neg h, if_neg (nI_nlt (by omega) (by omega))]
        have c5 : (if nI (mgR (sts rv (I 15)) nd (cV (I 28)) j) < 0 then 0 else nI (mgR (sts rv (I 15)) nd (cV (I 28)) j)) = nI (mgR (sts rv (I 15)) nd (cV (I 28)) (j + 1)) := by
          show _ = nI (if mgR (sts rv (I 15)) nd (cV (I 28)) j < giR (sts rv (I 15)) nd (cV (I 28)) (j + 1) then giR (sts rv (I 15)) nd (cV (I 28)) (j + 1) else mgR (sts rv (I 15)) nd (cV (I 28)) j)
          rw [c3, if_neg (Nat.not_lt_zero _), if_neg (nI_pos (by omega))]
        rw [if_pos rfl, e78 _ (by simp (disch := decide) only [aU_r]) (by simp (disch := decide) only [aU_r]; exact g1 14 (by decide))]
        simp only [aBi]
        rw [b64_148_2]
        simp (disch := decide) only [aU_s, aU_i, g5, q4, q5, q6, nI_1, c4, c5]
        rw [ifT _ (fun z => aE d 64 32 _ _ (g, aU _ 41 1 z, J, aP1 sl rd rl)), tI_n, nI_add, ← j1, ← c1, ← c2, show (0 : Int32) = nI (giR (sts rv (I 15)) nd (cV (I 28)) (j + 1)) from by rw [c3]; rfl]
        refine ih (j + 1) _ _ (by omega) ?_ ?_ ?_ ?_ ?_ ?_ ?_ ?_
        · simp only [aU_R]
          exact Fr_s (Fr_s (Fr_s (Fr_s g1 _ (by decide)) _ (by decide)) _ (by decide)) _ (by decide)
        · simp (disch := decide) only [aU_r]; exact g3
        · simp (disch := decide) only [aU_r]; exact g4
        · simp (disch := decide) only [aU_s, aU_i]; rfl
        · rw [aU_s]
        · simp (disch := decide) only [aU_s, aU_i]
        · simp (disch := decide) only [aU_s, aU_i]
        · simp (disch := decide) only [aU_i, g5]; exact q7
      · have hB : ¬ isB (sts rv (I 15)) nd (cV (I 28)) j = true := by rw [hB]; decide
        have c1 : blR (sts rv (I 15)) nd (cV (I 28)) (j + 1) = blR (sts rv (I 15)) nd (cV (I 28)) j := if_neg hB
        have c2 : biR (sts rv (I 15)) nd (cV (I 28)) (j + 1) = 0 := if_neg hB
        have c3 : giR (sts rv (I 15)) nd (cV (I 28)) (j + 1) = giR (sts rv (I 15)) nd (cV (I 28)) j + 1 := if_neg hB
        have c4 : (if nI (mgR (sts rv (I 15)) nd (cV (I 28)) j) < nI (giR (sts rv (I 15)) nd (cV (I 28)) j + 1) then nI (giR (sts rv (I 15)) nd (cV (I 28)) j + 1) else nI (mgR (sts rv (I 15)) nd (cV (I 28)) j)) = nI (mgR (sts rv (I 15)) nd (cV (I 28)) (j + 1)) := by
          show _ = nI (if mgR (sts rv (I 15)) nd (cV (I 28)) j < giR (sts rv (I 15)) nd (cV (I 28)) (j + 1) then giR (sts rv (I 15)) nd (cV (I 28)) (j + 1) else mgR (sts rv (I 15)) nd (cV (I 28)) j)
          rw [c3]
          by_cases h : mgR (sts rv (I 15)) nd (cV (I 28)) j < giR (sts rv (I 15)) nd (cV (I 28)) j + 1
          · rw [if_pos h, if_pos (nI_lt h (by omega))]
          · rw [if_neg h, if_neg (nI_nlt (by omega) (by omega))]
        have c5 : (if nI (mbR (sts rv (I 15)) nd (cV (I 28)) j) < 0 then 0 else nI (mbR (sts rv (I 15)) nd (cV (I 28)) j)) = nI (mbR (sts rv (I 15)) nd (cV (I 28)) (j + 1)) := by
          show _ = nI (if mbR (sts rv (I 15)) nd (cV (I 28)) j < biR (sts rv (I 15)) nd (cV (I 28)) (j + 1) then biR (sts rv (I 15)) nd (cV (I 28)) (j + 1) else mbR (sts rv (I 15)) nd (cV (I 28)) j)
          rw [c2, if_neg (Nat.not_lt_zero _), if_neg (nI_pos (by omega))]
        rw [if_neg (by decide), e78 _ (by simp (disch := decide) only [aU_r]) (by simp (disch := decide) only [aU_r]; exact g1 14 (by decide))]
        simp only [aBi]
        rw [b64_148_2]
        simp (disch := decide) only [aU_s, aU_i, g5, q4, q5, q6, nI_1, c4, c5, Int32.add_zero]
        rw [ifT _ (fun z => aE d 64 32 _ _ (g, aU _ 41 1 z, J, aP1 sl rd rl)), tI_n, nI_add, ← j1, ← c1, ← c3, show (0 : Int32) = nI (biR (sts rv (I 15)) nd (cV (I 28)) (j + 1)) from by rw [c2]; rfl]
        refine ih (j + 1) _ _ (by omega) ?_ ?_ ?_ ?_ ?_ ?_ ?_ ?_
        · simp only [aU_R]
          exact Fr_s (Fr_s (Fr_s (Fr_s g1 _ (by decide)) _ (by decide)) _ (by decide)) _ (by decide)
        · simp (disch := decide) only [aU_r]; exact g3
        · simp (disch := decide) only [aU_r]; exact g4
        · simp (disch := decide) only [aU_s, aU_i]; rfl
        · rw [aU_s]
        · simp (disch := decide) only [aU_s, aU_i]
        · simp (disch := decide) only [aU_s, aU_i]
        · simp (disch := decide) only [aU_i, g5]; exact q7
  obtain ⟨I', h1, h2⟩ := l N 0 (aU (aU (aU (aU I 41 0 (-1)) 41 1 0) 41 2 0) 41 3 0) aNo (by omega) (by
    simp only [aU_R]
    exact Fr_s (Fr_s (Fr_s (Fr_s (Fr_r _ _) _ (by decide)) _ (by decide)) _ (by decide)) _ (by decide)) (by simp (disch := decide) only [aU_r]; rfl) (by simp (disch := decide) only [aU_r]) (by simp (disch := decide) only [aU_s, aU_i]; rfl) (by simp (disch := decide) only [aU_s, aU_i]; rfl) (by simp (disch := decide) only [aU_s, aU_i]; rfl) (by simp (disch := decide) only [aU_s, aU_i]; rfl) (by simp (disch := decide) only [aU_i])
  refine ⟨I', h1, h2.1, h2.2.1, h2.2.2.1, h2.2.2.2.1, h2.2.2.2.2.1, h2.2.2.2.2.2.1, h2.2.2.2.2.2.2.1, ?_⟩
  show aE d 64 0 [.ref 41, .ref 14, .ref 27, .ref 33, .int (nI N), aNo, aNo, aNo, aNo, aNo] [] _ = _
  rw [b64_0_2]
  exact h2.2.2.2.2.2.2.2
theorem f64o {nd m N : Nat} {rv : (Nat → Int32) → Int32} (hR : cRule (I 38) m rv) (hs : I 37 1 = nI m) (h0 : I 14 0 = nI nd) (hn : nd ≤ 8) (hd : 0 < nd) (hc : clubs (fun i => I 28 (8 + i)) nd) (hN : N ≤ 99) : ∃ I', Fr [28, 39, 40, 41] I I' ∧ cV (I' 28) = vsR (sts rv (I 15)) nd (cV (I 28)) N ∧ I' 28 7 = I 28 7 ∧ I' 41 0 = laR (sts rv (I 15)) nd (cV (I 28)) N ∧ I' 41 1 = nI (joR (sts rv (I 15)) nd (cV (I 28)) (I 14 11) N) ∧ I' 41 2 = nI (mbR (sts rv (I 15)) nd (cV (I 28)) N) ∧ I' 41 3 = nI (mgR (sts rv (I 15)) nd (cV (I 28)) N) ∧ I' 41 4 = I 41 4 ∧ aF d 64 [.ref 41, .ref 14, .ref 27, .ref 37, .int (nI N)] (g, I, J, aP1 sl rd rl) = some (some (some (.int (nI (blR (sts rv (I 15)) nd (cV (I 28)) N)))), (g, I', J, aP1 sl rd rl)) := by
  have hcV : clubs (fun i => cV (I 28) (6 + i)) nd := fun i hi => by
    obtain ⟨k, hk, e⟩ := hc i hi
    exact ⟨k, hk, (cV_l _ (by omega)).trans e⟩
  have V := vsR_1 (st := sts rv (I 15)) hcV hn hd
  have B1 := blR_le (sts rv (I 15)) nd (cV (I 28))
  have B2 := biR_le (sts rv (I 15)) nd (cV (I 28))
  have B3 := giR_le (sts rv (I 15)) nd (cV (I 28))
  have B4 := mbR_le (sts rv (I 15)) nd (cV (I 28))
  have B5 := mgR_le (sts rv (I 15)) nd (cV (I 28))
  have l : ∀ (M j : Nat) (I1 : Nat → Nat → Int32) (w9 : Value), j + M = N → Fr [28, 39, 40, 41] I I1 → cV (I1 28) = vsR (sts rv (I 15)) nd (cV (I 28)) j → I1 28 7 = I 28 7 → I1 41 0 = laR (sts rv (I 15)) nd (cV (I 28)) j → I1 41 1 = nI (joR (sts rv (I 15)) nd (cV (I 28)) (I 14 11) j) → I1 41 2 = nI (mbR (sts rv (I 15)) nd (cV (I 28)) j) → I1 41 3 = nI (mgR (sts rv (I 15)) nd (cV (I 28)) j) → I1 41 4 = I 41 4 → ∃ I', Fr [28, 39, 40, 41] I I' ∧ cV (I' 28) = vsR (sts rv (I 15)) nd (cV (I 28)) N ∧ I' 28 7 = I 28 7 ∧ I' 41 0 = laR (sts rv (I 15)) nd (cV (I 28)) N ∧ I' 41 1 = nI (joR (sts rv (I 15)) nd (cV (I 28)) (I 14 11) N) ∧ I' 41 2 = nI (mbR (sts rv (I 15)) nd (cV (I 28)) N) ∧ I' 41 3 = nI (mgR (sts rv (I 15)) nd (cV (I 28)) N) ∧ I' 41 4 = I 41 4 ∧ aE d 64 32 [.ref 41, .ref 14, .ref 27, .ref 37, .int (nI N), .int (nI (blR (sts rv (I 15)) nd (cV (I 28)) j)), .int (nI (biR (sts rv (I 15)) nd (cV (I 28)) j)), .int (nI (giR (sts rv (I 15)) nd (cV (I 28)) j)), .int (nI j), w9] [] (g, I1, J, aP1 sl rd rl) = some (some (some (.int (nI (blR (sts rv (I 15)) nd (cV (I 28)) N)))), (g, I', J, aP1 sl rd rl)) := by
    intro M
    induction M with
    | zero =>
      intro j I1 w9 hj q q1 q2 q3 q4 q5 q6 q7
      obtain rfl : j = N := by omega
      refine ⟨I1, q, q1, q2, q3, q4, q5, q6, q7, ?_⟩
      rw [b64_32_3]
      simp (disch := omega) only [Int32.le_refl, aBi, aBv, aBl, nI_1, nIle_t, nIle_f, nIlt_t, nIlt_f, nIeq_t, nIeq_f, nIneg, nI_clamp, nat_le_f, nat_le_t, nat_lt_f, nat_lt_t, or_self, or_false, false_or, if_true, if_false, ↓reduceIte, Int32.or_zero, Int32.add_zero, nIm2, nIm3, nIm4, nIp2, nIp4, nIp6, nIp8, nIp14, nIp16, nIp22, nIp24, nIp30, nIq2, nIq3, nIq4, hasI_0, aU_s, aU_i, aU_r, aU_u]
    | succ M ih =>
      intro j I1 w9 hj q q1 q2 q3 q4 q5 q6 q7
      obtain ⟨hl, k, hk, e1, e2⟩ := V j
      have hW : wnR (sts rv (I 15)) nd (cV (I 28)) j < nd := wn_lt _ hd
      have e15 : I1 15 = I 15 := q 15 (by decide)
      have hcl : ∀ i, i < 8 → I1 28 (8 + i) = cV (I 28) (6 + i) := fun i hi => by
        rw [← cV_l _ hi, q1]; exact hl i hi
      have hk1 : I1 28 (8 + wnR (sts rv (I 15)) nd (cV (I 28)) j) = nI k := by
        rw [← cV_l _ (by omega), q1]; exact e1
      have f := f65o (d := d) (g := g) (I := I1) (J := J) (sl := sl) (rd := rd) (rl := rl) (m := m) (nd := nd) (k := k) (rv := rv) (by rw [q 38 (by decide)]; exact hR) (by rw [q 37 (by decide)]; exact hs) (by rw [q 14 (by decide)]; exact h0) hn hd (fun i hi => by
        obtain ⟨k, hk, e⟩ := hcV i hi
        exact ⟨k, hk, (hcl i (by omega)).trans e⟩) hk (by rw [e15, q1]; exact hk1)
      rw [e15, q1] at f
      obtain ⟨x, y, f⟩ := f
      have f : aF d 65 [.ref 27, .ref 14, .ref 37] (g, I1, J, aP1 sl rd rl) = some (some (some (.int (nI (wnR (sts rv (I 15)) nd (cV (I 28)) j)))), (g, aR (aR (aR I1 28 (cRace (I1 28) (wnR (sts rv (I 15)) nd (cV (I 28)) j) k)) 39 x) 40 y, J, aP1 sl rd rl)) := f
      have hB : isB (sts rv (I 15)) nd (cV (I 28)) j = decide (nI k = 0) := by unfold isB; rw [e1]
      generalize hI2 : aR (aR (aR I1 28 (cRace (I1 28) (wnR (sts rv (I 15)) nd (cV (I 28)) j) k)) 39 x) 40 y = I2 at f
      have g1 : Fr [28, 39, 40, 41] I I2 := by
        rw [← hI2]; exact Fr_s (Fr_s (Fr_s q _ (by decide)) _ (by decide)) _ (by decide)
      have g2 : I2 28 = cRace (I1 28) (wnR (sts rv (I 15)) nd (cV (I 28)) j) k := by
        rw [← hI2, aR_r _ _ (by decide), aR_r _ _ (by decide), aR_s]
      have g3 : cV (I2 28) = vsR (sts rv (I 15)) nd (cV (I 28)) (j + 1) := by
        rw [g2, cRace_v _ (by omega) hk, q1, e2]
      have g4 : I2 28 7 = I 28 7 := by
        rw [g2, ← q2]
        unfold cRace adA adM
        simp only
        rw [upd_n _ _ (by omega), upd_n _ _ (by omega), upd_n _ _ (by omega), upd_n _ _ (by omega), upd_n _ _ (by omega), upd_n _ _ (by omega)]
      have g5 : I2 41 = I1 41 := by
        rw [← hI2, aR_r _ _ (by decide), aR_r _ _ (by decide), aR_r _ _ (by decide)]
      have g6 : I2 28 (8 + wnR (sts rv (I 15)) nd (cV (I 28)) j) = nI k := by
        rw [← cV_l _ (by omega), g3, e2, rRace_l _ (by omega) hk (by omega)]; exact e1
      have e78 : ∀ I5 : Nat → Nat → Int32, I5 28 = I2 28 → I5 14 = I 14 → aF d 78 [.ref 27, .ref 14] (g, I5, J, aP1 sl rd rl) = some (some (some (.int (tI (jn (vsR (sts rv (I 15)) nd (cV (I 28)) (j + 1)) (I 14 11))))), (g, I5, J, aP1 sl rd rl)) := by
        intro I5 h1 h2
        rw [f78_27, jn_c, ← jn_cV, h1, h2, g3]
      have j1 : joR (sts rv (I 15)) nd (cV (I 28)) (I 14 11) (j + 1) = joR (sts rv (I 15)) nd (cV (I 28)) (I 14 11) j + (jn (vsR (sts rv (I 15)) nd (cV (I 28)) (j + 1)) (I 14 11)).toNat := rfl
      have b1 := B1 j
      have b2 := B2 j
      have b3 := B3 j
      have b4 := B4 j
      have b5 := B5 j
      rw [b64_32_3, if_neg (nI_ge (by omega) (by omega)), f]
      simp only [aBi]
      rw [b64_46_3, f68_27 (by omega)]
      simp only [aBi]
      rw [aU_r _ _ (by decide), g6, b64_57_3]
      rcases (by omega : k = 0 ∨ k = 1) with rfl | rfl
      · have hB : isB (sts rv (I 15)) nd (cV (I 28)) j = true := by rw [hB]; rfl
        have c1 : blR (sts rv (I 15)) nd (cV (I 28)) (j + 1) = blR (sts rv (I 15)) nd (cV (I 28)) j + 1 := if_pos hB
        have c2 : biR (sts rv (I 15)) nd (cV (I 28)) (j + 1) = biR (sts rv (I 15)) nd (cV (I 28)) j + 1 := if_pos hB
        have c3 : giR (sts rv (I 15)) nd (cV (I 28)) (j + 1) = 0 := if_pos hB
        have c4 : (if nI (mbR (sts rv (I 15)) nd (cV (I 28)) j) < nI (biR (sts rv (I 15)) nd (cV (I 28)) j + 1) then nI (biR (sts rv (I 15)) nd (cV (I 28)) j + 1) else nI (mbR (sts rv (I 15)) nd (cV (I 28)) j)) = nI (mbR (sts rv (I 15)) nd (cV (I 28)) (j + 1)) := by
          show _ = nI (if mbR (sts rv (I 15)) nd (cV (I 28)) j < biR (sts rv (I 15)) nd (cV (I 28)) (j + 1) then biR (sts rv (I 15)) nd (cV (I 28)) (j + 1) else mbR (sts rv (I 15)) nd (cV (I 28)) j)
          rw [c2]
          by_cases h : mbR (sts rv (I 15)) nd (cV (I 28)) j < biR (sts rv (I 15)) nd (cV (I 28)) j + 1
          · rw [if_pos h, if_pos (nI_lt h (by omega))]
          · rw [if_neg h, if_neg (nI_nlt (by omega) (by omega))]
        have c5 : (if nI (mgR (sts rv (I 15)) nd (cV (I 28)) j) < 0 then 0 else nI (mgR (sts rv (I 15)) nd (cV (I 28)) j)) = nI (mgR (sts rv (I 15)) nd (cV (I 28)) (j + 1)) := by
          show _ = nI (if mgR (sts rv (I 15)) nd (cV (I 28)) j < giR (sts rv (I 15)) nd (cV (I 28)) (j + 1) then giR (sts rv (I 15)) nd (cV (I 28)) (j + 1) else mgR (sts rv (I 15)) nd (cV (I 28)) j)
          rw [c3, if_neg (Nat.not_lt_zero _), if_neg (nI_pos (by omega))]
        rw [if_pos rfl, e78 _ (by simp (disch := decide) only [aU_r]) (by simp (disch := decide) only [aU_r]; exact g1 14 (by decide))]
        simp only [aBi]
        rw [b64_148_3]
        simp (disch := decide) only [aU_s, aU_i, g5, q4, q5, q6, nI_1, c4, c5]
        rw [ifT _ (fun z => aE d 64 32 _ _ (g, aU _ 41 1 z, J, aP1 sl rd rl)), tI_n, nI_add, ← j1, ← c1, ← c2, show (0 : Int32) = nI (giR (sts rv (I 15)) nd (cV (I 28)) (j + 1)) from by rw [c3]; rfl]
        refine ih (j + 1) _ _ (by omega) ?_ ?_ ?_ ?_ ?_ ?_ ?_ ?_
        · simp only [aU_R]
          exact Fr_s (Fr_s (Fr_s (Fr_s g1 _ (by decide)) _ (by decide)) _ (by decide)) _ (by decide)
        · simp (disch := decide) only [aU_r]; exact g3
        · simp (disch := decide) only [aU_r]; exact g4
        · simp (disch := decide) only [aU_s, aU_i]; rfl
        · rw [aU_s]
        · simp (disch := decide) only [aU_s, aU_i]
        · simp (disch := decide) only [aU_s, aU_i]
        · simp (disch := decide) only [aU_i, g5]; exact q7
      · have hB : ¬ isB (sts rv (I 15)) nd (cV (I 28)) j = true := by rw [hB]; decide
        have c1 : blR (sts rv (I 15)) nd (cV (I 28)) (j + 1) = blR (sts rv (I 15)) nd (cV (I 28)) j := if_neg hB
        have c2 : biR (sts rv (I 15)) nd (cV (I 28)) (j + 1) = 0 := if_neg hB
        have c3 : giR (sts rv (I 15)) nd (cV (I 28)) (j + 1) = giR (sts rv (I 15)) nd (cV (I 28)) j + 1 := if_neg hB
        have c4 : (if nI (mgR (sts rv (I 15)) nd (cV (I 28)) j) < nI (giR (sts rv (I 15)) nd (cV (I 28)) j + 1) then nI (giR (sts rv (I 15)) nd (cV (I 28)) j + 1) else nI (mgR (sts rv (I 15)) nd (cV (I 28)) j)) = nI (mgR (sts rv (I 15)) nd (cV (I 28)) (j + 1)) := by
          show _ = nI (if mgR (sts rv (I 15)) nd (cV (I 28)) j < giR (sts rv (I 15)) nd (cV (I 28)) (j + 1) then giR (sts rv (I 15)) nd (cV (I 28)) (j + 1) else mgR (sts rv (I 15)) nd (cV (I 28)) j)
          rw [c3]
          by_cases h : mgR (sts rv (I 15)) nd (cV (I 28)) j < giR (sts rv (I 15)) nd (cV (I 28)) j + 1
          · rw [if_pos h, if_pos (nI_lt h (by omega))]
          · rw [if_neg h, if_neg (nI_nlt (by omega) (by omega))]
        have c5 : (if nI (mbR (sts rv (I 15)) nd (cV (I 28)) j) < 0 then 0 else nI (mbR (sts rv (I 15)) nd (cV (I 28)) j)) = nI (mbR (sts rv (I 15)) nd (cV (I 28)) (j + 1)) := by
          show _ = nI (if mbR (sts rv (I 15)) nd (cV (I 28)) j < biR (sts rv (I 15)) nd (cV (I 28)) (j + 1) then biR (sts rv (I 15)) nd (cV (I 28)) (j + 1) else mbR (sts rv (I 15)) nd (cV (I 28)) j)
          rw [c2, if_neg (Nat.not_lt_zero _), if_neg (nI_pos (by omega))]
        rw [if_neg (by decide), e78 _ (by simp (disch := decide) only [aU_r]) (by simp (disch := decide) only [aU_r]; exact g1 14 (by decide))]
        simp only [aBi]
        rw [b64_148_3]
        simp (disch := decide) only [aU_s, aU_i, g5, q4, q5, q6, nI_1, c4, c5, Int32.add_zero]
        rw [ifT _ (fun z => aE d 64 32 _ _ (g, aU _ 41 1 z, J, aP1 sl rd rl)), tI_n, nI_add, ← j1, ← c1, ← c3, show (0 : Int32) = nI (biR (sts rv (I 15)) nd (cV (I 28)) (j + 1)) from by rw [c2]; rfl]
        refine ih (j + 1) _ _ (by omega) ?_ ?_ ?_ ?_ ?_ ?_ ?_ ?_
        · simp only [aU_R]
          exact Fr_s (Fr_s (Fr_s (Fr_s g1 _ (by decide)) _ (by decide)) _ (by decide)) _ (by decide)
        · simp (disch := decide) only [aU_r]; exact g3
        · simp (disch := decide) only [aU_r]; exact g4
        · simp (disch := decide) only [aU_s, aU_i]; rfl
        · rw [aU_s]
        · simp (disch := decide) only [aU_s, aU_i]
        · simp (disch := decide) only [aU_s, aU_i]
        · simp (disch := decide) only [aU_i, g5]; exact q7
  obtain ⟨I', h1, h2⟩ := l N 0 (aU (aU (aU (aU I 41 0 (-1)) 41 1 0) 41 2 0) 41 3 0) aNo (by omega) (by
    simp only [aU_R]
    exact Fr_s (Fr_s (Fr_s (Fr_s (Fr_r _ _) _ (by decide)) _ (by decide)) _ (by decide)) _ (by decide)) (by simp (disch := decide) only [aU_r]; rfl) (by simp (disch := decide) only [aU_r]) (by simp (disch := decide) only [aU_s, aU_i]; rfl) (by simp (disch := decide) only [aU_s, aU_i]; rfl) (by simp (disch := decide) only [aU_s, aU_i]; rfl) (by simp (disch := decide) only [aU_s, aU_i]; rfl) (by simp (disch := decide) only [aU_i])
  refine ⟨I', h1, h2.1, h2.2.1, h2.2.2.1, h2.2.2.2.1, h2.2.2.2.2.1, h2.2.2.2.2.2.1, h2.2.2.2.2.2.2.1, ?_⟩
  show aE d 64 0 [.ref 41, .ref 14, .ref 27, .ref 37, .int (nI N), aNo, aNo, aNo, aNo, aNo] [] _ = _
  rw [b64_0_3]
  exact h2.2.2.2.2.2.2.2
end T07
