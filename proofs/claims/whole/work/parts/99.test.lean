section T00
/-! the class's rule: a stack works it out -/
variable {d : Nat} {g : Nat × Nat × Nat} {I : Nat → Nat → Int32} {J : Nat → Nat → Int64} {sl rd rl : Nat}
def jt (s a b : Int32) : Int32 := if s = 60 then (if b ≤ a then 0 else 1) else if s = 62 then (if a ≤ b then 0 else 1) else if s = 61 then (if a = b then 1 else 0) else if s = 43 then a + b else if s = 45 then a - b else if s = 42 then a * b else if b = 0 then 0 else a / b
theorem f74 (s a b : Int32) : aF d 74 [.int s, .int a, .int b] (g, I, J, aP1 sl rd rl) = some (some (some (.int (jt s a b))), (g, I, J, aP1 sl rd rl)) := by
  show aE d 74 0 [.int s, .int a, .int b] [] _ = _
  rw [b74_0]
  unfold jt
  by_cases h1 : s = 60
  · subst h1; rw [b74_1_c60, if_pos rfl]; split <;> rfl
  by_cases h2 : s = 62
  · subst h2; rw [b74_1_c62, if_neg h1, if_pos rfl]; split <;> rfl
  by_cases h3 : s = 61
  · subst h3; rw [b74_1_c61, if_neg h1, if_neg h2, if_pos rfl]; split <;> rfl
  by_cases h4 : s = 43
  · subst h4; rw [b74_1_c43, if_neg h1, if_neg h2, if_neg h3, if_pos rfl]
  by_cases h5 : s = 45
  · subst h5; rw [b74_1_c45, if_neg h1, if_neg h2, if_neg h3, if_neg h4, if_pos rfl]
  by_cases h6 : s = 42
  · subst h6; rw [b74_1_c42, if_neg h1, if_neg h2, if_neg h3, if_neg h4, if_neg h5, if_pos rfl]
  rw [s74_1 _ _ _ _ ⟨h6, h4, h5, h1, h3, h2⟩, b74_105, if_neg h1, if_neg h2, if_neg h3, if_neg h4, if_neg h5, if_neg h6]
  split
  · rfl
  · rfl
def sm1 (t : Nat → Int32) (one : Int32) (y : (Nat → Int32) × Nat) : (Nat → Int32) × Nat :=
  if 2000 ≤ one ∨ 40 ≤ y.2 then
    (if one = 2256 ∧ 0 < y.2 then (upd y.1 (y.2 - 1) (-(y.1 (y.2 - 1))), y.2)
     else if one < 2000 ∨ y.2 ≤ 1 then y
     else (upd y.1 (y.2 - 2) (jt (one - 2000) (y.1 (y.2 - 2)) (y.1 (y.2 - 1))), y.2 - 1))
  else (upd y.1 y.2 (if one - 1000 < 0 then one else if 8 ≤ one - 1000 then one else t (one - 1000).toNatClampNeg), y.2 + 1)
def le40 (n : Nat) : Prop := n ≤ 40
def smR (t code : Nat → Int32) (n : Nat) (y : Nat → Int32) : (Nat → Int32) × Nat := fo (fun i y => sm1 t (code i) y) n 0 (y, 0)
theorem ix8 {x : Int32} (h : ¬ x < 0) (h2 : ¬ 8 ≤ x) : (x < 0 ∨ 8 ≤ x.toNatClampNeg) = False := by
  rcases pk_ix x (by decide : 8 < 2 ^ 31) with h3 | h3 | ⟨j, hj, rfl⟩
  · exact absurd h3 h
  · exact absurd h3 h2
  · simp (disch := omega) only [nIneg, nI_clamp, nat_le_f, or_self]
theorem l67_33 {n : Nat} (hs : I 33 1 = nI n) (hn : n ≤ 40) (k : Int32) (w1 w2 w3 w7 w8 : Value) (y0 : Nat → Int32) : ∃ y, (smR (I 35) (I 34) n y0).1 0 = y 0 ∧ aE d 67 121 [.ref 33, w1, w2, w3, .int k, .int 0, .int 0, w7, w8] [] (g, aR I 36 y0, J, aP1 sl rd rl) = some (some (some (.int (y 0))), (g, aR I 36 y, J, aP1 sl rd rl)) := by
  obtain ⟨w, q, e⟩ := lp (X := fun j (a : (Nat → Int32) × Nat) (w : Value × Value) => aE d 67 121 [.ref 33, w1, w2, w3, .int k, .int (nI a.2), .int (nI j), w.1, w.2] [] (g, aR I 36 a.1, J, aP1 sl rd rl)) (f := fun i a => sm1 (I 35) (I 34 i) a) (fun _ a _ => le40 a.2) n 0 (y0, 0) (w7, w8) (Nat.zero_le _) (by
    intro j a w _ hj ha
    obtain ⟨y, p⟩ := a
    obtain ⟨v7, v8⟩ := w
    have ha : p ≤ 40 := ha
    show ∃ s' : Value × Value, _ ∧ aE d 67 121 [.ref 33, w1, w2, w3, .int k, .int (nI p), .int (nI j), v7, v8] [] (g, aR I 36 y, J, aP1 sl rd rl) = _
    rw [b67_121]
    simp (disch := omega) only [hs, aR_r, kgf40, kgt40, klt40, klf40, kmt40, kmf40, kat40, kaf40, ket40, kef40, aBi, aBv, aBl, nI_1, nIle_t, nIle_f, nIlt_t, nIlt_f, nIeq_t, nIeq_f, nIneg, nI_clamp, nat_le_f, nat_le_t, nat_lt_f, nat_lt_t, or_self, or_false, false_or, if_true, if_false, ↓reduceIte, Int32.or_zero, Int32.add_zero, nIm2, nIm3, nIm4, nIp2, nIp4, nIp6, nIp8, nIp14, nIp16, nIp22, nIp24, nIp30, nIq2, nIq3, nIq4, hasI_0, aU_s, aU_i, aU_r, aU_u]
    unfold sm1
    by_cases h1 : 2000 ≤ I 34 j
    · simp only [h1, true_or, if_true]
      rw [b67_215]
      by_cases h2 : I 34 j = 2256
      · by_cases h3 : 0 < p
        · obtain ⟨q, rfl⟩ : ∃ q, p = q + 1 := ⟨p - 1, by omega⟩
          simp (disch := omega) only [h2, nI_pred, aR_s, aU_R, aR_u, true_and, Nat.zero_lt_succ, Nat.add_sub_cancel, show (nI (q + 1) ≤ 0) = False from eq_false (nI_ge (a := 0) (by omega) (by omega)), b67_301, aBi, aBv, aBl, nI_1, nIle_t, nIle_f, nIlt_t, nIlt_f, nIeq_t, nIeq_f, nIneg, nI_clamp, nat_le_f, nat_le_t, nat_lt_f, nat_lt_t, or_self, or_false, false_or, if_true, if_false, ↓reduceIte, Int32.or_zero, Int32.add_zero, nIm2, nIm3, nIm4, nIp2, nIp4, nIp6, nIp8, nIp14, nIp16, nIp22, nIp24, nIp30, nIq2, nIq3, nIq4, hasI_0, aU_s, aU_i, aU_r, aU_u]
          exact ⟨(_, _), ha, rfl⟩
        · obtain rfl : p = 0 := by omega
          simp (disch := omega) only [h2, Nat.lt_irrefl, and_false, show (nI 0 ≤ 0) = True from by decide, b67_250, show ((2256 : Int32) < 2000) = False from by decide, show (nI 0 ≤ 1) = True from by decide, b67_301, Nat.zero_le, aBi, aBv, aBl, nI_1, nIle_t, nIle_f, nIlt_t, nIlt_f, nIeq_t, nIeq_f, nIneg, nI_clamp, nat_le_f, nat_le_t, nat_lt_f, nat_lt_t, or_self, or_false, false_or, if_true, if_false, ↓reduceIte, Int32.or_zero, Int32.add_zero, nIm2, nIm3, nIm4, nIp2, nIp4, nIp6, nIp8, nIp14, nIp16, nIp22, nIp24, nIp30, nIq2, nIq3, nIq4, hasI_0, aU_s, aU_i, aU_r, aU_u]
          exact ⟨(_, _), ha, rfl⟩
      · simp (disch := omega) only [h2, false_and, b67_250, show (I 34 j < 2000) = False from eq_false (by simpa using h1), false_or, aBi, aBv, aBl, nI_1, nIle_t, nIle_f, nIlt_t, nIlt_f, nIeq_t, nIeq_f, nIneg, nI_clamp, nat_le_f, nat_le_t, nat_lt_f, nat_lt_t, or_self, or_false, false_or, if_true, if_false, ↓reduceIte, Int32.or_zero, Int32.add_zero, nIm2, nIm3, nIm4, nIp2, nIp4, nIp6, nIp8, nIp14, nIp16, nIp22, nIp24, nIp30, nIq2, nIq3, nIq4, hasI_0, aU_s, aU_i, aU_r, aU_u]
        by_cases h3 : p ≤ 1
        · simp (disch := omega) only [kgf1, kgt1, klt1, klf1, kmt1, kmf1, kat1, kaf1, ket1, kef1, b67_301, aBi, aBv, aBl, nI_1, nIle_t, nIle_f, nIlt_t, nIlt_f, nIeq_t, nIeq_f, nIneg, nI_clamp, nat_le_f, nat_le_t, nat_lt_f, nat_lt_t, or_self, or_false, false_or, if_true, if_false, ↓reduceIte, Int32.or_zero, Int32.add_zero, nIm2, nIm3, nIm4, nIp2, nIp4, nIp6, nIp8, nIp14, nIp16, nIp22, nIp24, nIp30, nIq2, nIq3, nIq4, hasI_0, aU_s, aU_i, aU_r, aU_u]
          exact ⟨(_, _), ha, rfl⟩
        · obtain ⟨q, rfl⟩ : ∃ q, p = q + 2 := ⟨p - 2, by omega⟩
          simp (disch := omega) only [kgf1, kgt1, klt1, klf1, kmt1, kmf1, kat1, kaf1, ket1, kef1, pk_m1, b67_281, nI_pred, aR_s, f74, b67_300, aU_R, aR_u, b67_301, aBi, aBv, aBl, nI_1, nIle_t, nIle_f, nIlt_t, nIlt_f, nIeq_t, nIeq_f, nIneg, nI_clamp, nat_le_f, nat_le_t, nat_lt_f, nat_lt_t, or_self, or_false, false_or, if_true, if_false, ↓reduceIte, Int32.or_zero, Int32.add_zero, nIm2, nIm3, nIm4, nIp2, nIp4, nIp6, nIp8, nIp14, nIp16, nIp22, nIp24, nIp30, nIq2, nIq3, nIq4, hasI_0, aU_s, aU_i, aU_r, aU_u]
          exact ⟨(_, _), show q + 2 - 1 ≤ 40 by omega, rfl⟩
    · simp only [h1, false_or, if_false]
      by_cases h2 : 40 ≤ p
      · obtain rfl : p = 40 := by omega
        simp (disch := omega) only [kgf40, kgt40, klt40, klf40, kmt40, kmf40, kat40, kaf40, ket40, kef40, b67_215, Nat.le_refl, aBi, aBv, aBl, nI_1, nIle_t, nIle_f, nIlt_t, nIlt_f, nIeq_t, nIeq_f, nIneg, nI_clamp, nat_le_f, nat_le_t, nat_lt_f, nat_lt_t, or_self, or_false, false_or, if_true, if_false, ↓reduceIte, Int32.or_zero, Int32.add_zero, nIm2, nIm3, nIm4, nIp2, nIp4, nIp6, nIp8, nIp14, nIp16, nIp22, nIp24, nIp30, nIq2, nIq3, nIq4, hasI_0, aU_s, aU_i, aU_r, aU_u]
        have h3 : I 34 j < 2000 := by simpa using h1
        have h4 : ¬ I 34 j = 2256 := fun q => by rw [q] at h3; exact absurd h3 (by decide)
        simp (disch := omega) only [h4, b67_250, h3, b67_301, false_and, true_or, aBi, aBv, aBl, nI_1, nIle_t, nIle_f, nIlt_t, nIlt_f, nIeq_t, nIeq_f, nIneg, nI_clamp, nat_le_f, nat_le_t, nat_lt_f, nat_lt_t, or_self, or_false, false_or, if_true, if_false, ↓reduceIte, Int32.or_zero, Int32.add_zero, nIm2, nIm3, nIm4, nIp2, nIp4, nIp6, nIp8, nIp14, nIp16, nIp22, nIp24, nIp30, nIq2, nIq3, nIq4, hasI_0, aU_s, aU_i, aU_r, aU_u]
        exact ⟨(_, _), ha, rfl⟩
      · simp (disch := omega) only [kgf40, kgt40, klt40, klf40, kmt40, kmf40, kat40, kaf40, ket40, kef40, aBi, aBv, aBl, nI_1, nIle_t, nIle_f, nIlt_t, nIlt_f, nIeq_t, nIeq_f, nIneg, nI_clamp, nat_le_f, nat_le_t, nat_lt_f, nat_lt_t, or_self, or_false, false_or, if_true, if_false, ↓reduceIte, Int32.or_zero, Int32.add_zero, nIm2, nIm3, nIm4, nIp2, nIp4, nIp6, nIp8, nIp14, nIp16, nIp22, nIp24, nIp30, nIq2, nIq3, nIq4, hasI_0, aU_s, aU_i, aU_r, aU_u]
        by_cases h3 : I 34 j - 1000 < 0
        · simp (disch := omega) only [h3, b67_206, b67_208, aU_R, aR_s, aR_u, b67_301, aBi, aBv, aBl, nI_1, nIle_t, nIle_f, nIlt_t, nIlt_f, nIeq_t, nIeq_f, nIneg, nI_clamp, nat_le_f, nat_le_t, nat_lt_f, nat_lt_t, or_self, or_false, false_or, if_true, if_false, ↓reduceIte, Int32.or_zero, Int32.add_zero, nIm2, nIm3, nIm4, nIp2, nIp4, nIp6, nIp8, nIp14, nIp16, nIp22, nIp24, nIp30, nIq2, nIq3, nIq4, hasI_0, aU_s, aU_i, aU_r, aU_u]
          exact ⟨(_, _), show p + 1 ≤ 40 by omega, rfl⟩
        · by_cases h4 : 8 ≤ I 34 j - 1000
          · simp (disch := omega) only [h3, h4, b67_206, b67_208, aU_R, aR_s, aR_u, b67_301, aBi, aBv, aBl, nI_1, nIle_t, nIle_f, nIlt_t, nIlt_f, nIeq_t, nIeq_f, nIneg, nI_clamp, nat_le_f, nat_le_t, nat_lt_f, nat_lt_t, or_self, or_false, false_or, if_true, if_false, ↓reduceIte, Int32.or_zero, Int32.add_zero, nIm2, nIm3, nIm4, nIp2, nIp4, nIp6, nIp8, nIp14, nIp16, nIp22, nIp24, nIp30, nIq2, nIq3, nIq4, hasI_0, aU_s, aU_i, aU_r, aU_u]
            exact ⟨(_, _), show p + 1 ≤ 40 by omega, rfl⟩
          · rw [if_neg h3, if_neg h4, if_neg (of_eq_false (ix8 h3 h4))]
            simp (disch := omega) only [h3, h4, b67_206, b67_208, aU_R, aR_s, aR_u, b67_301, aBi, aBv, aBl, nI_1, nIle_t, nIle_f, nIlt_t, nIlt_f, nIeq_t, nIeq_f, nIneg, nI_clamp, nat_le_f, nat_le_t, nat_lt_f, nat_lt_t, or_self, or_false, false_or, if_true, if_false, ↓reduceIte, Int32.or_zero, Int32.add_zero, nIm2, nIm3, nIm4, nIp2, nIp4, nIp6, nIp8, nIp14, nIp16, nIp22, nIp24, nIp30, nIq2, nIq3, nIq4, hasI_0, aU_s, aU_i, aU_r, aU_u]
            exact ⟨(_, _), show p + 1 ≤ 40 by omega, rfl⟩)
  refine ⟨(smR (I 35) (I 34) n y0).1, rfl, e.trans ?_⟩
  show aE d 67 121 [.ref 33, w1, w2, w3, .int k, .int (nI (smR (I 35) (I 34) n y0).2), .int (nI (0 + n)), w.1, w.2] [] (g, aR I 36 (smR (I 35) (I 34) n y0).1, J, aP1 sl rd rl) = _
  rw [b67_121]
  simp (disch := omega) only [hs, aR_r, aR_s, Nat.zero_add, b67_307, aBi, aBv, aBl, nI_1, nIle_t, nIle_f, nIlt_t, nIlt_f, nIeq_t, nIeq_f, nIneg, nI_clamp, nat_le_f, nat_le_t, nat_lt_f, nat_lt_t, or_self, or_false, false_or, if_true, if_false, ↓reduceIte, Int32.or_zero, Int32.add_zero, nIm2, nIm3, nIm4, nIp2, nIp4, nIp6, nIp8, nIp14, nIp16, nIp22, nIp24, nIp30, nIq2, nIq3, nIq4, hasI_0, aU_s, aU_i, aU_r, aU_u]
theorem l67_37 {n : Nat} (hs : I 37 1 = nI n) (hn : n ≤ 40) (k : Int32) (w1 w2 w3 w7 w8 : Value) (y0 : Nat → Int32) : ∃ y, (smR (I 39) (I 38) n y0).1 0 = y 0 ∧ aE d 67 121 [.ref 37, w1, w2, w3, .int k, .int 0, .int 0, w7, w8] [] (g, aR I 40 y0, J, aP1 sl rd rl) = some (some (some (.int (y 0))), (g, aR I 40 y, J, aP1 sl rd rl)) := by
  obtain ⟨w, q, e⟩ := lp (X := fun j (a : (Nat → Int32) × Nat) (w : Value × Value) => aE d 67 121 [.ref 37, w1, w2, w3, .int k, .int (nI a.2), .int (nI j), w.1, w.2] [] (g, aR I 40 a.1, J, aP1 sl rd rl)) (f := fun i a => sm1 (I 39) (I 38 i) a) (fun _ a _ => le40 a.2) n 0 (y0, 0) (w7, w8) (Nat.zero_le _) (by
    intro j a w _ hj ha
    obtain ⟨y, p⟩ := a
    obtain ⟨v7, v8⟩ := w
    have ha : p ≤ 40 := ha
    show ∃ s' : Value × Value, _ ∧ aE d 67 121 [.ref 37, w1, w2, w3, .int k, .int (nI p), .int (nI j), v7, v8] [] (g, aR I 40 y, J, aP1 sl rd rl) = _
    rw [b67_121_2]
    simp (disch := omega) only [hs, aR_r, kgf40, kgt40, klt40, klf40, kmt40, kmf40, kat40, kaf40, ket40, kef40, aBi, aBv, aBl, nI_1, nIle_t, nIle_f, nIlt_t, nIlt_f, nIeq_t, nIeq_f, nIneg, nI_clamp, nat_le_f, nat_le_t, nat_lt_f, nat_lt_t, or_self, or_false, false_or, if_true, if_false, ↓reduceIte, Int32.or_zero, Int32.add_zero, nIm2, nIm3, nIm4, nIp2, nIp4, nIp6, nIp8, nIp14, nIp16, nIp22, nIp24, nIp30, nIq2, nIq3, nIq4, hasI_0, aU_s, aU_i, aU_r, aU_u]
    unfold sm1
    by_cases h1 : 2000 ≤ I 38 j
    · simp only [h1, true_or, if_true]
      rw [b67_215_2]
      by_cases h2 : I 38 j = 2256
      · by_cases h3 : 0 < p
        · obtain ⟨q, rfl⟩ : ∃ q, p = q + 1 := ⟨p - 1, by omega⟩
          simp (disch := omega) only [h2, nI_pred, aR_s, aU_R, aR_u, true_and, Nat.zero_lt_succ, Nat.add_sub_cancel, show (nI (q + 1) ≤ 0) = False from eq_false (nI_ge (a := 0) (by omega) (by omega)), b67_301_2, aBi, aBv, aBl, nI_1, nIle_t, nIle_f, nIlt_t, nIlt_f, nIeq_t, nIeq_f, nIneg, nI_clamp, nat_le_f, nat_le_t, nat_lt_f, nat_lt_t, or_self, or_false, false_or, if_true, if_false, ↓reduceIte, Int32.or_zero, Int32.add_zero, nIm2, nIm3, nIm4, nIp2, nIp4, nIp6, nIp8, nIp14, nIp16, nIp22, nIp24, nIp30, nIq2, nIq3, nIq4, hasI_0, aU_s, aU_i, aU_r, aU_u]
          exact ⟨(_, _), ha, rfl⟩
        · obtain rfl : p = 0 := by omega
          simp (disch := omega) only [h2, Nat.lt_irrefl, and_false, show (nI 0 ≤ 0) = True from by decide, b67_250_2, show ((2256 : Int32) < 2000) = False from by decide, show (nI 0 ≤ 1) = True from by decide, b67_301_2, Nat.zero_le, aBi, aBv, aBl, nI_1, nIle_t, nIle_f, nIlt_t, nIlt_f, nIeq_t, nIeq_f, nIneg, nI_clamp, nat_le_f, nat_le_t, nat_lt_f, nat_lt_t, or_self, or_false, false_or, if_true, if_false, ↓reduceIte, Int32.or_zero, Int32.add_zero, nIm2, nIm3, nIm4, nIp2, nIp4, nIp6, nIp8, nIp14, nIp16, nIp22, nIp24, nIp30, nIq2, nIq3, nIq4, hasI_0, aU_s, aU_i, aU_r, aU_u]
          exact ⟨(_, _), ha, rfl⟩
      · simp (disch := omega) only [h2, false_and, b67_250_2, show (I 38 j < 2000) = False from eq_false (by simpa using h1), false_or, aBi, aBv, aBl, nI_1, nIle_t, nIle_f, nIlt_t, nIlt_f, nIeq_t, nIeq_f, nIneg, nI_clamp, nat_le_f, nat_le_t, nat_lt_f, nat_lt_t, or_self, or_false, false_or, if_true, if_false, ↓reduceIte, Int32.or_zero, Int32.add_zero, nIm2, nIm3, nIm4, nIp2, nIp4, nIp6, nIp8, nIp14, nIp16, nIp22, nIp24, nIp30, nIq2, nIq3, nIq4, hasI_0, aU_s, aU_i, aU_r, aU_u]
        by_cases h3 : p ≤ 1
        · simp (disch := omega) only [kgf1, kgt1, klt1, klf1, kmt1, kmf1, kat1, kaf1, ket1, kef1, b67_301_2, aBi, aBv, aBl, nI_1, nIle_t, nIle_f, nIlt_t, nIlt_f, nIeq_t, nIeq_f, nIneg, nI_clamp, nat_le_f, nat_le_t, nat_lt_f, nat_lt_t, or_self, or_false, false_or, if_true, if_false, ↓reduceIte, Int32.or_zero, Int32.add_zero, nIm2, nIm3, nIm4, nIp2, nIp4, nIp6, nIp8, nIp14, nIp16, nIp22, nIp24, nIp30, nIq2, nIq3, nIq4, hasI_0, aU_s, aU_i, aU_r, aU_u]
          exact ⟨(_, _), ha, rfl⟩
        · obtain ⟨q, rfl⟩ : ∃ q, p = q + 2 := ⟨p - 2, by omega⟩
          simp (disch := omega) only [kgf1, kgt1, klt1, klf1, kmt1, kmf1, kat1, kaf1, ket1, kef1, pk_m1, b67_281_2, nI_pred, aR_s, f74, b67_300_2, aU_R, aR_u, b67_301_2, aBi, aBv, aBl, nI_1, nIle_t, nIle_f, nIlt_t, nIlt_f, nIeq_t, nIeq_f, nIneg, nI_clamp, nat_le_f, nat_le_t, nat_lt_f, nat_lt_t, or_self, or_false, false_or, if_true, if_false, ↓reduceIte, Int32.or_zero, Int32.add_zero, nIm2, nIm3, nIm4, nIp2, nIp4, nIp6, nIp8, nIp14, nIp16, nIp22, nIp24, nIp30, nIq2, nIq3, nIq4, hasI_0, aU_s, aU_i, aU_r, aU_u]
          exact ⟨(_, _), show q + 2 - 1 ≤ 40 by omega, rfl⟩
    · simp only [h1, false_or, if_false]
      by_cases h2 : 40 ≤ p
      · obtain rfl : p = 40 := by omega
        simp (disch := omega) only [kgf40, kgt40, klt40, klf40, kmt40, kmf40, kat40, kaf40, ket40, kef40, b67_215_2, Nat.le_refl, aBi, aBv, aBl, nI_1, nIle_t, nIle_f, nIlt_t, nIlt_f, nIeq_t, nIeq_f, nIneg, nI_clamp, nat_le_f, nat_le_t, nat_lt_f, nat_lt_t, or_self, or_false, false_or, if_true, if_false, ↓reduceIte, Int32.or_zero, Int32.add_zero, nIm2, nIm3, nIm4, nIp2, nIp4, nIp6, nIp8, nIp14, nIp16, nIp22, nIp24, nIp30, nIq2, nIq3, nIq4, hasI_0, aU_s, aU_i, aU_r, aU_u]
        have h3 : I 38 j < 2000 := by simpa using h1
        have h4 : ¬ I 38 j = 2256 := fun q => by rw [q] at h3; exact absurd h3 (by decide)
        simp (disch := omega) only [h4, b67_250_2, h3, b67_301_2, false_and, true_or, aBi, aBv, aBl, nI_1, nIle_t, nIle_f, nIlt_t, nIlt_f, nIeq_t, nIeq_f, nIneg, nI_clamp, nat_le_f, nat_le_t, nat_lt_f, nat_lt_t, or_self, or_false, false_or, if_true, if_false, ↓reduceIte, Int32.or_zero, Int32.add_zero, nIm2, nIm3, nIm4, nIp2, nIp4, nIp6, nIp8, nIp14, nIp16, nIp22, nIp24, nIp30, nIq2, nIq3, nIq4, hasI_0, aU_s, aU_i, aU_r, aU_u]
        exact ⟨(_, _), ha, rfl⟩
      · simp (disch := omega) only [kgf40, kgt40, klt40, klf40, kmt40, kmf40, kat40, kaf40, ket40, kef40, aBi, aBv, aBl, nI_1, nIle_t, nIle_f, nIlt_t, nIlt_f, nIeq_t, nIeq_f, nIneg, nI_clamp, nat_le_f, nat_le_t, nat_lt_f, nat_lt_t, or_self, or_false, false_or, if_true, if_false, ↓reduceIte, Int32.or_zero, Int32.add_zero, nIm2, nIm3, nIm4, nIp2, nIp4, nIp6, nIp8, nIp14, nIp16, nIp22, nIp24, nIp30, nIq2, nIq3, nIq4, hasI_0, aU_s, aU_i, aU_r, aU_u]
        by_cases h3 : I 38 j - 1000 < 0
        · simp (disch := omega) only [h3, b67_206_2, b67_208_2, aU_R, aR_s, aR_u, b67_301_2, aBi, aBv, aBl, nI_1, nIle_t, nIle_f, nIlt_t, nIlt_f, nIeq_t, nIeq_f, nIneg, nI_clamp, nat_le_f, nat_le_t, nat_lt_f, nat_lt_t, or_self, or_false, false_or, if_true, if_false, ↓reduceIte, Int32.or_zero, Int32.add_zero, nIm2, nIm3, nIm4, nIp2, nIp4, nIp6, nIp8, nIp14, nIp16, nIp22, nIp24, nIp30, nIq2, nIq3, nIq4, hasI_0, aU_s, aU_i, aU_r, aU_u]
          exact ⟨(_, _), show p + 1 ≤ 40 by omega, rfl⟩
        · by_cases h4 : 8 ≤ I 38 j - 1000
          · simp (disch := omega) only [h3, h4, b67_206_2, b67_208_2, aU_R, aR_s, aR_u, b67_301_2, aBi, aBv, aBl, nI_1, nIle_t, nIle_f, nIlt_t, nIlt_f, nIeq_t, nIeq_f, nIneg, nI_clamp, nat_le_f, nat_le_t, nat_lt_f, nat_lt_t, or_self, or_false, false_or, if_true, if_false, ↓reduceIte, Int32.or_zero, Int32.add_zero, nIm2, nIm3, nIm4, nIp2, nIp4, nIp6, nIp8, nIp14, nIp16, nIp22, nIp24, nIp30, nIq2, nIq3, nIq4, hasI_0, aU_s, aU_i, aU_r, aU_u]
            exact ⟨(_, _), show p + 1 ≤ 40 by omega, rfl⟩
          · rw [if_neg h3, if_neg h4, if_neg (of_eq_false (ix8 h3 h4))]
            simp (disch := omega) only [h3, h4, b67_206_2, b67_208_2, aU_R, aR_s, aR_u, b67_301_2, aBi, aBv, aBl, nI_1, nIle_t, nIle_f, nIlt_t, nIlt_f, nIeq_t, nIeq_f, nIneg, nI_clamp, nat_le_f, nat_le_t, nat_lt_f, nat_lt_t, or_self, or_false, false_or, if_true, if_false, ↓reduceIte, Int32.or_zero, Int32.add_zero, nIm2, nIm3, nIm4, nIp2, nIp4, nIp6, nIp8, nIp14, nIp16, nIp22, nIp24, nIp30, nIq2, nIq3, nIq4, hasI_0, aU_s, aU_i, aU_r, aU_u]
            exact ⟨(_, _), show p + 1 ≤ 40 by omega, rfl⟩)
  refine ⟨(smR (I 39) (I 38) n y0).1, rfl, e.trans ?_⟩
  show aE d 67 121 [.ref 37, w1, w2, w3, .int k, .int (nI (smR (I 39) (I 38) n y0).2), .int (nI (0 + n)), w.1, w.2] [] (g, aR I 40 (smR (I 39) (I 38) n y0).1, J, aP1 sl rd rl) = _
  rw [b67_121_2]
  simp (disch := omega) only [hs, aR_r, aR_s, Nat.zero_add, b67_307_2, aBi, aBv, aBl, nI_1, nIle_t, nIle_f, nIlt_t, nIlt_f, nIeq_t, nIeq_f, nIneg, nI_clamp, nat_le_f, nat_le_t, nat_lt_f, nat_lt_t, or_self, or_false, false_or, if_true, if_false, ↓reduceIte, Int32.or_zero, Int32.add_zero, nIm2, nIm3, nIm4, nIp2, nIp4, nIp6, nIp8, nIp14, nIp16, nIp22, nIp24, nIp30, nIq2, nIq3, nIq4, hasI_0, aU_s, aU_i, aU_r, aU_u]
/-- what a rule asks of driver i in state s -/
def th (sk s : Nat → Int32) (i : Nat) : Nat → Int32 := fun k => if k = 0 then sk i else if k = 1 then s (14 + i) else if k = 2 then nI i else if k = 3 then s (22 + i) else if k = 4 then s 38 - s 38 / 8 * 8 else if k = 5 then s (6 + i) else if k = 6 then s (s (6 + i)).toNatClampNeg / 10 else s (2 + (s (6 + i)).toNatClampNeg)
theorem shr1 (x : Int32) (i : Int32) : ((x >>> (i &&& 31)) &&& 1) = tI (hasT x i) := by
  have h : ∀ z : Int32, (z &&& 1) = 0 ∨ (z &&& 1) = 1 := by
    intro z
    have e : (z &&& 1) = if bt z 0 then 1 else 0 := by
      refine b_ext (fun k hk => ?_)
      rw [b_and, b_1 k hk]
      by_cases h : k = 0
      · subst h; cases bt z 0 <;> simp [b_0, b_1]
      · simp only [h, decide_false, Bool.and_false]
        cases bt z 0
        · exact (b_0 k).symm
        · rw [if_pos rfl, b_1 k hk]; simp [h]
    rw [e]
    cases bt z 0
    · exact Or.inl rfl
    · exact Or.inr rfl
  unfold hasT hasI tI
  rcases h (x >>> (i &&& 31)) with h | h <;> rw [h] <;> decide
theorem shr1' (x : Int32) (i : Int32) : (((x >>> (i &&& 31)) &&& 1) = 1) = (hasT x i = true) := by
  rw [shr1]; cases hasT x i <;> decide
theorem sm1_congr {t t' : Nat → Int32} (h : ∀ k, k < 8 → t k = t' k) (one : Int32) (y : (Nat → Int32) × Nat) : sm1 t one y = sm1 t' one y := by
  unfold sm1
  (repeat' split) <;> first | rfl | skip
  rename_i h1 h2 h3
  rw [h]
  have := ix8 h2 h3
  simp only [eq_iff_iff, iff_false, not_or] at this
  omega
theorem smR_congr {t t' : Nat → Int32} (h : ∀ k, k < 8 → t k = t' k) (code : Nat → Int32) (n : Nat) (y : Nat → Int32) : smR t code n y = smR t' code n y :=
  fo_congr _ _ _ (fun j a _ _ => sm1_congr h _ _)
/-- the class's code of a rule whose value is rv -/
def cRule (code : Nat → Int32) (n : Nat) (rv : (Nat → Int32) → Int32) : Prop := n ≤ 40 ∧ ∀ t y, (smR t code n y).1 0 = rv t
theorem cRule_congr {code : Nat → Int32} {n : Nat} {rv : (Nat → Int32) → Int32} (h : cRule code n rv) {t t' : Nat → Int32} (e : ∀ k, k < 8 → t k = t' k) : rv t = rv t' := by
  rw [← h.2 t (fun _ => 0), ← h.2 t' (fun _ => 0), smR_congr e]
theorem ix8c {k : Nat} (h : k < 8) : k = 0 ∨ k = 1 ∨ k = 2 ∨ k = 3 ∨ k = 4 ∨ k = 5 ∨ k = 6 ∨ k = 7 := by omega
theorem f67 {m i k nd : Nat} {rv : (Nat → Int32) → Int32} (hR : cRule (I 34) m rv) (hs : I 33 1 = nI m) (h0 : I 14 0 = nI nd) (hn : nd ≤ 8) (hi : i < nd) (hk : k < 2) (hI : I 24 (8 + i) = nI k) : ∃ x y, aF d 67 [.ref 33, .ref 14, .ref 23, .int (nI i)] (g, I, J, aP1 sl rd rl) = some (some (some (.int (rv (th (I 15) (cV (I 24)) i)))), (g, aR (aR I 35 x) 36 y, J, aP1 sl rd rl)) := by
  have e : ∃ T, (∀ j, j < 8 → T j = th (I 15) (cV (I 24)) i j) ∧ ∃ w1 w2 w3 w7 w8, aF d 67 [.ref 33, .ref 14, .ref 23, .int (nI i)] (g, I, J, aP1 sl rd rl) = aE d 67 121 [.ref 33, w1, w2, w3, .int (nI k), .int 0, .int 0, w7, w8] [] (g, aR I 35 T, J, aP1 sl rd rl) := by
    refine ⟨upd (upd (upd (upd (upd (upd (upd (upd (I 35) 0 (I 15 i)) 1 (tI (hasT (I 24 7) (nI i)))) 2 (nI i)) 3 (I 24 (16 + i))) 4 (I 24 6 - I 24 6 / 8 * 8)) 5 (nI k)) 6 (I 24 k / 10)) 7 (I 24 (2 + k)), ?_, ?_⟩
    · intro j hj
      rcases ix8c hj with rfl | rfl | rfl | rfl | rfl | rfl | rfl | rfl
      · rfl
      · exact (cV_x _ (by omega)).symm
      · rfl
      · exact (cV_w _ (by omega)).symm
      · rfl
      · exact (hI.symm.trans (cV_l _ (by omega)).symm)
      · show I 24 k / 10 = cV (I 24) (cV (I 24) (6 + i)).toNatClampNeg / 10
        rw [cV_l _ (by omega), hI, nI_clamp (by omega), cV_c _ (by omega) (by omega)]
      · show I 24 (2 + k) = cV (I 24) (2 + (cV (I 24) (6 + i)).toNatClampNeg)
        rw [cV_l _ (by omega), hI, nI_clamp (by omega), cV_c _ (by omega) (by omega)]
    · refine ⟨.ref 14, .ref 23, .int (nI i), aNo, aNo, ?_⟩
      show aE d 67 0 [.ref 33, .ref 14, .ref 23, .int (nI i), aNo, aNo, aNo, aNo, aNo] [] _ = _
      simp (disch := omega) only [b67_0, h0, f68_23, hI, b67_19, f69_23, b67_42, f70_23, b67_64, f71_23, b67_74, f72_23, b67_98, f73_23, b67_114, aU_R, aR_s, aR_u, aR_r, shr1, show ((1 : Int32).toNatClampNeg) = 1 from rfl, show ((3 : Int32).toNatClampNeg) = 3 from rfl, show ((4 : Int32).toNatClampNeg) = 4 from rfl, show ((6 : Int32).toNatClampNeg) = 6 from rfl, show ((7 : Int32).toNatClampNeg) = 7 from rfl, show ((1 : Int32) < 0) = False from by decide, show ((3 : Int32) < 0) = False from by decide, show ((4 : Int32) < 0) = False from by decide, show ((6 : Int32) < 0) = False from by decide, show ((7 : Int32) < 0) = False from by decide, aBi, aBv, aBl, nI_1, nIle_t, nIle_f, nIlt_t, nIlt_f, nIeq_t, nIeq_f, nIneg, nI_clamp, nat_le_f, nat_le_t, nat_lt_f, nat_lt_t, or_self, or_false, false_or, if_true, if_false, ↓reduceIte, Int32.or_zero, Int32.add_zero, nIm2, nIm3, nIm4, nIp2, nIp4, nIp6, nIp8, nIp14, nIp16, nIp22, nIp24, nIp30, nIq2, nIq3, nIq4, hasI_0, aU_s, aU_i, aU_r, aU_u]
  obtain ⟨T, hT, w1, w2, w3, w7, w8, e⟩ := e
  obtain ⟨y, hy, e2⟩ := l67_33 (d := d) (g := g) (I := aR I 35 T) (J := J) (sl := sl) (rd := rd) (rl := rl) (n := m) (by rw [aR_r _ _ (by decide)]; exact hs) hR.1 (nI k) w1 w2 w3 w7 w8 (I 36)
  refine ⟨T, y, ?_⟩
  rw [e]
  rw [show aR (aR I 35 T) 36 (I 36) = aR I 35 T from by rw [show I 36 = aR I 35 T 36 from (aR_r _ _ (by decide)).symm]; exact aR_i _ _] at e2
  rw [e2, ← hy, aR_s, aR_r _ _ (by decide), hR.2, cRule_congr hR hT]
theorem f67t {m i k nd : Nat} {rv : (Nat → Int32) → Int32} (hR : cRule (I 34) m rv) (hs : I 33 1 = nI m) (h0 : I 14 0 = nI nd) (hn : nd ≤ 8) (hi : i < nd) (hk : k < 2) (hI : I 28 (8 + i) = nI k) : ∃ x y, aF d 67 [.ref 33, .ref 14, .ref 27, .int (nI i)] (g, I, J, aP1 sl rd rl) = some (some (some (.int (rv (th (I 15) (cV (I 28)) i)))), (g, aR (aR I 35 x) 36 y, J, aP1 sl rd rl)) := by
  have e : ∃ T, (∀ j, j < 8 → T j = th (I 15) (cV (I 28)) i j) ∧ ∃ w1 w2 w3 w7 w8, aF d 67 [.ref 33, .ref 14, .ref 27, .int (nI i)] (g, I, J, aP1 sl rd rl) = aE d 67 121 [.ref 33, w1, w2, w3, .int (nI k), .int 0, .int 0, w7, w8] [] (g, aR I 35 T, J, aP1 sl rd rl) := by
    refine ⟨upd (upd (upd (upd (upd (upd (upd (upd (I 35) 0 (I 15 i)) 1 (tI (hasT (I 28 7) (nI i)))) 2 (nI i)) 3 (I 28 (16 + i))) 4 (I 28 6 - I 28 6 / 8 * 8)) 5 (nI k)) 6 (I 28 k / 10)) 7 (I 28 (2 + k)), ?_, ?_⟩
    · intro j hj
      rcases ix8c hj with rfl | rfl | rfl | rfl | rfl | rfl | rfl | rfl
      · rfl
      · exact (cV_x _ (by omega)).symm
      · rfl
      · exact (cV_w _ (by omega)).symm
      · rfl
      · exact (hI.symm.trans (cV_l _ (by omega)).symm)
      · show I 28 k / 10 = cV (I 28) (cV (I 28) (6 + i)).toNatClampNeg / 10
        rw [cV_l _ (by omega), hI, nI_clamp (by omega), cV_c _ (by omega) (by omega)]
      · show I 28 (2 + k) = cV (I 28) (2 + (cV (I 28) (6 + i)).toNatClampNeg)
        rw [cV_l _ (by omega), hI, nI_clamp (by omega), cV_c _ (by omega) (by omega)]
    · refine ⟨.ref 14, .ref 27, .int (nI i), aNo, aNo, ?_⟩
      show aE d 67 0 [.ref 33, .ref 14, .ref 27, .int (nI i), aNo, aNo, aNo, aNo, aNo] [] _ = _
      simp (disch := omega) only [b67_0_2, h0, f68_27, hI, b67_19_2, f69_27, b67_42_2, f70_27, b67_64_2, f71_27, b67_74_2, f72_27, b67_98_2, f73_27, b67_114, aU_R, aR_s, aR_u, aR_r, shr1, show ((1 : Int32).toNatClampNeg) = 1 from rfl, show ((3 : Int32).toNatClampNeg) = 3 from rfl, show ((4 : Int32).toNatClampNeg) = 4 from rfl, show ((6 : Int32).toNatClampNeg) = 6 from rfl, show ((7 : Int32).toNatClampNeg) = 7 from rfl, show ((1 : Int32) < 0) = False from by decide, show ((3 : Int32) < 0) = False from by decide, show ((4 : Int32) < 0) = False from by decide, show ((6 : Int32) < 0) = False from by decide, show ((7 : Int32) < 0) = False from by decide, aBi, aBv, aBl, nI_1, nIle_t, nIle_f, nIlt_t, nIlt_f, nIeq_t, nIeq_f, nIneg, nI_clamp, nat_le_f, nat_le_t, nat_lt_f, nat_lt_t, or_self, or_false, false_or, if_true, if_false, ↓reduceIte, Int32.or_zero, Int32.add_zero, nIm2, nIm3, nIm4, nIp2, nIp4, nIp6, nIp8, nIp14, nIp16, nIp22, nIp24, nIp30, nIq2, nIq3, nIq4, hasI_0, aU_s, aU_i, aU_r, aU_u]
  obtain ⟨T, hT, w1, w2, w3, w7, w8, e⟩ := e
  obtain ⟨y, hy, e2⟩ := l67_33 (d := d) (g := g) (I := aR I 35 T) (J := J) (sl := sl) (rd := rd) (rl := rl) (n := m) (by rw [aR_r _ _ (by decide)]; exact hs) hR.1 (nI k) w1 w2 w3 w7 w8 (I 36)
  refine ⟨T, y, ?_⟩
  rw [e]
  rw [show aR (aR I 35 T) 36 (I 36) = aR I 35 T from by rw [show I 36 = aR I 35 T 36 from (aR_r _ _ (by decide)).symm]; exact aR_i _ _] at e2
  rw [e2, ← hy, aR_s, aR_r _ _ (by decide), hR.2, cRule_congr hR hT]
theorem f67o {m i k nd : Nat} {rv : (Nat → Int32) → Int32} (hR : cRule (I 38) m rv) (hs : I 37 1 = nI m) (h0 : I 14 0 = nI nd) (hn : nd ≤ 8) (hi : i < nd) (hk : k < 2) (hI : I 28 (8 + i) = nI k) : ∃ x y, aF d 67 [.ref 37, .ref 14, .ref 27, .int (nI i)] (g, I, J, aP1 sl rd rl) = some (some (some (.int (rv (th (I 15) (cV (I 28)) i)))), (g, aR (aR I 39 x) 40 y, J, aP1 sl rd rl)) := by
  have e : ∃ T, (∀ j, j < 8 → T j = th (I 15) (cV (I 28)) i j) ∧ ∃ w1 w2 w3 w7 w8, aF d 67 [.ref 37, .ref 14, .ref 27, .int (nI i)] (g, I, J, aP1 sl rd rl) = aE d 67 121 [.ref 37, w1, w2, w3, .int (nI k), .int 0, .int 0, w7, w8] [] (g, aR I 39 T, J, aP1 sl rd rl) := by
    refine ⟨upd (upd (upd (upd (upd (upd (upd (upd (I 39) 0 (I 15 i)) 1 (tI (hasT (I 28 7) (nI i)))) 2 (nI i)) 3 (I 28 (16 + i))) 4 (I 28 6 - I 28 6 / 8 * 8)) 5 (nI k)) 6 (I 28 k / 10)) 7 (I 28 (2 + k)), ?_, ?_⟩
    · intro j hj
      rcases ix8c hj with rfl | rfl | rfl | rfl | rfl | rfl | rfl | rfl
      · rfl
      · exact (cV_x _ (by omega)).symm
      · rfl
      · exact (cV_w _ (by omega)).symm
      · rfl
      · exact (hI.symm.trans (cV_l _ (by omega)).symm)
      · show I 28 k / 10 = cV (I 28) (cV (I 28) (6 + i)).toNatClampNeg / 10
        rw [cV_l _ (by omega), hI, nI_clamp (by omega), cV_c _ (by omega) (by omega)]
      · show I 28 (2 + k) = cV (I 28) (2 + (cV (I 28) (6 + i)).toNatClampNeg)
        rw [cV_l _ (by omega), hI, nI_clamp (by omega), cV_c _ (by omega) (by omega)]
    · refine ⟨.ref 14, .ref 27, .int (nI i), aNo, aNo, ?_⟩
      show aE d 67 0 [.ref 37, .ref 14, .ref 27, .int (nI i), aNo, aNo, aNo, aNo, aNo] [] _ = _
      simp (disch := omega) only [b67_0_3, h0, f68_27, hI, b67_19_3, f69_27, b67_42_3, f70_27, b67_64_3, f71_27, b67_74_3, f72_27, b67_98_3, f73_27, b67_114_2, aU_R, aR_s, aR_u, aR_r, shr1, show ((1 : Int32).toNatClampNeg) = 1 from rfl, show ((3 : Int32).toNatClampNeg) = 3 from rfl, show ((4 : Int32).toNatClampNeg) = 4 from rfl, show ((6 : Int32).toNatClampNeg) = 6 from rfl, show ((7 : Int32).toNatClampNeg) = 7 from rfl, show ((1 : Int32) < 0) = False from by decide, show ((3 : Int32) < 0) = False from by decide, show ((4 : Int32) < 0) = False from by decide, show ((6 : Int32) < 0) = False from by decide, show ((7 : Int32) < 0) = False from by decide, aBi, aBv, aBl, nI_1, nIle_t, nIle_f, nIlt_t, nIlt_f, nIeq_t, nIeq_f, nIneg, nI_clamp, nat_le_f, nat_le_t, nat_lt_f, nat_lt_t, or_self, or_false, false_or, if_true, if_false, ↓reduceIte, Int32.or_zero, Int32.add_zero, nIm2, nIm3, nIm4, nIp2, nIp4, nIp6, nIp8, nIp14, nIp16, nIp22, nIp24, nIp30, nIq2, nIq3, nIq4, hasI_0, aU_s, aU_i, aU_r, aU_u]
  obtain ⟨T, hT, w1, w2, w3, w7, w8, e⟩ := e
  obtain ⟨y, hy, e2⟩ := l67_37 (d := d) (g := g) (I := aR I 39 T) (J := J) (sl := sl) (rd := rd) (rl := rl) (n := m) (by rw [aR_r _ _ (by decide)]; exact hs) hR.1 (nI k) w1 w2 w3 w7 w8 (I 40)
  refine ⟨T, y, ?_⟩
  rw [e]
  rw [show aR (aR I 39 T) 40 (I 40) = aR I 39 T from by rw [show I 40 = aR I 39 T 40 from (aR_r _ _ (by decide)).symm]; exact aR_i _ _] at e2
  rw [e2, ← hy, aR_s, aR_r _ _ (by decide), hR.2, cRule_congr hR hT]
end T00
section T01
/-! who is first; a race (the class) -/
variable {d : Nat} {g : Nat × Nat × Nat} {I : Nat → Nat → Int32} {J : Nat → Nat → Int64} {sl rd rl : Nat}
def fas1 (st : Nat → Int32) (wo : Int32) (i : Nat) (a : Int32 × Int32) : Int32 × Int32 := if hasT wo (nI i) = true then a else if a.1 = -1 then (nI i, st i) else if st i ≤ a.2 then a else (nI i, st i)
def fas (st : Nat → Int32) (wo : Int32) (n : Nat) : Int32 := (fo (fas1 st wo) n 0 (-1, 0)).1
def wn1 (st : Nat → Int32) (i b : Nat) : Nat := if st i ≤ st b then b else i
def wn (st : Nat → Int32) (n : Nat) : Nat := fo (wn1 st) (n - 1) 1 0
theorem hasT_0 (y : Int32) : hasT 0 y = false := by
  unfold hasT hasI
  have : ((0 : Int32) >>> (y &&& 31)) &&& 1 = 0 := by rw [Int32.zero_shiftRight]; rfl
  rw [this]; rfl
theorem nIm1 {i : Nat} (h : i < 8) : (nI i = -1) = False := eq_false (by rcases ix8c h with rfl | rfl | rfl | rfl | rfl | rfl | rfl | rfl <;> decide)
theorem wn_lt (st : Nat → Int32) {n : Nat} (h : 0 < n) : wn st n < n := by
  have e := fo_inv (P := fun j b => b < j) (f := wn1 st) (n - 1) 1 0 (by decide) (fun j b h1 h2 hb => by unfold wn1; split <;> omega)
  unfold wn
  omega
theorem fas_wn (st : Nat → Int32) {n : Nat} (h : 0 < n) (hn : n ≤ 8) : fas st 0 n = nI (wn st n) := by
  obtain ⟨m, rfl⟩ : ∃ m, n = m + 1 := ⟨n - 1, by omega⟩
  unfold fas wn
  rw [show fo (fas1 st 0) (m + 1) 0 (-1, 0) = fo (fas1 st 0) m 1 (nI 0, st 0) from by
    show fo (fas1 st 0) m 1 (fas1 st 0 0 (-1, 0)) = _
    unfold fas1; rw [hasT_0]; rfl]
  have e := fo_rel (P := fun j a b => b < j ∧ a = (nI b, st b)) (f := fas1 st 0) (h := wn1 st) m 1 (nI 0, st 0) 0 ⟨by decide, rfl⟩ (fun j a b h1 h2 hp => by
    obtain ⟨hb, rfl⟩ := hp
    unfold fas1 wn1
    simp only [hasT_0, nIm1 (show b < 8 by omega), if_false, Bool.false_eq_true]
    split
    · exact ⟨by omega, rfl⟩
    · exact ⟨by omega, rfl⟩)
  exact congrArg Prod.fst e.2
theorem fas_lt (st : Nat → Int32) (wo : Int32) {n : Nat} (hn : n ≤ 8) : fas st wo n = -1 ∨ ∃ i, i < n ∧ fas st wo n = nI i := by
  have e := fo_inv (P := fun j (a : Int32 × Int32) => a.1 = -1 ∨ ∃ i, i < j ∧ a.1 = nI i) (f := fas1 st wo) n 0 (-1, 0) (Or.inl rfl) (fun j a h1 h2 hp => by
    unfold fas1
    have hq : a.1 = -1 ∨ ∃ i, i < j + 1 ∧ a.1 = nI i := by
      rcases hp with hp | ⟨i, hi, hp⟩
      · exact Or.inl hp
      · exact Or.inr ⟨i, by omega, hp⟩
    (repeat' split) <;> first | exact hq | exact Or.inr ⟨j, by omega, rfl⟩)
  rw [Nat.zero_add] at e
  exact e
/-- all clubs are told -/
def clubs (f : Nat → Int32) (n : Nat) : Prop := ∀ i, i < n → ∃ k, k < 2 ∧ f i = nI k
/-- strengths -/
def sts (rv : (Nat → Int32) → Int32) (sk s : Nat → Int32) : Nat → Int32 := fun i => rv (th sk s i)
theorem aRR {α : Type} (f : Nat → Nat → α) {a b : Nat} (x y x' y' : Nat → α) (h : a ≠ b) : aR (aR (aR (aR f a x) b y) a x') b y' = aR (aR f a x') b y' := by
  rw [aR_c (aR f a x) y x' (Ne.symm h), aR_u, aR_u]
theorem f66 {m nd : Nat} {rv : (Nat → Int32) → Int32} (hR : cRule (I 34) m rv) (hs : I 33 1 = nI m) (h0 : I 14 0 = nI nd) (hn : nd ≤ 8) (hc : clubs (fun i => I 24 (8 + i)) nd) (wo : Int32) : ∃ x y, aF d 66 [.ref 33, .ref 14, .ref 23, .int wo] (g, I, J, aP1 sl rd rl) = some (some (some (.int (fas (sts rv (I 15) (cV (I 24))) wo nd))), (g, aR (aR I 35 x) 36 y, J, aP1 sl rd rl)) := by
  obtain ⟨w, _, e⟩ := lp (X := fun j (a : Int32 × Int32) (w : Value × (Nat → Int32) × (Nat → Int32)) => aE d 66 9 [.ref 33, .ref 14, .ref 23, .int wo, .int a.1, .int a.2, .int (nI j), w.1] [] (g, aR (aR I 35 w.2.1) 36 w.2.2, J, aP1 sl rd rl)) (f := fas1 (sts rv (I 15) (cV (I 24))) wo) (fun _ _ _ => True) nd 0 (-1, 0) (aNo, I 35, I 36) trivial (by
    intro j a w _ hj _
    obtain ⟨a1, a2⟩ := a
    obtain ⟨v, x, y⟩ := w
    obtain ⟨k, hk, hI⟩ := hc j (by omega)
    obtain ⟨x', y', e⟩ := f67 (d := d) (g := g) (I := aR (aR I 35 x) 36 y) (J := J) (sl := sl) (rd := rd) (rl := rl) (m := m) (i := j) (k := k) (nd := nd) (rv := rv) (by simp only [aR_r _ _ (show 34 ≠ 36 by decide), aR_r _ _ (show 34 ≠ 35 by decide)]; exact hR) (by simp only [aR_r _ _ (show 33 ≠ 36 by decide), aR_r _ _ (show 33 ≠ 35 by decide)]; exact hs) (by simp only [aR_r _ _ (show 14 ≠ 36 by decide), aR_r _ _ (show 14 ≠ 35 by decide)]; exact h0) hn (by omega) hk (by simp only [aR_r _ _ (show 24 ≠ 36 by decide), aR_r _ _ (show 24 ≠ 35 by decide)]; exact hI)
    rw [aRR _ _ _ _ _ (by decide)] at e
    simp only [aR_r _ _ (show 24 ≠ 36 by decide), aR_r _ _ (show 24 ≠ 35 by decide), aR_r _ _ (show 15 ≠ 36 by decide), aR_r _ _ (show 15 ≠ 35 by decide)] at e
    show ∃ s' : Value × (Nat → Int32) × (Nat → Int32), _ ∧ aE d 66 9 [.ref 33, .ref 14, .ref 23, .int wo, .int a1, .int a2, .int (nI j), v] [] (g, aR (aR I 35 x) 36 y, J, aP1 sl rd rl) = _
    rw [b66_9]
    simp (disch := omega) only [h0, aR_r, shr1', e, b66_39, aBi, aBv, aBl, nI_1, nIle_t, nIle_f, nIlt_t, nIlt_f, nIeq_t, nIeq_f, nIneg, nI_clamp, nat_le_f, nat_le_t, nat_lt_f, nat_lt_t, or_self, or_false, false_or, if_true, if_false, ↓reduceIte, Int32.or_zero, Int32.add_zero, nIm2, nIm3, nIm4, nIp2, nIp4, nIp6, nIp8, nIp14, nIp16, nIp22, nIp24, nIp30, nIq2, nIq3, nIq4, hasI_0, aU_s, aU_i, aU_r, aU_u]
    unfold fas1 sts
    by_cases h1 : hasT wo (nI j) = true
    · simp only [h1, if_true]
      exact ⟨(v, x, y), trivial, rfl⟩
    · simp only [h1, if_false]
      by_cases h2 : a1 = -1
      · simp only [h2, if_true]
        exact ⟨(_, x', y'), trivial, rfl⟩
      · simp only [h2, if_false]
        by_cases h3 : rv (th (I 15) (cV (I 24)) j) ≤ a2
        · simp only [h3, if_true]
          exact ⟨(_, x', y'), trivial, rfl⟩
        · simp only [h3, if_false]
          exact ⟨(_, x', y'), trivial, rfl⟩)
  refine ⟨w.2.1, w.2.2, ?_⟩
  show aE d 66 0 [.ref 33, .ref 14, .ref 23, .int wo, aNo, aNo, aNo, aNo] [] _ = _
  rw [b66_0]
  simp only [aR_i, show aR (aR I 35 (I 35)) 36 (I 36) = I from by rw [aR_i, aR_i]] at e
  refine e.trans ?_
  rw [b66_9]
  simp (disch := omega) only [h0, aR_r, Nat.zero_add, aBi, aBv, aBl, nI_1, nIle_t, nIle_f, nIlt_t, nIlt_f, nIeq_t, nIeq_f, nIneg, nI_clamp, nat_le_f, nat_le_t, nat_lt_f, nat_lt_t, or_self, or_false, false_or, if_true, if_false, ↓reduceIte, Int32.or_zero, Int32.add_zero, nIm2, nIm3, nIm4, nIp2, nIp4, nIp6, nIp8, nIp14, nIp16, nIp22, nIp24, nIp30, nIq2, nIq3, nIq4, hasI_0, aU_s, aU_i, aU_r, aU_u]
  rfl
theorem f66t {m nd : Nat} {rv : (Nat → Int32) → Int32} (hR : cRule (I 34) m rv) (hs : I 33 1 = nI m) (h0 : I 14 0 = nI nd) (hn : nd ≤ 8) (hc : clubs (fun i => I 28 (8 + i)) nd) (wo : Int32) : ∃ x y, aF d 66 [.ref 33, .ref 14, .ref 27, .int wo] (g, I, J, aP1 sl rd rl) = some (some (some (.int (fas (sts rv (I 15) (cV (I 28))) wo nd))), (g, aR (aR I 35 x) 36 y, J, aP1 sl rd rl)) := by
  obtain ⟨w, _, e⟩ := lp (X := fun j (a : Int32 × Int32) (w : Value × (Nat → Int32) × (Nat → Int32)) => aE d 66 9 [.ref 33, .ref 14, .ref 27, .int wo, .int a.1, .int a.2, .int (nI j), w.1] [] (g, aR (aR I 35 w.2.1) 36 w.2.2, J, aP1 sl rd rl)) (f := fas1 (sts rv (I 15) (cV (I 28))) wo) (fun _ _ _ => True) nd 0 (-1, 0) (aNo, I 35, I 36) trivial (by
    intro j a w _ hj _
    obtain ⟨a1, a2⟩ := a
    obtain ⟨v, x, y⟩ := w
    obtain ⟨k, hk, hI⟩ := hc j (by omega)
    obtain ⟨x', y', e⟩ := f67t (d := d) (g := g) (I := aR (aR I 35 x) 36 y) (J := J) (sl := sl) (rd := rd) (rl := rl) (m := m) (i := j) (k := k) (nd := nd) (rv := rv) (by simp only [aR_r _ _ (show 34 ≠ 36 by decide), aR_r _ _ (show 34 ≠ 35 by decide)]; exact hR) (by simp only [aR_r _ _ (show 33 ≠ 36 by decide), aR_r _ _ (show 33 ≠ 35 by decide)]; exact hs) (by simp only [aR_r _ _ (show 14 ≠ 36 by decide), aR_r _ _ (show 14 ≠ 35 by decide)]; exact h0) hn (by omega) hk (by simp only [aR_r _ _ (show 28 ≠ 36 by decide), aR_r _ _ (show 28 ≠ 35 by decide)]; exact hI)
    rw [aRR _ _ _ _ _ (by decide)] at e
    simp only [aR_r _ _ (show 28 ≠ 36 by decide), aR_r _ _ (show 28 ≠ 35 by decide), aR_r _ _ (show 15 ≠ 36 by decide), aR_r _ _ (show 15 ≠ 35 by decide)] at e
    show ∃ s' : Value × (Nat → Int32) × (Nat → Int32), _ ∧ aE d 66 9 [.ref 33, .ref 14, .ref 27, .int wo, .int a1, .int a2, .int (nI j), v] [] (g, aR (aR I 35 x) 36 y, J, aP1 sl rd rl) = _
    rw [b66_9_2]
    simp (disch := omega) only [h0, aR_r, shr1', e, b66_39_2, aBi, aBv, aBl, nI_1, nIle_t, nIle_f, nIlt_t, nIlt_f, nIeq_t, nIeq_f, nIneg, nI_clamp, nat_le_f, nat_le_t, nat_lt_f, nat_lt_t, or_self, or_false, false_or, if_true, if_false, ↓reduceIte, Int32.or_zero, Int32.add_zero, nIm2, nIm3, nIm4, nIp2, nIp4, nIp6, nIp8, nIp14, nIp16, nIp22, nIp24, nIp30, nIq2, nIq3, nIq4, hasI_0, aU_s, aU_i, aU_r, aU_u]
    unfold fas1 sts
    by_cases h1 : hasT wo (nI j) = true
    · simp only [h1, if_true]
      exact ⟨(v, x, y), trivial, rfl⟩
    · simp only [h1, if_false]
      by_cases h2 : a1 = -1
      · simp only [h2, if_true]
        exact ⟨(_, x', y'), trivial, rfl⟩
      · simp only [h2, if_false]
        by_cases h3 : rv (th (I 15) (cV (I 28)) j) ≤ a2
        · simp only [h3, if_true]
          exact ⟨(_, x', y'), trivial, rfl⟩
        · simp only [h3, if_false]
          exact ⟨(_, x', y'), trivial, rfl⟩)
  refine ⟨w.2.1, w.2.2, ?_⟩
  show aE d 66 0 [.ref 33, .ref 14, .ref 27, .int wo, aNo, aNo, aNo, aNo] [] _ = _
  rw [b66_0_2]
  simp only [aR_i, show aR (aR I 35 (I 35)) 36 (I 36) = I from by rw [aR_i, aR_i]] at e
  refine e.trans ?_
  rw [b66_9_2]
  simp (disch := omega) only [h0, aR_r, Nat.zero_add, aBi, aBv, aBl, nI_1, nIle_t, nIle_f, nIlt_t, nIlt_f, nIeq_t, nIeq_f, nIneg, nI_clamp, nat_le_f, nat_le_t, nat_lt_f, nat_lt_t, or_self, or_false, false_or, if_true, if_false, ↓reduceIte, Int32.or_zero, Int32.add_zero, nIm2, nIm3, nIm4, nIp2, nIp4, nIp6, nIp8, nIp14, nIp16, nIp22, nIp24, nIp30, nIq2, nIq3, nIq4, hasI_0, aU_s, aU_i, aU_r, aU_u]
  rfl
theorem f66o {m nd : Nat} {rv : (Nat → Int32) → Int32} (hR : cRule (I 38) m rv) (hs : I 37 1 = nI m) (h0 : I 14 0 = nI nd) (hn : nd ≤ 8) (hc : clubs (fun i => I 28 (8 + i)) nd) (wo : Int32) : ∃ x y, aF d 66 [.ref 37, .ref 14, .ref 27, .int wo] (g, I, J, aP1 sl rd rl) = some (some (some (.int (fas (sts rv (I 15) (cV (I 28))) wo nd))), (g, aR (aR I 39 x) 40 y, J, aP1 sl rd rl)) := by
  obtain ⟨w, _, e⟩ := lp (X := fun j (a : Int32 × Int32) (w : Value × (Nat → Int32) × (Nat → Int32)) => aE d 66 9 [.ref 37, .ref 14, .ref 27, .int wo, .int a.1, .int a.2, .int (nI j), w.1] [] (g, aR (aR I 39 w.2.1) 40 w.2.2, J, aP1 sl rd rl)) (f := fas1 (sts rv (I 15) (cV (I 28))) wo) (fun _ _ _ => True) nd 0 (-1, 0) (aNo, I 39, I 40) trivial (by
    intro j a w _ hj _
    obtain ⟨a1, a2⟩ := a
    obtain ⟨v, x, y⟩ := w
    obtain ⟨k, hk, hI⟩ := hc j (by omega)
    obtain ⟨x', y', e⟩ := f67o (d := d) (g := g) (I := aR (aR I 39 x) 40 y) (J := J) (sl := sl) (rd := rd) (rl := rl) (m := m) (i := j) (k := k) (nd := nd) (rv := rv) (by simp only [aR_r _ _ (show 38 ≠ 40 by decide), aR_r _ _ (show 38 ≠ 39 by decide)]; exact hR) (by simp only [aR_r _ _ (show 37 ≠ 40 by decide), aR_r _ _ (show 37 ≠ 39 by decide)]; exact hs) (by simp only [aR_r _ _ (show 14 ≠ 40 by decide), aR_r _ _ (show 14 ≠ 39 by decide)]; exact h0) hn (by omega) hk (by simp only [aR_r _ _ (show 28 ≠ 40 by decide), aR_r _ _ (show 28 ≠ 39 by decide)]; exact hI)
    rw [aRR _ _ _ _ _ (by decide)] at e
    simp only [aR_r _ _ (show 28 ≠ 40 by decide), aR_r _ _ (show 28 ≠ 39 by decide), aR_r _ _ (show 15 ≠ 40 by decide), aR_r _ _ (show 15 ≠ 39 by decide)] at e
    show ∃ s' : Value × (Nat → Int32) × (Nat → Int32), _ ∧ aE d 66 9 [.ref 37, .ref 14, .ref 27, .int wo, .int a1, .int a2, .int (nI j), v] [] (g, aR (aR I 39 x) 40 y, J, aP1 sl rd rl) = _
    rw [b66_9_3]
    simp (disch := omega) only [h0, aR_r, shr1', e, b66_39_3, aBi, aBv, aBl, nI_1, nIle_t, nIle_f, nIlt_t, nIlt_f, nIeq_t, nIeq_f, nIneg, nI_clamp, nat_le_f, nat_le_t, nat_lt_f, nat_lt_t, or_self, or_false, false_or, if_true, if_false, ↓reduceIte, Int32.or_zero, Int32.add_zero, nIm2, nIm3, nIm4, nIp2, nIp4, nIp6, nIp8, nIp14, nIp16, nIp22, nIp24, nIp30, nIq2, nIq3, nIq4, hasI_0, aU_s, aU_i, aU_r, aU_u]
    unfold fas1 sts
    by_cases h1 : hasT wo (nI j) = true
    · simp only [h1, if_true]
      exact ⟨(v, x, y), trivial, rfl⟩
    · simp only [h1, if_false]
      by_cases h2 : a1 = -1
      · simp only [h2, if_true]
        exact ⟨(_, x', y'), trivial, rfl⟩
      · simp only [h2, if_false]
        by_cases h3 : rv (th (I 15) (cV (I 28)) j) ≤ a2
        · simp only [h3, if_true]
          exact ⟨(_, x', y'), trivial, rfl⟩
        · simp only [h3, if_false]
          exact ⟨(_, x', y'), trivial, rfl⟩)
  refine ⟨w.2.1, w.2.2, ?_⟩
  show aE d 66 0 [.ref 37, .ref 14, .ref 27, .int wo, aNo, aNo, aNo, aNo] [] _ = _
  rw [b66_0_3]
  simp only [aR_i, show aR (aR I 39 (I 39)) 40 (I 40) = I from by rw [aR_i, aR_i]] at e
  refine e.trans ?_
  rw [b66_9_3]
  simp (disch := omega) only [h0, aR_r, Nat.zero_add, aBi, aBv, aBl, nI_1, nIle_t, nIle_f, nIlt_t, nIlt_f, nIeq_t, nIeq_f, nIneg, nI_clamp, nat_le_f, nat_le_t, nat_lt_f, nat_lt_t, or_self, or_false, false_or, if_true, if_false, ↓reduceIte, Int32.or_zero, Int32.add_zero, nIm2, nIm3, nIm4, nIp2, nIp4, nIp6, nIp8, nIp14, nIp16, nIp22, nIp24, nIp30, nIq2, nIq3, nIq4, hasI_0, aU_s, aU_i, aU_r, aU_u]
  rfl
def cRace (f : Nat → Int32) (i c : Nat) : Nat → Int32 :=
  let f2 := upd (upd f (16 + i) (f (16 + i) + 1)) (4 + c) (f (4 + c) + 1)
  let f5 := adA (adA (adM f2 c 10) (1 - c) 3) c (-1)
  upd f5 6 (f 6 + 1)
def rRace (f : Nat → Int32) (i c : Nat) : Nat → Int32 :=
  let f2 := upd (upd f (22 + i) (f (22 + i) + 1)) (4 + c) (f (4 + c) + 1)
  let f5 := adA (adA (adM f2 c 10) (1 - c) 3) c (-1)
  upd f5 38 (f 38 + 1)
theorem cRace_v (f : Nat → Int32) {i c : Nat} (hi : i < 8) (hc : c < 2) : cV (cRace f i c) = rRace (cV f) i c := by
  unfold cRace rRace
  simp only
  rw [cV_updr, cV_adA _ _ hc, cV_adA _ _ (by omega), cV_adM _ _ hc, cV_updc _ _ (by omega), cV_updw _ _ hi, cV_w _ hi, cV_c _ (by omega) (by omega), cV_r]
theorem rRace_r (f : Nat → Int32) {i c : Nat} (hi : i < 8) (hc : c < 2) : rV (rRace f i c) = rRace (rV f) i c := by
  unfold rRace
  simp only
  rw [rV_upd _ _ (by omega), rV_adA _ _ hc, rV_adA _ _ (by omega), rV_adM _ _ hc, rV_upd _ _ (by omega), rV_upd _ _ (by omega), rV_lt f (by omega), rV_lt f (by omega), rV_lt f (by omega)]
theorem f65 {m nd k : Nat} {rv : (Nat → Int32) → Int32} (hR : cRule (I 34) m rv) (hs : I 33 1 = nI m) (h0 : I 14 0 = nI nd) (hn : nd ≤ 8) (hd : 0 < nd) (hc : clubs (fun i => I 24 (8 + i)) nd) (hk : k < 2) (hI : I 24 (8 + wn (sts rv (I 15) (cV (I 24))) nd) = nI k) : ∃ x y, aF d 65 [.ref 23, .ref 14, .ref 33] (g, I, J, aP1 sl rd rl) = some (some (some (.int (nI (wn (sts rv (I 15) (cV (I 24))) nd)))), (g, aR (aR (aR I 24 (cRace (I 24) (wn (sts rv (I 15) (cV (I 24))) nd) k)) 35 x) 36 y, J, aP1 sl rd rl)) := by
  have hw := wn_lt (sts rv (I 15) (cV (I 24))) hd
  obtain ⟨x, y, e⟩ := f66 (d := d) (g := g) (I := I) (J := J) (sl := sl) (rd := rd) (rl := rl) hR hs h0 hn hc 0
  rw [fas_wn _ hd hn] at e
  generalize wn (sts rv (I 15) (cV (I 24))) nd = i at *
  refine ⟨x, y, ?_⟩
  show aE d 65 0 [.ref 23, .ref 14, .ref 33, aNo, aNo] [] _ = _
  have e1 (I : Nat → Nat → Int32) (v : Int32) : aF d 77 [.ref 23, .int (nI (1 - k)), .int v] (g, I, J, aP1 sl rd rl) = some (some none, (g, aR I 24 (adA (I 24) (1 - k) v), J, aP1 sl rd rl)) := f77_24 (by omega) v
  simp (disch := omega) only [b65_0, e, b65_7, f68_23, aR_r, hI, b65_13, f75, isC_n, b65_20, n10, nIp4, nIp16, f76_24, aU_R, aR_s, aR_u, b65_59, nI_1m, e1, b65_68, f77_24, b65_75, aBi, aBv, aBl, nI_1, nIle_t, nIle_f, nIlt_t, nIlt_f, nIeq_t, nIeq_f, nIneg, nI_clamp, nat_le_f, nat_le_t, nat_lt_f, nat_lt_t, or_self, or_false, false_or, if_true, if_false, ↓reduceIte, Int32.or_zero, Int32.add_zero, nIm2, nIm3, nIm4, nIp2, nIp4, nIp6, nIp8, nIp14, nIp16, nIp22, nIp24, nIp30, nIq2, nIq3, nIq4, hasI_0, aU_s, aU_i, aU_r, aU_u]
  unfold cRace
  simp only
  have e6 : ∀ q, adA (adA (adM (upd (upd (I 24) (16 + i) (I 24 (16 + i) + 1)) (4 + k) q) k 10) (1 - k) 3) k (-1) 6 = I 24 6 := by
    intro q
    unfold adA adM
    rw [upd_n _ _ (by omega), upd_n _ _ (by omega), upd_n _ _ (by omega), upd_n _ _ (by omega), upd_n _ _ (by omega)]
  rw [e6]
  rw [aR_c (aR I 35 x) y _ (by decide), aR_c I x _ (by decide)]
theorem f65t {m nd k : Nat} {rv : (Nat → Int32) → Int32} (hR : cRule (I 34) m rv) (hs : I 33 1 = nI m) (h0 : I 14 0 = nI nd) (hn : nd ≤ 8) (hd : 0 < nd) (hc : clubs (fun i => I 28 (8 + i)) nd) (hk : k < 2) (hI : I 28 (8 + wn (sts rv (I 15) (cV (I 28))) nd) = nI k) : ∃ x y, aF d 65 [.ref 27, .ref 14, .ref 33] (g, I, J, aP1 sl rd rl) = some (some (some (.int (nI (wn (sts rv (I 15) (cV (I 28))) nd)))), (g, aR (aR (aR I 28 (cRace (I 28) (wn (sts rv (I 15) (cV (I 28))) nd) k)) 35 x) 36 y, J, aP1 sl rd rl)) := by
  have hw := wn_lt (sts rv (I 15) (cV (I 28))) hd
  obtain ⟨x, y, e⟩ := f66t (d := d) (g := g) (I := I) (J := J) (sl := sl) (rd := rd) (rl := rl) hR hs h0 hn hc 0
  rw [fas_wn _ hd hn] at e
  generalize wn (sts rv (I 15) (cV (I 28))) nd = i at *
  refine ⟨x, y, ?_⟩
  show aE d 65 0 [.ref 27, .ref 14, .ref 33, aNo, aNo] [] _ = _
  have e1 (I : Nat → Nat → Int32) (v : Int32) : aF d 77 [.ref 27, .int (nI (1 - k)), .int v] (g, I, J, aP1 sl rd rl) = some (some none, (g, aR I 28 (adA (I 28) (1 - k) v), J, aP1 sl rd rl)) := f77_28 (by omega) v
  simp (disch := omega) only [b65_0_2, e, b65_7_2, f68_27, aR_r, hI, b65_13_2, f75, isC_n, b65_20_2, n10, nIp4, nIp16, f76_28, aU_R, aR_s, aR_u, b65_59_2, nI_1m, e1, b65_68_2, f77_28, b65_75_2, aBi, aBv, aBl, nI_1, nIle_t, nIle_f, nIlt_t, nIlt_f, nIeq_t, nIeq_f, nIneg, nI_clamp, nat_le_f, nat_le_t, nat_lt_f, nat_lt_t, or_self, or_false, false_or, if_true, if_false, ↓reduceIte, Int32.or_zero, Int32.add_zero, nIm2, nIm3, nIm4, nIp2, nIp4, nIp6, nIp8, nIp14, nIp16, nIp22, nIp24, nIp30, nIq2, nIq3, nIq4, hasI_0, aU_s, aU_i, aU_r, aU_u]
  unfold cRace
  simp only
  have e6 : ∀ q, adA (adA (adM (upd (upd (I 28) (16 + i) (I 28 (16 + i) + 1)) (4 + k) q) k 10) (1 - k) 3) k (-1) 6 = I 28 6 := by
    intro q
    unfold adA adM
    rw [upd_n _ _ (by omega), upd_n _ _ (by omega), upd_n _ _ (by omega), upd_n _ _ (by omega), upd_n _ _ (by omega)]
  rw [e6]
  rw [aR_c (aR I 35 x) y _ (by decide), aR_c I x _ (by decide)]
theorem f65o {m nd k : Nat} {rv : (Nat → Int32) → Int32} (hR : cRule (I 38) m rv) (hs : I 37 1 = nI m) (h0 : I 14 0 = nI nd) (hn : nd ≤ 8) (hd : 0 < nd) (hc : clubs (fun i => I 28 (8 + i)) nd) (hk : k < 2) (hI : I 28 (8 + wn (sts rv (I 15) (cV (I 28))) nd) = nI k) : ∃ x y, aF d 65 [.ref 27, .ref 14, .ref 37] (g, I, J, aP1 sl rd rl) = some (some (some (.int (nI (wn (sts rv (I 15) (cV (I 28))) nd)))), (g, aR (aR (aR I 28 (cRace (I 28) (wn (sts rv (I 15) (cV (I 28))) nd) k)) 39 x) 40 y, J, aP1 sl rd rl)) := by
  have hw := wn_lt (sts rv (I 15) (cV (I 28))) hd
  obtain ⟨x, y, e⟩ := f66o (d := d) (g := g) (I := I) (J := J) (sl := sl) (rd := rd) (rl := rl) hR hs h0 hn hc 0
  rw [fas_wn _ hd hn] at e
  generalize wn (sts rv (I 15) (cV (I 28))) nd = i at *
  refine ⟨x, y, ?_⟩
  show aE d 65 0 [.ref 27, .ref 14, .ref 37, aNo, aNo] [] _ = _
  have e1 (I : Nat → Nat → Int32) (v : Int32) : aF d 77 [.ref 27, .int (nI (1 - k)), .int v] (g, I, J, aP1 sl rd rl) = some (some none, (g, aR I 28 (adA (I 28) (1 - k) v), J, aP1 sl rd rl)) := f77_28 (by omega) v
  simp (disch := omega) only [b65_0_3, e, b65_7_3, f68_27, aR_r, hI, b65_13_3, f75, isC_n, b65_20_3, n10, nIp4, nIp16, f76_28, aU_R, aR_s, aR_u, b65_59_3, nI_1m, e1, b65_68_3, f77_28, b65_75_3, aBi, aBv, aBl, nI_1, nIle_t, nIle_f, nIlt_t, nIlt_f, nIeq_t, nIeq_f, nIneg, nI_clamp, nat_le_f, nat_le_t, nat_lt_f, nat_lt_t, or_self, or_false, false_or, if_true, if_false, ↓reduceIte, Int32.or_zero, Int32.add_zero, nIm2, nIm3, nIm4, nIp2, nIp4, nIp6, nIp8, nIp14, nIp16, nIp22, nIp24, nIp30, nIq2, nIq3, nIq4, hasI_0, aU_s, aU_i, aU_r, aU_u]
  unfold cRace
  simp only
  have e6 : ∀ q, adA (adA (adM (upd (upd (I 28) (16 + i) (I 28 (16 + i) + 1)) (4 + k) q) k 10) (1 - k) 3) k (-1) 6 = I 28 6 := by
    intro q
    unfold adA adM
    rw [upd_n _ _ (by omega), upd_n _ _ (by omega), upd_n _ _ (by omega), upd_n _ _ (by omega), upd_n _ _ (by omega)]
  rw [e6]
  rw [aR_c (aR I 39 x) y _ (by decide), aR_c I x _ (by decide)]
end T01
section T02
/-! signs read one by one: both sides -/
variable {d : Nat} {g : Nat × Nat × Nat} {I : Nat → Nat → Int32} {J : Nat → Nat → Int64} {sl rd rl : Nat}
def pk (sg : Nat → Int32) (p : Nat × Int32) : Int32 := if p.2 = -1 then sg p.1 else -1
def flt (p : Nat × Int32) (x : Int32) : Nat × Int32 := if p.2 = -1 then (p.1, x) else p
def adv (p : Nat × Int32) : Nat × Int32 := (p.1 + 1, p.2)
def tk (sg : Nat → Int32) (lo hi : Int32) (p : Nat × Int32) : Int32 × (Nat × Int32) := if pk sg p < lo then (lo, flt p (nI p.1)) else if pk sg p ≤ hi then (pk sg p, adv p) else (lo, flt p (nI p.1))
def nmL (sg : Nat → Int32) : Nat → Int32 → Nat × Int32 → Int32 × (Nat × Int32)
  | 0, v, p => (v, p)
  | m + 1, v, p => if pk sg p < 48 then (v, p) else if pk sg p ≤ 57 then nmL sg m (v * 10 + pk sg p - 48) (adv p) else (v, p)
def nm (sg : Nat → Int32) (m : Nat) (p : Nat × Int32) : Int32 × (Nat × Int32) := nmL sg m ((tk sg 48 57 p).1 - 48) (tk sg 48 57 p).2
def ps (sg : Nat → Int32) (c : Int32) (p : Nat × Int32) : Nat × Int32 := if pk sg p = c then adv p else p
def nd (sg : Nat → Int32) (c : Int32) (p : Nat × Int32) : Nat × Int32 := if pk sg p = c then adv p else flt p (nI p.1)
/-- signs of the class's text, of the reference's -/
def sgc (row : Nat → Int32) (len top : Nat) : Nat → Int32 := fun a => if a < len ∧ a < top then row a else -1
def sgn (row : Nat → Int32) (len top : Nat) : Nat → Int32 := fun a => if a < len ∧ a < top then row a &&& 255 else -1
/-- nothing behind 80 -/
def sgE (sg : Nat → Int32) (n : Nat) : Prop := ∀ a, n ≤ a → sg a = -1
theorem flt_1 (p : Nat × Int32) (x : Int32) : (flt p x).1 = p.1 := by unfold flt; split <;> rfl
theorem pk_at {sg : Nat → Int32} {n : Nat} (h : sgE sg n) {p : Nat × Int32} (hp : ¬ pk sg p = -1) : p.1 < n := by
  unfold pk at hp
  split at hp
  · apply Classical.byContradiction; intro q; exact hp (h _ (by omega))
  · exact absurd rfl hp
theorem pk_ge {sg : Nat → Int32} {n : Nat} (h : sgE sg n) {p : Nat × Int32} {lo : Int32} (hlo : 0 ≤ lo) (hp : ¬ pk sg p < lo) : p.1 < n := by
  refine pk_at h (fun q => hp ?_)
  rw [q]
  rw [Int32.lt_iff_toInt_lt]
  rw [Int32.le_iff_toInt_le] at hlo
  have : (0 : Int32).toInt = 0 := rfl
  have : (-1 : Int32).toInt = -1 := rfl
  omega
theorem tk_at {sg : Nat → Int32} {n : Nat} (h : sgE sg n) {lo hi : Int32} (hlo : 0 ≤ lo) {p : Nat × Int32} (hp : p.1 ≤ n) : p.1 ≤ (tk sg lo hi p).2.1 ∧ (tk sg lo hi p).2.1 ≤ n := by
  unfold tk
  split
  · rw [flt_1]; exact ⟨Nat.le_refl _, hp⟩
  · rename_i q
    split
    · have := pk_ge h hlo q
      exact ⟨Nat.le_succ _, this⟩
    · rw [flt_1]; exact ⟨Nat.le_refl _, hp⟩
theorem nmL_at {sg : Nat → Int32} {n : Nat} (h : sgE sg n) : ∀ (m : Nat) (v : Int32) (p : Nat × Int32), p.1 ≤ n → p.1 ≤ (nmL sg m v p).2.1 ∧ (nmL sg m v p).2.1 ≤ n := by
  intro m
  induction m with
  | zero => intro v p hp; exact ⟨Nat.le_refl _, hp⟩
  | succ m ih =>
    intro v p hp
    unfold nmL
    split
    · exact ⟨Nat.le_refl _, hp⟩
    · rename_i q
      split
      · have h1 := pk_ge h (by decide) q
        have h2 := ih (v * 10 + pk sg p - 48) (adv p) h1
        exact ⟨Nat.le_trans (Nat.le_succ _) h2.1, h2.2⟩
      · exact ⟨Nat.le_refl _, hp⟩
theorem nm_at {sg : Nat → Int32} {n : Nat} (h : sgE sg n) (m : Nat) {p : Nat × Int32} (hp : p.1 ≤ n) : p.1 ≤ (nm sg m p).2.1 ∧ (nm sg m p).2.1 ≤ n := by
  have h1 := tk_at h (lo := 48) (hi := 57) (by decide) hp
  have h2 := nmL_at h m ((tk sg 48 57 p).1 - 48) _ h1.2
  exact ⟨Nat.le_trans h1.1 h2.1, h2.2⟩
theorem ps_at {sg : Nat → Int32} {n : Nat} (h : sgE sg n) {c : Int32} (hc : 0 ≤ c) {p : Nat × Int32} (hp : p.1 ≤ n) : p.1 ≤ (ps sg c p).1 ∧ (ps sg c p).1 ≤ n := by
  unfold ps
  split
  · rename_i q
    have := pk_at h (p := p) (by rw [q]; intro e; rw [e] at hc; exact absurd hc (by decide))
    exact ⟨Nat.le_succ _, this⟩
  · exact ⟨Nat.le_refl _, hp⟩
theorem nd_at {sg : Nat → Int32} {n : Nat} (h : sgE sg n) {c : Int32} (hc : 0 ≤ c) {p : Nat × Int32} (hp : p.1 ≤ n) : p.1 ≤ (nd sg c p).1 ∧ (nd sg c p).1 ≤ n := by
  unfold nd
  split
  · rename_i q
    have := pk_at h (p := p) (by rw [q]; intro e; rw [e] at hc; exact absurd hc (by decide))
    exact ⟨Nat.le_succ _, this⟩
  · rw [flt_1]; exact ⟨Nat.le_refl _, hp⟩
theorem sgc_E (row : Nat → Int32) (len top : Nat) : sgE (sgc row len top) top := fun a h => if_neg (by omega)
theorem sgn_E (row : Nat → Int32) (len top : Nat) : sgE (sgn row len top) top := fun a h => if_neg (by omega)
/-! the class -/
def pC (I : Nat → Nat → Int32) (p : Nat × Int32) : Nat → Nat → Int32 := aR I 9 (upd (upd (I 9) 2 (nI p.1)) 3 p.2)
theorem pC_2 (I : Nat → Nat → Int32) (p : Nat × Int32) : pC I p 9 2 = nI p.1 := rfl
theorem pC_3 (I : Nat → Nat → Int32) (p : Nat × Int32) : pC I p 9 3 = p.2 := rfl
theorem pC_1 (I : Nat → Nat → Int32) (p : Nat × Int32) : pC I p 9 1 = I 9 1 := rfl
theorem pC_r (I : Nat → Nat → Int32) (p : Nat × Int32) {a : Nat} (h : a ≠ 9) : pC I p a = I a := aR_r _ _ h
theorem pC_u2 (I : Nat → Nat → Int32) (p : Nat × Int32) (n : Nat) : aU (pC I p) 9 2 (nI n) = pC I (n, p.2) := by
  unfold pC
  rw [aU_R, aR_s, aR_u, upd_c _ _ _ (by decide), upd_u]
theorem pC_u3 (I : Nat → Nat → Int32) (p : Nat × Int32) (x : Int32) : aU (pC I p) 9 3 x = pC I (p.1, x) := by
  unfold pC
  rw [aU_R, aR_s, aR_u, upd_u]
theorem f30 {p : Nat × Int32} {len top : Nat} (hm : I 9 1 = nI top) (hl : I 7 1 = nI len) (h1 : len ≤ 80) (h2 : top ≤ 80) (hp : p.1 ≤ 80) : aF d 30 [.ref 9] (g, pC I p, J, aP1 sl rd rl) = some (some (some (.int (pk (sgc (I 8) len top) p))), (g, pC I p, J, aP1 sl rd rl)) := by
  show aE d 30 0 [.ref 9, aNo] [] _ = _
  rw [b30_0, pC_2, pC_3, pC_1, pC_r _ _ (by decide), pC_r _ _ (by decide), hm, hl]
  unfold pk sgc
  by_cases e1 : p.2 = -1
  · rw [if_pos e1, if_pos e1]
    by_cases e2 : top ≤ p.1
    · rw [if_neg (show ¬ (p.1 < len ∧ p.1 < top) by omega)]
      simp (disch := omega) only [aBi, aBv, aBl, nI_1, nIle_t, nIle_f, nIlt_t, nIlt_f, nIeq_t, nIeq_f, nIneg, nI_clamp, nat_le_f, nat_le_t, nat_lt_f, nat_lt_t, or_self, or_false, false_or, if_true, if_false, ↓reduceIte, Int32.or_zero, Int32.add_zero, nIm2, nIm3, nIm4, nIp2, nIp4, nIp6, nIp8, nIp14, nIp16, nIp22, nIp24, nIp30, nIq2, nIq3, nIq4, hasI_0, aU_s, aU_i, aU_r, aU_u]
    · by_cases e3 : p.1 < len
      · rw [if_pos (show p.1 < len ∧ p.1 < top by omega)]
        simp (disch := omega) only [kgf80, kgt80, klt80, klf80, kmt80, kmf80, kat80, kaf80, ket80, kef80, aBi, aBv, aBl, nI_1, nIle_t, nIle_f, nIlt_t, nIlt_f, nIeq_t, nIeq_f, nIneg, nI_clamp, nat_le_f, nat_le_t, nat_lt_f, nat_lt_t, or_self, or_false, false_or, if_true, if_false, ↓reduceIte, Int32.or_zero, Int32.add_zero, nIm2, nIm3, nIm4, nIp2, nIp4, nIp6, nIp8, nIp14, nIp16, nIp22, nIp24, nIp30, nIq2, nIq3, nIq4, hasI_0, aU_s, aU_i, aU_r, aU_u]
      · rw [if_neg (show ¬ (p.1 < len ∧ p.1 < top) by omega)]
        simp (disch := omega) only [aBi, aBv, aBl, nI_1, nIle_t, nIle_f, nIlt_t, nIlt_f, nIeq_t, nIeq_f, nIneg, nI_clamp, nat_le_f, nat_le_t, nat_lt_f, nat_lt_t, or_self, or_false, false_or, if_true, if_false, ↓reduceIte, Int32.or_zero, Int32.add_zero, nIm2, nIm3, nIm4, nIp2, nIp4, nIp6, nIp8, nIp14, nIp16, nIp22, nIp24, nIp30, nIq2, nIq3, nIq4, hasI_0, aU_s, aU_i, aU_r, aU_u]
  · rw [if_neg e1, if_neg e1]
theorem f33 (p : Nat × Int32) : aF d 33 [.ref 9] (g, pC I p, J, aP1 sl rd rl) = some (some none, (g, pC I (adv p), J, aP1 sl rd rl)) := by
  show aE d 33 0 [.ref 9] [] _ = _
  rw [b33_0, pC_2, nI_1, pC_u2]
  rfl
theorem f37 (p : Nat × Int32) (x : Int32) : aF d 37 [.ref 9, .int x] (g, pC I p, J, aP1 sl rd rl) = some (some none, (g, pC I (flt p x), J, aP1 sl rd rl)) := by
  show aE d 37 0 [.ref 9, .int x] [] _ = _
  rw [b37_0, pC_3, pC_u3]
  unfold flt
  split <;> rfl
theorem f29 (m : Int32) : aF d 29 [.ref 9, .int m] (g, I, J, aP1 sl rd rl) = some (some none, (g, pC (aU I 9 1 m) (0, -1), J, aP1 sl rd rl)) := by
  show aE d 29 0 [.ref 9, .int m] [] _ = _
  rw [b29_0]
  unfold pC
  rw [aU_R _ 9 3, aU_R _ 9 2, aR_s, aR_u]
  rfl
theorem f36 {p : Nat × Int32} {len top : Nat} (hm : I 9 1 = nI top) (hl : I 7 1 = nI len) (h1 : len ≤ 80) (h2 : top ≤ 80) (hp : p.1 ≤ 80) (lo hi : Int32) : aF d 36 [.ref 9, .int lo, .int hi] (g, pC I p, J, aP1 sl rd rl) = some (some (some (.int (tk (sgc (I 8) len top) lo hi p).1)), (g, pC I (tk (sgc (I 8) len top) lo hi p).2, J, aP1 sl rd rl)) := by
  show aE d 36 0 [.ref 9, .int lo, .int hi, aNo] [] _ = _
  simp only [b36_0, f30 hm hl h1 h2 hp, aBi, b36_4, pC_2, f37, f33, aBv, b36_23, b36_29]
  unfold tk
  (repeat' split) <;> rfl
theorem f35 {p : Nat × Int32} {len top m : Nat} (hm : I 9 1 = nI top) (hl : I 7 1 = nI len) (h1 : len ≤ 80) (h2 : top ≤ 80) (hp : p.1 ≤ top) (hm2 : m < 8) : aF d 35 [.ref 9, .int (nI (m + 1))] (g, pC I p, J, aP1 sl rd rl) = some (some (some (.int (nm (sgc (I 8) len top) m p).1)), (g, pC I (nm (sgc (I 8) len top) m p).2, J, aP1 sl rd rl)) := by
  show aE d 35 0 [.ref 9, .int (nI (m + 1)), aNo, aNo, aNo] [] _ = _
  simp only [b35_0, f36 hm hl h1 h2 (show p.1 ≤ 80 by omega), aBi, b35_8]
  have l : ∀ (k i : Nat) (v : Int32) (p : Nat × Int32) (w : Value), p.1 ≤ top → i + k = m + 1 → aE d 35 14 [.ref 9, .int (nI (m + 1)), .int v, .int (nI i), w] [] (g, pC I p, J, aP1 sl rd rl) = some (some (some (.int (nmL (sgc (I 8) len top) k v p).1)), (g, pC I (nmL (sgc (I 8) len top) k v p).2, J, aP1 sl rd rl)) := by
    intro k
    induction k with
    | zero =>
      intro i v p w hp hi
      rw [b35_14]
      simp (disch := omega) only [aBi, aBv, aBl, nI_1, nIle_t, nIle_f, nIlt_t, nIlt_f, nIeq_t, nIeq_f, nIneg, nI_clamp, nat_le_f, nat_le_t, nat_lt_f, nat_lt_t, or_self, or_false, false_or, if_true, if_false, ↓reduceIte, Int32.or_zero, Int32.add_zero, nIm2, nIm3, nIm4, nIp2, nIp4, nIp6, nIp8, nIp14, nIp16, nIp22, nIp24, nIp30, nIq2, nIq3, nIq4, hasI_0, aU_s, aU_i, aU_r, aU_u]
      rfl
    | succ k ih =>
      intro i v p w hp hi
      rw [b35_14]
      simp (disch := omega) only [f30 hm hl h1 h2 (show p.1 ≤ 80 by omega), b35_23, f33, b35_46, aBi, aBv, aBl, nI_1, nIle_t, nIle_f, nIlt_t, nIlt_f, nIeq_t, nIeq_f, nIneg, nI_clamp, nat_le_f, nat_le_t, nat_lt_f, nat_lt_t, or_self, or_false, false_or, if_true, if_false, ↓reduceIte, Int32.or_zero, Int32.add_zero, nIm2, nIm3, nIm4, nIp2, nIp4, nIp6, nIp8, nIp14, nIp16, nIp22, nIp24, nIp30, nIq2, nIq3, nIq4, hasI_0, aU_s, aU_i, aU_r, aU_u]
      unfold nmL
      by_cases e1 : pk (sgc (I 8) len top) p < 48
      · rw [if_pos e1, if_pos e1]
      · rw [if_neg e1, if_neg e1]
        by_cases e2 : pk (sgc (I 8) len top) p ≤ 57
        · rw [if_pos e2, if_pos e2]
          exact ih (i + 1) _ _ _ (pk_ge (sgc_E _ _ _) (by decide) e1) (by omega)
        · rw [if_neg e2, if_neg e2]
  exact l m 1 _ _ _ (tk_at (sgc_E _ _ _) (by decide) hp).2 (by omega)
/-! the reference -/
def pM (I : Nat → Nat → Int32) (p : Nat × Int32) : Nat → Nat → Int32 := aR I 46 (upd (upd (I 46) 17 (nI p.1)) 18 p.2)
theorem pM_17 (I : Nat → Nat → Int32) (p : Nat × Int32) : pM I p 46 17 = nI p.1 := rfl
theorem pM_18 (I : Nat → Nat → Int32) (p : Nat × Int32) : pM I p 46 18 = p.2 := rfl
theorem pM_o (I : Nat → Nat → Int32) (p : Nat × Int32) {k : Nat} (h : k ≠ 17) (h2 : k ≠ 18) : pM I p 46 k = I 46 k := by
  unfold pM; rw [aR_s, upd_n _ _ h2, upd_n _ _ h]
theorem pM_r (I : Nat → Nat → Int32) (p : Nat × Int32) {a : Nat} (h : a ≠ 46) : pM I p a = I a := aR_r _ _ h
theorem pM_u17 (I : Nat → Nat → Int32) (p : Nat × Int32) (n : Nat) : aU (pM I p) 46 17 (nI n) = pM I (n, p.2) := by
  unfold pM
  rw [aU_R, aR_s, aR_u, upd_c _ _ _ (by decide), upd_u]
theorem pM_u18 (I : Nat → Nat → Int32) (p : Nat × Int32) (x : Int32) : aU (pM I p) 46 18 x = pM I (p.1, x) := by
  unfold pM
  rw [aU_R, aR_s, aR_u, upd_u]
theorem f185 (p : Nat × Int32) : aF d 185 [.ref 46] (g, pM I p, J, aP1 sl rd rl) = some (some (some (.int (tI (decide (p.2 = -1))))), (g, pM I p, J, aP1 sl rd rl)) := by
  show aE d 185 0 [.ref 46] [] _ = _
  rw [b185_0, pM_18]
  by_cases h : p.2 = -1
  · rw [if_pos h, decide_eq_true h]; rfl
  · rw [if_neg h, decide_eq_false h]; rfl
theorem f186 (p : Nat × Int32) (x : Int32) : aF d 186 [.ref 46, .int x] (g, pM I p, J, aP1 sl rd rl) = some (some none, (g, pM I (flt p x), J, aP1 sl rd rl)) := by
  show aE d 186 0 [.ref 46, .int x] [] _ = _
  simp only [b186_0, f185, aBi, b186_4, tI_0, pM_u18]
  unfold flt
  by_cases h : p.2 = -1
  · rw [if_pos h, if_neg (by simp [h])]
  · rw [if_neg h, if_pos (by simp [h])]
/-- rows of bytes -/
def byR (row : Nat → Int32) : Prop := ∀ k, (row k &&& 255) < 128 → row k &&& 255 = row k
theorem int_lt {a b : Int32} : a < b ↔ a.toInt < b.toInt := Int32.lt_iff_toInt_lt
theorem int_le {a b : Int32} : a ≤ b ↔ a.toInt ≤ b.toInt := Int32.le_iff_toInt_le
theorem f188_52 {p : Nat × Int32} {len top : Nat} (hl : I 46 15 = nI len) (ht : I 46 16 = nI top) (h1 : len ≤ 80) (h2 : top ≤ 80) (hp : p.1 ≤ 80) : aF d 188 [.ref 46] (g, pM I p, J, aP1 sl 53 rl) = some (some (some (.int (sgn (I 52) len top p.1))), (g, pM I p, J, aP1 sl 53 rl)) := by
  show aE d 188 0 [.ref 46] [] _ = _
  rw [b188_0_d53, pM_17, pM_o _ _ (by decide) (by decide), pM_o _ _ (by decide) (by decide), pM_r _ _ (by decide), hl, ht]
  unfold sgn
  by_cases e1 : len ≤ p.1
  · rw [if_neg (show ¬ (p.1 < len ∧ p.1 < top) by omega)]
    simp (disch := omega) only [aBi, aBv, aBl, nI_1, nIle_t, nIle_f, nIlt_t, nIlt_f, nIeq_t, nIeq_f, nIneg, nI_clamp, nat_le_f, nat_le_t, nat_lt_f, nat_lt_t, or_self, or_false, false_or, if_true, if_false, ↓reduceIte, Int32.or_zero, Int32.add_zero, nIm2, nIm3, nIm4, nIp2, nIp4, nIp6, nIp8, nIp14, nIp16, nIp22, nIp24, nIp30, nIq2, nIq3, nIq4, hasI_0, aU_s, aU_i, aU_r, aU_u]
  · by_cases e2 : top ≤ p.1
    · rw [if_neg (show ¬ (p.1 < len ∧ p.1 < top) by omega)]
      simp (disch := omega) only [aBi, aBv, aBl, nI_1, nIle_t, nIle_f, nIlt_t, nIlt_f, nIeq_t, nIeq_f, nIneg, nI_clamp, nat_le_f, nat_le_t, nat_lt_f, nat_lt_t, or_self, or_false, false_or, if_true, if_false, ↓reduceIte, Int32.or_zero, Int32.add_zero, nIm2, nIm3, nIm4, nIp2, nIp4, nIp6, nIp8, nIp14, nIp16, nIp22, nIp24, nIp30, nIq2, nIq3, nIq4, hasI_0, aU_s, aU_i, aU_r, aU_u]
    · rw [if_pos (show p.1 < len ∧ p.1 < top by omega)]
      simp (disch := omega) only [aBi, aBv, aBl, nI_1, nIle_t, nIle_f, nIlt_t, nIlt_f, nIeq_t, nIeq_f, nIneg, nI_clamp, nat_le_f, nat_le_t, nat_lt_f, nat_lt_t, or_self, or_false, false_or, if_true, if_false, ↓reduceIte, Int32.or_zero, Int32.add_zero, nIm2, nIm3, nIm4, nIp2, nIp4, nIp6, nIp8, nIp14, nIp16, nIp22, nIp24, nIp30, nIq2, nIq3, nIq4, hasI_0, aU_s, aU_i, aU_r, aU_u]
theorem f191_52 {p : Nat × Int32} {len top : Nat} (hl : I 46 15 = nI len) (ht : I 46 16 = nI top) (h1 : len ≤ 80) (h2 : top ≤ 80) (hp : p.1 ≤ 80) {c : Int32} (hc : 0 ≤ c) : aF d 191 [.ref 46, .int c] (g, pM I p, J, aP1 sl 53 rl) = some (some (some (.int (tI (decide (pk (sgn (I 52) len top) p = c))))), (g, pM I (ps (sgn (I 52) len top) c p), J, aP1 sl 53 rl)) := by
  show aE d 191 0 [.ref 46, .int c] [] _ = _
  simp only [b191_0, f185, aBi, b191_4, tI_0, f188_52 hl ht h1 h2 hp, b191_11, pM_17, nI_1, pM_u17]
  unfold ps pk
  by_cases e1 : p.2 = -1
  · simp only [e1, decide_true, if_true, Bool.true_eq_false, if_false]
    by_cases e2 : sgn (I 52) len top p.1 = c
    · rw [if_pos e2, if_pos e2, decide_eq_true e2]; rw [← e1]; rfl
    · rw [if_neg e2, if_neg e2, decide_eq_false e2]; rfl
  · have e2 : ¬ (-1 : Int32) = c := fun q => by rw [← q] at hc; exact absurd hc (by decide)
    simp only [e1, decide_false, if_true, if_false, e2]
    rfl
theorem f192_52 {p : Nat × Int32} {len top : Nat} (hl : I 46 15 = nI len) (ht : I 46 16 = nI top) (h1 : len ≤ 80) (h2 : top ≤ 80) (hp : p.1 ≤ 80) {c : Int32} (hc : 0 ≤ c) : aF d 192 [.ref 46, .int c] (g, pM I p, J, aP1 sl 53 rl) = some (some none, (g, pM I (nd (sgn (I 52) len top) c p), J, aP1 sl 53 rl)) := by
  show aE d 192 0 [.ref 46, .int c] [] _ = _
  simp only [b192_0, f191_52 hl ht h1 h2 hp hc, aBi, b192_5, tI_0, f186, aBv, b192_16, pM_17]
  unfold ps nd
  by_cases e1 : pk (sgn (I 52) len top) p = c
  · simp only [e1, decide_true, Bool.true_eq_false, if_false, if_true]
  · simp only [e1, decide_false, if_false, if_true]
theorem f187_52 {p : Nat × Int32} {len top : Nat} (hl : I 46 15 = nI len) (ht : I 46 16 = nI top) (h1 : len ≤ 80) (h2 : top ≤ 80) (hp : p.1 ≤ 80) (hB : byR (I 52)) {lo many hi : Int32} (hlo : 0 ≤ lo) (hh : lo + many - 1 = hi) (hhi : hi < 128) : aF d 187 [.ref 46, .int lo, .int many] (g, pM I p, J, aP1 sl 53 rl) = some (some (some (.int ((tk (sgn (I 52) len top) lo hi p).1 - lo))), (g, pM I (tk (sgn (I 52) len top) lo hi p).2, J, aP1 sl 53 rl)) := by
  show aE d 187 0 [.ref 46, .int lo, .int many] [] _ = _
  have e0 : ∀ n : Nat, nI (n + 1) - 1 = nI n := nI_pred
  simp only [b187_0, f185, aBi, b187_4, tI_0, f188_52 hl ht h1 h2 hp, b187_13, f181, hh, b187_22_d53, pM_17, nI_1, e0, pM_u17, f186, aBv, b187_33]
  unfold tk
  have hn : ¬ (0 : Int32) ≤ -1 := by decide
  by_cases e1 : p.2 = -1
  · have e2 : pk (sgn (I 52) len top) p = sgn (I 52) len top p.1 := by unfold pk; rw [if_pos e1]
    have e3 : flt p (nI p.1) = (p.1, nI p.1) := by unfold flt; rw [if_pos e1]
    simp only [e1, decide_true, Bool.true_eq_false, if_false, e2, e3]
    unfold inI
    by_cases e4 : sgn (I 52) len top p.1 < lo
    · simp only [e4, if_true, Int32.sub_self]
    · by_cases e5 : hi < sgn (I 52) len top p.1
      · have e6 : ¬ sgn (I 52) len top p.1 ≤ hi := by rw [int_le]; rw [int_lt] at e5; omega
        simp only [e4, e5, e6, if_true, if_false, Int32.sub_self]
      · have e6 : sgn (I 52) len top p.1 ≤ hi := by rw [int_le]; rw [int_lt] at e5; omega
        have e7 : p.1 < len ∧ p.1 < top := by
          apply Classical.byContradiction; intro q
          unfold sgn at e4
          rw [if_neg q] at e4
          rw [int_lt] at e4
          rw [int_le] at hlo
          have : (0 : Int32).toInt = 0 := rfl
          have : (-1 : Int32).toInt = -1 := rfl
          omega
        have e8 : sgn (I 52) len top p.1 = I 52 p.1 := by
          have e9 : sgn (I 52) len top p.1 = I 52 p.1 &&& 255 := if_pos e7
          rw [e9] at e6 ⊢
          refine hB _ ?_
          rw [int_lt] at *
          rw [int_le] at e6
          omega
        simp only [e4, e5, e6, if_false, if_true, n10]
        simp (disch := omega) only [pM_r, aBi, aBv, aBl, nI_1, nIle_t, nIle_f, nIlt_t, nIlt_f, nIeq_t, nIeq_f, nIneg, nI_clamp, nat_le_f, nat_le_t, nat_lt_f, nat_lt_t, or_self, or_false, false_or, if_true, if_false, ↓reduceIte, Int32.or_zero, Int32.add_zero, nIm2, nIm3, nIm4, nIp2, nIp4, nIp6, nIp8, nIp14, nIp16, nIp22, nIp24, nIp30, nIq2, nIq3, nIq4, hasI_0, aU_s, aU_i, aU_r, aU_u]
        rw [e8]
        unfold adv
        rw [e1]
  · have e2 : pk (sgn (I 52) len top) p = -1 := by unfold pk; rw [if_neg e1]
    have e3 : flt p (nI p.1) = p := by unfold flt; rw [if_neg e1]
    have e4 : (-1 : Int32) < lo := by
      rw [int_lt]; rw [int_le] at hlo
      have : (0 : Int32).toInt = 0 := rfl
      have : (-1 : Int32).toInt = -1 := rfl
      omega
    simp only [e1, decide_false, if_true, e2, e3, e4, Int32.sub_self]
theorem f189_52 {p : Nat × Int32} {len top m : Nat} (hl : I 46 15 = nI len) (ht : I 46 16 = nI top) (h1 : len ≤ 80) (h2 : top ≤ 80) (hp : p.1 ≤ top) (hB : byR (I 52)) (hm2 : m < 8) : aF d 189 [.ref 46, .int (nI (m + 1))] (g, pM I p, J, aP1 sl 53 rl) = some (some (some (.int (nm (sgn (I 52) len top) m p).1)), (g, pM I (nm (sgn (I 52) len top) m p).2, J, aP1 sl 53 rl)) := by
  show aE d 189 0 [.ref 46, .int (nI (m + 1)), aNo, aNo] [] _ = _
  have q (p : Nat × Int32) (hp : p.1 ≤ 80) : aF d 187 [.ref 46, .int 48, .int 10] (g, pM I p, J, aP1 sl 53 rl) = some (some (some (.int ((tk (sgn (I 52) len top) 48 57 p).1 - 48))), (g, pM I (tk (sgn (I 52) len top) 48 57 p).2, J, aP1 sl 53 rl)) := f187_52 hl ht h1 h2 hp hB (by decide) (by decide) (by decide)
  simp only [b189_0, q p (by omega), aBi, b189_8]
  have l : ∀ (k i : Nat) (v : Int32) (p : Nat × Int32), p.1 ≤ top → i + k = m + 1 → aE d 189 11 [.ref 46, .int (nI (m + 1)), .int v, .int (nI i)] [] (g, pM I p, J, aP1 sl 53 rl) = some (some (some (.int (nmL (sgn (I 52) len top) k v p).1)), (g, pM I (nmL (sgn (I 52) len top) k v p).2, J, aP1 sl 53 rl)) := by
    intro k
    induction k with
    | zero =>
      intro i v p hp hi
      rw [b189_11]
      simp (disch := omega) only [aBi, aBv, aBl, nI_1, nIle_t, nIle_f, nIlt_t, nIlt_f, nIeq_t, nIeq_f, nIneg, nI_clamp, nat_le_f, nat_le_t, nat_lt_f, nat_lt_t, or_self, or_false, false_or, if_true, if_false, ↓reduceIte, Int32.or_zero, Int32.add_zero, nIm2, nIm3, nIm4, nIp2, nIp4, nIp6, nIp8, nIp14, nIp16, nIp22, nIp24, nIp30, nIq2, nIq3, nIq4, hasI_0, aU_s, aU_i, aU_r, aU_u]
      rfl
    | succ k ih =>
      intro i v p hp hi
      rw [b189_11]
      simp (disch := omega) only [f185, b189_20, tI_0, f188_52 hl ht h1 h2 (show p.1 ≤ 80 by omega), b189_27, f181, b189_34, q p (by omega), b189_49, aBi, aBv, aBl, nI_1, nIle_t, nIle_f, nIlt_t, nIlt_f, nIeq_t, nIeq_f, nIneg, nI_clamp, nat_le_f, nat_le_t, nat_lt_f, nat_lt_t, or_self, or_false, false_or, if_true, if_false, ↓reduceIte, Int32.or_zero, Int32.add_zero, nIm2, nIm3, nIm4, nIp2, nIp4, nIp6, nIp8, nIp14, nIp16, nIp22, nIp24, nIp30, nIq2, nIq3, nIq4, hasI_0, aU_s, aU_i, aU_r, aU_u]
      unfold nmL
      by_cases e1 : p.2 = -1
      · have e2 : pk (sgn (I 52) len top) p = sgn (I 52) len top p.1 := by unfold pk; rw [if_pos e1]
        simp only [e1, decide_true, Bool.true_eq_false, if_false, e2]
        unfold inI
        by_cases e4 : sgn (I 52) len top p.1 < 48
        · simp only [e4, if_true]
        · by_cases e5 : (57 : Int32) < sgn (I 52) len top p.1
          · have e6 : ¬ sgn (I 52) len top p.1 ≤ 57 := by rw [int_le]; rw [int_lt] at e5; omega
            simp only [e4, e5, e6, if_true, if_false]
          · have e6 : sgn (I 52) len top p.1 ≤ 57 := by rw [int_le]; rw [int_lt] at e5; omega
            have e7 : tk (sgn (I 52) len top) 48 57 p = (sgn (I 52) len top p.1, adv p) := by
              unfold tk
              rw [e2, if_neg e4, if_pos e6]
            simp only [e4, e5, e6, if_true, if_false, n10, e7]
            have e8 : 10 * v + (sgn (I 52) len top p.1 - 48) = v * 10 + sgn (I 52) len top p.1 - 48 := by
              rw [Int32.mul_comm, Int32.sub_eq_add_neg, Int32.sub_eq_add_neg, Int32.add_assoc]
            rw [e8]
            exact ih (i + 1) _ _ (pk_ge (p := p) (lo := 48) (sgn_E _ _ _) (by decide) (by rw [e2]; exact e4)) (by omega)
      · have e2 : pk (sgn (I 52) len top) p = -1 := by unfold pk; rw [if_neg e1]
        simp only [e1, decide_false, if_true, e2, show ((-1 : Int32) < 48) = True from by decide]
  exact l m 1 _ _ (tk_at (sgn_E _ _ _) (by decide) hp).2 (by omega)
theorem f188_55 {p : Nat × Int32} {len top : Nat} (hl : I 46 15 = nI len) (ht : I 46 16 = nI top) (h1 : len ≤ 40) (h2 : top ≤ 80) (hp : p.1 ≤ 80) : aF d 188 [.ref 46] (g, pM I p, J, aP1 sl 56 rl) = some (some (some (.int (sgn (I 55) len top p.1))), (g, pM I p, J, aP1 sl 56 rl)) := by
  show aE d 188 0 [.ref 46] [] _ = _
  rw [b188_0_d56, pM_17, pM_o _ _ (by decide) (by decide), pM_o _ _ (by decide) (by decide), pM_r _ _ (by decide), hl, ht]
  unfold sgn
  by_cases e1 : len ≤ p.1
  · rw [if_neg (show ¬ (p.1 < len ∧ p.1 < top) by omega)]
    simp (disch := omega) only [aBi, aBv, aBl, nI_1, nIle_t, nIle_f, nIlt_t, nIlt_f, nIeq_t, nIeq_f, nIneg, nI_clamp, nat_le_f, nat_le_t, nat_lt_f, nat_lt_t, or_self, or_false, false_or, if_true, if_false, ↓reduceIte, Int32.or_zero, Int32.add_zero, nIm2, nIm3, nIm4, nIp2, nIp4, nIp6, nIp8, nIp14, nIp16, nIp22, nIp24, nIp30, nIq2, nIq3, nIq4, hasI_0, aU_s, aU_i, aU_r, aU_u]
  · by_cases e2 : top ≤ p.1
    · rw [if_neg (show ¬ (p.1 < len ∧ p.1 < top) by omega)]
      simp (disch := omega) only [aBi, aBv, aBl, nI_1, nIle_t, nIle_f, nIlt_t, nIlt_f, nIeq_t, nIeq_f, nIneg, nI_clamp, nat_le_f, nat_le_t, nat_lt_f, nat_lt_t, or_self, or_false, false_or, if_true, if_false, ↓reduceIte, Int32.or_zero, Int32.add_zero, nIm2, nIm3, nIm4, nIp2, nIp4, nIp6, nIp8, nIp14, nIp16, nIp22, nIp24, nIp30, nIq2, nIq3, nIq4, hasI_0, aU_s, aU_i, aU_r, aU_u]
    · rw [if_pos (show p.1 < len ∧ p.1 < top by omega)]
      simp (disch := omega) only [aBi, aBv, aBl, nI_1, nIle_t, nIle_f, nIlt_t, nIlt_f, nIeq_t, nIeq_f, nIneg, nI_clamp, nat_le_f, nat_le_t, nat_lt_f, nat_lt_t, or_self, or_false, false_or, if_true, if_false, ↓reduceIte, Int32.or_zero, Int32.add_zero, nIm2, nIm3, nIm4, nIp2, nIp4, nIp6, nIp8, nIp14, nIp16, nIp22, nIp24, nIp30, nIq2, nIq3, nIq4, hasI_0, aU_s, aU_i, aU_r, aU_u]
theorem f191_55 {p : Nat × Int32} {len top : Nat} (hl : I 46 15 = nI len) (ht : I 46 16 = nI top) (h1 : len ≤ 40) (h2 : top ≤ 80) (hp : p.1 ≤ 80) {c : Int32} (hc : 0 ≤ c) : aF d 191 [.ref 46, .int c] (g, pM I p, J, aP1 sl 56 rl) = some (some (some (.int (tI (decide (pk (sgn (I 55) len top) p = c))))), (g, pM I (ps (sgn (I 55) len top) c p), J, aP1 sl 56 rl)) := by
  show aE d 191 0 [.ref 46, .int c] [] _ = _
  simp only [b191_0, f185, aBi, b191_4, tI_0, f188_55 hl ht h1 h2 hp, b191_11, pM_17, nI_1, pM_u17]
  unfold ps pk
  by_cases e1 : p.2 = -1
  · simp only [e1, decide_true, if_true, Bool.true_eq_false, if_false]
    by_cases e2 : sgn (I 55) len top p.1 = c
    · rw [if_pos e2, if_pos e2, decide_eq_true e2]; rw [← e1]; rfl
    · rw [if_neg e2, if_neg e2, decide_eq_false e2]; rfl
  · have e2 : ¬ (-1 : Int32) = c := fun q => by rw [← q] at hc; exact absurd hc (by decide)
    simp only [e1, decide_false, if_true, if_false, e2]
    rfl
theorem f192_55 {p : Nat × Int32} {len top : Nat} (hl : I 46 15 = nI len) (ht : I 46 16 = nI top) (h1 : len ≤ 40) (h2 : top ≤ 80) (hp : p.1 ≤ 80) {c : Int32} (hc : 0 ≤ c) : aF d 192 [.ref 46, .int c] (g, pM I p, J, aP1 sl 56 rl) = some (some none, (g, pM I (nd (sgn (I 55) len top) c p), J, aP1 sl 56 rl)) := by
  show aE d 192 0 [.ref 46, .int c] [] _ = _
  simp only [b192_0, f191_55 hl ht h1 h2 hp hc, aBi, b192_5, tI_0, f186, aBv, b192_16, pM_17]
  unfold ps nd
  by_cases e1 : pk (sgn (I 55) len top) p = c
  · simp only [e1, decide_true, Bool.true_eq_false, if_false, if_true]
  · simp only [e1, decide_false, if_false, if_true]
theorem f187_55 {p : Nat × Int32} {len top : Nat} (hl : I 46 15 = nI len) (ht : I 46 16 = nI top) (h1 : len ≤ 40) (h2 : top ≤ 80) (hp : p.1 ≤ 80) (hB : byR (I 55)) {lo many hi : Int32} (hlo : 0 ≤ lo) (hh : lo + many - 1 = hi) (hhi : hi < 128) : aF d 187 [.ref 46, .int lo, .int many] (g, pM I p, J, aP1 sl 56 rl) = some (some (some (.int ((tk (sgn (I 55) len top) lo hi p).1 - lo))), (g, pM I (tk (sgn (I 55) len top) lo hi p).2, J, aP1 sl 56 rl)) := by
  show aE d 187 0 [.ref 46, .int lo, .int many] [] _ = _
  have e0 : ∀ n : Nat, nI (n + 1) - 1 = nI n := nI_pred
  simp only [b187_0, f185, aBi, b187_4, tI_0, f188_55 hl ht h1 h2 hp, b187_13, f181, hh, b187_22_d56, pM_17, nI_1, e0, pM_u17, f186, aBv, b187_33]
  unfold tk
  have hn : ¬ (0 : Int32) ≤ -1 := by decide
  by_cases e1 : p.2 = -1
  · have e2 : pk (sgn (I 55) len top) p = sgn (I 55) len top p.1 := by unfold pk; rw [if_pos e1]
    have e3 : flt p (nI p.1) = (p.1, nI p.1) := by unfold flt; rw [if_pos e1]
    simp only [e1, decide_true, Bool.true_eq_false, if_false, e2, e3]
    unfold inI
    by_cases e4 : sgn (I 55) len top p.1 < lo
    · simp only [e4, if_true, Int32.sub_self]
    · by_cases e5 : hi < sgn (I 55) len top p.1
      · have e6 : ¬ sgn (I 55) len top p.1 ≤ hi := by rw [int_le]; rw [int_lt] at e5; omega
        simp only [e4, e5, e6, if_true, if_false, Int32.sub_self]
      · have e6 : sgn (I 55) len top p.1 ≤ hi := by rw [int_le]; rw [int_lt] at e5; omega
        have e7 : p.1 < len ∧ p.1 < top := by
          apply Classical.byContradiction; intro q
          unfold sgn at e4
          rw [if_neg q] at e4
          rw [int_lt] at e4
          rw [int_le] at hlo
          have : (0 : Int32).toInt = 0 := rfl
          have : (-1 : Int32).toInt = -1 := rfl
          omega
        have e8 : sgn (I 55) len top p.1 = I 55 p.1 := by
          have e9 : sgn (I 55) len top p.1 = I 55 p.1 &&& 255 := if_pos e7
          rw [e9] at e6 ⊢
          refine hB _ ?_
          rw [int_lt] at *
          rw [int_le] at e6
          omega
        simp only [e4, e5, e6, if_false, if_true, n10]
        simp (disch := omega) only [pM_r, aBi, aBv, aBl, nI_1, nIle_t, nIle_f, nIlt_t, nIlt_f, nIeq_t, nIeq_f, nIneg, nI_clamp, nat_le_f, nat_le_t, nat_lt_f, nat_lt_t, or_self, or_false, false_or, if_true, if_false, ↓reduceIte, Int32.or_zero, Int32.add_zero, nIm2, nIm3, nIm4, nIp2, nIp4, nIp6, nIp8, nIp14, nIp16, nIp22, nIp24, nIp30, nIq2, nIq3, nIq4, hasI_0, aU_s, aU_i, aU_r, aU_u]
        rw [e8]
        unfold adv
        rw [e1]
  · have e2 : pk (sgn (I 55) len top) p = -1 := by unfold pk; rw [if_neg e1]
    have e3 : flt p (nI p.1) = p := by unfold flt; rw [if_neg e1]
    have e4 : (-1 : Int32) < lo := by
      rw [int_lt]; rw [int_le] at hlo
      have : (0 : Int32).toInt = 0 := rfl
      have : (-1 : Int32).toInt = -1 := rfl
      omega
    simp only [e1, decide_false, if_true, e2, e3, e4, Int32.sub_self]
theorem f189_55 {p : Nat × Int32} {len top m : Nat} (hl : I 46 15 = nI len) (ht : I 46 16 = nI top) (h1 : len ≤ 40) (h2 : top ≤ 80) (hp : p.1 ≤ top) (hB : byR (I 55)) (hm2 : m < 8) : aF d 189 [.ref 46, .int (nI (m + 1))] (g, pM I p, J, aP1 sl 56 rl) = some (some (some (.int (nm (sgn (I 55) len top) m p).1)), (g, pM I (nm (sgn (I 55) len top) m p).2, J, aP1 sl 56 rl)) := by
  show aE d 189 0 [.ref 46, .int (nI (m + 1)), aNo, aNo] [] _ = _
  have q (p : Nat × Int32) (hp : p.1 ≤ 80) : aF d 187 [.ref 46, .int 48, .int 10] (g, pM I p, J, aP1 sl 56 rl) = some (some (some (.int ((tk (sgn (I 55) len top) 48 57 p).1 - 48))), (g, pM I (tk (sgn (I 55) len top) 48 57 p).2, J, aP1 sl 56 rl)) := f187_55 hl ht h1 h2 hp hB (by decide) (by decide) (by decide)
  simp only [b189_0, q p (by omega), aBi, b189_8]
  have l : ∀ (k i : Nat) (v : Int32) (p : Nat × Int32), p.1 ≤ top → i + k = m + 1 → aE d 189 11 [.ref 46, .int (nI (m + 1)), .int v, .int (nI i)] [] (g, pM I p, J, aP1 sl 56 rl) = some (some (some (.int (nmL (sgn (I 55) len top) k v p).1)), (g, pM I (nmL (sgn (I 55) len top) k v p).2, J, aP1 sl 56 rl)) := by
    intro k
    induction k with
    | zero =>
      intro i v p hp hi
      rw [b189_11]
      simp (disch := omega) only [aBi, aBv, aBl, nI_1, nIle_t, nIle_f, nIlt_t, nIlt_f, nIeq_t, nIeq_f, nIneg, nI_clamp, nat_le_f, nat_le_t, nat_lt_f, nat_lt_t, or_self, or_false, false_or, if_true, if_false, ↓reduceIte, Int32.or_zero, Int32.add_zero, nIm2, nIm3, nIm4, nIp2, nIp4, nIp6, nIp8, nIp14, nIp16, nIp22, nIp24, nIp30, nIq2, nIq3, nIq4, hasI_0, aU_s, aU_i, aU_r, aU_u]
      rfl
    | succ k ih =>
      intro i v p hp hi
      rw [b189_11]
      simp (disch := omega) only [f185, b189_20, tI_0, f188_55 hl ht h1 h2 (show p.1 ≤ 80 by omega), b189_27, f181, b189_34, q p (by omega), b189_49, aBi, aBv, aBl, nI_1, nIle_t, nIle_f, nIlt_t, nIlt_f, nIeq_t, nIeq_f, nIneg, nI_clamp, nat_le_f, nat_le_t, nat_lt_f, nat_lt_t, or_self, or_false, false_or, if_true, if_false, ↓reduceIte, Int32.or_zero, Int32.add_zero, nIm2, nIm3, nIm4, nIp2, nIp4, nIp6, nIp8, nIp14, nIp16, nIp22, nIp24, nIp30, nIq2, nIq3, nIq4, hasI_0, aU_s, aU_i, aU_r, aU_u]
      unfold nmL
      by_cases e1 : p.2 = -1
      · have e2 : pk (sgn (I 55) len top) p = sgn (I 55) len top p.1 := by unfold pk; rw [if_pos e1]
        simp only [e1, decide_true, Bool.true_eq_false, if_false, e2]
        unfold inI
        by_cases e4 : sgn (I 55) len top p.1 < 48
        · simp only [e4, if_true]
        · by_cases e5 : (57 : Int32) < sgn (I 55) len top p.1
          · have e6 : ¬ sgn (I 55) len top p.1 ≤ 57 := by rw [int_le]; rw [int_lt] at e5; omega
            simp only [e4, e5, e6, if_true, if_false]
          · have e6 : sgn (I 55) len top p.1 ≤ 57 := by rw [int_le]; rw [int_lt] at e5; omega
            have e7 : tk (sgn (I 55) len top) 48 57 p = (sgn (I 55) len top p.1, adv p) := by
              unfold tk
              rw [e2, if_neg e4, if_pos e6]
            simp only [e4, e5, e6, if_true, if_false, n10, e7]
            have e8 : 10 * v + (sgn (I 55) len top p.1 - 48) = v * 10 + sgn (I 55) len top p.1 - 48 := by
              rw [Int32.mul_comm, Int32.sub_eq_add_neg, Int32.sub_eq_add_neg, Int32.add_assoc]
            rw [e8]
            exact ih (i + 1) _ _ (pk_ge (p := p) (lo := 48) (sgn_E _ _ _) (by decide) (by rw [e2]; exact e4)) (by omega)
      · have e2 : pk (sgn (I 55) len top) p = -1 := by unfold pk; rw [if_neg e1]
        simp only [e1, decide_false, if_true, e2, show ((-1 : Int32) < 48) = True from by decide]
  exact l m 1 _ _ (tk_at (sgn_E _ _ _) (by decide) hp).2 (by omega)
theorem f188_56 {p : Nat × Int32} {len top : Nat} (hl : I 46 15 = nI len) (ht : I 46 16 = nI top) (h1 : len ≤ 40) (h2 : top ≤ 80) (hp : p.1 ≤ 80) : aF d 188 [.ref 46] (g, pM I p, J, aP1 sl 57 rl) = some (some (some (.int (sgn (I 56) len top p.1))), (g, pM I p, J, aP1 sl 57 rl)) := by
  show aE d 188 0 [.ref 46] [] _ = _
  rw [b188_0_d57, pM_17, pM_o _ _ (by decide) (by decide), pM_o _ _ (by decide) (by decide), pM_r _ _ (by decide), hl, ht]
  unfold sgn
  by_cases e1 : len ≤ p.1
  · rw [if_neg (show ¬ (p.1 < len ∧ p.1 < top) by omega)]
    simp (disch := omega) only [aBi, aBv, aBl, nI_1, nIle_t, nIle_f, nIlt_t, nIlt_f, nIeq_t, nIeq_f, nIneg, nI_clamp, nat_le_f, nat_le_t, nat_lt_f, nat_lt_t, or_self, or_false, false_or, if_true, if_false, ↓reduceIte, Int32.or_zero, Int32.add_zero, nIm2, nIm3, nIm4, nIp2, nIp4, nIp6, nIp8, nIp14, nIp16, nIp22, nIp24, nIp30, nIq2, nIq3, nIq4, hasI_0, aU_s, aU_i, aU_r, aU_u]
  · by_cases e2 : top ≤ p.1
    · rw [if_neg (show ¬ (p.1 < len ∧ p.1 < top) by omega)]
      simp (disch := omega) only [aBi, aBv, aBl, nI_1, nIle_t, nIle_f, nIlt_t, nIlt_f, nIeq_t, nIeq_f, nIneg, nI_clamp, nat_le_f, nat_le_t, nat_lt_f, nat_lt_t, or_self, or_false, false_or, if_true, if_false, ↓reduceIte, Int32.or_zero, Int32.add_zero, nIm2, nIm3, nIm4, nIp2, nIp4, nIp6, nIp8, nIp14, nIp16, nIp22, nIp24, nIp30, nIq2, nIq3, nIq4, hasI_0, aU_s, aU_i, aU_r, aU_u]
    · rw [if_pos (show p.1 < len ∧ p.1 < top by omega)]
      simp (disch := omega) only [aBi, aBv, aBl, nI_1, nIle_t, nIle_f, nIlt_t, nIlt_f, nIeq_t, nIeq_f, nIneg, nI_clamp, nat_le_f, nat_le_t, nat_lt_f, nat_lt_t, or_self, or_false, false_or, if_true, if_false, ↓reduceIte, Int32.or_zero, Int32.add_zero, nIm2, nIm3, nIm4, nIp2, nIp4, nIp6, nIp8, nIp14, nIp16, nIp22, nIp24, nIp30, nIq2, nIq3, nIq4, hasI_0, aU_s, aU_i, aU_r, aU_u]
theorem f191_56 {p : Nat × Int32} {len top : Nat} (hl : I 46 15 = nI len) (ht : I 46 16 = nI top) (h1 : len ≤ 40) (h2 : top ≤ 80) (hp : p.1 ≤ 80) {c : Int32} (hc : 0 ≤ c) : aF d 191 [.ref 46, .int c] (g, pM I p, J, aP1 sl 57 rl) = some (some (some (.int (tI (decide (pk (sgn (I 56) len top) p = c))))), (g, pM I (ps (sgn (I 56) len top) c p), J, aP1 sl 57 rl)) := by
  show aE d 191 0 [.ref 46, .int c] [] _ = _
  simp only [b191_0, f185, aBi, b191_4, tI_0, f188_56 hl ht h1 h2 hp, b191_11, pM_17, nI_1, pM_u17]
  unfold ps pk
  by_cases e1 : p.2 = -1
  · simp only [e1, decide_true, if_true, Bool.true_eq_false, if_false]
    by_cases e2 : sgn (I 56) len top p.1 = c
    · rw [if_pos e2, if_pos e2, decide_eq_true e2]; rw [← e1]; rfl
    · rw [if_neg e2, if_neg e2, decide_eq_false e2]; rfl
  · have e2 : ¬ (-1 : Int32) = c := fun q => by rw [← q] at hc; exact absurd hc (by decide)
    simp only [e1, decide_false, if_true, if_false, e2]
    rfl
theorem f192_56 {p : Nat × Int32} {len top : Nat} (hl : I 46 15 = nI len) (ht : I 46 16 = nI top) (h1 : len ≤ 40) (h2 : top ≤ 80) (hp : p.1 ≤ 80) {c : Int32} (hc : 0 ≤ c) : aF d 192 [.ref 46, .int c] (g, pM I p, J, aP1 sl 57 rl) = some (some none, (g, pM I (nd (sgn (I 56) len top) c p), J, aP1 sl 57 rl)) := by
  show aE d 192 0 [.ref 46, .int c] [] _ = _
  simp only [b192_0, f191_56 hl ht h1 h2 hp hc, aBi, b192_5, tI_0, f186, aBv, b192_16, pM_17]
  unfold ps nd
  by_cases e1 : pk (sgn (I 56) len top) p = c
  · simp only [e1, decide_true, Bool.true_eq_false, if_false, if_true]
  · simp only [e1, decide_false, if_false, if_true]
theorem f187_56 {p : Nat × Int32} {len top : Nat} (hl : I 46 15 = nI len) (ht : I 46 16 = nI top) (h1 : len ≤ 40) (h2 : top ≤ 80) (hp : p.1 ≤ 80) (hB : byR (I 56)) {lo many hi : Int32} (hlo : 0 ≤ lo) (hh : lo + many - 1 = hi) (hhi : hi < 128) : aF d 187 [.ref 46, .int lo, .int many] (g, pM I p, J, aP1 sl 57 rl) = some (some (some (.int ((tk (sgn (I 56) len top) lo hi p).1 - lo))), (g, pM I (tk (sgn (I 56) len top) lo hi p).2, J, aP1 sl 57 rl)) := by
  show aE d 187 0 [.ref 46, .int lo, .int many] [] _ = _
  have e0 : ∀ n : Nat, nI (n + 1) - 1 = nI n := nI_pred
  simp only [b187_0, f185, aBi, b187_4, tI_0, f188_56 hl ht h1 h2 hp, b187_13, f181, hh, b187_22_d57, pM_17, nI_1, e0, pM_u17, f186, aBv, b187_33]
  unfold tk
  have hn : ¬ (0 : Int32) ≤ -1 := by decide
  by_cases e1 : p.2 = -1
  · have e2 : pk (sgn (I 56) len top) p = sgn (I 56) len top p.1 := by unfold pk; rw [if_pos e1]
    have e3 : flt p (nI p.1) = (p.1, nI p.1) := by unfold flt; rw [if_pos e1]
    simp only [e1, decide_true, Bool.true_eq_false, if_false, e2, e3]
    unfold inI
    by_cases e4 : sgn (I 56) len top p.1 < lo
    · simp only [e4, if_true, Int32.sub_self]
    · by_cases e5 : hi < sgn (I 56) len top p.1
      · have e6 : ¬ sgn (I 56) len top p.1 ≤ hi := by rw [int_le]; rw [int_lt] at e5; omega
        simp only [e4, e5, e6, if_true, if_false, Int32.sub_self]
      · have e6 : sgn (I 56) len top p.1 ≤ hi := by rw [int_le]; rw [int_lt] at e5; omega
        have e7 : p.1 < len ∧ p.1 < top := by
          apply Classical.byContradiction; intro q
          unfold sgn at e4
          rw [if_neg q] at e4
          rw [int_lt] at e4
          rw [int_le] at hlo
          have : (0 : Int32).toInt = 0 := rfl
          have : (-1 : Int32).toInt = -1 := rfl
          omega
        have e8 : sgn (I 56) len top p.1 = I 56 p.1 := by
          have e9 : sgn (I 56) len top p.1 = I 56 p.1 &&& 255 := if_pos e7
          rw [e9] at e6 ⊢
          refine hB _ ?_
          rw [int_lt] at *
          rw [int_le] at e6
          omega
        simp only [e4, e5, e6, if_false, if_true, n10]
        simp (disch := omega) only [pM_r, aBi, aBv, aBl, nI_1, nIle_t, nIle_f, nIlt_t, nIlt_f, nIeq_t, nIeq_f, nIneg, nI_clamp, nat_le_f, nat_le_t, nat_lt_f, nat_lt_t, or_self, or_false, false_or, if_true, if_false, ↓reduceIte, Int32.or_zero, Int32.add_zero, nIm2, nIm3, nIm4, nIp2, nIp4, nIp6, nIp8, nIp14, nIp16, nIp22, nIp24, nIp30, nIq2, nIq3, nIq4, hasI_0, aU_s, aU_i, aU_r, aU_u]
        rw [e8]
        unfold adv
        rw [e1]
  · have e2 : pk (sgn (I 56) len top) p = -1 := by unfold pk; rw [if_neg e1]
    have e3 : flt p (nI p.1) = p := by unfold flt; rw [if_neg e1]
    have e4 : (-1 : Int32) < lo := by
      rw [int_lt]; rw [int_le] at hlo
      have : (0 : Int32).toInt = 0 := rfl
      have : (-1 : Int32).toInt = -1 := rfl
      omega
    simp only [e1, decide_false, if_true, e2, e3, e4, Int32.sub_self]
theorem f189_56 {p : Nat × Int32} {len top m : Nat} (hl : I 46 15 = nI len) (ht : I 46 16 = nI top) (h1 : len ≤ 40) (h2 : top ≤ 80) (hp : p.1 ≤ top) (hB : byR (I 56)) (hm2 : m < 8) : aF d 189 [.ref 46, .int (nI (m + 1))] (g, pM I p, J, aP1 sl 57 rl) = some (some (some (.int (nm (sgn (I 56) len top) m p).1)), (g, pM I (nm (sgn (I 56) len top) m p).2, J, aP1 sl 57 rl)) := by
  show aE d 189 0 [.ref 46, .int (nI (m + 1)), aNo, aNo] [] _ = _
  have q (p : Nat × Int32) (hp : p.1 ≤ 80) : aF d 187 [.ref 46, .int 48, .int 10] (g, pM I p, J, aP1 sl 57 rl) = some (some (some (.int ((tk (sgn (I 56) len top) 48 57 p).1 - 48))), (g, pM I (tk (sgn (I 56) len top) 48 57 p).2, J, aP1 sl 57 rl)) := f187_56 hl ht h1 h2 hp hB (by decide) (by decide) (by decide)
  simp only [b189_0, q p (by omega), aBi, b189_8]
  have l : ∀ (k i : Nat) (v : Int32) (p : Nat × Int32), p.1 ≤ top → i + k = m + 1 → aE d 189 11 [.ref 46, .int (nI (m + 1)), .int v, .int (nI i)] [] (g, pM I p, J, aP1 sl 57 rl) = some (some (some (.int (nmL (sgn (I 56) len top) k v p).1)), (g, pM I (nmL (sgn (I 56) len top) k v p).2, J, aP1 sl 57 rl)) := by
    intro k
    induction k with
    | zero =>
      intro i v p hp hi
      rw [b189_11]
      simp (disch := omega) only [aBi, aBv, aBl, nI_1, nIle_t, nIle_f, nIlt_t, nIlt_f, nIeq_t, nIeq_f, nIneg, nI_clamp, nat_le_f, nat_le_t, nat_lt_f, nat_lt_t, or_self, or_false, false_or, if_true, if_false, ↓reduceIte, Int32.or_zero, Int32.add_zero, nIm2, nIm3, nIm4, nIp2, nIp4, nIp6, nIp8, nIp14, nIp16, nIp22, nIp24, nIp30, nIq2, nIq3, nIq4, hasI_0, aU_s, aU_i, aU_r, aU_u]
      rfl
    | succ k ih =>
      intro i v p hp hi
      rw [b189_11]
      simp (disch := omega) only [f185, b189_20, tI_0, f188_56 hl ht h1 h2 (show p.1 ≤ 80 by omega), b189_27, f181, b189_34, q p (by omega), b189_49, aBi, aBv, aBl, nI_1, nIle_t, nIle_f, nIlt_t, nIlt_f, nIeq_t, nIeq_f, nIneg, nI_clamp, nat_le_f, nat_le_t, nat_lt_f, nat_lt_t, or_self, or_false, false_or, if_true, if_false, ↓reduceIte, Int32.or_zero, Int32.add_zero, nIm2, nIm3, nIm4, nIp2, nIp4, nIp6, nIp8, nIp14, nIp16, nIp22, nIp24, nIp30, nIq2, nIq3, nIq4, hasI_0, aU_s, aU_i, aU_r, aU_u]
      unfold nmL
      by_cases e1 : p.2 = -1
      · have e2 : pk (sgn (I 56) len top) p = sgn (I 56) len top p.1 := by unfold pk; rw [if_pos e1]
        simp only [e1, decide_true, Bool.true_eq_false, if_false, e2]
        unfold inI
        by_cases e4 : sgn (I 56) len top p.1 < 48
        · simp only [e4, if_true]
        · by_cases e5 : (57 : Int32) < sgn (I 56) len top p.1
          · have e6 : ¬ sgn (I 56) len top p.1 ≤ 57 := by rw [int_le]; rw [int_lt] at e5; omega
            simp only [e4, e5, e6, if_true, if_false]
          · have e6 : sgn (I 56) len top p.1 ≤ 57 := by rw [int_le]; rw [int_lt] at e5; omega
            have e7 : tk (sgn (I 56) len top) 48 57 p = (sgn (I 56) len top p.1, adv p) := by
              unfold tk
              rw [e2, if_neg e4, if_pos e6]
            simp only [e4, e5, e6, if_true, if_false, n10, e7]
            have e8 : 10 * v + (sgn (I 56) len top p.1 - 48) = v * 10 + sgn (I 56) len top p.1 - 48 := by
              rw [Int32.mul_comm, Int32.sub_eq_add_neg, Int32.sub_eq_add_neg, Int32.add_assoc]
            rw [e8]
            exact ih (i + 1) _ _ (pk_ge (p := p) (lo := 48) (sgn_E _ _ _) (by decide) (by rw [e2]; exact e4)) (by omega)
      · have e2 : pk (sgn (I 56) len top) p = -1 := by unfold pk; rw [if_neg e1]
        simp only [e1, decide_false, if_true, e2, show ((-1 : Int32) < 48) = True from by decide]
  exact l m 1 _ _ (tk_at (sgn_E _ _ _) (by decide) hp).2 (by omega)
end T02
