/-! fits, ask: tied -/
variable {d : Nat} {g : Nat × Nat × Nat} {I : Nat → Nat → Int32} {J : Nat → Nat → Int64} {sl rd rl : Nat} {t n m q : Nat}
def fp (c18 c19 c20 c21 : Nat → Int32) (i : Nat) (w v : Int32) : Bool :=
  if w = 0 then (decide (c19 i = 0) == decide (v = 1)) else if w = 1 then !decide (c18 i < v) else if w = 2 then !decide (v < c20 i) else if w = 3 then hasT (c21 i) v else !hasT (c21 i) v
theorem ix5c {p : Nat} (h : p < 5) : p = 0 ∨ p = 1 ∨ p = 2 ∨ p = 3 ∨ p = 4 := by omega
theorem f155 {i p : Nat} (hi : i < 8) (hp : p < 5) (v : Int32) : aF d 155 [.ref 14, .int (nI i), .int (nI p), .int v] (g, I, J, aP1 sl rd rl) = some (some (some (.int (tI (fp (I 18) (I 19) (I 20) (I 21) i (nI p) v)))), (g, I, J, aP1 sl rd rl)) := by
  show aE d 155 0 [.ref 14, .int (nI i), .int (nI p), .int v] [] _ = _
  rw [b155_0]
  rcases ix5c hp with rfl | rfl | rfl | rfl | rfl
  · rw [show (nI 0) = (0 : Int32) from rfl, b155_1_c0, show fp (I 18) (I 19) (I 20) (I 21) i 0 v = (decide (I 19 i = 0) == decide (v = 1)) from rfl]
    simp (disch := omega) only [aBi, aBv, aBl, nI_1, nIle_t, nIle_f, nIlt_t, nIlt_f, nIeq_t, nIeq_f, nIneg, nI_clamp, nat_le_f, nat_le_t, nat_lt_f, nat_lt_t, or_self, or_false, false_or, if_true, if_false, ↓reduceIte, Int32.or_zero, Int32.add_zero, nIm2, nIm3, nIm4, nIp2, nIp4, nIp6, nIp8, nIp14, nIp16, nIp22, nIp24, nIp30, nIq2, nIq3, nIq4, hasI_0, aU_s, aU_i, aU_r, aU_u]
    by_cases h1 : I 19 i = 0 <;> by_cases h2 : v = 1 <;> simp only [h1, h2, if_true, if_false, decide_true, decide_false] <;> rfl
  · rw [show (nI 1) = (1 : Int32) from rfl, b155_1_c1, show fp (I 18) (I 19) (I 20) (I 21) i 1 v = !decide (I 18 i < v) from rfl]
    simp (disch := omega) only [aBi, aBv, aBl, nI_1, nIle_t, nIle_f, nIlt_t, nIlt_f, nIeq_t, nIeq_f, nIneg, nI_clamp, nat_le_f, nat_le_t, nat_lt_f, nat_lt_t, or_self, or_false, false_or, if_true, if_false, ↓reduceIte, Int32.or_zero, Int32.add_zero, nIm2, nIm3, nIm4, nIp2, nIp4, nIp6, nIp8, nIp14, nIp16, nIp22, nIp24, nIp30, nIq2, nIq3, nIq4, hasI_0, aU_s, aU_i, aU_r, aU_u]
    by_cases h1 : I 18 i < v <;> simp only [h1, if_true, if_false, decide_true, decide_false] <;> rfl
  · rw [show (nI 2) = (2 : Int32) from rfl, b155_1_c2, show fp (I 18) (I 19) (I 20) (I 21) i 2 v = !decide (v < I 20 i) from rfl]
    simp (disch := omega) only [aBi, aBv, aBl, nI_1, nIle_t, nIle_f, nIlt_t, nIlt_f, nIeq_t, nIeq_f, nIneg, nI_clamp, nat_le_f, nat_le_t, nat_lt_f, nat_lt_t, or_self, or_false, false_or, if_true, if_false, ↓reduceIte, Int32.or_zero, Int32.add_zero, nIm2, nIm3, nIm4, nIp2, nIp4, nIp6, nIp8, nIp14, nIp16, nIp22, nIp24, nIp30, nIq2, nIq3, nIq4, hasI_0, aU_s, aU_i, aU_r, aU_u]
    by_cases h1 : v < I 20 i <;> simp only [h1, if_true, if_false, decide_true, decide_false] <;> rfl
  · rw [show (nI 3) = (3 : Int32) from rfl, b155_1_c3, show fp (I 18) (I 19) (I 20) (I 21) i 3 v = hasT (I 21 i) v from rfl]
    simp (disch := omega) only [f93, b155_107, nar_t, aBi, aBv, aBl, nI_1, nIle_t, nIle_f, nIlt_t, nIlt_f, nIeq_t, nIeq_f, nIneg, nI_clamp, nat_le_f, nat_le_t, nat_lt_f, nat_lt_t, or_self, or_false, false_or, if_true, if_false, ↓reduceIte, Int32.or_zero, Int32.add_zero, nIm2, nIm3, nIm4, nIp2, nIp4, nIp6, nIp8, nIp14, nIp16, nIp22, nIp24, nIp30, nIq2, nIq3, nIq4, hasI_0, aU_s, aU_i, aU_r, aU_u]
  · rw [show (nI 4) = (4 : Int32) from rfl, s155_1 _ _ _ _ (by decide), b155_108, show fp (I 18) (I 19) (I 20) (I 21) i 4 v = !hasT (I 21 i) v from rfl]
    simp (disch := omega) only [f93, b155_118, aBi, aBv, aBl, nI_1, nIle_t, nIle_f, nIlt_t, nIlt_f, nIeq_t, nIeq_f, nIneg, nI_clamp, nat_le_f, nat_le_t, nat_lt_f, nat_lt_t, or_self, or_false, false_or, if_true, if_false, ↓reduceIte, Int32.or_zero, Int32.add_zero, nIm2, nIm3, nIm4, nIp2, nIp4, nIp6, nIp8, nIp14, nIp16, nIp22, nIp24, nIp30, nIq2, nIq3, nIq4, hasI_0, aU_s, aU_i, aU_r, aU_u]
    cases hasT (I 21 i) v <;> rfl
theorem col01 {c v : Nat} (hc : c < 2) (hv : v < 2) : (if nI c = 1 - nI v then (1 : Int32) else 0) = tI (decide (nI c = 0) == decide (nI v = 1)) := by
  rcases (by omega : c = 0 ∨ c = 1) with rfl | rfl <;> rcases (by omega : v = 0 ∨ v = 1) with rfl | rfl <;> decide
theorem f281 {c18 c19 c20 c21 : Nat → Int32} {i p : Nat} (hi : i < 8) (hp : p < 5) (v : Int32) (e18 : I 50 (4 * i) = c18 i) (e19 : I 50 (4 * i + 1) = c19 i) (e20 : I 50 (4 * i + 2) = c20 i) (e21 : I 50 (4 * i + 3) = c21 i) (h01 : ∃ c, c < 2 ∧ c19 i = nI c) (hv : p = 0 → ∃ k, k < 2 ∧ v = nI k) : aF d 281 [.ref 46, .int (nI i), .int (nI p), .int v] (g, I, J, aP1 sl rd rl) = some (some (some (.int (tI (fp c18 c19 c20 c21 i (nI p) v)))), (g, I, J, aP1 sl rd rl)) := by
  show aE d 281 0 [.ref 46, .int (nI i), .int (nI p), .int v] [] _ = _
  have i1 : (4 * nI i + 1) = nI (4 * i + 1) := by rw [nIm4]; exact nI_add _ 1
  have i2 : (4 * nI i + 2) = nI (4 * i + 2) := by rw [nIm4]; exact nI_add _ 2
  have i3 : (4 * nI i + 3) = nI (4 * i + 3) := by rw [nIm4]; exact nI_add _ 3
  rw [b281_0]
  rcases ix5c hp with rfl | rfl | rfl | rfl | rfl
  · obtain ⟨c, hc, ec⟩ := h01
    obtain ⟨k, hk, rfl⟩ := hv rfl
    rw [show (nI 0) = (0 : Int32) from rfl, b281_1_c0, show fp c18 c19 c20 c21 i 0 (nI k) = (decide (c19 i = 0) == decide (nI k = 1)) from rfl, i1]
    simp (disch := omega) only [e19, ec, aBi, aBv, aBl, nI_1, nIle_t, nIle_f, nIlt_t, nIlt_f, nIeq_t, nIeq_f, nIneg, nI_clamp, nat_le_f, nat_le_t, nat_lt_f, nat_lt_t, or_self, or_false, false_or, if_true, if_false, ↓reduceIte, Int32.or_zero, Int32.add_zero, nIm2, nIm3, nIm4, nIp2, nIp4, nIp6, nIp8, nIp14, nIp16, nIp22, nIp24, nIp30, nIq2, nIq3, nIq4, hasI_0, aU_s, aU_i, aU_r, aU_u]
    rw [← col01 hc hk]
    split <;> rfl
  · rw [show (nI 1) = (1 : Int32) from rfl, b281_1_c1, show fp c18 c19 c20 c21 i 1 v = !decide (c18 i < v) from rfl]
    simp (disch := omega) only [e18, aBi, aBv, aBl, nI_1, nIle_t, nIle_f, nIlt_t, nIlt_f, nIeq_t, nIeq_f, nIneg, nI_clamp, nat_le_f, nat_le_t, nat_lt_f, nat_lt_t, or_self, or_false, false_or, if_true, if_false, ↓reduceIte, Int32.or_zero, Int32.add_zero, nIm2, nIm3, nIm4, nIp2, nIp4, nIp6, nIp8, nIp14, nIp16, nIp22, nIp24, nIp30, nIq2, nIq3, nIq4, hasI_0, aU_s, aU_i, aU_r, aU_u]
    by_cases h1 : c18 i < v <;> simp only [h1, if_true, if_false, decide_true, decide_false] <;> rfl
  · rw [show (nI 2) = (2 : Int32) from rfl, b281_1_c2, show fp c18 c19 c20 c21 i 2 v = !decide (v < c20 i) from rfl, i2]
    simp (disch := omega) only [e20, aBi, aBv, aBl, nI_1, nIle_t, nIle_f, nIlt_t, nIlt_f, nIeq_t, nIeq_f, nIneg, nI_clamp, nat_le_f, nat_le_t, nat_lt_f, nat_lt_t, or_self, or_false, false_or, if_true, if_false, ↓reduceIte, Int32.or_zero, Int32.add_zero, nIm2, nIm3, nIm4, nIp2, nIp4, nIp6, nIp8, nIp14, nIp16, nIp22, nIp24, nIp30, nIq2, nIq3, nIq4, hasI_0, aU_s, aU_i, aU_r, aU_u]
    by_cases h1 : v < c20 i <;> simp only [h1, if_true, if_false, decide_true, decide_false] <;> rfl
  · rw [show (nI 3) = (3 : Int32) from rfl, b281_1_c3, show fp c18 c19 c20 c21 i 3 v = hasT (c21 i) v from rfl, i3]
    simp (disch := omega) only [e21, f217, b281_106, nar_t, aBi, aBv, aBl, nI_1, nIle_t, nIle_f, nIlt_t, nIlt_f, nIeq_t, nIeq_f, nIneg, nI_clamp, nat_le_f, nat_le_t, nat_lt_f, nat_lt_t, or_self, or_false, false_or, if_true, if_false, ↓reduceIte, Int32.or_zero, Int32.add_zero, nIm2, nIm3, nIm4, nIp2, nIp4, nIp6, nIp8, nIp14, nIp16, nIp22, nIp24, nIp30, nIq2, nIq3, nIq4, hasI_0, aU_s, aU_i, aU_r, aU_u]
  · rw [show (nI 4) = (4 : Int32) from rfl, s281_1 _ _ _ _ (by decide), b281_107, show fp c18 c19 c20 c21 i 4 v = !hasT (c21 i) v from rfl, i3]
    simp (disch := omega) only [e21, f217, b281_121, aBi, aBv, aBl, nI_1, nIle_t, nIle_f, nIlt_t, nIlt_f, nIeq_t, nIeq_f, nIneg, nI_clamp, nat_le_f, nat_le_t, nat_lt_f, nat_lt_t, or_self, or_false, false_or, if_true, if_false, ↓reduceIte, Int32.or_zero, Int32.add_zero, nIm2, nIm3, nIm4, nIp2, nIp4, nIp6, nIp8, nIp14, nIp16, nIp22, nIp24, nIp30, nIq2, nIq3, nIq4, hasI_0, aU_s, aU_i, aU_r, aU_u]
    cases hasT (c21 i) v <;> rfl
/-- all that was heard fits -/
def fAll (F : Nat → Bool) (k : Nat) : Bool := fo (fun j b => b && F j) k 0 true
theorem fAll_f (F : Nat → Bool) : ∀ (k j : Nat), fo (fun j b => b && F j) k j false = false := by
  intro k
  induction k with
  | zero => intro j; rfl
  | succ k ih => intro j; rw [fo_1, Bool.false_and]; exact ih (j + 1)
theorem zH_get (H : zInv t n m q I J) : ∃ k, k ≤ 12 ∧ I 42 2 = nI k ∧ I 46 35 = nI k ∧ ∀ i, i < k → I 62 i = I 43 i ∧ I 63 i = I 44 i ∧ (∃ p, p < 5 ∧ I 43 i = nI p ∧ (p = 0 → ∃ v, v < 2 ∧ I 44 i = nI v)) := by
  obtain ⟨k, h1, h2, h3, h4⟩ := H.2.2.2.2.2.2.2.2.2.2
  refine ⟨k, h1, h2, h3, fun i hi => ?_⟩
  obtain ⟨a, b, ⟨p, hp, e⟩, c, f⟩ := h4 i hi
  exact ⟨a.symm, b.symm, p, hp, e, fun h0 => f (by rw [e, h0]; rfl)⟩
def ftg (I : Nat → Nat → Int32) (k m : Nat) : Int32 := bs (fun i => fAll (fun j => fp (I 18) (I 19) (I 20) (I 21) i (I 43 j) (I 44 j)) k) m
theorem f153 (H : zInv t n m q I J) {k : Nat} (hk : k ≤ 12) (h2 : I 42 2 = nI k) (h4 : ∀ i, i < k → ∃ p, p < 5 ∧ I 43 i = nI p) : aF d 153 [.ref 42, .ref 14] (g, I, J, aP1 sl rd rl) = some (some (some (.int (ftg I k m))), (g, I, J, aP1 sl rd rl)) := by
  obtain ⟨hm, d1, d2, -⟩ := H.2.2.2.1
  have one : ∀ i, i < m → aF d 154 [.ref 42, .ref 14, .int (nI i)] (g, I, J, aP1 sl rd rl) = some (some (some (.int (tI (fAll (fun j => fp (I 18) (I 19) (I 20) (I 21) i (I 43 j) (I 44 j)) k)))), (g, I, J, aP1 sl rd rl)) := by
    intro i hi
    have l : ∀ (c j : Nat), j + c = k → aE d 154 2 [.ref 42, .ref 14, .int (nI i), .int (nI j)] [] (g, I, J, aP1 sl rd rl) = some (some (some (.int (tI (fo (fun j b => b && fp (I 18) (I 19) (I 20) (I 21) i (I 43 j) (I 44 j)) c j true)))), (g, I, J, aP1 sl rd rl)) := by
      intro c
      induction c with
      | zero =>
        intro j hj
        obtain rfl : j = k := by omega
        rw [b154_2, if_pos (by rw [h2]; exact Int32.le_refl _)]
        rfl
      | succ c ih =>
        intro j hj
        obtain ⟨p, hp, ep⟩ := h4 j (by omega)
        rw [fo_1, b154_2, if_neg (by rw [h2]; exact nI_ge (by omega) (by omega))]
        simp (disch := omega) only [nIneg, nI_clamp, nat_le_f, or_self, if_false]
        rw [ep, f155 (by omega) hp]
        simp only [aBi]
        rw [b154_27, nI_1, Bool.true_and]
        cases fp (I 18) (I 19) (I 20) (I 21) i (nI p) (I 44 j)
        · rw [if_pos tI_f, fAll_f]; rfl
        · rw [if_neg (by decide)]; exact ih (j + 1) (by omega)
    show aE d 154 0 [.ref 42, .ref 14, .int (nI i), aNo] [] _ = _
    rw [b154_0]
    exact l k 0 (by omega)
  show aE d 153 0 [.ref 42, .ref 14, aNo, aNo] [] _ = _
  rw [b153_0]
  have l : ∀ (c i : Nat) (acc : Int32), i + c = m → aE d 153 4 [.ref 42, .ref 14, .int acc, .int (nI i)] [] (g, I, J, aP1 sl rd rl) = some (some (some (.int (fo (fun i acc => if fAll (fun j => fp (I 18) (I 19) (I 20) (I 21) i (I 43 j) (I 44 j)) k then acc ||| bit i else acc) c i acc))), (g, I, J, aP1 sl rd rl)) := by
    intro c
    induction c with
    | zero =>
      intro i acc hi
      obtain rfl : i = m := by omega
      rw [b153_4, if_pos (by rw [d1]; exact Int32.le_refl _)]
      rfl
    | succ c ih =>
      intro i acc hi
      rw [fo_1, b153_4, if_neg (by rw [d1]; exact nI_ge (by omega) (by omega)), one i (by omega)]
      simp only [aBi]
      rw [b153_18, nI_1]
      cases fAll (fun j => fp (I 18) (I 19) (I 20) (I 21) i (I 43 j) (I 44 j)) k
      · rw [if_pos tI_f, if_neg (by decide)]; exact ih (i + 1) acc (by omega)
      · rw [if_neg (by decide), if_pos rfl]; exact ih (i + 1) _ (by omega)
  exact l m 0 0 (by omega)
theorem f280 (H : zInv t n m q I J) {k : Nat} {I1 : Nat → Nat → Int32} {J1 : Nat → Nat → Int64} (hk : k ≤ 12) (e4 : I1 46 4 = nI m) (e35 : I1 46 35 = nI k) (r50 : I1 50 = I 50) (r62 : I1 62 = I 62) (r63 : I1 63 = I 63) (h4 : ∀ i, i < k → I 62 i = I 43 i ∧ I 63 i = I 44 i ∧ (∃ p, p < 5 ∧ I 43 i = nI p ∧ (p = 0 → ∃ v, v < 2 ∧ I 44 i = nI v))) : aF d 280 [.ref 46] (g, I1, J1, aP1 sl rd rl) = some (some (some (.int (ftg I k m))), (g, I1, J1, aP1 sl rd rl)) := by
  obtain ⟨hm, -, -, hq⟩ := H.2.2.2.1
  have inner : ∀ (i : Nat) (acc : Int32), i < m → ∀ (c j : Nat) (b : Bool), j + c = k → aE d 280 17 [.ref 46, .int acc, .int (nI i), .int (tI b), .int (nI j)] [] (g, I1, J1, aP1 sl rd rl) = aE d 280 4 [.ref 46, .int (if fo (fun j b => b && fp (I 18) (I 19) (I 20) (I 21) i (I 43 j) (I 44 j)) c j b then acc ||| bit i else acc), .int (nI (i + 1)), .int (tI (fo (fun j b => b && fp (I 18) (I 19) (I 20) (I 21) i (I 43 j) (I 44 j)) c j b)), .int (nI k)] [] (g, I1, J1, aP1 sl rd rl) := by
    intro i acc hi c
    induction c with
    | zero =>
      intro j b hj
      obtain rfl : j = k := by omega
      rw [b280_17, if_pos (by rw [e35]; exact Int32.le_refl _), nI_1]
      cases b
      · rw [if_pos tI_f, Int32.or_zero]; rfl
      · rw [if_neg (by decide)]; rfl
    | succ c ih =>
      intro j b hj
      obtain ⟨x1, x2, p, hp, ep, hv⟩ := h4 j (by omega)
      obtain ⟨z1, z2, z3, z4⟩ := zQ_e H hi
      rw [fo_1, b280_17, if_neg (by rw [e35]; exact nI_ge (by omega) (by omega))]
      cases b
      · rw [if_pos tI_f, nI_1, Bool.false_and]; exact ih (j + 1) false (by omega)
      · rw [if_neg (by decide)]
        simp (disch := omega) only [nIneg, nI_clamp, nat_le_f, or_self, if_false]
        rw [r62, r63, x1, x2, ep, f281 (c18 := I 18) (c19 := I 19) (c20 := I 20) (c21 := I 21) (by omega) hp _ (by rw [r50]; exact z1) (by rw [r50]; exact z2) (by rw [r50]; exact z3) (by rw [r50]; exact z4) (hq i hi).2.2.2.2.2.1 hv]
        simp only [aBi]
        rw [b280_49, nI_1, Bool.true_and]
        cases fp (I 18) (I 19) (I 20) (I 21) i (nI p) (I 44 j)
        · rw [if_pos tI_f]; exact ih (j + 1) false (by omega)
        · rw [if_neg (by decide)]; exact ih (j + 1) true (by omega)
  have l : ∀ (c i : Nat) (acc : Int32) (w3 w4 : Value), i + c = m → aE d 280 4 [.ref 46, .int acc, .int (nI i), w3, w4] [] (g, I1, J1, aP1 sl rd rl) = some (some (some (.int (fo (fun i acc => if fAll (fun j => fp (I 18) (I 19) (I 20) (I 21) i (I 43 j) (I 44 j)) k then acc ||| bit i else acc) c i acc))), (g, I1, J1, aP1 sl rd rl)) := by
    intro c
    induction c with
    | zero =>
      intro i acc w3 w4 hi
      obtain rfl : i = m := by omega
      rw [b280_4, if_pos (by rw [e4]; exact Int32.le_refl _)]
      rfl
    | succ c ih =>
      intro i acc w3 w4 hi
      rw [fo_1, b280_4, if_neg (by rw [e4]; exact nI_ge (by omega) (by omega))]
      have r := inner i acc (by omega) k 0 true (by omega)
      have r : aE d 280 17 [.ref 46, .int acc, .int (nI i), .int 1, .int 0] [] (g, I1, J1, aP1 sl rd rl) = _ := r
      rw [r]
      exact ih (i + 1) _ _ _ (by omega)
  show aE d 280 0 [.ref 46, aNo, aNo, aNo, aNo] [] _ = _
  rw [b280_0]
  exact l m 0 0 aNo aNo (by omega)
theorem tie_fits (H : zInv t n m q I J) : tie d 152 279 [] t g I J sl rd := by
  obtain ⟨hm, d1, d2, -⟩ := H.2.2.2.1
  obtain ⟨k, h1, h2, h3, h4⟩ := zH_get H
  have c153 := f153 (d := d) (g := g) (sl := sl) (rd := rd) (rl := 56) H h1 h2 (fun i hi => by obtain ⟨_, _, p, hp, ep, _⟩ := h4 i hi; exact ⟨p, hp, ep⟩)
  have r280 : ∀ (I1 : Nat → Nat → Int32) (J1 : Nat → Nat → Int64), Fr [12, 46] I I1 → F46 [12, 13] I I1 → aF d 280 [.ref 46] (g, I1, J1, aP1 sl rd 56) = some (some (some (.int (ftg I k m))), (g, I1, J1, aP1 sl rd 56)) := fun I1 J1 q1 q2 => f280 H h1 (by rw [q2 4 (by decide)]; exact d2) (by rw [q2 35 (by decide)]; exact h3) (q1 50 (by decide)) (q1 62 (by decide)) (q1 63 (by decide)) h4
  generalize hX : ftg I k m = X at c153 r280
  have e1 : aF d 152 [.ref 6] (g, I, J, aP1 sl rd 56) = some (some (some (.int X)), (g, aU I 12 1 2, aU (aU J 13 0 (Int32.toInt64 (bc X))) 13 1 (Int32.toInt64 (sm (fun i => hasT X (nI i)) (fun i => I 18 i) m)), aP1 sl rd 56)) := by
    show aE d 152 0 [.ref 6, aNo] [] _ = _
    rw [b152_0, c153]
    simp only [aBi]
    rw [b152_11, f12]
    simp only [aBi]
    rw [b152_20, f135 d1 hm]
    simp only [aBi]
    rw [b152_29, f82]
    simp only [aBv]
    rw [b152_33]
  have fr : ∀ v, Fr [12, 46] I (aU (aU (aU I 12 1 2) 46 13 0) 46 12 v) ∧ F46 [12, 13] I (aU (aU (aU I 12 1 2) 46 13 0) 46 12 v) := fun v => by
    refine ⟨?_, fun j hj => ?_⟩
    · simp only [aU_R]; exact Fr_s (Fr_s (Fr_s (Fr_r _ _) _ (by decide)) _ (by decide)) _ (by decide)
    · have hj : j ≠ 12 ∧ j ≠ 13 := by simpa using hj
      rw [aU_i _ _ hj.1, aU_i _ _ hj.2, aU_r _ _ (by decide)]
  have e2 : ∀ J1 : Nat → Nat → Int64, aF d 279 [.ref 46] (g, aU I 12 1 2, J1, aP1 sl rd 56) = some (some (some (.int X)), (g, aU (aU (aU I 12 1 2) 46 13 0) 46 12 2, aU (aU J1 53 0 (Int32.toInt64 (bc X))) 53 1 (Int32.toInt64 (sm (fun i => hasT X (nI i)) (fun i => I 18 i) m)), aP1 sl rd 56)) := by
    intro J1
    show aE d 279 0 [.ref 46] [] _ = _
    rw [b279_0, r280 _ _ (fr 0).1 (fr 0).2]
    simp only [aBi]
    rw [b279_15, f12]
    simp only [aBi]
    rw [b279_18, tell0]
    simp only [aBv]
    rw [b279_22, r280 _ _ (fr 1).1 (fr 1).2]
    simp only [aBi]
    rw [b279_28, f216 (n := m) (by rw [(fr 1).2 4 (by decide)]; exact d2) hm, (fr 1).1 50 (by decide), crowds H]
    simp only [aBi]
    rw [b279_31, tell1]
    simp only [aBv]
    rw [b279_35, r280 _ _ (fr 2).1 (fr 2).2]
    simp only [aBi]
    rw [b279_39]
  have e3 := e2 (aU (aU J 13 0 (Int32.toInt64 (bc X))) 13 1 (Int32.toInt64 (sm (fun i => hasT X (nI i)) (fun i => I 18 i) m)))
  refine tie_R H (Fr12 _ _) (FrT (aU I 12 1 2) 2).1 (FrT (aU I 12 1 2) 2).2 ?_ e1 e3
  refine zR_2 ?_ (aU_s _ _ _ _) ?_ ?_
  · simp (disch := decide) only [aU_r, aU_s]
  · simp (disch := decide) only [aU_r, aU_i, aU_s]
  · simp (disch := decide) only [aU_r, aU_i, aU_s]
/-! ask -/
theorem bcN : ∀ k, k < 256 → bc (nI k) = nI (cnt (nI k) 8) := by decide +kernel
theorem cnt_eq {x : Int32} {p : Nat → Bool} {m : Nat} (hm : m ≤ 8) (h : ∀ i, i < 8 → bt x i = (decide (i < m) && p i)) : cnt x 8 = fo (fun i k => k + (p i).toNat) m 0 0 := by
  have a : ∀ k, k ≤ m → cnt x k = fo (fun i k => k + (p i).toNat) k 0 0 := by
    intro k
    induction k with
    | zero => intro _; rfl
    | succ k ih =>
      intro hk
      rw [fo_split (fun i k => k + (p i).toNat) k 1 0 0, ← ih (by omega)]
      show cnt x k + (bt x k).toNat = cnt x k + (p (0 + k)).toNat
      rw [h k (by omega), decide_eq_true (show k < m by omega), Bool.true_and, Nat.zero_add]
  have b : ∀ k, m + k ≤ 8 → cnt x (m + k) = cnt x m := by
    intro k
    induction k with
    | zero => intro _; rfl
    | succ k ih =>
      intro hk
      show cnt x (m + k) + (bt x (m + k)).toNat = _
      rw [h _ (by omega), decide_eq_false (show ¬ m + k < m by omega), Bool.false_and, ih (by omega)]
      rfl
  have := b (8 - m) (by omega)
  rw [show m + (8 - m) = 8 by omega] at this
  rw [this, a m (Nat.le_refl _)]
def mxI (a b : Int32) : Int32 := if a < b then b else a
def ak1 (Lf : Nat → Int32) (s : Nat) (x : Int32 × Int32) : Int32 × Int32 := if x.2 ≤ Lf s then x else (nI s, Lf s)
theorem tie_ask (H : zInv t n m q I J) : tie d 156 282 [] t g I J sl rd := by
  obtain ⟨hm, d1, d2, hq⟩ := H.2.2.2.1
  obtain ⟨k, h1, h2, h3, h4⟩ := zH_get H
  have c153 := f153 (d := d) (g := g) (sl := sl) (rd := rd) (rl := 56) H h1 h2 (fun i hi => by obtain ⟨_, _, p, hp, ep, _⟩ := h4 i hi; exact ⟨p, hp, ep⟩)
  have r280 : ∀ (I1 : Nat → Nat → Int32) (J1 : Nat → Nat → Int64), Fr [12, 46] I I1 → F46 [12, 13] I I1 → aF d 280 [.ref 46] (g, I1, J1, aP1 sl rd 56) = some (some (some (.int (ftg I k m))), (g, I1, J1, aP1 sl rd 56)) := fun I1 J1 q1 q2 => f280 H h1 (by rw [q2 4 (by decide)]; exact d2) (by rw [q2 35 (by decide)]; exact h3) (q1 50 (by decide)) (q1 62 (by decide)) (q1 63 (by decide)) h4
  obtain ⟨X, hX, eX⟩ := bs_256 (fun i => fAll (fun j => fp (I 18) (I 19) (I 20) (I 21) i (I 43 j) (I 44 j)) k) hm
  have eX' : ftg I k m = nI X := eX
  rw [eX'] at c153
  rw [eX'] at r280
  by_cases h0 : nI X = 0
  · refine tie_0 (rd2 := rd) (v := -2) H (Fr_r _ _) (th_F _) (th_46 _) ?_ ?_
    · show aE d 156 0 [.ref 6, aNo, aNo, aNo, aNo, aNo, aNo] [] _ = _
      rw [b156_0, c153]
      simp only [aBi]
      rw [b156_11, if_pos h0]
    · show aE d 282 0 [.ref 46, aNo, aNo, aNo, aNo, aNo, aNo] [] _ = _
      rw [b282_0, r280 _ _ (by rw [aU_R]; exact Fr_s (Fr_r _ _) _ (by decide)) (fun j hj => aU_i _ _ (fun e => hj (by rw [e]; decide)))]
      simp only [aBi]
      rw [b282_9, if_pos h0]
  -- how many have a gate
  have hav : ∀ s : Nat, ∃ w, w ≤ 8 ∧ bc (bs (fun i => hasT (I 21 i) (nI s)) m &&& nI X) = nI w ∧ w = fo (fun i k => k + (hasT (nI X) (nI i) && hasT (I 21 i) (nI s)).toNat) m 0 0 := by
    intro s
    obtain ⟨Y, hY, eY⟩ := pk_andE (bs (fun i => hasT (I 21 i) (nI s)) m &&& nI X) (m := 255) 8 (by decide)
    have bits : ∀ i, i < 32 → bt (bs (fun i => hasT (I 21 i) (nI s)) m &&& nI X) i = (decide (i < m) && (hasT (nI X) (nI i) && hasT (I 21 i) (nI s))) := fun i hi => by
      rw [b_and, b_bs (by omega) hi, hasT_bt _ hi]
      cases decide (i < m) <;> cases hasT (I 21 i) (nI s) <;> cases bt (nI X) i <;> rfl
    have e255 : (bs (fun i => hasT (I 21 i) (nI s)) m &&& nI X) &&& 255 = (bs (fun i => hasT (I 21 i) (nI s)) m &&& nI X) := by
      refine b_ext (fun i hi => ?_)
      rw [b_and, bits i hi, b_255]
      by_cases h : i < 8
      · simp [h]
      · simp [h, show ¬ i < m by omega]
    have e1 : bc (bs (fun i => hasT (I 21 i) (nI s)) m &&& nI X) = nI (cnt (bs (fun i => hasT (I 21 i) (nI s)) m &&& nI X) 8) := by
      rw [← e255, eY]; exact bcN Y hY
    exact ⟨_, cnt_le _ 8, e1, cnt_eq hm (fun i hi => bits i (by omega))⟩
  have tot : ∃ T, T ≤ 8 ∧ bc (nI X) = nI T := ⟨_, cnt_le _ 8, bcN X hX⟩
  obtain ⟨T, hT, eT⟩ := tot
  generalize hLf : (fun s : Nat => mxI (bc (bs (fun i => hasT (I 21 i) (nI s)) m &&& nI X)) (nI T - bc (bs (fun i => hasT (I 21 i) (nI s)) m &&& nI X))) = Lf
  have Lf_e : ∀ s, mxI (bc (bs (fun i => hasT (I 21 i) (nI s)) m &&& nI X)) (nI T - bc (bs (fun i => hasT (I 21 i) (nI s)) m &&& nI X)) = Lf s := fun s => by rw [← hLf]
  have Lf8 : ¬ 9 ≤ Lf 0 ∧ ¬ 1000000 ≤ Lf 0 := by
    obtain ⟨w, hw, e1, _⟩ := hav 0
    rw [← Lf_e, e1]
    unfold mxI
    have t1 := pk_sub_toInt (a := T) (b := w) (by omega) (by omega)
    have t2 : (nI w).toInt = (w : Int) := nI_toInt (by omega)
    have t3 : (9 : Int32).toInt = 9 := rfl
    have t4 : (1000000 : Int32).toInt = 1000000 := rfl
    split <;> rw [int_le, int_le] <;> omega
  have lC : ∀ (c s : Nat) (x : Int32 × Int32) (w5 w6 : Value), s + c = 9 → aE d 156 27 [.ref 6, .int (nI X), .int x.1, .int x.2, .int (nI s), w5, w6] [] (g, I, J, aP1 sl rd 56) = some (some (some (.int (fo (ak1 Lf) c s x).1)), (g, aU I 12 1 1, aU J 13 0 (Int32.toInt64 (fo (ak1 Lf) c s x).2), aP1 sl rd 56)) := by
    intro c
    induction c with
    | zero =>
      intro s x w5 w6 hs
      obtain rfl : s = 9 := by omega
      rw [b156_27, if_pos (by decide), f83']
      simp only [aBv]
      rw [b156_91]
      rfl
    | succ c ih =>
      intro s x w5 w6 hs
      rw [fo_1, b156_27, if_neg (show ¬ 9 ≤ nI s from nI_ge (b := 9) (by omega) (by decide)), f157 d1 hm]
      simp only [aBi]
      rw [b156_43, f12]
      simp only [aBi]
      rw [b156_48, f12, eT]
      simp only [aBi]
      rw [b156_56]
      have e := Lf_e s
      unfold mxI at e
      rw [e, nI_1]
      unfold ak1
      by_cases z : x.2 ≤ Lf s
      · rw [if_pos z, if_pos z]; exact ih (s + 1) x _ _ (by omega)
      · rw [if_neg z, if_neg z]; exact ih (s + 1) (nI s, Lf s) _ _ (by omega)
  have lR : ∀ (I1 : Nat → Nat → Int32) (J1 : Nat → Nat → Int64), I1 46 4 = nI m → I1 50 = I 50 → ∀ (c s : Nat) (x : Int32 × Int32) (w5 w6 : Value), s + c = 9 → aE d 282 26 [.ref 46, .int (nI X), .int x.1, .int x.2, .int (nI s), w5, w6] [] (g, I1, J1, aP1 sl rd 56) = some (some (some (.int (fo (ak1 Lf) c s x).1)), (g, aU I1 46 12 1, aU J1 53 0 (Int32.toInt64 (fo (ak1 Lf) c s x).2), aP1 sl rd 56)) := by
    intro I1 J1 g4 g50 c
    induction c with
    | zero =>
      intro s x w5 w6 hs
      obtain rfl : s = 9 := by omega
      rw [b282_26, if_pos (by decide), tell0]
      simp only [aBv]
      rw [b282_131]
      rfl
    | succ c ih =>
      intro s x w5 w6 hs
      rw [fo_1, b282_26, if_neg (show ¬ 9 ≤ nI s from nI_ge (b := 9) (by omega) (by decide))]
      have inn : ∀ (c' j w : Nat), j + c' = m → aE d 282 39 [.ref 46, .int (nI X), .int x.1, .int x.2, .int (nI s), .int (nI w), .int (nI j)] [] (g, I1, J1, aP1 sl rd 56) = aE d 282 39 [.ref 46, .int (nI X), .int x.1, .int x.2, .int (nI s), .int (nI (fo (fun i k => k + (hasT (nI X) (nI i) && hasT (I 21 i) (nI s)).toNat) c' j w)), .int (nI m)] [] (g, I1, J1, aP1 sl rd 56) := by
        intro c'
        induction c' with
        | zero => intro j w hj; obtain rfl : j = m := by omega
                  rfl
        | succ c' ih' =>
          intro j w hj
          obtain ⟨z1, z2, z3, z4⟩ := zQ_e H (show j < m by omega)
          rw [fo_1, b282_39, if_neg (by rw [g4]; exact nI_ge (by omega) (by omega)), f217]
          simp only [aBi]
          rw [b282_56, nI_1]
          cases hh : hasT (nI X) (nI j)
          · rw [if_pos tI_f, Int32.add_zero, Bool.false_and]; exact ih' (j + 1) w (by omega)
          · rw [if_neg (by decide)]
            have f := f281 (d := d) (g := g) (I := I1) (J := J1) (sl := sl) (rd := rd) (rl := 56) (c18 := I 18) (c19 := I 19) (c20 := I 20) (c21 := I 21) (i := j) (p := 3) (by omega) (by decide) (nI s) (by rw [g50]; exact z1) (by rw [g50]; exact z2) (by rw [g50]; exact z3) (by rw [g50]; exact z4) (hq j (by omega)).2.2.2.2.2.1 (fun h => by omega)
            have f : aF d 281 [.ref 46, .int (nI j), .int 3, .int (nI s)] (g, I1, J1, aP1 sl rd 56) = some (some (some (.int (tI (hasT (I 21 j) (nI s))))), (g, I1, J1, aP1 sl rd 56)) := f
            rw [f]
            simp only [aBi]
            rw [b282_68, nI_1, nI_1]
            cases hasT (I 21 j) (nI s)
            · rw [if_pos tI_f, Int32.add_zero]; exact ih' (j + 1) w (by omega)
            · rw [if_neg (by decide)]; exact ih' (j + 1) (w + 1) (by omega)
      have i0 := inn m 0 0 (by omega)
      have i0 : aE d 282 39 [.ref 46, .int (nI X), .int x.1, .int x.2, .int (nI s), .int 0, .int 0] [] (g, I1, J1, aP1 sl rd 56) = _ := i0
      obtain ⟨w, hw, e1, e2⟩ := hav s
      rw [i0, ← e2, b282_39, if_pos (by rw [g4]; exact Int32.le_refl _), f12, eT]
      simp only [aBi]
      rw [b282_91]
      have e := Lf_e s
      rw [e1] at e
      unfold mxI at e
      rw [e, nI_1]
      unfold ak1
      by_cases z : x.2 ≤ Lf s
      · rw [if_neg (by rw [← nle_lt]; exact fun h => h z), if_pos z]; exact ih (s + 1) x _ _ (by omega)
      · rw [if_pos (by rw [← nle_lt]; exact z), if_neg z]; exact ih (s + 1) (nI s, Lf s) _ _ (by omega)
  have e1 := lC 9 0 (0, 9) aNo aNo rfl
  have e2 := lR (aU (aU I 12 1 1) 46 13 0) (aU J 13 0 (Int32.toInt64 (fo (ak1 Lf) 9 0 (0, 9)).2)) (by rw [aU_i _ _ (by decide), aU_r _ _ (by decide)]; exact d2) (by simp (disch := decide) only [aU_r]) 9 0 (-1, 1000000) aNo aNo rfl
  have same : fo (ak1 Lf) 9 0 (-1, 1000000) = fo (ak1 Lf) 9 0 (0, 9) := by
    rw [fo_1 (ak1 Lf) 8 0 (-1, 1000000), fo_1 (ak1 Lf) 8 0 (0, 9), show ak1 Lf 0 (-1, 1000000) = (nI 0, Lf 0) from if_neg Lf8.2, show ak1 Lf 0 (0, 9) = (nI 0, Lf 0) from if_neg Lf8.1]
  rw [same] at e2
  refine tie_R H (Fr12 _ _) (FrT (aU I 12 1 1) 1).1 (FrT (aU I 12 1 1) 1).2 ?_ (Eq.trans ?_ e1) (Eq.trans ?_ e2)
  · refine zR_1 ?_ (aU_s _ _ _ _) ?_
    · simp (disch := decide) only [aU_r, aU_s]
    · simp (disch := decide) only [aU_r, aU_i, aU_s]
  · show aE d 156 0 [.ref 6, aNo, aNo, aNo, aNo, aNo, aNo] [] _ = _
    rw [b156_0, c153]
    simp only [aBi]
    rw [b156_11, if_neg h0]
    rfl
  · show aE d 282 0 [.ref 46, aNo, aNo, aNo, aNo, aNo, aNo] [] _ = _
    rw [b282_0, r280 _ _ (by simp only [aU_R]; exact Fr_s (Fr_s (Fr_r _ _) _ (by decide)) _ (by decide)) (fun j hj => by rw [aU_i _ _ (fun e => hj (by rw [e]; decide)), aU_r _ _ (by decide)])]
    simp only [aBi]
    rw [b282_9, if_neg h0]
    rfl
