section T00
/-! fits, ask: tied -/
variable {d : Nat} {g : Nat × Nat × Nat} {I : Nat → Nat → Int32} {J : Nat → Nat → Int64} {sl rd rl : Nat} {t n m q : Nat}
def fp (c18 c19 c20 c21 : Nat → Int32) (i : Nat) (w v : Int32) : Bool :=
  if w = 0 then (decide (c19 i = 0) == decide (v = 1)) else if w = 1 then !decide (c18 i < v) else if w = 2 then !decide (v < c20 i) else if w = 3 then hasT (c21 i) v else !hasT (c21 i) v
theorem ix5c {p : Nat} (h : p < 5) : p = 0 ∨ p = 1 ∨ p = 2 ∨ p = 3 ∨ p = 4 := by omega
theorem f155 {i p : Nat} (hi : i < 8) (hp : p < 5) (v : Int32) : aF d 155 [.ref 14, .int (nI i), .int (nI p), .int v] (g, I, J, aP1 sl rd rl) = some (some (some (.int (tI (fp (I 18) (I 19) (I 20) (I 21) i (nI p) v)))), (g, I, J, aP1 sl rd rl)) := by
  show aE d 155 0 [.ref 14, .int (nI i), .int (nI p), .int v] [] _ = _
  rw [b155_0]
  rcases ix5c hp with rfl | rfl | rfl | rfl | rfl
  · rw [show (nI 0) = (0 : Int32) from rfl, b155_1_c0, show fp (I 18) (I 19) (I 20) (I 21) i 0 v = (decide (I 19 i = 0) == decide (v = 1)) from rfl]
    simp (disch := omega) only [aBi, aBv, aBl, nI_1, nIle_t, nIle_f, nIlt_t, nIlt_f, nIeq_t, nIeq_f, nIneg, nI_clamp, nat_le_f, nat_le_t, nat_lt_f, nat_lt_t, or_self, or_false, false_or, if_true, if_false, ↓reduceIte, Int32.or_zero, Int32.add_zero, nIm2, nIm3, nIm4, nIp2, nIp4, nIp6, nIp8, nIp14, nIp16, nIp22, nIp24, nIp30, nIq2, nIq3, nIq4, hasI_0, aU_s, aU_i, aU_r, aU_u]
    by_cases h1 : I 19 i = 0 <;> by_cases h2 : v = 1 <;> simp only [h1, h2, if_true, if_false, decide_true, decide_false] <;> rfl
  · rw [show (nI 1) = (1 : Int32) from rfl, b155_1_c1, show fp (I 18) (I 19) (I 20) (I 21) i 1 v = !decide (I 18 i < v) from rfl]
    simp (disch := omega) only [aBi, aBv, aBl, nI_1, nIle_t, nIle_f, nIlt_t, nIlt_f, nIeq_t, nIeq_f, nIneg, nI_clamp, nat_le_f, nat_le_t, nat_lt_f, nat_lt_t, or_self, or_false, false_or, if_true, if_false, ↓reduceIte, Int32.or_zero, Int32.add_zero, nIm2, nIm3, nIm4, nIp2, nIp4, nIp6, nIp8, nIp14, nIp16, nIp22, nIp24, nIp30, nIq2, nIq3, nIq4, hasI_0, aU_s, aU_i, aU_r, aU_u]
    by_cases h1 : I 18 i < v <;> simp only [h1, if_true, if_false, decide_true, decide_false] <;> rfl
  · rw [show (nI 2) = (2 : Int32) from rfl, b155_1_c2, show fp (I 18) (I 19) (I 20) (I 21) i 2 v = !decide (v < I 20 i) from rfl]
    simp (disch := omega) only [aBi, aBv, aBl, nI_1, nIle_t, nIle_f, nIlt_t, nIlt_f, nIeq_t, nIeq_f, nIneg, nI_clamp, nat_le_f, nat_le_t, nat_lt_f, nat_lt_t, or_self, or_false, false_or, if_true, if_false, ↓reduceIte, Int32.or_zero, Int32.add_zero, nIm2, nIm3, nIm4, nIp2, nIp4, nIp6, nIp8, nIp14, nIp16, nIp22, nIp24, nIp30, nIq2, nIq3, nIq4, hasI_0, aU_s, aU_i, aU_r, aU_u]
    by_cases h1 : v < I 20 i <;> simp only [h1, if_true, if_false, decide_true, decide_false] <;> rfl
  · rw [show (nI 3) = (3 : Int32) from rfl, b155_1_c3, show fp (I 18) (I 19) (I 20) (I 21) i 3 v = hasT (I 21 i) v from rfl]
    simp (disch := omega) only [f93, b155_107, nar_t, aBi, aBv, aBl, nI_1, nIle_t, nIle_f, nIlt_t, nIlt_f, nIeq_t, nIeq_f, nIneg, nI_clamp, nat_le_f, nat_le_t, nat_lt_f, nat_lt_t, or_self, or_false, false_or, if_true, if_false, ↓reduceIte, Int32.or_zero, Int32.add_zero, nIm2, nIm3, nIm4, nIp2, nIp4, nIp6, nIp8, nIp14, nIp16, nIp22, nIp24, nIp30, nIq2, nIq3, nIq4, hasI_0, aU_s, aU_i, aU_r, aU_u]
  · rw [show (nI 4) = (4 : Int32) from rfl, s155_1 _ _ _ _ (by decide), b155_108, show fp (I 18) (I 19) (I 20) (I 21) i 4 v = !hasT (I 21 i) v from rfl]
    simp (disch := omega) only [f93, b155_118, aBi, aBv, aBl, nI_1, nIle_t, nIle_f, nIlt_t, nIlt_f, nIeq_t, nIeq_f, nIneg, nI_clamp, nat_le_f, nat_le_t, nat_lt_f, nat_lt_t, or_self, or_false, false_or, if_true, if_false, ↓reduceIte, Int32.or_zero, Int32.add_zero, nIm2, nIm3, nIm4, nIp2, nIp4, nIp6, nIp8, nIp14, nIp16, nIp22, nIp24, nIp30, nIq2, nIq3, nIq4, hasI_0, aU_s, aU_i, aU_r, aU_u]
    cases hasT (I 21 i) v <;> rfl
theorem col01 {c v : Nat} (hc : c < 2) (hv : v < 2) : (if nI c = 1 - nI v then (1 : Int32) else 0) = tI (decide (nI c = 0) == decide (nI v = 1)) := by
  rcases (by omega : c = 0 ∨ c = 1) with rfl | rfl <;> rcases (by omega : v = 0 ∨ v = 1) with rfl | rfl <;> decide
theorem f281 {c18 c19 c20 c21 : Nat → Int32} {i p : Nat} (hi : i < 8) (hp : p < 5) (v : Int32) (e18 : I 50 (4 * i) = c18 i) (e19 : I 50 (4 * i + 1) = c19 i) (e20 : I 50 (4 * i + 2) = c20 i) (e21 : I 50 (4 * i + 3) = c21 i) (h01 : ∃ c, c < 2 ∧ c19 i = nI c) (hv : p = 0 → ∃ k, k < 2 ∧ v = nI k) : aF d 281 [.ref 46, .int (nI i), .int (nI p), .int v] (g, I, J, aP1 sl rd rl) = some (some (some (.int (tI (fp c18 c19 c20 c21 i (nI p) v)))), (g, I, J, aP1 sl rd rl)) := by
  show aE d 281 0 [.ref 46, .int (nI i), .int (nI p), .int v] [] _ = _
  have i1 : (4 * nI i + 1) = nI (4 * i + 1) := by rw [nIm4]; exact nI_add _ 1
  have i2 : (4 * nI i + 2) = nI (4 * i + 2) := by rw [nIm4]; exact nI_add _ 2
  have i3 : (4 * nI i + 3) = nI (4 * i + 3) := by rw [nIm4]; exact nI_add _ 3
  rw [b281_0]
  rcases ix5c hp with rfl | rfl | rfl | rfl | rfl
  · obtain ⟨c, hc, ec⟩ := h01
    obtain ⟨k, hk, rfl⟩ := hv rfl
    rw [show (nI 0) = (0 : Int32) from rfl, b281_1_c0, show fp c18 c19 c20 c21 i 0 (nI k) = (decide (c19 i = 0) == decide (nI k = 1)) from rfl, i1]
    simp (disch := omega) only [e19, ec, aBi, aBv, aBl, nI_1, nIle_t, nIle_f, nIlt_t, nIlt_f, nIeq_t, nIeq_f, nIneg, nI_clamp, nat_le_f, nat_le_t, nat_lt_f, nat_lt_t, or_self, or_false, false_or, if_true, if_false, ↓reduceIte, Int32.or_zero, Int32.add_zero, nIm2, nIm3, nIm4, nIp2, nIp4, nIp6, nIp8, nIp14, nIp16, nIp22, nIp24, nIp30, nIq2, nIq3, nIq4, hasI_0, aU_s, aU_i, aU_r, aU_u]
    rw [← col01 hc hk]
    split <;> rfl
  · rw [show (nI 1) = (1 : Int32) from rfl, b281_1_c1, show fp c18 c19 c20 c21 i 1 v = !decide (c18 i < v) from rfl]
    simp (disch := omega) only [e18, aBi, aBv, aBl, nI_1, nIle_t, nIle_f, nIlt_t, nIlt_f, nIeq_t, nIeq_f, nIneg, nI_clamp, nat_le_f, nat_le_t, nat_lt_f, nat_lt_t, or_self, or_false, false_or, if_true, if_false, ↓reduceIte, Int32.or_zero, Int32.add_zero, nIm2, nIm3, nIm4, nIp2, nIp4, nIp6, nIp8, nIp14, nIp16, nIp22, nIp24, nIp30, nIq2, nIq3, nIq4, hasI_0, aU_s, aU_i, aU_r, aU_u]
    by_cases h1 : c18 i < v <;> simp only [h1, if_true, if_false, decide_true, decide_false] <;> rfl
  · rw [show (nI 2) = (2 : Int32) from rfl, b281_1_c2, show fp c18 c19 c20 c21 i 2 v = !decide (v < c20 i) from rfl, i2]
    simp (disch := omega) only [e20, aBi, aBv, aBl, nI_1, nIle_t, nIle_f, nIlt_t, nIlt_f, nIeq_t, nIeq_f, nIneg, nI_clamp, nat_le_f, nat_le_t, nat_lt_f, nat_lt_t, or_self, or_false, false_or, if_true, if_false, ↓reduceIte, Int32.or_zero, Int32.add_zero, nIm2, nIm3, nIm4, nIp2, nIp4, nIp6, nIp8, nIp14, nIp16, nIp22, nIp24, nIp30, nIq2, nIq3, nIq4, hasI_0, aU_s, aU_i, aU_r, aU_u]
    by_cases h1 : v < c20 i <;> simp only [h1, if_true, if_false, decide_true, decide_false] <;> rfl
  · rw [show (nI 3) = (3 : Int32) from rfl, b281_1_c3, show fp c18 c19 c20 c21 i 3 v = hasT (c21 i) v from rfl, i3]
    simp (disch := omega) only [e21, f217, b281_106, nar_t, aBi, aBv, aBl, nI_1, nIle_t, nIle_f, nIlt_t, nIlt_f, nIeq_t, nIeq_f, nIneg, nI_clamp, nat_le_f, nat_le_t, nat_lt_f, nat_lt_t, or_self, or_false, false_or, if_true, if_false, ↓reduceIte, Int32.or_zero, Int32.add_zero, nIm2, nIm3, nIm4, nIp2, nIp4, nIp6, nIp8, nIp14, nIp16, nIp22, nIp24, nIp30, nIq2, nIq3, nIq4, hasI_0, aU_s, aU_i, aU_r, aU_u]
  · rw [show (nI 4) = (4 : Int32) from rfl, s281_1 _ _ _ _ (by decide), b281_107, show fp c18 c19 c20 c21 i 4 v = !hasT (c21 i) v from rfl, i3]
    simp (disch := omega) only [e21, f217, b281_121, aBi, aBv, aBl, nI_1, nIle_t, nIle_f, nIlt_t, nIlt_f, nIeq_t, nIeq_f, nIneg, nI_clamp, nat_le_f, nat_le_t, nat_lt_f, nat_lt_t, or_self, or_false, false_or, if_true, if_false, ↓reduceIte, Int32.or_zero, Int32.add_zero, nIm2, nIm3, nIm4, nIp2, nIp4, nIp6, nIp8, nIp14, nIp16, nIp22, nIp24, nIp30, nIq2, nIq3, nIq4, hasI_0, aU_s, aU_i, aU_r, aU_u]
    cases hasT (c21 i) v <;> rfl
/-- all that was heard fits -/
def fAll (F : Nat → Bool) (k : Nat) : Bool := fo (fun j b => b && F j) k 0 true
theorem fAll_f (F : Nat → Bool) : ∀ (k j : Nat), fo (fun j b => b && F j) k j false = false := by
  intro k
  induction k with
  | zero => intro j; rfl
  | succ k ih => intro j; rw [fo_1, Bool.false_and]; exact ih (j + 1)
theorem zH_get (H : zInv t n m q I J) : ∃ k, k ≤ 12 ∧ I 42 2 = nI k ∧ I 46 35 = nI k ∧ ∀ i, i < k → I 62 i = I 43 i ∧ I 63 i = I 44 i ∧ (∃ p, p < 5 ∧ I 43 i = nI p ∧ (p = 0 → ∃ v, v < 2 ∧ I 44 i = nI v)) := by
  obtain ⟨k, h1, h2, h3, h4⟩ := H.2.2.2.2.2.2.2.2.2.2
  refine ⟨k, h1, h2, h3, fun i hi => ?_⟩
  obtain ⟨a, b, ⟨p, hp, e⟩, c, f⟩ := h4 i hi
  exact ⟨a.symm, b.symm, p, hp, e, fun h0 => f (by rw [e, h0]; rfl)⟩
def ftg (I : Nat → Nat → Int32) (k m : Nat) : Int32 := bs (fun i => fAll (fun j => fp (I 18) (I 19) (I 20) (I 21) i (I 43 j) (I 44 j)) k) m
theorem f153 (H : zInv t n m q I J) {k : Nat} (hk : k ≤ 12) (h2 : I 42 2 = nI k) (h4 : ∀ i, i < k → ∃ p, p < 5 ∧ I 43 i = nI p) : aF d 153 [.ref 42, .ref 14] (g, I, J, aP1 sl rd rl) = some (some (some (.int (ftg I k m))), (g, I, J, aP1 sl rd rl)) := by
  obtain ⟨hm, d1, d2, -⟩ := H.2.2.2.1
  have one : ∀ i, i < m → aF d 154 [.ref 42, .ref 14, .int (nI i)] (g, I, J, aP1 sl rd rl) = some (some (some (.int (tI (fAll (fun j => fp (I 18) (I 19) (I 20) (I 21) i (I 43 j) (I 44 j)) k)))), (g, I, J, aP1 sl rd rl)) := by
    intro i hi
    have l : ∀ (c j : Nat), j + c = k → aE d 154 2 [.ref 42, .ref 14, .int (nI i), .int (nI j)] [] (g, I, J, aP1 sl rd rl) = some (some (some (.int (tI (fo (fun j b => b && fp (I 18) (I 19) (I 20) (I 21) i (I 43 j) (I 44 j)) c j true)))), (g, I, J, aP1 sl rd rl)) := by
      intro c
      induction c with
      | zero =>
        intro j hj
        obtain rfl : j = k := by omega
        rw [b154_2, if_pos (by rw [h2]; exact Int32.le_refl _)]
        rfl
      | succ c ih =>
        intro j hj
        obtain ⟨p, hp, ep⟩ := h4 j (by omega)
        rw [fo_1, b154_2, if_neg (by rw [h2]; exact nI_ge (by omega) (by omega))]
        simp (disch := omega) only [nIneg, nI_clamp, nat_le_f, or_self, if_false]
        rw [ep, f155 (by omega) hp]
        simp only [aBi]
        rw [b154_27, nI_1, Bool.true_and]
        cases fp (I 18) (I 19) (I 20) (I 21) i (nI p) (I 44 j)
        · rw [if_pos tI_f, fAll_f]; rfl
        · rw [if_neg (by decide)]; exact ih (j + 1) (by omega)
    show aE d 154 0 [.ref 42, .ref 14, .int (nI i), aNo] [] _ = _
    rw [b154_0]
    exact l k 0 (by omega)
  show aE d 153 0 [.ref 42, .ref 14, aNo, aNo] [] _ = _
  rw [b153_0]
  have l : ∀ (c i : Nat) (acc : Int32), i + c = m → aE d 153 4 [.ref 42, .ref 14, .int acc, .int (nI i)] [] (g, I, J, aP1 sl rd rl) = some (some (some (.int (fo (fun i acc => if fAll (fun j => fp (I 18) (I 19) (I 20) (I 21) i (I 43 j) (I 44 j)) k then acc ||| bit i else acc) c i acc))), (g, I, J, aP1 sl rd rl)) := by
    intro c
    induction c with
    | zero =>
      intro i acc hi
      obtain rfl : i = m := by omega
      rw [b153_4, if_pos (by rw [d1]; exact Int32.le_refl _)]
      rfl
    | succ c ih =>
      intro i acc hi
      rw [fo_1, b153_4, if_neg (by rw [d1]; exact nI_ge (by omega) (by omega)), one i (by omega)]
      simp only [aBi]
      rw [b153_18, nI_1]
      cases fAll (fun j => fp (I 18) (I 19) (I 20) (I 21) i (I 43 j) (I 44 j)) k
      · rw [if_pos tI_f, if_neg (by decide)]; exact ih (i + 1) acc (by omega)
      · rw [if_neg (by decide), if_pos rfl]; exact ih (i + 1) _ (by omega)
  exact l m 0 0 (by omega)
theorem f280 (H : zInv t n m q I J) {k : Nat} {I1 : Nat → Nat → Int32} {J1 : Nat → Nat → Int64} (hk : k ≤ 12) (e4 : I1 46 4 = nI m) (e35 : I1 46 35 = nI k) (r50 : I1 50 = I 50) (r62 : I1 62 = I 62) (r63 : I1 63 = I 63) (h4 : ∀ i, i < k → I 62 i = I 43 i ∧ I 63 i = I 44 i ∧ (∃ p, p < 5 ∧ I 43 i = nI p ∧ (p = 0 → ∃ v, v < 2 ∧ I 44 i = nI v))) : aF d 280 [.ref 46] (g, I1, J1, aP1 sl rd rl) = some (some (some (.int (ftg I k m))), (g, I1, J1, aP1 sl rd rl)) := by
  obtain ⟨hm, -, -, hq⟩ := H.2.2.2.1
  have inner : ∀ (i : Nat) (acc : Int32), i < m → ∀ (c j : Nat) (b : Bool), j + c = k → aE d 280 17 [.ref 46, .int acc, .int (nI i), .int (tI b), .int (nI j)] [] (g, I1, J1, aP1 sl rd rl) = aE d 280 4 [.ref 46, .int (if fo (fun j b => b && fp (I 18) (I 19) (I 20) (I 21) i (I 43 j) (I 44 j)) c j b then acc ||| bit i else acc), .int (nI (i + 1)), .int (tI (fo (fun j b => b && fp (I 18) (I 19) (I 20) (I 21) i (I 43 j) (I 44 j)) c j b)), .int (nI k)] [] (g, I1, J1, aP1 sl rd rl) := by
    intro i acc hi c
    induction c with
    | zero =>
      intro j b hj
      obtain rfl : j = k := by omega
      rw [b280_17, if_pos (by rw [e35]; exact Int32.le_refl _), nI_1]
      cases b
      · rw [if_pos tI_f, Int32.or_zero]; rfl
      · rw [if_neg (by decide)]; rfl
    | succ c ih =>
      intro j b hj
      obtain ⟨x1, x2, p, hp, ep, hv⟩ := h4 j (by omega)
      obtain ⟨z1, z2, z3, z4⟩ := zQ_e H hi
      rw [fo_1, b280_17, if_neg (by rw [e35]; exact nI_ge (by omega) (by omega))]
      cases b
      · rw [if_pos tI_f, nI_1, Bool.false_and]; exact ih (j + 1) false (by omega)
      · rw [if_neg (by decide)]
        simp (disch := omega) only [nIneg, nI_clamp, nat_le_f, or_self, if_false]
        rw [r62, r63, x1, x2, ep, f281 (c18 := I 18) (c19 := I 19) (c20 := I 20) (c21 := I 21) (by omega) hp _ (by rw [r50]; exact z1) (by rw [r50]; exact z2) (by rw [r50]; exact z3) (by rw [r50]; exact z4) (hq i hi).2.2.2.2.2.1 hv]
        simp only [aBi]
        rw [b280_49, nI_1, Bool.true_and]
        cases fp (I 18) (I 19) (I 20) (I 21) i (nI p) (I 44 j)
        · rw [if_pos tI_f]; exact ih (j + 1) false (by omega)
        · rw [if_neg (by decide)]; exact ih (j + 1) true (by omega)
  have l : ∀ (c i : Nat) (acc : Int32) (w3 w4 : Value), i + c = m → aE d 280 4 [.ref 46, .int acc, .int (nI i), w3, w4] [] (g, I1, J1, aP1 sl rd rl) = some (some (some (.int (fo (fun i acc => if fAll (fun j => fp (I 18) (I 19) (I 20) (I 21) i (I 43 j) (I 44 j)) k then acc ||| bit i else acc) c i acc))), (g, I1, J1, aP1 sl rd rl)) := by
    intro c
    induction c with
    | zero =>
      intro i acc w3 w4 hi
      obtain rfl : i = m := by omega
      rw [b280_4, if_pos (by rw [e4]; exact Int32.le_refl _)]
      rfl
    | succ c ih =>
      intro i acc w3 w4 hi
      rw [fo_1, b280_4, if_neg (by rw [e4]; exact nI_ge (by omega) (by omega))]
      have r := inner i acc (by omega) k 0 true (by omega)
      have r : aE d 280 17 [.ref 46, .int acc, .int (nI i), .int 1, .int 0] [] (g, I1, J1, aP1 sl rd rl) = _ := r
      rw [r]
      exact ih (i + 1) _ _ _ (by omega)
  show aE d 280 0 [.ref 46, aNo, aNo, aNo, aNo] [] _ = _
  rw [b280_0]
  exact l m 0 0 aNo aNo (by omega)
theorem tie_fits (H : zInv t n m q I J) : tie d 152 279 [] t g I J sl rd := by
  obtain ⟨hm, d1, d2, -⟩ := H.2.2.2.1
  obtain ⟨k, h1, h2, h3, h4⟩ := zH_get H
  have c153 := f153 (d := d) (g := g) (sl := sl) (rd := rd) (rl := 56) H h1 h2 (fun i hi => by obtain ⟨_, _, p, hp, ep, _⟩ := h4 i hi; exact ⟨p, hp, ep⟩)
  have r280 : ∀ (I1 : Nat → Nat → Int32) (J1 : Nat → Nat → Int64), Fr [12, 46] I I1 → F46 [12, 13] I I1 → aF d 280 [.ref 46] (g, I1, J1, aP1 sl rd 56) = some (some (some (.int (ftg I k m))), (g, I1, J1, aP1 sl rd 56)) := fun I1 J1 q1 q2 => f280 H h1 (by rw [q2 4 (by decide)]; exact d2) (by rw [q2 35 (by decide)]; exact h3) (q1 50 (by decide)) (q1 62 (by decide)) (q1 63 (by decide)) h4
  generalize hX : ftg I k m = X at c153 r280
  have e1 : aF d 152 [.ref 6] (g, I, J, aP1 sl rd 56) = some (some (some (.int X)), (g, aU I 12 1 2, aU (aU J 13 0 (Int32.toInt64 (bc X))) 13 1 (Int32.toInt64 (sm (fun i => hasT X (nI i)) (fun i => I 18 i) m)), aP1 sl rd 56)) := by
    show aE d 152 0 [.ref 6, aNo] [] _ = _
    rw [b152_0, c153]
    simp only [aBi]
    rw [b152_11, f12]
    simp only [aBi]
    rw [b152_20, f135 d1 hm]
    simp only [aBi]
    rw [b152_29, f82]
    simp only [aBv]
    rw [b152_33]
  have fr : ∀ v, Fr [12, 46] I (aU (aU (aU I 12 1 2) 46 13 0) 46 12 v) ∧ F46 [12, 13] I (aU (aU (aU I 12 1 2) 46 13 0) 46 12 v) := fun v => by
    refine ⟨?_, fun j hj => ?_⟩
    · simp only [aU_R]; exact Fr_s (Fr_s (Fr_s (Fr_r _ _) _ (by decide)) _ (by decide)) _ (by decide)
    · have hj : j ≠ 12 ∧ j ≠ 13 := by simpa using hj
      rw [aU_i _ _ hj.1, aU_i _ _ hj.2, aU_r _ _ (by decide)]
  have e2 : ∀ J1 : Nat → Nat → Int64, aF d 279 [.ref 46] (g, aU I 12 1 2, J1, aP1 sl rd 56) = some (some (some (.int X)), (g, aU (aU (aU I 12 1 2) 46 13 0) 46 12 2, aU (aU J1 53 0 (Int32.toInt64 (bc X))) 53 1 (Int32.toInt64 (sm (fun i => hasT X (nI i)) (fun i => I 18 i) m)), aP1 sl rd 56)) := by
    intro J1
    show aE d 279 0 [.ref 46] [] _ = _
    rw [b279_0, r280 _ _ (fr 0).1 (fr 0).2]
    simp only [aBi]
    rw [b279_15, f12]
    simp only [aBi]
    rw [b279_18, tell0]
    simp only [aBv]
    rw [b279_22, r280 _ _ (fr 1).1 (fr 1).2]
    simp only [aBi]
    rw [b279_28, f216 (n := m) (by rw [(fr 1).2 4 (by decide)]; exact d2) hm, (fr 1).1 50 (by decide), crowds H]
    simp only [aBi]
    rw [b279_31, tell1]
    simp only [aBv]
    rw [b279_35, r280 _ _ (fr 2).1 (fr 2).2]
    simp only [aBi]
    rw [b279_39]
  have e3 := e2 (aU (aU J 13 0 (Int32.toInt64 (bc X))) 13 1 (Int32.toInt64 (sm (fun i => hasT X (nI i)) (fun i => I 18 i) m)))
  refine tie_R H (Fr12 _ _) (FrT (aU I 12 1 2) 2).1 (FrT (aU I 12 1 2) 2).2 ?_ e1 e3
  refine zR_2 ?_ (aU_s _ _ _ _) ?_ ?_
  · simp (disch := decide) only [aU_r, aU_s]
  · simp (disch := decide) only [aU_r, aU_i, aU_s]
  · simp (disch := decide) only [aU_r, aU_i, aU_s]
/-! ask -/
theorem bcN : ∀ k, k < 256 → bc (nI k) = nI (cnt (nI k) 8) := by decide +kernel
theorem cnt_eq {x : Int32} {p : Nat → Bool} {m : Nat} (hm : m ≤ 8) (h : ∀ i, i < 8 → bt x i = (decide (i < m) && p i)) : cnt x 8 = fo (fun i k => k + (p i).toNat) m 0 0 := by
  have a : ∀ k, k ≤ m → cnt x k = fo (fun i k => k + (p i).toNat) k 0 0 := by
    intro k
    induction k with
    | zero => intro _; rfl
    | succ k ih =>
      intro hk
      rw [fo_split (fun i k => k + (p i).toNat) k 1 0 0, ← ih (by omega)]
      show cnt x k + (bt x k).toNat = cnt x k + (p (0 + k)).toNat
      rw [h k (by omega), decide_eq_true (show k < m by omega), Bool.true_and, Nat.zero_add]
  have b : ∀ k, m + k ≤ 8 → cnt x (m + k) = cnt x m := by
    intro k
    induction k with
    | zero => intro _; rfl
    | succ k ih =>
      intro hk
      show cnt x (m + k) + (bt x (m + k)).toNat = _
      rw [h _ (by omega), decide_eq_false (show ¬ m + k < m by omega), Bool.false_and, ih (by omega)]
      rfl
  have := b (8 - m) (by omega)
  rw [show m + (8 - m) = 8 by omega] at this
  rw [this, a m (Nat.le_refl _)]
def mxI (a b : Int32) : Int32 := if a < b then b else a
def ak1 (Lf : Nat → Int32) (s : Nat) (x : Int32 × Int32) : Int32 × Int32 := if x.2 ≤ Lf s then x else (nI s, Lf s)
theorem tie_ask (H : zInv t n m q I J) : tie d 156 282 [] t g I J sl rd := by
  obtain ⟨hm, d1, d2, hq⟩ := H.2.2.2.1
  obtain ⟨k, h1, h2, h3, h4⟩ := zH_get H
  have c153 := f153 (d := d) (g := g) (sl := sl) (rd := rd) (rl := 56) H h1 h2 (fun i hi => by obtain ⟨_, _, p, hp, ep, _⟩ := h4 i hi; exact ⟨p, hp, ep⟩)
  have r280 : ∀ (I1 : Nat → Nat → Int32) (J1 : Nat → Nat → Int64), Fr [12, 46] I I1 → F46 [12, 13] I I1 → aF d 280 [.ref 46] (g, I1, J1, aP1 sl rd 56) = some (some (some (.int (ftg I k m))), (g, I1, J1, aP1 sl rd 56)) := fun I1 J1 q1 q2 => f280 H h1 (by rw [q2 4 (by decide)]; exact d2) (by rw [q2 35 (by decide)]; exact h3) (q1 50 (by decide)) (q1 62 (by decide)) (q1 63 (by decide)) h4
  obtain ⟨X, hX, eX⟩ := bs_256 (fun i => fAll (fun j => fp (I 18) (I 19) (I 20) (I 21) i (I 43 j) (I 44 j)) k) hm
  have eX' : ftg I k m = nI X := eX
  rw [eX'] at c153
  rw [eX'] at r280
  by_cases h0 : nI X = 0
  · refine tie_0 (rd2 := rd) (v := -2) H (Fr_r _ _) (th_F _) (th_46 _) ?_ ?_
    · show aE d 156 0 [.ref 6, aNo, aNo, aNo, aNo, aNo, aNo] [] _ = _
      rw [b156_0, c153]
      simp only [aBi]
      rw [b156_11, if_pos h0]
    · show aE d 282 0 [.ref 46, aNo, aNo, aNo, aNo, aNo, aNo] [] _ = _
      rw [b282_0, r280 _ _ (by rw [aU_R]; exact Fr_s (Fr_r _ _) _ (by decide)) (fun j hj => aU_i _ _ (fun e => hj (by rw [e]; decide)))]
      simp only [aBi]
      rw [b282_9, if_pos h0]
  -- how many have a gate
  have hav : ∀ s : Nat, ∃ w, w ≤ 8 ∧ bc (bs (fun i => hasT (I 21 i) (nI s)) m &&& nI X) = nI w ∧ w = fo (fun i k => k + (hasT (nI X) (nI i) && hasT (I 21 i) (nI s)).toNat) m 0 0 := by
    intro s
    obtain ⟨Y, hY, eY⟩ := pk_andE (bs (fun i => hasT (I 21 i) (nI s)) m &&& nI X) (m := 255) 8 (by decide)
    have bits : ∀ i, i < 32 → bt (bs (fun i => hasT (I 21 i) (nI s)) m &&& nI X) i = (decide (i < m) && (hasT (nI X) (nI i) && hasT (I 21 i) (nI s))) := fun i hi => by
      rw [b_and, b_bs (by omega) hi, hasT_bt _ hi]
      cases decide (i < m) <;> cases hasT (I 21 i) (nI s) <;> cases bt (nI X) i <;> rfl
    have e255 : (bs (fun i => hasT (I 21 i) (nI s)) m &&& nI X) &&& 255 = (bs (fun i => hasT (I 21 i) (nI s)) m &&& nI X) := by
      refine b_ext (fun i hi => ?_)
      rw [b_and, bits i hi, b_255]
      by_cases h : i < 8
      · simp [h]
      · simp [h, show ¬ i < m by omega]
    have e1 : bc (bs (fun i => hasT (I 21 i) (nI s)) m &&& nI X) = nI (cnt (bs (fun i => hasT (I 21 i) (nI s)) m &&& nI X) 8) := by
      rw [← e255, eY]; exact bcN Y hY
    exact ⟨_, cnt_le _ 8, e1, cnt_eq hm (fun i hi => bits i (by omega))⟩
  have tot : ∃ T, T ≤ 8 ∧ bc (nI X) = nI T := ⟨_, cnt_le _ 8, bcN X hX⟩
  obtain ⟨T, hT, eT⟩ := tot
  generalize hLf : (fun s : Nat => mxI (bc (bs (fun i => hasT (I 21 i) (nI s)) m &&& nI X)) (nI T - bc (bs (fun i => hasT (I 21 i) (nI s)) m &&& nI X))) = Lf
  have Lf_e : ∀ s, mxI (bc (bs (fun i => hasT (I 21 i) (nI s)) m &&& nI X)) (nI T - bc (bs (fun i => hasT (I 21 i) (nI s)) m &&& nI X)) = Lf s := fun s => by rw [← hLf]
  have Lf8 : ¬ 9 ≤ Lf 0 ∧ ¬ 1000000 ≤ Lf 0 := by
    obtain ⟨w, hw, e1, _⟩ := hav 0
    rw [← Lf_e, e1]
    unfold mxI
    have t1 := pk_sub_toInt (a := T) (b := w) (by omega) (by omega)
    have t2 : (nI w).toInt = (w : Int) := nI_toInt (by omega)
    have t3 : (9 : Int32).toInt = 9 := rfl
    have t4 : (1000000 : Int32).toInt = 1000000 := rfl
    split <;> rw [int_le, int_le] <;> omega
  have lC : ∀ (c s : Nat) (x : Int32 × Int32) (w5 w6 : Value), s + c = 9 → aE d 156 27 [.ref 6, .int (nI X), .int x.1, .int x.2, .int (nI s), w5, w6] [] (g, I, J, aP1 sl rd 56) = some (some (some (.int (fo (ak1 Lf) c s x).1)), (g, aU I 12 1 1, aU J 13 0 (Int32.toInt64 (fo (ak1 Lf) c s x).2), aP1 sl rd 56)) := by
    intro c
    induction c with
    | zero =>
      intro s x w5 w6 hs
      obtain rfl : s = 9 := by omega
      rw [b156_27, if_pos (by decide), f83']
      simp only [aBv]
      rw [b156_91]
      rfl
    | succ c ih =>
      intro s x w5 w6 hs
      rw [fo_1, b156_27, if_neg (show ¬ 9 ≤ nI s from nI_ge (b := 9) (by omega) (by decide)), f157 d1 hm]
      simp only [aBi]
      rw [b156_43, f12]
      simp only [aBi]
      rw [b156_48, f12, eT]
      simp only [aBi]
      rw [b156_56]
      have e := Lf_e s
      unfold mxI at e
      rw [e, nI_1]
      unfold ak1
      by_cases z : x.2 ≤ Lf s
      · rw [if_pos z, if_pos z]; exact ih (s + 1) x _ _ (by omega)
      · rw [if_neg z, if_neg z]; exact ih (s + 1) (nI s, Lf s) _ _ (by omega)
  have lR : ∀ (I1 : Nat → Nat → Int32) (J1 : Nat → Nat → Int64), I1 46 4 = nI m → I1 50 = I 50 → ∀ (c s : Nat) (x : Int32 × Int32) (w5 w6 : Value), s + c = 9 → aE d 282 26 [.ref 46, .int (nI X), .int x.1, .int x.2, .int (nI s), w5, w6] [] (g, I1, J1, aP1 sl rd 56) = some (some (some (.int (fo (ak1 Lf) c s x).1)), (g, aU I1 46 12 1, aU J1 53 0 (Int32.toInt64 (fo (ak1 Lf) c s x).2), aP1 sl rd 56)) := by
    intro I1 J1 g4 g50 c
    induction c with
    | zero =>
      intro s x w5 w6 hs
      obtain rfl : s = 9 := by omega
      rw [b282_26, if_pos (by decide), tell0]
      simp only [aBv]
      rw [b282_131]
      rfl
    | succ c ih =>
      intro s x w5 w6 hs
      rw [fo_1, b282_26, if_neg (show ¬ 9 ≤ nI s from nI_ge (b := 9) (by omega) (by decide))]
      have inn : ∀ (c' j w : Nat), j + c' = m → aE d 282 39 [.ref 46, .int (nI X), .int x.1, .int x.2, .int (nI s), .int (nI w), .int (nI j)] [] (g, I1, J1, aP1 sl rd 56) = aE d 282 39 [.ref 46, .int (nI X), .int x.1, .int x.2, .int (nI s), .int (nI (fo (fun i k => k + (hasT (nI X) (nI i) && hasT (I 21 i) (nI s)).toNat) c' j w)), .int (nI m)] [] (g, I1, J1, aP1 sl rd 56) := by
        intro c'
        induction c' with
        | zero => intro j w hj; obtain rfl : j = m := by omega
                  rfl
        | succ c' ih' =>
          intro j w hj
          obtain ⟨z1, z2, z3, z4⟩ := zQ_e H (show j < m by omega)
          rw [fo_1, b282_39, if_neg (by rw [g4]; exact nI_ge (by omega) (by omega)), f217]
          simp only [aBi]
          rw [b282_56, nI_1]
          cases hh : hasT (nI X) (nI j)
          · rw [if_pos tI_f, Int32.add_zero, Bool.false_and]; exact ih' (j + 1) w (by omega)
          · rw [if_neg (by decide)]
            have f := f281 (d := d) (g := g) (I := I1) (J := J1) (sl := sl) (rd := rd) (rl := 56) (c18 := I 18) (c19 := I 19) (c20 := I 20) (c21 := I 21) (i := j) (p := 3) (by omega) (by decide) (nI s) (by rw [g50]; exact z1) (by rw [g50]; exact z2) (by rw [g50]; exact z3) (by rw [g50]; exact z4) (hq j (by omega)).2.2.2.2.2.1 (fun h => by omega)
            have f : aF d 281 [.ref 46, .int (nI j), .int 3, .int (nI s)] (g, I1, J1, aP1 sl rd 56) = some (some (some (.int (tI (hasT (I 21 j) (nI s))))), (g, I1, J1, aP1 sl rd 56)) := f
            rw [f]
            simp only [aBi]
            rw [b282_68, nI_1, nI_1]
            cases hasT (I 21 j) (nI s)
            · rw [if_pos tI_f, Int32.add_zero]; exact ih' (j + 1) w (by omega)
            · rw [if_neg (by decide)]; exact ih' (j + 1) (w + 1) (by omega)
      have i0 := inn m 0 0 (by omega)
      have i0 : aE d 282 39 [.ref 46, .int (nI X), .int x.1, .int x.2, .int (nI s), .int 0, .int 0] [] (g, I1, J1, aP1 sl rd 56) = _ := i0
      obtain ⟨w, hw, e1, e2⟩ := hav s
      rw [i0, ← e2, b282_39, if_pos (by rw [g4]; exact Int32.le_refl _), f12, eT]
      simp only [aBi]
      rw [b282_91]
      have e := Lf_e s
      rw [e1] at e
      unfold mxI at e
      rw [e, nI_1]
      unfold ak1
      by_cases z : x.2 ≤ Lf s
      · rw [if_neg (by rw [← nle_lt]; exact fun h => h z), if_pos z]; exact ih (s + 1) x _ _ (by omega)
      · rw [if_pos (by rw [← nle_lt]; exact z), if_neg z]; exact ih (s + 1) (nI s, Lf s) _ _ (by omega)
  have e1 := lC 9 0 (0, 9) aNo aNo rfl
  have e2 := lR (aU (aU I 12 1 1) 46 13 0) (aU J 13 0 (Int32.toInt64 (fo (ak1 Lf) 9 0 (0, 9)).2)) (by rw [aU_i _ _ (by decide), aU_r _ _ (by decide)]; exact d2) (by simp (disch := decide) only [aU_r]) 9 0 (-1, 1000000) aNo aNo rfl
  have same : fo (ak1 Lf) 9 0 (-1, 1000000) = fo (ak1 Lf) 9 0 (0, 9) := by
    rw [fo_1 (ak1 Lf) 8 0 (-1, 1000000), fo_1 (ak1 Lf) 8 0 (0, 9), show ak1 Lf 0 (-1, 1000000) = (nI 0, Lf 0) from if_neg Lf8.2, show ak1 Lf 0 (0, 9) = (nI 0, Lf 0) from if_neg Lf8.1]
  rw [same] at e2
  refine tie_R H (Fr12 _ _) (FrT (aU I 12 1 1) 1).1 (FrT (aU I 12 1 1) 1).2 ?_ (Eq.trans ?_ e1) (Eq.trans ?_ e2)
  · refine zR_1 ?_ (aU_s _ _ _ _) ?_
    · simp (disch := decide) only [aU_r, aU_s]
    · simp (disch := decide) only [aU_r, aU_i, aU_s]
  · show aE d 156 0 [.ref 6, aNo, aNo, aNo, aNo, aNo, aNo] [] _ = _
    rw [b156_0, c153]
    simp only [aBi]
    rw [b156_11, if_neg h0]
    rfl
  · show aE d 282 0 [.ref 46, aNo, aNo, aNo, aNo, aNo, aNo] [] _ = _
    rw [b282_0, r280 _ _ (by simp only [aU_R]; exact Fr_s (Fr_s (Fr_r _ _) _ (by decide)) _ (by decide)) (fun j hj => by rw [aU_i _ _ (fun e => hj (by rw [e]; decide)), aU_r _ _ (by decide)])]
    simp only [aBi]
    rw [b282_9, if_neg h0]
    rfl
end T00
section T01
/-! worst: tied -/
variable {d : Nat} {g : Nat × Nat × Nat} {I : Nat → Nat → Int32} {J : Nat → Nat → Int64} {sl rd rl : Nat} {t n m q : Nat}
/-- what side b in quarrel j adds -/
def adW (V ad : Nat → Int32) (j b : Nat) : Int32 := lo2 (rSide V j b (ad (4 * j + b)) (ad (4 * j + 2 + b))) - lo2 V
theorem lo2_rV (f : Nat → Int32) : lo2 (rV f) = if f 3 < f 2 then f 3 else f 2 := rfl
theorem lo2_n {v : Nat → Int32} {a b : Nat} (ha : a ≤ 999) (hb : b ≤ 999) (e2 : v 2 = nI a) (e3 : v 3 = nI b) : lo2 v = nI (if b < a then b else a) := by
  unfold lo2
  rw [e2, e3]
  by_cases h : b < a
  · rw [if_pos h, if_pos (nI_lt h (by omega))]
  · rw [if_neg h, if_neg (nI_nlt (by omega) (by omega))]
theorem cl9_n {a : Nat} (ha : a ≤ 2000) : cl9 (nI a) = nI (if a < 999 then a else 999) := by
  unfold cl9
  by_cases h : a < 999
  · rw [if_pos h, if_pos (show nI a < 999 from nI_lt (b := 999) h (by decide))]
    by_cases h0 : a = 0
    · subst h0; rfl
    · rw [if_pos (show 0 < nI a from nI_lt (a := 0) (by omega) (by omega))]
  · rw [if_neg h, if_neg (show ¬ nI a < 999 from nI_nlt (b := 999) (by omega) (by omega)), if_pos (by decide)]; rfl
theorem adW_n {V ad : Nat → Int32} {j b : Nat} (hV : okW n q V) (hA : ∀ k, k < 4 * q → ∃ p, p ≤ 99 ∧ ad k = nI p) (hj : j < q) (hq : q ≤ 8) (hb : b < 2) : ∃ k, k ≤ 999 ∧ adW V ad j b = nI k := by
  obtain ⟨x, hx, ex⟩ := hV.2.1 0 (by decide)
  obtain ⟨y, hy, ey⟩ := hV.2.1 1 (by decide)
  have ex : V 2 = nI x := ex
  have ey : V 3 = nI y := ey
  obtain ⟨p, hp, ep⟩ := hA (4 * j + b) (by omega)
  obtain ⟨r, hr, er⟩ := hA (4 * j + 2 + b) (by omega)
  have e2 : rSide V j b (ad (4 * j + b)) (ad (4 * j + 2 + b)) 2 = nI (if x + p < 999 then x + p else 999) := by
    unfold rSide adA
    rw [upd_n _ _ (by omega), upd_s, upd_n _ _ (by omega), show 2 + 0 = 2 from rfl, ex, ep, nI_add, cl9_n (by omega)]
  have e3 : rSide V j b (ad (4 * j + b)) (ad (4 * j + 2 + b)) 3 = nI (if y + r < 999 then y + r else 999) := by
    unfold rSide adA
    rw [show 3 = 2 + 1 from rfl, upd_s, upd_n _ _ (by omega), upd_n _ _ (by omega), show 2 + 1 = 3 from rfl, ey, er, nI_add, cl9_n (by omega)]
  unfold adW
  rw [lo2_n (v := V) hx hy ex ey, lo2_n (by split <;> omega) (by split <;> omega) e2 e3]
  have le : (if y < x then y else x) ≤ (if (if y + r < 999 then y + r else 999) < (if x + p < 999 then x + p else 999) then (if y + r < 999 then y + r else 999) else (if x + p < 999 then x + p else 999)) := by
    (repeat' split) <;> omega
  rw [pk_sub le]
  refine ⟨_, ?_, rfl⟩
  (repeat' split) <;> omega
theorem f128 (H : zInv t n m q I J) {j b : Nat} (hj : j < q) (hb : b < 2) (ho : I 24 (24 + j) = -1) {I1 : Nat → Nat → Int32} {J1 : Nat → Nat → Int64} (q1 : Fr [28] I I1) : ∃ I', Fr [28] I I' ∧ aF d 128 [.ref 6, .int (nI j), .int (nI b)] (g, I1, J1, aP1 sl rd rl) = some (some (some (.int (adW (cV (I 24)) (I 22) j b))), (g, I', J1, aP1 sl rd rl)) := by
  obtain ⟨hq, d1, d2, -⟩ := H.2.2.2.2.1
  have T28 : ∀ i, i < 32 → aR I1 28 (cpB (I1 28) (I1 24) 0 32) 28 i = I 24 i := fun i hi => by
    rw [aR_s, cpB_in _ _ (by omega) (by omega), q1 24 (by decide)]; rfl
  have T : Fr [28] I (aR I1 28 (cpB (I1 28) (I1 24) 0 32)) := Fr_s q1 _ (by decide)
  generalize hI2 : aR I1 28 (cpB (I1 28) (I1 24) 0 32) = I2 at T T28
  have f := f99_28 (d := d) (g := g) (I := I2) (J := J1) (sl := sl) (rd := rd) (rl := rl) (n := q) (q := j) (b := b) hb hj hq (by rw [T 14 (by decide)]; exact d1)
  rw [T28 (24 + j) (by omega), if_pos ho, T 22 (by decide)] at f
  refine ⟨aR I2 28 (cSide (I2 28) j b (I 22 (4 * j + b)) (I 22 (4 * j + 2 + b))), Fr_s T _ (by decide), ?_⟩
  show aE d 128 0 [.ref 6, .int (nI j), .int (nI b)] [] _ = _
  rw [b128_0, f63_28, hI2]
  simp only [aBv]
  rw [b128_11, f]
  simp only [aBi]
  rw [b128_24, f79_27]
  simp only [aBi]
  rw [b128_32, f79_23]
  simp only [aBi]
  rw [b128_39, aR_s, aR_r _ _ (show 24 ≠ 28 by decide), T 24 (by decide)]
  have e : cV (cSide (I2 28) j b (I 22 (4 * j + b)) (I 22 (4 * j + 2 + b))) = rSide (cV (I 24)) j b (I 22 (4 * j + b)) (I 22 (4 * j + 2 + b)) := by
    rw [cSide_v _ _ _ (by omega), cV_congr T28]
  unfold adW
  rw [← e]
  rfl
theorem f262 (H : zInv t n m q I J) {j b : Nat} (hj : j < q) (hb : b < 2) {Ic I1 : Nat → Nat → Int32} {J1 : Nat → Nat → Int64} (hIc : Fr [12, 28] I Ic) (q1 : Fr [46, 60] Ic I1) (q2 : F46 [12, 13] Ic I1) : ∃ I', Fr [46, 60] Ic I' ∧ I' 46 = I1 46 ∧ aF d 262 [.ref 46, .int (nI j), .int (nI b)] (g, I1, J1, aP1 sl rd rl) = some (some (some (.int (adW (cV (I 24)) (I 22) j b))), (g, I', J1, aP1 sl rd rl)) := by
  obtain ⟨hq, d1, d2, -⟩ := H.2.2.2.2.1
  have hS := H.2.2.2.2.2.2.1
  have f2 := f222_60 (d := d) (g := g) (I := I1) (J := J1) (sl := sl) (rd := rd) (rl := rl) (o := 0) (by decide)
  have f2 : aF d 222 [.ref 47, .ref 60, .int 0] (g, I1, J1, aP1 sl rd rl) = _ := f2
  have e47 : I1 47 = I 47 := by rw [q1 47 (by decide), hIc 47 (by decide)]
  have e51 : ∀ k, k < 4 * q → I1 51 k = I 22 k := fun k hk => by rw [q1 51 (by decide), hIc 51 (by decide)]; exact zS_e H hk
  refine ⟨aR (aR I1 60 (cpB (I1 60) (I1 47) 0 39)) 60 (rSide (cpB (I1 60) (I1 47) 0 39) j b (I 22 (4 * j + b)) (I 22 (4 * j + 2 + b))), Fr_s (Fr_s q1 _ (by decide)) _ (by decide), by rw [aR_r _ _ (by decide), aR_r _ _ (by decide)], ?_⟩
  show aE d 262 0 [.ref 46, .int (nI j), .int (nI b)] [] _ = _
  rw [b262_0, f2]
  simp only [aBv]
  rw [b262_12, f242_60 (by omega) hb, aR_s, aR_r _ _ (show 51 ≠ 60 by decide), e51 _ (by omega), e51 _ (by omega)]
  simp only [aBv]
  rw [b262_22]
  have e : rV (rSide (cpB (I1 60) (I1 47) 0 39) j b (I 22 (4 * j + b)) (I 22 (4 * j + 2 + b))) = rSide (cV (I 24)) j b (I 22 (4 * j + b)) (I 22 (4 * j + 2 + b)) := by
    rw [rSide_r _ _ _ (by omega), hS.1, ← e47, show rV (cpB (I1 60) (I1 47) 0 39) = rV (I1 47) from rV_congr (fun i hi => by rw [cpB_in _ _ (by omega) (by omega)]; rfl)]
  unfold adW
  rw [← e, hS.1, ← e47, aR_s, aR_r _ _ (show 47 ≠ 60 by decide), aR_r _ _ (show 47 ≠ 60 by decide), lo2_rV, lo2_rV, aR_u]
/-- the worst so far: who, how much -/
def wo (A : Nat → Nat → Nat) (op : Nat → Bool) (j : Nat) (x : Option (Nat × Nat)) : Option (Nat × Nat) :=
  if op j = true then (match x with
    | none => some (j, max (A j 0) (A j 1))
    | some (w, mo) => if mo < max (A j 0) (A j 1) then some (j, max (A j 0) (A j 1)) else some (w, mo)) else x
def woI (x : Option (Nat × Nat)) : Int32 := match x with
  | none => -1
  | some (w, _) => nI w
theorem tie_worst (H : zInv t n m q I J) : tie d 127 261 [] t g I J sl rd := by
  obtain ⟨hq, d1, d2, dA⟩ := H.2.2.2.2.1
  have hS := H.2.2.2.2.2.2.1
  obtain ⟨L, hL, s1, s2, s3⟩ := sd_get (d := d) (g := g) (sl := sl) (rd := rd) (rl := 56) H
  have hV : okW n q (cV (I 24)) := by rw [hS.1]; exact hS.2.1
  have hN : ∀ j b : Nat, ∃ k, k ≤ 999 ∧ (j < q → b < 2 → adW (cV (I 24)) (I 22) j b = nI k) := by
    intro j b
    by_cases h : j < q ∧ b < 2
    · obtain ⟨k, h1, h2⟩ := adW_n hV (fun k hk => (dA k hk).2) h.1 hq h.2
      exact ⟨k, h1, fun _ _ => h2⟩
    · exact ⟨0, by omega, fun h1 h2 => absurd ⟨h1, h2⟩ h⟩
  obtain ⟨A, hA⟩ : ∃ A : Nat → Nat → Nat, ∀ j b, A j b ≤ 999 ∧ (j < q → b < 2 → adW (cV (I 24)) (I 22) j b = nI (A j b)) := ⟨fun j b => Classical.choose (hN j b), fun j b => Classical.choose_spec (hN j b)⟩
  have okx : ∀ (x : Option (Nat × Nat)) (j : Nat), (∀ w mo, x = some (w, mo) → w < q ∧ mo ≤ 999 ∧ mo = max (A w 0) (A w 1) ∧ decide (I 24 (24 + w) = -1) = true) → j < q → ∀ w mo, wo A (fun j => decide (I 24 (24 + j) = -1)) j x = some (w, mo) → w < q ∧ mo ≤ 999 ∧ mo = max (A w 0) (A w 1) ∧ decide (I 24 (24 + w) = -1) = true := by
    intro x j hx hj w mo e
    unfold wo at e
    split at e
    · rename_i hop
      split at e
      · cases e
        exact ⟨hj, by have := (hA j 0).1; have := (hA j 1).1; omega, rfl, hop⟩
      · rename_i w' mo'
        split at e
        · cases e
          exact ⟨hj, by have := (hA j 0).1; have := (hA j 1).1; omega, rfl, hop⟩
        · exact hx w mo e
    · exact hx w mo e
  -- the class
  have lC : ∀ (k j : Nat) (x : Option (Nat × Nat)) (mo sd : Int32) (I1 : Nat → Nat → Int32) (w6 w7 : Value), j + k = q → Fr [28] I I1 → (∀ w m', x = some (w, m') → w < q ∧ m' ≤ 999 ∧ m' = max (A w 0) (A w 1) ∧ decide (I 24 (24 + w) = -1) = true) → (∀ w m', x = some (w, m') → mo = nI m' ∧ sd = if A w 0 = m' then 0 else 1) → ∃ I' mo' sd' w6' w7', Fr [28] I I' ∧ (∀ w m', fo (wo A (fun j => decide (I 24 (24 + j) = -1))) k j x = some (w, m') → mo' = nI m' ∧ sd' = if A w 0 = m' then 0 else 1) ∧ aE d 127 22 [.ref 6, .int (nI L), .int (woI x), .int mo, .int sd, .int (nI j), w6, w7] [] (g, I1, J, aP1 sl rd 56) = aE d 127 22 [.ref 6, .int (nI L), .int (woI (fo (wo A (fun j => decide (I 24 (24 + j) = -1))) k j x)), .int mo', .int sd', .int (nI q), w6', w7'] [] (g, I', J, aP1 sl rd 56) := by
    intro k
    induction k with
    | zero =>
      intro j x mo sd I1 w6 w7 hj q1 hx hms
      obtain rfl : j = q := by omega
      exact ⟨I1, mo, sd, w6, w7, q1, hms, rfl⟩
    | succ k ih =>
      intro j x mo sd I1 w6 w7 hj q1 hx hms
      have hjq : j < q := by omega
      have hl := s3 j hjq
      rw [fo_1]
      have hx' := okx x j hx hjq
      have n2 : ¬ I1 14 9 ≤ nI j := by rw [q1 14 (by decide), d1]; exact nI_ge (by omega) (by omega)
      by_cases ho : I 24 (24 + j) = -1
      · have hop : decide (I 24 (24 + j) = -1) = true := decide_eq_true ho
        obtain ⟨I2, p1, p2⟩ := f128 (d := d) (g := g) (sl := sl) (rd := rd) (rl := 56) (b := 0) (J1 := J) H hjq (by decide) ho q1
        obtain ⟨I3, p3, p4⟩ := f128 (d := d) (g := g) (sl := sl) (rd := rd) (rl := 56) (b := 1) (J1 := J) H hjq (by decide) ho p1
        rw [(hA j 0).2 hjq (by decide)] at p2
        rw [(hA j 1).2 hjq (by decide)] at p4
        have p2 : aF d 128 [.ref 6, .int (nI j), .int 0] (g, I1, J, aP1 sl rd 56) = _ := p2
        have p4 : aF d 128 [.ref 6, .int (nI j), .int 1] (g, I2, J, aP1 sl rd 56) = _ := p4
        have a0 := (hA j 0).1
        have a1 := (hA j 1).1
        -- its first side
        have one : ∃ mo1 sd1 w71 b1, aE d 127 22 [.ref 6, .int (nI L), .int (woI x), .int mo, .int sd, .int (nI j), w6, w7] [] (g, I1, J, aP1 sl rd 56) = aE d 127 37 [.ref 6, .int (nI L), .int b1, .int mo1, .int sd1, .int (nI j), .int 1, w71] [] (g, I2, J, aP1 sl rd 56) ∧ ((b1 = nI j ∧ mo1 = nI (A j 0) ∧ sd1 = 0 ∧ (∀ w m', x = some (w, m') → m' < A j 0)) ∨ (∃ w m', x = some (w, m') ∧ A j 0 ≤ m' ∧ b1 = nI w ∧ mo1 = mo ∧ sd1 = sd)) := by
          have hd : aE d 127 22 [.ref 6, .int (nI L), .int (woI x), .int mo, .int sd, .int (nI j), w6, w7] [] (g, I1, J, aP1 sl rd 56) = aE d 127 60 [.ref 6, .int (nI L), .int (woI x), .int mo, .int sd, .int (nI j), .int 0, w7] [.int (nI (A j 0))] (g, I2, J, aP1 sl rd 56) := by
            rw [b127_22, if_neg n2, b127_37, if_neg (by decide), f93, hl, hop]
            simp only [aBi]
            rw [b127_49, if_neg (by decide), p2]
            simp only [aBi]
          rw [hd, b127_60]
          cases hx0 : x with
          | none =>
            refine ⟨nI (A j 0), 0, .int (nI (A j 0)), nI j, ?_, Or.inl ⟨rfl, rfl, rfl, fun w m' h => by cases h⟩⟩
            rw [if_pos (show woI none = -1 from rfl)]
            rfl
          | some y =>
            obtain ⟨w, m'⟩ := y
            obtain ⟨u1, u2⟩ := hms w m' hx0
            obtain ⟨v1, v2, v3, v4⟩ := hx w m' hx0
            rw [if_neg (show ¬ woI (some (w, m')) = -1 from of_eq_false (nIm1 (by omega)))]
            by_cases z : A j 0 ≤ m'
            · refine ⟨mo, sd, .int (nI (A j 0)), nI w, ?_, Or.inr ⟨w, m', rfl, z, rfl, rfl, rfl⟩⟩
              rw [u1, if_pos (nI_le z (by omega))]
              rfl
            · refine ⟨nI (A j 0), 0, .int (nI (A j 0)), nI j, ?_, Or.inl ⟨rfl, rfl, rfl, fun w2 m2 h => by cases h; omega⟩⟩
              rw [u1, if_neg (nI_ge (by omega) (by omega))]
              rfl
        obtain ⟨mo1, sd1, w71, b1, e1, c1⟩ := one
        have two : ∃ mo2 sd2 w72 b2, aE d 127 37 [.ref 6, .int (nI L), .int b1, .int mo1, .int sd1, .int (nI j), .int 1, w71] [] (g, I2, J, aP1 sl rd 56) = aE d 127 22 [.ref 6, .int (nI L), .int b2, .int mo2, .int sd2, .int (nI (j + 1)), .int 2, w72] [] (g, I3, J, aP1 sl rd 56) ∧ b2 = woI (wo A (fun j => decide (I 24 (24 + j) = -1)) j x) ∧ (∀ w m', wo A (fun j => decide (I 24 (24 + j) = -1)) j x = some (w, m') → mo2 = nI m' ∧ sd2 = if A w 0 = m' then 0 else 1) := by
          have hd : aE d 127 37 [.ref 6, .int (nI L), .int b1, .int mo1, .int sd1, .int (nI j), .int 1, w71] [] (g, I2, J, aP1 sl rd 56) = aE d 127 60 [.ref 6, .int (nI L), .int b1, .int mo1, .int sd1, .int (nI j), .int 1, w71] [.int (nI (A j 1))] (g, I3, J, aP1 sl rd 56) := by
            rw [b127_37, if_neg (by decide), f93, hl, hop]
            simp only [aBi]
            rw [b127_49, if_neg (by decide), p4]
            simp only [aBi]
          have b1n : ¬ b1 = -1 := by
            rcases c1 with ⟨h, _⟩ | ⟨w, m', h, _, h2, _⟩
            · rw [h]; exact of_eq_false (nIm1 (by omega))
            · rw [h2]; have := (hx w m' h).1; exact of_eq_false (nIm1 (by omega))
          have nx : ∀ b2 mo2 sd2 w72, aE d 127 37 [.ref 6, .int (nI L), .int b2, .int mo2, .int sd2, .int (nI j), .int (1 + 1), w72] [] (g, I3, J, aP1 sl rd 56) = aE d 127 22 [.ref 6, .int (nI L), .int b2, .int mo2, .int sd2, .int (nI (j + 1)), .int 2, w72] [] (g, I3, J, aP1 sl rd 56) := by
            intro b2 mo2 sd2 w72
            rw [b127_37, if_pos (by decide), nI_1]
            rfl
          rw [hd, b127_60, if_neg b1n]
          rcases c1 with ⟨h1, h2, h3, h4⟩ | ⟨w, m', hxw, h1, h2, h3, h4⟩
          · have wx : wo A (fun j => decide (I 24 (24 + j) = -1)) j x = some (j, max (A j 0) (A j 1)) := by
              unfold wo
              rw [if_pos hop]
              cases hx0 : x with
              | none => rfl
              | some y =>
                obtain ⟨w, m'⟩ := y
                have := h4 w m' hx0
                simp only
                rw [if_pos (by omega)]
            rw [h2]
            by_cases z : A j 1 ≤ A j 0
            · refine ⟨nI (A j 0), 0, .int (nI (A j 1)), nI j, ?_, ?_, ?_⟩
              · rw [if_pos (nI_le z (by omega)), h1, h3]; exact nx _ _ _ _
              · rw [wx]; rfl
              · intro w m' e
                rw [wx] at e
                cases e
                rw [show max (A j 0) (A j 1) = A j 0 by omega, if_pos rfl]
                exact ⟨rfl, rfl⟩
            · refine ⟨nI (A j 1), 1, .int (nI (A j 1)), nI j, ?_, ?_, ?_⟩
              · rw [if_neg (nI_ge (by omega) (by omega))]; exact nx _ _ _ _
              · rw [wx]; rfl
              · intro w m' e
                rw [wx] at e
                cases e
                rw [show max (A j 0) (A j 1) = A j 1 by omega, if_neg (by omega)]
                exact ⟨rfl, rfl⟩
          · obtain ⟨u1, u2⟩ := hms w m' hxw
            obtain ⟨v1, v2, v3, v4⟩ := hx w m' hxw
            rw [h3, u1]
            by_cases z : A j 1 ≤ m'
            · have wx : wo A (fun j => decide (I 24 (24 + j) = -1)) j x = some (w, m') := by
                unfold wo
                rw [if_pos hop, hxw]
                simp only
                rw [if_neg (by omega)]
              refine ⟨nI m', sd1, .int (nI (A j 1)), nI w, ?_, ?_, ?_⟩
              · rw [if_pos (nI_le z (by omega)), h2]; exact nx _ _ _ _
              · rw [wx]; rfl
              · intro w2 m2 e
                rw [wx] at e
                cases e
                exact ⟨rfl, h4.trans u2⟩
            · have wx : wo A (fun j => decide (I 24 (24 + j) = -1)) j x = some (j, max (A j 0) (A j 1)) := by
                unfold wo
                rw [if_pos hop, hxw]
                simp only
                rw [if_pos (by omega)]
              refine ⟨nI (A j 1), 1, .int (nI (A j 1)), nI j, ?_, ?_, ?_⟩
              · rw [if_neg (nI_ge (by omega) (by omega))]; exact nx _ _ _ _
              · rw [wx]; rfl
              · intro w2 m2 e
                rw [wx] at e
                cases e
                rw [show max (A j 0) (A j 1) = A j 1 by omega, if_neg (by omega)]
                exact ⟨rfl, rfl⟩
        obtain ⟨mo2, sd2, w72, b2, e2, e3, e4⟩ := two
        rw [e1, e2, e3]
        exact ih (j + 1) _ mo2 sd2 I3 _ _ (by omega) p3 hx' e4
      · have hop : decide (I 24 (24 + j) = -1) = false := decide_eq_false ho
        have wx : wo A (fun j => decide (I 24 (24 + j) = -1)) j x = x := by
          unfold wo; rw [if_neg (show ¬ decide (I 24 (24 + j) = -1) = true from by rw [hop]; decide)]
        rw [wx, b127_22, if_neg n2, b127_37, if_neg (by decide), f93, hl, hop]
        simp only [aBi]
        rw [b127_49, if_pos tI_f, nI_1]
        exact ih (j + 1) x mo sd I1 _ _ (by omega) q1 hx hms
  -- the reference
  have lR : ∀ (Ic : Nat → Nat → Int32) (J1 : Nat → Nat → Int64), Fr [12, 28] I Ic → ∀ (k j : Nat) (x : Option (Nat × Nat)) (mo : Int32) (I1 : Nat → Nat → Int32), j + k = q → Fr [46, 60] Ic I1 → F46 [13] Ic I1 → (∀ w m', x = some (w, m') → w < q ∧ m' ≤ 999 ∧ m' = max (A w 0) (A w 1) ∧ decide (I 24 (24 + w) = -1) = true) → (∀ w m', x = some (w, m') → mo = nI m') → (x = none → mo = -1) → ∃ I' mo', Fr [46, 60] Ic I' ∧ F46 [13] Ic I' ∧ (∀ w m', fo (wo A (fun j => decide (I 24 (24 + j) = -1))) k j x = some (w, m') → mo' = nI m') ∧ aE d 261 11 [.ref 46, .int (woI x), .int mo, .int (nI j)] [] (g, I1, J1, aP1 sl rd 56) = aE d 261 11 [.ref 46, .int (woI (fo (wo A (fun j => decide (I 24 (24 + j) = -1))) k j x)), .int mo', .int (nI q)] [] (g, I', J1, aP1 sl rd 56) := by
    intro Ic J1 hIc k
    induction k with
    | zero =>
      intro j x mo I1 hj q1 q2 hx hms hm0
      obtain rfl : j = q := by omega
      exact ⟨I1, mo, q1, q2, hms, rfl⟩
    | succ k ih =>
      intro j x mo I1 hj q1 q2 hx hms hm0
      have hjq : j < q := by omega
      rw [fo_1]
      have hx' := okx x j hx hjq
      have e47 : I1 47 = I 47 := by rw [q1 47 (by decide), hIc 47 (by decide)]
      have n2 : ¬ I1 46 6 ≤ nI j := by rw [q2 6 (by decide), hIc 46 (by decide), d2]; exact nI_ge (by omega) (by omega)
      have i30 : I 47 (30 + j) = I 24 (24 + j) := (okS_s hS (by omega)).symm
      have hd : aE d 261 11 [.ref 46, .int (woI x), .int mo, .int (nI j)] [] (g, I1, J1, aP1 sl rd 56) = if I 24 (24 + j) = -1 then aBi (aF d 262 [.ref 46, .int (nI j), .int 0] (g, I1, J1, aP1 sl rd 56)) (fun x1 t1 => aE d 261 38 [.ref 46, .int (woI x), .int mo, .int (nI j)] [.int x1] t1) else aE d 261 11 [.ref 46, .int (woI x), .int mo, .int (nI (j + 1))] [] (g, I1, J1, aP1 sl rd 56) := by
        rw [b261_11, if_neg n2, nI_1]
        simp (disch := omega) only [nIp30, nIneg, nI_clamp, nat_le_f, or_self, if_false, e47, i30]
      rw [hd]
      by_cases ho : I 24 (24 + j) = -1
      · have hop : decide (I 24 (24 + j) = -1) = true := decide_eq_true ho
        have q2w : ∀ I' : Nat → Nat → Int32, F46 [13] Ic I' → F46 [12, 13] Ic I' := fun I' h => F46_w h (by decide)
        have nxt : ∀ I1' : Nat → Nat → Int32, Fr [46, 60] Ic I1' → F46 [13] Ic I1' → ∀ b, b < 2 → ∃ I', Fr [46, 60] Ic I' ∧ F46 [13] Ic I' ∧ aF d 262 [.ref 46, .int (nI j), .int (nI b)] (g, I1', J1, aP1 sl rd 56) = some (some (some (.int (nI (A j b)))), (g, I', J1, aP1 sl rd 56)) := by
          intro I1' r1 r2 b hb
          obtain ⟨I', p1, p2, p3⟩ := f262 (d := d) (g := g) (sl := sl) (rd := rd) (rl := 56) (J1 := J1) H hjq hb hIc r1 (q2w _ r2)
          rw [(hA j b).2 hjq hb] at p3
          exact ⟨I', p1, fun i hi => by rw [p2]; exact r2 i hi, p3⟩
        obtain ⟨I2, p1, p2, p3⟩ := nxt I1 q1 q2 0 (by decide)
        obtain ⟨I3, p4, p5, p6⟩ := nxt I2 p1 p2 1 (by decide)
        obtain ⟨I4, p7, p8, p9⟩ := nxt I3 p4 p5 0 (by decide)
        obtain ⟨I5, r1, r2, r3⟩ := nxt I4 p7 p8 1 (by decide)
        have p3 : aF d 262 [.ref 46, .int (nI j), .int 0] (g, I1, J1, aP1 sl rd 56) = _ := p3
        have p6 : aF d 262 [.ref 46, .int (nI j), .int 1] (g, I2, J1, aP1 sl rd 56) = _ := p6
        have p9 : aF d 262 [.ref 46, .int (nI j), .int 0] (g, I3, J1, aP1 sl rd 56) = _ := p9
        have r3 : aF d 262 [.ref 46, .int (nI j), .int 1] (g, I4, J1, aP1 sl rd 56) = _ := r3
        have a0 := (hA j 0).1
        have a1 := (hA j 1).1
        have mx : (if nI (A j 0) < nI (A j 1) then nI (A j 1) else nI (A j 0)) = nI (max (A j 0) (A j 1)) := by
          by_cases h : A j 0 < A j 1
          · rw [if_pos (nI_lt h (by omega)), show max (A j 0) (A j 1) = A j 1 by omega]
          · rw [if_neg (nI_nlt (by omega) (by omega)), show max (A j 0) (A j 1) = A j 0 by omega]
        rw [if_pos ho, p3]
        simp only [aBi]
        rw [b261_38, p6]
        simp only [aBi]
        rw [b261_44, mx, nI_1]
        have take : (mo < nI (max (A j 0) (A j 1))) → wo A (fun j => decide (I 24 (24 + j) = -1)) j x = some (j, max (A j 0) (A j 1)) := by
          intro hlt
          unfold wo
          rw [if_pos hop]
          cases hx0 : x with
          | none => rfl
          | some y =>
            obtain ⟨w, m'⟩ := y
            have u := hms w m' hx0
            have v := (hx w m' hx0).2.1
            rw [u] at hlt
            have := nI_lti hlt (by omega)
            simp only
            rw [if_pos this]
        have leave : ¬ (mo < nI (max (A j 0) (A j 1))) → wo A (fun j => decide (I 24 (24 + j) = -1)) j x = x := by
          intro hlt
          unfold wo
          rw [if_pos hop]
          cases hx0 : x with
          | none =>
            exfalso
            rw [hm0 hx0] at hlt
            apply hlt
            rw [int_lt, nI_toInt (by omega), show (-1 : Int32).toInt = -1 from rfl]
            omega
          | some y =>
            obtain ⟨w, m'⟩ := y
            have u := hms w m' hx0
            have v := (hx w m' hx0).2.1
            rw [u] at hlt
            simp only
            rw [if_neg (fun h => hlt (nI_lt h (by omega)))]
        by_cases z : mo < nI (max (A j 0) (A j 1))
        · rw [if_pos z, p9]
          simp only [aBi]
          rw [b261_62, r3]
          simp only [aBi]
          rw [b261_68, mx, nI_1, take z]
          exact ih (j + 1) (some (j, max (A j 0) (A j 1))) _ I5 (by omega) r1 r2 (by rw [← take z]; exact hx') (fun w m' h => by cases h; rfl) (fun h => by cases h)
        · rw [if_neg z, leave z]
          exact ih (j + 1) x mo I3 (by omega) p4 p5 hx hms hm0
      · have wx : wo A (fun j => decide (I 24 (24 + j) = -1)) j x = x := by
          unfold wo; rw [if_neg (show ¬ decide (I 24 (24 + j) = -1) = true from by rw [decide_eq_false ho]; decide)]
        rw [if_neg ho, wx]
        exact ih (j + 1) x mo I1 (by omega) q1 q2 hx hms hm0
  obtain ⟨I1, mo1, sd1, w6, w7, a1, a2, a3⟩ := lC q 0 none 0 0 I aNo aNo (by omega) (Fr_r _ _) (fun w m' h => by cases h) (fun w m' h => by cases h)
  have eC : aF d 127 [.ref 6] (g, I, J, aP1 sl rd 56) = aE d 127 22 [.ref 6, .int (nI L), .int (woI none), .int 0, .int 0, .int (nI 0), aNo, aNo] [] (g, I, J, aP1 sl rd 56) := by
    show aE d 127 0 [.ref 6, aNo, aNo, aNo, aNo, aNo, aNo, aNo] [] _ = _
    rw [b127_0, s1 I J rfl rfl]
    simp only [aBi]
    rw [b127_11]
    rfl
  have eR : ∀ (Ic : Nat → Nat → Int32) (J1 : Nat → Nat → Int64), aF d 261 [.ref 46] (g, Ic, J1, aP1 sl rd 56) = aE d 261 11 [.ref 46, .int (woI none), .int (-1), .int (nI 0)] [] (g, aU Ic 46 13 0, J1, aP1 sl rd 56) := by
    intro Ic J1
    show aE d 261 0 [.ref 46, aNo, aNo, aNo] [] _ = _
    rw [b261_0]
    rfl
  have lR0 := fun (Ic : Nat → Nat → Int32) (J1 : Nat → Nat → Int64) (h : Fr [12, 28] I Ic) => lR Ic J1 h q 0 none (-1) (aU Ic 46 13 0) (by omega) (thF _).1 (thF _).2 (fun w m' h => by cases h) (fun w m' h => by cases h) (fun _ => rfl)
  have okX : ∀ (k j : Nat) (x : Option (Nat × Nat)), j + k = q → (∀ w m', x = some (w, m') → w < q ∧ m' ≤ 999 ∧ m' = max (A w 0) (A w 1) ∧ decide (I 24 (24 + w) = -1) = true) → (∀ w m', fo (wo A (fun j => decide (I 24 (24 + j) = -1))) k j x = some (w, m') → w < q ∧ m' ≤ 999 ∧ m' = max (A w 0) (A w 1) ∧ decide (I 24 (24 + w) = -1) = true) := by
    intro k
    induction k with
    | zero => intro j x _ hx; exact hx
    | succ k ih => intro j x hj hx; rw [fo_1]; exact ih (j + 1) _ (by omega) (okx x j hx (by omega))
  have okF := okX q 0 none (by omega) (fun w m' h => by cases h)
  generalize fo (wo A (fun j => decide (I 24 (24 + j) = -1))) q 0 none = X at a2 a3 lR0 okF
  cases hX : X with
  | none =>
    rw [hX] at a3
    obtain ⟨I2, mo2, b1, b2, b3, b4⟩ := lR0 I1 J (Fr_w a1 (by decide))
    rw [hX] at b4
    refine tie_0 (rd2 := rd) (v := -2) H (Fr_w a1 (by decide)) (Fr_w b1 (by decide)) (F46_w b2 (by decide)) (eC.trans (a3.trans ?_)) ((eR _ _).trans (b4.trans ?_))
    · rw [b127_22, if_pos (by rw [a1 14 (by decide), d1]; exact Int32.le_refl _), if_pos (show woI none = -1 from rfl)]
    · rw [b261_11, if_pos (by rw [b2 6 (by decide), a1 46 (by decide), d2]; exact Int32.le_refl _), if_pos (show woI none = -1 from rfl)]
  | some y =>
    obtain ⟨w, m'⟩ := y
    obtain ⟨u1, u2⟩ := a2 w m' hX
    obtain ⟨v1, v2, v3, v4⟩ := okF w m' hX
    rw [hX] at a3
    have wn1 : ¬ woI (some (w, m')) = -1 := of_eq_false (nIm1 (by omega))
    have e1 : aF d 127 [.ref 6] (g, I, J, aP1 sl rd 56) = some (some (some (.int (nI w))), (g, aU I1 12 1 2, aU (aU J 13 0 (Int32.toInt64 (nI m'))) 13 1 (Int32.toInt64 (if A w 0 = m' then 0 else 1)), aP1 sl rd 56)) := by
      refine eC.trans (a3.trans ?_)
      rw [b127_22, if_pos (by rw [a1 14 (by decide), d1]; exact Int32.le_refl _), if_neg wn1, f82, u1, u2]
      simp only [aBv]
      rw [b127_115]
      rfl
    have h12 : Fr [12, 28] I (aU I1 12 1 2) := by rw [aU_R]; exact Fr_s (Fr_w a1 (by decide)) _ (by decide)
    obtain ⟨I2, mo2, b1, b2, b3, b4⟩ := lR0 (aU I1 12 1 2) (aU (aU J 13 0 (Int32.toInt64 (nI m'))) 13 1 (Int32.toInt64 (if A w 0 = m' then 0 else 1))) h12
    rw [hX] at b4
    have u3 := b3 w m' hX
    obtain ⟨I3, p1, p2, p3⟩ := f262 (d := d) (g := g) (sl := sl) (rd := rd) (rl := 56) (J1 := aU (aU (aU J 13 0 (Int32.toInt64 (nI m'))) 13 1 (Int32.toInt64 (if A w 0 = m' then 0 else 1))) 53 0 (Int32.toInt64 (nI m'))) (b := 0) (I1 := aU I2 46 12 1) H v1 (by decide) h12 (by rw [aU_R I2]; exact Fr_s b1 _ (by decide)) (fun j hj => by
      have hj' : j ≠ 12 ∧ j ≠ 13 := by simpa using hj
      rw [aU_i _ _ hj'.1]; exact b2 j (by simpa using hj'.2))
    rw [(hA w 0).2 v1 (by decide)] at p3
    have p3 : aF d 262 [.ref 46, .int (nI w), .int 0] (g, aU I2 46 12 1, aU (aU (aU J 13 0 (Int32.toInt64 (nI m'))) 13 1 (Int32.toInt64 (if A w 0 = m' then 0 else 1))) 53 0 (Int32.toInt64 (nI m')), aP1 sl rd 56) = _ := p3
    have i12 : I3 46 12 = nI 1 := by rw [p2, aU_s]; rfl
    have e2 : aF d 261 [.ref 46] (g, aU I1 12 1 2, aU (aU J 13 0 (Int32.toInt64 (nI m'))) 13 1 (Int32.toInt64 (if A w 0 = m' then 0 else 1)), aP1 sl rd 56) = some (some (some (.int (nI w))), (g, aU I3 46 12 (nI (1 + 1)), aU (aU (aU (aU J 13 0 (Int32.toInt64 (nI m'))) 13 1 (Int32.toInt64 (if A w 0 = m' then 0 else 1))) 53 0 (Int32.toInt64 (nI m'))) 53 1 (Int32.toInt64 (if A w 0 = m' then 0 else 1)), aP1 sl rd 56)) := by
      refine (eR _ _).trans (b4.trans ?_)
      rw [b261_11, if_pos (by rw [b2 6 (by decide), h12 46 (by decide), d2]; exact Int32.le_refl _), if_neg wn1, u3, tell0]
      simp only [aBv]
      rw [show woI (some (w, m')) = nI w from rfl, b261_97, p3]
      simp only [aBi]
      rw [b261_104]
      have a0 := (hA w 0).1
      by_cases z : A w 0 = m'
      · rw [if_pos (by rw [z]), if_pos z, show Int32.toInt64 0 = 0 by decide, f229 i12 (by decide)]
        simp only [aBv]
        rw [b261_116]
      · rw [if_neg (fun h => z ((nI_eq (by omega) (by omega)).mp h)), if_neg z, show Int32.toInt64 1 = 1 by decide, f229 i12 (by decide)]
        simp only [aBv]
        rw [b261_116]
    refine tie_R H (Fr_w h12 (by decide)) ?_ ?_ ?_ e1 e2
    · rw [aU_R I3]; exact Fr_s (Fr_w p1 (by decide)) _ (by decide)
    · intro j hj
      have n12 : j ≠ 12 := fun e => hj (by rw [e]; decide)
      have n13 : j ≠ 13 := fun e => hj (by rw [e]; decide)
      rw [aU_i _ _ n12, p2, aU_i _ _ n12]
      exact b2 j (by simpa using n13)
    · refine zR_2 ?_ (aU_s _ _ _ _) ?_ ?_
      · rw [aU_r _ _ (by decide), p1 12 (by decide), aU_s]
      · simp (disch := decide) only [aU_r, aU_i, aU_s]
      · simp (disch := decide) only [aU_r, aU_i, aU_s]
end T01
