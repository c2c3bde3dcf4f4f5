/-! the law's cases -/
variable {d : Nat} {g : Nat × Nat × Nat} {I : Nat → Nat → Int32} {J : Nat → Nat → Int64} {sl rd : Nat} {t i : Nat}
theorem lgc (x : Int64) : lg_cmp x x = 0 := by
  unfold lg_cmp
  simp
theorem lg_in {k sl rd : Nat} (h : k < sl) (hs : sl < 2 ^ 31) : ¬ (nI k < 0 ∨ aP1 sl rd 56 0 0 ≤ (nI k).toNatClampNeg) := by
  rw [nI_clamp (by omega)]
  rintro (q | q)
  · exact nI_pos (by omega) q
  · have q : sl ≤ k := q
    omega
def lawG (d : Nat) (c : Int32) (i t : Nat) (g : Nat × Nat × Nat) (I : Nat → Nat → Int32) (J : Nat → Nat → Int64) (sl rd : Nat) (w5 w6 w7 : Value) : Prop :=
  ∃ (g' : Nat × Nat × Nat) (I2 : Nat → Nat → Int32) (J2 : Nat → Nat → Int64) (rd2 n m q : Nat) (u5 u6 u7 : Value), aE d 296 39 [.ref 0, .ref 6, .ref 46, .ref 67, .int (nI i), w5, w6, w7] [.int c] (g, I, J, aP1 sl rd 56) = aE d 296 1706 [.ref 0, .ref 6, .ref 46, .ref 67, .int (nI i), u5, u6, u7] [] (g', I2, J2, aP1 sl rd2 56) ∧ zInv (t + 1) n m q I2 J2 ∧ aKp (g, I, J, aP1 sl rd 56) (g', I2, J2, aP1 sl rd2 56) ∧ g'.1 = g.1 ∧ g'.2.1 ≤ g.2.1 + 1 ∧ g'.2.2 ≤ g.2.2 + 6
theorem cs0 (hi : i + 5 ≤ sl) (hs : sl < 2 ^ 30) (T : tie d 43 179 [.int (I 0 (i + 1))] t g I J sl rd) (w5 w6 w7 : Value) : lawG d 0 i t g I J sl rd w5 w6 w7 := by
  obtain ⟨v, I1, J1, I2, J2, rd2, n, m, q, e1, e2, z, z0⟩ := T
  have k1 := aF_kp e1
  have k2 := aF_kp e2
  have s1 : I1 0 = I 0 := funext fun j => (k1.1 0 j (fun h => absurd h.1 (by decide))).1
  have e1 : aF d 43 [.ref 6, .int (I 0 (i + 1))] (g, I, J, aP1 sl rd 56) = _ := e1
  have e2 : aF d 179 [.ref 46, .int (I 0 (i + 1))] (g, I1, J1, aP1 sl rd 56) = _ := e2
  refine ⟨g, I2, J2, rd2, n, m, q, w5, w6, w7, ?_, z, kp_t k1 k2, rfl, Nat.le_succ _, Nat.le_add_right _ _⟩
  rw [b296_39_c0, show nI i + 1 = nI (i + 1) from nI_add i 1, if_neg (lg_in (by omega) (by omega)), nI_clamp (by omega)]
  rw [b296_255, e1]
  simp only [aBi]
  rw [b296_258, show nI i + 1 = nI (i + 1) from nI_add i 1, if_neg (lg_in (by omega) (by omega)), nI_clamp (by omega), s1]
  rw [b296_265, e2]
  simp only [aBi]
  rw [b296_268, if_pos rfl]
theorem cs1 (hi : i + 5 ≤ sl) (hs : sl < 2 ^ 30) (T : tie d 45 180 [.int (I 0 (i + 1))] t g I J sl rd) (w5 w6 w7 : Value) : lawG d 1 i t g I J sl rd w5 w6 w7 := by
  obtain ⟨v, I1, J1, I2, J2, rd2, n, m, q, e1, e2, z, z0⟩ := T
  have k1 := aF_kp e1
  have k2 := aF_kp e2
  have s1 : I1 0 = I 0 := funext fun j => (k1.1 0 j (fun h => absurd h.1 (by decide))).1
  have e1 : aF d 45 [.ref 6, .int (I 0 (i + 1))] (g, I, J, aP1 sl rd 56) = _ := e1
  have e2 : aF d 180 [.ref 46, .int (I 0 (i + 1))] (g, I1, J1, aP1 sl rd 56) = _ := e2
  refine ⟨g, I2, J2, rd2, n, m, q, w5, w6, w7, ?_, z, kp_t k1 k2, rfl, Nat.le_succ _, Nat.le_add_right _ _⟩
  rw [b296_39_c1, show nI i + 1 = nI (i + 1) from nI_add i 1, if_neg (lg_in (by omega) (by omega)), nI_clamp (by omega)]
  rw [b296_280, e1]
  simp only [aBi]
  rw [b296_283, show nI i + 1 = nI (i + 1) from nI_add i 1, if_neg (lg_in (by omega) (by omega)), nI_clamp (by omega), s1]
  rw [b296_290, e2]
  simp only [aBi]
  rw [b296_293, if_pos rfl]
theorem cs2 (hi : i + 5 ≤ sl) (hs : sl < 2 ^ 30) (T : tie d 46 182 [] t g I J sl rd) (w5 w6 w7 : Value) : lawG d 2 i t g I J sl rd w5 w6 w7 := by
  obtain ⟨v, I1, J1, I2, J2, rd2, n, m, q, e1, e2, z, z0⟩ := T
  have k1 := aF_kp e1
  have k2 := aF_kp e2
  have s1 : I1 0 = I 0 := funext fun j => (k1.1 0 j (fun h => absurd h.1 (by decide))).1
  have e1 : aF d 46 [.ref 6] (g, I, J, aP1 sl rd 56) = _ := e1
  have e2 : aF d 182 [.ref 46] (g, I1, J1, aP1 sl rd 56) = _ := e2
  refine ⟨g, I2, J2, rd2, n, m, q, w5, w6, w7, ?_, z, kp_t k1 k2, rfl, Nat.le_succ _, Nat.le_add_right _ _⟩
  rw [b296_39_c2, e1]
  simp only [aBi]
  rw [b296_302, e2]
  simp only [aBi]
  rw [b296_306, if_pos rfl]
theorem cs3 (hi : i + 5 ≤ sl) (hs : sl < 2 ^ 30) (T : tie d 55 195 [] t g I J sl rd) (w5 w6 w7 : Value) : lawG d 3 i t g I J sl rd w5 w6 w7 := by
  obtain ⟨v, I1, J1, I2, J2, rd2, n, m, q, e1, e2, z, z0⟩ := T
  have k1 := aF_kp e1
  have k2 := aF_kp e2
  have s1 : I1 0 = I 0 := funext fun j => (k1.1 0 j (fun h => absurd h.1 (by decide))).1
  have e1 : aF d 55 [.ref 6] (g, I, J, aP1 sl rd 56) = _ := e1
  have e2 : aF d 195 [.ref 46] (g, I1, J1, aP1 sl rd 56) = _ := e2
  refine ⟨g, I2, J2, rd2, n, m, q, w5, w6, w7, ?_, z, kp_t k1 k2, rfl, Nat.le_succ _, Nat.le_add_right _ _⟩
  rw [b296_39_c3, e1]
  simp only [aBi]
  rw [b296_315, e2]
  simp only [aBi]
  rw [b296_319, if_pos rfl]
theorem cs4 (hi : i + 5 ≤ sl) (hs : sl < 2 ^ 30) (T : tie d 56 197 [] t g I J sl rd) (w5 w6 w7 : Value) : lawG d 4 i t g I J sl rd w5 w6 w7 := by
  obtain ⟨v, I1, J1, I2, J2, rd2, n, m, q, e1, e2, z, z0⟩ := T
  have k1 := aF_kp e1
  have k2 := aF_kp e2
  have s1 : I1 0 = I 0 := funext fun j => (k1.1 0 j (fun h => absurd h.1 (by decide))).1
  have e1 : aF d 56 [.ref 6] (g, I, J, aP1 sl rd 56) = _ := e1
  have e2 : aF d 197 [.ref 46] (g, I1, J1, aP1 sl rd 56) = _ := e2
  refine ⟨g, I2, J2, rd2, n, m, q, w5, w6, w7, ?_, z, kp_t k1 k2, rfl, Nat.le_succ _, Nat.le_add_right _ _⟩
  rw [b296_39_c4, e1]
  simp only [aBi]
  rw [b296_328, e2]
  simp only [aBi]
  rw [b296_332, if_pos rfl]
theorem cs5 (hi : i + 5 ≤ sl) (hs : sl < 2 ^ 30) (T : tie d 57 198 [] t g I J sl rd) (w5 w6 w7 : Value) : lawG d 5 i t g I J sl rd w5 w6 w7 := by
  obtain ⟨v, I1, J1, I2, J2, rd2, n, m, q, e1, e2, z, z0⟩ := T
  have k1 := aF_kp e1
  have k2 := aF_kp e2
  have s1 : I1 0 = I 0 := funext fun j => (k1.1 0 j (fun h => absurd h.1 (by decide))).1
  have e1 : aF d 57 [.ref 6] (g, I, J, aP1 sl rd 56) = _ := e1
  have e2 : aF d 198 [.ref 46] (g, I1, J1, aP1 sl rd 56) = _ := e2
  refine ⟨g, I2, J2, rd2, n, m, q, w5, w6, w7, ?_, z, kp_t k1 k2, rfl, Nat.le_succ _, Nat.le_add_right _ _⟩
  rw [b296_39_c5, e1]
  simp only [aBi]
  rw [b296_341, e2]
  simp only [aBi]
  rw [b296_345, if_pos rfl]
theorem cs6 (hi : i + 5 ≤ sl) (hs : sl < 2 ^ 30) (T : tieT .int Int32.toInt64 d 297 205 [.int (I 0 (i + 1)), .int (I 0 (i + 2))] t g I J sl rd) (w5 w6 w7 : Value) : lawG d 6 i t g I J sl rd w5 w6 w7 := by
  obtain ⟨k, b, g', I1, J1, I2, rd2, n, m, q, e1, e2, e13, eJ, z, z0, y1, y2, y3⟩ := T
  have k1 := aF_kp e1
  have k2 := aF_kp e2
  have s1 : I1 0 = I 0 := funext fun j => (k1.1 0 j (fun h => absurd h.1 (by decide))).1
  have e1 : aF d 297 [.ref 6, .int (I 0 (i + 1)), .int (I 0 (i + 2)), .ref 67] (g, I, J, aP1 sl rd 56) = _ := e1
  have e2 : aF d 205 [.ref 46, .int (I 0 (i + 1)), .int (I 0 (i + 2))] (g', I1, J1, aP1 sl rd 56) = _ := e2
  refine ⟨g', I2, J1, rd2, n, m, q, .int k, .int b, w7, ?_, z, kp_t k1 k2, y1, y2, y3⟩
  rw [b296_39_c6, show nI i + 1 = nI (i + 1) from nI_add i 1, if_neg (lg_in (by omega) (by omega)), nI_clamp (by omega)]
  rw [b296_357, show nI i + 2 = nI (i + 2) from nI_add i 2, if_neg (lg_in (by omega) (by omega)), nI_clamp (by omega)]
  rw [b296_363, e1]
  simp only [aBi]
  rw [b296_367, show nI i + 1 = nI (i + 1) from nI_add i 1, if_neg (lg_in (by omega) (by omega)), nI_clamp (by omega), s1]
  rw [b296_376, show nI i + 2 = nI (i + 2) from nI_add i 2, if_neg (lg_in (by omega) (by omega)), nI_clamp (by omega), s1]
  rw [b296_382, e2]
  simp only [aBi]
  rw [b296_385, f178, e13]
  simp only [aBi]
  rw [b296_391, if_pos rfl]
  by_cases hk : k = 0
  · rw [if_pos hk, eJ hk, lgc, if_pos rfl]
  · rw [if_neg hk]
theorem cs7 (hi : i + 5 ≤ sl) (hs : sl < 2 ^ 30) (T : tieT .int Int32.toInt64 d 298 208 [.int (I 0 (i + 1))] t g I J sl rd) (w5 w6 w7 : Value) : lawG d 7 i t g I J sl rd w5 w6 w7 := by
  obtain ⟨k, b, g', I1, J1, I2, rd2, n, m, q, e1, e2, e13, eJ, z, z0, y1, y2, y3⟩ := T
  have k1 := aF_kp e1
  have k2 := aF_kp e2
  have s1 : I1 0 = I 0 := funext fun j => (k1.1 0 j (fun h => absurd h.1 (by decide))).1
  have e1 : aF d 298 [.ref 6, .int (I 0 (i + 1)), .ref 67] (g, I, J, aP1 sl rd 56) = _ := e1
  have e2 : aF d 208 [.ref 46, .int (I 0 (i + 1))] (g', I1, J1, aP1 sl rd 56) = _ := e2
  refine ⟨g', I2, J1, rd2, n, m, q, .int k, .int b, w7, ?_, z, kp_t k1 k2, y1, y2, y3⟩
  rw [b296_39_c7, show nI i + 1 = nI (i + 1) from nI_add i 1, if_neg (lg_in (by omega) (by omega)), nI_clamp (by omega)]
  rw [b296_425, e1]
  simp only [aBi]
  rw [b296_429, show nI i + 1 = nI (i + 1) from nI_add i 1, if_neg (lg_in (by omega) (by omega)), nI_clamp (by omega), s1]
  rw [b296_438, e2]
  simp only [aBi]
  rw [b296_441, f178, e13]
  simp only [aBi]
  rw [b296_447, if_pos rfl]
  by_cases hk : k = 0
  · rw [if_pos hk, eJ hk, lgc, if_pos rfl]
  · rw [if_neg hk]
theorem cs8 (hi : i + 5 ≤ sl) (hs : sl < 2 ^ 30) (T : tieT .int Int32.toInt64 d 299 210 [.int (I 0 (i + 1)), .int (I 0 (i + 2))] t g I J sl rd) (w5 w6 w7 : Value) : lawG d 8 i t g I J sl rd w5 w6 w7 := by
  obtain ⟨k, b, g', I1, J1, I2, rd2, n, m, q, e1, e2, e13, eJ, z, z0, y1, y2, y3⟩ := T
  have k1 := aF_kp e1
  have k2 := aF_kp e2
  have s1 : I1 0 = I 0 := funext fun j => (k1.1 0 j (fun h => absurd h.1 (by decide))).1
  have e1 : aF d 299 [.ref 6, .int (I 0 (i + 1)), .int (I 0 (i + 2)), .ref 67] (g, I, J, aP1 sl rd 56) = _ := e1
  have e2 : aF d 210 [.ref 46, .int (I 0 (i + 1)), .int (I 0 (i + 2))] (g', I1, J1, aP1 sl rd 56) = _ := e2
  refine ⟨g', I2, J1, rd2, n, m, q, .int k, .int b, w7, ?_, z, kp_t k1 k2, y1, y2, y3⟩
  rw [b296_39_c8, show nI i + 1 = nI (i + 1) from nI_add i 1, if_neg (lg_in (by omega) (by omega)), nI_clamp (by omega)]
  rw [b296_481, show nI i + 2 = nI (i + 2) from nI_add i 2, if_neg (lg_in (by omega) (by omega)), nI_clamp (by omega)]
  rw [b296_487, e1]
  simp only [aBi]
  rw [b296_491, show nI i + 1 = nI (i + 1) from nI_add i 1, if_neg (lg_in (by omega) (by omega)), nI_clamp (by omega), s1]
  rw [b296_500, show nI i + 2 = nI (i + 2) from nI_add i 2, if_neg (lg_in (by omega) (by omega)), nI_clamp (by omega), s1]
  rw [b296_506, e2]
  simp only [aBi]
  rw [b296_509, f178, e13]
  simp only [aBi]
  rw [b296_515, if_pos rfl]
  by_cases hk : k = 0
  · rw [if_pos hk, eJ hk, lgc, if_pos rfl]
  · rw [if_neg hk]
theorem cs9 (hi : i + 5 ≤ sl) (hs : sl < 2 ^ 30) (T : tieT .int Int32.toInt64 d 300 211 [.int (I 0 (i + 1)), .int (I 0 (i + 2))] t g I J sl rd) (w5 w6 w7 : Value) : lawG d 9 i t g I J sl rd w5 w6 w7 := by
  obtain ⟨k, b, g', I1, J1, I2, rd2, n, m, q, e1, e2, e13, eJ, z, z0, y1, y2, y3⟩ := T
  have k1 := aF_kp e1
  have k2 := aF_kp e2
  have s1 : I1 0 = I 0 := funext fun j => (k1.1 0 j (fun h => absurd h.1 (by decide))).1
  have e1 : aF d 300 [.ref 6, .int (I 0 (i + 1)), .int (I 0 (i + 2)), .ref 67] (g, I, J, aP1 sl rd 56) = _ := e1
  have e2 : aF d 211 [.ref 46, .int (I 0 (i + 1)), .int (I 0 (i + 2))] (g', I1, J1, aP1 sl rd 56) = _ := e2
  refine ⟨g', I2, J1, rd2, n, m, q, .int k, .int b, w7, ?_, z, kp_t k1 k2, y1, y2, y3⟩
  rw [b296_39_c9, show nI i + 1 = nI (i + 1) from nI_add i 1, if_neg (lg_in (by omega) (by omega)), nI_clamp (by omega)]
  rw [b296_549, show nI i + 2 = nI (i + 2) from nI_add i 2, if_neg (lg_in (by omega) (by omega)), nI_clamp (by omega)]
  rw [b296_555, e1]
  simp only [aBi]
  rw [b296_559, show nI i + 1 = nI (i + 1) from nI_add i 1, if_neg (lg_in (by omega) (by omega)), nI_clamp (by omega), s1]
  rw [b296_568, show nI i + 2 = nI (i + 2) from nI_add i 2, if_neg (lg_in (by omega) (by omega)), nI_clamp (by omega), s1]
  rw [b296_574, e2]
  simp only [aBi]
  rw [b296_577, f178, e13]
  simp only [aBi]
  rw [b296_583, if_pos rfl]
  by_cases hk : k = 0
  · rw [if_pos hk, eJ hk, lgc, if_pos rfl]
  · rw [if_neg hk]
theorem cs10 (hi : i + 5 ≤ sl) (hs : sl < 2 ^ 30) (T : tieT .int Int32.toInt64 d 301 212 [.int (I 0 (i + 1)), .int (I 0 (i + 2))] t g I J sl rd) (w5 w6 w7 : Value) : lawG d 10 i t g I J sl rd w5 w6 w7 := by
  obtain ⟨k, b, g', I1, J1, I2, rd2, n, m, q, e1, e2, e13, eJ, z, z0, y1, y2, y3⟩ := T
  have k1 := aF_kp e1
  have k2 := aF_kp e2
  have s1 : I1 0 = I 0 := funext fun j => (k1.1 0 j (fun h => absurd h.1 (by decide))).1
  have e1 : aF d 301 [.ref 6, .int (I 0 (i + 1)), .int (I 0 (i + 2)), .ref 67] (g, I, J, aP1 sl rd 56) = _ := e1
  have e2 : aF d 212 [.ref 46, .int (I 0 (i + 1)), .int (I 0 (i + 2))] (g', I1, J1, aP1 sl rd 56) = _ := e2
  refine ⟨g', I2, J1, rd2, n, m, q, .int k, .int b, w7, ?_, z, kp_t k1 k2, y1, y2, y3⟩
  rw [b296_39_c10, show nI i + 1 = nI (i + 1) from nI_add i 1, if_neg (lg_in (by omega) (by omega)), nI_clamp (by omega)]
  rw [b296_617, show nI i + 2 = nI (i + 2) from nI_add i 2, if_neg (lg_in (by omega) (by omega)), nI_clamp (by omega)]
  rw [b296_623, e1]
  simp only [aBi]
  rw [b296_627, show nI i + 1 = nI (i + 1) from nI_add i 1, if_neg (lg_in (by omega) (by omega)), nI_clamp (by omega), s1]
  rw [b296_636, show nI i + 2 = nI (i + 2) from nI_add i 2, if_neg (lg_in (by omega) (by omega)), nI_clamp (by omega), s1]
  rw [b296_642, e2]
  simp only [aBi]
  rw [b296_645, f178, e13]
  simp only [aBi]
  rw [b296_651, if_pos rfl]
  by_cases hk : k = 0
  · rw [if_pos hk, eJ hk, lgc, if_pos rfl]
  · rw [if_neg hk]
theorem cs11 (hi : i + 5 ≤ sl) (hs : sl < 2 ^ 30) (T : tie d 59 218 [.int (I 0 (i + 1))] t g I J sl rd) (w5 w6 w7 : Value) : lawG d 11 i t g I J sl rd w5 w6 w7 := by
  obtain ⟨v, I1, J1, I2, J2, rd2, n, m, q, e1, e2, z, z0⟩ := T
  have k1 := aF_kp e1
  have k2 := aF_kp e2
  have s1 : I1 0 = I 0 := funext fun j => (k1.1 0 j (fun h => absurd h.1 (by decide))).1
  have e1 : aF d 59 [.ref 6, .int (I 0 (i + 1))] (g, I, J, aP1 sl rd 56) = _ := e1
  have e2 : aF d 218 [.ref 46, .int (I 0 (i + 1))] (g, I1, J1, aP1 sl rd 56) = _ := e2
  refine ⟨g, I2, J2, rd2, n, m, q, w5, w6, w7, ?_, z, kp_t k1 k2, rfl, Nat.le_succ _, Nat.le_add_right _ _⟩
  rw [b296_39_c11, show nI i + 1 = nI (i + 1) from nI_add i 1, if_neg (lg_in (by omega) (by omega)), nI_clamp (by omega)]
  rw [b296_685, e1]
  simp only [aBi]
  rw [b296_688, show nI i + 1 = nI (i + 1) from nI_add i 1, if_neg (lg_in (by omega) (by omega)), nI_clamp (by omega), s1]
  rw [b296_695, e2]
  simp only [aBi]
  rw [b296_698, if_pos rfl]
theorem cs12 (hi : i + 5 ≤ sl) (hs : sl < 2 ^ 30) (T : tie d 60 219 [.int (I 0 (i + 1)), .int (I 0 (i + 2)), .int (I 0 (i + 3)), .int (I 0 (i + 4))] t g I J sl rd) (w5 w6 w7 : Value) : lawG d 12 i t g I J sl rd w5 w6 w7 := by
  obtain ⟨v, I1, J1, I2, J2, rd2, n, m, q, e1, e2, z, z0⟩ := T
  have k1 := aF_kp e1
  have k2 := aF_kp e2
  have s1 : I1 0 = I 0 := funext fun j => (k1.1 0 j (fun h => absurd h.1 (by decide))).1
  have e1 : aF d 60 [.ref 6, .int (I 0 (i + 1)), .int (I 0 (i + 2)), .int (I 0 (i + 3)), .int (I 0 (i + 4))] (g, I, J, aP1 sl rd 56) = _ := e1
  have e2 : aF d 219 [.ref 46, .int (I 0 (i + 1)), .int (I 0 (i + 2)), .int (I 0 (i + 3)), .int (I 0 (i + 4))] (g, I1, J1, aP1 sl rd 56) = _ := e2
  refine ⟨g, I2, J2, rd2, n, m, q, w5, w6, w7, ?_, z, kp_t k1 k2, rfl, Nat.le_succ _, Nat.le_add_right _ _⟩
  rw [b296_39_c12, show nI i + 1 = nI (i + 1) from nI_add i 1, if_neg (lg_in (by omega) (by omega)), nI_clamp (by omega)]
  rw [b296_710, show nI i + 2 = nI (i + 2) from nI_add i 2, if_neg (lg_in (by omega) (by omega)), nI_clamp (by omega)]
  rw [b296_716, show nI i + 3 = nI (i + 3) from nI_add i 3, if_neg (lg_in (by omega) (by omega)), nI_clamp (by omega)]
  rw [b296_722, show nI i + 4 = nI (i + 4) from nI_add i 4, if_neg (lg_in (by omega) (by omega)), nI_clamp (by omega)]
  rw [b296_728, e1]
  simp only [aBi]
  rw [b296_731, show nI i + 1 = nI (i + 1) from nI_add i 1, if_neg (lg_in (by omega) (by omega)), nI_clamp (by omega), s1]
  rw [b296_738, show nI i + 2 = nI (i + 2) from nI_add i 2, if_neg (lg_in (by omega) (by omega)), nI_clamp (by omega), s1]
  rw [b296_744, show nI i + 3 = nI (i + 3) from nI_add i 3, if_neg (lg_in (by omega) (by omega)), nI_clamp (by omega), s1]
  rw [b296_750, show nI i + 4 = nI (i + 4) from nI_add i 4, if_neg (lg_in (by omega) (by omega)), nI_clamp (by omega), s1]
  rw [b296_756, e2]
  simp only [aBi]
  rw [b296_759, if_pos rfl]
theorem cs13 (hi : i + 5 ≤ sl) (hs : sl < 2 ^ 30) (T : tie d 62 220 [.int (I 0 (i + 1))] t g I J sl rd) (w5 w6 w7 : Value) : lawG d 13 i t g I J sl rd w5 w6 w7 := by
  obtain ⟨v, I1, J1, I2, J2, rd2, n, m, q, e1, e2, z, z0⟩ := T
  have k1 := aF_kp e1
  have k2 := aF_kp e2
  have s1 : I1 0 = I 0 := funext fun j => (k1.1 0 j (fun h => absurd h.1 (by decide))).1
  have e1 : aF d 62 [.ref 6, .int (I 0 (i + 1))] (g, I, J, aP1 sl rd 56) = _ := e1
  have e2 : aF d 220 [.ref 46, .int (I 0 (i + 1))] (g, I1, J1, aP1 sl rd 56) = _ := e2
  refine ⟨g, I2, J2, rd2, n, m, q, w5, w6, w7, ?_, z, kp_t k1 k2, rfl, Nat.le_succ _, Nat.le_add_right _ _⟩
  rw [b296_39_c13, show nI i + 1 = nI (i + 1) from nI_add i 1, if_neg (lg_in (by omega) (by omega)), nI_clamp (by omega)]
  rw [b296_771, e1]
  simp only [aBi]
  rw [b296_774, show nI i + 1 = nI (i + 1) from nI_add i 1, if_neg (lg_in (by omega) (by omega)), nI_clamp (by omega), s1]
  rw [b296_781, e2]
  simp only [aBi]
  rw [b296_784, if_pos rfl]
theorem cs14 (hi : i + 5 ≤ sl) (hs : sl < 2 ^ 30) (T : tie d 86 230 [.int (I 0 (i + 1)), .int (I 0 (i + 2))] t g I J sl rd) (w5 w6 w7 : Value) : lawG d 14 i t g I J sl rd w5 w6 w7 := by
  obtain ⟨v, I1, J1, I2, J2, rd2, n, m, q, e1, e2, z, z0⟩ := T
  have k1 := aF_kp e1
  have k2 := aF_kp e2
  have s1 : I1 0 = I 0 := funext fun j => (k1.1 0 j (fun h => absurd h.1 (by decide))).1
  have e1 : aF d 86 [.ref 6, .int (I 0 (i + 1)), .int (I 0 (i + 2))] (g, I, J, aP1 sl rd 56) = _ := e1
  have e2 : aF d 230 [.ref 46, .int (I 0 (i + 1)), .int (I 0 (i + 2))] (g, I1, J1, aP1 sl rd 56) = _ := e2
  refine ⟨g, I2, J2, rd2, n, m, q, w5, w6, w7, ?_, z, kp_t k1 k2, rfl, Nat.le_succ _, Nat.le_add_right _ _⟩
  rw [b296_39_c14, show nI i + 1 = nI (i + 1) from nI_add i 1, if_neg (lg_in (by omega) (by omega)), nI_clamp (by omega)]
  rw [b296_796, show nI i + 2 = nI (i + 2) from nI_add i 2, if_neg (lg_in (by omega) (by omega)), nI_clamp (by omega)]
  rw [b296_802, e1]
  simp only [aBi]
  rw [b296_805, show nI i + 1 = nI (i + 1) from nI_add i 1, if_neg (lg_in (by omega) (by omega)), nI_clamp (by omega), s1]
  rw [b296_812, show nI i + 2 = nI (i + 2) from nI_add i 2, if_neg (lg_in (by omega) (by omega)), nI_clamp (by omega), s1]
  rw [b296_818, e2]
  simp only [aBi]
  rw [b296_821, if_pos rfl]
theorem cs15 (hi : i + 5 ≤ sl) (hs : sl < 2 ^ 30) (T : tie d 90 233 [.int (I 0 (i + 1)), .int (I 0 (i + 2))] t g I J sl rd) (w5 w6 w7 : Value) : lawG d 15 i t g I J sl rd w5 w6 w7 := by
  obtain ⟨v, I1, J1, I2, J2, rd2, n, m, q, e1, e2, z, z0⟩ := T
  have k1 := aF_kp e1
  have k2 := aF_kp e2
  have s1 : I1 0 = I 0 := funext fun j => (k1.1 0 j (fun h => absurd h.1 (by decide))).1
  have e1 : aF d 90 [.ref 6, .int (I 0 (i + 1)), .int (I 0 (i + 2))] (g, I, J, aP1 sl rd 56) = _ := e1
  have e2 : aF d 233 [.ref 46, .int (I 0 (i + 1)), .int (I 0 (i + 2))] (g, I1, J1, aP1 sl rd 56) = _ := e2
  refine ⟨g, I2, J2, rd2, n, m, q, w5, w6, w7, ?_, z, kp_t k1 k2, rfl, Nat.le_succ _, Nat.le_add_right _ _⟩
  rw [b296_39_c15, show nI i + 1 = nI (i + 1) from nI_add i 1, if_neg (lg_in (by omega) (by omega)), nI_clamp (by omega)]
  rw [b296_833, show nI i + 2 = nI (i + 2) from nI_add i 2, if_neg (lg_in (by omega) (by omega)), nI_clamp (by omega)]
  rw [b296_839, e1]
  simp only [aBi]
  rw [b296_842, show nI i + 1 = nI (i + 1) from nI_add i 1, if_neg (lg_in (by omega) (by omega)), nI_clamp (by omega), s1]
  rw [b296_849, show nI i + 2 = nI (i + 2) from nI_add i 2, if_neg (lg_in (by omega) (by omega)), nI_clamp (by omega), s1]
  rw [b296_855, e2]
  simp only [aBi]
  rw [b296_858, if_pos rfl]
theorem cs16 (hi : i + 5 ≤ sl) (hs : sl < 2 ^ 30) (T : tie d 94 236 [.int (I 0 (i + 1))] t g I J sl rd) (w5 w6 w7 : Value) : lawG d 16 i t g I J sl rd w5 w6 w7 := by
  obtain ⟨v, I1, J1, I2, J2, rd2, n, m, q, e1, e2, z, z0⟩ := T
  have k1 := aF_kp e1
  have k2 := aF_kp e2
  have s1 : I1 0 = I 0 := funext fun j => (k1.1 0 j (fun h => absurd h.1 (by decide))).1
  have e1 : aF d 94 [.ref 6, .int (I 0 (i + 1))] (g, I, J, aP1 sl rd 56) = _ := e1
  have e2 : aF d 236 [.ref 46, .int (I 0 (i + 1))] (g, I1, J1, aP1 sl rd 56) = _ := e2
  refine ⟨g, I2, J2, rd2, n, m, q, w5, w6, w7, ?_, z, kp_t k1 k2, rfl, Nat.le_succ _, Nat.le_add_right _ _⟩
  rw [b296_39_c16, show nI i + 1 = nI (i + 1) from nI_add i 1, if_neg (lg_in (by omega) (by omega)), nI_clamp (by omega)]
  rw [b296_870, e1]
  simp only [aBi]
  rw [b296_873, show nI i + 1 = nI (i + 1) from nI_add i 1, if_neg (lg_in (by omega) (by omega)), nI_clamp (by omega), s1]
  rw [b296_880, e2]
  simp only [aBi]
  rw [b296_883, if_pos rfl]
theorem cs17 (hi : i + 5 ≤ sl) (hs : sl < 2 ^ 30) (T : tie d 96 239 [.int (I 0 (i + 1)), .int (I 0 (i + 2))] t g I J sl rd) (w5 w6 w7 : Value) : lawG d 17 i t g I J sl rd w5 w6 w7 := by
  obtain ⟨v, I1, J1, I2, J2, rd2, n, m, q, e1, e2, z, z0⟩ := T
  have k1 := aF_kp e1
  have k2 := aF_kp e2
  have s1 : I1 0 = I 0 := funext fun j => (k1.1 0 j (fun h => absurd h.1 (by decide))).1
  have e1 : aF d 96 [.ref 6, .int (I 0 (i + 1)), .int (I 0 (i + 2))] (g, I, J, aP1 sl rd 56) = _ := e1
  have e2 : aF d 239 [.ref 46, .int (I 0 (i + 1)), .int (I 0 (i + 2))] (g, I1, J1, aP1 sl rd 56) = _ := e2
  refine ⟨g, I2, J2, rd2, n, m, q, w5, w6, w7, ?_, z, kp_t k1 k2, rfl, Nat.le_succ _, Nat.le_add_right _ _⟩
  rw [b296_39_c17, show nI i + 1 = nI (i + 1) from nI_add i 1, if_neg (lg_in (by omega) (by omega)), nI_clamp (by omega)]
  rw [b296_895, show nI i + 2 = nI (i + 2) from nI_add i 2, if_neg (lg_in (by omega) (by omega)), nI_clamp (by omega)]
  rw [b296_901, e1]
  simp only [aBi]
  rw [b296_904, show nI i + 1 = nI (i + 1) from nI_add i 1, if_neg (lg_in (by omega) (by omega)), nI_clamp (by omega), s1]
  rw [b296_911, show nI i + 2 = nI (i + 2) from nI_add i 2, if_neg (lg_in (by omega) (by omega)), nI_clamp (by omega), s1]
  rw [b296_917, e2]
  simp only [aBi]
  rw [b296_920, if_pos rfl]
theorem cs18 (hi : i + 5 ≤ sl) (hs : sl < 2 ^ 30) (T : tie d 98 240 [.int (I 0 (i + 1)), .int (I 0 (i + 2))] t g I J sl rd) (w5 w6 w7 : Value) : lawG d 18 i t g I J sl rd w5 w6 w7 := by
  obtain ⟨v, I1, J1, I2, J2, rd2, n, m, q, e1, e2, z, z0⟩ := T
  have k1 := aF_kp e1
  have k2 := aF_kp e2
  have s1 : I1 0 = I 0 := funext fun j => (k1.1 0 j (fun h => absurd h.1 (by decide))).1
  have e1 : aF d 98 [.ref 6, .int (I 0 (i + 1)), .int (I 0 (i + 2))] (g, I, J, aP1 sl rd 56) = _ := e1
  have e2 : aF d 240 [.ref 46, .int (I 0 (i + 1)), .int (I 0 (i + 2))] (g, I1, J1, aP1 sl rd 56) = _ := e2
  refine ⟨g, I2, J2, rd2, n, m, q, w5, w6, w7, ?_, z, kp_t k1 k2, rfl, Nat.le_succ _, Nat.le_add_right _ _⟩
  rw [b296_39_c18, show nI i + 1 = nI (i + 1) from nI_add i 1, if_neg (lg_in (by omega) (by omega)), nI_clamp (by omega)]
  rw [b296_932, show nI i + 2 = nI (i + 2) from nI_add i 2, if_neg (lg_in (by omega) (by omega)), nI_clamp (by omega)]
  rw [b296_938, e1]
  simp only [aBi]
  rw [b296_941, show nI i + 1 = nI (i + 1) from nI_add i 1, if_neg (lg_in (by omega) (by omega)), nI_clamp (by omega), s1]
  rw [b296_948, show nI i + 2 = nI (i + 2) from nI_add i 2, if_neg (lg_in (by omega) (by omega)), nI_clamp (by omega), s1]
  rw [b296_954, e2]
  simp only [aBi]
  rw [b296_957, if_pos rfl]
theorem cs19 (hi : i + 5 ≤ sl) (hs : sl < 2 ^ 30) (T : tie d 102 243 [] t g I J sl rd) (w5 w6 w7 : Value) : lawG d 19 i t g I J sl rd w5 w6 w7 := by
  obtain ⟨v, I1, J1, I2, J2, rd2, n, m, q, e1, e2, z, z0⟩ := T
  have k1 := aF_kp e1
  have k2 := aF_kp e2
  have s1 : I1 0 = I 0 := funext fun j => (k1.1 0 j (fun h => absurd h.1 (by decide))).1
  have e1 : aF d 102 [.ref 6] (g, I, J, aP1 sl rd 56) = _ := e1
  have e2 : aF d 243 [.ref 46] (g, I1, J1, aP1 sl rd 56) = _ := e2
  refine ⟨g, I2, J2, rd2, n, m, q, w5, w6, w7, ?_, z, kp_t k1 k2, rfl, Nat.le_succ _, Nat.le_add_right _ _⟩
  rw [b296_39_c19, e1]
  simp only [aBi]
  rw [b296_966, e2]
  simp only [aBi]
  rw [b296_970, if_pos rfl]
theorem cs20 (hi : i + 5 ≤ sl) (hs : sl < 2 ^ 30) (T : tie d 105 246 [] t g I J sl rd) (w5 w6 w7 : Value) : lawG d 20 i t g I J sl rd w5 w6 w7 := by
  obtain ⟨v, I1, J1, I2, J2, rd2, n, m, q, e1, e2, z, z0⟩ := T
  have k1 := aF_kp e1
  have k2 := aF_kp e2
  have s1 : I1 0 = I 0 := funext fun j => (k1.1 0 j (fun h => absurd h.1 (by decide))).1
  have e1 : aF d 105 [.ref 6] (g, I, J, aP1 sl rd 56) = _ := e1
  have e2 : aF d 246 [.ref 46] (g, I1, J1, aP1 sl rd 56) = _ := e2
  refine ⟨g, I2, J2, rd2, n, m, q, w5, w6, w7, ?_, z, kp_t k1 k2, rfl, Nat.le_succ _, Nat.le_add_right _ _⟩
  rw [b296_39_c20, e1]
  simp only [aBi]
  rw [b296_979, e2]
  simp only [aBi]
  rw [b296_983, if_pos rfl]
theorem cs21 (hi : i + 5 ≤ sl) (hs : sl < 2 ^ 30) (T : tie d 108 247 [] t g I J sl rd) (w5 w6 w7 : Value) : lawG d 21 i t g I J sl rd w5 w6 w7 := by
  obtain ⟨v, I1, J1, I2, J2, rd2, n, m, q, e1, e2, z, z0⟩ := T
  have k1 := aF_kp e1
  have k2 := aF_kp e2
  have s1 : I1 0 = I 0 := funext fun j => (k1.1 0 j (fun h => absurd h.1 (by decide))).1
  have e1 : aF d 108 [.ref 6] (g, I, J, aP1 sl rd 56) = _ := e1
  have e2 : aF d 247 [.ref 46] (g, I1, J1, aP1 sl rd 56) = _ := e2
  refine ⟨g, I2, J2, rd2, n, m, q, w5, w6, w7, ?_, z, kp_t k1 k2, rfl, Nat.le_succ _, Nat.le_add_right _ _⟩
  rw [b296_39_c21, e1]
  simp only [aBi]
  rw [b296_992, e2]
  simp only [aBi]
  rw [b296_996, if_pos rfl]
theorem cs22 (hi : i + 5 ≤ sl) (hs : sl < 2 ^ 30) (T : tie d 109 248 [.int (I 0 (i + 1))] t g I J sl rd) (w5 w6 w7 : Value) : lawG d 22 i t g I J sl rd w5 w6 w7 := by
  obtain ⟨v, I1, J1, I2, J2, rd2, n, m, q, e1, e2, z, z0⟩ := T
  have k1 := aF_kp e1
  have k2 := aF_kp e2
  have s1 : I1 0 = I 0 := funext fun j => (k1.1 0 j (fun h => absurd h.1 (by decide))).1
  have e1 : aF d 109 [.ref 6, .int (I 0 (i + 1))] (g, I, J, aP1 sl rd 56) = _ := e1
  have e2 : aF d 248 [.ref 46, .int (I 0 (i + 1))] (g, I1, J1, aP1 sl rd 56) = _ := e2
  refine ⟨g, I2, J2, rd2, n, m, q, w5, w6, w7, ?_, z, kp_t k1 k2, rfl, Nat.le_succ _, Nat.le_add_right _ _⟩
  rw [b296_39_c22, show nI i + 1 = nI (i + 1) from nI_add i 1, if_neg (lg_in (by omega) (by omega)), nI_clamp (by omega)]
  rw [b296_1008, e1]
  simp only [aBi]
  rw [b296_1011, show nI i + 1 = nI (i + 1) from nI_add i 1, if_neg (lg_in (by omega) (by omega)), nI_clamp (by omega), s1]
  rw [b296_1018, e2]
  simp only [aBi]
  rw [b296_1021, if_pos rfl]
theorem cs23 (hi : i + 5 ≤ sl) (hs : sl < 2 ^ 30) (T : tie d 111 249 [] t g I J sl rd) (w5 w6 w7 : Value) : lawG d 23 i t g I J sl rd w5 w6 w7 := by
  obtain ⟨v, I1, J1, I2, J2, rd2, n, m, q, e1, e2, z, z0⟩ := T
  have k1 := aF_kp e1
  have k2 := aF_kp e2
  have s1 : I1 0 = I 0 := funext fun j => (k1.1 0 j (fun h => absurd h.1 (by decide))).1
  have e1 : aF d 111 [.ref 6] (g, I, J, aP1 sl rd 56) = _ := e1
  have e2 : aF d 249 [.ref 46] (g, I1, J1, aP1 sl rd 56) = _ := e2
  refine ⟨g, I2, J2, rd2, n, m, q, w5, w6, w7, ?_, z, kp_t k1 k2, rfl, Nat.le_succ _, Nat.le_add_right _ _⟩
  rw [b296_39_c23, e1]
  simp only [aBi]
  rw [b296_1030, e2]
  simp only [aBi]
  rw [b296_1034, if_pos rfl]
theorem cs24 (hi : i + 5 ≤ sl) (hs : sl < 2 ^ 30) (T : tie d 112 250 [.int (I 0 (i + 1))] t g I J sl rd) (w5 w6 w7 : Value) : lawG d 24 i t g I J sl rd w5 w6 w7 := by
  obtain ⟨v, I1, J1, I2, J2, rd2, n, m, q, e1, e2, z, z0⟩ := T
  have k1 := aF_kp e1
  have k2 := aF_kp e2
  have s1 : I1 0 = I 0 := funext fun j => (k1.1 0 j (fun h => absurd h.1 (by decide))).1
  have e1 : aF d 112 [.ref 6, .int (I 0 (i + 1))] (g, I, J, aP1 sl rd 56) = _ := e1
  have e2 : aF d 250 [.ref 46, .int (I 0 (i + 1))] (g, I1, J1, aP1 sl rd 56) = _ := e2
  refine ⟨g, I2, J2, rd2, n, m, q, w5, w6, w7, ?_, z, kp_t k1 k2, rfl, Nat.le_succ _, Nat.le_add_right _ _⟩
  rw [b296_39_c24, show nI i + 1 = nI (i + 1) from nI_add i 1, if_neg (lg_in (by omega) (by omega)), nI_clamp (by omega)]
  rw [b296_1046, e1]
  simp only [aBi]
  rw [b296_1049, show nI i + 1 = nI (i + 1) from nI_add i 1, if_neg (lg_in (by omega) (by omega)), nI_clamp (by omega), s1]
  rw [b296_1056, e2]
  simp only [aBi]
  rw [b296_1059, if_pos rfl]
theorem cs25 (hi : i + 5 ≤ sl) (hs : sl < 2 ^ 30) (T : tie d 114 252 [.int (I 0 (i + 1))] t g I J sl rd) (w5 w6 w7 : Value) : lawG d 25 i t g I J sl rd w5 w6 w7 := by
  obtain ⟨v, I1, J1, I2, J2, rd2, n, m, q, e1, e2, z, z0⟩ := T
  have k1 := aF_kp e1
  have k2 := aF_kp e2
  have s1 : I1 0 = I 0 := funext fun j => (k1.1 0 j (fun h => absurd h.1 (by decide))).1
  have e1 : aF d 114 [.ref 6, .int (I 0 (i + 1))] (g, I, J, aP1 sl rd 56) = _ := e1
  have e2 : aF d 252 [.ref 46, .int (I 0 (i + 1))] (g, I1, J1, aP1 sl rd 56) = _ := e2
  refine ⟨g, I2, J2, rd2, n, m, q, w5, w6, w7, ?_, z, kp_t k1 k2, rfl, Nat.le_succ _, Nat.le_add_right _ _⟩
  rw [b296_39_c25, show nI i + 1 = nI (i + 1) from nI_add i 1, if_neg (lg_in (by omega) (by omega)), nI_clamp (by omega)]
  rw [b296_1071, e1]
  simp only [aBi]
  rw [b296_1074, show nI i + 1 = nI (i + 1) from nI_add i 1, if_neg (lg_in (by omega) (by omega)), nI_clamp (by omega), s1]
  rw [b296_1081, e2]
  simp only [aBi]
  rw [b296_1084, if_pos rfl]
theorem cs26 (hi : i + 5 ≤ sl) (hs : sl < 2 ^ 30) (T : tie d 116 254 [.int (I 0 (i + 1))] t g I J sl rd) (w5 w6 w7 : Value) : lawG d 26 i t g I J sl rd w5 w6 w7 := by
  obtain ⟨v, I1, J1, I2, J2, rd2, n, m, q, e1, e2, z, z0⟩ := T
  have k1 := aF_kp e1
  have k2 := aF_kp e2
  have s1 : I1 0 = I 0 := funext fun j => (k1.1 0 j (fun h => absurd h.1 (by decide))).1
  have e1 : aF d 116 [.ref 6, .int (I 0 (i + 1))] (g, I, J, aP1 sl rd 56) = _ := e1
  have e2 : aF d 254 [.ref 46, .int (I 0 (i + 1))] (g, I1, J1, aP1 sl rd 56) = _ := e2
  refine ⟨g, I2, J2, rd2, n, m, q, w5, w6, w7, ?_, z, kp_t k1 k2, rfl, Nat.le_succ _, Nat.le_add_right _ _⟩
  rw [b296_39_c26, show nI i + 1 = nI (i + 1) from nI_add i 1, if_neg (lg_in (by omega) (by omega)), nI_clamp (by omega)]
  rw [b296_1096, e1]
  simp only [aBi]
  rw [b296_1099, show nI i + 1 = nI (i + 1) from nI_add i 1, if_neg (lg_in (by omega) (by omega)), nI_clamp (by omega), s1]
  rw [b296_1106, e2]
  simp only [aBi]
  rw [b296_1109, if_pos rfl]
theorem cs27 (hi : i + 5 ≤ sl) (hs : sl < 2 ^ 30) (T : tie d 121 256 [] t g I J sl rd) (w5 w6 w7 : Value) : lawG d 27 i t g I J sl rd w5 w6 w7 := by
  obtain ⟨v, I1, J1, I2, J2, rd2, n, m, q, e1, e2, z, z0⟩ := T
  have k1 := aF_kp e1
  have k2 := aF_kp e2
  have s1 : I1 0 = I 0 := funext fun j => (k1.1 0 j (fun h => absurd h.1 (by decide))).1
  have e1 : aF d 121 [.ref 6] (g, I, J, aP1 sl rd 56) = _ := e1
  have e2 : aF d 256 [.ref 46] (g, I1, J1, aP1 sl rd 56) = _ := e2
  refine ⟨g, I2, J2, rd2, n, m, q, w5, w6, w7, ?_, z, kp_t k1 k2, rfl, Nat.le_succ _, Nat.le_add_right _ _⟩
  rw [b296_39_c27, e1]
  simp only [aBi]
  rw [b296_1118, e2]
  simp only [aBi]
  rw [b296_1122, if_pos rfl]
theorem cs28 (hi : i + 5 ≤ sl) (hs : sl < 2 ^ 30) (T : tie d 124 259 [] t g I J sl rd) (w5 w6 w7 : Value) : lawG d 28 i t g I J sl rd w5 w6 w7 := by
  obtain ⟨v, I1, J1, I2, J2, rd2, n, m, q, e1, e2, z, z0⟩ := T
  have k1 := aF_kp e1
  have k2 := aF_kp e2
  have s1 : I1 0 = I 0 := funext fun j => (k1.1 0 j (fun h => absurd h.1 (by decide))).1
  have e1 : aF d 124 [.ref 6] (g, I, J, aP1 sl rd 56) = _ := e1
  have e2 : aF d 259 [.ref 46] (g, I1, J1, aP1 sl rd 56) = _ := e2
  refine ⟨g, I2, J2, rd2, n, m, q, w5, w6, w7, ?_, z, kp_t k1 k2, rfl, Nat.le_succ _, Nat.le_add_right _ _⟩
  rw [b296_39_c28, e1]
  simp only [aBi]
  rw [b296_1131, e2]
  simp only [aBi]
  rw [b296_1135, if_pos rfl]
theorem cs29 (hi : i + 5 ≤ sl) (hs : sl < 2 ^ 30) (T : tie d 126 260 [] t g I J sl rd) (w5 w6 w7 : Value) : lawG d 29 i t g I J sl rd w5 w6 w7 := by
  obtain ⟨v, I1, J1, I2, J2, rd2, n, m, q, e1, e2, z, z0⟩ := T
  have k1 := aF_kp e1
  have k2 := aF_kp e2
  have s1 : I1 0 = I 0 := funext fun j => (k1.1 0 j (fun h => absurd h.1 (by decide))).1
  have e1 : aF d 126 [.ref 6] (g, I, J, aP1 sl rd 56) = _ := e1
  have e2 : aF d 260 [.ref 46] (g, I1, J1, aP1 sl rd 56) = _ := e2
  refine ⟨g, I2, J2, rd2, n, m, q, w5, w6, w7, ?_, z, kp_t k1 k2, rfl, Nat.le_succ _, Nat.le_add_right _ _⟩
  rw [b296_39_c29, e1]
  simp only [aBi]
  rw [b296_1144, e2]
  simp only [aBi]
  rw [b296_1148, if_pos rfl]
theorem cs30 (hi : i + 5 ≤ sl) (hs : sl < 2 ^ 30) (T : tie d 127 261 [] t g I J sl rd) (w5 w6 w7 : Value) : lawG d 30 i t g I J sl rd w5 w6 w7 := by
  obtain ⟨v, I1, J1, I2, J2, rd2, n, m, q, e1, e2, z, z0⟩ := T
  have k1 := aF_kp e1
  have k2 := aF_kp e2
  have s1 : I1 0 = I 0 := funext fun j => (k1.1 0 j (fun h => absurd h.1 (by decide))).1
  have e1 : aF d 127 [.ref 6] (g, I, J, aP1 sl rd 56) = _ := e1
  have e2 : aF d 261 [.ref 46] (g, I1, J1, aP1 sl rd 56) = _ := e2
  refine ⟨g, I2, J2, rd2, n, m, q, w5, w6, w7, ?_, z, kp_t k1 k2, rfl, Nat.le_succ _, Nat.le_add_right _ _⟩
  rw [b296_39_c30, e1]
  simp only [aBi]
  rw [b296_1157, e2]
  simp only [aBi]
  rw [b296_1161, if_pos rfl]
theorem cs31 (hi : i + 5 ≤ sl) (hs : sl < 2 ^ 30) (T : tie d 129 263 [.int (I 0 (i + 1))] t g I J sl rd) (w5 w6 w7 : Value) : lawG d 31 i t g I J sl rd w5 w6 w7 := by
  obtain ⟨v, I1, J1, I2, J2, rd2, n, m, q, e1, e2, z, z0⟩ := T
  have k1 := aF_kp e1
  have k2 := aF_kp e2
  have s1 : I1 0 = I 0 := funext fun j => (k1.1 0 j (fun h => absurd h.1 (by decide))).1
  have e1 : aF d 129 [.ref 6, .int (I 0 (i + 1))] (g, I, J, aP1 sl rd 56) = _ := e1
  have e2 : aF d 263 [.ref 46, .int (I 0 (i + 1))] (g, I1, J1, aP1 sl rd 56) = _ := e2
  refine ⟨g, I2, J2, rd2, n, m, q, w5, w6, w7, ?_, z, kp_t k1 k2, rfl, Nat.le_succ _, Nat.le_add_right _ _⟩
  rw [b296_39_c31, show nI i + 1 = nI (i + 1) from nI_add i 1, if_neg (lg_in (by omega) (by omega)), nI_clamp (by omega)]
  rw [b296_1173, e1]
  simp only [aBi]
  rw [b296_1176, show nI i + 1 = nI (i + 1) from nI_add i 1, if_neg (lg_in (by omega) (by omega)), nI_clamp (by omega), s1]
  rw [b296_1183, e2]
  simp only [aBi]
  rw [b296_1186, if_pos rfl]
theorem cs32 (hi : i + 5 ≤ sl) (hs : sl < 2 ^ 30) (T : tie d 136 266 [] t g I J sl rd) (w5 w6 w7 : Value) : lawG d 32 i t g I J sl rd w5 w6 w7 := by
  obtain ⟨v, I1, J1, I2, J2, rd2, n, m, q, e1, e2, z, z0⟩ := T
  have k1 := aF_kp e1
  have k2 := aF_kp e2
  have s1 : I1 0 = I 0 := funext fun j => (k1.1 0 j (fun h => absurd h.1 (by decide))).1
  have e1 : aF d 136 [.ref 6] (g, I, J, aP1 sl rd 56) = _ := e1
  have e2 : aF d 266 [.ref 46] (g, I1, J1, aP1 sl rd 56) = _ := e2
  refine ⟨g, I2, J2, rd2, n, m, q, w5, w6, w7, ?_, z, kp_t k1 k2, rfl, Nat.le_succ _, Nat.le_add_right _ _⟩
  rw [b296_39_c32, e1]
  simp only [aBi]
  rw [b296_1195, e2]
  simp only [aBi]
  rw [b296_1199, if_pos rfl]
theorem cs33 (hi : i + 5 ≤ sl) (hs : sl < 2 ^ 30) (T : tie d 137 268 [.int (I 0 (i + 1)), .int (I 0 (i + 2))] t g I J sl rd) (w5 w6 w7 : Value) : lawG d 33 i t g I J sl rd w5 w6 w7 := by
  obtain ⟨v, I1, J1, I2, J2, rd2, n, m, q, e1, e2, z, z0⟩ := T
  have k1 := aF_kp e1
  have k2 := aF_kp e2
  have s1 : I1 0 = I 0 := funext fun j => (k1.1 0 j (fun h => absurd h.1 (by decide))).1
  have e1 : aF d 137 [.ref 6, .int (I 0 (i + 1)), .int (I 0 (i + 2))] (g, I, J, aP1 sl rd 56) = _ := e1
  have e2 : aF d 268 [.ref 46, .int (I 0 (i + 1)), .int (I 0 (i + 2))] (g, I1, J1, aP1 sl rd 56) = _ := e2
  refine ⟨g, I2, J2, rd2, n, m, q, w5, w6, w7, ?_, z, kp_t k1 k2, rfl, Nat.le_succ _, Nat.le_add_right _ _⟩
  rw [b296_39_c33, show nI i + 1 = nI (i + 1) from nI_add i 1, if_neg (lg_in (by omega) (by omega)), nI_clamp (by omega)]
  rw [b296_1211, show nI i + 2 = nI (i + 2) from nI_add i 2, if_neg (lg_in (by omega) (by omega)), nI_clamp (by omega)]
  rw [b296_1217, e1]
  simp only [aBi]
  rw [b296_1220, show nI i + 1 = nI (i + 1) from nI_add i 1, if_neg (lg_in (by omega) (by omega)), nI_clamp (by omega), s1]
  rw [b296_1227, show nI i + 2 = nI (i + 2) from nI_add i 2, if_neg (lg_in (by omega) (by omega)), nI_clamp (by omega), s1]
  rw [b296_1233, e2]
  simp only [aBi]
  rw [b296_1236, if_pos rfl]
theorem cs34 (hi : i + 5 ≤ sl) (hs : sl < 2 ^ 30) (T : tie d 138 269 [.int (I 0 (i + 1)), .int (I 0 (i + 2))] t g I J sl rd) (w5 w6 w7 : Value) : lawG d 34 i t g I J sl rd w5 w6 w7 := by
  obtain ⟨v, I1, J1, I2, J2, rd2, n, m, q, e1, e2, z, z0⟩ := T
  have k1 := aF_kp e1
  have k2 := aF_kp e2
  have s1 : I1 0 = I 0 := funext fun j => (k1.1 0 j (fun h => absurd h.1 (by decide))).1
  have e1 : aF d 138 [.ref 6, .int (I 0 (i + 1)), .int (I 0 (i + 2))] (g, I, J, aP1 sl rd 56) = _ := e1
  have e2 : aF d 269 [.ref 46, .int (I 0 (i + 1)), .int (I 0 (i + 2))] (g, I1, J1, aP1 sl rd 56) = _ := e2
  refine ⟨g, I2, J2, rd2, n, m, q, w5, w6, w7, ?_, z, kp_t k1 k2, rfl, Nat.le_succ _, Nat.le_add_right _ _⟩
  rw [b296_39_c34, show nI i + 1 = nI (i + 1) from nI_add i 1, if_neg (lg_in (by omega) (by omega)), nI_clamp (by omega)]
  rw [b296_1248, show nI i + 2 = nI (i + 2) from nI_add i 2, if_neg (lg_in (by omega) (by omega)), nI_clamp (by omega)]
  rw [b296_1254, e1]
  simp only [aBi]
  rw [b296_1257, show nI i + 1 = nI (i + 1) from nI_add i 1, if_neg (lg_in (by omega) (by omega)), nI_clamp (by omega), s1]
  rw [b296_1264, show nI i + 2 = nI (i + 2) from nI_add i 2, if_neg (lg_in (by omega) (by omega)), nI_clamp (by omega), s1]
  rw [b296_1270, e2]
  simp only [aBi]
  rw [b296_1273, if_pos rfl]
theorem cs35 (hi : i + 5 ≤ sl) (hs : sl < 2 ^ 30) (T : tie d 140 271 [.int (I 0 (i + 1))] t g I J sl rd) (w5 w6 w7 : Value) : lawG d 35 i t g I J sl rd w5 w6 w7 := by
  obtain ⟨v, I1, J1, I2, J2, rd2, n, m, q, e1, e2, z, z0⟩ := T
  have k1 := aF_kp e1
  have k2 := aF_kp e2
  have s1 : I1 0 = I 0 := funext fun j => (k1.1 0 j (fun h => absurd h.1 (by decide))).1
  have e1 : aF d 140 [.ref 6, .int (I 0 (i + 1))] (g, I, J, aP1 sl rd 56) = _ := e1
  have e2 : aF d 271 [.ref 46, .int (I 0 (i + 1))] (g, I1, J1, aP1 sl rd 56) = _ := e2
  refine ⟨g, I2, J2, rd2, n, m, q, w5, w6, w7, ?_, z, kp_t k1 k2, rfl, Nat.le_succ _, Nat.le_add_right _ _⟩
  rw [b296_39_c35, show nI i + 1 = nI (i + 1) from nI_add i 1, if_neg (lg_in (by omega) (by omega)), nI_clamp (by omega)]
  rw [b296_1285, e1]
  simp only [aBi]
  rw [b296_1288, show nI i + 1 = nI (i + 1) from nI_add i 1, if_neg (lg_in (by omega) (by omega)), nI_clamp (by omega), s1]
  rw [b296_1295, e2]
  simp only [aBi]
  rw [b296_1298, if_pos rfl]
theorem cs36 (hi : i + 5 ≤ sl) (hs : sl < 2 ^ 30) (T : tie d 141 272 [.int (I 0 (i + 1)), .int (I 0 (i + 2)), .int (I 0 (i + 3))] t g I J sl rd) (w5 w6 w7 : Value) : lawG d 36 i t g I J sl rd w5 w6 w7 := by
  obtain ⟨v, I1, J1, I2, J2, rd2, n, m, q, e1, e2, z, z0⟩ := T
  have k1 := aF_kp e1
  have k2 := aF_kp e2
  have s1 : I1 0 = I 0 := funext fun j => (k1.1 0 j (fun h => absurd h.1 (by decide))).1
  have e1 : aF d 141 [.ref 6, .int (I 0 (i + 1)), .int (I 0 (i + 2)), .int (I 0 (i + 3))] (g, I, J, aP1 sl rd 56) = _ := e1
  have e2 : aF d 272 [.ref 46, .int (I 0 (i + 1)), .int (I 0 (i + 2)), .int (I 0 (i + 3))] (g, I1, J1, aP1 sl rd 56) = _ := e2
  refine ⟨g, I2, J2, rd2, n, m, q, w5, w6, w7, ?_, z, kp_t k1 k2, rfl, Nat.le_succ _, Nat.le_add_right _ _⟩
  rw [b296_39_c36, show nI i + 1 = nI (i + 1) from nI_add i 1, if_neg (lg_in (by omega) (by omega)), nI_clamp (by omega)]
  rw [b296_1310, show nI i + 2 = nI (i + 2) from nI_add i 2, if_neg (lg_in (by omega) (by omega)), nI_clamp (by omega)]
  rw [b296_1316, show nI i + 3 = nI (i + 3) from nI_add i 3, if_neg (lg_in (by omega) (by omega)), nI_clamp (by omega)]
  rw [b296_1322, e1]
  simp only [aBi]
  rw [b296_1325, show nI i + 1 = nI (i + 1) from nI_add i 1, if_neg (lg_in (by omega) (by omega)), nI_clamp (by omega), s1]
  rw [b296_1332, show nI i + 2 = nI (i + 2) from nI_add i 2, if_neg (lg_in (by omega) (by omega)), nI_clamp (by omega), s1]
  rw [b296_1338, show nI i + 3 = nI (i + 3) from nI_add i 3, if_neg (lg_in (by omega) (by omega)), nI_clamp (by omega), s1]
  rw [b296_1344, e2]
  simp only [aBi]
  rw [b296_1347, if_pos rfl]
theorem cs37 (hi : i + 5 ≤ sl) (hs : sl < 2 ^ 30) (T : tie d 146 276 [.int (I 0 (i + 1)), .int (I 0 (i + 2)), .int (I 0 (i + 3)), .int (I 0 (i + 4))] t g I J sl rd) (w5 w6 w7 : Value) : lawG d 37 i t g I J sl rd w5 w6 w7 := by
  obtain ⟨v, I1, J1, I2, J2, rd2, n, m, q, e1, e2, z, z0⟩ := T
  have k1 := aF_kp e1
  have k2 := aF_kp e2
  have s1 : I1 0 = I 0 := funext fun j => (k1.1 0 j (fun h => absurd h.1 (by decide))).1
  have e1 : aF d 146 [.ref 6, .int (I 0 (i + 1)), .int (I 0 (i + 2)), .int (I 0 (i + 3)), .int (I 0 (i + 4))] (g, I, J, aP1 sl rd 56) = _ := e1
  have e2 : aF d 276 [.ref 46, .int (I 0 (i + 1)), .int (I 0 (i + 2)), .int (I 0 (i + 3)), .int (I 0 (i + 4))] (g, I1, J1, aP1 sl rd 56) = _ := e2
  refine ⟨g, I2, J2, rd2, n, m, q, w5, w6, w7, ?_, z, kp_t k1 k2, rfl, Nat.le_succ _, Nat.le_add_right _ _⟩
  rw [b296_39_c37, show nI i + 1 = nI (i + 1) from nI_add i 1, if_neg (lg_in (by omega) (by omega)), nI_clamp (by omega)]
  rw [b296_1359, show nI i + 2 = nI (i + 2) from nI_add i 2, if_neg (lg_in (by omega) (by omega)), nI_clamp (by omega)]
  rw [b296_1365, show nI i + 3 = nI (i + 3) from nI_add i 3, if_neg (lg_in (by omega) (by omega)), nI_clamp (by omega)]
  rw [b296_1371, show nI i + 4 = nI (i + 4) from nI_add i 4, if_neg (lg_in (by omega) (by omega)), nI_clamp (by omega)]
  rw [b296_1377, e1]
  simp only [aBi]
  rw [b296_1380, show nI i + 1 = nI (i + 1) from nI_add i 1, if_neg (lg_in (by omega) (by omega)), nI_clamp (by omega), s1]
  rw [b296_1387, show nI i + 2 = nI (i + 2) from nI_add i 2, if_neg (lg_in (by omega) (by omega)), nI_clamp (by omega), s1]
  rw [b296_1393, show nI i + 3 = nI (i + 3) from nI_add i 3, if_neg (lg_in (by omega) (by omega)), nI_clamp (by omega), s1]
  rw [b296_1399, show nI i + 4 = nI (i + 4) from nI_add i 4, if_neg (lg_in (by omega) (by omega)), nI_clamp (by omega), s1]
  rw [b296_1405, e2]
  simp only [aBi]
  rw [b296_1408, if_pos rfl]
theorem cs38 (hi : i + 5 ≤ sl) (hs : sl < 2 ^ 30) (T : tie d 147 277 [.int (I 0 (i + 1)), .int (I 0 (i + 2))] t g I J sl rd) (w5 w6 w7 : Value) : lawG d 38 i t g I J sl rd w5 w6 w7 := by
  obtain ⟨v, I1, J1, I2, J2, rd2, n, m, q, e1, e2, z, z0⟩ := T
  have k1 := aF_kp e1
  have k2 := aF_kp e2
  have s1 : I1 0 = I 0 := funext fun j => (k1.1 0 j (fun h => absurd h.1 (by decide))).1
  have e1 : aF d 147 [.ref 6, .int (I 0 (i + 1)), .int (I 0 (i + 2))] (g, I, J, aP1 sl rd 56) = _ := e1
  have e2 : aF d 277 [.ref 46, .int (I 0 (i + 1)), .int (I 0 (i + 2))] (g, I1, J1, aP1 sl rd 56) = _ := e2
  refine ⟨g, I2, J2, rd2, n, m, q, w5, w6, w7, ?_, z, kp_t k1 k2, rfl, Nat.le_succ _, Nat.le_add_right _ _⟩
  rw [b296_39_c38, show nI i + 1 = nI (i + 1) from nI_add i 1, if_neg (lg_in (by omega) (by omega)), nI_clamp (by omega)]
  rw [b296_1420, show nI i + 2 = nI (i + 2) from nI_add i 2, if_neg (lg_in (by omega) (by omega)), nI_clamp (by omega)]
  rw [b296_1426, e1]
  simp only [aBi]
  rw [b296_1429, show nI i + 1 = nI (i + 1) from nI_add i 1, if_neg (lg_in (by omega) (by omega)), nI_clamp (by omega), s1]
  rw [b296_1436, show nI i + 2 = nI (i + 2) from nI_add i 2, if_neg (lg_in (by omega) (by omega)), nI_clamp (by omega), s1]
  rw [b296_1442, e2]
  simp only [aBi]
  rw [b296_1445, if_pos rfl]
theorem cs39 (hi : i + 5 ≤ sl) (hs : sl < 2 ^ 30) (T : tie d 150 278 [] t g I J sl rd) (w5 w6 w7 : Value) : lawG d 39 i t g I J sl rd w5 w6 w7 := by
  obtain ⟨v, I1, J1, I2, J2, rd2, n, m, q, e1, e2, z, z0⟩ := T
  have k1 := aF_kp e1
  have k2 := aF_kp e2
  have s1 : I1 0 = I 0 := funext fun j => (k1.1 0 j (fun h => absurd h.1 (by decide))).1
  have e1 : aF d 150 [.ref 6] (g, I, J, aP1 sl rd 56) = _ := e1
  have e2 : aF d 278 [.ref 46] (g, I1, J1, aP1 sl rd 56) = _ := e2
  refine ⟨g, I2, J2, rd2, n, m, q, w5, w6, w7, ?_, z, kp_t k1 k2, rfl, Nat.le_succ _, Nat.le_add_right _ _⟩
  rw [b296_39_c39, e1]
  simp only [aBi]
  rw [b296_1454, e2]
  simp only [aBi]
  rw [b296_1458, if_pos rfl]
theorem cs40 (hi : i + 5 ≤ sl) (hs : sl < 2 ^ 30) (T : tie d 152 279 [] t g I J sl rd) (w5 w6 w7 : Value) : lawG d 40 i t g I J sl rd w5 w6 w7 := by
  obtain ⟨v, I1, J1, I2, J2, rd2, n, m, q, e1, e2, z, z0⟩ := T
  have k1 := aF_kp e1
  have k2 := aF_kp e2
  have s1 : I1 0 = I 0 := funext fun j => (k1.1 0 j (fun h => absurd h.1 (by decide))).1
  have e1 : aF d 152 [.ref 6] (g, I, J, aP1 sl rd 56) = _ := e1
  have e2 : aF d 279 [.ref 46] (g, I1, J1, aP1 sl rd 56) = _ := e2
  refine ⟨g, I2, J2, rd2, n, m, q, w5, w6, w7, ?_, z, kp_t k1 k2, rfl, Nat.le_succ _, Nat.le_add_right _ _⟩
  rw [b296_39_c40, e1]
  simp only [aBi]
  rw [b296_1467, e2]
  simp only [aBi]
  rw [b296_1471, if_pos rfl]
theorem cs41 (hi : i + 5 ≤ sl) (hs : sl < 2 ^ 30) (T : tie d 156 282 [] t g I J sl rd) (w5 w6 w7 : Value) : lawG d 41 i t g I J sl rd w5 w6 w7 := by
  obtain ⟨v, I1, J1, I2, J2, rd2, n, m, q, e1, e2, z, z0⟩ := T
  have k1 := aF_kp e1
  have k2 := aF_kp e2
  have s1 : I1 0 = I 0 := funext fun j => (k1.1 0 j (fun h => absurd h.1 (by decide))).1
  have e1 : aF d 156 [.ref 6] (g, I, J, aP1 sl rd 56) = _ := e1
  have e2 : aF d 282 [.ref 46] (g, I1, J1, aP1 sl rd 56) = _ := e2
  refine ⟨g, I2, J2, rd2, n, m, q, w5, w6, w7, ?_, z, kp_t k1 k2, rfl, Nat.le_succ _, Nat.le_add_right _ _⟩
  rw [b296_39_c41, e1]
  simp only [aBi]
  rw [b296_1480, e2]
  simp only [aBi]
  rw [b296_1484, if_pos rfl]
theorem cs42 (hi : i + 5 ≤ sl) (hs : sl < 2 ^ 30) (T : tie d 158 283 [.int (I 0 (i + 1)), .int (I 0 (i + 2))] t g I J sl rd) (w5 w6 w7 : Value) : lawG d 42 i t g I J sl rd w5 w6 w7 := by
  obtain ⟨v, I1, J1, I2, J2, rd2, n, m, q, e1, e2, z, z0⟩ := T
  have k1 := aF_kp e1
  have k2 := aF_kp e2
  have s1 : I1 0 = I 0 := funext fun j => (k1.1 0 j (fun h => absurd h.1 (by decide))).1
  have e1 : aF d 158 [.ref 6, .int (I 0 (i + 1)), .int (I 0 (i + 2))] (g, I, J, aP1 sl rd 56) = _ := e1
  have e2 : aF d 283 [.ref 46, .int (I 0 (i + 1)), .int (I 0 (i + 2))] (g, I1, J1, aP1 sl rd 56) = _ := e2
  refine ⟨g, I2, J2, rd2, n, m, q, w5, w6, w7, ?_, z, kp_t k1 k2, rfl, Nat.le_succ _, Nat.le_add_right _ _⟩
  rw [b296_39_c42, show nI i + 1 = nI (i + 1) from nI_add i 1, if_neg (lg_in (by omega) (by omega)), nI_clamp (by omega)]
  rw [b296_1496, show nI i + 2 = nI (i + 2) from nI_add i 2, if_neg (lg_in (by omega) (by omega)), nI_clamp (by omega)]
  rw [b296_1502, e1]
  simp only [aBi]
  rw [b296_1505, show nI i + 1 = nI (i + 1) from nI_add i 1, if_neg (lg_in (by omega) (by omega)), nI_clamp (by omega), s1]
  rw [b296_1512, show nI i + 2 = nI (i + 2) from nI_add i 2, if_neg (lg_in (by omega) (by omega)), nI_clamp (by omega), s1]
  rw [b296_1518, e2]
  simp only [aBi]
  rw [b296_1521, if_pos rfl]
theorem cs43 (hi : i + 5 ≤ sl) (hs : sl < 2 ^ 30) (T : tie d 162 287 [] t g I J sl rd) (w5 w6 w7 : Value) : lawG d 43 i t g I J sl rd w5 w6 w7 := by
  obtain ⟨v, I1, J1, I2, J2, rd2, n, m, q, e1, e2, z, z0⟩ := T
  have k1 := aF_kp e1
  have k2 := aF_kp e2
  have s1 : I1 0 = I 0 := funext fun j => (k1.1 0 j (fun h => absurd h.1 (by decide))).1
  have e1 : aF d 162 [.ref 6] (g, I, J, aP1 sl rd 56) = _ := e1
  have e2 : aF d 287 [.ref 46] (g, I1, J1, aP1 sl rd 56) = _ := e2
  refine ⟨g, I2, J2, rd2, n, m, q, w5, w6, w7, ?_, z, kp_t k1 k2, rfl, Nat.le_succ _, Nat.le_add_right _ _⟩
  rw [b296_39_c43, e1]
  simp only [aBi]
  rw [b296_1530, e2]
  simp only [aBi]
  rw [b296_1534, if_pos rfl]
theorem cs44 (hi : i + 5 ≤ sl) (hs : sl < 2 ^ 30) (T : tie d 163 289 [.int (I 0 (i + 1)), .int (I 0 (i + 2))] t g I J sl rd) (w5 w6 w7 : Value) : lawG d 44 i t g I J sl rd w5 w6 w7 := by
  obtain ⟨v, I1, J1, I2, J2, rd2, n, m, q, e1, e2, z, z0⟩ := T
  have k1 := aF_kp e1
  have k2 := aF_kp e2
  have s1 : I1 0 = I 0 := funext fun j => (k1.1 0 j (fun h => absurd h.1 (by decide))).1
  have e1 : aF d 163 [.ref 6, .int (I 0 (i + 1)), .int (I 0 (i + 2))] (g, I, J, aP1 sl rd 56) = _ := e1
  have e2 : aF d 289 [.ref 46, .int (I 0 (i + 1)), .int (I 0 (i + 2))] (g, I1, J1, aP1 sl rd 56) = _ := e2
  refine ⟨g, I2, J2, rd2, n, m, q, w5, w6, w7, ?_, z, kp_t k1 k2, rfl, Nat.le_succ _, Nat.le_add_right _ _⟩
  rw [b296_39_c44, show nI i + 1 = nI (i + 1) from nI_add i 1, if_neg (lg_in (by omega) (by omega)), nI_clamp (by omega)]
  rw [b296_1546, show nI i + 2 = nI (i + 2) from nI_add i 2, if_neg (lg_in (by omega) (by omega)), nI_clamp (by omega)]
  rw [b296_1552, e1]
  simp only [aBi]
  rw [b296_1555, show nI i + 1 = nI (i + 1) from nI_add i 1, if_neg (lg_in (by omega) (by omega)), nI_clamp (by omega), s1]
  rw [b296_1562, show nI i + 2 = nI (i + 2) from nI_add i 2, if_neg (lg_in (by omega) (by omega)), nI_clamp (by omega), s1]
  rw [b296_1568, e2]
  simp only [aBi]
  rw [b296_1571, if_pos rfl]
theorem cs45 (hi : i + 5 ≤ sl) (hs : sl < 2 ^ 30) (T : tie d 166 291 [.int (I 0 (i + 1))] t g I J sl rd) (w5 w6 w7 : Value) : lawG d 45 i t g I J sl rd w5 w6 w7 := by
  obtain ⟨v, I1, J1, I2, J2, rd2, n, m, q, e1, e2, z, z0⟩ := T
  have k1 := aF_kp e1
  have k2 := aF_kp e2
  have s1 : I1 0 = I 0 := funext fun j => (k1.1 0 j (fun h => absurd h.1 (by decide))).1
  have e1 : aF d 166 [.ref 6, .int (I 0 (i + 1))] (g, I, J, aP1 sl rd 56) = _ := e1
  have e2 : aF d 291 [.ref 46, .int (I 0 (i + 1))] (g, I1, J1, aP1 sl rd 56) = _ := e2
  refine ⟨g, I2, J2, rd2, n, m, q, w5, w6, w7, ?_, z, kp_t k1 k2, rfl, Nat.le_succ _, Nat.le_add_right _ _⟩
  rw [b296_39_c45, show nI i + 1 = nI (i + 1) from nI_add i 1, if_neg (lg_in (by omega) (by omega)), nI_clamp (by omega)]
  rw [b296_1583, e1]
  simp only [aBi]
  rw [b296_1586, show nI i + 1 = nI (i + 1) from nI_add i 1, if_neg (lg_in (by omega) (by omega)), nI_clamp (by omega), s1]
  rw [b296_1593, e2]
  simp only [aBi]
  rw [b296_1596, if_pos rfl]
theorem cs46 (hi : i + 5 ≤ sl) (hs : sl < 2 ^ 30) (T : tie d 167 292 [.int (I 0 (i + 1))] t g I J sl rd) (w5 w6 w7 : Value) : lawG d 46 i t g I J sl rd w5 w6 w7 := by
  obtain ⟨v, I1, J1, I2, J2, rd2, n, m, q, e1, e2, z, z0⟩ := T
  have k1 := aF_kp e1
  have k2 := aF_kp e2
  have s1 : I1 0 = I 0 := funext fun j => (k1.1 0 j (fun h => absurd h.1 (by decide))).1
  have e1 : aF d 167 [.ref 6, .int (I 0 (i + 1))] (g, I, J, aP1 sl rd 56) = _ := e1
  have e2 : aF d 292 [.ref 46, .int (I 0 (i + 1))] (g, I1, J1, aP1 sl rd 56) = _ := e2
  refine ⟨g, I2, J2, rd2, n, m, q, w5, w6, w7, ?_, z, kp_t k1 k2, rfl, Nat.le_succ _, Nat.le_add_right _ _⟩
  rw [b296_39_c46, show nI i + 1 = nI (i + 1) from nI_add i 1, if_neg (lg_in (by omega) (by omega)), nI_clamp (by omega)]
  rw [b296_1608, e1]
  simp only [aBi]
  rw [b296_1611, show nI i + 1 = nI (i + 1) from nI_add i 1, if_neg (lg_in (by omega) (by omega)), nI_clamp (by omega), s1]
  rw [b296_1618, e2]
  simp only [aBi]
  rw [b296_1621, if_pos rfl]
theorem cs47 (hi : i + 5 ≤ sl) (hs : sl < 2 ^ 30) (T : tie d 168 293 [.int (I 0 (i + 1))] t g I J sl rd) (w5 w6 w7 : Value) : lawG d 47 i t g I J sl rd w5 w6 w7 := by
  obtain ⟨v, I1, J1, I2, J2, rd2, n, m, q, e1, e2, z, z0⟩ := T
  have k1 := aF_kp e1
  have k2 := aF_kp e2
  have s1 : I1 0 = I 0 := funext fun j => (k1.1 0 j (fun h => absurd h.1 (by decide))).1
  have e1 : aF d 168 [.ref 6, .int (I 0 (i + 1))] (g, I, J, aP1 sl rd 56) = _ := e1
  have e2 : aF d 293 [.ref 46, .int (I 0 (i + 1))] (g, I1, J1, aP1 sl rd 56) = _ := e2
  refine ⟨g, I2, J2, rd2, n, m, q, w5, w6, w7, ?_, z, kp_t k1 k2, rfl, Nat.le_succ _, Nat.le_add_right _ _⟩
  rw [b296_39_c47, show nI i + 1 = nI (i + 1) from nI_add i 1, if_neg (lg_in (by omega) (by omega)), nI_clamp (by omega)]
  rw [b296_1633, e1]
  simp only [aBi]
  rw [b296_1636, show nI i + 1 = nI (i + 1) from nI_add i 1, if_neg (lg_in (by omega) (by omega)), nI_clamp (by omega), s1]
  rw [b296_1643, e2]
  simp only [aBi]
  rw [b296_1646, if_pos rfl]
theorem cs48 (hi : i + 5 ≤ sl) (hs : sl < 2 ^ 30) (T : tieT .long (fun x => x) d 302 295 [.int (I 0 (i + 1))] t g I J sl rd) (w5 w6 w7 : Value) : lawG d 48 i t g I J sl rd w5 w6 w7 := by
  obtain ⟨k, b, g', I1, J1, I2, rd2, n, m, q, e1, e2, e13, eJ, z, z0, y1, y2, y3⟩ := T
  have k1 := aF_kp e1
  have k2 := aF_kp e2
  have s1 : I1 0 = I 0 := funext fun j => (k1.1 0 j (fun h => absurd h.1 (by decide))).1
  have e1 : aF d 302 [.ref 6, .int (I 0 (i + 1)), .ref 67] (g, I, J, aP1 sl rd 56) = _ := e1
  have e2 : aF d 295 [.ref 46, .int (I 0 (i + 1))] (g', I1, J1, aP1 sl rd 56) = _ := e2
  refine ⟨g', I2, J1, rd2, n, m, q, .int k, .long b, aNo, ?_, z, kp_t k1 k2, y1, y2, y3⟩
  rw [b296_39_c48, show nI i + 1 = nI (i + 1) from nI_add i 1, if_neg (lg_in (by omega) (by omega)), nI_clamp (by omega)]
  rw [b296_1658, e1]
  simp only [aBi]
  rw [b296_1662, show nI i + 1 = nI (i + 1) from nI_add i 1, if_neg (lg_in (by omega) (by omega)), nI_clamp (by omega), s1]
  rw [b296_1671, e2]
  simp only [aBl]
  rw [b296_1674, f178, e13]
  simp only [aBi]
  rw [b296_1680, if_pos rfl]
  by_cases hk : k = 0
  · rw [if_pos hk, eJ hk, lgc, if_pos rfl]
  · rw [if_neg hk]
