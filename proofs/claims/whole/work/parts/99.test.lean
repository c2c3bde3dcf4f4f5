section T00
/-! gates, common, stable: tied -/
variable {d : Nat} {g : Nat × Nat × Nat} {I : Nat → Nat → Int32} {J : Nat → Nat → Int64} {sl rd rl : Nat} {t n m q : Nat}
theorem sm_rng {p : Nat → Bool} {x : Nat → Int32} {k : Nat} (hx : ∀ i, i < k → ∃ a, a ≤ 99 ∧ x i = nI a) : ∃ a, a ≤ 99 * k ∧ sm p x k = nI a := by
  have h := fo_inv (P := fun j (acc : Int32) => ∃ a, a ≤ 99 * j ∧ acc = nI a) (f := fun i acc => if p i then acc + x i else acc) k 0 0 ⟨0, by omega, rfl⟩ (fun j acc _ h2 hp => by
    obtain ⟨a, h1, e⟩ := hp
    obtain ⟨b, h3, e2⟩ := hx j (by omega)
    by_cases hj : p j = true
    · rw [if_pos hj, e, e2, nI_add]; exact ⟨a + b, by omega, rfl⟩
    · rw [if_neg hj]; exact ⟨a, by omega, e⟩)
  rw [Nat.zero_add] at h
  exact h
theorem dif_pos0 {a b : Nat} (ha : a < 2 ^ 30) (hb : b < 2 ^ 30) : (0 < nI a - nI b) = (nI b < nI a) := by
  refine propext ?_
  rw [int_lt, int_lt, pk_sub_toInt ha hb, nI_toInt (by omega), nI_toInt (by omega), show (0 : Int32).toInt = 0 from rfl]
  omega
theorem dif_zero {a b : Nat} (ha : a < 2 ^ 30) (hb : b < 2 ^ 30) : (nI a - nI b = 0) = (nI a = nI b) := by
  refine propext ?_
  rw [← Int32.toInt_inj, ← Int32.toInt_inj, pk_sub_toInt ha hb, nI_toInt (by omega), nI_toInt (by omega), show (0 : Int32).toInt = 0 from rfl]
  omega
theorem zQ_c (H : zInv t n m q I J) {i : Nat} (hi : i < m) : ∃ a, a ≤ 99 ∧ I 18 i = nI a := (H.2.2.2.1.2.2.2 i hi).2.2.2.2.1
/-- crowds kept in by gates s -/
def kI (g21 : Nat → Int32) (m : Nat) (those s : Int32) : Int32 := bs (fun i => (hasT those (nI i) && decide ((g21 i &&& (s ^^^ (-1))) = 0))) m
def kC (g18 g21 : Nat → Int32) (m : Nat) (those s : Int32) : Int32 := sm (fun i => hasT (kI g21 m those s) (nI i)) (fun i => g18 i) m
def gb1 (C : Int32 → Int32) (k : Int32) (s : Nat) (b : Int32) : Int32 := if bc (nI s) ≤ k ∧ (C b < C (nI s) ∨ (C (nI s) = C b ∧ ¬ bc b ≤ bc (nI s))) then nI s else b
theorem tie_gates (H : zInv t n m q I J) (a c : Int32) : tie d 138 269 [.int a, .int c] t g I J sl rd := by
  obtain ⟨hm, d1, d2, -⟩ := H.2.2.2.1
  have d2' : aU I 46 13 0 46 4 = nI m := by rw [aU_i _ _ (by decide)]; exact d2
  by_cases hx : ∃ k, k < 2 ^ m ∧ a = nI k
  · by_cases hy : c < 0 ∨ 9 < c
    · refine tie_0 (rd2 := rd) (v := -1) H (Fr_r _ _) (th_F _) (th_46 _) ?_ ?_
      · show aE d 138 0 [.ref 6, .int a, .int c, aNo, aNo, aNo, aNo, aNo] [] _ = _
        rw [b138_0, aq_c hm d1, decide_eq_true hx]
        simp only [aBi]
        rw [b138_8, if_neg (by decide)]
        rcases hy with hy | hy
        · rw [if_pos hy]
        · rw [if_neg (c := c ≤ 9) (by rw [nle_lt]; exact hy), ite_self]
      · show aE d 269 0 [.ref 46, .int a, .int c, aNo, aNo, aNo] [] _ = _
        rw [b269_0, aq_r hm d2', decide_eq_true hx]
        simp only [aBi]
        rw [b269_10, if_neg (by decide), f181, inI_f hy]
        simp only [aBi]
        rw [b269_20, if_pos rfl]
    have Crng : ∀ s, ∃ k, k ≤ 99 * m ∧ kC (I 18) (I 21) m a s = nI k := fun s => sm_rng (fun i hi => zQ_c H hi)
    have k139 : ∀ (s : Int32), aF d 139 [.ref 14, .int a, .int s] (g, I, J, aP1 sl rd 56) = some (some (some (.int (kI (I 21) m a s))), (g, I, J, aP1 sl rd 56)) := fun s => f139 d1 hm a s
    have k135 : ∀ (s : Int32), aF d 135 [.ref 14, .int (kI (I 21) m a s)] (g, I, J, aP1 sl rd 56) = some (some (some (.int (kC (I 18) (I 21) m a s))), (g, I, J, aP1 sl rd 56)) := fun s => f135 d1 hm _
    have lC : ∀ (k s : Nat) (b : Int32) (w6 w7 : Value), s + k = 512 → aE d 138 46 [.ref 6, .int a, .int c, .int b, .int (kC (I 18) (I 21) m a b), .int (nI s), w6, w7] [] (g, I, J, aP1 sl rd 56) = some (some (some (.int (kC (I 18) (I 21) m a (fo (gb1 (kC (I 18) (I 21) m a) c) k s b)))), (g, aU I 12 1 2, aU (aU J 13 0 (Int32.toInt64 (fo (gb1 (kC (I 18) (I 21) m a) c) k s b))) 13 1 (Int32.toInt64 (kI (I 21) m a (fo (gb1 (kC (I 18) (I 21) m a) c) k s b))), aP1 sl rd 56)) := by
      intro k
      induction k with
      | zero =>
        intro s b w6 w7 hs
        obtain rfl : s = 512 := by omega
        rw [b138_46, if_pos (by decide), k139]
        simp only [aBi]
        rw [b138_140, f82]
        simp only [aBv]
        rw [b138_144]
        rfl
      | succ k ih =>
        intro s b w6 w7 hs
        rw [fo_1, b138_46, if_neg (show ¬ 512 ≤ nI s from nI_ge (b := 512) (by omega) (by decide)), f12]
        simp only [aBi]
        rw [b138_59]
        have yes : bc (nI s) ≤ c ∧ (kC (I 18) (I 21) m a b < kC (I 18) (I 21) m a (nI s) ∨ (kC (I 18) (I 21) m a (nI s) = kC (I 18) (I 21) m a b ∧ ¬ bc b ≤ bc (nI s))) → gb1 (kC (I 18) (I 21) m a) c s b = nI s := fun h => if_pos h
        have no : ¬ (bc (nI s) ≤ c ∧ (kC (I 18) (I 21) m a b < kC (I 18) (I 21) m a (nI s) ∨ (kC (I 18) (I 21) m a (nI s) = kC (I 18) (I 21) m a b ∧ ¬ bc b ≤ bc (nI s)))) → gb1 (kC (I 18) (I 21) m a) c s b = b := fun h => if_neg h
        by_cases z1 : bc (nI s) ≤ c
        · rw [if_pos z1, k139]
          simp only [aBi]
          rw [b138_84, k135]
          simp only [aBi]
          rw [b138_87, nI_1]
          by_cases z2 : kC (I 18) (I 21) m a b < kC (I 18) (I 21) m a (nI s)
          · rw [if_pos z2, yes ⟨z1, Or.inl z2⟩]; exact ih (s + 1) _ _ _ (by omega)
          · rw [if_neg z2]
            by_cases z3 : kC (I 18) (I 21) m a (nI s) = kC (I 18) (I 21) m a b
            · rw [if_pos z3, f12]
              simp only [aBi]
              rw [b138_109, nI_1]
              by_cases z4 : bc b ≤ bc (nI s)
              · rw [if_pos z4, no (fun h => by rcases h.2 with h | h; exact z2 h; exact h.2 z4)]; exact ih (s + 1) _ _ _ (by omega)
              · rw [if_neg z4, yes ⟨z1, Or.inr ⟨z3, z4⟩⟩]; exact ih (s + 1) _ _ _ (by omega)
            · rw [if_neg z3, no (fun h => by rcases h.2 with h | h; exact z2 h; exact z3 h.1)]; exact ih (s + 1) _ _ _ (by omega)
        · rw [if_neg z1, nI_1, no (fun h => z1 h.1)]; exact ih (s + 1) _ _ _ (by omega)
    have lR : ∀ (I1 : Nat → Nat → Int32) (J1 : Nat → Nat → Int64), I1 46 4 = nI m → I1 50 = I 50 → ∀ (k s : Nat) (b : Int32) (w5 : Value), s + k = 512 → aE d 269 30 [.ref 46, .int a, .int c, .int b, .int (nI s), w5] [] (g, I1, J1, aP1 sl rd 56) = some (some (some (.int (kC (I 18) (I 21) m a (fo (gb1 (kC (I 18) (I 21) m a) c) k s b)))), (g, aU I1 46 12 2, aU (aU J1 53 0 (Int32.toInt64 (fo (gb1 (kC (I 18) (I 21) m a) c) k s b))) 53 1 (Int32.toInt64 (kI (I 21) m a (fo (gb1 (kC (I 18) (I 21) m a) c) k s b))), aP1 sl rd 56)) := by
      intro I1 J1 h4 h50 k
      have k270 : ∀ (I2 : Nat → Nat → Int32) (J2 : Nat → Nat → Int64) (s : Int32), I2 46 4 = nI m → I2 50 = I 50 → aF d 270 [.ref 46, .int a, .int s] (g, I2, J2, aP1 sl rd 56) = some (some (some (.int (kI (I 21) m a s))), (g, I2, J2, aP1 sl rd 56)) := by
        intro I2 J2 s g4 g50
        rw [f270 g4 hm, g50]
        congr 5
        exact bs_congr (fun i hi => by rw [(zQ_e H hi).2.2.2])
      have k216 : ∀ (I2 : Nat → Nat → Int32) (J2 : Nat → Nat → Int64) (s : Int32), I2 46 4 = nI m → I2 50 = I 50 → aF d 216 [.ref 46, .int (kI (I 21) m a s)] (g, I2, J2, aP1 sl rd 56) = some (some (some (.int (kC (I 18) (I 21) m a s))), (g, I2, J2, aP1 sl rd 56)) := by
        intro I2 J2 s g4 g50
        rw [f216 g4 hm, g50, crowds H]
        rfl
      induction k with
      | zero =>
        intro s b w5 hs
        obtain rfl : s = 512 := by omega
        have g4 : ∀ v, aU I1 46 12 v 46 4 = nI m := fun v => by rw [aU_i _ _ (by decide)]; exact h4
        have g50 : ∀ v, aU I1 46 12 v 50 = I 50 := fun v => by rw [aU_r _ _ (by decide)]; exact h50
        rw [b269_30, if_pos (by decide), tell0]
        simp only [aBv]
        rw [b269_116, k270 _ _ _ (g4 _) (g50 _)]
        simp only [aBi]
        rw [b269_123, tell1]
        simp only [aBv]
        rw [b269_127, k270 _ _ _ (g4 _) (g50 _)]
        simp only [aBi]
        rw [b269_134, k216 _ _ _ (g4 _) (g50 _)]
        simp only [aBi]
        rw [b269_137]
        rfl
      | succ k ih =>
        intro s b w5 hs
        rw [fo_1, b269_30, if_neg (show ¬ 512 ≤ nI s from nI_ge (b := 512) (by omega) (by decide)), f12]
        simp only [aBi]
        rw [b269_43]
        have yes : bc (nI s) ≤ c ∧ (kC (I 18) (I 21) m a b < kC (I 18) (I 21) m a (nI s) ∨ (kC (I 18) (I 21) m a (nI s) = kC (I 18) (I 21) m a b ∧ ¬ bc b ≤ bc (nI s))) → gb1 (kC (I 18) (I 21) m a) c s b = nI s := fun h => if_pos h
        have no : ¬ (bc (nI s) ≤ c ∧ (kC (I 18) (I 21) m a b < kC (I 18) (I 21) m a (nI s) ∨ (kC (I 18) (I 21) m a (nI s) = kC (I 18) (I 21) m a b ∧ ¬ bc b ≤ bc (nI s)))) → gb1 (kC (I 18) (I 21) m a) c s b = b := fun h => if_neg h
        by_cases z1 : bc (nI s) ≤ c
        · obtain ⟨x1, hx1, ex1⟩ := Crng (nI s)
          obtain ⟨x2, hx2, ex2⟩ := Crng b
          rw [if_pos z1, k270 _ _ _ h4 h50]
          simp only [aBi]
          rw [b269_58, k216 _ _ _ h4 h50]
          simp only [aBi]
          rw [b269_61, k270 _ _ _ h4 h50]
          simp only [aBi]
          rw [b269_68, k216 _ _ _ h4 h50]
          simp only [aBi]
          rw [b269_71, nI_1]
          have e1 : (0 < kC (I 18) (I 21) m a (nI s) - kC (I 18) (I 21) m a b) = (kC (I 18) (I 21) m a b < kC (I 18) (I 21) m a (nI s)) := by
            rw [ex1, ex2]; exact dif_pos0 (by omega) (by omega)
          have e2 : (kC (I 18) (I 21) m a (nI s) - kC (I 18) (I 21) m a b = 0) = (kC (I 18) (I 21) m a (nI s) = kC (I 18) (I 21) m a b) := by
            rw [ex1, ex2]; exact dif_zero (by omega) (by omega)
          by_cases z2 : kC (I 18) (I 21) m a b < kC (I 18) (I 21) m a (nI s)
          · rw [if_pos (e1.mpr z2), yes ⟨z1, Or.inl z2⟩]; exact ih (s + 1) _ _ (by omega)
          · rw [if_neg (fun h => z2 (e1.mp h))]
            by_cases z3 : kC (I 18) (I 21) m a (nI s) = kC (I 18) (I 21) m a b
            · rw [if_pos (e2.mpr z3), f12]
              simp only [aBi]
              rw [b269_89, f12]
              simp only [aBi]
              rw [b269_93, nI_1]
              by_cases z4 : bc b ≤ bc (nI s)
              · rw [if_pos z4, no (fun h => by rcases h.2 with h | h; exact z2 h; exact h.2 z4)]; exact ih (s + 1) _ _ (by omega)
              · rw [if_neg z4, yes ⟨z1, Or.inr ⟨z3, z4⟩⟩]; exact ih (s + 1) _ _ (by omega)
            · rw [if_neg (fun h => z3 (e2.mp h)), no (fun h => by rcases h.2 with h | h; exact z2 h; exact z3 h.1)]; exact ih (s + 1) _ _ (by omega)
        · rw [if_neg z1, nI_1, no (fun h => z1 h.1)]; exact ih (s + 1) _ _ (by omega)
    have e1 := lC 511 1 0 aNo aNo rfl
    have e2 := fun J1 => lR (aU (aU I 12 1 2) 46 13 0) J1 (by rw [aU_i _ _ (by decide), aU_r _ _ (by decide)]; exact d2) (by simp (disch := decide) only [aU_r]) 511 1 0 aNo rfl
    generalize fo (gb1 (kC (I 18) (I 21) m a) c) 511 1 0 = X at e1 e2
    have e3 := e2 (aU (aU J 13 0 (Int32.toInt64 X)) 13 1 (Int32.toInt64 (kI (I 21) m a X)))
    refine tie_R H (Fr12 _ _) (FrT (aU I 12 1 2) 2).1 (FrT (aU I 12 1 2) 2).2 ?_ (Eq.trans ?_ e1) (Eq.trans ?_ e3)
    · refine zR_2 ?_ (aU_s _ _ _ _) ?_ ?_
      · simp (disch := decide) only [aU_r, aU_s]
      · simp (disch := decide) only [aU_r, aU_i, aU_s]
      · simp (disch := decide) only [aU_r, aU_i, aU_s]
    · show aE d 138 0 [.ref 6, .int a, .int c, aNo, aNo, aNo, aNo, aNo] [] _ = _
      rw [b138_0, aq_c hm d1, decide_eq_true hx]
      simp only [aBi]
      rw [b138_8, if_neg (by decide), if_neg (fun h => hy (Or.inl h)), if_pos (Classical.byContradiction fun h => hy (Or.inr (by rw [← nle_lt]; exact h))), k139]
      simp only [aBi]
      rw [b138_38, k135]
      simp only [aBi]
      rw [b138_41]
      rfl
    · show aE d 269 0 [.ref 46, .int a, .int c, aNo, aNo, aNo] [] _ = _
      have c4 : aU (aU I 12 1 2) 46 13 0 46 4 = nI m := by rw [aU_i _ _ (by decide), aU_r _ _ (by decide)]; exact d2
      rw [b269_0, aq_r hm c4, decide_eq_true hx]
      simp only [aBi]
      rw [b269_10, if_neg (by decide), f181, inI_t (fun h => hy (Or.inl h)) (fun h => hy (Or.inr h))]
      simp only [aBi]
      rw [b269_20, if_neg (by decide)]
      rfl
  · refine tie_0 (rd2 := rd) (v := -1) H (Fr_r _ _) (th_F _) (th_46 _) ?_ ?_
    · show aE d 138 0 [.ref 6, .int a, .int c, aNo, aNo, aNo, aNo, aNo] [] _ = _
      rw [b138_0, aq_c hm d1, decide_eq_false hx]
      simp only [aBi]
      rw [b138_8, if_pos tI_f]
    · show aE d 269 0 [.ref 46, .int a, .int c, aNo, aNo, aNo] [] _ = _
      rw [b269_0, aq_r hm d2', decide_eq_false hx]
      simp only [aBi]
      rw [b269_10, if_pos tI_f]
/-! common -/
def co1 (g21 : Nat → Int32) (a : Int32) (i : Nat) (x : Int32 × Int32) : Int32 × Int32 := if hasT a (nI i) = true then (x.1 &&& g21 i, x.2 ||| g21 i) else x
theorem tie_common (H : zInv t n m q I J) (a : Int32) : tie d 140 271 [.int a] t g I J sl rd := by
  obtain ⟨hm, d1, d2, -⟩ := H.2.2.2.1
  by_cases hx : ∃ k, k < 2 ^ m ∧ a = nI k
  · have lC : ∀ (k s : Nat) (x : Int32 × Int32), s + k = m → aE d 140 22 [.ref 6, .int a, .int x.1, .int x.2, .int (nI s)] [] (g, I, J, aP1 sl rd 56) = some (some (some (.int (fo (co1 (I 21) a) k s x).1)), (g, aU I 12 1 1, aU J 13 0 (Int32.toInt64 (fo (co1 (I 21) a) k s x).2), aP1 sl rd 56)) := by
      intro k
      induction k with
      | zero =>
        intro s x hs
        obtain rfl : s = m := by omega
        rw [b140_22, if_pos (by rw [d1]; exact Int32.le_refl _), f83']
        simp only [aBv]
        rw [b140_84]
        rfl
      | succ k ih =>
        intro s x hs
        rw [fo_1, b140_22, if_neg (by rw [d1]; exact nI_ge (by omega) (by omega)), f93]
        simp only [aBi]
        rw [b140_40]
        unfold co1
        by_cases z : hasT a (nI s) = true
        · rw [z, if_neg (by decide), if_pos rfl]
          simp (disch := omega) only [aBi, aBv, aBl, nI_1, nIle_t, nIle_f, nIlt_t, nIlt_f, nIeq_t, nIeq_f, nIneg, nI_clamp, nat_le_f, nat_le_t, nat_lt_f, nat_lt_t, or_self, or_false, false_or, if_true, if_false, ↓reduceIte, Int32.or_zero, Int32.add_zero, nIm2, nIm3, nIm4, nIp2, nIp4, nIp6, nIp8, nIp14, nIp16, nIp22, nIp24, nIp30, nIq2, nIq3, nIq4, hasI_0, aU_s, aU_i, aU_r, aU_u]
          exact ih (s + 1) (x.1 &&& I 21 s, x.2 ||| I 21 s) (by omega)
        · have z : hasT a (nI s) = false := by simpa using z
          rw [z, if_pos tI_f, if_neg (by decide), nI_1]
          exact ih (s + 1) x (by omega)
    have lR : ∀ (I1 : Nat → Nat → Int32) (J1 : Nat → Nat → Int64), I1 46 4 = nI m → I1 50 = I 50 → ∀ (k s : Nat) (x : Int32 × Int32), s + k = m → aE d 271 24 [.ref 46, .int a, .int x.1, .int x.2, .int (nI s)] [] (g, I1, J1, aP1 sl rd 56) = some (some (some (.int (fo (co1 (I 21) a) k s x).1)), (g, aU I1 46 12 1, aU J1 53 0 (Int32.toInt64 (fo (co1 (I 21) a) k s x).2), aP1 sl rd 56)) := by
      intro I1 J1 h4 h50 k
      induction k with
      | zero =>
        intro s x hs
        obtain rfl : s = m := by omega
        rw [b271_24, if_pos (by rw [h4]; exact Int32.le_refl _), tell0]
        simp only [aBv]
        rw [b271_90]
        rfl
      | succ k ih =>
        intro s x hs
        rw [fo_1, b271_24, if_neg (by rw [h4]; exact nI_ge (by omega) (by omega)), f217]
        simp only [aBi]
        rw [b271_39]
        unfold co1
        by_cases z : hasT a (nI s) = true
        · rw [z, if_neg (by decide), if_pos rfl]
          have ix : (4 * nI s + 3) = nI (4 * s + 3) := by rw [nIm4]; exact nI_add _ 3
          simp (disch := omega) only [ix, h50, (zQ_e H (show s < m by omega)).2.2.2, aBi, aBv, aBl, nI_1, nIle_t, nIle_f, nIlt_t, nIlt_f, nIeq_t, nIeq_f, nIneg, nI_clamp, nat_le_f, nat_le_t, nat_lt_f, nat_lt_t, or_self, or_false, false_or, if_true, if_false, ↓reduceIte, Int32.or_zero, Int32.add_zero, nIm2, nIm3, nIm4, nIp2, nIp4, nIp6, nIp8, nIp14, nIp16, nIp22, nIp24, nIp30, nIq2, nIq3, nIq4, hasI_0, aU_s, aU_i, aU_r, aU_u]
          exact ih (s + 1) (x.1 &&& I 21 s, x.2 ||| I 21 s) (by omega)
        · have z : hasT a (nI s) = false := by simpa using z
          rw [z, if_pos tI_f, if_neg (by decide), nI_1]
          exact ih (s + 1) x (by omega)
    have e1 := lC m 0 (511, 0) (by omega)
    have e2 := fun J1 => lR (aU (aU I 12 1 1) 46 13 0) J1 (by rw [aU_i _ _ (by decide), aU_r _ _ (by decide)]; exact d2) (by simp (disch := decide) only [aU_r]) m 0 (511, 0) (by omega)
    generalize fo (co1 (I 21) a) m 0 (511, 0) = X at e1 e2
    have e3 := e2 (aU J 13 0 (Int32.toInt64 X.2))
    refine tie_R H (Fr12 _ _) (FrT (aU I 12 1 1) 1).1 (FrT (aU I 12 1 1) 1).2 ?_ (Eq.trans ?_ e1) (Eq.trans ?_ e3)
    · refine zR_1 ?_ (aU_s _ _ _ _) ?_
      · simp (disch := decide) only [aU_r, aU_s]
      · simp (disch := decide) only [aU_r, aU_i, aU_s]
    · show aE d 140 0 [.ref 6, .int a, aNo, aNo, aNo] [] _ = _
      rw [b140_0, aq_c hm d1, decide_eq_true hx]
      simp only [aBi]
      rw [b140_8, if_neg (by decide)]
      rfl
    · show aE d 271 0 [.ref 46, .int a, aNo, aNo, aNo] [] _ = _
      have c4 : aU (aU I 12 1 1) 46 13 0 46 4 = nI m := by rw [aU_i _ _ (by decide), aU_r _ _ (by decide)]; exact d2
      rw [b271_0, aq_r hm c4, decide_eq_true hx]
      simp only [aBi]
      rw [b271_10, if_neg (by decide)]
      rfl
  · refine tie_0 (rd2 := rd) (v := -1) H (Fr_r _ _) (th_F _) (th_46 _) ?_ ?_
    · show aE d 140 0 [.ref 6, .int a, aNo, aNo, aNo] [] _ = _
      rw [b140_0, aq_c hm d1, decide_eq_false hx]
      simp only [aBi]
      rw [b140_8, if_pos tI_f]
    · show aE d 271 0 [.ref 46, .int a, aNo, aNo, aNo] [] _ = _
      rw [b271_0, aq_r hm (by rw [aU_i _ _ (by decide)]; exact d2), decide_eq_false hx]
      simp only [aBi]
      rw [b271_10, if_pos tI_f]
/-! stable -/
def sb1 (S P : Int32 → Int32) (M : Int32) (L : Nat) (s : Nat) (b : Int32) : Int32 := if sub (nI s) (nI L) = true ∧ ¬ M < P (nI s) ∧ (S b < S (nI s) ∨ (S (nI s) = S b ∧ ¬ P b ≤ P (nI s))) then nI s else b
def sS (r : Nat → Int32) (n : Nat) (b : Int32) : Int32 := sm (fun i => hasT b (nI i)) (fun i => r i) n
theorem sS_0 (r : Nat → Int32) (n : Nat) : sS r n 0 = 0 := by
  unfold sS sm
  exact fo_id _ _ _ (fun j _ _ a => by simp only [hasT_0]; rfl)
theorem tie_stable (H : zInv t n m q I J) (a : Int32) : tie d 116 254 [.int a] t g I J sl rd := by
  obtain ⟨hn, d1, d2, d3⟩ := H.2.2.1
  have hS := H.2.2.2.2.2.2.1
  rcases isC_ix a with ha | ⟨c, hc, rfl⟩
  · refine tie_0 (rd2 := rd) (v := -1) H (Fr_r _ _) (th_F _) (th_46 _) ?_ ?_
    · show aE d 116 0 [.ref 6, .int a, aNo, aNo, aNo, aNo, aNo, aNo, aNo, aNo] [] _ = _
      rw [b116_0, f75]
      simp only [aBi]
      rw [b116_4, if_pos ha]
    · show aE d 254 0 [.ref 46, .int a, aNo, aNo, aNo, aNo] [] _ = _
      rw [b254_0, f213]
      simp only [aBi]
      rw [b254_9, if_pos ha]
  obtain ⟨L, hL, eL⟩ := bs_256 (fun i => decide (I 24 (8 + i) = nI (1 - c))) hn
  have Srng : ∀ s, ∃ k, k ≤ 99 * n ∧ sS (I 15) n s = nI k := fun s => sm_rng (fun i hi => (d3 i hi).2.2.2)
  have Prng : ∀ s, ∃ k, k ≤ 99 * n ∧ sS (I 16) n s = nI k := fun s => sm_rng (fun i hi => (d3 i hi).2.2.1)
  have f118' : ∀ s, aF d 118 [.ref 14, .int s] (g, I, J, aP1 sl rd 56) = some (some (some (.int (sS (I 15) n s))), (g, I, J, aP1 sl rd 56)) := fun s => f118 d1 hn s
  have f120' : ∀ s, aF d 120 [.ref 14, .int s] (g, I, J, aP1 sl rd 56) = some (some (some (.int (sS (I 16) n s))), (g, I, J, aP1 sl rd 56)) := fun s => f120 d1 hn s
  have lC : ∀ (k s : Nat) (b : Int32) (w7 w8 w9 : Value), s + k = 256 → aE d 116 35 [.ref 6, .int (nI c), .int (nI L), .int b, .int (sS (I 15) n b), .int (sS (I 16) n b), .int (nI s), w7, w8, w9] [] (g, I, J, aP1 sl rd 56) = some (some (some (.int (sS (I 15) n (fo (sb1 (sS (I 15) n) (sS (I 16) n) (I 24 c) L) k s b)))), (g, aU I 12 1 2, aU (aU J 13 0 (Int32.toInt64 (fo (sb1 (sS (I 15) n) (sS (I 16) n) (I 24 c) L) k s b))) 13 1 (Int32.toInt64 (sS (I 16) n (fo (sb1 (sS (I 15) n) (sS (I 16) n) (I 24 c) L) k s b))), aP1 sl rd 56)) := by
    intro k
    induction k with
    | zero =>
      intro s b w7 w8 w9 hs
      obtain rfl : s = 256 := by omega
      rw [b116_35, if_pos (by decide), f82]
      simp only [aBv]
      rw [b116_152]
      rfl
    | succ k ih =>
      intro s b w7 w8 w9 hs
      rw [fo_1, b116_35, if_neg (show ¬ 256 ≤ nI s from nI_ge (b := 256) (by omega) (by decide))]
      have yes : sub (nI s) (nI L) = true ∧ ¬ I 24 c < sS (I 16) n (nI s) ∧ (sS (I 15) n b < sS (I 15) n (nI s) ∨ (sS (I 15) n (nI s) = sS (I 15) n b ∧ ¬ sS (I 16) n b ≤ sS (I 16) n (nI s))) → sb1 (sS (I 15) n) (sS (I 16) n) (I 24 c) L s b = nI s := fun h => if_pos h
      have no : ¬ (sub (nI s) (nI L) = true ∧ ¬ I 24 c < sS (I 16) n (nI s) ∧ (sS (I 15) n b < sS (I 15) n (nI s) ∨ (sS (I 15) n (nI s) = sS (I 15) n b ∧ ¬ sS (I 16) n b ≤ sS (I 16) n (nI s)))) → sb1 (sS (I 15) n) (sS (I 16) n) (I 24 c) L s b = b := fun h => if_neg h
      by_cases hsub : sub (nI s) (nI L) = true
      · rw [if_pos ((sub_dec _ _).mpr hsub), f118']
        simp only [aBi]
        rw [b116_64, f120']
        simp only [aBi]
        rw [b116_75, f72_23 hc, nI_1]
        by_cases z2 : sS (I 15) n b < sS (I 15) n (nI s)
        · rw [if_pos z2]
          simp only [aBi]
          rw [b116_120, nI_1]
          by_cases z4 : I 24 c < sS (I 16) n (nI s)
          · rw [if_pos z4, no (fun h => h.2.1 z4)]; exact ih (s + 1) _ _ _ _ (by omega)
          · rw [if_neg z4, yes ⟨hsub, z4, Or.inl z2⟩]; exact ih (s + 1) _ _ _ _ (by omega)
        · rw [if_neg z2]
          by_cases z3 : sS (I 15) n (nI s) = sS (I 15) n b
          · rw [if_pos z3]
            by_cases z5 : sS (I 16) n b ≤ sS (I 16) n (nI s)
            · rw [if_pos z5, no (fun h => by rcases h.2.2 with h | h; exact z2 h; exact h.2 z5)]; exact ih (s + 1) _ _ _ _ (by omega)
            · rw [if_neg z5]
              simp only [aBi]
              rw [b116_120, nI_1]
              by_cases z4 : I 24 c < sS (I 16) n (nI s)
              · rw [if_pos z4, no (fun h => h.2.1 z4)]; exact ih (s + 1) _ _ _ _ (by omega)
              · rw [if_neg z4, yes ⟨hsub, z4, Or.inr ⟨z3, z5⟩⟩]; exact ih (s + 1) _ _ _ _ (by omega)
          · rw [if_neg z3, no (fun h => by rcases h.2.2 with h | h; exact z2 h; exact z3 h.1)]; exact ih (s + 1) _ _ _ _ (by omega)
      · rw [if_neg (fun h => hsub ((sub_dec _ _).mp h)), nI_1, no (fun h => hsub h.1)]
        exact ih (s + 1) _ _ _ _ (by omega)
  have lR : ∀ (I1 : Nat → Nat → Int32) (J1 : Nat → Nat → Int64), I1 46 1 = nI n → I1 47 = I 47 → I1 48 = I 48 → I1 49 = I 49 → ∀ (k s : Nat) (b : Int32) (w5 : Value), s + k = L + 1 → aE d 254 31 [.ref 46, .int (nI c), .int (nI L), .int b, .int (nI s), w5] [] (g, I1, J1, aP1 sl rd 56) = some (some (some (.int (sS (I 15) n (fo (sb1 (sS (I 15) n) (sS (I 16) n) (I 24 c) L) k s b)))), (g, aU I1 46 12 2, aU (aU J1 53 0 (Int32.toInt64 (fo (sb1 (sS (I 15) n) (sS (I 16) n) (I 24 c) L) k s b))) 53 1 (Int32.toInt64 (sS (I 16) n (fo (sb1 (sS (I 15) n) (sS (I 16) n) (I 24 c) L) k s b))), aP1 sl rd 56)) := by
    intro I1 J1 h1 h47 h48 h49 k
    have k48 : ∀ (I2 : Nat → Nat → Int32) (J2 : Nat → Nat → Int64) (s : Int32), I2 46 1 = nI n → I2 48 = I 48 → aF d 255 [.ref 46, .ref 48, .int s] (g, I2, J2, aP1 sl rd 56) = some (some (some (.int (sS (I 15) n s))), (g, I2, J2, aP1 sl rd 56)) := by
      intro I2 J2 s g1 g2
      rw [f255_48 g1 hn, g2]
      congr 5
      exact sm_congr (fun _ _ => rfl) (fun i hi => zD_s H i hi)
    have k49 : ∀ (I2 : Nat → Nat → Int32) (J2 : Nat → Nat → Int64) (s : Int32), I2 46 1 = nI n → I2 49 = I 49 → aF d 255 [.ref 46, .ref 49, .int s] (g, I2, J2, aP1 sl rd 56) = some (some (some (.int (sS (I 16) n s))), (g, I2, J2, aP1 sl rd 56)) := by
      intro I2 J2 s g1 g2
      rw [f255_49 g1 hn, g2]
      congr 5
      exact sm_congr (fun _ _ => rfl) (fun i hi => (zD_p H hi).1)
    induction k with
    | zero =>
      intro s b w5 hs
      obtain rfl : s = L + 1 := by omega
      have g1 : ∀ v, aU I1 46 12 v 46 1 = nI n := fun v => by rw [aU_i _ _ (by decide)]; exact h1
      have g8 : ∀ v, aU I1 46 12 v 48 = I 48 := fun v => by rw [aU_r _ _ (by decide)]; exact h48
      have g9 : ∀ v, aU I1 46 12 v 49 = I 49 := fun v => by rw [aU_r _ _ (by decide)]; exact h49
      rw [b254_31, if_pos (nI_lt (by omega) (by omega)), tell0]
      simp only [aBv]
      rw [b254_142, k49 _ _ _ (g1 _) (g9 _)]
      simp only [aBi]
      rw [b254_152, tell1]
      simp only [aBv]
      rw [b254_156, k48 _ _ _ (g1 _) (g8 _)]
      simp only [aBi]
      rw [b254_165]
      rfl
    | succ k ih =>
      intro s b w5 hs
      rw [fo_1, b254_31, if_neg (nI_nlt (by omega) (by omega))]
      have yes : sub (nI s) (nI L) = true ∧ ¬ I 24 c < sS (I 16) n (nI s) ∧ (sS (I 15) n b < sS (I 15) n (nI s) ∨ (sS (I 15) n (nI s) = sS (I 15) n b ∧ ¬ sS (I 16) n b ≤ sS (I 16) n (nI s))) → sb1 (sS (I 15) n) (sS (I 16) n) (I 24 c) L s b = nI s := fun h => if_pos h
      have no : ¬ (sub (nI s) (nI L) = true ∧ ¬ I 24 c < sS (I 16) n (nI s) ∧ (sS (I 15) n b < sS (I 15) n (nI s) ∨ (sS (I 15) n (nI s) = sS (I 15) n b ∧ ¬ sS (I 16) n b ≤ sS (I 16) n (nI s)))) → sb1 (sS (I 15) n) (sS (I 16) n) (I 24 c) L s b = b := fun h => if_neg h
      by_cases hsub : sub (nI s) (nI L) = true
      · rw [if_pos ((sub_dec _ _).mpr hsub), k49 _ _ _ h1 h49]
        simp only [aBi]
        rw [b254_56]
        simp (disch := omega) only [nIneg, nI_clamp, nat_le_f, or_self, if_false, h47, ← okS_c hS]
        rw [nI_1]
        by_cases z4 : sS (I 16) n (nI s) ≤ I 24 c
        · have z4' : ¬ I 24 c < sS (I 16) n (nI s) := by rw [← nle_lt]; exact fun h => h z4
          obtain ⟨x1, hx1, ex1⟩ := Srng (nI s)
          obtain ⟨x2, hx2, ex2⟩ := Srng b
          have e1 : (0 < sS (I 15) n (nI s) - sS (I 15) n b) = (sS (I 15) n b < sS (I 15) n (nI s)) := by
            rw [ex1, ex2]; exact dif_pos0 (by omega) (by omega)
          have e2 : (sS (I 15) n (nI s) - sS (I 15) n b = 0) = (sS (I 15) n (nI s) = sS (I 15) n b) := by
            rw [ex1, ex2]; exact dif_zero (by omega) (by omega)
          rw [if_pos z4, k48 _ _ _ h1 h48]
          simp only [aBi]
          rw [b254_78, k48 _ _ _ h1 h48]
          simp only [aBi]
          rw [b254_87, nI_1]
          by_cases z2 : sS (I 15) n b < sS (I 15) n (nI s)
          · rw [if_pos (e1.mpr z2), yes ⟨hsub, z4', Or.inl z2⟩]; exact ih (s + 1) _ _ (by omega)
          · rw [if_neg (fun h => z2 (e1.mp h))]
            by_cases z3 : sS (I 15) n (nI s) = sS (I 15) n b
            · rw [if_pos (e2.mpr z3), k49 _ _ _ h1 h49]
              simp only [aBi]
              rw [b254_110, k49 _ _ _ h1 h49]
              simp only [aBi]
              rw [b254_119, nI_1]
              by_cases z5 : sS (I 16) n b ≤ sS (I 16) n (nI s)
              · rw [if_pos z5, no (fun h => by rcases h.2.2 with h | h; exact z2 h; exact h.2 z5)]; exact ih (s + 1) _ _ (by omega)
              · rw [if_neg z5, yes ⟨hsub, z4', Or.inr ⟨z3, z5⟩⟩]; exact ih (s + 1) _ _ (by omega)
            · rw [if_neg (fun h => z3 (e2.mp h)), no (fun h => by rcases h.2.2 with h | h; exact z2 h; exact z3 h.1)]; exact ih (s + 1) _ _ (by omega)
        · rw [if_neg z4, no (fun h => h.2.1 (by rw [← nle_lt]; exact z4))]; exact ih (s + 1) _ _ (by omega)
      · rw [if_neg (fun h => hsub ((sub_dec _ _).mp h)), nI_1, no (fun h => hsub h.1)]
        exact ih (s + 1) _ _ (by omega)
  have cut : fo (sb1 (sS (I 15) n) (sS (I 16) n) (I 24 c) L) 255 1 0 = fo (sb1 (sS (I 15) n) (sS (I 16) n) (I 24 c) L) L 1 0 := fo_cut (M := 256) (i := 1) hL (by omega) _ (fun j h1 h2 a => by
    unfold sb1; rw [sub_no h1 (by omega), if_neg (fun h => absurd h.1 (by decide))])
  have e1 := lC 255 1 0 aNo aNo aNo rfl
  have e2 := fun J1 => lR (aU (aU I 12 1 2) 46 13 0) J1 (by rw [aU_i _ _ (by decide), aU_r _ _ (by decide)]; exact d2) (by simp (disch := decide) only [aU_r]) (by simp (disch := decide) only [aU_r]) (by simp (disch := decide) only [aU_r]) L 1 0 aNo (by omega)
  rw [cut] at e1
  generalize fo (sb1 (sS (I 15) n) (sS (I 16) n) (I 24 c) L) L 1 0 = X at e1 e2
  rw [sS_0, sS_0] at e1
  have e3 := e2 (aU (aU J 13 0 (Int32.toInt64 X)) 13 1 (Int32.toInt64 (sS (I 16) n X)))
  refine tie_R H (Fr12 _ _) (FrT (aU I 12 1 2) 2).1 (FrT (aU I 12 1 2) 2).2 ?_ (Eq.trans ?_ e1) (Eq.trans ?_ e3)
  · refine zR_2 ?_ (aU_s _ _ _ _) ?_ ?_
    · simp (disch := decide) only [aU_r, aU_s]
    · simp (disch := decide) only [aU_r, aU_i, aU_s]
    · simp (disch := decide) only [aU_r, aU_i, aU_s]
  · show aE d 116 0 [.ref 6, .int (nI c), aNo, aNo, aNo, aNo, aNo, aNo, aNo, aNo] [] _ = _
    rw [b116_0, f75]
    simp only [aBi]
    rw [b116_4, isC_n hc, if_neg (by decide), nI_1m hc, f117 d1 hn, eL]
    simp only [aBi]
    rw [b116_23]
    rfl
  · show aE d 254 0 [.ref 46, .int (nI c), aNo, aNo, aNo, aNo] [] _ = _
    rw [b254_0, f213]
    simp only [aBi]
    rw [b254_9, isC_n hc, if_neg (by decide), nI_1m hc, f214 (n := n) (by rw [aU_i _ _ (by decide), aU_r _ _ (by decide)]; exact d2) hn, aU_r _ _ (by decide), aU_r _ _ (by decide), bs_congr (q := fun i => decide (I 24 (8 + i) = nI (1 - c))) (fun i hi => by rw [okS_l hS (by omega)]), eL]
    simp only [aBi]
    rw [b254_25]
    rfl
end T00
