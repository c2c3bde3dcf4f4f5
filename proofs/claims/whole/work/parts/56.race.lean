/-! who is first; a race (the class) -/
variable {d : Nat} {g : Nat × Nat × Nat} {I : Nat → Nat → Int32} {J : Nat → Nat → Int64} {sl rd rl : Nat}
def fas1 (st : Nat → Int32) (wo : Int32) (i : Nat) (a : Int32 × Int32) : Int32 × Int32 := if hasT wo (nI i) = true then a else if a.1 = -1 then (nI i, st i) else if st i ≤ a.2 then a else (nI i, st i)
def fas (st : Nat → Int32) (wo : Int32) (n : Nat) : Int32 := (fo (fas1 st wo) n 0 (-1, 0)).1
def wn1 (st : Nat → Int32) (i b : Nat) : Nat := if st i ≤ st b then b else i
def wn (st : Nat → Int32) (n : Nat) : Nat := fo (wn1 st) (n - 1) 1 0
theorem hasT_0 (y : Int32) : hasT 0 y = false := by
  unfold hasT hasI
  have : ((0 : Int32) >>> (y &&& 31)) &&& 1 = 0 := by rw [Int32.zero_shiftRight]; rfl
  rw [this]; rfl
theorem nIm1 {i : Nat} (h : i < 8) : (nI i = -1) = False := eq_false (by rcases ix8c h with rfl | rfl | rfl | rfl | rfl | rfl | rfl | rfl <;> decide)
theorem wn_lt (st : Nat → Int32) {n : Nat} (h : 0 < n) : wn st n < n := by
  have e := fo_inv (P := fun j b => b < j) (f := wn1 st) (n - 1) 1 0 (by decide) (fun j b h1 h2 hb => by unfold wn1; split <;> omega)
  unfold wn
  omega
theorem fas_wn (st : Nat → Int32) {n : Nat} (h : 0 < n) (hn : n ≤ 8) : fas st 0 n = nI (wn st n) := by
  obtain ⟨m, rfl⟩ : ∃ m, n = m + 1 := ⟨n - 1, by omega⟩
  unfold fas wn
  rw [show fo (fas1 st 0) (m + 1) 0 (-1, 0) = fo (fas1 st 0) m 1 (nI 0, st 0) from by
    show fo (fas1 st 0) m 1 (fas1 st 0 0 (-1, 0)) = _
    unfold fas1; rw [hasT_0]; rfl]
  have e := fo_rel (P := fun j a b => b < j ∧ a = (nI b, st b)) (f := fas1 st 0) (h := wn1 st) m 1 (nI 0, st 0) 0 ⟨by decide, rfl⟩ (fun j a b h1 h2 hp => by
    obtain ⟨hb, rfl⟩ := hp
    unfold fas1 wn1
    simp only [hasT_0, nIm1 (show b < 8 by omega), if_false, Bool.false_eq_true]
    split
    · exact ⟨by omega, rfl⟩
    · exact ⟨by omega, rfl⟩)
  exact congrArg Prod.fst e.2
theorem fas_lt (st : Nat → Int32) (wo : Int32) {n : Nat} (hn : n ≤ 8) : fas st wo n = -1 ∨ ∃ i, i < n ∧ fas st wo n = nI i := by
  have e := fo_inv (P := fun j (a : Int32 × Int32) => a.1 = -1 ∨ ∃ i, i < j ∧ a.1 = nI i) (f := fas1 st wo) n 0 (-1, 0) (Or.inl rfl) (fun j a h1 h2 hp => by
    unfold fas1
    have hq : a.1 = -1 ∨ ∃ i, i < j + 1 ∧ a.1 = nI i := by
      rcases hp with hp | ⟨i, hi, hp⟩
      · exact Or.inl hp
      · exact Or.inr ⟨i, by omega, hp⟩
    (repeat' split) <;> first | exact hq | exact Or.inr ⟨j, by omega, rfl⟩)
  rw [Nat.zero_add] at e
  exact e
/-- all clubs are told -/
def clubs (f : Nat → Int32) (n : Nat) : Prop := ∀ i, i < n → ∃ k, k < 2 ∧ f i = nI k
/-- strengths -/
def sts (rv : (Nat → Int32) → Int32) (sk s : Nat → Int32) : Nat → Int32 := fun i => rv (th sk s i)
theorem aRR {α : Type} (f : Nat → Nat → α) {a b : Nat} (x y x' y' : Nat → α) (h : a ≠ b) : aR (aR (aR (aR f a x) b y) a x') b y' = aR (aR f a x') b y' := by
  rw [aR_c (aR f a x) y x' (Ne.symm h), aR_u, aR_u]
theorem f66 {m nd : Nat} {rv : (Nat → Int32) → Int32} (hR : cRule (I 34) m rv) (hs : I 33 1 = nI m) (h0 : I 14 0 = nI nd) (hn : nd ≤ 8) (hc : clubs (fun i => I 24 (8 + i)) nd) (wo : Int32) : ∃ x y, aF d 66 [.ref 33, .ref 14, .ref 23, .int wo] (g, I, J, aP1 sl rd rl) = some (some (some (.int (fas (sts rv (I 15) (cV (I 24))) wo nd))), (g, aR (aR I 35 x) 36 y, J, aP1 sl rd rl)) := by
  obtain ⟨w, _, e⟩ := lp (X := fun j (a : Int32 × Int32) (w : Value × (Nat → Int32) × (Nat → Int32)) => aE d 66 9 [.ref 33, .ref 14, .ref 23, .int wo, .int a.1, .int a.2, .int (nI j), w.1] [] (g, aR (aR I 35 w.2.1) 36 w.2.2, J, aP1 sl rd rl)) (f := fas1 (sts rv (I 15) (cV (I 24))) wo) (fun _ _ _ => True) nd 0 (-1, 0) (aNo, I 35, I 36) trivial (by
    intro j a w _ hj _
    obtain ⟨a1, a2⟩ := a
    obtain ⟨v, x, y⟩ := w
    obtain ⟨k, hk, hI⟩ := hc j (by omega)
    obtain ⟨x', y', e⟩ := f67 (d := d) (g := g) (I := aR (aR I 35 x) 36 y) (J := J) (sl := sl) (rd := rd) (rl := rl) (m := m) (i := j) (k := k) (nd := nd) (rv := rv) (by simp only [aR_r _ _ (show 34 ≠ 36 by decide), aR_r _ _ (show 34 ≠ 35 by decide)]; exact hR) (by simp only [aR_r _ _ (show 33 ≠ 36 by decide), aR_r _ _ (show 33 ≠ 35 by decide)]; exact hs) (by simp only [aR_r _ _ (show 14 ≠ 36 by decide), aR_r _ _ (show 14 ≠ 35 by decide)]; exact h0) hn (by omega) hk (by simp only [aR_r _ _ (show 24 ≠ 36 by decide), aR_r _ _ (show 24 ≠ 35 by decide)]; exact hI)
    rw [aRR _ _ _ _ _ (by decide)] at e
    simp only [aR_r _ _ (show 24 ≠ 36 by decide), aR_r _ _ (show 24 ≠ 35 by decide), aR_r _ _ (show 15 ≠ 36 by decide), aR_r _ _ (show 15 ≠ 35 by decide)] at e
    show ∃ s' : Value × (Nat → Int32) × (Nat → Int32), _ ∧ aE d 66 9 [.ref 33, .ref 14, .ref 23, .int wo, .int a1, .int a2, .int (nI j), v] [] (g, aR (aR I 35 x) 36 y, J, aP1 sl rd rl) = _
    rw [b66_9]
    simp (disch := omega) only [h0, aR_r, shr1', e, b66_39, aBi, aBv, aBl, nI_1, nIle_t, nIle_f, nIlt_t, nIlt_f, nIeq_t, nIeq_f, nIneg, nI_clamp, nat_le_f, nat_le_t, nat_lt_f, nat_lt_t, or_self, or_false, false_or, if_true, if_false, ↓reduceIte, Int32.or_zero, Int32.add_zero, nIm2, nIm3, nIm4, nIp2, nIp4, nIp6, nIp8, nIp14, nIp16, nIp22, nIp24, nIp30, nIq2, nIq3, nIq4, hasI_0, aU_s, aU_i, aU_r, aU_u]
    unfold fas1 sts
    by_cases h1 : hasT wo (nI j) = true
    · simp only [h1, if_true]
      exact ⟨(v, x, y), trivial, rfl⟩
    · simp only [h1, if_false]
      by_cases h2 : a1 = -1
      · simp only [h2, if_true]
        exact ⟨(_, x', y'), trivial, rfl⟩
      · simp only [h2, if_false]
        by_cases h3 : rv (th (I 15) (cV (I 24)) j) ≤ a2
        · simp only [h3, if_true]
          exact ⟨(_, x', y'), trivial, rfl⟩
        · simp only [h3, if_false]
          exact ⟨(_, x', y'), trivial, rfl⟩)
  refine ⟨w.2.1, w.2.2, ?_⟩
  show aE d 66 0 [.ref 33, .ref 14, .ref 23, .int wo, aNo, aNo, aNo, aNo] [] _ = _
  rw [b66_0]
  simp only [aR_i, show aR (aR I 35 (I 35)) 36 (I 36) = I from by rw [aR_i, aR_i]] at e
  refine e.trans ?_
  rw [b66_9]
  simp (disch := omega) only [h0, aR_r, Nat.zero_add, aBi, aBv, aBl, nI_1, nIle_t, nIle_f, nIlt_t, nIlt_f, nIeq_t, nIeq_f, nIneg, nI_clamp, nat_le_f, nat_le_t, nat_lt_f, nat_lt_t, or_self, or_false, false_or, if_true, if_false, ↓reduceIte, Int32.or_zero, Int32.add_zero, nIm2, nIm3, nIm4, nIp2, nIp4, nIp6, nIp8, nIp14, nIp16, nIp22, nIp24, nIp30, nIq2, nIq3, nIq4, hasI_0, aU_s, aU_i, aU_r, aU_u]
  rfl
theorem f66t {m nd : Nat} {rv : (Nat → Int32) → Int32} (hR : cRule (I 34) m rv) (hs : I 33 1 = nI m) (h0 : I 14 0 = nI nd) (hn : nd ≤ 8) (hc : clubs (fun i => I 28 (8 + i)) nd) (wo : Int32) : ∃ x y, aF d 66 [.ref 33, .ref 14, .ref 27, .int wo] (g, I, J, aP1 sl rd rl) = some (some (some (.int (fas (sts rv (I 15) (cV (I 28))) wo nd))), (g, aR (aR I 35 x) 36 y, J, aP1 sl rd rl)) := by
  obtain ⟨w, _, e⟩ := lp (X := fun j (a : Int32 × Int32) (w : Value × (Nat → Int32) × (Nat → Int32)) => aE d 66 9 [.ref 33, .ref 14, .ref 27, .int wo, .int a.1, .int a.2, .int (nI j), w.1] [] (g, aR (aR I 35 w.2.1) 36 w.2.2, J, aP1 sl rd rl)) (f := fas1 (sts rv (I 15) (cV (I 28))) wo) (fun _ _ _ => True) nd 0 (-1, 0) (aNo, I 35, I 36) trivial (by
    intro j a w _ hj _
    obtain ⟨a1, a2⟩ := a
    obtain ⟨v, x, y⟩ := w
    obtain ⟨k, hk, hI⟩ := hc j (by omega)
    obtain ⟨x', y', e⟩ := f67t (d := d) (g := g) (I := aR (aR I 35 x) 36 y) (J := J) (sl := sl) (rd := rd) (rl := rl) (m := m) (i := j) (k := k) (nd := nd) (rv := rv) (by simp only [aR_r _ _ (show 34 ≠ 36 by decide), aR_r _ _ (show 34 ≠ 35 by decide)]; exact hR) (by simp only [aR_r _ _ (show 33 ≠ 36 by decide), aR_r _ _ (show 33 ≠ 35 by decide)]; exact hs) (by simp only [aR_r _ _ (show 14 ≠ 36 by decide), aR_r _ _ (show 14 ≠ 35 by decide)]; exact h0) hn (by omega) hk (by simp only [aR_r _ _ (show 28 ≠ 36 by decide), aR_r _ _ (show 28 ≠ 35 by decide)]; exact hI)
    rw [aRR _ _ _ _ _ (by decide)] at e
    simp only [aR_r _ _ (show 28 ≠ 36 by decide), aR_r _ _ (show 28 ≠ 35 by decide), aR_r _ _ (show 15 ≠ 36 by decide), aR_r _ _ (show 15 ≠ 35 by decide)] at e
    show ∃ s' : Value × (Nat → Int32) × (Nat → Int32), _ ∧ aE d 66 9 [.ref 33, .ref 14, .ref 27, .int wo, .int a1, .int a2, .int (nI j), v] [] (g, aR (aR I 35 x) 36 y, J, aP1 sl rd rl) = _
    rw [b66_9_2]
    simp (disch := omega) only [h0, aR_r, shr1', e, b66_39_2, aBi, aBv, aBl, nI_1, nIle_t, nIle_f, nIlt_t, nIlt_f, nIeq_t, nIeq_f, nIneg, nI_clamp, nat_le_f, nat_le_t, nat_lt_f, nat_lt_t, or_self, or_false, false_or, if_true, if_false, ↓reduceIte, Int32.or_zero, Int32.add_zero, nIm2, nIm3, nIm4, nIp2, nIp4, nIp6, nIp8, nIp14, nIp16, nIp22, nIp24, nIp30, nIq2, nIq3, nIq4, hasI_0, aU_s, aU_i, aU_r, aU_u]
    unfold fas1 sts
    by_cases h1 : hasT wo (nI j) = true
    · simp only [h1, if_true]
      exact ⟨(v, x, y), trivial, rfl⟩
    · simp only [h1, if_false]
      by_cases h2 : a1 = -1
      · simp only [h2, if_true]
        exact ⟨(_, x', y'), trivial, rfl⟩
      · simp only [h2, if_false]
        by_cases h3 : rv (th (I 15) (cV (I 28)) j) ≤ a2
        · simp only [h3, if_true]
          exact ⟨(_, x', y'), trivial, rfl⟩
        · simp only [h3, if_false]
          exact ⟨(_, x', y'), trivial, rfl⟩)
  refine ⟨w.2.1, w.2.2, ?_⟩
  show aE d 66 0 [.ref 33, .ref 14, .ref 27, .int wo, aNo, aNo, aNo, aNo] [] _ = _
  rw [b66_0_2]
  simp only [aR_i, show aR (aR I 35 (I 35)) 36 (I 36) = I from by rw [aR_i, aR_i]] at e
  refine e.trans ?_
  rw [b66_9_2]
  simp (disch := omega) only [h0, aR_r, Nat.zero_add, aBi, aBv, aBl, nI_1, nIle_t, nIle_f, nIlt_t, nIlt_f, nIeq_t, nIeq_f, nIneg, nI_clamp, nat_le_f, nat_le_t, nat_lt_f, nat_lt_t, or_self, or_false, false_or, if_true, if_false, ↓reduceIte, Int32.or_zero, Int32.add_zero, nIm2, nIm3, nIm4, nIp2, nIp4, nIp6, nIp8, nIp14, nIp16, nIp22, nIp24, nIp30, nIq2, nIq3, nIq4, hasI_0, aU_s, aU_i, aU_r, aU_u]
  rfl
theorem f66o {m nd : Nat} {rv : (Nat → Int32) → Int32} (hR : cRule (I 38) m rv) (hs : I 37 1 = nI m) (h0 : I 14 0 = nI nd) (hn : nd ≤ 8) (hc : clubs (fun i => I 28 (8 + i)) nd) (wo : Int32) : ∃ x y, aF d 66 [.ref 37, .ref 14, .ref 27, .int wo] (g, I, J, aP1 sl rd rl) = some (some (some (.int (fas (sts rv (I 15) (cV (I 28))) wo nd))), (g, aR (aR I 39 x) 40 y, J, aP1 sl rd rl)) := by
  obtain ⟨w, _, e⟩ := lp (X := fun j (a : Int32 × Int32) (w : Value × (Nat → Int32) × (Nat → Int32)) => aE d 66 9 [.ref 37, .ref 14, .ref 27, .int wo, .int a.1, .int a.2, .int (nI j), w.1] [] (g, aR (aR I 39 w.2.1) 40 w.2.2, J, aP1 sl rd rl)) (f := fas1 (sts rv (I 15) (cV (I 28))) wo) (fun _ _ _ => True) nd 0 (-1, 0) (aNo, I 39, I 40) trivial (by
    intro j a w _ hj _
    obtain ⟨a1, a2⟩ := a
    obtain ⟨v, x, y⟩ := w
    obtain ⟨k, hk, hI⟩ := hc j (by omega)
    obtain ⟨x', y', e⟩ := f67o (d := d) (g := g) (I := aR (aR I 39 x) 40 y) (J := J) (sl := sl) (rd := rd) (rl := rl) (m := m) (i := j) (k := k) (nd := nd) (rv := rv) (by simp only [aR_r _ _ (show 38 ≠ 40 by decide), aR_r _ _ (show 38 ≠ 39 by decide)]; exact hR) (by simp only [aR_r _ _ (show 37 ≠ 40 by decide), aR_r _ _ (show 37 ≠ 39 by decide)]; exact hs) (by simp only [aR_r _ _ (show 14 ≠ 40 by decide), aR_r _ _ (show 14 ≠ 39 by decide)]; exact h0) hn (by omega) hk (by simp only [aR_r _ _ (show 28 ≠ 40 by decide), aR_r _ _ (show 28 ≠ 39 by decide)]; exact hI)
    rw [aRR _ _ _ _ _ (by decide)] at e
    simp only [aR_r _ _ (show 28 ≠ 40 by decide), aR_r _ _ (show 28 ≠ 39 by decide), aR_r _ _ (show 15 ≠ 40 by decide), aR_r _ _ (show 15 ≠ 39 by decide)] at e
    show ∃ s' : Value × (Nat → Int32) × (Nat → Int32), _ ∧ aE d 66 9 [.ref 37, .ref 14, .ref 27, .int wo, .int a1, .int a2, .int (nI j), v] [] (g, aR (aR I 39 x) 40 y, J, aP1 sl rd rl) = _
    rw [b66_9_3]
    simp (disch := omega) only [h0, aR_r, shr1', e, b66_39_3, aBi, aBv, aBl, nI_1, nIle_t, nIle_f, nIlt_t, nIlt_f, nIeq_t, nIeq_f, nIneg, nI_clamp, nat_le_f, nat_le_t, nat_lt_f, nat_lt_t, or_self, or_false, false_or, if_true, if_false, ↓reduceIte, Int32.or_zero, Int32.add_zero, nIm2, nIm3, nIm4, nIp2, nIp4, nIp6, nIp8, nIp14, nIp16, nIp22, nIp24, nIp30, nIq2, nIq3, nIq4, hasI_0, aU_s, aU_i, aU_r, aU_u]
    unfold fas1 sts
    by_cases h1 : hasT wo (nI j) = true
    · simp only [h1, if_true]
      exact ⟨(v, x, y), trivial, rfl⟩
    · simp only [h1, if_false]
      by_cases h2 : a1 = -1
      · simp only [h2, if_true]
        exact ⟨(_, x', y'), trivial, rfl⟩
      · simp only [h2, if_false]
        by_cases h3 : rv (th (I 15) (cV (I 28)) j) ≤ a2
        · simp only [h3, if_true]
          exact ⟨(_, x', y'), trivial, rfl⟩
        · simp only [h3, if_false]
          exact ⟨(_, x', y'), trivial, rfl⟩)
  refine ⟨w.2.1, w.2.2, ?_⟩
  show aE d 66 0 [.ref 37, .ref 14, .ref 27, .int wo, aNo, aNo, aNo, aNo] [] _ = _
  rw [b66_0_3]
  simp only [aR_i, show aR (aR I 39 (I 39)) 40 (I 40) = I from by rw [aR_i, aR_i]] at e
  refine e.trans ?_
  rw [b66_9_3]
  simp (disch := omega) only [h0, aR_r, Nat.zero_add, aBi, aBv, aBl, nI_1, nIle_t, nIle_f, nIlt_t, nIlt_f, nIeq_t, nIeq_f, nIneg, nI_clamp, nat_le_f, nat_le_t, nat_lt_f, nat_lt_t, or_self, or_false, false_or, if_true, if_false, ↓reduceIte, Int32.or_zero, Int32.add_zero, nIm2, nIm3, nIm4, nIp2, nIp4, nIp6, nIp8, nIp14, nIp16, nIp22, nIp24, nIp30, nIq2, nIq3, nIq4, hasI_0, aU_s, aU_i, aU_r, aU_u]
  rfl
def cRace (f : Nat → Int32) (i c : Nat) : Nat → Int32 :=
  let f2 := upd (upd f (16 + i) (f (16 + i) + 1)) (4 + c) (f (4 + c) + 1)
  let f5 := adA (adA (adM f2 c 10) (1 - c) 3) c (-1)
  upd f5 6 (f 6 + 1)
def rRace (f : Nat → Int32) (i c : Nat) : Nat → Int32 :=
  let f2 := upd (upd f (22 + i) (f (22 + i) + 1)) (4 + c) (f (4 + c) + 1)
  let f5 := adA (adA (adM f2 c 10) (1 - c) 3) c (-1)
  upd f5 38 (f 38 + 1)
theorem cRace_v (f : Nat → Int32) {i c : Nat} (hi : i < 8) (hc : c < 2) : cV (cRace f i c) = rRace (cV f) i c := by
  unfold cRace rRace
  simp only
  rw [cV_updr, cV_adA _ _ hc, cV_adA _ _ (by omega), cV_adM _ _ hc, cV_updc _ _ (by omega), cV_updw _ _ hi, cV_w _ hi, cV_c _ (by omega) (by omega), cV_r]
theorem rRace_r (f : Nat → Int32) {i c : Nat} (hi : i < 8) (hc : c < 2) : rV (rRace f i c) = rRace (rV f) i c := by
  unfold rRace
  simp only
  rw [rV_upd _ _ (by omega), rV_adA _ _ hc, rV_adA _ _ (by omega), rV_adM _ _ hc, rV_upd _ _ (by omega), rV_upd _ _ (by omega), rV_lt f (by omega), rV_lt f (by omega), rV_lt f (by omega)]
theorem f65 {m nd k : Nat} {rv : (Nat → Int32) → Int32} (hR : cRule (I 34) m rv) (hs : I 33 1 = nI m) (h0 : I 14 0 = nI nd) (hn : nd ≤ 8) (hd : 0 < nd) (hc : clubs (fun i => I 24 (8 + i)) nd) (hk : k < 2) (hI : I 24 (8 + wn (sts rv (I 15) (cV (I 24))) nd) = nI k) : ∃ x y, aF d 65 [.ref 23, .ref 14, .ref 33] (g, I, J, aP1 sl rd rl) = some (some (some (.int (nI (wn (sts rv (I 15) (cV (I 24))) nd)))), (g, aR (aR (aR I 24 (cRace (I 24) (wn (sts rv (I 15) (cV (I 24))) nd) k)) 35 x) 36 y, J, aP1 sl rd rl)) := by
  have hw := wn_lt (sts rv (I 15) (cV (I 24))) hd
  obtain ⟨x, y, e⟩ := f66 (d := d) (g := g) (I := I) (J := J) (sl := sl) (rd := rd) (rl := rl) hR hs h0 hn hc 0
  rw [fas_wn _ hd hn] at e
  generalize wn (sts rv (I 15) (cV (I 24))) nd = i at *
  refine ⟨x, y, ?_⟩
  show aE d 65 0 [.ref 23, .ref 14, .ref 33, aNo, aNo] [] _ = _
  have e1 (I : Nat → Nat → Int32) (v : Int32) : aF d 77 [.ref 23, .int (nI (1 - k)), .int v] (g, I, J, aP1 sl rd rl) = some (some none, (g, aR I 24 (adA (I 24) (1 - k) v), J, aP1 sl rd rl)) := f77_24 (by omega) v
  simp (disch := omega) only [b65_0, e, b65_7, f68_23, aR_r, hI, b65_13, f75, isC_n, b65_20, n10, nIp4, nIp16, f76_24, aU_R, aR_s, aR_u, b65_59, nI_1m, e1, b65_68, f77_24, b65_75, aBi, aBv, aBl, nI_1, nIle_t, nIle_f, nIlt_t, nIlt_f, nIeq_t, nIeq_f, nIneg, nI_clamp, nat_le_f, nat_le_t, nat_lt_f, nat_lt_t, or_self, or_false, false_or, if_true, if_false, ↓reduceIte, Int32.or_zero, Int32.add_zero, nIm2, nIm3, nIm4, nIp2, nIp4, nIp6, nIp8, nIp14, nIp16, nIp22, nIp24, nIp30, nIq2, nIq3, nIq4, hasI_0, aU_s, aU_i, aU_r, aU_u]
  unfold cRace
  simp only
  have e6 : ∀ q, adA (adA (adM (upd (upd (I 24) (16 + i) (I 24 (16 + i) + 1)) (4 + k) q) k 10) (1 - k) 3) k (-1) 6 = I 24 6 := by
    intro q
    unfold adA adM
    rw [upd_n _ _ (by omega), upd_n _ _ (by omega), upd_n _ _ (by omega), upd_n _ _ (by omega), upd_n _ _ (by omega)]
  rw [e6]
  rw [aR_c (aR I 35 x) y _ (by decide), aR_c I x _ (by decide)]
theorem f65t {m nd k : Nat} {rv : (Nat → Int32) → Int32} (hR : cRule (I 34) m rv) (hs : I 33 1 = nI m) (h0 : I 14 0 = nI nd) (hn : nd ≤ 8) (hd : 0 < nd) (hc : clubs (fun i => I 28 (8 + i)) nd) (hk : k < 2) (hI : I 28 (8 + wn (sts rv (I 15) (cV (I 28))) nd) = nI k) : ∃ x y, aF d 65 [.ref 27, .ref 14, .ref 33] (g, I, J, aP1 sl rd rl) = some (some (some (.int (nI (wn (sts rv (I 15) (cV (I 28))) nd)))), (g, aR (aR (aR I 28 (cRace (I 28) (wn (sts rv (I 15) (cV (I 28))) nd) k)) 35 x) 36 y, J, aP1 sl rd rl)) := by
  have hw := wn_lt (sts rv (I 15) (cV (I 28))) hd
  obtain ⟨x, y, e⟩ := f66t (d := d) (g := g) (I := I) (J := J) (sl := sl) (rd := rd) (rl := rl) hR hs h0 hn hc 0
  rw [fas_wn _ hd hn] at e
  generalize wn (sts rv (I 15) (cV (I 28))) nd = i at *
  refine ⟨x, y, ?_⟩
  show aE d 65 0 [.ref 27, .ref 14, .ref 33, aNo, aNo] [] _ = _
  have e1 (I : Nat → Nat → Int32) (v : Int32) : aF d 77 [.ref 27, .int (nI (1 - k)), .int v] (g, I, J, aP1 sl rd rl) = some (some none, (g, aR I 28 (adA (I 28) (1 - k) v), J, aP1 sl rd rl)) := f77_28 (by omega) v
  simp (disch := omega) only [b65_0_2, e, b65_7_2, f68_27, aR_r, hI, b65_13_2, f75, isC_n, b65_20_2, n10, nIp4, nIp16, f76_28, aU_R, aR_s, aR_u, b65_59_2, nI_1m, e1, b65_68_2, f77_28, b65_75_2, aBi, aBv, aBl, nI_1, nIle_t, nIle_f, nIlt_t, nIlt_f, nIeq_t, nIeq_f, nIneg, nI_clamp, nat_le_f, nat_le_t, nat_lt_f, nat_lt_t, or_self, or_false, false_or, if_true, if_false, ↓reduceIte, Int32.or_zero, Int32.add_zero, nIm2, nIm3, nIm4, nIp2, nIp4, nIp6, nIp8, nIp14, nIp16, nIp22, nIp24, nIp30, nIq2, nIq3, nIq4, hasI_0, aU_s, aU_i, aU_r, aU_u]
  unfold cRace
  simp only
  have e6 : ∀ q, adA (adA (adM (upd (upd (I 28) (16 + i) (I 28 (16 + i) + 1)) (4 + k) q) k 10) (1 - k) 3) k (-1) 6 = I 28 6 := by
    intro q
    unfold adA adM
    rw [upd_n _ _ (by omega), upd_n _ _ (by omega), upd_n _ _ (by omega), upd_n _ _ (by omega), upd_n _ _ (by omega)]
  rw [e6]
  rw [aR_c (aR I 35 x) y _ (by decide), aR_c I x _ (by decide)]
theorem f65o {m nd k : Nat} {rv : (Nat → Int32) → Int32} (hR : cRule (I 38) m rv) (hs : I 37 1 = nI m) (h0 : I 14 0 = nI nd) (hn : nd ≤ 8) (hd : 0 < nd) (hc : clubs (fun i => I 28 (8 + i)) nd) (hk : k < 2) (hI : I 28 (8 + wn (sts rv (I 15) (cV (I 28))) nd) = nI k) : ∃ x y, aF d 65 [.ref 27, .ref 14, .ref 37] (g, I, J, aP1 sl rd rl) = some (some (some (.int (nI (wn (sts rv (I 15) (cV (I 28))) nd)))), (g, aR (aR (aR I 28 (cRace (I 28) (wn (sts rv (I 15) (cV (I 28))) nd) k)) 39 x) 40 y, J, aP1 sl rd rl)) := by
  have hw := wn_lt (sts rv (I 15) (cV (I 28))) hd
  obtain ⟨x, y, e⟩ := f66o (d := d) (g := g) (I := I) (J := J) (sl := sl) (rd := rd) (rl := rl) hR hs h0 hn hc 0
  rw [fas_wn _ hd hn] at e
  generalize wn (sts rv (I 15) (cV (I 28))) nd = i at *
  refine ⟨x, y, ?_⟩
  show aE d 65 0 [.ref 27, .ref 14, .ref 37, aNo, aNo] [] _ = _
  have e1 (I : Nat → Nat → Int32) (v : Int32) : aF d 77 [.ref 27, .int (nI (1 - k)), .int v] (g, I, J, aP1 sl rd rl) = some (some none, (g, aR I 28 (adA (I 28) (1 - k) v), J, aP1 sl rd rl)) := f77_28 (by omega) v
  simp (disch := omega) only [b65_0_3, e, b65_7_3, f68_27, aR_r, hI, b65_13_3, f75, isC_n, b65_20_3, n10, nIp4, nIp16, f76_28, aU_R, aR_s, aR_u, b65_59_3, nI_1m, e1, b65_68_3, f77_28, b65_75_3, aBi, aBv, aBl, nI_1, nIle_t, nIle_f, nIlt_t, nIlt_f, nIeq_t, nIeq_f, nIneg, nI_clamp, nat_le_f, nat_le_t, nat_lt_f, nat_lt_t, or_self, or_false, false_or, if_true, if_false, ↓reduceIte, Int32.or_zero, Int32.add_zero, nIm2, nIm3, nIm4, nIp2, nIp4, nIp6, nIp8, nIp14, nIp16, nIp22, nIp24, nIp30, nIq2, nIq3, nIq4, hasI_0, aU_s, aU_i, aU_r, aU_u]
  unfold cRace
  simp only
  have e6 : ∀ q, adA (adA (adM (upd (upd (I 28) (16 + i) (I 28 (16 + i) + 1)) (4 + k) q) k 10) (1 - k) 3) k (-1) 6 = I 28 6 := by
    intro q
    unfold adA adM
    rw [upd_n _ _ (by omega), upd_n _ _ (by omega), upd_n _ _ (by omega), upd_n _ _ (by omega), upd_n _ _ (by omega)]
  rw [e6]
  rw [aR_c (aR I 39 x) y _ (by decide), aR_c I x _ (by decide)]
