/-! signs read one by one: both sides -/
variable {d : Nat} {g : Nat × Nat × Nat} {I : Nat → Nat → Int32} {J : Nat → Nat → Int64} {sl rd rl : Nat}
def pk (sg : Nat → Int32) (p : Nat × Int32) : Int32 := if p.2 = -1 then sg p.1 else -1
def flt (p : Nat × Int32) (x : Int32) : Nat × Int32 := if p.2 = -1 then (p.1, x) else p
def adv (p : Nat × Int32) : Nat × Int32 := (p.1 + 1, p.2)
def tk (sg : Nat → Int32) (lo hi : Int32) (p : Nat × Int32) : Int32 × (Nat × Int32) := if pk sg p < lo then (lo, flt p (nI p.1)) else if pk sg p ≤ hi then (pk sg p, adv p) else (lo, flt p (nI p.1))
def nmL (sg : Nat → Int32) : Nat → Int32 → Nat × Int32 → Int32 × (Nat × Int32)
  | 0, v, p => (v, p)
  | m + 1, v, p => if pk sg p < 48 then (v, p) else if pk sg p ≤ 57 then nmL sg m (v * 10 + pk sg p - 48) (adv p) else (v, p)
def nm (sg : Nat → Int32) (m : Nat) (p : Nat × Int32) : Int32 × (Nat × Int32) := nmL sg m ((tk sg 48 57 p).1 - 48) (tk sg 48 57 p).2
def ps (sg : Nat → Int32) (c : Int32) (p : Nat × Int32) : Nat × Int32 := if pk sg p = c then adv p else p
def nd (sg : Nat → Int32) (c : Int32) (p : Nat × Int32) : Nat × Int32 := if pk sg p = c then adv p else flt p (nI p.1)
/-- signs of the class's text, of the reference's -/
def sgc (row : Nat → Int32) (len top : Nat) : Nat → Int32 := fun a => if a < len ∧ a < top then row a else -1
def sgn (row : Nat → Int32) (len top : Nat) : Nat → Int32 := fun a => if a < len ∧ a < top then row a &&& 255 else -1
/-- nothing behind 80 -/
def sgE (sg : Nat → Int32) (n : Nat) : Prop := ∀ a, n ≤ a → sg a = -1
theorem flt_1 (p : Nat × Int32) (x : Int32) : (flt p x).1 = p.1 := by unfold flt; split <;> rfl
theorem pk_at {sg : Nat → Int32} {n : Nat} (h : sgE sg n) {p : Nat × Int32} (hp : ¬ pk sg p = -1) : p.1 < n := by
  unfold pk at hp
  split at hp
  · apply Classical.byContradiction; intro q; exact hp (h _ (by omega))
  · exact absurd rfl hp
theorem pk_ge {sg : Nat → Int32} {n : Nat} (h : sgE sg n) {p : Nat × Int32} {lo : Int32} (hlo : 0 ≤ lo) (hp : ¬ pk sg p < lo) : p.1 < n := by
  refine pk_at h (fun q => hp ?_)
  rw [q]
  rw [Int32.lt_iff_toInt_lt]
  rw [Int32.le_iff_toInt_le] at hlo
  have : (0 : Int32).toInt = 0 := rfl
  have : (-1 : Int32).toInt = -1 := rfl
  omega
theorem tk_at {sg : Nat → Int32} {n : Nat} (h : sgE sg n) {lo hi : Int32} (hlo : 0 ≤ lo) {p : Nat × Int32} (hp : p.1 ≤ n) : p.1 ≤ (tk sg lo hi p).2.1 ∧ (tk sg lo hi p).2.1 ≤ n := by
  unfold tk
  split
  · rw [flt_1]; exact ⟨Nat.le_refl _, hp⟩
  · rename_i q
    split
    · have := pk_ge h hlo q
      exact ⟨Nat.le_succ _, this⟩
    · rw [flt_1]; exact ⟨Nat.le_refl _, hp⟩
theorem nmL_at {sg : Nat → Int32} {n : Nat} (h : sgE sg n) : ∀ (m : Nat) (v : Int32) (p : Nat × Int32), p.1 ≤ n → p.1 ≤ (nmL sg m v p).2.1 ∧ (nmL sg m v p).2.1 ≤ n := by
  intro m
  induction m with
  | zero => intro v p hp; exact ⟨Nat.le_refl _, hp⟩
  | succ m ih =>
    intro v p hp
    unfold nmL
    split
    · exact ⟨Nat.le_refl _, hp⟩
    · rename_i q
      split
      · have h1 := pk_ge h (by decide) q
        have h2 := ih (v * 10 + pk sg p - 48) (adv p) h1
        exact ⟨Nat.le_trans (Nat.le_succ _) h2.1, h2.2⟩
      · exact ⟨Nat.le_refl _, hp⟩
theorem nm_at {sg : Nat → Int32} {n : Nat} (h : sgE sg n) (m : Nat) {p : Nat × Int32} (hp : p.1 ≤ n) : p.1 ≤ (nm sg m p).2.1 ∧ (nm sg m p).2.1 ≤ n := by
  have h1 := tk_at h (lo := 48) (hi := 57) (by decide) hp
  have h2 := nmL_at h m ((tk sg 48 57 p).1 - 48) _ h1.2
  exact ⟨Nat.le_trans h1.1 h2.1, h2.2⟩
theorem ps_at {sg : Nat → Int32} {n : Nat} (h : sgE sg n) {c : Int32} (hc : 0 ≤ c) {p : Nat × Int32} (hp : p.1 ≤ n) : p.1 ≤ (ps sg c p).1 ∧ (ps sg c p).1 ≤ n := by
  unfold ps
  split
  · rename_i q
    have := pk_at h (p := p) (by rw [q]; intro e; rw [e] at hc; exact absurd hc (by decide))
    exact ⟨Nat.le_succ _, this⟩
  · exact ⟨Nat.le_refl _, hp⟩
theorem nd_at {sg : Nat → Int32} {n : Nat} (h : sgE sg n) {c : Int32} (hc : 0 ≤ c) {p : Nat × Int32} (hp : p.1 ≤ n) : p.1 ≤ (nd sg c p).1 ∧ (nd sg c p).1 ≤ n := by
  unfold nd
  split
  · rename_i q
    have := pk_at h (p := p) (by rw [q]; intro e; rw [e] at hc; exact absurd hc (by decide))
    exact ⟨Nat.le_succ _, this⟩
  · rw [flt_1]; exact ⟨Nat.le_refl _, hp⟩
theorem sgc_E (row : Nat → Int32) (len top : Nat) : sgE (sgc row len top) top := fun a h => if_neg (by omega)
theorem sgn_E (row : Nat → Int32) (len top : Nat) : sgE (sgn row len top) top := fun a h => if_neg (by omega)
/-! the class -/
def pC (I : Nat → Nat → Int32) (p : Nat × Int32) : Nat → Nat → Int32 := aR I 9 (upd (upd (I 9) 2 (nI p.1)) 3 p.2)
theorem pC_2 (I : Nat → Nat → Int32) (p : Nat × Int32) : pC I p 9 2 = nI p.1 := rfl
theorem pC_3 (I : Nat → Nat → Int32) (p : Nat × Int32) : pC I p 9 3 = p.2 := rfl
theorem pC_1 (I : Nat → Nat → Int32) (p : Nat × Int32) : pC I p 9 1 = I 9 1 := rfl
theorem pC_r (I : Nat → Nat → Int32) (p : Nat × Int32) {a : Nat} (h : a ≠ 9) : pC I p a = I a := aR_r _ _ h
theorem pC_u2 (I : Nat → Nat → Int32) (p : Nat × Int32) (n : Nat) : aU (pC I p) 9 2 (nI n) = pC I (n, p.2) := by
  unfold pC
  rw [aU_R, aR_s, aR_u, upd_c _ _ _ (by decide), upd_u]
theorem pC_u3 (I : Nat → Nat → Int32) (p : Nat × Int32) (x : Int32) : aU (pC I p) 9 3 x = pC I (p.1, x) := by
  unfold pC
  rw [aU_R, aR_s, aR_u, upd_u]
theorem f30 {p : Nat × Int32} {len top : Nat} (hm : I 9 1 = nI top) (hl : I 7 1 = nI len) (h1 : len ≤ 80) (h2 : top ≤ 80) (hp : p.1 ≤ 80) : aF d 30 [.ref 9] (g, pC I p, J, aP1 sl rd rl) = some (some (some (.int (pk (sgc (I 8) len top) p))), (g, pC I p, J, aP1 sl rd rl)) := by
  show aE d 30 0 [.ref 9, aNo] [] _ = _
  rw [b30_0, pC_2, pC_3, pC_1, pC_r _ _ (by decide), pC_r _ _ (by decide), hm, hl]
  unfold pk sgc
  by_cases e1 : p.2 = -1
  · rw [if_pos e1, if_pos e1]
    by_cases e2 : top ≤ p.1
    · rw [if_neg (show ¬ (p.1 < len ∧ p.1 < top) by omega)]
      simp (disch := omega) only [aBi, aBv, aBl, nI_1, nIle_t, nIle_f, nIlt_t, nIlt_f, nIeq_t, nIeq_f, nIneg, nI_clamp, nat_le_f, nat_le_t, nat_lt_f, nat_lt_t, or_self, or_false, false_or, if_true, if_false, ↓reduceIte, Int32.or_zero, Int32.add_zero, nIm2, nIm3, nIm4, nIp2, nIp4, nIp6, nIp8, nIp14, nIp16, nIp22, nIp24, nIp30, nIq2, nIq3, nIq4, hasI_0, aU_s, aU_i, aU_r, aU_u]
    · by_cases e3 : p.1 < len
      · rw [if_pos (show p.1 < len ∧ p.1 < top by omega)]
        simp (disch := omega) only [kgf80, kgt80, klt80, klf80, kmt80, kmf80, kat80, kaf80, ket80, kef80, aBi, aBv, aBl, nI_1, nIle_t, nIle_f, nIlt_t, nIlt_f, nIeq_t, nIeq_f, nIneg, nI_clamp, nat_le_f, nat_le_t, nat_lt_f, nat_lt_t, or_self, or_false, false_or, if_true, if_false, ↓reduceIte, Int32.or_zero, Int32.add_zero, nIm2, nIm3, nIm4, nIp2, nIp4, nIp6, nIp8, nIp14, nIp16, nIp22, nIp24, nIp30, nIq2, nIq3, nIq4, hasI_0, aU_s, aU_i, aU_r, aU_u]
      · rw [if_neg (show ¬ (p.1 < len ∧ p.1 < top) by omega)]
        simp (disch := omega) only [aBi, aBv, aBl, nI_1, nIle_t, nIle_f, nIlt_t, nIlt_f, nIeq_t, nIeq_f, nIneg, nI_clamp, nat_le_f, nat_le_t, nat_lt_f, nat_lt_t, or_self, or_false, false_or, if_true, if_false, ↓reduceIte, Int32.or_zero, Int32.add_zero, nIm2, nIm3, nIm4, nIp2, nIp4, nIp6, nIp8, nIp14, nIp16, nIp22, nIp24, nIp30, nIq2, nIq3, nIq4, hasI_0, aU_s, aU_i, aU_r, aU_u]
  · rw [if_neg e1, if_neg e1]
theorem f33 (p : Nat × Int32) : aF d 33 [.ref 9] (g, pC I p, J, aP1 sl rd rl) = some (some none, (g, pC I (adv p), J, aP1 sl rd rl)) := by
  show aE d 33 0 [.ref 9] [] _ = _
  rw [b33_0, pC_2, nI_1, pC_u2]
  rfl
theorem f37 (p : Nat × Int32) (x : Int32) : aF d 37 [.ref 9, .int x] (g, pC I p, J, aP1 sl rd rl) = some (some none, (g, pC I (flt p x), J, aP1 sl rd rl)) := by
  show aE d 37 0 [.ref 9, .int x] [] _ = _
  rw [b37_0, pC_3, pC_u3]
  unfold flt
  split <;> rfl
theorem f29 (m : Int32) : aF d 29 [.ref 9, .int m] (g, I, J, aP1 sl rd rl) = some (some none, (g, pC (aU I 9 1 m) (0, -1), J, aP1 sl rd rl)) := by
  show aE d 29 0 [.ref 9, .int m] [] _ = _
  rw [b29_0]
  unfold pC
  rw [aU_R _ 9 3, aU_R _ 9 2, aR_s, aR_u]
  rfl
theorem f36 {p : Nat × Int32} {len top : Nat} (hm : I 9 1 = nI top) (hl : I 7 1 = nI len) (h1 : len ≤ 80) (h2 : top ≤ 80) (hp : p.1 ≤ 80) (lo hi : Int32) : aF d 36 [.ref 9, .int lo, .int hi] (g, pC I p, J, aP1 sl rd rl) = some (some (some (.int (tk (sgc (I 8) len top) lo hi p).1)), (g, pC I (tk (sgc (I 8) len top) lo hi p).2, J, aP1 sl rd rl)) := by
  show aE d 36 0 [.ref 9, .int lo, .int hi, aNo] [] _ = _
  simp only [b36_0, f30 hm hl h1 h2 hp, aBi, b36_4, pC_2, f37, f33, aBv, b36_23, b36_29]
  unfold tk
  (repeat' split) <;> rfl
theorem f35 {p : Nat × Int32} {len top m : Nat} (hm : I 9 1 = nI top) (hl : I 7 1 = nI len) (h1 : len ≤ 80) (h2 : top ≤ 80) (hp : p.1 ≤ top) (hm2 : m < 8) : aF d 35 [.ref 9, .int (nI (m + 1))] (g, pC I p, J, aP1 sl rd rl) = some (some (some (.int (nm (sgc (I 8) len top) m p).1)), (g, pC I (nm (sgc (I 8) len top) m p).2, J, aP1 sl rd rl)) := by
  show aE d 35 0 [.ref 9, .int (nI (m + 1)), aNo, aNo, aNo] [] _ = _
  simp only [b35_0, f36 hm hl h1 h2 (show p.1 ≤ 80 by omega), aBi, b35_8]
  have l : ∀ (k i : Nat) (v : Int32) (p : Nat × Int32) (w : Value), p.1 ≤ top → i + k = m + 1 → aE d 35 14 [.ref 9, .int (nI (m + 1)), .int v, .int (nI i), w] [] (g, pC I p, J, aP1 sl rd rl) = some (some (some (.int (nmL (sgc (I 8) len top) k v p).1)), (g, pC I (nmL (sgc (I 8) len top) k v p).2, J, aP1 sl rd rl)) := by
    intro k
    induction k with
    | zero =>
      intro i v p w hp hi
      rw [b35_14]
      simp (disch := omega) only [aBi, aBv, aBl, nI_1, nIle_t, nIle_f, nIlt_t, nIlt_f, nIeq_t, nIeq_f, nIneg, nI_clamp, nat_le_f, nat_le_t, nat_lt_f, nat_lt_t, or_self, or_false, false_or, if_true, if_false, ↓reduceIte, Int32.or_zero, Int32.add_zero, nIm2, nIm3, nIm4, nIp2, nIp4, nIp6, nIp8, nIp14, nIp16, nIp22, nIp24, nIp30, nIq2, nIq3, nIq4, hasI_0, aU_s, aU_i, aU_r, aU_u]
      rfl
    | succ k ih =>
      intro i v p w hp hi
      rw [b35_14]
      simp (disch := omega) only [f30 hm hl h1 h2 (show p.1 ≤ 80 by omega), b35_23, f33, b35_46, aBi, aBv, aBl, nI_1, nIle_t, nIle_f, nIlt_t, nIlt_f, nIeq_t, nIeq_f, nIneg, nI_clamp, nat_le_f, nat_le_t, nat_lt_f, nat_lt_t, or_self, or_false, false_or, if_true, if_false, ↓reduceIte, Int32.or_zero, Int32.add_zero, nIm2, nIm3, nIm4, nIp2, nIp4, nIp6, nIp8, nIp14, nIp16, nIp22, nIp24, nIp30, nIq2, nIq3, nIq4, hasI_0, aU_s, aU_i, aU_r, aU_u]
      unfold nmL
      by_cases e1 : pk (sgc (I 8) len top) p < 48
      · rw [if_pos e1, if_pos e1]
      · rw [if_neg e1, if_neg e1]
        by_cases e2 : pk (sgc (I 8) len top) p ≤ 57
        · rw [if_pos e2, if_pos e2]
          exact ih (i + 1) _ _ _ (pk_ge (sgc_E _ _ _) (by decide) e1) (by omega)
        · rw [if_neg e2, if_neg e2]
  exact l m 1 _ _ _ (tk_at (sgc_E _ _ _) (by decide) hp).2 (by omega)
/-! the reference -/
def pM (I : Nat → Nat → Int32) (p : Nat × Int32) : Nat → Nat → Int32 := aR I 46 (upd (upd (I 46) 17 (nI p.1)) 18 p.2)
theorem pM_17 (I : Nat → Nat → Int32) (p : Nat × Int32) : pM I p 46 17 = nI p.1 := rfl
theorem pM_18 (I : Nat → Nat → Int32) (p : Nat × Int32) : pM I p 46 18 = p.2 := rfl
theorem pM_o (I : Nat → Nat → Int32) (p : Nat × Int32) {k : Nat} (h : k ≠ 17) (h2 : k ≠ 18) : pM I p 46 k = I 46 k := by
  unfold pM; rw [aR_s, upd_n _ _ h2, upd_n _ _ h]
theorem pM_r (I : Nat → Nat → Int32) (p : Nat × Int32) {a : Nat} (h : a ≠ 46) : pM I p a = I a := aR_r _ _ h
theorem pM_u17 (I : Nat → Nat → Int32) (p : Nat × Int32) (n : Nat) : aU (pM I p) 46 17 (nI n) = pM I (n, p.2) := by
  unfold pM
  rw [aU_R, aR_s, aR_u, upd_c _ _ _ (by decide), upd_u]
theorem pM_u18 (I : Nat → Nat → Int32) (p : Nat × Int32) (x : Int32) : aU (pM I p) 46 18 x = pM I (p.1, x) := by
  unfold pM
  rw [aU_R, aR_s, aR_u, upd_u]
theorem f185 (p : Nat × Int32) : aF d 185 [.ref 46] (g, pM I p, J, aP1 sl rd rl) = some (some (some (.int (tI (decide (p.2 = -1))))), (g, pM I p, J, aP1 sl rd rl)) := by
  show aE d 185 0 [.ref 46] [] _ = _
  rw [b185_0, pM_18]
  by_cases h : p.2 = -1
  · rw [if_pos h, decide_eq_true h]; rfl
  · rw [if_neg h, decide_eq_false h]; rfl
theorem f186 (p : Nat × Int32) (x : Int32) : aF d 186 [.ref 46, .int x] (g, pM I p, J, aP1 sl rd rl) = some (some none, (g, pM I (flt p x), J, aP1 sl rd rl)) := by
  show aE d 186 0 [.ref 46, .int x] [] _ = _
  simp only [b186_0, f185, aBi, b186_4, tI_0, pM_u18]
  unfold flt
  by_cases h : p.2 = -1
  · rw [if_pos h, if_neg (by simp [h])]
  · rw [if_neg h, if_pos (by simp [h])]
/-- rows of bytes -/
def byR (row : Nat → Int32) : Prop := ∀ k, (row k &&& 255) < 128 → row k &&& 255 = row k
theorem int_lt {a b : Int32} : a < b ↔ a.toInt < b.toInt := Int32.lt_iff_toInt_lt
theorem int_le {a b : Int32} : a ≤ b ↔ a.toInt ≤ b.toInt := Int32.le_iff_toInt_le
theorem f188_52 {p : Nat × Int32} {len top : Nat} (hl : I 46 15 = nI len) (ht : I 46 16 = nI top) (h1 : len ≤ 80) (h2 : top ≤ 80) (hp : p.1 ≤ 80) : aF d 188 [.ref 46] (g, pM I p, J, aP1 sl 53 rl) = some (some (some (.int (sgn (I 52) len top p.1))), (g, pM I p, J, aP1 sl 53 rl)) := by
  show aE d 188 0 [.ref 46] [] _ = _
  rw [b188_0_d53, pM_17, pM_o _ _ (by decide) (by decide), pM_o _ _ (by decide) (by decide), pM_r _ _ (by decide), hl, ht]
  unfold sgn
  by_cases e1 : len ≤ p.1
  · rw [if_neg (show ¬ (p.1 < len ∧ p.1 < top) by omega)]
    simp (disch := omega) only [aBi, aBv, aBl, nI_1, nIle_t, nIle_f, nIlt_t, nIlt_f, nIeq_t, nIeq_f, nIneg, nI_clamp, nat_le_f, nat_le_t, nat_lt_f, nat_lt_t, or_self, or_false, false_or, if_true, if_false, ↓reduceIte, Int32.or_zero, Int32.add_zero, nIm2, nIm3, nIm4, nIp2, nIp4, nIp6, nIp8, nIp14, nIp16, nIp22, nIp24, nIp30, nIq2, nIq3, nIq4, hasI_0, aU_s, aU_i, aU_r, aU_u]
  · by_cases e2 : top ≤ p.1
    · rw [if_neg (show ¬ (p.1 < len ∧ p.1 < top) by omega)]
      simp (disch := omega) only [aBi, aBv, aBl, nI_1, nIle_t, nIle_f, nIlt_t, nIlt_f, nIeq_t, nIeq_f, nIneg, nI_clamp, nat_le_f, nat_le_t, nat_lt_f, nat_lt_t, or_self, or_false, false_or, if_true, if_false, ↓reduceIte, Int32.or_zero, Int32.add_zero, nIm2, nIm3, nIm4, nIp2, nIp4, nIp6, nIp8, nIp14, nIp16, nIp22, nIp24, nIp30, nIq2, nIq3, nIq4, hasI_0, aU_s, aU_i, aU_r, aU_u]
    · rw [if_pos (show p.1 < len ∧ p.1 < top by omega)]
      simp (disch := omega) only [aBi, aBv, aBl, nI_1, nIle_t, nIle_f, nIlt_t, nIlt_f, nIeq_t, nIeq_f, nIneg, nI_clamp, nat_le_f, nat_le_t, nat_lt_f, nat_lt_t, or_self, or_false, false_or, if_true, if_false, ↓reduceIte, Int32.or_zero, Int32.add_zero, nIm2, nIm3, nIm4, nIp2, nIp4, nIp6, nIp8, nIp14, nIp16, nIp22, nIp24, nIp30, nIq2, nIq3, nIq4, hasI_0, aU_s, aU_i, aU_r, aU_u]
theorem f191_52 {p : Nat × Int32} {len top : Nat} (hl : I 46 15 = nI len) (ht : I 46 16 = nI top) (h1 : len ≤ 80) (h2 : top ≤ 80) (hp : p.1 ≤ 80) {c : Int32} (hc : 0 ≤ c) : aF d 191 [.ref 46, .int c] (g, pM I p, J, aP1 sl 53 rl) = some (some (some (.int (tI (decide (pk (sgn (I 52) len top) p = c))))), (g, pM I (ps (sgn (I 52) len top) c p), J, aP1 sl 53 rl)) := by
  show aE d 191 0 [.ref 46, .int c] [] _ = _
  simp only [b191_0, f185, aBi, b191_4, tI_0, f188_52 hl ht h1 h2 hp, b191_11, pM_17, nI_1, pM_u17]
  unfold ps pk
  by_cases e1 : p.2 = -1
  · simp only [e1, decide_true, if_true, Bool.true_eq_false, if_false]
    by_cases e2 : sgn (I 52) len top p.1 = c
    · rw [if_pos e2, if_pos e2, decide_eq_true e2]; rw [← e1]; rfl
    · rw [if_neg e2, if_neg e2, decide_eq_false e2]; rfl
  · have e2 : ¬ (-1 : Int32) = c := fun q => by rw [← q] at hc; exact absurd hc (by decide)
    simp only [e1, decide_false, if_true, if_false, e2]
    rfl
theorem f192_52 {p : Nat × Int32} {len top : Nat} (hl : I 46 15 = nI len) (ht : I 46 16 = nI top) (h1 : len ≤ 80) (h2 : top ≤ 80) (hp : p.1 ≤ 80) {c : Int32} (hc : 0 ≤ c) : aF d 192 [.ref 46, .int c] (g, pM I p, J, aP1 sl 53 rl) = some (some none, (g, pM I (nd (sgn (I 52) len top) c p), J, aP1 sl 53 rl)) := by
  show aE d 192 0 [.ref 46, .int c] [] _ = _
  simp only [b192_0, f191_52 hl ht h1 h2 hp hc, aBi, b192_5, tI_0, f186, aBv, b192_16, pM_17]
  unfold ps nd
  by_cases e1 : pk (sgn (I 52) len top) p = c
  · simp only [e1, decide_true, Bool.true_eq_false, if_false, if_true]
  · simp only [e1, decide_false, if_false, if_true]
theorem f187_52 {p : Nat × Int32} {len top : Nat} (hl : I 46 15 = nI len) (ht : I 46 16 = nI top) (h1 : len ≤ 80) (h2 : top ≤ 80) (hp : p.1 ≤ 80) (hB : byR (I 52)) {lo many hi : Int32} (hlo : 0 ≤ lo) (hh : lo + many - 1 = hi) (hhi : hi < 128) : aF d 187 [.ref 46, .int lo, .int many] (g, pM I p, J, aP1 sl 53 rl) = some (some (some (.int ((tk (sgn (I 52) len top) lo hi p).1 - lo))), (g, pM I (tk (sgn (I 52) len top) lo hi p).2, J, aP1 sl 53 rl)) := by
  show aE d 187 0 [.ref 46, .int lo, .int many] [] _ = _
  have e0 : ∀ n : Nat, nI (n + 1) - 1 = nI n := nI_pred
  simp only [b187_0, f185, aBi, b187_4, tI_0, f188_52 hl ht h1 h2 hp, b187_13, f181, hh, b187_22_d53, pM_17, nI_1, e0, pM_u17, f186, aBv, b187_33]
  unfold tk
  have hn : ¬ (0 : Int32) ≤ -1 := by decide
  by_cases e1 : p.2 = -1
  · have e2 : pk (sgn (I 52) len top) p = sgn (I 52) len top p.1 := by unfold pk; rw [if_pos e1]
    have e3 : flt p (nI p.1) = (p.1, nI p.1) := by unfold flt; rw [if_pos e1]
    simp only [e1, decide_true, Bool.true_eq_false, if_false, e2, e3]
    unfold inI
    by_cases e4 : sgn (I 52) len top p.1 < lo
    · simp only [e4, if_true, Int32.sub_self]
    · by_cases e5 : hi < sgn (I 52) len top p.1
      · have e6 : ¬ sgn (I 52) len top p.1 ≤ hi := by rw [int_le]; rw [int_lt] at e5; omega
        simp only [e4, e5, e6, if_true, if_false, Int32.sub_self]
      · have e6 : sgn (I 52) len top p.1 ≤ hi := by rw [int_le]; rw [int_lt] at e5; omega
        have e7 : p.1 < len ∧ p.1 < top := by
          apply Classical.byContradiction; intro q
          unfold sgn at e4
          rw [if_neg q] at e4
          rw [int_lt] at e4
          rw [int_le] at hlo
          have : (0 : Int32).toInt = 0 := rfl
          have : (-1 : Int32).toInt = -1 := rfl
          omega
        have e8 : sgn (I 52) len top p.1 = I 52 p.1 := by
          have e9 : sgn (I 52) len top p.1 = I 52 p.1 &&& 255 := if_pos e7
          rw [e9] at e6 ⊢
          refine hB _ ?_
          rw [int_lt] at *
          rw [int_le] at e6
          omega
        simp only [e4, e5, e6, if_false, if_true, n10]
        simp (disch := omega) only [pM_r, aBi, aBv, aBl, nI_1, nIle_t, nIle_f, nIlt_t, nIlt_f, nIeq_t, nIeq_f, nIneg, nI_clamp, nat_le_f, nat_le_t, nat_lt_f, nat_lt_t, or_self, or_false, false_or, if_true, if_false, ↓reduceIte, Int32.or_zero, Int32.add_zero, nIm2, nIm3, nIm4, nIp2, nIp4, nIp6, nIp8, nIp14, nIp16, nIp22, nIp24, nIp30, nIq2, nIq3, nIq4, hasI_0, aU_s, aU_i, aU_r, aU_u]
        rw [e8]
        unfold adv
        rw [e1]
  · have e2 : pk (sgn (I 52) len top) p = -1 := by unfold pk; rw [if_neg e1]
    have e3 : flt p (nI p.1) = p := by unfold flt; rw [if_neg e1]
    have e4 : (-1 : Int32) < lo := by
      rw [int_lt]; rw [int_le] at hlo
      have : (0 : Int32).toInt = 0 := rfl
      have : (-1 : Int32).toInt = -1 := rfl
      omega
    simp only [e1, decide_false, if_true, e2, e3, e4, Int32.sub_self]
theorem f189_52 {p : Nat × Int32} {len top m : Nat} (hl : I 46 15 = nI len) (ht : I 46 16 = nI top) (h1 : len ≤ 80) (h2 : top ≤ 80) (hp : p.1 ≤ top) (hB : byR (I 52)) (hm2 : m < 8) : aF d 189 [.ref 46, .int (nI (m + 1))] (g, pM I p, J, aP1 sl 53 rl) = some (some (some (.int (nm (sgn (I 52) len top) m p).1)), (g, pM I (nm (sgn (I 52) len top) m p).2, J, aP1 sl 53 rl)) := by
  show aE d 189 0 [.ref 46, .int (nI (m + 1)), aNo, aNo] [] _ = _
  have q (p : Nat × Int32) (hp : p.1 ≤ 80) : aF d 187 [.ref 46, .int 48, .int 10] (g, pM I p, J, aP1 sl 53 rl) = some (some (some (.int ((tk (sgn (I 52) len top) 48 57 p).1 - 48))), (g, pM I (tk (sgn (I 52) len top) 48 57 p).2, J, aP1 sl 53 rl)) := f187_52 hl ht h1 h2 hp hB (by decide) (by decide) (by decide)
  simp only [b189_0, q p (by omega), aBi, b189_8]
  have l : ∀ (k i : Nat) (v : Int32) (p : Nat × Int32), p.1 ≤ top → i + k = m + 1 → aE d 189 11 [.ref 46, .int (nI (m + 1)), .int v, .int (nI i)] [] (g, pM I p, J, aP1 sl 53 rl) = some (some (some (.int (nmL (sgn (I 52) len top) k v p).1)), (g, pM I (nmL (sgn (I 52) len top) k v p).2, J, aP1 sl 53 rl)) := by
    intro k
    induction k with
    | zero =>
      intro i v p hp hi
      rw [b189_11]
      simp (disch := omega) only [aBi, aBv, aBl, nI_1, nIle_t, nIle_f, nIlt_t, nIlt_f, nIeq_t, nIeq_f, nIneg, nI_clamp, nat_le_f, nat_le_t, nat_lt_f, nat_lt_t, or_self, or_false, false_or, if_true, if_false, ↓reduceIte, Int32.or_zero, Int32.add_zero, nIm2, nIm3, nIm4, nIp2, nIp4, nIp6, nIp8, nIp14, nIp16, nIp22, nIp24, nIp30, nIq2, nIq3, nIq4, hasI_0, aU_s, aU_i, aU_r, aU_u]
      rfl
    | succ k ih =>
      intro i v p hp hi
      rw [b189_11]
      simp (disch := omega) only [f185, b189_20, tI_0, f188_52 hl ht h1 h2 (show p.1 ≤ 80 by omega), b189_27, f181, b189_34, q p (by omega), b189_49, aBi, aBv, aBl, nI_1, nIle_t, nIle_f, nIlt_t, nIlt_f, nIeq_t, nIeq_f, nIneg, nI_clamp, nat_le_f, nat_le_t, nat_lt_f, nat_lt_t, or_self, or_false, false_or, if_true, if_false, ↓reduceIte, Int32.or_zero, Int32.add_zero, nIm2, nIm3, nIm4, nIp2, nIp4, nIp6, nIp8, nIp14, nIp16, nIp22, nIp24, nIp30, nIq2, nIq3, nIq4, hasI_0, aU_s, aU_i, aU_r, aU_u]
      unfold nmL
      by_cases e1 : p.2 = -1
      · have e2 : pk (sgn (I 52) len top) p = sgn (I 52) len top p.1 := by unfold pk; rw [if_pos e1]
        simp only [e1, decide_true, Bool.true_eq_false, if_false, e2]
        unfold inI
        by_cases e4 : sgn (I 52) len top p.1 < 48
        · simp only [e4, if_true]
        · by_cases e5 : (57 : Int32) < sgn (I 52) len top p.1
          · have e6 : ¬ sgn (I 52) len top p.1 ≤ 57 := by rw [int_le]; rw [int_lt] at e5; omega
            simp only [e4, e5, e6, if_true, if_false]
          · have e6 : sgn (I 52) len top p.1 ≤ 57 := by rw [int_le]; rw [int_lt] at e5; omega
            have e7 : tk (sgn (I 52) len top) 48 57 p = (sgn (I 52) len top p.1, adv p) := by
              unfold tk
              rw [e2, if_neg e4, if_pos e6]
            simp only [e4, e5, e6, if_true, if_false, n10, e7]
            have e8 : 10 * v + (sgn (I 52) len top p.1 - 48) = v * 10 + sgn (I 52) len top p.1 - 48 := by
              rw [Int32.mul_comm, Int32.sub_eq_add_neg, Int32.sub_eq_add_neg, Int32.add_assoc]
            rw [e8]
            exact ih (i + 1) _ _ (pk_ge (p := p) (lo := 48) (sgn_E _ _ _) (by decide) (by rw [e2]; exact e4)) (by omega)
      · have e2 : pk (sgn (I 52) len top) p = -1 := by unfold pk; rw [if_neg e1]
        simp only [e1, decide_false, if_true, e2, show ((-1 : Int32) < 48) = True from by decide]
  exact l m 1 _ _ (tk_at (sgn_E _ _ _) (by decide) hp).2 (by omega)
theorem f188_55 {p : Nat × Int32} {len top : Nat} (hl : I 46 15 = nI len) (ht : I 46 16 = nI top) (h1 : len ≤ 40) (h2 : top ≤ 80) (hp : p.1 ≤ 80) : aF d 188 [.ref 46] (g, pM I p, J, aP1 sl 56 rl) = some (some (some (.int (sgn (I 55) len top p.1))), (g, pM I p, J, aP1 sl 56 rl)) := by
  show aE d 188 0 [.ref 46] [] _ = _
  rw [b188_0_d56, pM_17, pM_o _ _ (by decide) (by decide), pM_o _ _ (by decide) (by decide), pM_r _ _ (by decide), hl, ht]
  unfold sgn
  by_cases e1 : len ≤ p.1
  · rw [if_neg (show ¬ (p.1 < len ∧ p.1 < top) by omega)]
    simp (disch := omega) only [aBi, aBv, aBl, nI_1, nIle_t, nIle_f, nIlt_t, nIlt_f, nIeq_t, nIeq_f, nIneg, nI_clamp, nat_le_f, nat_le_t, nat_lt_f, nat_lt_t, or_self, or_false, false_or, if_true, if_false, ↓reduceIte, Int32.or_zero, Int32.add_zero, nIm2, nIm3, nIm4, nIp2, nIp4, nIp6, nIp8, nIp14, nIp16, nIp22, nIp24, nIp30, nIq2, nIq3, nIq4, hasI_0, aU_s, aU_i, aU_r, aU_u]
  · by_cases e2 : top ≤ p.1
    · rw [if_neg (show ¬ (p.1 < len ∧ p.1 < top) by omega)]
      simp (disch := omega) only [aBi, aBv, aBl, nI_1, nIle_t, nIle_f, nIlt_t, nIlt_f, nIeq_t, nIeq_f, nIneg, nI_clamp, nat_le_f, nat_le_t, nat_lt_f, nat_lt_t, or_self, or_false, false_or, if_true, if_false, ↓reduceIte, Int32.or_zero, Int32.add_zero, nIm2, nIm3, nIm4, nIp2, nIp4, nIp6, nIp8, nIp14, nIp16, nIp22, nIp24, nIp30, nIq2, nIq3, nIq4, hasI_0, aU_s, aU_i, aU_r, aU_u]
    · rw [if_pos (show p.1 < len ∧ p.1 < top by omega)]
      simp (disch := omega) only [aBi, aBv, aBl, nI_1, nIle_t, nIle_f, nIlt_t, nIlt_f, nIeq_t, nIeq_f, nIneg, nI_clamp, nat_le_f, nat_le_t, nat_lt_f, nat_lt_t, or_self, or_false, false_or, if_true, if_false, ↓reduceIte, Int32.or_zero, Int32.add_zero, nIm2, nIm3, nIm4, nIp2, nIp4, nIp6, nIp8, nIp14, nIp16, nIp22, nIp24, nIp30, nIq2, nIq3, nIq4, hasI_0, aU_s, aU_i, aU_r, aU_u]
theorem f191_55 {p : Nat × Int32} {len top : Nat} (hl : I 46 15 = nI len) (ht : I 46 16 = nI top) (h1 : len ≤ 40) (h2 : top ≤ 80) (hp : p.1 ≤ 80) {c : Int32} (hc : 0 ≤ c) : aF d 191 [.ref 46, .int c] (g, pM I p, J, aP1 sl 56 rl) = some (some (some (.int (tI (decide (pk (sgn (I 55) len top) p = c))))), (g, pM I (ps (sgn (I 55) len top) c p), J, aP1 sl 56 rl)) := by
  show aE d 191 0 [.ref 46, .int c] [] _ = _
  simp only [b191_0, f185, aBi, b191_4, tI_0, f188_55 hl ht h1 h2 hp, b191_11, pM_17, nI_1, pM_u17]
  unfold ps pk
  by_cases e1 : p.2 = -1
  · simp only [e1, decide_true, if_true, Bool.true_eq_false, if_false]
    by_cases e2 : sgn (I 55) len top p.1 = c
    · rw [if_pos e2, if_pos e2, decide_eq_true e2]; rw [← e1]; rfl
    · rw [if_neg e2, if_neg e2, decide_eq_false e2]; rfl
  · have e2 : ¬ (-1 : Int32) = c := fun q => by rw [← q] at hc; exact absurd hc (by decide)
    simp only [e1, decide_false, if_true, if_false, e2]
    rfl
theorem f192_55 {p : Nat × Int32} {len top : Nat} (hl : I 46 15 = nI len) (ht : I 46 16 = nI top) (h1 : len ≤ 40) (h2 : top ≤ 80) (hp : p.1 ≤ 80) {c : Int32} (hc : 0 ≤ c) : aF d 192 [.ref 46, .int c] (g, pM I p, J, aP1 sl 56 rl) = some (some none, (g, pM I (nd (sgn (I 55) len top) c p), J, aP1 sl 56 rl)) := by
  show aE d 192 0 [.ref 46, .int c] [] _ = _
  simp only [b192_0, f191_55 hl ht h1 h2 hp hc, aBi, b192_5, tI_0, f186, aBv, b192_16, pM_17]
  unfold ps nd
  by_cases e1 : pk (sgn (I 55) len top) p = c
  · simp only [e1, decide_true, Bool.true_eq_false, if_false, if_true]
  · simp only [e1, decide_false, if_false, if_true]
theorem f187_55 {p : Nat × Int32} {len top : Nat} (hl : I 46 15 = nI len) (ht : I 46 16 = nI top) (h1 : len ≤ 40) (h2 : top ≤ 80) (hp : p.1 ≤ 80) (hB : byR (I 55)) {lo many hi : Int32} (hlo : 0 ≤ lo) (hh : lo + many - 1 = hi) (hhi : hi < 128) : aF d 187 [.ref 46, .int lo, .int many] (g, pM I p, J, aP1 sl 56 rl) = some (some (some (.int ((tk (sgn (I 55) len top) lo hi p).1 - lo))), (g, pM I (tk (sgn (I 55) len top) lo hi p).2, J, aP1 sl 56 rl)) := by
  show aE d 187 0 [.ref 46, .int lo, .int many] [] _ = _
  have e0 : ∀ n : Nat, nI (n + 1) - 1 = nI n := nI_pred
  simp only [b187_0, f185, aBi, b187_4, tI_0, f188_55 hl ht h1 h2 hp, b187_13, f181, hh, b187_22_d56, pM_17, nI_1, e0, pM_u17, f186, aBv, b187_33]
  unfold tk
  have hn : ¬ (0 : Int32) ≤ -1 := by decide
  by_cases e1 : p.2 = -1
  · have e2 : pk (sgn (I 55) len top) p = sgn (I 55) len top p.1 := by unfold pk; rw [if_pos e1]
    have e3 : flt p (nI p.1) = (p.1, nI p.1) := by unfold flt; rw [if_pos e1]
    simp only [e1, decide_true, Bool.true_eq_false, if_false, e2, e3]
    unfold inI
    by_cases e4 : sgn (I 55) len top p.1 < lo
    · simp only [e4, if_true, Int32.sub_self]
    · by_cases e5 : hi < sgn (I 55) len top p.1
      · have e6 : ¬ sgn (I 55) len top p.1 ≤ hi := by rw [int_le]; rw [int_lt] at e5; omega
        simp only [e4, e5, e6, if_true, if_false, Int32.sub_self]
      · have e6 : sgn (I 55) len top p.1 ≤ hi := by rw [int_le]; rw [int_lt] at e5; omega
        have e7 : p.1 < len ∧ p.1 < top := by
          apply Classical.byContradiction; intro q
          unfold sgn at e4
          rw [if_neg q] at e4
          rw [int_lt] at e4
          rw [int_le] at hlo
          have : (0 : Int32).toInt = 0 := rfl
          have : (-1 : Int32).toInt = -1 := rfl
          omega
        have e8 : sgn (I 55) len top p.1 = I 55 p.1 := by
          have e9 : sgn (I 55) len top p.1 = I 55 p.1 &&& 255 := if_pos e7
          rw [e9] at e6 ⊢
          refine hB _ ?_
          rw [int_lt] at *
          rw [int_le] at e6
          omega
        simp only [e4, e5, e6, if_false, if_true, n10]
        simp (disch := omega) only [pM_r, aBi, aBv, aBl, nI_1, nIle_t, nIle_f, nIlt_t, nIlt_f, nIeq_t, nIeq_f, nIneg, nI_clamp, nat_le_f, nat_le_t, nat_lt_f, nat_lt_t, or_self, or_false, false_or, if_true, if_false, ↓reduceIte, Int32.or_zero, Int32.add_zero, nIm2, nIm3, nIm4, nIp2, nIp4, nIp6, nIp8, nIp14, nIp16, nIp22, nIp24, nIp30, nIq2, nIq3, nIq4, hasI_0, aU_s, aU_i, aU_r, aU_u]
        rw [e8]
        unfold adv
        rw [e1]
  · have e2 : pk (sgn (I 55) len top) p = -1 := by unfold pk; rw [if_neg e1]
    have e3 : flt p (nI p.1) = p := by unfold flt; rw [if_neg e1]
    have e4 : (-1 : Int32) < lo := by
      rw [int_lt]; rw [int_le] at hlo
      have : (0 : Int32).toInt = 0 := rfl
      have : (-1 : Int32).toInt = -1 := rfl
      omega
    simp only [e1, decide_false, if_true, e2, e3, e4, Int32.sub_self]
theorem f189_55 {p : Nat × Int32} {len top m : Nat} (hl : I 46 15 = nI len) (ht : I 46 16 = nI top) (h1 : len ≤ 40) (h2 : top ≤ 80) (hp : p.1 ≤ top) (hB : byR (I 55)) (hm2 : m < 8) : aF d 189 [.ref 46, .int (nI (m + 1))] (g, pM I p, J, aP1 sl 56 rl) = some (some (some (.int (nm (sgn (I 55) len top) m p).1)), (g, pM I (nm (sgn (I 55) len top) m p).2, J, aP1 sl 56 rl)) := by
  show aE d 189 0 [.ref 46, .int (nI (m + 1)), aNo, aNo] [] _ = _
  have q (p : Nat × Int32) (hp : p.1 ≤ 80) : aF d 187 [.ref 46, .int 48, .int 10] (g, pM I p, J, aP1 sl 56 rl) = some (some (some (.int ((tk (sgn (I 55) len top) 48 57 p).1 - 48))), (g, pM I (tk (sgn (I 55) len top) 48 57 p).2, J, aP1 sl 56 rl)) := f187_55 hl ht h1 h2 hp hB (by decide) (by decide) (by decide)
  simp only [b189_0, q p (by omega), aBi, b189_8]
  have l : ∀ (k i : Nat) (v : Int32) (p : Nat × Int32), p.1 ≤ top → i + k = m + 1 → aE d 189 11 [.ref 46, .int (nI (m + 1)), .int v, .int (nI i)] [] (g, pM I p, J, aP1 sl 56 rl) = some (some (some (.int (nmL (sgn (I 55) len top) k v p).1)), (g, pM I (nmL (sgn (I 55) len top) k v p).2, J, aP1 sl 56 rl)) := by
    intro k
    induction k with
    | zero =>
      intro i v p hp hi
      rw [b189_11]
      simp (disch := omega) only [aBi, aBv, aBl, nI_1, nIle_t, nIle_f, nIlt_t, nIlt_f, nIeq_t, nIeq_f, nIneg, nI_clamp, nat_le_f, nat_le_t, nat_lt_f, nat_lt_t, or_self, or_false, false_or, if_true, if_false, ↓reduceIte, Int32.or_zero, Int32.add_zero, nIm2, nIm3, nIm4, nIp2, nIp4, nIp6, nIp8, nIp14, nIp16, nIp22, nIp24, nIp30, nIq2, nIq3, nIq4, hasI_0, aU_s, aU_i, aU_r, aU_u]
      rfl
    | succ k ih =>
      intro i v p hp hi
      rw [b189_11]
      simp (disch := omega) only [f185, b189_20, tI_0, f188_55 hl ht h1 h2 (show p.1 ≤ 80 by omega), b189_27, f181, b189_34, q p (by omega), b189_49, aBi, aBv, aBl, nI_1, nIle_t, nIle_f, nIlt_t, nIlt_f, nIeq_t, nIeq_f, nIneg, nI_clamp, nat_le_f, nat_le_t, nat_lt_f, nat_lt_t, or_self, or_false, false_or, if_true, if_false, ↓reduceIte, Int32.or_zero, Int32.add_zero, nIm2, nIm3, nIm4, nIp2, nIp4, nIp6, nIp8, nIp14, nIp16, nIp22, nIp24, nIp30, nIq2, nIq3, nIq4, hasI_0, aU_s, aU_i, aU_r, aU_u]
      unfold nmL
      by_cases e1 : p.2 = -1
      · have e2 : pk (sgn (I 55) len top) p = sgn (I 55) len top p.1 := by unfold pk; rw [if_pos e1]
        simp only [e1, decide_true, Bool.true_eq_false, if_false, e2]
        unfold inI
        by_cases e4 : sgn (I 55) len top p.1 < 48
        · simp only [e4, if_true]
        · by_cases e5 : (57 : Int32) < sgn (I 55) len top p.1
          · have e6 : ¬ sgn (I 55) len top p.1 ≤ 57 := by rw [int_le]; rw [int_lt] at e5; omega
            simp only [e4, e5, e6, if_true, if_false]
          · have e6 : sgn (I 55) len top p.1 ≤ 57 := by rw [int_le]; rw [int_lt] at e5; omega
            have e7 : tk (sgn (I 55) len top) 48 57 p = (sgn (I 55) len top p.1, adv p) := by
              unfold tk
              rw [e2, if_neg e4, if_pos e6]
            simp only [e4, e5, e6, if_true, if_false, n10, e7]
            have e8 : 10 * v + (sgn (I 55) len top p.1 - 48) = v * 10 + sgn (I 55) len top p.1 - 48 := by
              rw [Int32.mul_comm, Int32.sub_eq_add_neg, Int32.sub_eq_add_neg, Int32.add_assoc]
            rw [e8]
            exact ih (i + 1) _ _ (pk_ge (p := p) (lo := 48) (sgn_E _ _ _) (by decide) (by rw [e2]; exact e4)) (by omega)
      · have e2 : pk (sgn (I 55) len top) p = -1 := by unfold pk; rw [if_neg e1]
        simp only [e1, decide_false, if_true, e2, show ((-1 : Int32) < 48) = True from by decide]
  exact l m 1 _ _ (tk_at (sgn_E _ _ _) (by decide) hp).2 (by omega)
theorem f188_56 {p : Nat × Int32} {len top : Nat} (hl : I 46 15 = nI len) (ht : I 46 16 = nI top) (h1 : len ≤ 40) (h2 : top ≤ 80) (hp : p.1 ≤ 80) : aF d 188 [.ref 46] (g, pM I p, J, aP1 sl 57 rl) = some (some (some (.int (sgn (I 56) len top p.1))), (g, pM I p, J, aP1 sl 57 rl)) := by
  show aE d 188 0 [.ref 46] [] _ = _
  rw [b188_0_d57, pM_17, pM_o _ _ (by decide) (by decide), pM_o _ _ (by decide) (by decide), pM_r _ _ (by decide), hl, ht]
  unfold sgn
  by_cases e1 : len ≤ p.1
  · rw [if_neg (show ¬ (p.1 < len ∧ p.1 < top) by omega)]
    simp (disch := omega) only [aBi, aBv, aBl, nI_1, nIle_t, nIle_f, nIlt_t, nIlt_f, nIeq_t, nIeq_f, nIneg, nI_clamp, nat_le_f, nat_le_t, nat_lt_f, nat_lt_t, or_self, or_false, false_or, if_true, if_false, ↓reduceIte, Int32.or_zero, Int32.add_zero, nIm2, nIm3, nIm4, nIp2, nIp4, nIp6, nIp8, nIp14, nIp16, nIp22, nIp24, nIp30, nIq2, nIq3, nIq4, hasI_0, aU_s, aU_i, aU_r, aU_u]
  · by_cases e2 : top ≤ p.1
    · rw [if_neg (show ¬ (p.1 < len ∧ p.1 < top) by omega)]
      simp (disch := omega) only [aBi, aBv, aBl, nI_1, nIle_t, nIle_f, nIlt_t, nIlt_f, nIeq_t, nIeq_f, nIneg, nI_clamp, nat_le_f, nat_le_t, nat_lt_f, nat_lt_t, or_self, or_false, false_or, if_true, if_false, ↓reduceIte, Int32.or_zero, Int32.add_zero, nIm2, nIm3, nIm4, nIp2, nIp4, nIp6, nIp8, nIp14, nIp16, nIp22, nIp24, nIp30, nIq2, nIq3, nIq4, hasI_0, aU_s, aU_i, aU_r, aU_u]
    · rw [if_pos (show p.1 < len ∧ p.1 < top by omega)]
      simp (disch := omega) only [aBi, aBv, aBl, nI_1, nIle_t, nIle_f, nIlt_t, nIlt_f, nIeq_t, nIeq_f, nIneg, nI_clamp, nat_le_f, nat_le_t, nat_lt_f, nat_lt_t, or_self, or_false, false_or, if_true, if_false, ↓reduceIte, Int32.or_zero, Int32.add_zero, nIm2, nIm3, nIm4, nIp2, nIp4, nIp6, nIp8, nIp14, nIp16, nIp22, nIp24, nIp30, nIq2, nIq3, nIq4, hasI_0, aU_s, aU_i, aU_r, aU_u]
theorem f191_56 {p : Nat × Int32} {len top : Nat} (hl : I 46 15 = nI len) (ht : I 46 16 = nI top) (h1 : len ≤ 40) (h2 : top ≤ 80) (hp : p.1 ≤ 80) {c : Int32} (hc : 0 ≤ c) : aF d 191 [.ref 46, .int c] (g, pM I p, J, aP1 sl 57 rl) = some (some (some (.int (tI (decide (pk (sgn (I 56) len top) p = c))))), (g, pM I (ps (sgn (I 56) len top) c p), J, aP1 sl 57 rl)) := by
  show aE d 191 0 [.ref 46, .int c] [] _ = _
  simp only [b191_0, f185, aBi, b191_4, tI_0, f188_56 hl ht h1 h2 hp, b191_11, pM_17, nI_1, pM_u17]
  unfold ps pk
  by_cases e1 : p.2 = -1
  · simp only [e1, decide_true, if_true, Bool.true_eq_false, if_false]
    by_cases e2 : sgn (I 56) len top p.1 = c
    · rw [if_pos e2, if_pos e2, decide_eq_true e2]; rw [← e1]; rfl
    · rw [if_neg e2, if_neg e2, decide_eq_false e2]; rfl
  · have e2 : ¬ (-1 : Int32) = c := fun q => by rw [← q] at hc; exact absurd hc (by decide)
    simp only [e1, decide_false, if_true, if_false, e2]
    rfl
theorem f192_56 {p : Nat × Int32} {len top : Nat} (hl : I 46 15 = nI len) (ht : I 46 16 = nI top) (h1 : len ≤ 40) (h2 : top ≤ 80) (hp : p.1 ≤ 80) {c : Int32} (hc : 0 ≤ c) : aF d 192 [.ref 46, .int c] (g, pM I p, J, aP1 sl 57 rl) = some (some none, (g, pM I (nd (sgn (I 56) len top) c p), J, aP1 sl 57 rl)) := by
  show aE d 192 0 [.ref 46, .int c] [] _ = _
  simp only [b192_0, f191_56 hl ht h1 h2 hp hc, aBi, b192_5, tI_0, f186, aBv, b192_16, pM_17]
  unfold ps nd
  by_cases e1 : pk (sgn (I 56) len top) p = c
  · simp only [e1, decide_true, Bool.true_eq_false, if_false, if_true]
  · simp only [e1, decide_false, if_false, if_true]
theorem f187_56 {p : Nat × Int32} {len top : Nat} (hl : I 46 15 = nI len) (ht : I 46 16 = nI top) (h1 : len ≤ 40) (h2 : top ≤ 80) (hp : p.1 ≤ 80) (hB : byR (I 56)) {lo many hi : Int32} (hlo : 0 ≤ lo) (hh : lo + many - 1 = hi) (hhi : hi < 128) : aF d 187 [.ref 46, .int lo, .int many] (g, pM I p, J, aP1 sl 57 rl) = some (some (some (.int ((tk (sgn (I 56) len top) lo hi p).1 - lo))), (g, pM I (tk (sgn (I 56) len top) lo hi p).2, J, aP1 sl 57 rl)) := by
  show aE d 187 0 [.ref 46, .int lo, .int many] [] _ = _
  have e0 : ∀ n : Nat, nI (n + 1) - 1 = nI n := nI_pred
  simp only [b187_0, f185, aBi, b187_4, tI_0, f188_56 hl ht h1 h2 hp, b187_13, f181, hh, b187_22_d57, pM_17, nI_1, e0, pM_u17, f186, aBv, b187_33]
  unfold tk
  have hn : ¬ (0 : Int32) ≤ -1 := by decide
  by_cases e1 : p.2 = -1
  · have e2 : pk (sgn (I 56) len top) p = sgn (I 56) len top p.1 := by unfold pk; rw [if_pos e1]
    have e3 : flt p (nI p.1) = (p.1, nI p.1) := by unfold flt; rw [if_pos e1]
    simp only [e1, decide_true, Bool.true_eq_false, if_false, e2, e3]
    unfold inI
    by_cases e4 : sgn (I 56) len top p.1 < lo
    · simp only [e4, if_true, Int32.sub_self]
    · by_cases e5 : hi < sgn (I 56) len top p.1
      · have e6 : ¬ sgn (I 56) len top p.1 ≤ hi := by rw [int_le]; rw [int_lt] at e5; omega
        simp only [e4, e5, e6, if_true, if_false, Int32.sub_self]
      · have e6 : sgn (I 56) len top p.1 ≤ hi := by rw [int_le]; rw [int_lt] at e5; omega
        have e7 : p.1 < len ∧ p.1 < top := by
          apply Classical.byContradiction; intro q
          unfold sgn at e4
          rw [if_neg q] at e4
          rw [int_lt] at e4
          rw [int_le] at hlo
          have : (0 : Int32).toInt = 0 := rfl
          have : (-1 : Int32).toInt = -1 := rfl
          omega
        have e8 : sgn (I 56) len top p.1 = I 56 p.1 := by
          have e9 : sgn (I 56) len top p.1 = I 56 p.1 &&& 255 := if_pos e7
          rw [e9] at e6 ⊢
          refine hB _ ?_
          rw [int_lt] at *
          rw [int_le] at e6
          omega
        simp only [e4, e5, e6, if_false, if_true, n10]
        simp (disch := omega) only [pM_r, aBi, aBv, aBl, nI_1, nIle_t, nIle_f, nIlt_t, nIlt_f, nIeq_t, nIeq_f, nIneg, nI_clamp, nat_le_f, nat_le_t, nat_lt_f, nat_lt_t, or_self, or_false, false_or, if_true, if_false, ↓reduceIte, Int32.or_zero, Int32.add_zero, nIm2, nIm3, nIm4, nIp2, nIp4, nIp6, nIp8, nIp14, nIp16, nIp22, nIp24, nIp30, nIq2, nIq3, nIq4, hasI_0, aU_s, aU_i, aU_r, aU_u]
        rw [e8]
        unfold adv
        rw [e1]
  · have e2 : pk (sgn (I 56) len top) p = -1 := by unfold pk; rw [if_neg e1]
    have e3 : flt p (nI p.1) = p := by unfold flt; rw [if_neg e1]
    have e4 : (-1 : Int32) < lo := by
      rw [int_lt]; rw [int_le] at hlo
      have : (0 : Int32).toInt = 0 := rfl
      have : (-1 : Int32).toInt = -1 := rfl
      omega
    simp only [e1, decide_false, if_true, e2, e3, e4, Int32.sub_self]
theorem f189_56 {p : Nat × Int32} {len top m : Nat} (hl : I 46 15 = nI len) (ht : I 46 16 = nI top) (h1 : len ≤ 40) (h2 : top ≤ 80) (hp : p.1 ≤ top) (hB : byR (I 56)) (hm2 : m < 8) : aF d 189 [.ref 46, .int (nI (m + 1))] (g, pM I p, J, aP1 sl 57 rl) = some (some (some (.int (nm (sgn (I 56) len top) m p).1)), (g, pM I (nm (sgn (I 56) len top) m p).2, J, aP1 sl 57 rl)) := by
  show aE d 189 0 [.ref 46, .int (nI (m + 1)), aNo, aNo] [] _ = _
  have q (p : Nat × Int32) (hp : p.1 ≤ 80) : aF d 187 [.ref 46, .int 48, .int 10] (g, pM I p, J, aP1 sl 57 rl) = some (some (some (.int ((tk (sgn (I 56) len top) 48 57 p).1 - 48))), (g, pM I (tk (sgn (I 56) len top) 48 57 p).2, J, aP1 sl 57 rl)) := f187_56 hl ht h1 h2 hp hB (by decide) (by decide) (by decide)
  simp only [b189_0, q p (by omega), aBi, b189_8]
  have l : ∀ (k i : Nat) (v : Int32) (p : Nat × Int32), p.1 ≤ top → i + k = m + 1 → aE d 189 11 [.ref 46, .int (nI (m + 1)), .int v, .int (nI i)] [] (g, pM I p, J, aP1 sl 57 rl) = some (some (some (.int (nmL (sgn (I 56) len top) k v p).1)), (g, pM I (nmL (sgn (I 56) len top) k v p).2, J, aP1 sl 57 rl)) := by
    intro k
    induction k with
    | zero =>
      intro i v p hp hi
      rw [b189_11]
      simp (disch := omega) only [aBi, aBv, aBl, nI_1, nIle_t, nIle_f, nIlt_t, nIlt_f, nIeq_t, nIeq_f, nIneg, nI_clamp, nat_le_f, nat_le_t, nat_lt_f, nat_lt_t, or_self, or_false, false_or, if_true, if_false, ↓reduceIte, Int32.or_zero, Int32.add_zero, nIm2, nIm3, nIm4, nIp2, nIp4, nIp6, nIp8, nIp14, nIp16, nIp22, nIp24, nIp30, nIq2, nIq3, nIq4, hasI_0, aU_s, aU_i, aU_r, aU_u]
      rfl
    | succ k ih =>
      intro i v p hp hi
      rw [b189_11]
      simp (disch := omega) only [f185, b189_20, tI_0, f188_56 hl ht h1 h2 (show p.1 ≤ 80 by omega), b189_27, f181, b189_34, q p (by omega), b189_49, aBi, aBv, aBl, nI_1, nIle_t, nIle_f, nIlt_t, nIlt_f, nIeq_t, nIeq_f, nIneg, nI_clamp, nat_le_f, nat_le_t, nat_lt_f, nat_lt_t, or_self, or_false, false_or, if_true, if_false, ↓reduceIte, Int32.or_zero, Int32.add_zero, nIm2, nIm3, nIm4, nIp2, nIp4, nIp6, nIp8, nIp14, nIp16, nIp22, nIp24, nIp30, nIq2, nIq3, nIq4, hasI_0, aU_s, aU_i, aU_r, aU_u]
      unfold nmL
      by_cases e1 : p.2 = -1
      · have e2 : pk (sgn (I 56) len top) p = sgn (I 56) len top p.1 := by unfold pk; rw [if_pos e1]
        simp only [e1, decide_true, Bool.true_eq_false, if_false, e2]
        unfold inI
        by_cases e4 : sgn (I 56) len top p.1 < 48
        · simp only [e4, if_true]
        · by_cases e5 : (57 : Int32) < sgn (I 56) len top p.1
          · have e6 : ¬ sgn (I 56) len top p.1 ≤ 57 := by rw [int_le]; rw [int_lt] at e5; omega
            simp only [e4, e5, e6, if_true, if_false]
          · have e6 : sgn (I 56) len top p.1 ≤ 57 := by rw [int_le]; rw [int_lt] at e5; omega
            have e7 : tk (sgn (I 56) len top) 48 57 p = (sgn (I 56) len top p.1, adv p) := by
              unfold tk
              rw [e2, if_neg e4, if_pos e6]
            simp only [e4, e5, e6, if_true, if_false, n10, e7]
            have e8 : 10 * v + (sgn (I 56) len top p.1 - 48) = v * 10 + sgn (I 56) len top p.1 - 48 := by
              rw [Int32.mul_comm, Int32.sub_eq_add_neg, Int32.sub_eq_add_neg, Int32.add_assoc]
            rw [e8]
            exact ih (i + 1) _ _ (pk_ge (p := p) (lo := 48) (sgn_E _ _ _) (by decide) (by rw [e2]; exact e4)) (by omega)
      · have e2 : pk (sgn (I 56) len top) p = -1 := by unfold pk; rw [if_neg e1]
        simp only [e1, decide_false, if_true, e2, show ((-1 : Int32) < 48) = True from by decide]
  exact l m 1 _ _ (tk_at (sgn_E _ _ _) (by decide) hp).2 (by omega)
