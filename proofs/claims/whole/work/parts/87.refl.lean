/-! lines: what both sides share; the reference's loop -/
variable {d : Nat} {g : Nat × Nat × Nat} {I : Nat → Nat → Int32} {J : Nat → Nat → Int64} {sl rd rl : Nat} {t n m q : Nat}
theorem flt_bad {p : Nat × Int32} (hp : p.1 ≤ 80) : ¬ (flt p (nI p.1)).2 = -1 := by
  unfold flt
  by_cases e : p.2 = -1
  · rw [if_pos e]; exact nIm1c hp
  · rw [if_neg e]; exact e
section L
variable {sg : Nat → Int32} {ln : Nat × Int32 → Nat × Int32} {top len : Nat}
theorem lnL_all (hE : sgE sg top) (h80 : top ≤ 80) (hat : ∀ p, p.1 ≤ top → (ln p).1 ≤ top) (hwk : ∀ p, p.1 ≤ top → wrk p → wrk (ln p)) : ∀ r k, (lnP ln k).1 ≤ top → (lnP ln k).2 = -1 → (∀ j, j < k → (lnP ln j).1 ≤ top ∧ (lnP ln j).2 = -1 ∧ (ln (lnP ln j)).2 = -1) → (lnL sg ln r k (lnP ln k)).2.1 ≤ top ∧ wrk (lnL sg ln r k (lnP ln k)).2 ∧ ((lnL sg ln r k (lnP ln k)).2.2 = -1 → k < (lnL sg ln r k (lnP ln k)).1 ∧ ∀ j, j < (lnL sg ln r k (lnP ln k)).1 → (lnP ln j).1 ≤ top ∧ (lnP ln j).2 = -1 ∧ (ln (lnP ln j)).2 = -1) := by
  intro r
  induction r with
  | zero =>
    intro k h1 h2 h3
    have e : lnL sg ln 0 k (lnP ln k) = (k, flt (lnP ln k) (nI (lnP ln k).1)) := rfl
    rw [e]
    refine ⟨by rw [flt_1]; exact h1, wrk_f (by omega) (Or.inl h2), fun h => absurd h (flt_bad (by omega))⟩
  | succ r ih =>
    intro k h1 h2 h3
    by_cases h59 : pk sg (ln (lnP ln k)) = 59
    · have el : lnL sg ln (r + 1) k (lnP ln k) = lnL sg ln r (k + 1) (lnP ln (k + 1)) := if_pos h59
      have hk : ¬ pk sg (ln (lnP ln k)) = -1 := by rw [h59]; decide
      have pt : (lnP ln (k + 1)).1 ≤ top := pk_at hE hk
      have pf : (lnP ln (k + 1)).2 = -1 := (pk_2 hk : (ln (lnP ln k)).2 = -1)
      have := ih (k + 1) pt pf (fun j hj => by
        by_cases e : j = k
        · subst e; exact ⟨h1, h2, pk_2 hk⟩
        · exact h3 j (by omega))
      rw [el]
      exact ⟨this.1, this.2.1, fun h => ⟨by have := (this.2.2 h).1; omega, (this.2.2 h).2⟩⟩
    · have el : lnL sg ln (r + 1) k (lnP ln k) = (k + 1, ln (lnP ln k)) := if_neg h59
      rw [el]
      refine ⟨hat _ h1, hwk _ h1 (Or.inl h2), fun h => ⟨Nat.lt_succ_self k, fun j hj => ?_⟩⟩
      have hj : j < k + 1 := hj
      by_cases e : j = k
      · subst e; exact ⟨h1, h2, h⟩
      · exact h3 j (by omega)
theorem rLn (X E : Nat → Int32 → Value → (Nat → Nat → Int32) → Nat × Int32 → Option aO) {Vr : (Nat → Nat → Int32) → Nat → Nat × Int32 → Prop} {I0 : Nat → Nat → Int32} {n0 c : Nat} (hE : sgE sg top) (h80 : top ≤ 80) (hat : ∀ p, p.1 ≤ top → (ln p).1 ≤ top)
    (h0 : ∀ k w I p, X k 0 w I p = E k 0 w I p)
    (hF : ∀ k w I p, Fr [54] I0 I → p.2 = -1 → p.1 ≤ top → n0 + k = 8 → X k 1 w I p = X (k + 1) 0 w I (flt p (nI p.1)))
    (hL : ∀ k w I p, Fr [54] I0 I → p.2 = -1 → p.1 ≤ top → n0 + k < 8 → ∃ I' w' p3, Fr [54] I I' ∧ (∀ i, i < c * k → I' 54 i = I 54 i) ∧ Vr I' k p ∧ rW p3 len = rW (ln p) len ∧ p3.1 ≤ 80 ∧ X k 1 w I p = if pk sg (ln p) = 59 then X (k + 1) 1 w' I' (adv (ln p)) else X (k + 1) 0 w' I' p3)
    (hVk : ∀ I1 I2 k j p, (∀ i, i < c * k → I2 54 i = I1 54 i) → j < k → Vr I1 j p → Vr I2 j p) :
    ∀ r k w I1, n0 + k + r = 8 → Fr [54] I0 I1 → (lnP ln k).1 ≤ top → (lnP ln k).2 = -1 → (∀ j, j < k → Vr I1 j (lnP ln j)) → ∃ I' K' w' p3, Fr [54] I0 I' ∧ rW p3 len = rW (lnL sg ln r k (lnP ln k)).2 len ∧ p3.1 ≤ 80 ∧ ((lnL sg ln r k (lnP ln k)).2.2 = -1 → K' = (lnL sg ln r k (lnP ln k)).1 ∧ ∀ j, j < K' → Vr I' j (lnP ln j)) ∧ X k 1 w I1 (lnP ln k) = E K' 0 w' I' p3 := by
  intro r
  induction r with
  | zero =>
    intro k w I1 hk q1 q2 q3 q4
    refine ⟨I1, k + 1, w, flt (lnP ln k) (nI (lnP ln k).1), q1, rfl, by rw [flt_1]; omega, fun h => absurd h (flt_bad (by omega)), ?_⟩
    rw [hF k w I1 _ q1 q3 q2 (by omega), h0]
  | succ r ih =>
    intro k w I1 hk q1 q2 q3 q4
    obtain ⟨I2, w2, p3, u1, u2, u3, u4, u5, u6⟩ := hL k w I1 _ q1 q3 q2 (by omega)
    have q5 : ∀ j, j < k + 1 → Vr I2 j (lnP ln j) := fun j hj => by
      by_cases e : j = k
      · subst e; exact u3
      · exact hVk _ _ k _ _ u2 (by omega) (q4 j (by omega))
    by_cases h59 : pk sg (ln (lnP ln k)) = 59
    · have el : lnL sg ln (r + 1) k (lnP ln k) = lnL sg ln r (k + 1) (lnP ln (k + 1)) := if_pos h59
      have hk2 : ¬ pk sg (ln (lnP ln k)) = -1 := by rw [h59]; decide
      obtain ⟨I', K', w', p', z1, z2, z3, z4, z5⟩ := ih (k + 1) w2 I2 (by omega) (Fr_t q1 u1) (pk_at hE hk2) (pk_2 hk2 : (ln (lnP ln k)).2 = -1) q5
      rw [el]
      refine ⟨I', K', w', p', z1, z2, z3, z4, ?_⟩
      rw [u6, if_pos h59]
      exact z5
    · have el : lnL sg ln (r + 1) k (lnP ln k) = (k + 1, ln (lnP ln k)) := if_neg h59
      rw [el]
      refine ⟨I2, k + 1, w2, p3, Fr_t q1 u1, u4, u5, fun _ => ⟨rfl, q5⟩, ?_⟩
      rw [u6, if_neg h59, h0]
end L
/-! the reference begins -/
def bgn (I : Nat → Nat → Int32) (len top : Nat) : Nat → Nat → Int32 := aU (aU (aU (aU I 46 13 0) 46 15 (nI len)) 46 16 (nI top)) 46 10 0
theorem bgn_F (I : Nat → Nat → Int32) (len top : Nat) : Fr [46] I (bgn I len top) := by
  unfold bgn
  rw [aU_R, aU_R, aU_R, aU_R]
  exact Fr_s (Fr_s (Fr_s (Fr_s (Fr_r _ _) _ (by decide)) _ (by decide)) _ (by decide)) _ (by decide)
theorem bgn_46 (I : Nat → Nat → Int32) (len top : Nat) : F46 (10 :: scf) I (bgn I len top) := by
  intro j hj
  unfold bgn
  rw [aU_i _ _ (fun e => hj (by rw [e]; decide)), aU_i _ _ (fun e => hj (by rw [e]; decide)), aU_i _ _ (fun e => hj (by rw [e]; decide)), aU_i _ _ (fun e => hj (by rw [e]; decide))]
theorem bgn_15 (I : Nat → Nat → Int32) (len top : Nat) : bgn I len top 46 15 = nI len := by
  unfold bgn; rw [aU_i _ _ (by decide), aU_i _ _ (by decide), aU_s]
theorem bgn_16 (I : Nat → Nat → Int32) (len top : Nat) : bgn I len top 46 16 = nI top := by
  unfold bgn; rw [aU_i _ _ (by decide), aU_s]
theorem bgn_10 (I : Nat → Nat → Int32) (len top : Nat) : bgn I len top 46 10 = 0 := by
  unfold bgn; rw [aU_s]
theorem f183 {len top : Nat} (h : I 46 10 = nI len) : aF d 183 [.ref 46, .int (nI top)] (g, aU I 46 13 0, J, aP1 sl rd 56) = some (some none, (g, pM (bgn I len top) (0, -1), J, aP1 sl 53 56)) := by
  show aE d 183 0 [.ref 46, .int (nI top)] [] _ = _
  rw [b183_0, aU_i _ _ (show 10 ≠ 13 by decide), h, f184_52]
  simp only [aBv]
  rw [b183_13, pM_u _ _ (by decide) (by decide)]
  rfl
/-! a colour's letter, the reference -/
def clR (sg : Nat → Int32) (p : Nat × Int32) : Int32 × (Nat × Int32) := if pk sg p = 98 then (0, adv p) else (1, nd sg 103 p)
theorem cl_2 (sg : Nat → Int32) (p : Nat × Int32) : (clR sg p).2 = (cl sg p).2 := by
  unfold clR cl nd tk
  by_cases h1 : pk sg p = 98
  · rw [if_pos h1, if_neg (by rw [h1]; decide), if_neg (by rw [h1]; decide), if_pos (by rw [h1]; decide)]
  · rw [if_neg h1]
    by_cases h2 : pk sg p = 103
    · rw [if_pos h2, if_pos h2]
    · rw [if_neg h2, if_neg h2]
      by_cases h3 : pk sg p < 98
      · rw [if_pos h3]
      · rw [if_neg h3, if_neg (fun h => h1 (Int32.le_antisymm h (by rw [int_le]; rw [int_lt] at h3; omega)))]
theorem cl_v {sg : Nat → Int32} {p : Nat × Int32} (hp : p.1 ≤ 80) (h : (cl sg p).2.2 = -1) : p.2 = -1 ∧ (clR sg p).1 = (cl sg p).1 ∧ ∃ c, c < 2 ∧ (cl sg p).1 = nI c := by
  unfold cl at h
  unfold clR cl
  by_cases h1 : pk sg p = 103
  · rw [if_pos h1] at h
    rw [if_pos h1, if_neg (by rw [h1]; decide)]
    exact ⟨h, rfl, 1, by decide, rfl⟩
  · rw [if_neg h1] at h
    obtain ⟨e, u1, u2, u3⟩ := tk_fine hp h
    have e98 : pk sg p = 98 := Int32.le_antisymm u2 (by rw [int_le]; rw [int_lt] at u1; omega)
    rw [if_neg h1, if_pos e98]
    exact ⟨u3, rfl, 0, by decide, rfl⟩
theorem wrk_cl {sg : Nat → Int32} {p : Nat × Int32} (hp : p.1 ≤ 80) (h : wrk p) : wrk (cl sg p).2 := by
  unfold cl
  split
  · exact h
  · exact wrk_t hp h
theorem nm1_2 (sg : Nat → Int32) (v : Int32) (p : Nat × Int32) : (nmL sg 1 v p).2.2 = p.2 := by
  unfold nmL
  (repeat' split) <;> rfl
theorem wrk_nm {sg : Nat → Int32} {p : Nat × Int32} (hp : p.1 ≤ 80) (h : wrk p) : wrk (nm sg 1 p).2 := by
  have h2 := wrk_t (sg := sg) (lo := 48) (hi := 57) hp h
  unfold wrk at h2 ⊢
  rw [show (nm sg 1 p).2.2 = (tk sg 48 57 p).2.2 from nm1_2 _ _ _]
  exact h2
theorem dg99 : ∀ a, a ≤ 9 → ∀ b, b ≤ 9 → nI a * 10 + nI (48 + b) - 48 = nI (10 * a + b) := by decide +kernel
theorem nm1_v {sg : Nat → Int32} {p : Nat × Int32} (hp : p.1 ≤ 80) (h : (nm sg 1 p).2.2 = -1) : p.2 = -1 ∧ p.1 < (nm sg 1 p).2.1 ∧ ∃ k, k ≤ 99 ∧ (nm sg 1 p).1 = nI k := by
  have h : (tk sg 48 57 p).2.2 = -1 := by rw [← h]; exact (nm1_2 _ _ _).symm
  obtain ⟨e, u1, u2, u3⟩ := tk_fine hp h
  obtain ⟨x, hx, ex⟩ := digH (H := 9) u1 u2 rfl (by decide)
  have en : nm sg 1 p = nmL sg 1 (nI x) (adv p) := by unfold nm; rw [e, ← ex]
  rw [en]
  refine ⟨u3, ?_⟩
  unfold nmL
  by_cases h1 : pk sg (adv p) < 48
  · rw [if_pos h1]; exact ⟨Nat.lt_succ_self _, x, by omega, rfl⟩
  · rw [if_neg h1]
    by_cases h2 : pk sg (adv p) ≤ 57
    · rw [if_pos h2]
      obtain ⟨y, hy, ey⟩ := digH (H := 9) h1 h2 rfl (by decide)
      refine ⟨Nat.lt_succ_of_lt (Nat.lt_succ_self _), 10 * x + y, by omega, ?_⟩
      have e2 : pk sg (adv p) = nI (48 + y) := by
        have : pk sg (adv p) = nI y + 48 := by rw [← ey]; rw [Int32.sub_add_cancel]
        rw [this, Nat.add_comm]; exact nI_add y 48
      show nI x * 10 + pk sg (adv p) - 48 = nI (10 * x + y)
      rw [e2]
      exact dg99 x hx y hy
    · rw [if_neg h2]; exact ⟨Nat.lt_succ_self _, x, by omega, rfl⟩
section R
variable {len top : Nat} {sg : Nat → Int32}
theorem f190 {p : Nat × Int32} (hl : I 46 15 = nI len) (ht : I 46 16 = nI top) (h1 : len ≤ 80) (h2 : top ≤ 80) (hp : p.1 ≤ 80) : aF d 190 [.ref 46] (g, pM I p, J, aP1 sl 53 rl) = some (some (some (.int (clR (sgn (I 52) len top) p).1)), (g, pM I (clR (sgn (I 52) len top) p).2, J, aP1 sl 53 rl)) := by
  show aE d 190 0 [.ref 46] [] _ = _
  rw [b190_0, f191_52 hl ht h1 h2 hp (by decide)]
  simp only [aBi]
  rw [b190_6]
  unfold clR ps
  by_cases h : pk (sgn (I 52) len top) p = 98
  · rw [if_pos h, if_pos h, decide_eq_true h, if_neg (by decide)]
  · rw [if_neg h, if_neg h, decide_eq_false h, if_pos tI_f, f192_52 hl ht h1 h2 hp (by decide)]
    simp only [aBv]
    rw [b190_17]
end R
