/-! limit, the text, what is heard, kept states, races: tied -/
variable {d : Nat} {g : Nat × Nat × Nat} {I : Nat → Nat → Int32} {J : Nat → Nat → Int64} {sl rd rl : Nat} {t n m q : Nat}
theorem tie_limit (H : zInv t n m q I J) (a : Int32) : tie d 59 218 [.int a] t g I J sl rd := by
  have no (hx : a < 1 ∨ 99 < a) : tie d 59 218 [.int a] t g I J sl rd := by
    refine tie_0 (rd2 := rd) (v := -1) H (Fr_r _ _) (th_F _) (th_46 _) ?_ ?_
    · show aE d 59 0 [.ref 6, .int a, aNo] [] _ = _
      rw [b59_0]
      rcases hx with hx | hx
      · rw [if_pos hx]
      · rw [if_neg (c := a ≤ 99) (by rw [nle_lt]; exact hx), ite_self]
    · show aE d 218 0 [.ref 46, .int a, aNo] [] _ = _
      rw [b218_0, f181, inI_f hx]
      simp only [aBi]
      rw [b218_12, if_pos rfl]
  by_cases h1 : a < 1
  · exact no (Or.inl h1)
  by_cases h2 : 99 < a
  · exact no (Or.inr h2)
  refine ⟨I 14 11, aU I 14 11 a, J, aU (aU (aU I 14 11 a) 46 13 0) 46 8 a, J, rd, n, m, q, ?_, ?_, zInv_up ?_, by simp (disch := decide) only [aU_r]⟩
  · show aE d 59 0 [.ref 6, .int a, aNo] [] _ = _
    rw [b59_0, if_neg h1, if_pos (by rw [← nle_lt] at h2; exact Classical.byContradiction h2)]
  · show aE d 218 0 [.ref 46, .int a, aNo] [] _ = _
    rw [b218_0, f181, inI_t h1 h2]
    simp only [aBi]
    rw [b218_12, if_neg (by decide), aU_i _ _ (by decide), aU_r _ _ (by decide), ← H.2.2.2.2.2.1]
  · obtain ⟨a1, a2, a3, a4, a5, a6, a7, a8, a9, b1, b2⟩ := H
    unfold zInv
    simp (disch := decide) only [aU_r, aU_i, aU_s]
    exact ⟨a1, a2, a3, a4, a5, trivial, a7, a8, a9, b1, b2⟩
theorem tie_forget (H : zInv t n m q I J) : tie d 150 278 [] t g I J sl rd := by
  obtain ⟨k, h1, h2, h3, h4⟩ := H.2.2.2.2.2.2.2.2.2.2
  refine ⟨I 42 2, aU I 42 2 0, J, aU (aU (aU I 42 2 0) 46 13 0) 46 35 0, J, rd, n, m, q, ?_, ?_, zInv_up ?_, by simp (disch := decide) only [aU_r]⟩
  · show aE d 150 0 [.ref 6] [] _ = _
    rw [b150_0, show aF d 151 [.ref 42] (g, I, J, aP1 sl rd 56) = some (some (some (.int (I 42 2))), (g, aU I 42 2 0, J, aP1 sl rd 56)) from by
      show aE d 151 0 [.ref 42, aNo] [] _ = _
      rw [b151_0]]
    simp only [aBi]
    rw [b150_7]
  · show aE d 278 0 [.ref 46, aNo] [] _ = _
    rw [b278_0, aU_r _ _ (by decide), h3, h2]
  · obtain ⟨a1, a2, a3, a4, a5, a6, a7, a8, a9, b1, b2⟩ := H
    unfold zInv
    simp (disch := decide) only [aU_r, aU_i, aU_s]
    exact ⟨a1, a2, a3, a4, a5, a6, a7, a8, a9, b1, ⟨0, by decide, rfl, rfl, fun i hi => by omega⟩⟩
def mO (a : Int32) : Int32 := if a = 0 then 1 else if a = 1 then 99 else if a = 2 then 9 else if a = 3 then 8 else if a = 4 then 8 else -1
theorem f149 (a : Int32) : aF d 149 [.int a] (g, I, J, aP1 sl rd rl) = some (some (some (.int (mO a))), (g, I, J, aP1 sl rd rl)) := by
  show aE d 149 0 [.int a] [] _ = _
  rw [b149_0]
  unfold mO
  by_cases h0 : a = 0
  · subst h0; rw [b149_1_c0]; rfl
  by_cases h1 : a = 1
  · subst h1; rw [b149_1_c1]; rfl
  by_cases h2 : a = 2
  · subst h2; rw [b149_1_c2]; rfl
  by_cases h3 : a = 3
  · subst h3; rw [b149_1_c3]; rfl
  by_cases h4 : a = 4
  · subst h4; rw [b149_1_c4]; rfl
  rw [if_neg h0, if_neg h1, if_neg h2, if_neg h3, if_neg h4, s149_1 _ _ _ _ (by
    apply Classical.byContradiction; intro h
    have q : ∀ k : Int32, a ≠ k → a.toInt ≠ k.toInt := fun k hk e => hk (Int32.toInt_inj.mp e)
    have e0 := q 0 h0
    have e1 := q 1 h1
    have e2 := q 2 h2
    have e3 := q 3 h3
    have e4 := q 4 h4
    have : (0 : Int32).toInt = 0 := rfl
    have : (1 : Int32).toInt = 1 := rfl
    have : (2 : Int32).toInt = 2 := rfl
    have : (3 : Int32).toInt = 3 := rfl
    have : (4 : Int32).toInt = 4 := rfl
    omega), b149_47]
theorem ix5 (a : Int32) : (a < 0 ∨ 4 < a) ∨ ∃ k, k < 5 ∧ a = nI k := by
  rcases pk_ix a (by decide : 5 < 2 ^ 31) with h | h | h
  · exact Or.inl (Or.inl h)
  · refine Or.inl (Or.inr ?_)
    rw [int_le] at h
    rw [int_lt]
    have : (nI 5).toInt = 5 := rfl
    have : (4 : Int32).toInt = 4 := rfl
    omega
  · exact Or.inr h
theorem mO_no {a : Int32} (h : a < 0 ∨ 4 < a) : mO a = -1 := by
  have q : ∀ k : Int32, 0 ≤ k.toInt → k.toInt ≤ 4 → a ≠ k := fun k h1 h2 e => by
    subst e
    have : (0 : Int32).toInt = 0 := rfl
    have : (4 : Int32).toInt = 4 := rfl
    rcases h with h | h <;> rw [int_lt] at h <;> omega
  unfold mO
  rw [if_neg (q _ (by decide) (by decide)), if_neg (q _ (by decide) (by decide)), if_neg (q _ (by decide) (by decide)), if_neg (q _ (by decide) (by decide)), if_neg (q _ (by decide) (by decide))]
theorem tie_heard (H : zInv t n m q I J) (a b : Int32) : tie d 147 277 [.int a, .int b] t g I J sl rd := by
  obtain ⟨k, h1, h2, h3, h4⟩ := H.2.2.2.2.2.2.2.2.2.2
  -- the class's answer
  have C : aF d 147 [.ref 6, .int a, .int b] (g, I, J, aP1 sl rd 56) = if 12 ≤ k ∨ b < 0 ∨ ¬ b ≤ mO a then some (some (some (.int (-1))), (g, I, J, aP1 sl rd 56)) else some (some (some (.int (nI (k + 1)))), (g, aU (aU (aU I 43 k a) 44 k b) 42 2 (nI (k + 1)), J, aP1 sl rd 56)) := by
    show aE d 147 0 [.ref 6, .int a, .int b] [] _ = _
    have e : aF d 148 [.ref 42, .int a, .int b] (g, I, J, aP1 sl rd 56) = if 12 ≤ k ∨ b < 0 ∨ ¬ b ≤ mO a then some (some (some (.int (-1))), (g, I, J, aP1 sl rd 56)) else some (some (some (.int (nI (k + 1)))), (g, aU (aU (aU I 43 k a) 44 k b) 42 2 (nI (k + 1)), J, aP1 sl rd 56)) := by
      show aE d 148 0 [.ref 42, .int a, .int b] [] _ = _
      rw [b148_0, h2]
      by_cases q1 : 12 ≤ k
      · rw [if_pos (show 12 ≤ nI k from nI_le (a := 12) q1 (by omega)), if_pos (Or.inl q1)]
      · rw [if_neg (show ¬ 12 ≤ nI k from nI_ge (b := 12) (by omega) (by decide))]
        by_cases q2 : b < 0
        · rw [if_pos q2, if_pos (Or.inr (Or.inl q2))]
        · rw [if_neg q2, f149]
          simp only [aBi]
          rw [b148_18]
          by_cases q3 : b ≤ mO a
          · rw [if_pos q3, if_neg (show ¬ (12 ≤ k ∨ b < 0 ∨ ¬ b ≤ mO a) from fun q => by
              rcases q with q | q | q
              · exact q1 q
              · exact q2 q
              · exact q q3)]
            simp (disch := omega) only [h2, aBi, aBv, aBl, nI_1, nIle_t, nIle_f, nIlt_t, nIlt_f, nIeq_t, nIeq_f, nIneg, nI_clamp, nat_le_f, nat_le_t, nat_lt_f, nat_lt_t, or_self, or_false, false_or, if_true, if_false, ↓reduceIte, Int32.or_zero, Int32.add_zero, nIm2, nIm3, nIm4, nIp2, nIp4, nIp6, nIp8, nIp14, nIp16, nIp22, nIp24, nIp30, nIq2, nIq3, nIq4, hasI_0, aU_s, aU_i, aU_r, aU_u]
          · rw [if_neg q3, if_pos (Or.inr (Or.inr q3))]
    rw [b147_0, e]
    split
    · simp only [aBi]; rw [b147_9]
    · simp only [aBi]; rw [b147_9]
  -- the reference's
  have R (I1 : Nat → Nat → Int32) (r46 : I1 46 = I 46) : aF d 277 [.ref 46, .int a, .int b] (g, I1, J, aP1 sl rd 56) = if 12 ≤ k ∨ b < 0 ∨ ¬ b ≤ mO a then some (some (some (.int (-1))), (g, aU I1 46 13 0, J, aP1 sl rd 56)) else some (some (some (.int (nI (k + 1)))), (g, aU (aU (aU (aU I1 46 13 0) 62 k a) 63 k b) 46 35 (nI (k + 1)), J, aP1 sl rd 56)) := by
    show aE d 277 0 [.ref 46, .int a, .int b, aNo] [] _ = _
    have go (M : Int32) (hM : mO a = M) (hin : inI a 0 4 = 1) : aBi (aF d 181 [.int a, .int 0, .int 4] (g, aU I1 46 13 0, J, aP1 sl rd 56)) (fun x t => aE d 277 42 [.ref 46, .int a, .int b, .int M] [.int x] t) = if 12 ≤ k ∨ b < 0 ∨ ¬ b ≤ mO a then some (some (some (.int (-1))), (g, aU I1 46 13 0, J, aP1 sl rd 56)) else some (some (some (.int (nI (k + 1)))), (g, aU (aU (aU (aU I1 46 13 0) 62 k a) 63 k b) 46 35 (nI (k + 1)), J, aP1 sl rd 56)) := by
      rw [f181, hin]
      simp only [aBi]
      rw [b277_42, if_neg (by decide), f181]
      simp only [aBi]
      rw [b277_51, aU_i _ _ (by decide), r46, h3, hM]
      by_cases q2 : b < 0
      · rw [inI_f (Or.inl q2), if_pos rfl, if_pos (Or.inr (Or.inl q2))]
      · by_cases q3 : b ≤ M
        · rw [inI_t q2 (by rw [← nle_lt]; exact fun q => q q3), if_neg (by decide)]
          by_cases q1 : 12 ≤ k
          · rw [if_pos (show nI k = 12 by rw [show k = 12 by omega]; rfl), if_pos (Or.inl q1)]
          · rw [if_neg (show ¬ nI k = 12 from fun e => q1 (by have := (nI_eq (b := 12) (by omega) (by decide)).mp e; omega)), if_neg (show ¬ (12 ≤ k ∨ b < 0 ∨ ¬ b ≤ M) from fun q => by
              rcases q with q | q | q
              · exact q1 q
              · exact q2 q
              · exact q q3)]
            simp (disch := omega) only [aBi, aBv, aBl, nI_1, nIle_t, nIle_f, nIlt_t, nIlt_f, nIeq_t, nIeq_f, nIneg, nI_clamp, nat_le_f, nat_le_t, nat_lt_f, nat_lt_t, or_self, or_false, false_or, if_true, if_false, ↓reduceIte, Int32.or_zero, Int32.add_zero, nIm2, nIm3, nIm4, nIp2, nIp4, nIp6, nIp8, nIp14, nIp16, nIp22, nIp24, nIp30, nIq2, nIq3, nIq4, hasI_0, aU_s, aU_i, aU_r, aU_u]
        · rw [inI_f (Or.inr (by rw [← nle_lt]; exact q3)), if_pos rfl, if_pos (Or.inr (Or.inr q3))]
    rw [b277_0]
    rcases ix5 a with h5 | ⟨j, hj, rfl⟩
    · have hne : ∀ i : Int32, 0 ≤ i.toInt → i.toInt ≤ 4 → a ≠ i := fun i p1 p2 e => by
        subst e
        have : (0 : Int32).toInt = 0 := rfl
        have : (4 : Int32).toInt = 4 := rfl
        rcases h5 with h | h <;> rw [int_lt] at h <;> omega
      rw [if_neg (hne _ (by decide) (by decide)), if_neg (hne _ (by decide) (by decide)), if_neg (hne _ (by decide) (by decide)), f181, inI_f h5]
      simp only [aBi]
      rw [b277_42, if_pos rfl, mO_no h5]
      by_cases q2 : b < 0
      · rw [if_pos (Or.inr (Or.inl q2))]
      · rw [if_pos (Or.inr (Or.inr (by rw [int_le]; rw [int_lt] at q2; have : (0 : Int32).toInt = 0 := rfl; have : (-1 : Int32).toInt = -1 := rfl; omega)))]
    · rcases (by omega : j = 0 ∨ j = 1 ∨ j = 2 ∨ j = 3 ∨ j = 4) with rfl | rfl | rfl | rfl | rfl
      · rw [if_pos (by decide)]; exact go 1 (by decide) (by decide)
      · rw [if_neg (by decide), if_pos (by decide)]; exact go 99 (by decide) (by decide)
      · rw [if_neg (by decide), if_neg (by decide), if_pos (by decide)]; exact go 9 (by decide) (by decide)
      · rw [if_neg (by decide), if_neg (by decide), if_neg (by decide)]; exact go 8 (by decide) (by decide)
      · rw [if_neg (by decide), if_neg (by decide), if_neg (by decide)]; exact go 8 (by decide) (by decide)
  by_cases hx : 12 ≤ k ∨ b < 0 ∨ ¬ b ≤ mO a
  · refine tie_0 (rd2 := rd) (v := -1) H (Fr_r _ _) (th_F _) (th_46 _) ?_ ?_
    · exact C.trans (if_pos hx)
    · exact (R I rfl).trans (if_pos hx)
  · refine ⟨nI (k + 1), aU (aU (aU I 43 k a) 44 k b) 42 2 (nI (k + 1)), J, aU (aU (aU (aU (aU (aU (aU I 43 k a) 44 k b) 42 2 (nI (k + 1))) 46 13 0) 62 k a) 63 k b) 46 35 (nI (k + 1)), J, rd, n, m, q, C.trans (if_neg hx), ?_, zInv_up ?_, by simp (disch := decide) only [aU_r]⟩
    · exact (R _ (by simp (disch := decide) only [aU_r])).trans (if_neg hx)
    · have hk : k < 12 := by omega
      have hb : ¬ b < 0 := fun q => hx (Or.inr (Or.inl q))
      have hb2 : b ≤ mO a := Classical.byContradiction (fun q => hx (Or.inr (Or.inr q)))
      have ha : ∃ p, p < 5 ∧ a = nI p := by
        rcases ix5 a with h5 | h5
        · exfalso
          rw [mO_no h5] at hb2
          rw [int_le] at hb2
          rw [int_lt] at hb
          have : (0 : Int32).toInt = 0 := rfl
          have : (-1 : Int32).toInt = -1 := rfl
          omega
        · exact h5
      have hb3 : ∃ p, p ≤ 99 ∧ b = nI p := by
        refine nI_of2 (M := 99) (n := 99) rfl hb ?_
        obtain ⟨p, hp, rfl⟩ := ha
        have e : mO (nI p) ≤ 99 := by
          rcases (by omega : p = 0 ∨ p = 1 ∨ p = 2 ∨ p = 3 ∨ p = 4) with rfl | rfl | rfl | rfl | rfl <;> decide
        rw [int_le] at *
        omega
      obtain ⟨a1, a2, a3, a4, a5, a6, a7, a8, a9, b1, b2⟩ := H
      unfold zInv
      simp (disch := decide) only [aU_r, aU_i, aU_s]
      refine ⟨a1, a2, a3, a4, a5, a6, a7, a8, a9, b1, ⟨k + 1, by omega, rfl, rfl, fun i hi => ?_⟩⟩
      by_cases e : i = k
      · subst e
        simp only [aU_s]
        refine ⟨trivial, trivial, ha, hb3, fun e0 => ?_⟩
        subst e0
        obtain ⟨p, hp, rfl⟩ := hb3
        refine ⟨p, ?_, rfl⟩
        have := nI_lei (b := 1) hb2 (by omega)
        omega
      · simp only [aU_i _ _ e]
        exact h4 i (by omega)
