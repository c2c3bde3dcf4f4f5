/-! a season's acts, read to the end: both sides -/
variable {d : Nat} {g : Nat × Nat × Nat} {I : Nat → Nat → Int32} {J : Nat → Nat → Int64} {sl rd rl : Nat} {t n m q : Nat}
theorem aR_id (I : Nat → Nat → Int32) (a : Nat) : aR I a (I a) = I := by
  funext b
  by_cases h : b = a
  · subst h; rw [aR_s]
  · rw [aR_r _ _ h]
section R
variable {len : Nat} {sg : Nat → Int32}
theorem f41 {p : Nat × Int32} (hl : I 7 1 = nI len) (h1 : len ≤ 80) (hp : p.1 ≤ 80) (v : Int32) : ∃ p', aF d 41 [.ref 9, .int v] (g, pC I p, J, aP1 sl rd rl) = some (some (some (.int (if rW p len = -1 then v else -1 - rW p len))), (g, pC I p', J, aP1 sl rd rl)) := by
  have e : aF d 41 [.ref 9, .int v] (g, pC I p, J, aP1 sl rd rl) = aE d 41 0 [.ref 9, .int v] [] (g, pC I p, J, aP1 sl rd rl) := rfl
  rw [e, b41_0, pC_2, pC_r _ _ (by decide), hl]
  unfold rW
  by_cases h : len ≤ p.1
  · refine ⟨p, ?_⟩
    rw [if_pos (nI_le h (by omega)), if_pos h, b41_22, pC_3]
    split <;> rfl
  · refine ⟨flt p (nI p.1), ?_⟩
    rw [if_neg (nI_ge (by omega) (by omega)), if_neg h, f37]
    simp only [aBv]
    rw [b41_22, pC_3]
    split <;> rfl
def mtC (sg : Nat → Int32) (X : Nat → Int32) (i : Nat) : Prop := X (3 * i) = (actR sg (rP sg i)).1.1 ∧ X (3 * i + 1) = (actR sg (rP sg i)).1.2.1 ∧ X (3 * i + 2) = (actR sg (rP sg i)).1.2.2
theorem f103 {K : Nat} (hl : I 7 1 = nI len) (h1 : len ≤ 80) (hsg : sg = sgc (I 8) len 60) (hK : K ≤ 30) (k1 : pk sg (rP sg K) = -1) (k2 : ∀ j, j < K → ¬ pk sg (rP sg j) = -1) : ∃ I', Fr [9, 45] I I' ∧ (rW (rP sg K) len = -1 → ∀ i, i < K → mtC sg (I' 45) i) ∧ aF d 103 [.ref 9, .ref 45] (g, I, J, aP1 sl rd rl) = some (some (some (.int (if rW (rP sg K) len = -1 then nI K else -1 - rW (rP sg K) len))), (g, I', J, aP1 sl rd rl)) := by
  have hE : sgE sg 60 := by rw [hsg]; exact sgc_E _ _ _
  generalize hI0 : aU I 9 1 60 = I0
  have F0 : Fr [9, 45] I I0 := by rw [← hI0, aU_R]; exact Fr_s (Fr_r _ _) _ (by decide)
  have hm : I0 9 1 = nI 60 := by rw [← hI0, aU_s]; rfl
  have hl0 : I0 7 1 = nI len := by rw [F0 7 (by decide)]; exact hl
  have hsg0 : sg = sgc (I0 8) len 60 := by rw [F0 8 (by decide)]; exact hsg
  have lp : ∀ (M j : Nat) (X : Nat → Int32) (w4 : Value), j + M = K → (rW (rP sg K) len = -1 → ∀ i, i < j → mtC sg X i) → ∃ X' w4', (rW (rP sg K) len = -1 → ∀ i, i < K → mtC sg X' i) ∧ aE d 103 10 [.ref 9, .ref 45, .int (nI j), .int (nI (3 * j)), w4] [] (g, pC (aR I0 45 X) (rP sg j), J, aP1 sl rd rl) = aE d 103 10 [.ref 9, .ref 45, .int (nI K), .int (nI (3 * K)), w4'] [] (g, pC (aR I0 45 X') (rP sg K), J, aP1 sl rd rl) := by
    intro M
    induction M with
    | zero =>
      intro j X w4 hj hX
      obtain rfl : j = K := by omega
      exact ⟨X, w4, hX, rfl⟩
    | succ M ih =>
      intro j X w4 hj hX
      obtain ⟨X1, w1, c1, c2, c3⟩ := c103 (d := d) (g := g) (I := I0) (J := J) (sl := sl) (rd := rd) (rl := rl) (len := len) (sg := sg) hm hl0 h1 hsg0 X (rP sg j) (rP_le hE (fun i hi => k2 i (by omega))) j (by omega) w4 (k2 j (by omega))
      obtain ⟨X', w', d1, d2⟩ := ih (j + 1) X1 w1 (by omega) (fun h i hi => by
        by_cases e : i = j
        · subst e
          refine c2 ?_
          show (rP sg (i + 1)).2 = -1
          by_cases e2 : i + 1 = K
          · rw [e2]; exact rW_2 h
          · exact pk_2 (k2 (i + 1) (by omega))
        · obtain ⟨u1, u2, u3⟩ := hX h i (by omega)
          exact ⟨by rw [c1 _ (by omega)]; exact u1, by rw [c1 _ (by omega)]; exact u2, by rw [c1 _ (by omega)]; exact u3⟩)
      exact ⟨X', w', d1, c3.trans d2⟩
  obtain ⟨X, w, a1, a2⟩ := lp K 0 (I0 45) aNo (by omega) (fun _ i hi => by omega)
  obtain ⟨p', a3⟩ := f41 (d := d) (g := g) (I := aR I0 45 X) (J := J) (sl := sl) (rd := rd) (rl := rl) (len := len) (p := rP sg K) (by rw [aR_r _ _ (by decide)]; exact hl0) h1 (Nat.le_trans (rP_le hE k2) (by decide)) (nI K)
  have e30 := f30 (d := d) (g := g) (I := aR I0 45 X) (J := J) (sl := sl) (rd := rd) (rl := rl) (p := rP sg K) (len := len) (top := 60) (by rw [aR_r _ _ (by decide)]; exact hm) (by rw [aR_r _ _ (by decide)]; exact hl0) h1 (by decide) (Nat.le_trans (rP_le hE k2) (by decide))
  rw [aR_r _ _ (show 8 ≠ 45 by decide), ← hsg0, k1] at e30
  refine ⟨pC (aR I0 45 X) p', ?_, ?_, ?_⟩
  · unfold pC; exact Fr_s (Fr_s F0 _ (by decide)) _ (by decide)
  · rw [pC_r _ _ (by decide), aR_s]; exact a1
  · show aE d 103 0 [.ref 9, .ref 45, aNo, aNo, aNo] [] _ = _
    have e2 : nI (3 * K) + 2 = nI (3 * K + 2) := nI_add (3 * K) 2
    have a2 : aE d 103 10 [.ref 9, .ref 45, .int 0, .int 0, aNo] [] (g, pC I0 (0, -1), J, aP1 sl rd rl) = aE d 103 10 [.ref 9, .ref 45, .int (nI K), .int (nI (3 * K)), w] [] (g, pC (aR I0 45 X) (rP sg K), J, aP1 sl rd rl) := by
      have q : aR I0 45 (I0 45) = I0 := aR_id _ _
      rw [q] at a2
      exact a2
    have f29' : aF d 29 [.ref 9, .int 60] (g, I, J, aP1 sl rd rl) = some (some none, (g, pC I0 (0, -1), J, aP1 sl rd rl)) := by rw [f29, hI0]
    rw [b103_0, f29']
    simp only [aBv]
    rw [b103_6, a2, b103_10, e2]
    by_cases h : K = 30
    · rw [if_pos (show 90 ≤ nI (3 * K + 2) from nI_le (a := 90) (by omega) (by omega)), a3]
      simp only [aBi]
      rw [b103_255]
    · rw [if_neg (show ¬ 90 ≤ nI (3 * K + 2) from nI_ge (b := 90) (by omega) (by omega)), e30]
      simp only [aBi]
      rw [b103_22, if_pos rfl, a3]
      simp only [aBi]
      rw [b103_255]
/-- the reference reads an act -/
def mtR (sg : Nat → Int32) (X : Nat → Int32) (i : Nat) : Prop := X (3 * i) = (actR sg (rP sg i)).1.1 ∧ X (3 * i + 1) = (actR sg (rP sg i)).1.2.1 ∧ (¬ (actR sg (rP sg i)).1.1 = 100 → ¬ (actR sg (rP sg i)).1.1 = 114 → X (3 * i + 2) = (actR sg (rP sg i)).1.2.2)
theorem c244 (hl : I 46 15 = nI len) (ht : I 46 16 = nI 60) (h1 : len ≤ 80) (hB : byR (I 52)) (hsg : sg = sgn (I 52) len 60) (X : Nat → Int32) (p : Nat × Int32) (hp : p.1 ≤ 60) (p2 : p.2 = -1) (j : Nat) (hj : j ≤ 30) : ∃ X', (∀ k, k < 3 * j → X' k = X k) ∧ ((actR sg p).2.2 = -1 → X' (3 * j) = (actR sg p).1.1 ∧ X' (3 * j + 1) = (actR sg p).1.2.1 ∧ (¬ (actR sg p).1.1 = 100 → ¬ (actR sg p).1.1 = 114 → X' (3 * j + 2) = (actR sg p).1.2.2)) ∧ aF d 244 [.ref 46, .int (nI (3 * j))] (g, pM (aR I 61 X) p, J, aP1 sl 53 rl) = some (some none, (g, pM (aR I 61 X') (actR sg p).2, J, aP1 sl 53 rl)) := by
  have hE : sgE sg 60 := by rw [hsg]; exact sgn_E _ _ _
  have g188 : aF d 188 [.ref 46] (g, pM (aR I 61 X) p, J, aP1 sl 53 rl) = some (some (some (.int (pk sg p))), (g, pM (aR I 61 X) p, J, aP1 sl 53 rl)) := by
    have f := f188_52 (d := d) (g := g) (I := aR I 61 X) (J := J) (sl := sl) (rl := rl) (p := p) (len := len) (top := 60) (by rw [aR_r _ _ (by decide)]; exact hl) (by rw [aR_r _ _ (by decide)]; exact ht) h1 (by decide) (by omega)
    rw [aR_r _ _ (show 52 ≠ 61 by decide), ← hsg] at f
    rw [f]
    unfold pk
    rw [if_pos p2]
  have g187 : ∀ (X : Nat → Int32) (p : Nat × Int32) (many hi : Int32), p.1 ≤ 80 → 48 + many - 1 = hi → hi < 128 → aF d 187 [.ref 46, .int 48, .int many] (g, pM (aR I 61 X) p, J, aP1 sl 53 rl) = some (some (some (.int ((tk sg 48 hi p).1 - 48))), (g, pM (aR I 61 X) (tk sg 48 hi p).2, J, aP1 sl 53 rl)) := by
    intro X p many hi hp hh hhi
    have f := f187_52 (d := d) (g := g) (I := aR I 61 X) (J := J) (sl := sl) (rl := rl) (p := p) (len := len) (top := 60) (by rw [aR_r _ _ (by decide)]; exact hl) (by rw [aR_r _ _ (by decide)]; exact ht) h1 (by decide) hp (by rw [aR_r _ _ (by decide)]; exact hB) (lo := 48) (many := many) (hi := hi) (by decide) hh hhi
    rw [aR_r _ _ (show 52 ≠ 61 by decide), ← hsg] at f
    exact f
  have e1 : nI (3 * j) + 1 = nI (3 * j + 1) := nI_1 _
  have e2 : nI (3 * j) + 2 = nI (3 * j + 2) := nI_add (3 * j) 2
  have au : ∀ X : Nat → Int32, aU (aU (pM (aR I 61 X) p) 46 17 (pM (aR I 61 X) p 46 17 + 1)) 61 (3 * j) (pk sg p) = pM (aR I 61 (upd X (3 * j) (pk sg p))) (adv p) := by
    intro X
    rw [pM_17, nI_1, pM_u17, pM_61]
    rfl
  have en : aF d 244 [.ref 46, .int (nI (3 * j))] (g, pM (aR I 61 X) p, J, aP1 sl 53 rl) = aE d 244 4 [.ref 46, .int (nI (3 * j)), aNo, aNo] [.int (pk sg p)] (g, pM (aR I 61 X) p, J, aP1 sl 53 rl) := by
    show aE d 244 0 [.ref 46, .int (nI (3 * j)), aNo, aNo] [] _ = _
    rw [b244_0, g188]
    rfl
  by_cases k1 : pk sg p = 98 ∨ pk sg p = 99 ∨ pk sg p = 103
  · have hk : ¬ pk sg p = -1 := by rcases k1 with h | h | h <;> rw [h] <;> decide
    have pl := pk_at hE hk
    have a1 : (adv p).1 ≤ 60 := pl
    have b1 := (tk_at hE (lo := 48) (hi := 49) (by decide) a1).2
    have b2 := (tk_at hE (lo := 48) (hi := 57) (by decide) b1).2
    have ea : actR sg p = ((pk sg p, (tk sg 48 49 (adv p)).1 - 48, (tk sg 48 57 (tk sg 48 49 (adv p)).2).1 - 48), (tk sg 48 57 (tk sg 48 49 (adv p)).2).2) := if_pos k1
    refine ⟨upd (upd (upd X (3 * j) (pk sg p)) (3 * j + 1) ((tk sg 48 49 (adv p)).1 - 48)) (3 * j + 2) ((tk sg 48 57 (tk sg 48 49 (adv p)).2).1 - 48), fun k hk => by rw [upd_n _ _ (by omega), upd_n _ _ (by omega), upd_n _ _ (by omega)], fun _ => ?_, ?_⟩
    · rw [ea]
      exact ⟨by rw [upd_n _ _ (by omega), upd_n _ _ (by omega), upd_s], by rw [upd_n _ _ (by omega), upd_s], fun _ _ => by rw [upd_s]⟩
    · have T : aE d 244 23 [.ref 46, .int (nI (3 * j)), .int (pk sg p), aNo] [] (g, pM (aR I 61 X) p, J, aP1 sl 53 rl) = some (some none, (g, pM (aR I 61 (upd (upd (upd X (3 * j) (pk sg p)) (3 * j + 1) ((tk sg 48 49 (adv p)).1 - 48)) (3 * j + 2) ((tk sg 48 57 (tk sg 48 49 (adv p)).2).1 - 48))) (tk sg 48 57 (tk sg 48 49 (adv p)).2).2, J, aP1 sl 53 rl)) := by
        have n115 : ¬ pk sg p = 115 := by rcases k1 with h | h | h <;> rw [h] <;> decide
        rw [b244_23, b244_28, if_neg (by decide), b244_60, nI_clamp (by omega), if_neg (t240 (by omega)), if_neg (by decide), au, b244_97, g187 _ _ 2 49 (by omega) (by decide) (by decide), e1]
        simp only [aBi]
        rw [b244_100, nI_clamp (by omega), if_neg (t240 (by omega)), if_neg (by decide), pM_61, g187 _ _ 10 57 (by omega) (by decide) (by decide), e2]
        simp only [aBi]
        rw [b244_120, nI_clamp (by omega), if_neg (t240 (by omega)), pM_61, b244_121, if_neg n115, b244_142]
      rw [en, ea, b244_4]
      rcases k1 with h | h | h
      · rw [if_pos h]; exact T
      · rw [if_neg (by rw [h]; decide), if_pos h]; exact T
      · rw [if_neg (by rw [h]; decide), if_neg (by rw [h]; decide), if_pos h]; exact T
  have n98 : ¬ pk sg p = 98 := fun h => k1 (Or.inl h)
  have n99 : ¬ pk sg p = 99 := fun h => k1 (Or.inr (Or.inl h))
  have n103 : ¬ pk sg p = 103 := fun h => k1 (Or.inr (Or.inr h))
  have en2 : aF d 244 [.ref 46, .int (nI (3 * j))] (g, pM (aR I 61 X) p, J, aP1 sl 53 rl) = aE d 244 28 [.ref 46, .int (nI (3 * j)), .int (pk sg p), aNo] [.int 0] (g, pM (aR I 61 X) p, J, aP1 sl 53 rl) := by
    rw [en, b244_4, if_neg n98, if_neg n99, if_neg n103]
  by_cases k2 : pk sg p = 100 ∨ pk sg p = 114
  · have hk : ¬ pk sg p = -1 := by rcases k2 with h | h <;> rw [h] <;> decide
    have pl := pk_at hE hk
    have a1 : (adv p).1 ≤ 60 := pl
    have ea : actR sg p = ((pk sg p, (tk sg 48 57 (adv p)).1 - 48, 0), (tk sg 48 57 (adv p)).2) := by unfold actR; rw [if_neg k1, if_pos k2]
    refine ⟨upd (upd X (3 * j) (pk sg p)) (3 * j + 1) ((tk sg 48 57 (adv p)).1 - 48), fun k hk => by rw [upd_n _ _ (by omega), upd_n _ _ (by omega)], fun _ => ?_, ?_⟩
    · rw [ea]
      exact ⟨by rw [upd_n _ _ (by omega), upd_s], by rw [upd_s], fun h h2 => absurd k2 (by rintro (q | q); exact h q; exact h2 q)⟩
    · have n115 : ¬ pk sg p = 115 := by rcases k2 with h | h <;> rw [h] <;> decide
      have T : aE d 244 60 [.ref 46, .int (nI (3 * j)), .int (pk sg p), .int 0] [] (g, pM (aR I 61 X) p, J, aP1 sl 53 rl) = some (some none, (g, pM (aR I 61 (upd (upd X (3 * j) (pk sg p)) (3 * j + 1) ((tk sg 48 57 (adv p)).1 - 48))) (tk sg 48 57 (adv p)).2, J, aP1 sl 53 rl)) := by
        rw [b244_60, nI_clamp (by omega), if_neg (t240 (by omega)), if_pos rfl, au, b244_97, g187 _ _ 10 57 (by omega) (by decide) (by decide), e1]
        simp only [aBi]
        rw [b244_100, nI_clamp (by omega), if_neg (t240 (by omega)), if_pos rfl, pM_61, b244_121, if_neg n115, b244_142]
      rw [en2, ea, b244_28, if_pos rfl]
      rcases k2 with h | h
      · rw [if_neg (by rw [h]; decide), if_pos h]; exact T
      · rw [if_pos h]; exact T
  have n100 : ¬ pk sg p = 100 := fun h => k2 (Or.inl h)
  have n114 : ¬ pk sg p = 114 := fun h => k2 (Or.inr h)
  by_cases k3 : pk sg p = 115
  · have hk : ¬ pk sg p = -1 := by rw [k3]; decide
    have pl := pk_at hE hk
    have a1 : (adv p).1 ≤ 60 := pl
    have b1 := (tk_at hE (lo := 48) (hi := 57) (by decide) a1).2
    have ea : actR sg p = ((pk sg p, (tk sg 48 57 (adv p)).1 - 48, (tk sg 48 49 (tk sg 48 57 (adv p)).2).1 - 48), (tk sg 48 49 (tk sg 48 57 (adv p)).2).2) := by unfold actR; rw [if_neg k1, if_neg k2, if_pos k3]
    refine ⟨upd (upd (upd X (3 * j) (pk sg p)) (3 * j + 1) ((tk sg 48 57 (adv p)).1 - 48)) (3 * j + 2) ((tk sg 48 49 (tk sg 48 57 (adv p)).2).1 - 48), fun k hk => by rw [upd_n _ _ (by omega), upd_n _ _ (by omega), upd_n _ _ (by omega)], fun _ => ?_, ?_⟩
    · rw [ea]
      exact ⟨by rw [upd_n _ _ (by omega), upd_n _ _ (by omega), upd_s], by rw [upd_n _ _ (by omega), upd_s], fun _ _ => by rw [upd_s]⟩
    · rw [en2, ea, b244_28, if_pos rfl, if_neg n114, if_neg n100, if_pos k3, b244_60, nI_clamp (by omega), if_neg (t240 (by omega)), if_pos rfl, au, b244_97, g187 _ _ 10 57 (by omega) (by decide) (by decide), e1]
      simp only [aBi]
      rw [b244_100, nI_clamp (by omega), if_neg (t240 (by omega)), if_pos rfl, pM_61, b244_121, if_pos k3, g187 _ _ 2 49 (by omega) (by decide) (by decide), e2]
      simp only [aBi]
      rw [b244_141, nI_clamp (by omega), if_neg (t240 (by omega)), pM_61, b244_142]
  · have ea : actR sg p = ((pk sg p, 0, 0), flt p (nI p.1)) := by unfold actR; rw [if_neg k1, if_neg k2, if_neg k3]
    refine ⟨X, fun _ _ => rfl, fun h => ?_, ?_⟩
    · rw [ea] at h
      exact absurd h (by unfold flt; rw [if_pos p2]; exact nIm1c (by omega))
    · rw [en2, ea, b244_28, if_pos rfl, if_neg n114, if_neg n100, if_neg k3, pM_17, f186]
      simp only [aBv]
      rw [b244_59]
theorem f193 {p : Nat × Int32} (hl : I 46 15 = nI len) (h1 : len ≤ 80) (hp : p.1 ≤ 80) : ∃ p', p'.1 = p.1 ∧ p'.2 = rW p len ∧ aF d 193 [.ref 46] (g, pM I p, J, aP1 sl rd rl) = some (some (some (.int (tI (decide (rW p len = -1))))), (g, pM I p', J, aP1 sl rd rl)) := by
  have e : aF d 193 [.ref 46] (g, pM I p, J, aP1 sl rd rl) = aE d 193 0 [.ref 46] [] (g, pM I p, J, aP1 sl rd rl) := rfl
  have T : ∀ p : Nat × Int32, aE d 193 19 [.ref 46] [] (g, pM I p, J, aP1 sl rd rl) = some (some (some (.int (tI (decide (p.2 = -1))))), (g, pM I p, J, aP1 sl rd rl)) := by
    intro p
    rw [b193_19, f185]
    simp only [aBi]
    rw [b193_23, if_pos (nar_tI _)]
  rw [e, b193_0, pM_17, pM_o _ _ (by decide) (by decide), hl]
  unfold rW
  by_cases h : len ≤ p.1
  · refine ⟨p, rfl, by rw [if_pos h], ?_⟩
    rw [if_pos (nI_le h (by omega)), if_pos h, T]
  · refine ⟨flt p (nI p.1), flt_1 _ _, by rw [if_neg h], ?_⟩
    rw [if_neg (nI_ge (by omega) (by omega)), if_neg h, f186]
    simp only [aBv]
    rw [T]
theorem r243 {K : Nat} (hl : I 46 15 = nI len) (ht : I 46 16 = nI 60) (h1 : len ≤ 80) (hB : byR (I 52)) (hsg : sg = sgn (I 52) len 60) (hK : K ≤ 30) (k1 : pk sg (rP sg K) = -1) (k2 : ∀ j, j < K → ¬ pk sg (rP sg j) = -1) (w2 : Value) : ∃ X K' p', p'.2 = rW (rP sg K) len ∧ (rW (rP sg K) len = -1 → K' = K ∧ ∀ i, i < K → mtR sg X i) ∧ aE d 243 13 [.ref 46, .int 0, w2] [] (g, pM I (0, -1), J, aP1 sl 53 rl) = aE d 243 48 [.ref 46, .int (nI K'), w2] [.int (tI (decide (rW (rP sg K) len = -1)))] (g, pM (aR I 61 X) p', J, aP1 sl 53 rl) := by
  have hE : sgE sg 60 := by rw [hsg]; exact sgn_E _ _ _
  have hlX : ∀ (X : Nat → Int32) (p : Nat × Int32), pM (aR I 61 X) p 46 15 = nI len := fun X p => by rw [pM_o _ _ (by decide) (by decide), aR_r _ _ (by decide)]; exact hl
  have e3 : ∀ j : Nat, (3 : Int32) * nI j = nI (3 * j) := fun j => pk_mul 3 j
  -- one that is read
  have one : ∀ (X : Nat → Int32) (p : Nat × Int32) (j : Nat), p.1 ≤ 60 → p.2 = -1 → p.1 < len → j ≤ 30 → ∃ X', (∀ k, k < 3 * j → X' k = X k) ∧ ((actR sg p).2.2 = -1 → X' (3 * j) = (actR sg p).1.1 ∧ X' (3 * j + 1) = (actR sg p).1.2.1 ∧ (¬ (actR sg p).1.1 = 100 → ¬ (actR sg p).1.1 = 114 → X' (3 * j + 2) = (actR sg p).1.2.2)) ∧ aE d 243 13 [.ref 46, .int (nI j), w2] [] (g, pM (aR I 61 X) p, J, aP1 sl 53 rl) = aE d 243 13 [.ref 46, .int (nI (j + 1)), w2] [] (g, pM (aR I 61 X') (actR sg p).2, J, aP1 sl 53 rl) := by
    intro X p j hp p2 pl hj
    obtain ⟨X', c1, c2, c3⟩ := c244 (d := d) (g := g) (I := I) (J := J) (sl := sl) (rl := rl) (len := len) (sg := sg) hl ht h1 hB hsg X p hp p2 j hj
    refine ⟨X', c1, c2, ?_⟩
    rw [b243_13, f185, decide_eq_true p2]
    simp only [aBi]
    rw [b243_17, if_neg (by decide), hlX, pM_17, if_neg (nI_ge pl (by omega)), e3, c3]
    simp only [aBv]
    rw [b243_38, nI_1]
  -- the end
  have fin : ∀ (X : Nat → Int32) (p : Nat × Int32) (j : Nat), p.1 ≤ 60 → (p.2 = -1 → len ≤ p.1) → ∃ p', p'.2 = rW p len ∧ aE d 243 13 [.ref 46, .int (nI j), w2] [] (g, pM (aR I 61 X) p, J, aP1 sl 53 rl) = aE d 243 48 [.ref 46, .int (nI j), w2] [.int (tI (decide (rW p len = -1)))] (g, pM (aR I 61 X) p', J, aP1 sl 53 rl) := by
    intro X p j hp hh
    obtain ⟨p', u0, u1, u2⟩ := f193 (d := d) (g := g) (I := aR I 61 X) (J := J) (sl := sl) (rd := 53) (rl := rl) (len := len) (p := p) (by rw [aR_r _ _ (by decide)]; exact hl) h1 (by omega)
    refine ⟨p', u1, ?_⟩
    rw [b243_13, f185]
    simp only [aBi]
    rw [b243_17]
    by_cases p2 : p.2 = -1
    · rw [decide_eq_true p2, if_neg (by decide), hlX, pM_17, if_pos (nI_le (hh p2) (by omega)), u2]
      rfl
    · rw [decide_eq_false p2, if_pos tI_f, u2]
      rfl
  have lp : ∀ (M j : Nat) (X : Nat → Int32), j + M = K → (rW (rP sg K) len = -1 → ∀ i, i < j → mtR sg X i) → ∃ X', (rW (rP sg K) len = -1 → ∀ i, i < K → mtR sg X' i) ∧ aE d 243 13 [.ref 46, .int (nI j), w2] [] (g, pM (aR I 61 X) (rP sg j), J, aP1 sl 53 rl) = aE d 243 13 [.ref 46, .int (nI K), w2] [] (g, pM (aR I 61 X') (rP sg K), J, aP1 sl 53 rl) := by
    intro M
    induction M with
    | zero =>
      intro j X hj hX
      obtain rfl : j = K := by omega
      exact ⟨X, hX, rfl⟩
    | succ M ih =>
      intro j X hj hX
      have kj := k2 j (by omega)
      have pl : (rP sg j).1 < len := by
        apply Classical.byContradiction; intro q
        apply kj
        unfold pk
        rw [if_pos (pk_2 kj), hsg]
        exact if_neg (by rw [hsg] at q; omega)
      obtain ⟨X1, c1, c2, c3⟩ := one X (rP sg j) j (rP_le hE (fun i hi => k2 i (by omega))) (pk_2 kj) pl (by omega)
      obtain ⟨X', d1, d2⟩ := ih (j + 1) X1 (by omega) (fun h i hi => by
        by_cases e : i = j
        · subst e
          refine c2 ?_
          show (rP sg (i + 1)).2 = -1
          by_cases e2 : i + 1 = K
          · rw [e2]; exact rW_2 h
          · exact pk_2 (k2 (i + 1) (by omega))
        · obtain ⟨u1, u2, u3⟩ := hX h i (by omega)
          exact ⟨by rw [c1 _ (by omega)]; exact u1, by rw [c1 _ (by omega)]; exact u2, fun a b => by rw [c1 _ (by omega)]; exact u3 a b⟩)
      exact ⟨X', d1, c3.trans d2⟩
  obtain ⟨X, a1, a2⟩ := lp K 0 (I 61) (by omega) (fun _ i hi => by omega)
  rw [aR_id] at a2
  have a2 : aE d 243 13 [.ref 46, .int 0, w2] [] (g, pM I (0, -1), J, aP1 sl 53 rl) = aE d 243 13 [.ref 46, .int (nI K), w2] [] (g, pM (aR I 61 X) (rP sg K), J, aP1 sl 53 rl) := a2
  have pK := rP_le hE k2
  by_cases hc : (rP sg K).2 = -1 → len ≤ (rP sg K).1
  · obtain ⟨p', u1, u2⟩ := fin X (rP sg K) K pK hc
    exact ⟨X, K, p', u1, fun h => ⟨rfl, a1 h⟩, a2.trans u2⟩
  · have p2 : (rP sg K).2 = -1 := by apply Classical.byContradiction; intro q; exact hc (fun h => absurd h q)
    have pl : (rP sg K).1 < len := by apply Classical.byContradiction; intro q; exact hc (fun _ => by omega)
    obtain ⟨X1, c1, c2, c3⟩ := one X (rP sg K) K pK p2 pl hK
    have ea : actR sg (rP sg K) = ((pk sg (rP sg K), 0, 0), flt (rP sg K) (nI (rP sg K).1)) := by
      unfold actR
      rw [k1, if_neg (by decide), if_neg (by decide), if_neg (by decide)]
    rw [ea] at c3
    have fl : flt (rP sg K) (nI (rP sg K).1) = ((rP sg K).1, nI (rP sg K).1) := if_pos p2
    have wr : rW (rP sg K) len = nI (rP sg K).1 := by unfold rW; rw [if_neg (by omega), fl]
    have nw : ¬ nI (rP sg K).1 = -1 := nIm1c (by omega)
    rw [fl] at c3
    obtain ⟨p', u1, u2⟩ := fin X1 ((rP sg K).1, nI (rP sg K).1) (K + 1) pK (fun h => absurd h nw)
    have wr2 : rW ((rP sg K).1, nI (rP sg K).1) len = nI (rP sg K).1 := by
      unfold rW; rw [if_neg (show ¬ len ≤ (rP sg K).1 by omega)]; unfold flt; rw [if_neg nw]
    rw [wr2] at u1 u2
    refine ⟨X1, K + 1, p', by rw [wr]; exact u1, fun h => absurd (wr.symm.trans h) nw, ?_⟩
    rw [wr]
    exact a2.trans (c3.trans u2)
end R
