/-! a season's acts, read: both sides -/
variable {d : Nat} {g : Nat × Nat × Nat} {I : Nat → Nat → Int32} {J : Nat → Nat → Int64} {sl rd rl : Nat} {t n m q : Nat}
def actR (sg : Nat → Int32) (p : Nat × Int32) : (Int32 × Int32 × Int32) × (Nat × Int32) :=
  if pk sg p = 98 ∨ pk sg p = 99 ∨ pk sg p = 103 then ((pk sg p, (tk sg 48 49 (adv p)).1 - 48, (tk sg 48 57 (tk sg 48 49 (adv p)).2).1 - 48), (tk sg 48 57 (tk sg 48 49 (adv p)).2).2)
  else if pk sg p = 100 ∨ pk sg p = 114 then ((pk sg p, (tk sg 48 57 (adv p)).1 - 48, 0), (tk sg 48 57 (adv p)).2)
  else if pk sg p = 115 then ((pk sg p, (tk sg 48 57 (adv p)).1 - 48, (tk sg 48 49 (tk sg 48 57 (adv p)).2).1 - 48), (tk sg 48 49 (tk sg 48 57 (adv p)).2).2)
  else ((pk sg p, 0, 0), flt p (nI p.1))
theorem nIm1c {k : Nat} (h : k ≤ 80) : ¬ nI k = -1 := nIm1b (by omega)
theorem pk_2 {sg : Nat → Int32} {p : Nat × Int32} (h : ¬ pk sg p = -1) : p.2 = -1 := by
  apply Classical.byContradiction; intro q; exact h (if_neg q)
theorem pC_45 (I : Nat → Nat → Int32) (X : Nat → Int32) (p : Nat × Int32) (k : Nat) (x : Int32) : aU (pC (aR I 45 X) p) 45 k x = pC (aR I 45 (upd X k x)) p := by
  unfold pC
  rw [aU_R, aR_r _ _ (show 45 ≠ 9 by decide), aR_s, aR_r _ _ (show 9 ≠ 45 by decide), aR_r _ _ (show 9 ≠ 45 by decide)]
  rw [aR_c _ _ _ (show 45 ≠ 9 by decide), aR_u]
  first | exact aR_c _ _ _ (by decide) | exact (aR_c _ _ _ (by decide)).symm
theorem pM_61 (I : Nat → Nat → Int32) (X : Nat → Int32) (p : Nat × Int32) (k : Nat) (x : Int32) : aU (pM (aR I 61 X) p) 61 k x = pM (aR I 61 (upd X k x)) p := by
  unfold pM
  rw [aU_R, aR_r _ _ (show 61 ≠ 46 by decide), aR_s, aR_r _ _ (show 46 ≠ 61 by decide), aR_r _ _ (show 46 ≠ 61 by decide)]
  rw [aR_c _ _ _ (show 61 ≠ 46 by decide), aR_u]
  first | exact aR_c _ _ _ (by decide) | exact (aR_c _ _ _ (by decide)).symm
theorem t90 {k : Nat} (h : k < 90) : ¬ (nI k < 0 ∨ 90 ≤ k) := by
  rintro (q | q)
  · exact nI_nlt (a := k) (b := 0) (by omega) (by omega) q
  · omega
theorem t240 {k : Nat} (h : k < 240) : ¬ (nI k < 0 ∨ 240 ≤ k) := by
  rintro (q | q)
  · exact nI_nlt (a := k) (b := 0) (by omega) (by omega) q
  · omega
theorem ix18 {x : Int32} (h1 : 98 ≤ x) (h2 : x ≤ 115) : ∃ k, k < 18 ∧ x = nI (98 + k) := by
  obtain ⟨k, hk, rfl⟩ := nI_of2 (M := 115) (n := 115) rfl (fun q => by rw [int_lt] at q; rw [int_le] at h1; have : (98 : Int32).toInt = 98 := rfl; have : (0 : Int32).toInt = 0 := rfl; omega) h2
  have : 98 ≤ k := nI_lei (a := 98) h1 (by omega)
  exact ⟨k - 98, by omega, by congr 1; omega⟩
section Cl
variable {len : Nat} {sg : Nat → Int32}
/-- the class reads an act -/
theorem c103 (hm : I 9 1 = nI 60) (hl : I 7 1 = nI len) (h1 : len ≤ 80) (hsg : sg = sgc (I 8) len 60) (X : Nat → Int32) (p : Nat × Int32) (hp : p.1 ≤ 60) (j : Nat) (hj : j < 30) (w4 : Value) (hk : ¬ pk sg p = -1) : ∃ X' w4', (∀ k, k < 3 * j → X' k = X k) ∧ ((actR sg p).2.2 = -1 → X' (3 * j) = (actR sg p).1.1 ∧ X' (3 * j + 1) = (actR sg p).1.2.1 ∧ X' (3 * j + 2) = (actR sg p).1.2.2) ∧ aE d 103 10 [.ref 9, .ref 45, .int (nI j), .int (nI (3 * j)), w4] [] (g, pC (aR I 45 X) p, J, aP1 sl rd rl) = aE d 103 10 [.ref 9, .ref 45, .int (nI (j + 1)), .int (nI (3 * (j + 1))), w4'] [] (g, pC (aR I 45 X') (actR sg p).2, J, aP1 sl rd rl) := by
  have g30 : ∀ (X : Nat → Int32) (p : Nat × Int32), p.1 ≤ 80 → aF d 30 [.ref 9] (g, pC (aR I 45 X) p, J, aP1 sl rd rl) = some (some (some (.int (pk sg p))), (g, pC (aR I 45 X) p, J, aP1 sl rd rl)) := by
    intro X p hp
    have f := f30 (d := d) (g := g) (I := aR I 45 X) (J := J) (sl := sl) (rd := rd) (rl := rl) (p := p) (len := len) (top := 60) (by rw [aR_r _ _ (by decide)]; exact hm) (by rw [aR_r _ _ (by decide)]; exact hl) h1 (by decide) hp
    rw [aR_r _ _ (show 8 ≠ 45 by decide), ← hsg] at f
    exact f
  have g36 : ∀ (X : Nat → Int32) (p : Nat × Int32) (lo hi : Int32), p.1 ≤ 80 → aF d 36 [.ref 9, .int lo, .int hi] (g, pC (aR I 45 X) p, J, aP1 sl rd rl) = some (some (some (.int (tk sg lo hi p).1)), (g, pC (aR I 45 X) (tk sg lo hi p).2, J, aP1 sl rd rl)) := by
    intro X p lo hi hp
    have f := f36 (d := d) (g := g) (I := aR I 45 X) (J := J) (sl := sl) (rd := rd) (rl := rl) (p := p) (len := len) (top := 60) (by rw [aR_r _ _ (by decide)]; exact hm) (by rw [aR_r _ _ (by decide)]; exact hl) h1 (by decide) hp lo hi
    rw [aR_r _ _ (show 8 ≠ 45 by decide), ← hsg] at f
    exact f
  have hE : sgE sg 60 := by rw [hsg]; exact sgc_E _ _ _
  have pl : p.1 < 60 := pk_at hE hk
  have a1 : (adv p).1 ≤ 60 := pl
  have e1 : nI (3 * j) + 1 = nI (3 * j + 1) := nI_1 _
  have e2 : nI (3 * j) + 2 = nI (3 * j + 2) := nI_add (3 * j) 2
  have e3 : nI (3 * j) + 3 = nI (3 * (j + 1)) := nI_add (3 * j) 3
  have e4 : nI j + 1 = nI (j + 1) := nI_1 _
  have S0 : ∃ X1 w, (∀ k, k < 3 * j → X1 k = X k) ∧ X1 (3 * j) = pk sg p ∧ X1 (3 * j + 2) = 0 ∧ aE d 103 10 [.ref 9, .ref 45, .int (nI j), .int (nI (3 * j)), w4] [] (g, pC (aR I 45 X) p, J, aP1 sl rd rl) = aE d 103 45 [.ref 9, .ref 45, .int (nI j), .int (nI (3 * j)), w] [.int (pk sg p)] (g, pC (aR I 45 X1) p, J, aP1 sl rd rl) := by
    refine ⟨upd (upd X (3 * j) (pk sg p)) (3 * j + 2) 0, .int (pk sg p), fun k hk => by rw [upd_n _ _ (by omega), upd_n _ _ (by omega)], by rw [upd_n _ _ (by omega), upd_s], by rw [upd_s], ?_⟩
    rw [b103_10, e2, if_neg (show ¬ 90 ≤ nI (3 * j + 2) from nI_ge (b := 90) (by omega) (by omega)), g30 _ _ (by omega)]
    simp only [aBi]
    rw [b103_22, if_neg hk, g30 _ _ (by omega)]
    simp only [aBi]
    rw [b103_30, e2, nI_clamp (by omega), nI_clamp (by omega), if_neg (t90 (by omega)), if_neg (t90 (by omega)), pC_45, pC_45]
  obtain ⟨X1, w, x1, x2, x3, S0⟩ := S0
  by_cases k1 : pk sg p = 98 ∨ pk sg p = 99 ∨ pk sg p = 103
  · have ea : actR sg p = ((pk sg p, (tk sg 48 49 (adv p)).1 - 48, (tk sg 48 57 (tk sg 48 49 (adv p)).2).1 - 48), (tk sg 48 57 (tk sg 48 49 (adv p)).2).2) := if_pos k1
    refine ⟨upd (upd X1 (3 * j + 1) ((tk sg 48 49 (adv p)).1 - 48)) (3 * j + 2) ((tk sg 48 57 (tk sg 48 49 (adv p)).2).1 - 48), w, fun k hk => by rw [upd_n _ _ (by omega), upd_n _ _ (by omega)]; exact x1 k hk, fun _ => ?_, ?_⟩
    · rw [ea]
      exact ⟨by rw [upd_n _ _ (by omega), upd_n _ _ (by omega)]; exact x2, by rw [upd_n _ _ (by omega), upd_s], by rw [upd_s]⟩
    · rw [S0, ea]
      have T : aE d 103 159 [.ref 9, .ref 45, .int (nI j), .int (nI (3 * j)), w] [] (g, pC (aR I 45 X1) (adv p), J, aP1 sl rd rl) = aE d 103 10 [.ref 9, .ref 45, .int (nI (j + 1)), .int (nI (3 * (j + 1))), w] [] (g, pC (aR I 45 (upd (upd X1 (3 * j + 1) ((tk sg 48 49 (adv p)).1 - 48)) (3 * j + 2) ((tk sg 48 57 (tk sg 48 49 (adv p)).2).1 - 48))) (tk sg 48 57 (tk sg 48 49 (adv p)).2).2, J, aP1 sl rd rl) := by
        have b1 := (tk_at hE (lo := 48) (hi := 49) (by decide) a1).2
        rw [b103_159, g36 _ _ _ _ (by omega), e1]
        simp only [aBi]
        rw [b103_171, nI_clamp (by omega), if_neg (t90 (by omega)), pC_45, g36 _ _ _ _ (by omega), e2]
        simp only [aBi]
        rw [b103_187, nI_clamp (by omega), if_neg (t90 (by omega)), pC_45, b103_241, e3, e4]
      rcases k1 with h | h | h
      · rw [h, b103_45_c98, f33]
        exact T
      · rw [h, b103_45_c99, f33]
        exact T
      · rw [h, b103_45_c103, f33]
        exact T
  by_cases k2 : pk sg p = 100 ∨ pk sg p = 114
  · have ea : actR sg p = ((pk sg p, (tk sg 48 57 (adv p)).1 - 48, 0), (tk sg 48 57 (adv p)).2) := by unfold actR; rw [if_neg k1, if_pos k2]
    refine ⟨upd X1 (3 * j + 1) ((tk sg 48 57 (adv p)).1 - 48), w, fun k hk => by rw [upd_n _ _ (by omega)]; exact x1 k hk, fun _ => ?_, ?_⟩
    · rw [ea]
      exact ⟨by rw [upd_n _ _ (by omega)]; exact x2, by rw [upd_s], by rw [upd_n _ _ (by omega)]; exact x3⟩
    · rw [S0, ea]
      have T : aE d 103 136 [.ref 9, .ref 45, .int (nI j), .int (nI (3 * j)), w] [] (g, pC (aR I 45 X1) (adv p), J, aP1 sl rd rl) = aE d 103 10 [.ref 9, .ref 45, .int (nI (j + 1)), .int (nI (3 * (j + 1))), w] [] (g, pC (aR I 45 (upd X1 (3 * j + 1) ((tk sg 48 57 (adv p)).1 - 48))) (tk sg 48 57 (adv p)).2, J, aP1 sl rd rl) := by
        rw [b103_136, g36 _ _ _ _ (by omega), e1]
        simp only [aBi]
        rw [b103_148, nI_clamp (by omega), if_neg (t90 (by omega)), pC_45, b103_241, e3, e4]
      rcases k2 with h | h
      · rw [h, b103_45_c100, f33]
        exact T
      · rw [h, b103_45_c114, f33]
        exact T
  by_cases k3 : pk sg p = 115
  · have ea : actR sg p = ((pk sg p, (tk sg 48 57 (adv p)).1 - 48, (tk sg 48 49 (tk sg 48 57 (adv p)).2).1 - 48), (tk sg 48 49 (tk sg 48 57 (adv p)).2).2) := by unfold actR; rw [if_neg k1, if_neg k2, if_pos k3]
    refine ⟨upd (upd X1 (3 * j + 1) ((tk sg 48 57 (adv p)).1 - 48)) (3 * j + 2) ((tk sg 48 49 (tk sg 48 57 (adv p)).2).1 - 48), w, fun k hk => by rw [upd_n _ _ (by omega), upd_n _ _ (by omega)]; exact x1 k hk, fun _ => ?_, ?_⟩
    · rw [ea]
      exact ⟨by rw [upd_n _ _ (by omega), upd_n _ _ (by omega)]; exact x2, by rw [upd_n _ _ (by omega), upd_s], by rw [upd_s]⟩
    · rw [S0, ea]
      have b1 := (tk_at hE (lo := 48) (hi := 57) (by decide) a1).2
      rw [k3, b103_45_c115, f33]
      simp only [aBv]
      rw [b103_198, g36 _ _ _ _ (by omega), e1]
      simp only [aBi]
      rw [b103_210, nI_clamp (by omega), if_neg (t90 (by omega)), pC_45, g36 _ _ _ _ (by omega), e2]
      simp only [aBi]
      rw [b103_226, nI_clamp (by omega), if_neg (t90 (by omega)), pC_45, b103_241, e3, e4]
  · have ea : actR sg p = ((pk sg p, 0, 0), flt p (nI p.1)) := by unfold actR; rw [if_neg k1, if_neg k2, if_neg k3]
    have p2 := pk_2 hk
    refine ⟨X1, w, x1, fun h => ?_, ?_⟩
    · rw [ea] at h
      exact absurd h (by unfold flt; rw [if_pos p2]; exact nIm1c (by omega))
    · rw [S0, ea]
      have T : aBv (aF d 37 [.ref 9, .int (pC (aR I 45 X1) p 9 2)] (g, pC (aR I 45 X1) p, J, aP1 sl rd rl)) (fun t0 => aE d 103 241 [.ref 9, .ref 45, .int (nI j), .int (nI (3 * j)), w] [] t0) = aE d 103 10 [.ref 9, .ref 45, .int (nI (j + 1)), .int (nI (3 * (j + 1))), w] [] (g, pC (aR I 45 X1) (flt p (nI p.1)), J, aP1 sl rd rl) := by
        rw [pC_2, f37]
        simp only [aBv]
        rw [b103_241, e3, e4]
      by_cases hr : 98 ≤ pk sg p ∧ pk sg p ≤ 115
      · obtain ⟨k, hk, e⟩ := ix18 hr.1 hr.2
        rw [e]
        rw [e] at k1 k2 k3
        rcases (by omega : k = 0 ∨ k = 1 ∨ k = 2 ∨ k = 3 ∨ k = 4 ∨ k = 5 ∨ k = 6 ∨ k = 7 ∨ k = 8 ∨ k = 9 ∨ k = 10 ∨ k = 11 ∨ k = 12 ∨ k = 13 ∨ k = 14 ∨ k = 15 ∨ k = 16 ∨ k = 17) with rfl | rfl | rfl | rfl | rfl | rfl | rfl | rfl | rfl | rfl | rfl | rfl | rfl | rfl | rfl | rfl | rfl | rfl
        · exact absurd (Or.inl rfl) k1
        · exact absurd (Or.inr (Or.inl rfl)) k1
        · exact absurd (Or.inl rfl) k2
        · exact (b103_45_c101 ..).trans T
        · exact (b103_45_c102 ..).trans T
        · exact absurd (Or.inr (Or.inr rfl)) k1
        · exact (b103_45_c104 ..).trans T
        · exact (b103_45_c105 ..).trans T
        · exact (b103_45_c106 ..).trans T
        · exact (b103_45_c107 ..).trans T
        · exact (b103_45_c108 ..).trans T
        · exact (b103_45_c109 ..).trans T
        · exact (b103_45_c110 ..).trans T
        · exact (b103_45_c111 ..).trans T
        · exact (b103_45_c112 ..).trans T
        · exact (b103_45_c113 ..).trans T
        · exact absurd (Or.inr rfl) k2
        · exact absurd rfl k3
      · rw [s103_45 d _ _ _ (by
          have c98 : (98 : Int32).toInt = 98 := rfl
          have c115 : (115 : Int32).toInt = 115 := rfl
          rw [int_le, int_le] at hr
          omega), b103_233]
        exact T
end Cl
/-! how far it reads -/
def rP (sg : Nat → Int32) : Nat → Nat × Int32
  | 0 => (0, -1)
  | k + 1 => (actR sg (rP sg k)).2
theorem tk_fine {sg : Nat → Int32} {lo hi : Int32} {p : Nat × Int32} (hp : p.1 ≤ 80) (h : (tk sg lo hi p).2.2 = -1) : tk sg lo hi p = (pk sg p, adv p) ∧ ¬ pk sg p < lo ∧ pk sg p ≤ hi ∧ p.2 = -1 := by
  have bad : ¬ (flt p (nI p.1)).2 = -1 := by
    unfold flt
    by_cases e : p.2 = -1
    · rw [if_pos e]; exact nIm1c hp
    · rw [if_neg e]; exact e
  unfold tk at h ⊢
  by_cases h1 : pk sg p < lo
  · rw [if_pos h1] at h; exact absurd h bad
  · rw [if_neg h1] at h ⊢
    by_cases h2 : pk sg p ≤ hi
    · rw [if_pos h2] at h ⊢
      exact ⟨rfl, h1, h2, h⟩
    · rw [if_neg h2] at h; exact absurd h bad
theorem digH {x hi : Int32} {H : Nat} (h1 : ¬ x < 48) (h2 : x ≤ hi) (hH : hi = nI (48 + H)) (h9 : H ≤ 9) : ∃ k, k ≤ H ∧ x - 48 = nI k := by
  have h0 : ¬ x < 0 := fun q => h1 (by
    rw [int_lt] at q ⊢
    have c1 : (48 : Int32).toInt = 48 := rfl
    have c0 : (0 : Int32).toInt = 0 := rfl
    rw [c0] at q
    rw [c1]
    omega)
  obtain ⟨k, hk, rfl⟩ := nI_of h0
  have : 48 ≤ k := by
    apply Classical.byContradiction; intro q; exact h1 (nI_lt (b := 48) (by omega) (by omega))
  rw [hH] at h2
  have := nI_lei h2 hk
  exact ⟨k - 48, by omega, pk_sub (b := 48) (by omega)⟩
/-- an act that was read right -/
def goodA (a : Int32 × Int32 × Int32) : Prop :=
  ((a.1 = 98 ∨ a.1 = 99 ∨ a.1 = 103) ∧ (∃ x, x < 2 ∧ a.2.1 = nI x) ∧ ∃ y, y ≤ 9 ∧ a.2.2 = nI y) ∨ ((a.1 = 100 ∨ a.1 = 114) ∧ ∃ x, x ≤ 9 ∧ a.2.1 = nI x) ∨ (a.1 = 115 ∧ (∃ x, x ≤ 9 ∧ a.2.1 = nI x) ∧ ∃ y, y < 2 ∧ a.2.2 = nI y)
theorem actR_at {sg : Nat → Int32} {N : Nat} (hE : sgE sg N) (hN : N ≤ 80) {p : Nat × Int32} (hk : ¬ pk sg p = -1) : (actR sg p).2.1 ≤ N ∧ ((actR sg p).2.2 = -1 → p.1 + 2 ≤ (actR sg p).2.1 ∧ goodA (actR sg p).1) := by
  have pl : p.1 < N := pk_at hE hk
  have a1 : (adv p).1 ≤ N := pl
  have av : (adv p).1 = p.1 + 1 := rfl
  have t1 := tk_at hE (lo := 48) (hi := 49) (by decide) a1
  have t2 := tk_at hE (lo := 48) (hi := 57) (by decide) a1
  have t3 := tk_at hE (lo := 48) (hi := 57) (by decide) t1.2
  have t4 := tk_at hE (lo := 48) (hi := 49) (by decide) t2.2
  unfold actR
  by_cases k1 : pk sg p = 98 ∨ pk sg p = 99 ∨ pk sg p = 103
  · rw [if_pos k1]
    refine ⟨t3.2, fun h => ?_⟩
    obtain ⟨e, u1, u2, u3⟩ := tk_fine (by omega) h
    obtain ⟨e', w1, w2, w3⟩ := tk_fine (by omega) u3
    rw [e]
    refine ⟨?_, Or.inl ⟨k1, ?_, ?_⟩⟩
    · show p.1 + 2 ≤ (tk sg 48 49 (adv p)).2.1 + 1
      omega
    · obtain ⟨x, hx, e⟩ := digH (H := 1) w1 w2 rfl (by decide)
      exact ⟨x, by omega, by rw [e']; exact e⟩
    · obtain ⟨x, hx, e⟩ := digH (H := 9) u1 u2 rfl (by decide)
      exact ⟨x, by omega, e⟩
  rw [if_neg k1]
  by_cases k2 : pk sg p = 100 ∨ pk sg p = 114
  · rw [if_pos k2]
    refine ⟨t2.2, fun h => ?_⟩
    obtain ⟨e, u1, u2, u3⟩ := tk_fine (by omega) h
    rw [e]
    refine ⟨?_, Or.inr (Or.inl ⟨k2, ?_⟩)⟩
    · show p.1 + 2 ≤ (adv p).1 + 1
      omega
    · obtain ⟨x, hx, e⟩ := digH (H := 9) u1 u2 rfl (by decide)
      exact ⟨x, by omega, e⟩
  rw [if_neg k2]
  by_cases k3 : pk sg p = 115
  · rw [if_pos k3]
    refine ⟨t4.2, fun h => ?_⟩
    obtain ⟨e, u1, u2, u3⟩ := tk_fine (by omega) h
    obtain ⟨e', w1, w2, w3⟩ := tk_fine (by omega) u3
    rw [e]
    refine ⟨?_, Or.inr (Or.inr ⟨k3, ?_, ?_⟩)⟩
    · show p.1 + 2 ≤ (tk sg 48 57 (adv p)).2.1 + 1
      omega
    · obtain ⟨x, hx, e⟩ := digH (H := 9) w1 w2 rfl (by decide)
      exact ⟨x, by omega, by rw [e']; exact e⟩
    · obtain ⟨x, hx, e⟩ := digH (H := 1) u1 u2 rfl (by decide)
      exact ⟨x, by omega, e⟩
  rw [if_neg k3]
  refine ⟨by show (flt p (nI p.1)).1 ≤ N; rw [flt_1]; omega, fun h => ?_⟩
  have h : (flt p (nI p.1)).2 = -1 := h
  unfold flt at h
  rw [if_pos (pk_2 hk)] at h
  exact absurd h (nIm1c (by omega))
theorem rP_K {sg : Nat → Int32} (hE : sgE sg 60) : ∃ K, K ≤ 30 ∧ pk sg (rP sg K) = -1 ∧ (∀ j, j < K → ¬ pk sg (rP sg j) = -1) := by
  have l : ∀ M, (∃ K, K ≤ M ∧ pk sg (rP sg K) = -1 ∧ (∀ j, j < K → ¬ pk sg (rP sg j) = -1)) ∨ (∀ j, j ≤ M → ¬ pk sg (rP sg j) = -1 ∧ 2 * j ≤ (rP sg j).1) := by
    intro M
    induction M with
    | zero =>
      by_cases h : pk sg (rP sg 0) = -1
      · exact Or.inl ⟨0, Nat.le_refl _, h, fun j hj => by omega⟩
      · exact Or.inr (fun j hj => by obtain rfl : j = 0 := by omega
                                     exact ⟨h, by omega⟩)
    | succ M ih =>
      rcases ih with ⟨K, h1, h2, h3⟩ | ih
      · exact Or.inl ⟨K, by omega, h2, h3⟩
      · by_cases h : pk sg (rP sg (M + 1)) = -1
        · exact Or.inl ⟨M + 1, Nat.le_refl _, h, fun j hj => (ih j (by omega)).1⟩
        · refine Or.inr (fun j hj => ?_)
          by_cases e : j = M + 1
          · subst e
            have a := (actR_at hE (by decide) (ih M (Nat.le_refl _)).1).2 (pk_2 h)
            have b := (ih M (Nat.le_refl _)).2
            exact ⟨h, by show 2 * (M + 1) ≤ (actR sg (rP sg M)).2.1; omega⟩
          · exact ih j (by omega)
  rcases l 30 with h | h
  · exact h
  · have a := h 30 (Nat.le_refl _)
    have b := pk_at hE a.1
    omega
theorem rP_le {sg : Nat → Int32} (hE : sgE sg 60) {K : Nat} (h : ∀ j, j < K → ¬ pk sg (rP sg j) = -1) : (rP sg K).1 ≤ 60 := by
  cases K with
  | zero => exact Nat.zero_le _
  | succ K => exact (actR_at hE (by decide) (h K (by omega))).1
/-- what is wrong in the end -/
def rW (p : Nat × Int32) (len : Nat) : Int32 := if len ≤ p.1 then p.2 else (flt p (nI p.1)).2
theorem rW_2 {p : Nat × Int32} {len : Nat} (h : rW p len = -1) : p.2 = -1 := by
  apply Classical.byContradiction; intro q
  unfold rW at h
  split at h
  · exact q h
  · unfold flt at h; rw [if_neg q] at h; exact q h
