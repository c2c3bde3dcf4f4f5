/-! calm, risky: tied -/
variable {d : Nat} {g : Nat × Nat × Nat} {I : Nat → Nat → Int32} {J : Nat → Nat → Int64} {sl rd rl : Nat} {t n m q : Nat}
theorem sdC (H : zInv t n m q I J) {L : Nat} (s3 : ∀ j, j < q → hasT (nI L) (nI j) = decide (I 24 (24 + j) = -1)) (s : Nat) {I1 : Nat → Nat → Int32} {J1 : Nat → Nat → Int64} (q1 : Fr [28] I I1) : ∃ I', Fr [28] I I' ∧ cV (I' 28) = (sdA (I 22) (I 14 11) (nI L) q (cV (I 24)) (nI s)).1 ∧ aF d 123 [.ref 6, .int (nI s)] (g, I1, J1, aP1 sl rd rl) = some (some (some (.int (tI (sdA (I 22) (I 14 11) (nI L) q (cV (I 24)) (nI s)).2))), (g, I', J1, aP1 sl rd rl)) := by
  obtain ⟨hq, d1, d2, -⟩ := H.2.2.2.2.1
  obtain ⟨I', a1, a2, a3⟩ := f123 (d := d) (g := g) (I := I1) (J := J1) (sl := sl) (rd := rd) (rl := rl) (q := q) (left := nI L) (sides := nI s) hq (by rw [q1 14 (by decide)]; exact d1) (fun j hj => by rw [q1 24 (by decide)]; exact s3 j hj)
  rw [q1 22 (by decide), q1 14 (by decide), q1 24 (by decide)] at a2 a3
  exact ⟨I', Fr_t q1 a1, a2, a3⟩
theorem sdR (H : zInv t n m q I J) {L : Nat} (s : Nat) {Ic I1 : Nat → Nat → Int32} {J1 : Nat → Nat → Int64} (hIc : Fr [12, 28] I Ic) (q1 : Fr [46, 60] Ic I1) (q2 : F46 [13] Ic I1) : ∃ I', Fr [46, 60] Ic I' ∧ F46 [13] Ic I' ∧ rV (I' 60) = (sdA (I 22) (I 14 11) (nI L) q (cV (I 24)) (nI s)).1 ∧ aF d 258 [.ref 46, .int (nI L), .int (nI s)] (g, I1, J1, aP1 sl rd rl) = some (some (some (.int (tI (sdA (I 22) (I 14 11) (nI L) q (cV (I 24)) (nI s)).2))), (g, I', J1, aP1 sl rd rl)) := by
  obtain ⟨hq, d1, d2, -⟩ := H.2.2.2.2.1
  have hS := H.2.2.2.2.2.2.1
  have hLm := H.2.2.2.2.2.1
  obtain ⟨I', a1, a2, a3⟩ := f258 (d := d) (g := g) (I := I1) (J := J1) (sl := sl) (rd := rd) (rl := rl) (q := q) (left := nI L) (sides := nI s) (lim := I 14 11) (ad := I 22) hq (by rw [q2 6 (by decide), hIc 46 (by decide)]; exact d2) (by rw [q2 8 (by decide), hIc 46 (by decide)]; exact hLm.symm) (fun k hk => by rw [q1 51 (by decide), hIc 51 (by decide)]; exact zS_e H hk)
  rw [q1 47 (by decide), hIc 47 (by decide), ← hS.1] at a2 a3
  exact ⟨I', Fr_t q1 (Fr_w a1 (by decide)), fun j hj => by rw [a1 46 (by decide)]; exact q2 j hj, a2, a3⟩
theorem thF (Ic : Nat → Nat → Int32) : Fr [46, 60] Ic (aU Ic 46 13 0) ∧ F46 [13] Ic (aU Ic 46 13 0) := by
  refine ⟨?_, fun j hj => ?_⟩
  · rw [aU_R]; exact Fr_s (Fr_r _ _) _ (by decide)
  · exact aU_i _ _ (by simpa using hj)
theorem sub_no {i L : Nat} (h1 : L < i) (h2 : i < 2 ^ 31) : sub (nI i) (nI L) = false := by
  cases h : sub (nI i) (nI L)
  · rfl
  · have := sub_le h2 h; omega
/-! risky -/
def rk1 (A : Int32 → (Nat → Int32) × Bool) (L : Nat) (s : Nat) (k : Nat) : Nat := if sub (nI s) (nI L) = true then k + (A (nI s)).2.toNat else k
theorem tie_risky (H : zInv t n m q I J) : tie d 126 260 [] t g I J sl rd := by
  obtain ⟨L, hL, s1, s2, s3⟩ := sd_get (d := d) (g := g) (sl := sl) (rd := rd) (rl := 56) H
  generalize hA : sdA (I 22) (I 14 11) (nI L) q (cV (I 24)) = A
  have lC : ∀ (k s c : Nat) (I1 : Nat → Nat → Int32), s + k = 256 → Fr [28] I I1 → ∃ I', Fr [28] I I' ∧ aE d 126 16 [.ref 6, .int (nI L), .int (nI c), .int (nI s)] [] (g, I1, J, aP1 sl rd 56) = some (some (some (.int (nI (fo (rk1 A L) k s c)))), (g, aU I' 12 1 1, aU J 13 0 (Int32.toInt64 (nI L)), aP1 sl rd 56)) := by
    intro k
    induction k with
    | zero =>
      intro s c I1 hs q1
      obtain rfl : s = 256 := by omega
      refine ⟨I1, q1, ?_⟩
      rw [b126_16, if_pos (by decide), f83']
      simp only [aBv]
      rw [b126_57]
      rfl
    | succ k ih =>
      intro s c I1 hs q1
      have n256 : ¬ 256 ≤ nI s := nI_ge (b := 256) (by omega) (by decide)
      rw [fo_1, b126_16, if_neg n256]
      unfold rk1
      by_cases hsub : sub (nI s) (nI L) = true
      · obtain ⟨I2, a1, a2, a3⟩ := sdC (d := d) (g := g) (sl := sl) (rd := rd) (rl := 56) (J1 := J) H s3 s q1
        rw [hA] at a3
        rw [if_pos ((sub_dec _ _).mpr hsub), a3, if_pos hsub]
        simp only [aBi]
        rw [b126_36]
        cases (A (nI s)).2
        · rw [if_pos tI_f, nI_1]; exact ih (s + 1) _ I2 (by omega) a1
        · rw [if_neg (by decide), nI_1, nI_1]; exact ih (s + 1) _ I2 (by omega) a1
      · rw [if_neg (fun h => hsub ((sub_dec _ _).mp h)), if_neg hsub, nI_1]
        exact ih (s + 1) _ I1 (by omega) q1
  have lR : ∀ (Ic : Nat → Nat → Int32) (J1 : Nat → Nat → Int64), Fr [12, 28] I Ic → ∀ (k s c : Nat) (I1 : Nat → Nat → Int32), s + k = L + 1 → Fr [46, 60] Ic I1 → F46 [13] Ic I1 → ∃ I', Fr [46, 60] Ic I' ∧ F46 [13] Ic I' ∧ aE d 260 14 [.ref 46, .int (nI L), .int (nI c), .int (nI s)] [] (g, I1, J1, aP1 sl rd 56) = some (some (some (.int (nI (fo (rk1 A L) k s c)))), (g, aU I' 46 12 1, aU J1 53 0 (Int32.toInt64 (nI L)), aP1 sl rd 56)) := by
    intro Ic J1 hIc k
    induction k with
    | zero =>
      intro s c I1 hs q1 q2
      obtain rfl : s = L + 1 := by omega
      refine ⟨I1, q1, q2, ?_⟩
      rw [b260_14, if_pos (nI_lt (by omega) (by omega)), tell0]
      simp only [aBv]
      rw [b260_61]
      rfl
    | succ k ih =>
      intro s c I1 hs q1 q2
      have nL : ¬ nI L < nI s := nI_nlt (by omega) (by omega)
      rw [fo_1, b260_14, if_neg nL]
      unfold rk1
      by_cases hsub : sub (nI s) (nI L) = true
      · obtain ⟨I2, a1, a2, a3, a4⟩ := sdR (d := d) (g := g) (sl := sl) (rd := rd) (rl := 56) (L := L) (J1 := J1) H s hIc q1 q2
        rw [hA] at a4
        rw [if_pos ((sub_dec _ _).mpr hsub), a4, if_pos hsub]
        simp only [aBi]
        rw [b260_34]
        cases (A (nI s)).2
        · rw [if_pos tI_f, Int32.add_zero, nI_1]; exact ih (s + 1) _ I2 (by omega) a1 a2
        · rw [if_neg (by decide), nI_1, nI_1]; exact ih (s + 1) _ I2 (by omega) a1 a2
      · rw [if_neg (fun h => hsub ((sub_dec _ _).mp h)), if_neg hsub, Int32.add_zero, nI_1]
        exact ih (s + 1) _ I1 (by omega) q1 q2
  obtain ⟨I1, a1, a2⟩ := lC 256 0 0 I rfl (Fr_r _ _)
  have h12 : Fr [12, 28] I (aU I1 12 1 1) := by rw [aU_R]; exact Fr_s (Fr_w a1 (by decide)) _ (by decide)
  obtain ⟨I2, b1, b2, b3⟩ := lR (aU I1 12 1 1) (aU J 13 0 (Int32.toInt64 (nI L))) h12 (L + 1) 0 0 (aU (aU I1 12 1 1) 46 13 0) (by omega) (thF _).1 (thF _).2
  have cut : fo (rk1 A L) 256 0 0 = fo (rk1 A L) (L + 1) 0 0 := fo_cut (M := 256) (i := 0) hL (by omega) 0 (fun j h1 h2 a => by
    unfold rk1; rw [sub_no h1 (by omega), if_neg (by decide)])
  rw [← cut] at b3
  refine tie_R H (Fr_w h12 (by decide)) ?_ ?_ ?_ (Eq.trans ?_ a2) (Eq.trans ?_ b3)
  · rw [aU_R I2]; exact Fr_s (Fr_w b1 (by decide)) _ (by decide)
  · intro j hj
    rw [aU_i _ _ (fun e => hj (by rw [e]; decide))]
    exact (F46_w b2 (by decide) : F46 (12 :: scf) _ I2) j hj
  · refine zR_1 ?_ (aU_s _ _ _ _) ?_
    · rw [aU_r _ _ (by decide), b1 12 (by decide), aU_s]
    · simp (disch := decide) only [aU_r, aU_i, aU_s]
  · show aE d 126 0 [.ref 6, aNo, aNo, aNo] [] _ = _
    rw [b126_0, s1 I J rfl rfl]
    simp only [aBi]
    rw [b126_11]
    rfl
  · show aE d 260 0 [.ref 46, aNo, aNo, aNo] [] _ = _
    rw [b260_0, s2 _ _ (by rw [aU_r _ _ (by decide), h12 47 (by decide)]) (by rw [aU_i _ _ (by decide), h12 46 (by decide)])]
    simp only [aBi]
    rw [b260_9]
    rfl
/-! calm -/
def lo2 (v : Nat → Int32) : Int32 := if v 3 < v 2 then v 3 else v 2
def hi2 (v : Nat → Int32) : Int32 := if v 2 < v 3 then v 3 else v 2
def cm1 (A : Int32 → (Nat → Int32) × Bool) (L : Nat) (s : Nat) (x : Int32 × Int32 × Int32) : Int32 × Int32 × Int32 :=
  if sub (nI s) (nI L) = true ∧ (x.1 = -1 ∨ lo2 (A (nI s)).1 < x.2.1 ∨ (lo2 (A (nI s)).1 = x.2.1 ∧ hi2 (A (nI s)).1 < x.2.2)) then (nI s, lo2 (A (nI s)).1, hi2 (A (nI s)).1) else x
theorem tie_calm (H : zInv t n m q I J) : tie d 124 259 [] t g I J sl rd := by
  obtain ⟨L, hL, s1, s2, s3⟩ := sd_get (d := d) (g := g) (sl := sl) (rd := rd) (rl := 56) H
  generalize hA : sdA (I 22) (I 14 11) (nI L) q (cV (I 24)) = A
  have lC : ∀ (k s : Nat) (x : Int32 × Int32 × Int32) (I1 : Nat → Nat → Int32) (w6 w7 : Value), s + k = 256 → Fr [28] I I1 → ∃ I', Fr [28] I I' ∧ aE d 124 22 [.ref 6, .int (nI L), .int x.1, .int x.2.1, .int x.2.2, .int (nI s), w6, w7] [] (g, I1, J, aP1 sl rd 56) = some (some (some (.int (fo (cm1 A L) k s x).1)), (g, aU I' 12 1 2, aU (aU J 13 0 (Int32.toInt64 (fo (cm1 A L) k s x).2.1)) 13 1 (Int32.toInt64 (fo (cm1 A L) k s x).2.2), aP1 sl rd 56)) := by
    intro k
    induction k with
    | zero =>
      intro s x I1 w6 w7 hs q1
      obtain rfl : s = 256 := by omega
      refine ⟨I1, q1, ?_⟩
      rw [b124_22, if_pos (by decide), f82]
      simp only [aBv]
      rw [b124_119]
      rfl
    | succ k ih =>
      intro s x I1 w6 w7 hs q1
      obtain ⟨x1, x2, x3⟩ := x
      have n256 : ¬ 256 ≤ nI s := nI_ge (b := 256) (by omega) (by decide)
      rw [fo_1, b124_22, if_neg n256]
      by_cases hsub : sub (nI s) (nI L) = true
      · obtain ⟨I2, a1, a2, a3⟩ := sdC (d := d) (g := g) (sl := sl) (rd := rd) (rl := 56) (J1 := J) H s3 s q1
        rw [hA] at a2 a3
        rw [if_pos ((sub_dec _ _).mpr hsub), a3]
        simp only [aBi]
        rw [b124_48, f79_27]
        simp only [aBi]
        rw [b124_56, f125]
        simp only [aBi]
        have e1 : (if I2 28 3 < I2 28 2 then I2 28 3 else I2 28 2) = lo2 (A (nI s)).1 := by rw [← a2]; rfl
        have e2 : (if I2 28 2 < I2 28 3 then I2 28 3 else I2 28 2) = hi2 (A (nI s)).1 := by rw [← a2]; rfl
        rw [e1, e2, b124_65]
        have yes : (x1 = -1 ∨ lo2 (A (nI s)).1 < x2 ∨ (lo2 (A (nI s)).1 = x2 ∧ hi2 (A (nI s)).1 < x3)) → cm1 A L s (x1, x2, x3) = (nI s, lo2 (A (nI s)).1, hi2 (A (nI s)).1) := fun h => if_pos ⟨hsub, h⟩
        have no : ¬ (x1 = -1 ∨ lo2 (A (nI s)).1 < x2 ∨ (lo2 (A (nI s)).1 = x2 ∧ hi2 (A (nI s)).1 < x3)) → cm1 A L s (x1, x2, x3) = (x1, x2, x3) := fun h => if_neg (fun q => h q.2)
        rw [nI_1]
        by_cases z1 : x1 = -1
        · rw [if_pos z1, yes (Or.inl z1)]
          exact ih (s + 1) (nI s, _, _) I2 _ _ (by omega) a1
        · rw [if_neg z1]
          by_cases z2 : lo2 (A (nI s)).1 < x2
          · rw [if_pos z2, yes (Or.inr (Or.inl z2))]
            exact ih (s + 1) (nI s, _, _) I2 _ _ (by omega) a1
          · rw [if_neg z2]
            by_cases z3 : lo2 (A (nI s)).1 = x2
            · rw [if_pos z3]
              by_cases z4 : x3 ≤ hi2 (A (nI s)).1
              · rw [if_pos z4, no (fun h => by
                  rcases h with h | h | h
                  · exact z1 h
                  · exact z2 h
                  · have := h.2; rw [← nle_lt] at this; exact this z4)]
                exact ih (s + 1) (x1, x2, x3) I2 _ _ (by omega) a1
              · rw [if_neg z4, yes (Or.inr (Or.inr ⟨z3, by rw [← nle_lt]; exact z4⟩))]
                exact ih (s + 1) (nI s, _, _) I2 _ _ (by omega) a1
            · rw [if_neg z3, no (fun h => by
                rcases h with h | h | h
                · exact z1 h
                · exact z2 h
                · exact z3 h.1)]
              exact ih (s + 1) (x1, x2, x3) I2 _ _ (by omega) a1
      · rw [if_neg (fun h => hsub ((sub_dec _ _).mp h)), nI_1, show cm1 A L s (x1, x2, x3) = (x1, x2, x3) from if_neg (fun h => hsub h.1)]
        exact ih (s + 1) (x1, x2, x3) I1 _ _ (by omega) q1
  have lR : ∀ (Ic : Nat → Nat → Int32) (J1 : Nat → Nat → Int64), Fr [12, 28] I Ic → ∀ (k s : Nat) (x : Int32 × Int32 × Int32) (I1 : Nat → Nat → Int32) (w6 w7 : Value), s + k = L + 1 → Fr [46, 60] Ic I1 → F46 [13] Ic I1 → ∃ I', Fr [46, 60] Ic I' ∧ F46 [13] Ic I' ∧ aE d 259 20 [.ref 46, .int (nI L), .int x.1, .int x.2.1, .int x.2.2, .int (nI s), w6, w7] [] (g, I1, J1, aP1 sl rd 56) = some (some (some (.int (fo (cm1 A L) k s x).1)), (g, aU I' 46 12 2, aU (aU J1 53 0 (Int32.toInt64 (fo (cm1 A L) k s x).2.1)) 53 1 (Int32.toInt64 (fo (cm1 A L) k s x).2.2), aP1 sl rd 56)) := by
    intro Ic J1 hIc k
    induction k with
    | zero =>
      intro s x I1 w6 w7 hs q1 q2
      obtain rfl : s = L + 1 := by omega
      refine ⟨I1, q1, q2, ?_⟩
      rw [b259_20, if_pos (nI_lt (by omega) (by omega)), tell0]
      simp only [aBv]
      rw [b259_134, tell1]
      simp only [aBv]
      rw [b259_141]
      rfl
    | succ k ih =>
      intro s x I1 w6 w7 hs q1 q2
      obtain ⟨x1, x2, x3⟩ := x
      have nL : ¬ nI L < nI s := nI_nlt (by omega) (by omega)
      rw [fo_1, b259_20, if_neg nL]
      by_cases hsub : sub (nI s) (nI L) = true
      · obtain ⟨I2, a1, a2, a3, a4⟩ := sdR (d := d) (g := g) (sl := sl) (rd := rd) (rl := 56) (L := L) (J1 := J1) H s hIc q1 q2
        rw [hA] at a3 a4
        rw [if_pos ((sub_dec _ _).mpr hsub), a4]
        simp only [aBi]
        rw [b259_45]
        have e1 : (if I2 60 3 < I2 60 2 then I2 60 3 else I2 60 2) = lo2 (A (nI s)).1 := by rw [← a3]; rfl
        have e2 : (if I2 60 2 < I2 60 3 then I2 60 3 else I2 60 2) = hi2 (A (nI s)).1 := by rw [← a3]; rfl
        rw [e1, e2]
        have yes : (x1 = -1 ∨ lo2 (A (nI s)).1 < x2 ∨ (lo2 (A (nI s)).1 = x2 ∧ hi2 (A (nI s)).1 < x3)) → cm1 A L s (x1, x2, x3) = (nI s, lo2 (A (nI s)).1, hi2 (A (nI s)).1) := fun h => if_pos ⟨hsub, h⟩
        have no : ¬ (x1 = -1 ∨ lo2 (A (nI s)).1 < x2 ∨ (lo2 (A (nI s)).1 = x2 ∧ hi2 (A (nI s)).1 < x3)) → cm1 A L s (x1, x2, x3) = (x1, x2, x3) := fun h => if_neg (fun q => h q.2)
        by_cases z1 : x1 = -1
        · rw [if_pos z1, yes (Or.inl z1), b259_107, b259_117, nI_1]
          exact ih (s + 1) (nI s, _, _) I2 _ _ (by omega) a1 a2
        · rw [if_neg z1]
          by_cases z2 : x2 < lo2 (A (nI s)).1
          · rw [if_pos z2, no (fun h => by
              rcases h with h | h | h
              · exact z1 h
              · rw [int_lt] at *; omega
              · rw [h.1] at z2; exact absurd z2 (by rw [int_lt]; omega)), b259_117, nI_1]
            exact ih (s + 1) (x1, x2, x3) I2 _ _ (by omega) a1 a2
          · rw [if_neg z2]
            by_cases z3 : lo2 (A (nI s)).1 = x2
            · rw [if_pos z3]
              by_cases z4 : hi2 (A (nI s)).1 < x3
              · rw [if_pos z4, yes (Or.inr (Or.inr ⟨z3, z4⟩)), b259_107, b259_117, nI_1]
                exact ih (s + 1) (nI s, _, _) I2 _ _ (by omega) a1 a2
              · rw [if_neg z4, no (fun h => by
                  rcases h with h | h | h
                  · exact z1 h
                  · rw [z3] at h; exact absurd h (by rw [int_lt]; omega)
                  · exact z4 h.2), b259_117, nI_1]
                exact ih (s + 1) (x1, x2, x3) I2 _ _ (by omega) a1 a2
            · have z5 : lo2 (A (nI s)).1 < x2 := by
                rw [int_lt] at *
                have : ¬ (lo2 (A (nI s)).1).toInt = x2.toInt := fun e => z3 (Int32.toInt_inj.mp e)
                omega
              rw [if_neg z3, yes (Or.inr (Or.inl z5)), b259_107, b259_117, nI_1]
              exact ih (s + 1) (nI s, _, _) I2 _ _ (by omega) a1 a2
      · rw [if_neg (fun h => hsub ((sub_dec _ _).mp h)), b259_117, nI_1, show cm1 A L s (x1, x2, x3) = (x1, x2, x3) from if_neg (fun h => hsub h.1)]
        exact ih (s + 1) (x1, x2, x3) I1 _ _ (by omega) q1 q2
  obtain ⟨I1, a1, a2⟩ := lC 256 0 (-1, 0, 0) I aNo aNo rfl (Fr_r _ _)
  have cut : fo (cm1 A L) 256 0 (-1, 0, 0) = fo (cm1 A L) (L + 1) 0 (-1, 0, 0) := fo_cut (M := 256) (i := 0) hL (by omega) _ (fun j h1 h2 a => by
    unfold cm1; rw [sub_no h1 (by omega), if_neg (fun h => absurd h.1 (by decide))])
  generalize fo (cm1 A L) 256 0 (-1, 0, 0) = X at a2 cut
  have h12 : Fr [12, 28] I (aU I1 12 1 2) := by rw [aU_R]; exact Fr_s (Fr_w a1 (by decide)) _ (by decide)
  obtain ⟨I2, b1, b2, b3⟩ := lR (aU I1 12 1 2) (aU (aU J 13 0 (Int32.toInt64 X.2.1)) 13 1 (Int32.toInt64 X.2.2)) h12 (L + 1) 0 (-1, 0, 0) (aU (aU I1 12 1 2) 46 13 0) aNo aNo (by omega) (thF _).1 (thF _).2
  rw [← cut] at b3
  refine tie_R H (Fr_w h12 (by decide)) ?_ ?_ ?_ (Eq.trans ?_ a2) (Eq.trans ?_ b3)
  · rw [aU_R I2]; exact Fr_s (Fr_w b1 (by decide)) _ (by decide)
  · intro j hj
    rw [aU_i _ _ (fun e => hj (by rw [e]; decide))]
    exact (F46_w b2 (by decide) : F46 (12 :: scf) _ I2) j hj
  · refine zR_2 ?_ (aU_s _ _ _ _) ?_ ?_
    · rw [aU_r _ _ (by decide), b1 12 (by decide), aU_s]
    · simp (disch := decide) only [aU_r, aU_i, aU_s]
    · simp (disch := decide) only [aU_r, aU_i, aU_s]
  · show aE d 124 0 [.ref 6, aNo, aNo, aNo, aNo, aNo, aNo, aNo] [] _ = _
    rw [b124_0, s1 I J rfl rfl]
    simp only [aBi]
    rw [b124_11]
    rfl
  · show aE d 259 0 [.ref 46, aNo, aNo, aNo, aNo, aNo, aNo, aNo] [] _ = _
    rw [b259_0, s2 _ _ (by rw [aU_r _ _ (by decide), h12 47 (by decide)]) (by rw [aU_i _ _ (by decide), h12 46 (by decide)])]
    simp only [aBi]
    rw [b259_9]
    rfl
