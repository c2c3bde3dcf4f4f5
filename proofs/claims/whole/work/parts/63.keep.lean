/-! the reference's races; what is kept -/
variable {d : Nat} {g : Nat × Nat × Nat} {I : Nat → Nat → Int32} {J : Nat → Nat → Int64} {sl rd rl : Nat}
theorem F46_w {S S' : List Nat} {I I' : Nat → Nat → Int32} (h : F46 S I I') (hs : ∀ a, a ∈ S → a ∈ S') : F46 S' I I' := fun a ha => h a (fun q => ha (hs a q))
theorem f223 {nd rs N : Nat} {rv : (Nat → Int32) → Int32} {sk : Nat → Int32} (hd : 41 ≤ d) (hV : rRule (I 55) rs rv) (hB : byR (I 55)) (hC : ∀ t t' : Nat → Int32, (∀ k, k < 8 → t k = t' k) → rv t = rv t') (hs : I 46 22 = nI rs) (hN : I 46 1 = nI nd) (hn : nd ≤ 8) (h0 : 0 < nd) (hc : clubs (fun i => I 47 (6 + i)) nd) (hsk : ∀ i, i < nd → I 48 i = sk i) (hN9 : N ≤ 99) : ∃ I' rd', Fr [46, 57, 47] I I' ∧ F46 [15, 16, 17, 18, 23, 29, 30, 31] I I' ∧ rV (I' 47) = vsR (sts rv sk) nd (rV (I 47)) N ∧ I' 46 29 = nI (blR (sts rv sk) nd (rV (I 47)) N) ∧ I' 46 30 = laR (sts rv sk) nd (rV (I 47)) N ∧ I' 46 31 = nI (joR (sts rv sk) nd (rV (I 47)) (I 46 8) N) ∧ aF d 223 [.ref 46, .ref 47, .int (nI N)] (g, I, J, aP1 sl rd 56) = some (some none, (g, I', J, aP1 sl rd' 56)) := by
  have hcV : clubs (fun i => rV (I 47) (6 + i)) nd := fun i hi => by
    obtain ⟨k, hk, e⟩ := hc i hi
    exact ⟨k, hk, (rV_lt _ (by omega)).trans e⟩
  have V := vsR_1 (st := sts rv sk) hcV hn h0
  have l : ∀ (M j : Nat) (I1 : Nat → Nat → Int32) (rd1 : Nat), j + M = N → Fr [46, 57, 47] I I1 → F46 [15, 16, 17, 18, 23, 29, 30, 31] I I1 → rV (I1 47) = vsR (sts rv sk) nd (rV (I 47)) j → I1 46 29 = nI (blR (sts rv sk) nd (rV (I 47)) j) → I1 46 30 = laR (sts rv sk) nd (rV (I 47)) j → I1 46 31 = nI (joR (sts rv sk) nd (rV (I 47)) (I 46 8) j) → ∃ I' rd', Fr [46, 57, 47] I I' ∧ F46 [15, 16, 17, 18, 23, 29, 30, 31] I I' ∧ rV (I' 47) = vsR (sts rv sk) nd (rV (I 47)) N ∧ I' 46 29 = nI (blR (sts rv sk) nd (rV (I 47)) N) ∧ I' 46 30 = laR (sts rv sk) nd (rV (I 47)) N ∧ I' 46 31 = nI (joR (sts rv sk) nd (rV (I 47)) (I 46 8) N) ∧ aE d 223 17 [.ref 46, .ref 47, .int (nI N), .int (nI j)] [] (g, I1, J, aP1 sl rd1 56) = some (some none, (g, I', J, aP1 sl rd' 56)) := by
    intro M
    induction M with
    | zero =>
      intro j I1 rd1 hj q p q1 q2 q3 q4
      obtain rfl : j = N := by omega
      refine ⟨I1, rd1, q, p, q1, q2, q3, q4, ?_⟩
      rw [b223_17]
      simp (disch := omega) only [Int32.le_refl, aBi, aBv, aBl, nI_1, nIle_t, nIle_f, nIlt_t, nIlt_f, nIeq_t, nIeq_f, nIneg, nI_clamp, nat_le_f, nat_le_t, nat_lt_f, nat_lt_t, or_self, or_false, false_or, if_true, if_false, ↓reduceIte, Int32.or_zero, Int32.add_zero, nIm2, nIm3, nIm4, nIp2, nIp4, nIp6, nIp8, nIp14, nIp16, nIp22, nIp24, nIp30, nIq2, nIq3, nIq4, hasI_0, aU_s, aU_i, aU_r, aU_u]
    | succ M ih =>
      intro j I1 rd1 hj q p q1 q2 q3 q4
      obtain ⟨hl, k, hk, e1, e2⟩ := V j
      have hW : wnR (sts rv sk) nd (rV (I 47)) j < nd := wn_lt _ h0
      have hcl : ∀ i, i < 8 → I1 47 (6 + i) = rV (I 47) (6 + i) := fun i hi => by
        rw [← rV_lt (I1 47) (show 6 + i < 39 by omega), q1]; exact hl i hi
      have f := f224 (d := d) (g := g) (I := I1) (J := J) (sl := sl) (rd := rd1) (nd := nd) (rs := rs) (rv := rv) (sk := sk) hd (by rw [q 55 (by decide)]; exact hV) (by rw [q 55 (by decide)]; exact hB) hC (by rw [p 22 (by decide)]; exact hs) (by rw [p 1 (by decide)]; exact hN) hn h0 (fun i hi => by
        obtain ⟨k, hk, e⟩ := hcV i hi
        exact ⟨k, hk, (hcl i (by omega)).trans e⟩) (fun i hi => by rw [q 48 (by decide)]; exact hsk i hi)
      rw [q1] at f
      obtain ⟨I2, rd2, k', hk', f1, f2, f3, f4, f5⟩ := f
      have f1 : I1 47 (6 + wnR (sts rv sk) nd (rV (I 47)) j) = nI k' := f1
      have f2 : I2 47 = rRace (I1 47) (wnR (sts rv sk) nd (rV (I 47)) j) k' := f2
      have f5 : aF d 224 [.ref 46, .ref 47] (g, I1, J, aP1 sl rd1 56) = some (some (some (.int (nI (wnR (sts rv sk) nd (rV (I 47)) j)))), (g, I2, J, aP1 sl rd2 56)) := f5
      obtain rfl : k = k' := by
        have : nI k = nI k' := by rw [← e1, ← f1, ← q1, rV_lt _ (by omega)]
        exact (nI_eq (by omega) (by omega)).mp this
      have hB2 : isB (sts rv sk) nd (rV (I 47)) j = decide (nI k = 0) := by unfold isB; rw [e1]
      have g1 : Fr [46, 57, 47] I I2 := Fr_t q f3
      have g2 : F46 [15, 16, 17, 18, 23, 29, 30, 31] I I2 := F46_t p (F46_w f4 (by decide))
      have g3 : rV (I2 47) = vsR (sts rv sk) nd (rV (I 47)) (j + 1) := by
        rw [f2, rRace_r _ (by omega) hk, q1, e2]
      have g6 : I2 47 (6 + wnR (sts rv sk) nd (rV (I 47)) j) = nI k := by
        rw [f2, rRace_l _ (by omega) hk (by omega)]; exact f1
      have p29 : I2 46 29 = nI (blR (sts rv sk) nd (rV (I 47)) j) := (f4 29 (by decide)).trans q2
      have p31 : I2 46 31 = nI (joR (sts rv sk) nd (rV (I 47)) (I 46 8) j) := (f4 31 (by decide)).trans q4
      have e228 : ∀ I5 : Nat → Nat → Int32, I5 47 = I2 47 → I5 46 8 = I 46 8 → aF d 228 [.ref 46, .ref 47] (g, I5, J, aP1 sl rd2 56) = some (some (some (.int (tI (jn (vsR (sts rv sk) nd (rV (I 47)) (j + 1)) (I 46 8))))), (g, I5, J, aP1 sl rd2 56)) := by
        intro I5 h1 h2
        rw [f228_47, jn_r, ← jn_rV, h1, h2, g3]
      have j1 : joR (sts rv sk) nd (rV (I 47)) (I 46 8) (j + 1) = joR (sts rv sk) nd (rV (I 47)) (I 46 8) j + (jn (vsR (sts rv sk) nd (rV (I 47)) (j + 1)) (I 46 8)).toNat := rfl
      have F : ∀ a b c : Int32, Fr [46, 57, 47] I (aU (aU (aU I2 46 30 a) 46 29 b) 46 31 c) ∧ F46 [15, 16, 17, 18, 23, 29, 30, 31] I (aU (aU (aU I2 46 30 a) 46 29 b) 46 31 c) := by
        intro a b c
        constructor
        · simp only [aU_R]
          exact Fr_s (Fr_s (Fr_s g1 _ (by decide)) _ (by decide)) _ (by decide)
        · intro j hj
          have hj' : j ≠ 15 ∧ j ≠ 16 ∧ j ≠ 17 ∧ j ≠ 18 ∧ j ≠ 23 ∧ j ≠ 29 ∧ j ≠ 30 ∧ j ≠ 31 := by simpa using hj
          rw [aU_i _ _ hj'.2.2.2.2.2.2.2, aU_i _ _ hj'.2.2.2.2.2.1, aU_i _ _ hj'.2.2.2.2.2.2.1]
          exact g2 j hj
      rw [b223_17, if_neg (nI_ge (by omega) (by omega)), f5]
      simp only [aBi]
      rw [b223_28]
      simp (disch := omega) only [g6, aBi, aBv, aBl, nI_1, nIle_t, nIle_f, nIlt_t, nIlt_f, nIeq_t, nIeq_f, nIneg, nI_clamp, nat_le_f, nat_le_t, nat_lt_f, nat_lt_t, or_self, or_false, false_or, if_true, if_false, ↓reduceIte, Int32.or_zero, Int32.add_zero, nIm2, nIm3, nIm4, nIp2, nIp4, nIp6, nIp8, nIp14, nIp16, nIp22, nIp24, nIp30, nIq2, nIq3, nIq4, hasI_0, aU_s, aU_i, aU_r, aU_u]
      rcases (by omega : k = 0 ∨ k = 1) with rfl | rfl
      · have hB2 : isB (sts rv sk) nd (rV (I 47)) j = true := by rw [hB2]; rfl
        have c1 : blR (sts rv sk) nd (rV (I 47)) (j + 1) = blR (sts rv sk) nd (rV (I 47)) j + 1 := if_pos hB2
        rw [if_pos (show nI 0 = (0 : Int32) from rfl), e228 _ (by simp (disch := decide) only [aU_r]) (by simp (disch := decide) only [aU_i]; exact g2 8 (by decide))]
        simp only
        rw [b223_67]
        simp (disch := decide) only [aU_i, p29, p31, nI_1 (blR (sts rv sk) nd (rV (I 47)) j), nI_1 j]
        rw [ifT _ (fun z => aE d 223 17 _ _ (g, aU _ 46 31 z, J, aP1 sl rd2 56)), tI_n, nI_add, ← j1, ← c1]
        refine ih (j + 1) _ _ (by omega) (F _ _ _).1 (F _ _ _).2 ?_ ?_ ?_ ?_
        · simp (disch := decide) only [aU_r]; exact g3
        · simp (disch := decide) only [aU_s, aU_i]
        · simp (disch := decide) only [aU_s, aU_i]; rfl
        · rw [aU_s]
      · have hB2 : ¬ isB (sts rv sk) nd (rV (I 47)) j = true := by rw [hB2]; decide
        have c1 : blR (sts rv sk) nd (rV (I 47)) (j + 1) = blR (sts rv sk) nd (rV (I 47)) j := if_neg hB2
        rw [if_neg (show ¬ nI 1 = (0 : Int32) from by decide), e228 _ (by simp (disch := decide) only [aU_r]) (by simp (disch := decide) only [aU_i]; exact g2 8 (by decide))]
        simp only
        rw [b223_67]
        simp (disch := decide) only [aU_i, p29, p31, nI_1 j]
        rw [ifT _ (fun z => aE d 223 17 _ _ (g, aU _ 46 31 z, J, aP1 sl rd2 56)), tI_n, nI_add, ← j1, ← c1]
        refine ih (j + 1) _ _ (by omega) (F _ _ _).1 (F _ _ _).2 ?_ ?_ ?_ ?_
        · simp (disch := decide) only [aU_r]; exact g3
        · simp (disch := decide) only [aU_s, aU_i]
        · simp (disch := decide) only [aU_s, aU_i]; rfl
        · rw [aU_s]
  obtain ⟨I', rd', h1, h2, h3, h4, h5, h6, h7⟩ := l N 0 (aU (aU (aU I 46 29 0) 46 30 (-1)) 46 31 0) rd (by omega) (by
    simp only [aU_R]
    exact Fr_s (Fr_s (Fr_s (Fr_r _ _) _ (by decide)) _ (by decide)) _ (by decide)) (by
      intro j hj
      have hj' : j ≠ 15 ∧ j ≠ 16 ∧ j ≠ 17 ∧ j ≠ 18 ∧ j ≠ 23 ∧ j ≠ 29 ∧ j ≠ 30 ∧ j ≠ 31 := by simpa using hj
      rw [aU_i _ _ hj'.2.2.2.2.2.2.2, aU_i _ _ hj'.2.2.2.2.2.2.1, aU_i _ _ hj'.2.2.2.2.2.1]) (by simp (disch := decide) only [aU_r]; rfl) (by simp (disch := decide) only [aU_s, aU_i]; rfl) (by simp (disch := decide) only [aU_s, aU_i]; rfl) (by simp (disch := decide) only [aU_s, aU_i]; rfl)
  refine ⟨I', rd', h1, h2, h3, h4, h5, h6, ?_⟩
  show aE d 223 0 [.ref 46, .ref 47, .int (nI N), aNo] [] _ = _
  rw [b223_0]
  exact h7
theorem f223t {nd rs N : Nat} {rv : (Nat → Int32) → Int32} {sk : Nat → Int32} (hd : 41 ≤ d) (hV : rRule (I 55) rs rv) (hB : byR (I 55)) (hC : ∀ t t' : Nat → Int32, (∀ k, k < 8 → t k = t' k) → rv t = rv t') (hs : I 46 22 = nI rs) (hN : I 46 1 = nI nd) (hn : nd ≤ 8) (h0 : 0 < nd) (hc : clubs (fun i => I 60 (6 + i)) nd) (hsk : ∀ i, i < nd → I 48 i = sk i) (hN9 : N ≤ 99) : ∃ I' rd', Fr [46, 57, 60] I I' ∧ F46 [15, 16, 17, 18, 23, 29, 30, 31] I I' ∧ rV (I' 60) = vsR (sts rv sk) nd (rV (I 60)) N ∧ I' 46 29 = nI (blR (sts rv sk) nd (rV (I 60)) N) ∧ I' 46 30 = laR (sts rv sk) nd (rV (I 60)) N ∧ I' 46 31 = nI (joR (sts rv sk) nd (rV (I 60)) (I 46 8) N) ∧ aF d 223 [.ref 46, .ref 60, .int (nI N)] (g, I, J, aP1 sl rd 56) = some (some none, (g, I', J, aP1 sl rd' 56)) := by
  have hcV : clubs (fun i => rV (I 60) (6 + i)) nd := fun i hi => by
    obtain ⟨k, hk, e⟩ := hc i hi
    exact ⟨k, hk, (rV_lt _ (by omega)).trans e⟩
  have V := vsR_1 (st := sts rv sk) hcV hn h0
  have l : ∀ (M j : Nat) (I1 : Nat → Nat → Int32) (rd1 : Nat), j + M = N → Fr [46, 57, 60] I I1 → F46 [15, 16, 17, 18, 23, 29, 30, 31] I I1 → rV (I1 60) = vsR (sts rv sk) nd (rV (I 60)) j → I1 46 29 = nI (blR (sts rv sk) nd (rV (I 60)) j) → I1 46 30 = laR (sts rv sk) nd (rV (I 60)) j → I1 46 31 = nI (joR (sts rv sk) nd (rV (I 60)) (I 46 8) j) → ∃ I' rd', Fr [46, 57, 60] I I' ∧ F46 [15, 16, 17, 18, 23, 29, 30, 31] I I' ∧ rV (I' 60) = vsR (sts rv sk) nd (rV (I 60)) N ∧ I' 46 29 = nI (blR (sts rv sk) nd (rV (I 60)) N) ∧ I' 46 30 = laR (sts rv sk) nd (rV (I 60)) N ∧ I' 46 31 = nI (joR (sts rv sk) nd (rV (I 60)) (I 46 8) N) ∧ aE d 223 17 [.ref 46, .ref 60, .int (nI N), .int (nI j)] [] (g, I1, J, aP1 sl rd1 56) = some (some none, (g, I', J, aP1 sl rd' 56)) := by
    intro M
    induction M with
    | zero =>
      intro j I1 rd1 hj q p q1 q2 q3 q4
      obtain rfl : j = N := by omega
      refine ⟨I1, rd1, q, p, q1, q2, q3, q4, ?_⟩
      rw [b223_17_2]
      simp (disch := omega) only [Int32.le_refl, aBi, aBv, aBl, nI_1, nIle_t, nIle_f, nIlt_t, nIlt_f, nIeq_t, nIeq_f, nIneg, nI_clamp, nat_le_f, nat_le_t, nat_lt_f, nat_lt_t, or_self, or_false, false_or, if_true, if_false, ↓reduceIte, Int32.or_zero, Int32.add_zero, nIm2, nIm3, nIm4, nIp2, nIp4, nIp6, nIp8, nIp14, nIp16, nIp22, nIp24, nIp30, nIq2, nIq3, nIq4, hasI_0, aU_s, aU_i, aU_r, aU_u]
    | succ M ih =>
      intro j I1 rd1 hj q p q1 q2 q3 q4
      obtain ⟨hl, k, hk, e1, e2⟩ := V j
      have hW : wnR (sts rv sk) nd (rV (I 60)) j < nd := wn_lt _ h0
      have hcl : ∀ i, i < 8 → I1 60 (6 + i) = rV (I 60) (6 + i) := fun i hi => by
        rw [← rV_lt (I1 60) (show 6 + i < 39 by omega), q1]; exact hl i hi
      have f := f224t (d := d) (g := g) (I := I1) (J := J) (sl := sl) (rd := rd1) (nd := nd) (rs := rs) (rv := rv) (sk := sk) hd (by rw [q 55 (by decide)]; exact hV) (by rw [q 55 (by decide)]; exact hB) hC (by rw [p 22 (by decide)]; exact hs) (by rw [p 1 (by decide)]; exact hN) hn h0 (fun i hi => by
        obtain ⟨k, hk, e⟩ := hcV i hi
        exact ⟨k, hk, (hcl i (by omega)).trans e⟩) (fun i hi => by rw [q 48 (by decide)]; exact hsk i hi)
      rw [q1] at f
      obtain ⟨I2, rd2, k', hk', f1, f2, f3, f4, f5⟩ := f
      have f1 : I1 60 (6 + wnR (sts rv sk) nd (rV (I 60)) j) = nI k' := f1
      have f2 : I2 60 = rRace (I1 60) (wnR (sts rv sk) nd (rV (I 60)) j) k' := f2
      have f5 : aF d 224 [.ref 46, .ref 60] (g, I1, J, aP1 sl rd1 56) = some (some (some (.int (nI (wnR (sts rv sk) nd (rV (I 60)) j)))), (g, I2, J, aP1 sl rd2 56)) := f5
      obtain rfl : k = k' := by
        have : nI k = nI k' := by rw [← e1, ← f1, ← q1, rV_lt _ (by omega)]
        exact (nI_eq (by omega) (by omega)).mp this
      have hB2 : isB (sts rv sk) nd (rV (I 60)) j = decide (nI k = 0) := by unfold isB; rw [e1]
      have g1 : Fr [46, 57, 60] I I2 := Fr_t q f3
      have g2 : F46 [15, 16, 17, 18, 23, 29, 30, 31] I I2 := F46_t p (F46_w f4 (by decide))
      have g3 : rV (I2 60) = vsR (sts rv sk) nd (rV (I 60)) (j + 1) := by
        rw [f2, rRace_r _ (by omega) hk, q1, e2]
      have g6 : I2 60 (6 + wnR (sts rv sk) nd (rV (I 60)) j) = nI k := by
        rw [f2, rRace_l _ (by omega) hk (by omega)]; exact f1
      have p29 : I2 46 29 = nI (blR (sts rv sk) nd (rV (I 60)) j) := (f4 29 (by decide)).trans q2
      have p31 : I2 46 31 = nI (joR (sts rv sk) nd (rV (I 60)) (I 46 8) j) := (f4 31 (by decide)).trans q4
      have e228 : ∀ I5 : Nat → Nat → Int32, I5 60 = I2 60 → I5 46 8 = I 46 8 → aF d 228 [.ref 46, .ref 60] (g, I5, J, aP1 sl rd2 56) = some (some (some (.int (tI (jn (vsR (sts rv sk) nd (rV (I 60)) (j + 1)) (I 46 8))))), (g, I5, J, aP1 sl rd2 56)) := by
        intro I5 h1 h2
        rw [f228_60, jn_r, ← jn_rV, h1, h2, g3]
      have j1 : joR (sts rv sk) nd (rV (I 60)) (I 46 8) (j + 1) = joR (sts rv sk) nd (rV (I 60)) (I 46 8) j + (jn (vsR (sts rv sk) nd (rV (I 60)) (j + 1)) (I 46 8)).toNat := rfl
      have F : ∀ a b c : Int32, Fr [46, 57, 60] I (aU (aU (aU I2 46 30 a) 46 29 b) 46 31 c) ∧ F46 [15, 16, 17, 18, 23, 29, 30, 31] I (aU (aU (aU I2 46 30 a) 46 29 b) 46 31 c) := by
        intro a b c
        constructor
        · simp only [aU_R]
          exact Fr_s (Fr_s (Fr_s g1 _ (by decide)) _ (by decide)) _ (by decide)
        · intro j hj
          have hj' : j ≠ 15 ∧ j ≠ 16 ∧ j ≠ 17 ∧ j ≠ 18 ∧ j ≠ 23 ∧ j ≠ 29 ∧ j ≠ 30 ∧ j ≠ 31 := by simpa using hj
          rw [aU_i _ _ hj'.2.2.2.2.2.2.2, aU_i _ _ hj'.2.2.2.2.2.1, aU_i _ _ hj'.2.2.2.2.2.2.1]
          exact g2 j hj
      rw [b223_17_2, if_neg (nI_ge (by omega) (by omega)), f5]
      simp only [aBi]
      rw [b223_28_2]
      simp (disch := omega) only [g6, aBi, aBv, aBl, nI_1, nIle_t, nIle_f, nIlt_t, nIlt_f, nIeq_t, nIeq_f, nIneg, nI_clamp, nat_le_f, nat_le_t, nat_lt_f, nat_lt_t, or_self, or_false, false_or, if_true, if_false, ↓reduceIte, Int32.or_zero, Int32.add_zero, nIm2, nIm3, nIm4, nIp2, nIp4, nIp6, nIp8, nIp14, nIp16, nIp22, nIp24, nIp30, nIq2, nIq3, nIq4, hasI_0, aU_s, aU_i, aU_r, aU_u]
      rcases (by omega : k = 0 ∨ k = 1) with rfl | rfl
      · have hB2 : isB (sts rv sk) nd (rV (I 60)) j = true := by rw [hB2]; rfl
        have c1 : blR (sts rv sk) nd (rV (I 60)) (j + 1) = blR (sts rv sk) nd (rV (I 60)) j + 1 := if_pos hB2
        rw [if_pos (show nI 0 = (0 : Int32) from rfl), e228 _ (by simp (disch := decide) only [aU_r]) (by simp (disch := decide) only [aU_i]; exact g2 8 (by decide))]
        simp only
        rw [b223_67_2]
        simp (disch := decide) only [aU_i, p29, p31, nI_1 (blR (sts rv sk) nd (rV (I 60)) j), nI_1 j]
        rw [ifT _ (fun z => aE d 223 17 _ _ (g, aU _ 46 31 z, J, aP1 sl rd2 56)), tI_n, nI_add, ← j1, ← c1]
        refine ih (j + 1) _ _ (by omega) (F _ _ _).1 (F _ _ _).2 ?_ ?_ ?_ ?_
        · simp (disch := decide) only [aU_r]; exact g3
        · simp (disch := decide) only [aU_s, aU_i]
        · simp (disch := decide) only [aU_s, aU_i]; rfl
        · rw [aU_s]
      · have hB2 : ¬ isB (sts rv sk) nd (rV (I 60)) j = true := by rw [hB2]; decide
        have c1 : blR (sts rv sk) nd (rV (I 60)) (j + 1) = blR (sts rv sk) nd (rV (I 60)) j := if_neg hB2
        rw [if_neg (show ¬ nI 1 = (0 : Int32) from by decide), e228 _ (by simp (disch := decide) only [aU_r]) (by simp (disch := decide) only [aU_i]; exact g2 8 (by decide))]
        simp only
        rw [b223_67_2]
        simp (disch := decide) only [aU_i, p29, p31, nI_1 j]
        rw [ifT _ (fun z => aE d 223 17 _ _ (g, aU _ 46 31 z, J, aP1 sl rd2 56)), tI_n, nI_add, ← j1, ← c1]
        refine ih (j + 1) _ _ (by omega) (F _ _ _).1 (F _ _ _).2 ?_ ?_ ?_ ?_
        · simp (disch := decide) only [aU_r]; exact g3
        · simp (disch := decide) only [aU_s, aU_i]
        · simp (disch := decide) only [aU_s, aU_i]; rfl
        · rw [aU_s]
  obtain ⟨I', rd', h1, h2, h3, h4, h5, h6, h7⟩ := l N 0 (aU (aU (aU I 46 29 0) 46 30 (-1)) 46 31 0) rd (by omega) (by
    simp only [aU_R]
    exact Fr_s (Fr_s (Fr_s (Fr_r _ _) _ (by decide)) _ (by decide)) _ (by decide)) (by
      intro j hj
      have hj' : j ≠ 15 ∧ j ≠ 16 ∧ j ≠ 17 ∧ j ≠ 18 ∧ j ≠ 23 ∧ j ≠ 29 ∧ j ≠ 30 ∧ j ≠ 31 := by simpa using hj
      rw [aU_i _ _ hj'.2.2.2.2.2.2.2, aU_i _ _ hj'.2.2.2.2.2.2.1, aU_i _ _ hj'.2.2.2.2.2.1]) (by simp (disch := decide) only [aU_r]; rfl) (by simp (disch := decide) only [aU_s, aU_i]; rfl) (by simp (disch := decide) only [aU_s, aU_i]; rfl) (by simp (disch := decide) only [aU_s, aU_i]; rfl)
  refine ⟨I', rd', h1, h2, h3, h4, h5, h6, ?_⟩
  show aE d 223 0 [.ref 46, .ref 60, .int (nI N), aNo] [] _ = _
  rw [b223_0_2]
  exact h7
theorem f223o {nd rs N : Nat} {rv : (Nat → Int32) → Int32} {sk : Nat → Int32} (hd : 41 ≤ d) (hV : rRule (I 56) rs rv) (hB : byR (I 56)) (hC : ∀ t t' : Nat → Int32, (∀ k, k < 8 → t k = t' k) → rv t = rv t') (hs : I 46 22 = nI rs) (hN : I 46 1 = nI nd) (hn : nd ≤ 8) (h0 : 0 < nd) (hc : clubs (fun i => I 60 (6 + i)) nd) (hsk : ∀ i, i < nd → I 48 i = sk i) (hN9 : N ≤ 99) : ∃ I' rd', Fr [46, 57, 60] I I' ∧ F46 [15, 16, 17, 18, 23, 29, 30, 31] I I' ∧ rV (I' 60) = vsR (sts rv sk) nd (rV (I 60)) N ∧ I' 46 29 = nI (blR (sts rv sk) nd (rV (I 60)) N) ∧ I' 46 30 = laR (sts rv sk) nd (rV (I 60)) N ∧ I' 46 31 = nI (joR (sts rv sk) nd (rV (I 60)) (I 46 8) N) ∧ aF d 223 [.ref 46, .ref 60, .int (nI N)] (g, I, J, aP1 sl rd 57) = some (some none, (g, I', J, aP1 sl rd' 57)) := by
  have hcV : clubs (fun i => rV (I 60) (6 + i)) nd := fun i hi => by
    obtain ⟨k, hk, e⟩ := hc i hi
    exact ⟨k, hk, (rV_lt _ (by omega)).trans e⟩
  have V := vsR_1 (st := sts rv sk) hcV hn h0
  have l : ∀ (M j : Nat) (I1 : Nat → Nat → Int32) (rd1 : Nat), j + M = N → Fr [46, 57, 60] I I1 → F46 [15, 16, 17, 18, 23, 29, 30, 31] I I1 → rV (I1 60) = vsR (sts rv sk) nd (rV (I 60)) j → I1 46 29 = nI (blR (sts rv sk) nd (rV (I 60)) j) → I1 46 30 = laR (sts rv sk) nd (rV (I 60)) j → I1 46 31 = nI (joR (sts rv sk) nd (rV (I 60)) (I 46 8) j) → ∃ I' rd', Fr [46, 57, 60] I I' ∧ F46 [15, 16, 17, 18, 23, 29, 30, 31] I I' ∧ rV (I' 60) = vsR (sts rv sk) nd (rV (I 60)) N ∧ I' 46 29 = nI (blR (sts rv sk) nd (rV (I 60)) N) ∧ I' 46 30 = laR (sts rv sk) nd (rV (I 60)) N ∧ I' 46 31 = nI (joR (sts rv sk) nd (rV (I 60)) (I 46 8) N) ∧ aE d 223 17 [.ref 46, .ref 60, .int (nI N), .int (nI j)] [] (g, I1, J, aP1 sl rd1 57) = some (some none, (g, I', J, aP1 sl rd' 57)) := by
    intro M
    induction M with
    | zero =>
      intro j I1 rd1 hj q p q1 q2 q3 q4
      obtain rfl : j = N := by omega
      refine ⟨I1, rd1, q, p, q1, q2, q3, q4, ?_⟩
      rw [b223_17_2]
      simp (disch := omega) only [Int32.le_refl, aBi, aBv, aBl, nI_1, nIle_t, nIle_f, nIlt_t, nIlt_f, nIeq_t, nIeq_f, nIneg, nI_clamp, nat_le_f, nat_le_t, nat_lt_f, nat_lt_t, or_self, or_false, false_or, if_true, if_false, ↓reduceIte, Int32.or_zero, Int32.add_zero, nIm2, nIm3, nIm4, nIp2, nIp4, nIp6, nIp8, nIp14, nIp16, nIp22, nIp24, nIp30, nIq2, nIq3, nIq4, hasI_0, aU_s, aU_i, aU_r, aU_u]
    | succ M ih =>
      intro j I1 rd1 hj q p q1 q2 q3 q4
      obtain ⟨hl, k, hk, e1, e2⟩ := V j
      have hW : wnR (sts rv sk) nd (rV (I 60)) j < nd := wn_lt _ h0
      have hcl : ∀ i, i < 8 → I1 60 (6 + i) = rV (I 60) (6 + i) := fun i hi => by
        rw [← rV_lt (I1 60) (show 6 + i < 39 by omega), q1]; exact hl i hi
      have f := f224o (d := d) (g := g) (I := I1) (J := J) (sl := sl) (rd := rd1) (nd := nd) (rs := rs) (rv := rv) (sk := sk) hd (by rw [q 56 (by decide)]; exact hV) (by rw [q 56 (by decide)]; exact hB) hC (by rw [p 22 (by decide)]; exact hs) (by rw [p 1 (by decide)]; exact hN) hn h0 (fun i hi => by
        obtain ⟨k, hk, e⟩ := hcV i hi
        exact ⟨k, hk, (hcl i (by omega)).trans e⟩) (fun i hi => by rw [q 48 (by decide)]; exact hsk i hi)
      rw [q1] at f
      obtain ⟨I2, rd2, k', hk', f1, f2, f3, f4, f5⟩ := f
      have f1 : I1 60 (6 + wnR (sts rv sk) nd (rV (I 60)) j) = nI k' := f1
      have f2 : I2 60 = rRace (I1 60) (wnR (sts rv sk) nd (rV (I 60)) j) k' := f2
      have f5 : aF d 224 [.ref 46, .ref 60] (g, I1, J, aP1 sl rd1 57) = some (some (some (.int (nI (wnR (sts rv sk) nd (rV (I 60)) j)))), (g, I2, J, aP1 sl rd2 57)) := f5
      obtain rfl : k = k' := by
        have : nI k = nI k' := by rw [← e1, ← f1, ← q1, rV_lt _ (by omega)]
        exact (nI_eq (by omega) (by omega)).mp this
      have hB2 : isB (sts rv sk) nd (rV (I 60)) j = decide (nI k = 0) := by unfold isB; rw [e1]
      have g1 : Fr [46, 57, 60] I I2 := Fr_t q f3
      have g2 : F46 [15, 16, 17, 18, 23, 29, 30, 31] I I2 := F46_t p (F46_w f4 (by decide))
      have g3 : rV (I2 60) = vsR (sts rv sk) nd (rV (I 60)) (j + 1) := by
        rw [f2, rRace_r _ (by omega) hk, q1, e2]
      have g6 : I2 60 (6 + wnR (sts rv sk) nd (rV (I 60)) j) = nI k := by
        rw [f2, rRace_l _ (by omega) hk (by omega)]; exact f1
      have p29 : I2 46 29 = nI (blR (sts rv sk) nd (rV (I 60)) j) := (f4 29 (by decide)).trans q2
      have p31 : I2 46 31 = nI (joR (sts rv sk) nd (rV (I 60)) (I 46 8) j) := (f4 31 (by decide)).trans q4
      have e228 : ∀ I5 : Nat → Nat → Int32, I5 60 = I2 60 → I5 46 8 = I 46 8 → aF d 228 [.ref 46, .ref 60] (g, I5, J, aP1 sl rd2 57) = some (some (some (.int (tI (jn (vsR (sts rv sk) nd (rV (I 60)) (j + 1)) (I 46 8))))), (g, I5, J, aP1 sl rd2 57)) := by
        intro I5 h1 h2
        rw [f228_60, jn_r, ← jn_rV, h1, h2, g3]
      have j1 : joR (sts rv sk) nd (rV (I 60)) (I 46 8) (j + 1) = joR (sts rv sk) nd (rV (I 60)) (I 46 8) j + (jn (vsR (sts rv sk) nd (rV (I 60)) (j + 1)) (I 46 8)).toNat := rfl
      have F : ∀ a b c : Int32, Fr [46, 57, 60] I (aU (aU (aU I2 46 30 a) 46 29 b) 46 31 c) ∧ F46 [15, 16, 17, 18, 23, 29, 30, 31] I (aU (aU (aU I2 46 30 a) 46 29 b) 46 31 c) := by
        intro a b c
        constructor
        · simp only [aU_R]
          exact Fr_s (Fr_s (Fr_s g1 _ (by decide)) _ (by decide)) _ (by decide)
        · intro j hj
          have hj' : j ≠ 15 ∧ j ≠ 16 ∧ j ≠ 17 ∧ j ≠ 18 ∧ j ≠ 23 ∧ j ≠ 29 ∧ j ≠ 30 ∧ j ≠ 31 := by simpa using hj
          rw [aU_i _ _ hj'.2.2.2.2.2.2.2, aU_i _ _ hj'.2.2.2.2.2.1, aU_i _ _ hj'.2.2.2.2.2.2.1]
          exact g2 j hj
      rw [b223_17_2, if_neg (nI_ge (by omega) (by omega)), f5]
      simp only [aBi]
      rw [b223_28_2]
      simp (disch := omega) only [g6, aBi, aBv, aBl, nI_1, nIle_t, nIle_f, nIlt_t, nIlt_f, nIeq_t, nIeq_f, nIneg, nI_clamp, nat_le_f, nat_le_t, nat_lt_f, nat_lt_t, or_self, or_false, false_or, if_true, if_false, ↓reduceIte, Int32.or_zero, Int32.add_zero, nIm2, nIm3, nIm4, nIp2, nIp4, nIp6, nIp8, nIp14, nIp16, nIp22, nIp24, nIp30, nIq2, nIq3, nIq4, hasI_0, aU_s, aU_i, aU_r, aU_u]
      rcases (by omega : k = 0 ∨ k = 1) with rfl | rfl
      · have hB2 : isB (sts rv sk) nd (rV (I 60)) j = true := by rw [hB2]; rfl
        have c1 : blR (sts rv sk) nd (rV (I 60)) (j + 1) = blR (sts rv sk) nd (rV (I 60)) j + 1 := if_pos hB2
        rw [if_pos (show nI 0 = (0 : Int32) from rfl), e228 _ (by simp (disch := decide) only [aU_r]) (by simp (disch := decide) only [aU_i]; exact g2 8 (by decide))]
        simp only
        rw [b223_67_2]
        simp (disch := decide) only [aU_i, p29, p31, nI_1 (blR (sts rv sk) nd (rV (I 60)) j), nI_1 j]
        rw [ifT _ (fun z => aE d 223 17 _ _ (g, aU _ 46 31 z, J, aP1 sl rd2 57)), tI_n, nI_add, ← j1, ← c1]
        refine ih (j + 1) _ _ (by omega) (F _ _ _).1 (F _ _ _).2 ?_ ?_ ?_ ?_
        · simp (disch := decide) only [aU_r]; exact g3
        · simp (disch := decide) only [aU_s, aU_i]
        · simp (disch := decide) only [aU_s, aU_i]; rfl
        · rw [aU_s]
      · have hB2 : ¬ isB (sts rv sk) nd (rV (I 60)) j = true := by rw [hB2]; decide
        have c1 : blR (sts rv sk) nd (rV (I 60)) (j + 1) = blR (sts rv sk) nd (rV (I 60)) j := if_neg hB2
        rw [if_neg (show ¬ nI 1 = (0 : Int32) from by decide), e228 _ (by simp (disch := decide) only [aU_r]) (by simp (disch := decide) only [aU_i]; exact g2 8 (by decide))]
        simp only
        rw [b223_67_2]
        simp (disch := decide) only [aU_i, p29, p31, nI_1 j]
        rw [ifT _ (fun z => aE d 223 17 _ _ (g, aU _ 46 31 z, J, aP1 sl rd2 57)), tI_n, nI_add, ← j1, ← c1]
        refine ih (j + 1) _ _ (by omega) (F _ _ _).1 (F _ _ _).2 ?_ ?_ ?_ ?_
        · simp (disch := decide) only [aU_r]; exact g3
        · simp (disch := decide) only [aU_s, aU_i]
        · simp (disch := decide) only [aU_s, aU_i]; rfl
        · rw [aU_s]
  obtain ⟨I', rd', h1, h2, h3, h4, h5, h6, h7⟩ := l N 0 (aU (aU (aU I 46 29 0) 46 30 (-1)) 46 31 0) rd (by omega) (by
    simp only [aU_R]
    exact Fr_s (Fr_s (Fr_s (Fr_r _ _) _ (by decide)) _ (by decide)) _ (by decide)) (by
      intro j hj
      have hj' : j ≠ 15 ∧ j ≠ 16 ∧ j ≠ 17 ∧ j ≠ 18 ∧ j ≠ 23 ∧ j ≠ 29 ∧ j ≠ 30 ∧ j ≠ 31 := by simpa using hj
      rw [aU_i _ _ hj'.2.2.2.2.2.2.2, aU_i _ _ hj'.2.2.2.2.2.2.1, aU_i _ _ hj'.2.2.2.2.2.1]) (by simp (disch := decide) only [aU_r]; rfl) (by simp (disch := decide) only [aU_s, aU_i]; rfl) (by simp (disch := decide) only [aU_s, aU_i]; rfl) (by simp (disch := decide) only [aU_s, aU_i]; rfl)
  refine ⟨I', rd', h1, h2, h3, h4, h5, h6, ?_⟩
  show aE d 223 0 [.ref 46, .ref 60, .int (nI N), aNo] [] _ = _
  rw [b223_0_2]
  exact h7
/-! states kept: the reference's row of them, the class's ring -/
def shJ (r : Nat → Int32) (j : Nat) : Nat → Int32 := fun k => if k < j then r (k + 39) else r k
theorem shJ_1 (r : Nat → Int32) (j : Nat) : upd (shJ r j) j (shJ r j (j + 39)) = shJ r (j + 1) := by
  funext k
  unfold upd shJ
  by_cases h : k = j
  · subst h; rw [if_pos rfl, if_neg (by omega), if_pos (by omega)]
  · rw [if_neg h]
    by_cases h2 : k < j
    · rw [if_pos h2, if_pos (by omega)]
    · rw [if_neg h2, if_neg (by omega)]
theorem f221_47 {u : Nat} (hu : I 46 26 = nI u) (h12 : u ≤ 12) : aF d 221 [.ref 46, .ref 47] (g, I, J, aP1 sl rd rl) = some (some none, (g, aR (aR I 58 (remR (I 58) (I 47) u)) 46 (upd (I 46) 26 (nI (up12 u))), J, aP1 sl rd rl)) := by
  show aE d 221 0 [.ref 46, .ref 47, aNo] [] _ = _
  by_cases h : u = 12
  · subst h
    rw [b221_0, if_pos (show I 46 26 = 12 from hu)]
    have l : ∀ m j, j + m = 429 → aE d 221 11 [.ref 46, .ref 47, .int (nI j)] [] (g, aR I 58 (shJ (I 58) j), J, aP1 sl rd rl) = aE d 221 11 [.ref 46, .ref 47, .int (nI 429)] [] (g, aR I 58 (shJ (I 58) 429), J, aP1 sl rd rl) := by
      intro m
      induction m with
      | zero => intro j hj; obtain rfl : j = 429 := by omega
                rfl
      | succ m ih =>
        intro j hj
        rw [b221_11]
        simp (disch := omega) only [kgf429, kgt429, klt429, klf429, kmt429, kmf429, kat429, kaf429, ket429, kef429, nI_add, show nI j + 39 = nI (j + 39) from nI_add j 39, aU_R, aR_s, aR_u, shJ_1, aBi, aBv, aBl, nI_1, nIle_t, nIle_f, nIlt_t, nIlt_f, nIeq_t, nIeq_f, nIneg, nI_clamp, nat_le_f, nat_le_t, nat_lt_f, nat_lt_t, or_self, or_false, false_or, if_true, if_false, ↓reduceIte, Int32.or_zero, Int32.add_zero, nIm2, nIm3, nIm4, nIp2, nIp4, nIp6, nIp8, nIp14, nIp16, nIp22, nIp24, nIp30, nIq2, nIq3, nIq4, hasI_0, aU_s, aU_i, aU_r, aU_u]
        exact ih (j + 1) (by omega)
    have l0 := l 429 0 rfl
    rw [show shJ (I 58) 0 = I 58 from by funext k; exact if_neg (by omega), aR_i] at l0
    refine l0.trans ?_
    rw [b221_11, if_pos (by decide), aR_r _ _ (by decide), hu, show nI 12 - 1 = nI 11 from rfl, nIm39, f222_58 (o := 39 * 11) (by decide)]
    simp only [aBv]
    rw [b221_64]
    simp (disch := decide) only [aU_R, aR_s, aR_r, aR_u, upd_s, upd_u]
    unfold remR up12
    rw [if_pos rfl, if_neg (by decide), show nI 11 + 1 = nI 12 from nI_1 11]
    rw [aR_c (aR I 58 (shJ (I 58) 429)) _ _ (show 46 ≠ 58 by decide), aR_u, aR_u]
    rfl
  · rw [b221_0, hu]
    simp (disch := omega) only [kgf12, kgt12, klt12, klf12, kmt12, kmf12, kat12, kaf12, ket12, kef12, nIm39, f222_58, aBi, aBv, aBl, nI_1, nIle_t, nIle_f, nIlt_t, nIlt_f, nIeq_t, nIeq_f, nIneg, nI_clamp, nat_le_f, nat_le_t, nat_lt_f, nat_lt_t, or_self, or_false, false_or, if_true, if_false, ↓reduceIte, Int32.or_zero, Int32.add_zero, nIm2, nIm3, nIm4, nIp2, nIp4, nIp6, nIp8, nIp14, nIp16, nIp22, nIp24, nIp30, nIq2, nIq3, nIq4, hasI_0, aU_s, aU_i, aU_r, aU_u]
    rw [b221_64, aR_r _ _ (by decide), hu]
    unfold remR up12
    rw [if_neg h, if_pos (by omega)]
    simp (disch := omega) only [aU_R, aR_r, aBi, aBv, aBl, nI_1, nIle_t, nIle_f, nIlt_t, nIlt_f, nIeq_t, nIeq_f, nIneg, nI_clamp, nat_le_f, nat_le_t, nat_lt_f, nat_lt_t, or_self, or_false, false_or, if_true, if_false, ↓reduceIte, Int32.or_zero, Int32.add_zero, nIm2, nIm3, nIm4, nIp2, nIp4, nIp6, nIp8, nIp14, nIp16, nIp22, nIp24, nIp30, nIq2, nIq3, nIq4, hasI_0, aU_s, aU_i, aU_r, aU_u]
theorem f221_59 {u : Nat} (hu : I 46 26 = nI u) (h12 : u ≤ 12) : aF d 221 [.ref 46, .ref 59] (g, I, J, aP1 sl rd rl) = some (some none, (g, aR (aR I 58 (remR (I 58) (I 59) u)) 46 (upd (I 46) 26 (nI (up12 u))), J, aP1 sl rd rl)) := by
  show aE d 221 0 [.ref 46, .ref 59, aNo] [] _ = _
  by_cases h : u = 12
  · subst h
    rw [b221_0_2, if_pos (show I 46 26 = 12 from hu)]
    have l : ∀ m j, j + m = 429 → aE d 221 11 [.ref 46, .ref 59, .int (nI j)] [] (g, aR I 58 (shJ (I 58) j), J, aP1 sl rd rl) = aE d 221 11 [.ref 46, .ref 59, .int (nI 429)] [] (g, aR I 58 (shJ (I 58) 429), J, aP1 sl rd rl) := by
      intro m
      induction m with
      | zero => intro j hj; obtain rfl : j = 429 := by omega
                rfl
      | succ m ih =>
        intro j hj
        rw [b221_11_2]
        simp (disch := omega) only [kgf429, kgt429, klt429, klf429, kmt429, kmf429, kat429, kaf429, ket429, kef429, nI_add, show nI j + 39 = nI (j + 39) from nI_add j 39, aU_R, aR_s, aR_u, shJ_1, aBi, aBv, aBl, nI_1, nIle_t, nIle_f, nIlt_t, nIlt_f, nIeq_t, nIeq_f, nIneg, nI_clamp, nat_le_f, nat_le_t, nat_lt_f, nat_lt_t, or_self, or_false, false_or, if_true, if_false, ↓reduceIte, Int32.or_zero, Int32.add_zero, nIm2, nIm3, nIm4, nIp2, nIp4, nIp6, nIp8, nIp14, nIp16, nIp22, nIp24, nIp30, nIq2, nIq3, nIq4, hasI_0, aU_s, aU_i, aU_r, aU_u]
        exact ih (j + 1) (by omega)
    have l0 := l 429 0 rfl
    rw [show shJ (I 58) 0 = I 58 from by funext k; exact if_neg (by omega), aR_i] at l0
    refine l0.trans ?_
    rw [b221_11_2, if_pos (by decide), aR_r _ _ (by decide), hu, show nI 12 - 1 = nI 11 from rfl, nIm39, f222_5958 (o := 39 * 11) (by decide)]
    simp only [aBv]
    rw [b221_64]
    simp (disch := decide) only [aU_R, aR_s, aR_r, aR_u, upd_s, upd_u]
    unfold remR up12
    rw [if_pos rfl, if_neg (by decide), show nI 11 + 1 = nI 12 from nI_1 11]
    rw [aR_c (aR I 58 (shJ (I 58) 429)) _ _ (show 46 ≠ 58 by decide), aR_u, aR_u]
    rfl
  · rw [b221_0_2, hu]
    simp (disch := omega) only [kgf12, kgt12, klt12, klf12, kmt12, kmf12, kat12, kaf12, ket12, kef12, nIm39, f222_5958, aBi, aBv, aBl, nI_1, nIle_t, nIle_f, nIlt_t, nIlt_f, nIeq_t, nIeq_f, nIneg, nI_clamp, nat_le_f, nat_le_t, nat_lt_f, nat_lt_t, or_self, or_false, false_or, if_true, if_false, ↓reduceIte, Int32.or_zero, Int32.add_zero, nIm2, nIm3, nIm4, nIp2, nIp4, nIp6, nIp8, nIp14, nIp16, nIp22, nIp24, nIp30, nIq2, nIq3, nIq4, hasI_0, aU_s, aU_i, aU_r, aU_u]
    rw [b221_64, aR_r _ _ (by decide), hu]
    unfold remR up12
    rw [if_neg h, if_pos (by omega)]
    simp (disch := omega) only [aU_R, aR_r, aBi, aBv, aBl, nI_1, nIle_t, nIle_f, nIlt_t, nIlt_f, nIeq_t, nIeq_f, nIneg, nI_clamp, nat_le_f, nat_le_t, nat_lt_f, nat_lt_t, or_self, or_false, false_or, if_true, if_false, ↓reduceIte, Int32.or_zero, Int32.add_zero, nIm2, nIm3, nIm4, nIp2, nIp4, nIp6, nIp8, nIp14, nIp16, nIp22, nIp24, nIp30, nIq2, nIq3, nIq4, hasI_0, aU_s, aU_i, aU_r, aU_u]
theorem f80 {u x : Nat} (h1 : I 29 1 = nI u) (hu : u ≤ 12) (h2 : I 29 2 = nI x) (hx : x < 12) : aF d 80 [.ref 29, .ref 25] (g, I, J, aP1 sl rd rl) = some (some none, (g, aR (aR I 30 (cpB (I 30) (I 26) (32 * x) 32)) 29 (upd (upd (I 29) 2 (nI ((x + 1) % 12))) 1 (nI (up12 u))), J, aP1 sl rd rl)) := by
  show aE d 80 0 [.ref 29, .ref 25] [] _ = _
  rw [b80_0, h2, f81_30 hx]
  simp only [aBv]
  have e1 : (if nI (u + 1) < 12 then nI (u + 1) else 12) = nI (up12 u) := by
    unfold up12
    by_cases h : u < 12
    · rw [if_pos h]
      by_cases h3 : u + 1 < 12
      · rw [if_pos (show nI (u + 1) < 12 from nI_lt (b := 12) h3 (by decide))]
      · rw [if_neg (show ¬ nI (u + 1) < 12 from nI_nlt (b := 12) (by omega) (by omega))]
        rw [show u + 1 = 12 by omega]; rfl
    · rw [if_neg h, if_neg (show ¬ nI (u + 1) < 12 from nI_nlt (b := 12) (by omega) (by omega))]; rfl
  rw [b80_12, aR_r _ _ (by decide), h1, h2, nI_1, nI_1, e1]
  by_cases h : x + 1 = 12
  · rw [if_pos (show 12 ≤ nI (x + 1) from nI_le (a := 12) (by omega) (by omega))]
    simp only [aU_R, aR_u, aR_s]
    rw [aR_r _ _ (by decide), show (x + 1) % 12 = 0 by omega]
    rfl
  · rw [if_neg (show ¬ 12 ≤ nI (x + 1) from nI_ge (b := 12) (by omega) (by decide))]
    simp only [aU_R, aR_u, aR_s]
    rw [aR_r _ _ (by decide), show (x + 1) % 12 = x + 1 by omega]
theorem f89n {v : Int32} (hv : v < 0) : aF d 89 [.ref 6, .int v] (g, I, J, aP1 sl rd rl) = some (some (some (.int (v))), (g, I, J, aP1 sl rd rl)) := by
  show aE d 89 0 [.ref 6, .int v] [] _ = _
  rw [b89_0, if_pos hv, b89_15]
theorem f89 {v : Int32} (hv : ¬ v < 0) {u x : Nat} (h1 : I 29 1 = nI u) (hu : u ≤ 12) (h2 : I 29 2 = nI x) (hx : x < 12) : aF d 89 [.ref 6, .int v] (g, I, J, aP1 sl rd rl) = some (some (some (.int v)), (g, aR (aR I 30 (cpB (I 30) (I 26) (32 * x) 32)) 29 (upd (upd (I 29) 2 (nI ((x + 1) % 12))) 1 (nI (up12 u))), J, aP1 sl rd rl)) := by
  show aE d 89 0 [.ref 6, .int v] [] _ = _
  rw [b89_0, if_neg hv, f80 h1 hu h2 hx]
  simp only [aBv]
  rw [b89_15]
