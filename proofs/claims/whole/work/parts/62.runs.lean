/-! races one behind another: both sides -/
variable {d : Nat} {g : Nat × Nat × Nat} {I : Nat → Nat → Int32} {J : Nat → Nat → Int64} {sl rd rl : Nat}
section Vs
variable (st : (Nat → Int32) → Nat → Int32) (n : Nat) (v : Nat → Int32)
def vsR : Nat → (Nat → Int32)
  | 0 => v
  | j + 1 => rRace (vsR j) (wn (st (vsR j)) n) (vsR j (6 + wn (st (vsR j)) n)).toNatClampNeg
def wnR (j : Nat) : Nat := wn (st (vsR st n v j)) n
def isB (j : Nat) : Bool := decide (vsR st n v j (6 + wnR st n v j) = 0)
def blR : Nat → Nat
  | 0 => 0
  | j + 1 => if isB st n v j = true then blR j + 1 else blR j
def joR (lim : Int32) : Nat → Nat
  | 0 => 0
  | j + 1 => joR lim j + (jn (vsR st n v (j + 1)) lim).toNat
def biR : Nat → Nat
  | 0 => 0
  | j + 1 => if isB st n v j = true then biR j + 1 else 0
def giR : Nat → Nat
  | 0 => 0
  | j + 1 => if isB st n v j = true then 0 else giR j + 1
def mbR : Nat → Nat
  | 0 => 0
  | j + 1 => if mbR j < biR st n v (j + 1) then biR st n v (j + 1) else mbR j
def mgR : Nat → Nat
  | 0 => 0
  | j + 1 => if mgR j < giR st n v (j + 1) then giR st n v (j + 1) else mgR j
def laR : Nat → Int32
  | 0 => -1
  | j + 1 => nI (wnR st n v j)
theorem blR_le : ∀ j, blR st n v j ≤ j
  | 0 => Nat.le_refl _
  | j + 1 => by have := blR_le j; unfold blR; split <;> omega
theorem joR_le (lim : Int32) : ∀ j, joR st n v lim j ≤ j
  | 0 => Nat.le_refl _
  | j + 1 => by have := joR_le lim j; unfold joR; have := Bool.toNat_le (jn (vsR st n v (j + 1)) lim); omega
theorem biR_le : ∀ j, biR st n v j ≤ j
  | 0 => Nat.le_refl _
  | j + 1 => by have := biR_le j; unfold biR; split <;> omega
theorem giR_le : ∀ j, giR st n v j ≤ j
  | 0 => Nat.le_refl _
  | j + 1 => by have := giR_le j; unfold giR; split <;> omega
theorem mbR_le : ∀ j, mbR st n v j ≤ j
  | 0 => Nat.le_refl _
  | j + 1 => by have := mbR_le j; have := biR_le st n v (j + 1); unfold mbR; split <;> omega
theorem mgR_le : ∀ j, mgR st n v j ≤ j
  | 0 => Nat.le_refl _
  | j + 1 => by have := mgR_le j; have := giR_le st n v (j + 1); unfold mgR; split <;> omega
end Vs
theorem rRace_l (v : Nat → Int32) {i c k : Nat} (hi : i < 8) (hc : c < 2) (hk : k < 8) : rRace v i c (6 + k) = v (6 + k) := by
  unfold rRace adA adM
  rw [upd_n _ _ (by omega), upd_n _ _ (by omega), upd_n _ _ (by omega), upd_n _ _ (by omega), upd_n _ _ (by omega), upd_n _ _ (by omega)]
section Vs2
variable {st : (Nat → Int32) → Nat → Int32} {n q : Nat} {v : Nat → Int32}
theorem vsR_1 (hc : clubs (fun i => v (6 + i)) n) (hn : n ≤ 8) (h0 : 0 < n) : ∀ j, (∀ k, k < 8 → vsR st n v j (6 + k) = v (6 + k)) ∧ ∃ k, k < 2 ∧ vsR st n v j (6 + wnR st n v j) = nI k ∧ vsR st n v (j + 1) = rRace (vsR st n v j) (wnR st n v j) k := by
  have two : ∀ j, (∀ k, k < 8 → vsR st n v j (6 + k) = v (6 + k)) → ∃ k, k < 2 ∧ vsR st n v j (6 + wnR st n v j) = nI k ∧ vsR st n v (j + 1) = rRace (vsR st n v j) (wnR st n v j) k := by
    intro j h
    have hw : wnR st n v j < n := wn_lt _ h0
    obtain ⟨k, hk, e⟩ := hc _ hw
    have e2 : vsR st n v j (6 + wnR st n v j) = nI k := (h _ (by omega)).trans e
    refine ⟨k, hk, e2, ?_⟩
    show rRace (vsR st n v j) (wnR st n v j) (vsR st n v j (6 + wnR st n v j)).toNatClampNeg = _
    rw [e2, nI_clamp (by omega)]
  intro j
  induction j with
  | zero => exact ⟨fun _ _ => rfl, two 0 (fun _ _ => rfl)⟩
  | succ j ih =>
    obtain ⟨h1, k, hk, e1, e2⟩ := ih
    have hw : wnR st n v j < n := wn_lt _ h0
    have h2 : ∀ k, k < 8 → vsR st n v (j + 1) (6 + k) = v (6 + k) := fun i hi => by
      rw [e2, rRace_l _ (by omega) hk hi]; exact h1 i hi
    exact ⟨h2, two _ h2⟩
theorem vsR_ok (hW : okW n q v) (hn : n ≤ 8) (h0 : 0 < n) : ∀ j, okW n q (vsR st n v j) := by
  intro j
  induction j with
  | zero => exact hW
  | succ j ih =>
    obtain ⟨_, k, hk, _, e2⟩ := vsR_1 (st := st) hW.2.2.1 hn h0 j
    rw [e2]
    exact okW_race ih (wn_lt _ h0) hn hk
end Vs2
theorem tI_n (b : Bool) : tI b = nI b.toNat := by cases b <;> rfl
theorem nI_00 : (nI 0 = (0 : Int32)) = True := eq_true rfl
theorem nI_10 : (nI 1 = (0 : Int32)) = False := eq_false (by decide)
theorem ifT {α : Type} (b : Bool) (F : Int32 → α) (y : Int32) : (if tI b = 0 then F (y + 0) else F (y + 1)) = F (y + tI b) := by cases b <;> rfl
theorem jn_cV (f : Nat → Int32) (l : Int32) : jn (cV f) l = jn f l := rfl
theorem jn_rV (f : Nat → Int32) (l : Int32) : jn (rV f) l = jn f l := rfl
theorem f64 {nd m N : Nat} {rv : (Nat → Int32) → Int32} (hR : cRule (I 34) m rv) (hs : I 33 1 = nI m) (h0 : I 14 0 = nI nd) (hn : nd ≤ 8) (hd : 0 < nd) (hc : clubs (fun i => I 24 (8 + i)) nd) (hN : N ≤ 99) : ∃ I', Fr [24, 35, 36, 41] I I' ∧ cV (I' 24) = vsR (sts rv (I 15)) nd (cV (I 24)) N ∧ I' 24 7 = I 24 7 ∧ I' 41 0 = laR (sts rv (I 15)) nd (cV (I 24)) N ∧ I' 41 1 = nI (joR (sts rv (I 15)) nd (cV (I 24)) (I 14 11) N) ∧ I' 41 2 = nI (mbR (sts rv (I 15)) nd (cV (I 24)) N) ∧ I' 41 3 = nI (mgR (sts rv (I 15)) nd (cV (I 24)) N) ∧ I' 41 4 = I 41 4 ∧ aF d 64 [.ref 41, .ref 14, .ref 23, .ref 33, .int (nI N)] (g, I, J, aP1 sl rd rl) = some (some (some (.int (nI (blR (sts rv (I 15)) nd (cV (I 24)) N)))), (g, I', J, aP1 sl rd rl)) := by
  have hcV : clubs (fun i => cV (I 24) (6 + i)) nd := fun i hi => by
    obtain ⟨k, hk, e⟩ := hc i hi
    exact ⟨k, hk, (cV_l _ (by omega)).trans e⟩
  have V := vsR_1 (st := sts rv (I 15)) hcV hn hd
  have B1 := blR_le (sts rv (I 15)) nd (cV (I 24))
  have B2 := biR_le (sts rv (I 15)) nd (cV (I 24))
  have B3 := giR_le (sts rv (I 15)) nd (cV (I 24))
  have B4 := mbR_le (sts rv (I 15)) nd (cV (I 24))
  have B5 := mgR_le (sts rv (I 15)) nd (cV (I 24))
  have l : ∀ (M j : Nat) (I1 : Nat → Nat → Int32) (w9 : Value), j + M = N → Fr [24, 35, 36, 41] I I1 → cV (I1 24) = vsR (sts rv (I 15)) nd (cV (I 24)) j → I1 24 7 = I 24 7 → I1 41 0 = laR (sts rv (I 15)) nd (cV (I 24)) j → I1 41 1 = nI (joR (sts rv (I 15)) nd (cV (I 24)) (I 14 11) j) → I1 41 2 = nI (mbR (sts rv (I 15)) nd (cV (I 24)) j) → I1 41 3 = nI (mgR (sts rv (I 15)) nd (cV (I 24)) j) → I1 41 4 = I 41 4 → ∃ I', Fr [24, 35, 36, 41] I I' ∧ cV (I' 24) = vsR (sts rv (I 15)) nd (cV (I 24)) N ∧ I' 24 7 = I 24 7 ∧ I' 41 0 = laR (sts rv (I 15)) nd (cV (I 24)) N ∧ I' 41 1 = nI (joR (sts rv (I 15)) nd (cV (I 24)) (I 14 11) N) ∧ I' 41 2 = nI (mbR (sts rv (I 15)) nd (cV (I 24)) N) ∧ I' 41 3 = nI (mgR (sts rv (I 15)) nd (cV (I 24)) N) ∧ I' 41 4 = I 41 4 ∧ aE d 64 32 [.ref 41, .ref 14, .ref 23, .ref 33, .int (nI N), .int (nI (blR (sts rv (I 15)) nd (cV (I 24)) j)), .int (nI (biR (sts rv (I 15)) nd (cV (I 24)) j)), .int (nI (giR (sts rv (I 15)) nd (cV (I 24)) j)), .int (nI j), w9] [] (g, I1, J, aP1 sl rd rl) = some (some (some (.int (nI (blR (sts rv (I 15)) nd (cV (I 24)) N)))), (g, I', J, aP1 sl rd rl)) := by
    intro M
    induction M with
    | zero =>
      intro j I1 w9 hj q q1 q2 q3 q4 q5 q6 q7
      obtain rfl : j = N := by omega
      refine ⟨I1, q, q1, q2, q3, q4, q5, q6, q7, ?_⟩
      rw [b64_32]
      simp (disch := omega) only [Int32.le_refl, aBi, aBv, aBl, nI_1, nIle_t, nIle_f, nIlt_t, nIlt_f, nIeq_t, nIeq_f, nIneg, nI_clamp, nat_le_f, nat_le_t, nat_lt_f, nat_lt_t, or_self, or_false, false_or, if_true, if_false, ↓reduceIte, Int32.or_zero, Int32.add_zero, nIm2, nIm3, nIm4, nIp2, nIp4, nIp6, nIp8, nIp14, nIp16, nIp22, nIp24, nIp30, nIq2, nIq3, nIq4, hasI_0, aU_s, aU_i, aU_r, aU_u]
    | succ M ih =>
      intro j I1 w9 hj q q1 q2 q3 q4 q5 q6 q7
      obtain ⟨hl, k, hk, e1, e2⟩ := V j
      have hW : wnR (sts rv (I 15)) nd (cV (I 24)) j < nd := wn_lt _ hd
      have e15 : I1 15 = I 15 := q 15 (by decide)
      have hcl : ∀ i, i < 8 → I1 24 (8 + i) = cV (I 24) (6 + i) := fun i hi => by
        rw [← cV_l (I1 24) hi, q1]; exact hl i hi
      have hk1 : I1 24 (8 + wnR (sts rv (I 15)) nd (cV (I 24)) j) = nI k := by
        rw [← cV_l (I1 24) (show wnR (sts rv (I 15)) nd (cV (I 24)) j < 8 by omega), q1]; exact e1
      have f := f65 (d := d) (g := g) (I := I1) (J := J) (sl := sl) (rd := rd) (rl := rl) (m := m) (nd := nd) (k := k) (rv := rv) (by rw [q 34 (by decide)]; exact hR) (by rw [q 33 (by decide)]; exact hs) (by rw [q 14 (by decide)]; exact h0) hn hd (fun i hi => by
        obtain ⟨k, hk, e⟩ := hcV i hi
        exact ⟨k, hk, (hcl i (by omega)).trans e⟩) hk (by rw [e15, q1]; exact hk1)
      rw [e15, q1] at f
      obtain ⟨x, y, f⟩ := f
      have f : aF d 65 [.ref 23, .ref 14, .ref 33] (g, I1, J, aP1 sl rd rl) = some (some (some (.int (nI (wnR (sts rv (I 15)) nd (cV (I 24)) j)))), (g, aR (aR (aR I1 24 (cRace (I1 24) (wnR (sts rv (I 15)) nd (cV (I 24)) j) k)) 35 x) 36 y, J, aP1 sl rd rl)) := f
      have hB : isB (sts rv (I 15)) nd (cV (I 24)) j = decide (nI k = 0) := by unfold isB; rw [e1]
      generalize hI2 : aR (aR (aR I1 24 (cRace (I1 24) (wnR (sts rv (I 15)) nd (cV (I 24)) j) k)) 35 x) 36 y = I2 at f
      have g1 : Fr [24, 35, 36, 41] I I2 := by
        rw [← hI2]; exact Fr_s (Fr_s (Fr_s q _ (by decide)) _ (by decide)) _ (by decide)
      have g2 : I2 24 = cRace (I1 24) (wnR (sts rv (I 15)) nd (cV (I 24)) j) k := by
        rw [← hI2, aR_r _ _ (by decide), aR_r _ _ (by decide), aR_s]
      have g3 : cV (I2 24) = vsR (sts rv (I 15)) nd (cV (I 24)) (j + 1) := by
        rw [g2, cRace_v _ (by omega) hk, q1, e2]
      have g4 : I2 24 7 = I 24 7 := by
        rw [g2, ← q2]
        unfold cRace adA adM
        rw [upd_n _ _ (by omega), upd_n _ _ (by omega), upd_n _ _ (by omega), upd_n _ _ (by omega), upd_n _ _ (by omega), upd_n _ _ (by omega)]
      have g5 : I2 41 = I1 41 := by
        rw [← hI2, aR_r _ _ (by decide), aR_r _ _ (by decide), aR_r _ _ (by decide)]
      have g6 : I2 24 (8 + wnR (sts rv (I 15)) nd (cV (I 24)) j) = nI k := by
        rw [← cV_l (I2 24) (show wnR (sts rv (I 15)) nd (cV (I 24)) j < 8 by omega), g3, e2, rRace_l _ (by omega) hk (by omega)]; exact e1
      have e78 : ∀ I5 : Nat → Nat → Int32, I5 24 = I2 24 → I5 14 = I 14 → aF d 78 [.ref 23, .ref 14] (g, I5, J, aP1 sl rd rl) = some (some (some (.int (tI (jn (vsR (sts rv (I 15)) nd (cV (I 24)) (j + 1)) (I 14 11))))), (g, I5, J, aP1 sl rd rl)) := by
        intro I5 h1 h2
        rw [f78_23, jn_c, ← jn_cV, h1, h2, g3]
      have j1 : joR (sts rv (I 15)) nd (cV (I 24)) (I 14 11) (j + 1) = joR (sts rv (I 15)) nd (cV (I 24)) (I 14 11) j + (jn (vsR (sts rv (I 15)) nd (cV (I 24)) (j + 1)) (I 14 11)).toNat := rfl
      have b1 := B1 j
      have b2 := B2 j
      have b3 := B3 j
      have b4 := B4 j
      have b5 := B5 j
      rw [b64_32, if_neg (nI_ge (by omega) (by omega)), f]
      simp only [aBi]
      rw [b64_46, f68_23 (by omega)]
      simp only [aBi]
      rw [aU_r _ _ (by decide), g6, b64_57]
      rcases (by omega : k = 0 ∨ k = 1) with rfl | rfl
      · have hB : isB (sts rv (I 15)) nd (cV (I 24)) j = true := by rw [hB]; rfl
        have c1 : blR (sts rv (I 15)) nd (cV (I 24)) (j + 1) = blR (sts rv (I 15)) nd (cV (I 24)) j + 1 := if_pos hB
        have c2 : biR (sts rv (I 15)) nd (cV (I 24)) (j + 1) = biR (sts rv (I 15)) nd (cV (I 24)) j + 1 := if_pos hB
        have c3 : giR (sts rv (I 15)) nd (cV (I 24)) (j + 1) = 0 := if_pos hB
        have c4 : (if nI (mbR (sts rv (I 15)) nd (cV (I 24)) j) < nI (biR (sts rv (I 15)) nd (cV (I 24)) j + 1) then nI (biR (sts rv (I 15)) nd (cV (I 24)) j + 1) else nI (mbR (sts rv (I 15)) nd (cV (I 24)) j)) = nI (mbR (sts rv (I 15)) nd (cV (I 24)) (j + 1)) := by
          show _ = nI (if mbR (sts rv (I 15)) nd (cV (I 24)) j < biR (sts rv (I 15)) nd (cV (I 24)) (j + 1) then biR (sts rv (I 15)) nd (cV (I 24)) (j + 1) else mbR (sts rv (I 15)) nd (cV (I 24)) j)
          rw [c2]
          by_cases h : mbR (sts rv (I 15)) nd (cV (I 24)) j < biR (sts rv (I 15)) nd (cV (I 24)) j + 1
          · rw [if_pos h, if_pos (nI_lt h (by omega))]
          · rw [if_neg h, if_neg (nI_nlt (by omega) (by omega))]
        have c5 : (if nI (mgR (sts rv (I 15)) nd (cV (I 24)) j) < 0 then 0 else nI (mgR (sts rv (I 15)) nd (cV (I 24)) j)) = nI (mgR (sts rv (I 15)) nd (cV (I 24)) (j + 1)) := by
          show _ = nI (if mgR (sts rv (I 15)) nd (cV (I 24)) j < giR (sts rv (I 15)) nd (cV (I 24)) (j + 1) then giR (sts rv (I 15)) nd (cV (I 24)) (j + 1) else mgR (sts rv (I 15)) nd (cV (I 24)) j)
          rw [c3, if_neg (Nat.not_lt_zero _), if_neg (nI_pos (by omega))]
        rw [if_pos (show nI 0 = (0 : Int32) from rfl), e78 _ (by simp (disch := decide) only [aU_r]) (by simp (disch := decide) only [aU_r]; exact g1 14 (by decide))]
        simp only [aBi]
        rw [b64_148]
        simp (disch := decide) only [aU_s, aU_i, g5, q4, q5, q6, nI_1 (blR (sts rv (I 15)) nd (cV (I 24)) j), nI_1 (biR (sts rv (I 15)) nd (cV (I 24)) j), nI_1 (giR (sts rv (I 15)) nd (cV (I 24)) j), nI_1 j, c4, c5]
        rw [ifT _ (fun z => aE d 64 32 _ _ (g, aU _ 41 1 z, J, aP1 sl rd rl)), tI_n, nI_add, ← j1, ← c1, ← c2, show (0 : Int32) = nI (giR (sts rv (I 15)) nd (cV (I 24)) (j + 1)) from by rw [c3]; rfl]
        refine ih (j + 1) _ _ (by omega) ?_ ?_ ?_ ?_ ?_ ?_ ?_ ?_
        · simp only [aU_R]
          exact Fr_s (Fr_s (Fr_s (Fr_s g1 _ (by decide)) _ (by decide)) _ (by decide)) _ (by decide)
        · simp (disch := decide) only [aU_r]; exact g3
        · simp (disch := decide) only [aU_r]; exact g4
        · simp (disch := decide) only [aU_s, aU_i]; rfl
        · rw [aU_s]
        · simp (disch := decide) only [aU_s, aU_i]
        · simp (disch := decide) only [aU_s, aU_i]
        · simp (disch := decide) only [aU_i, g5]; exact q7
      · have hB : ¬ isB (sts rv (I 15)) nd (cV (I 24)) j = true := by rw [hB]; decide
        have c1 : blR (sts rv (I 15)) nd (cV (I 24)) (j + 1) = blR (sts rv (I 15)) nd (cV (I 24)) j := if_neg hB
        have c2 : biR (sts rv (I 15)) nd (cV (I 24)) (j + 1) = 0 := if_neg hB
        have c3 : giR (sts rv (I 15)) nd (cV (I 24)) (j + 1) = giR (sts rv (I 15)) nd (cV (I 24)) j + 1 := if_neg hB
        have c4 : (if nI (mgR (sts rv (I 15)) nd (cV (I 24)) j) < nI (giR (sts rv (I 15)) nd (cV (I 24)) j + 1) then nI (giR (sts rv (I 15)) nd (cV (I 24)) j + 1) else nI (mgR (sts rv (I 15)) nd (cV (I 24)) j)) = nI (mgR (sts rv (I 15)) nd (cV (I 24)) (j + 1)) := by
          show _ = nI (if mgR (sts rv (I 15)) nd (cV (I 24)) j < giR (sts rv (I 15)) nd (cV (I 24)) (j + 1) then giR (sts rv (I 15)) nd (cV (I 24)) (j + 1) else mgR (sts rv (I 15)) nd (cV (I 24)) j)
          rw [c3]
          by_cases h : mgR (sts rv (I 15)) nd (cV (I 24)) j < giR (sts rv (I 15)) nd (cV (I 24)) j + 1
          · rw [if_pos h, if_pos (nI_lt h (by omega))]
          · rw [if_neg h, if_neg (nI_nlt (by omega) (by omega))]
        have c5 : (if nI (mbR (sts rv (I 15)) nd (cV (I 24)) j) < 0 then 0 else nI (mbR (sts rv (I 15)) nd (cV (I 24)) j)) = nI (mbR (sts rv (I 15)) nd (cV (I 24)) (j + 1)) := by
          show _ = nI (if mbR (sts rv (I 15)) nd (cV (I 24)) j < biR (sts rv (I 15)) nd (cV (I 24)) (j + 1) then biR (sts rv (I 15)) nd (cV (I 24)) (j + 1) else mbR (sts rv (I 15)) nd (cV (I 24)) j)
          rw [c2, if_neg (Nat.not_lt_zero _), if_neg (nI_pos (by omega))]
        rw [if_neg (show ¬ nI 1 = (0 : Int32) from by decide), e78 _ (by simp (disch := decide) only [aU_r]) (by simp (disch := decide) only [aU_r]; exact g1 14 (by decide))]
        simp only [aBi]
        rw [b64_148]
        simp (disch := decide) only [aU_s, aU_i, g5, q4, q5, q6, nI_1 (blR (sts rv (I 15)) nd (cV (I 24)) j), nI_1 (biR (sts rv (I 15)) nd (cV (I 24)) j), nI_1 (giR (sts rv (I 15)) nd (cV (I 24)) j), nI_1 j, c4, c5, Int32.add_zero (nI (blR (sts rv (I 15)) nd (cV (I 24)) j))]
        rw [ifT _ (fun z => aE d 64 32 _ _ (g, aU _ 41 1 z, J, aP1 sl rd rl)), tI_n, nI_add, ← j1, ← c1, ← c3, show (0 : Int32) = nI (biR (sts rv (I 15)) nd (cV (I 24)) (j + 1)) from by rw [c2]; rfl]
        refine ih (j + 1) _ _ (by omega) ?_ ?_ ?_ ?_ ?_ ?_ ?_ ?_
        · simp only [aU_R]
          exact Fr_s (Fr_s (Fr_s (Fr_s g1 _ (by decide)) _ (by decide)) _ (by decide)) _ (by decide)
        · simp (disch := decide) only [aU_r]; exact g3
        · simp (disch := decide) only [aU_r]; exact g4
        · simp (disch := decide) only [aU_s, aU_i]; rfl
        · rw [aU_s]
        · simp (disch := decide) only [aU_s, aU_i]
        · simp (disch := decide) only [aU_s, aU_i]
        · simp (disch := decide) only [aU_i, g5]; exact q7
  obtain ⟨I', h1, h2⟩ := l N 0 (aU (aU (aU (aU I 41 0 (-1)) 41 1 0) 41 2 0) 41 3 0) aNo (by omega) (by
    simp only [aU_R]
    exact Fr_s (Fr_s (Fr_s (Fr_s (Fr_r _ _) _ (by decide)) _ (by decide)) _ (by decide)) _ (by decide)) (by simp (disch := decide) only [aU_r]; rfl) (by simp (disch := decide) only [aU_r]) (by simp (disch := decide) only [aU_s, aU_i]; rfl) (by simp (disch := decide) only [aU_s, aU_i]; rfl) (by simp (disch := decide) only [aU_s, aU_i]; rfl) (by simp (disch := decide) only [aU_s, aU_i]; rfl) (by simp (disch := decide) only [aU_i])
  refine ⟨I', h1, h2.1, h2.2.1, h2.2.2.1, h2.2.2.2.1, h2.2.2.2.2.1, h2.2.2.2.2.2.1, h2.2.2.2.2.2.2.1, ?_⟩
  show aE d 64 0 [.ref 41, .ref 14, .ref 23, .ref 33, .int (nI N), aNo, aNo, aNo, aNo, aNo] [] _ = _
  rw [b64_0]
  exact h2.2.2.2.2.2.2.2
theorem f64t {nd m N : Nat} {rv : (Nat → Int32) → Int32} (hR : cRule (I 34) m rv) (hs : I 33 1 = nI m) (h0 : I 14 0 = nI nd) (hn : nd ≤ 8) (hd : 0 < nd) (hc : clubs (fun i => I 28 (8 + i)) nd) (hN : N ≤ 99) : ∃ I', Fr [28, 35, 36, 41] I I' ∧ cV (I' 28) = vsR (sts rv (I 15)) nd (cV (I 28)) N ∧ I' 28 7 = I 28 7 ∧ I' 41 0 = laR (sts rv (I 15)) nd (cV (I 28)) N ∧ I' 41 1 = nI (joR (sts rv (I 15)) nd (cV (I 28)) (I 14 11) N) ∧ I' 41 2 = nI (mbR (sts rv (I 15)) nd (cV (I 28)) N) ∧ I' 41 3 = nI (mgR (sts rv (I 15)) nd (cV (I 28)) N) ∧ I' 41 4 = I 41 4 ∧ aF d 64 [.ref 41, .ref 14, .ref 27, .ref 33, .int (nI N)] (g, I, J, aP1 sl rd rl) = some (some (some (.int (nI (blR (sts rv (I 15)) nd (cV (I 28)) N)))), (g, I', J, aP1 sl rd rl)) := by
  have hcV : clubs (fun i => cV (I 28) (6 + i)) nd := fun i hi => by
    obtain ⟨k, hk, e⟩ := hc i hi
    exact ⟨k, hk, (cV_l _ (by omega)).trans e⟩
  have V := vsR_1 (st := sts rv (I 15)) hcV hn hd
  have B1 := blR_le (sts rv (I 15)) nd (cV (I 28))
  have B2 := biR_le (sts rv (I 15)) nd (cV (I 28))
  have B3 := giR_le (sts rv (I 15)) nd (cV (I 28))
  have B4 := mbR_le (sts rv (I 15)) nd (cV (I 28))
  have B5 := mgR_le (sts rv (I 15)) nd (cV (I 28))
  have l : ∀ (M j : Nat) (I1 : Nat → Nat → Int32) (w9 : Value), j + M = N → Fr [28, 35, 36, 41] I I1 → cV (I1 28) = vsR (sts rv (I 15)) nd (cV (I 28)) j → I1 28 7 = I 28 7 → I1 41 0 = laR (sts rv (I 15)) nd (cV (I 28)) j → I1 41 1 = nI (joR (sts rv (I 15)) nd (cV (I 28)) (I 14 11) j) → I1 41 2 = nI (mbR (sts rv (I 15)) nd (cV (I 28)) j) → I1 41 3 = nI (mgR (sts rv (I 15)) nd (cV (I 28)) j) → I1 41 4 = I 41 4 → ∃ I', Fr [28, 35, 36, 41] I I' ∧ cV (I' 28) = vsR (sts rv (I 15)) nd (cV (I 28)) N ∧ I' 28 7 = I 28 7 ∧ I' 41 0 = laR (sts rv (I 15)) nd (cV (I 28)) N ∧ I' 41 1 = nI (joR (sts rv (I 15)) nd (cV (I 28)) (I 14 11) N) ∧ I' 41 2 = nI (mbR (sts rv (I 15)) nd (cV (I 28)) N) ∧ I' 41 3 = nI (mgR (sts rv (I 15)) nd (cV (I 28)) N) ∧ I' 41 4 = I 41 4 ∧ aE d 64 32 [.ref 41, .ref 14, .ref 27, .ref 33, .int (nI N), .int (nI (blR (sts rv (I 15)) nd (cV (I 28)) j)), .int (nI (biR (sts rv (I 15)) nd (cV (I 28)) j)), .int (nI (giR (sts rv (I 15)) nd (cV (I 28)) j)), .int (nI j), w9] [] (g, I1, J, aP1 sl rd rl) = some (some (some (.int (nI (blR (sts rv (I 15)) nd (cV (I 28)) N)))), (g, I', J, aP1 sl rd rl)) := by
    intro M
    induction M with
    | zero =>
      intro j I1 w9 hj q q1 q2 q3 q4 q5 q6 q7
      obtain rfl : j = N := by omega
      refine ⟨I1, q, q1, q2, q3, q4, q5, q6, q7, ?_⟩
      rw [b64_32_2]
      simp (disch := omega) only [Int32.le_refl, aBi, aBv, aBl, nI_1, nIle_t, nIle_f, nIlt_t, nIlt_f, nIeq_t, nIeq_f, nIneg, nI_clamp, nat_le_f, nat_le_t, nat_lt_f, nat_lt_t, or_self, or_false, false_or, if_true, if_false, ↓reduceIte, Int32.or_zero, Int32.add_zero, nIm2, nIm3, nIm4, nIp2, nIp4, nIp6, nIp8, nIp14, nIp16, nIp22, nIp24, nIp30, nIq2, nIq3, nIq4, hasI_0, aU_s, aU_i, aU_r, aU_u]
    | succ M ih =>
      intro j I1 w9 hj q q1 q2 q3 q4 q5 q6 q7
      obtain ⟨hl, k, hk, e1, e2⟩ := V j
      have hW : wnR (sts rv (I 15)) nd (cV (I 28)) j < nd := wn_lt _ hd
      have e15 : I1 15 = I 15 := q 15 (by decide)
      have hcl : ∀ i, i < 8 → I1 28 (8 + i) = cV (I 28) (6 + i) := fun i hi => by
        rw [← cV_l (I1 28) hi, q1]; exact hl i hi
      have hk1 : I1 28 (8 + wnR (sts rv (I 15)) nd (cV (I 28)) j) = nI k := by
        rw [← cV_l (I1 28) (show wnR (sts rv (I 15)) nd (cV (I 28)) j < 8 by omega), q1]; exact e1
      have f := f65t (d := d) (g := g) (I := I1) (J := J) (sl := sl) (rd := rd) (rl := rl) (m := m) (nd := nd) (k := k) (rv := rv) (by rw [q 34 (by decide)]; exact hR) (by rw [q 33 (by decide)]; exact hs) (by rw [q 14 (by decide)]; exact h0) hn hd (fun i hi => by
        obtain ⟨k, hk, e⟩ := hcV i hi
        exact ⟨k, hk, (hcl i (by omega)).trans e⟩) hk (by rw [e15, q1]; exact hk1)
      rw [e15, q1] at f
      obtain ⟨x, y, f⟩ := f
      have f : aF d 65 [.ref 27, .ref 14, .ref 33] (g, I1, J, aP1 sl rd rl) = some (some (some (.int (nI (wnR (sts rv (I 15)) nd (cV (I 28)) j)))), (g, aR (aR (aR I1 28 (cRace (I1 28) (wnR (sts rv (I 15)) nd (cV (I 28)) j) k)) 35 x) 36 y, J, aP1 sl rd rl)) := f
      have hB : isB (sts rv (I 15)) nd (cV (I 28)) j = decide (nI k = 0) := by unfold isB; rw [e1]
      generalize hI2 : aR (aR (aR I1 28 (cRace (I1 28) (wnR (sts rv (I 15)) nd (cV (I 28)) j) k)) 35 x) 36 y = I2 at f
      have g1 : Fr [28, 35, 36, 41] I I2 := by
        rw [← hI2]; exact Fr_s (Fr_s (Fr_s q _ (by decide)) _ (by decide)) _ (by decide)
      have g2 : I2 28 = cRace (I1 28) (wnR (sts rv (I 15)) nd (cV (I 28)) j) k := by
        rw [← hI2, aR_r _ _ (by decide), aR_r _ _ (by decide), aR_s]
      have g3 : cV (I2 28) = vsR (sts rv (I 15)) nd (cV (I 28)) (j + 1) := by
        rw [g2, cRace_v _ (by omega) hk, q1, e2]
      have g4 : I2 28 7 = I 28 7 := by
        rw [g2, ← q2]
        unfold cRace adA adM
        rw [upd_n _ _ (by omega), upd_n _ _ (by omega), upd_n _ _ (by omega), upd_n _ _ (by omega), upd_n _ _ (by omega), upd_n _ _ (by omega)]
      have g5 : I2 41 = I1 41 := by
        rw [← hI2, aR_r _ _ (by decide), aR_r _ _ (by decide), aR_r _ _ (by decide)]
      have g6 : I2 28 (8 + wnR (sts rv (I 15)) nd (cV (I 28)) j) = nI k := by
        rw [← cV_l (I2 28) (show wnR (sts rv (I 15)) nd (cV (I 28)) j < 8 by omega), g3, e2, rRace_l _ (by omega) hk (by omega)]; exact e1
      have e78 : ∀ I5 : Nat → Nat → Int32, I5 28 = I2 28 → I5 14 = I 14 → aF d 78 [.ref 27, .ref 14] (g, I5, J, aP1 sl rd rl) = some (some (some (.int (tI (jn (vsR (sts rv (I 15)) nd (cV (I 28)) (j + 1)) (I 14 11))))), (g, I5, J, aP1 sl rd rl)) := by
        intro I5 h1 h2
        rw [f78_27, jn_c, ← jn_cV, h1, h2, g3]
      have j1 : joR (sts rv (I 15)) nd (cV (I 28)) (I 14 11) (j + 1) = joR (sts rv (I 15)) nd (cV (I 28)) (I 14 11) j + (jn (vsR (sts rv (I 15)) nd (cV (I 28)) (j + 1)) (I 14 11)).toNat := rfl
      have b1 := B1 j
      have b2 := B2 j
      have b3 := B3 j
      have b4 := B4 j
      have b5 := B5 j
      rw [b64_32_2, if_neg (nI_ge (by omega) (by omega)), f]
      simp only [aBi]
      rw [b64_46_2, f68_27 (by omega)]
      simp only [aBi]
      rw [aU_r _ _ (by decide), g6, b64_57_2]
      rcases (by omega : k = 0 ∨ k = 1) with rfl | rfl
      · have hB : isB (sts rv (I 15)) nd (cV (I 28)) j = true := by rw [hB]; rfl
        have c1 : blR (sts rv (I 15)) nd (cV (I 28)) (j + 1) = blR (sts rv (I 15)) nd (cV (I 28)) j + 1 := if_pos hB
        have c2 : biR (sts rv (I 15)) nd (cV (I 28)) (j + 1) = biR (sts rv (I 15)) nd (cV (I 28)) j + 1 := if_pos hB
        have c3 : giR (sts rv (I 15)) nd (cV (I 28)) (j + 1) = 0 := if_pos hB
        have c4 : (if nI (mbR (sts rv (I 15)) nd (cV (I 28)) j) < nI (biR (sts rv (I 15)) nd (cV (I 28)) j + 1) then nI (biR (sts rv (I 15)) nd (cV (I 28)) j + 1) else nI (mbR (sts rv (I 15)) nd (cV (I 28)) j)) = nI (mbR (sts rv (I 15)) nd (cV (I 28)) (j + 1)) := by
          show _ = nI (if mbR (sts rv (I 15)) nd (cV (I 28)) j < biR (sts rv (I 15)) nd (cV (I 28)) (j + 1) then biR (sts rv (I 15)) nd (cV (I 28)) (j + 1) else mbR (sts rv (I 15)) nd (cV (I 28)) j)
          rw [c2]
          by_cases h : mbR (sts rv (I 15)) nd (cV (I 28)) j < biR (sts rv (I 15)) nd (cV (I 28)) j + 1
          · rw [if_pos h, if_pos (nI_lt h (by omega))]
          · rw [if_neg h, if_neg (nI_nlt (by omega) (by omega))]
        have c5 : (if nI (mgR (sts rv (I 15)) nd (cV (I 28)) j) < 0 then 0 else nI (mgR (sts rv (I 15)) nd (cV (I 28)) j)) = nI (mgR (sts rv (I 15)) nd (cV (I 28)) (j + 1)) := by
          show _ = nI (if mgR (sts rv (I 15)) nd (cV (I 28)) j < giR (sts rv (I 15)) nd (cV (I 28)) (j + 1) then giR (sts rv (I 15)) nd (cV (I 28)) (j + 1) else mgR (sts rv (I 15)) nd (cV (I 28)) j)
          rw [c3, if_neg (Nat.not_lt_zero _), if_neg (nI_pos (by omega))]
        rw [if_pos (show nI 0 = (0 : Int32) from rfl), e78 _ (by simp (disch := decide) only [aU_r]) (by simp (disch := decide) only [aU_r]; exact g1 14 (by decide))]
        simp only [aBi]
        rw [b64_148_2]
        simp (disch := decide) only [aU_s, aU_i, g5, q4, q5, q6, nI_1 (blR (sts rv (I 15)) nd (cV (I 28)) j), nI_1 (biR (sts rv (I 15)) nd (cV (I 28)) j), nI_1 (giR (sts rv (I 15)) nd (cV (I 28)) j), nI_1 j, c4, c5]
        rw [ifT _ (fun z => aE d 64 32 _ _ (g, aU _ 41 1 z, J, aP1 sl rd rl)), tI_n, nI_add, ← j1, ← c1, ← c2, show (0 : Int32) = nI (giR (sts rv (I 15)) nd (cV (I 28)) (j + 1)) from by rw [c3]; rfl]
        refine ih (j + 1) _ _ (by omega) ?_ ?_ ?_ ?_ ?_ ?_ ?_ ?_
        · simp only [aU_R]
          exact Fr_s (Fr_s (Fr_s (Fr_s g1 _ (by decide)) _ (by decide)) _ (by decide)) _ (by decide)
        · simp (disch := decide) only [aU_r]; exact g3
        · simp (disch := decide) only [aU_r]; exact g4
        · simp (disch := decide) only [aU_s, aU_i]; rfl
        · rw [aU_s]
        · simp (disch := decide) only [aU_s, aU_i]
        · simp (disch := decide) only [aU_s, aU_i]
        · simp (disch := decide) only [aU_i, g5]; exact q7
      · have hB : ¬ isB (sts rv (I 15)) nd (cV (I 28)) j = true := by rw [hB]; decide
        have c1 : blR (sts rv (I 15)) nd (cV (I 28)) (j + 1) = blR (sts rv (I 15)) nd (cV (I 28)) j := if_neg hB
        have c2 : biR (sts rv (I 15)) nd (cV (I 28)) (j + 1) = 0 := if_neg hB
        have c3 : giR (sts rv (I 15)) nd (cV (I 28)) (j + 1) = giR (sts rv (I 15)) nd (cV (I 28)) j + 1 := if_neg hB
        have c4 : (if nI (mgR (sts rv (I 15)) nd (cV (I 28)) j) < nI (giR (sts rv (I 15)) nd (cV (I 28)) j + 1) then nI (giR (sts rv (I 15)) nd (cV (I 28)) j + 1) else nI (mgR (sts rv (I 15)) nd (cV (I 28)) j)) = nI (mgR (sts rv (I 15)) nd (cV (I 28)) (j + 1)) := by
          show _ = nI (if mgR (sts rv (I 15)) nd (cV (I 28)) j < giR (sts rv (I 15)) nd (cV (I 28)) (j + 1) then giR (sts rv (I 15)) nd (cV (I 28)) (j + 1) else mgR (sts rv (I 15)) nd (cV (I 28)) j)
          rw [c3]
          by_cases h : mgR (sts rv (I 15)) nd (cV (I 28)) j < giR (sts rv (I 15)) nd (cV (I 28)) j + 1
          · rw [if_pos h, if_pos (nI_lt h (by omega))]
          · rw [if_neg h, if_neg (nI_nlt (by omega) (by omega))]
        have c5 : (if nI (mbR (sts rv (I 15)) nd (cV (I 28)) j) < 0 then 0 else nI (mbR (sts rv (I 15)) nd (cV (I 28)) j)) = nI (mbR (sts rv (I 15)) nd (cV (I 28)) (j + 1)) := by
          show _ = nI (if mbR (sts rv (I 15)) nd (cV (I 28)) j < biR (sts rv (I 15)) nd (cV (I 28)) (j + 1) then biR (sts rv (I 15)) nd (cV (I 28)) (j + 1) else mbR (sts rv (I 15)) nd (cV (I 28)) j)
          rw [c2, if_neg (Nat.not_lt_zero _), if_neg (nI_pos (by omega))]
        rw [if_neg (show ¬ nI 1 = (0 : Int32) from by decide), e78 _ (by simp (disch := decide) only [aU_r]) (by simp (disch := decide) only [aU_r]; exact g1 14 (by decide))]
        simp only [aBi]
        rw [b64_148_2]
        simp (disch := decide) only [aU_s, aU_i, g5, q4, q5, q6, nI_1 (blR (sts rv (I 15)) nd (cV (I 28)) j), nI_1 (biR (sts rv (I 15)) nd (cV (I 28)) j), nI_1 (giR (sts rv (I 15)) nd (cV (I 28)) j), nI_1 j, c4, c5, Int32.add_zero (nI (blR (sts rv (I 15)) nd (cV (I 28)) j))]
        rw [ifT _ (fun z => aE d 64 32 _ _ (g, aU _ 41 1 z, J, aP1 sl rd rl)), tI_n, nI_add, ← j1, ← c1, ← c3, show (0 : Int32) = nI (biR (sts rv (I 15)) nd (cV (I 28)) (j + 1)) from by rw [c2]; rfl]
        refine ih (j + 1) _ _ (by omega) ?_ ?_ ?_ ?_ ?_ ?_ ?_ ?_
        · simp only [aU_R]
          exact Fr_s (Fr_s (Fr_s (Fr_s g1 _ (by decide)) _ (by decide)) _ (by decide)) _ (by decide)
        · simp (disch := decide) only [aU_r]; exact g3
        · simp (disch := decide) only [aU_r]; exact g4
        · simp (disch := decide) only [aU_s, aU_i]; rfl
        · rw [aU_s]
        · simp (disch := decide) only [aU_s, aU_i]
        · simp (disch := decide) only [aU_s, aU_i]
        · simp (disch := decide) only [aU_i, g5]; exact q7
  obtain ⟨I', h1, h2⟩ := l N 0 (aU (aU (aU (aU I 41 0 (-1)) 41 1 0) 41 2 0) 41 3 0) aNo (by omega) (by
    simp only [aU_R]
    exact Fr_s (Fr_s (Fr_s (Fr_s (Fr_r _ _) _ (by decide)) _ (by decide)) _ (by decide)) _ (by decide)) (by simp (disch := decide) only [aU_r]; rfl) (by simp (disch := decide) only [aU_r]) (by simp (disch := decide) only [aU_s, aU_i]; rfl) (by simp (disch := decide) only [aU_s, aU_i]; rfl) (by simp (disch := decide) only [aU_s, aU_i]; rfl) (by simp (disch := decide) only [aU_s, aU_i]; rfl) (by simp (disch := decide) only [aU_i])
  refine ⟨I', h1, h2.1, h2.2.1, h2.2.2.1, h2.2.2.2.1, h2.2.2.2.2.1, h2.2.2.2.2.2.1, h2.2.2.2.2.2.2.1, ?_⟩
  show aE d 64 0 [.ref 41, .ref 14, .ref 27, .ref 33, .int (nI N), aNo, aNo, aNo, aNo, aNo] [] _ = _
  rw [b64_0_2]
  exact h2.2.2.2.2.2.2.2
theorem f64o {nd m N : Nat} {rv : (Nat → Int32) → Int32} (hR : cRule (I 38) m rv) (hs : I 37 1 = nI m) (h0 : I 14 0 = nI nd) (hn : nd ≤ 8) (hd : 0 < nd) (hc : clubs (fun i => I 28 (8 + i)) nd) (hN : N ≤ 99) : ∃ I', Fr [28, 39, 40, 41] I I' ∧ cV (I' 28) = vsR (sts rv (I 15)) nd (cV (I 28)) N ∧ I' 28 7 = I 28 7 ∧ I' 41 0 = laR (sts rv (I 15)) nd (cV (I 28)) N ∧ I' 41 1 = nI (joR (sts rv (I 15)) nd (cV (I 28)) (I 14 11) N) ∧ I' 41 2 = nI (mbR (sts rv (I 15)) nd (cV (I 28)) N) ∧ I' 41 3 = nI (mgR (sts rv (I 15)) nd (cV (I 28)) N) ∧ I' 41 4 = I 41 4 ∧ aF d 64 [.ref 41, .ref 14, .ref 27, .ref 37, .int (nI N)] (g, I, J, aP1 sl rd rl) = some (some (some (.int (nI (blR (sts rv (I 15)) nd (cV (I 28)) N)))), (g, I', J, aP1 sl rd rl)) := by
  have hcV : clubs (fun i => cV (I 28) (6 + i)) nd := fun i hi => by
    obtain ⟨k, hk, e⟩ := hc i hi
    exact ⟨k, hk, (cV_l _ (by omega)).trans e⟩
  have V := vsR_1 (st := sts rv (I 15)) hcV hn hd
  have B1 := blR_le (sts rv (I 15)) nd (cV (I 28))
  have B2 := biR_le (sts rv (I 15)) nd (cV (I 28))
  have B3 := giR_le (sts rv (I 15)) nd (cV (I 28))
  have B4 := mbR_le (sts rv (I 15)) nd (cV (I 28))
  have B5 := mgR_le (sts rv (I 15)) nd (cV (I 28))
  have l : ∀ (M j : Nat) (I1 : Nat → Nat → Int32) (w9 : Value), j + M = N → Fr [28, 39, 40, 41] I I1 → cV (I1 28) = vsR (sts rv (I 15)) nd (cV (I 28)) j → I1 28 7 = I 28 7 → I1 41 0 = laR (sts rv (I 15)) nd (cV (I 28)) j → I1 41 1 = nI (joR (sts rv (I 15)) nd (cV (I 28)) (I 14 11) j) → I1 41 2 = nI (mbR (sts rv (I 15)) nd (cV (I 28)) j) → I1 41 3 = nI (mgR (sts rv (I 15)) nd (cV (I 28)) j) → I1 41 4 = I 41 4 → ∃ I', Fr [28, 39, 40, 41] I I' ∧ cV (I' 28) = vsR (sts rv (I 15)) nd (cV (I 28)) N ∧ I' 28 7 = I 28 7 ∧ I' 41 0 = laR (sts rv (I 15)) nd (cV (I 28)) N ∧ I' 41 1 = nI (joR (sts rv (I 15)) nd (cV (I 28)) (I 14 11) N) ∧ I' 41 2 = nI (mbR (sts rv (I 15)) nd (cV (I 28)) N) ∧ I' 41 3 = nI (mgR (sts rv (I 15)) nd (cV (I 28)) N) ∧ I' 41 4 = I 41 4 ∧ aE d 64 32 [.ref 41, .ref 14, .ref 27, .ref 37, .int (nI N), .int (nI (blR (sts rv (I 15)) nd (cV (I 28)) j)), .int (nI (biR (sts rv (I 15)) nd (cV (I 28)) j)), .int (nI (giR (sts rv (I 15)) nd (cV (I 28)) j)), .int (nI j), w9] [] (g, I1, J, aP1 sl rd rl) = some (some (some (.int (nI (blR (sts rv (I 15)) nd (cV (I 28)) N)))), (g, I', J, aP1 sl rd rl)) := by
    intro M
    induction M with
    | zero =>
      intro j I1 w9 hj q q1 q2 q3 q4 q5 q6 q7
      obtain rfl : j = N := by omega
      refine ⟨I1, q, q1, q2, q3, q4, q5, q6, q7, ?_⟩
      rw [b64_32_3]
      simp (disch := omega) only [Int32.le_refl, aBi, aBv, aBl, nI_1, nIle_t, nIle_f, nIlt_t, nIlt_f, nIeq_t, nIeq_f, nIneg, nI_clamp, nat_le_f, nat_le_t, nat_lt_f, nat_lt_t, or_self, or_false, false_or, if_true, if_false, ↓reduceIte, Int32.or_zero, Int32.add_zero, nIm2, nIm3, nIm4, nIp2, nIp4, nIp6, nIp8, nIp14, nIp16, nIp22, nIp24, nIp30, nIq2, nIq3, nIq4, hasI_0, aU_s, aU_i, aU_r, aU_u]
    | succ M ih =>
      intro j I1 w9 hj q q1 q2 q3 q4 q5 q6 q7
      obtain ⟨hl, k, hk, e1, e2⟩ := V j
      have hW : wnR (sts rv (I 15)) nd (cV (I 28)) j < nd := wn_lt _ hd
      have e15 : I1 15 = I 15 := q 15 (by decide)
      have hcl : ∀ i, i < 8 → I1 28 (8 + i) = cV (I 28) (6 + i) := fun i hi => by
        rw [← cV_l (I1 28) hi, q1]; exact hl i hi
      have hk1 : I1 28 (8 + wnR (sts rv (I 15)) nd (cV (I 28)) j) = nI k := by
        rw [← cV_l (I1 28) (show wnR (sts rv (I 15)) nd (cV (I 28)) j < 8 by omega), q1]; exact e1
      have f := f65o (d := d) (g := g) (I := I1) (J := J) (sl := sl) (rd := rd) (rl := rl) (m := m) (nd := nd) (k := k) (rv := rv) (by rw [q 38 (by decide)]; exact hR) (by rw [q 37 (by decide)]; exact hs) (by rw [q 14 (by decide)]; exact h0) hn hd (fun i hi => by
        obtain ⟨k, hk, e⟩ := hcV i hi
        exact ⟨k, hk, (hcl i (by omega)).trans e⟩) hk (by rw [e15, q1]; exact hk1)
      rw [e15, q1] at f
      obtain ⟨x, y, f⟩ := f
      have f : aF d 65 [.ref 27, .ref 14, .ref 37] (g, I1, J, aP1 sl rd rl) = some (some (some (.int (nI (wnR (sts rv (I 15)) nd (cV (I 28)) j)))), (g, aR (aR (aR I1 28 (cRace (I1 28) (wnR (sts rv (I 15)) nd (cV (I 28)) j) k)) 39 x) 40 y, J, aP1 sl rd rl)) := f
      have hB : isB (sts rv (I 15)) nd (cV (I 28)) j = decide (nI k = 0) := by unfold isB; rw [e1]
      generalize hI2 : aR (aR (aR I1 28 (cRace (I1 28) (wnR (sts rv (I 15)) nd (cV (I 28)) j) k)) 39 x) 40 y = I2 at f
      have g1 : Fr [28, 39, 40, 41] I I2 := by
        rw [← hI2]; exact Fr_s (Fr_s (Fr_s q _ (by decide)) _ (by decide)) _ (by decide)
      have g2 : I2 28 = cRace (I1 28) (wnR (sts rv (I 15)) nd (cV (I 28)) j) k := by
        rw [← hI2, aR_r _ _ (by decide), aR_r _ _ (by decide), aR_s]
      have g3 : cV (I2 28) = vsR (sts rv (I 15)) nd (cV (I 28)) (j + 1) := by
        rw [g2, cRace_v _ (by omega) hk, q1, e2]
      have g4 : I2 28 7 = I 28 7 := by
        rw [g2, ← q2]
        unfold cRace adA adM
        rw [upd_n _ _ (by omega), upd_n _ _ (by omega), upd_n _ _ (by omega), upd_n _ _ (by omega), upd_n _ _ (by omega), upd_n _ _ (by omega)]
      have g5 : I2 41 = I1 41 := by
        rw [← hI2, aR_r _ _ (by decide), aR_r _ _ (by decide), aR_r _ _ (by decide)]
      have g6 : I2 28 (8 + wnR (sts rv (I 15)) nd (cV (I 28)) j) = nI k := by
        rw [← cV_l (I2 28) (show wnR (sts rv (I 15)) nd (cV (I 28)) j < 8 by omega), g3, e2, rRace_l _ (by omega) hk (by omega)]; exact e1
      have e78 : ∀ I5 : Nat → Nat → Int32, I5 28 = I2 28 → I5 14 = I 14 → aF d 78 [.ref 27, .ref 14] (g, I5, J, aP1 sl rd rl) = some (some (some (.int (tI (jn (vsR (sts rv (I 15)) nd (cV (I 28)) (j + 1)) (I 14 11))))), (g, I5, J, aP1 sl rd rl)) := by
        intro I5 h1 h2
        rw [f78_27, jn_c, ← jn_cV, h1, h2, g3]
      have j1 : joR (sts rv (I 15)) nd (cV (I 28)) (I 14 11) (j + 1) = joR (sts rv (I 15)) nd (cV (I 28)) (I 14 11) j + (jn (vsR (sts rv (I 15)) nd (cV (I 28)) (j + 1)) (I 14 11)).toNat := rfl
      have b1 := B1 j
      have b2 := B2 j
      have b3 := B3 j
      have b4 := B4 j
      have b5 := B5 j
      rw [b64_32_3, if_neg (nI_ge (by omega) (by omega)), f]
      simp only [aBi]
      rw [b64_46_3, f68_27 (by omega)]
      simp only [aBi]
      rw [aU_r _ _ (by decide), g6, b64_57_3]
      rcases (by omega : k = 0 ∨ k = 1) with rfl | rfl
      · have hB : isB (sts rv (I 15)) nd (cV (I 28)) j = true := by rw [hB]; rfl
        have c1 : blR (sts rv (I 15)) nd (cV (I 28)) (j + 1) = blR (sts rv (I 15)) nd (cV (I 28)) j + 1 := if_pos hB
        have c2 : biR (sts rv (I 15)) nd (cV (I 28)) (j + 1) = biR (sts rv (I 15)) nd (cV (I 28)) j + 1 := if_pos hB
        have c3 : giR (sts rv (I 15)) nd (cV (I 28)) (j + 1) = 0 := if_pos hB
        have c4 : (if nI (mbR (sts rv (I 15)) nd (cV (I 28)) j) < nI (biR (sts rv (I 15)) nd (cV (I 28)) j + 1) then nI (biR (sts rv (I 15)) nd (cV (I 28)) j + 1) else nI (mbR (sts rv (I 15)) nd (cV (I 28)) j)) = nI (mbR (sts rv (I 15)) nd (cV (I 28)) (j + 1)) := by
          show _ = nI (if mbR (sts rv (I 15)) nd (cV (I 28)) j < biR (sts rv (I 15)) nd (cV (I 28)) (j + 1) then biR (sts rv (I 15)) nd (cV (I 28)) (j + 1) else mbR (sts rv (I 15)) nd (cV (I 28)) j)
          rw [c2]
          by_cases h : mbR (sts rv (I 15)) nd (cV (I 28)) j < biR (sts rv (I 15)) nd (cV (I 28)) j + 1
          · rw [if_pos h, if_pos (nI_lt h (by omega))]
          · rw [if_neg h, if_neg (nI_nlt (by omega) (by omega))]
        have c5 : (if nI (mgR (sts rv (I 15)) nd (cV (I 28)) j) < 0 then 0 else nI (mgR (sts rv (I 15)) nd (cV (I 28)) j)) = nI (mgR (sts rv (I 15)) nd (cV (I 28)) (j + 1)) := by
          show _ = nI (if mgR (sts rv (I 15)) nd (cV (I 28)) j < giR (sts rv (I 15)) nd (cV (I 28)) (j + 1) then giR (sts rv (I 15)) nd (cV (I 28)) (j + 1) else mgR (sts rv (I 15)) nd (cV (I 28)) j)
          rw [c3, if_neg (Nat.not_lt_zero _), if_neg (nI_pos (by omega))]
        rw [if_pos (show nI 0 = (0 : Int32) from rfl), e78 _ (by simp (disch := decide) only [aU_r]) (by simp (disch := decide) only [aU_r]; exact g1 14 (by decide))]
        simp only [aBi]
        rw [b64_148_3]
        simp (disch := decide) only [aU_s, aU_i, g5, q4, q5, q6, nI_1 (blR (sts rv (I 15)) nd (cV (I 28)) j), nI_1 (biR (sts rv (I 15)) nd (cV (I 28)) j), nI_1 (giR (sts rv (I 15)) nd (cV (I 28)) j), nI_1 j, c4, c5]
        rw [ifT _ (fun z => aE d 64 32 _ _ (g, aU _ 41 1 z, J, aP1 sl rd rl)), tI_n, nI_add, ← j1, ← c1, ← c2, show (0 : Int32) = nI (giR (sts rv (I 15)) nd (cV (I 28)) (j + 1)) from by rw [c3]; rfl]
        refine ih (j + 1) _ _ (by omega) ?_ ?_ ?_ ?_ ?_ ?_ ?_ ?_
        · simp only [aU_R]
          exact Fr_s (Fr_s (Fr_s (Fr_s g1 _ (by decide)) _ (by decide)) _ (by decide)) _ (by decide)
        · simp (disch := decide) only [aU_r]; exact g3
        · simp (disch := decide) only [aU_r]; exact g4
        · simp (disch := decide) only [aU_s, aU_i]; rfl
        · rw [aU_s]
        · simp (disch := decide) only [aU_s, aU_i]
        · simp (disch := decide) only [aU_s, aU_i]
        · simp (disch := decide) only [aU_i, g5]; exact q7
      · have hB : ¬ isB (sts rv (I 15)) nd (cV (I 28)) j = true := by rw [hB]; decide
        have c1 : blR (sts rv (I 15)) nd (cV (I 28)) (j + 1) = blR (sts rv (I 15)) nd (cV (I 28)) j := if_neg hB
        have c2 : biR (sts rv (I 15)) nd (cV (I 28)) (j + 1) = 0 := if_neg hB
        have c3 : giR (sts rv (I 15)) nd (cV (I 28)) (j + 1) = giR (sts rv (I 15)) nd (cV (I 28)) j + 1 := if_neg hB
        have c4 : (if nI (mgR (sts rv (I 15)) nd (cV (I 28)) j) < nI (giR (sts rv (I 15)) nd (cV (I 28)) j + 1) then nI (giR (sts rv (I 15)) nd (cV (I 28)) j + 1) else nI (mgR (sts rv (I 15)) nd (cV (I 28)) j)) = nI (mgR (sts rv (I 15)) nd (cV (I 28)) (j + 1)) := by
          show _ = nI (if mgR (sts rv (I 15)) nd (cV (I 28)) j < giR (sts rv (I 15)) nd (cV (I 28)) (j + 1) then giR (sts rv (I 15)) nd (cV (I 28)) (j + 1) else mgR (sts rv (I 15)) nd (cV (I 28)) j)
          rw [c3]
          by_cases h : mgR (sts rv (I 15)) nd (cV (I 28)) j < giR (sts rv (I 15)) nd (cV (I 28)) j + 1
          · rw [if_pos h, if_pos (nI_lt h (by omega))]
          · rw [if_neg h, if_neg (nI_nlt (by omega) (by omega))]
        have c5 : (if nI (mbR (sts rv (I 15)) nd (cV (I 28)) j) < 0 then 0 else nI (mbR (sts rv (I 15)) nd (cV (I 28)) j)) = nI (mbR (sts rv (I 15)) nd (cV (I 28)) (j + 1)) := by
          show _ = nI (if mbR (sts rv (I 15)) nd (cV (I 28)) j < biR (sts rv (I 15)) nd (cV (I 28)) (j + 1) then biR (sts rv (I 15)) nd (cV (I 28)) (j + 1) else mbR (sts rv (I 15)) nd (cV (I 28)) j)
          rw [c2, if_neg (Nat.not_lt_zero _), if_neg (nI_pos (by omega))]
        rw [if_neg (show ¬ nI 1 = (0 : Int32) from by decide), e78 _ (by simp (disch := decide) only [aU_r]) (by simp (disch := decide) only [aU_r]; exact g1 14 (by decide))]
        simp only [aBi]
        rw [b64_148_3]
        simp (disch := decide) only [aU_s, aU_i, g5, q4, q5, q6, nI_1 (blR (sts rv (I 15)) nd (cV (I 28)) j), nI_1 (biR (sts rv (I 15)) nd (cV (I 28)) j), nI_1 (giR (sts rv (I 15)) nd (cV (I 28)) j), nI_1 j, c4, c5, Int32.add_zero (nI (blR (sts rv (I 15)) nd (cV (I 28)) j))]
        rw [ifT _ (fun z => aE d 64 32 _ _ (g, aU _ 41 1 z, J, aP1 sl rd rl)), tI_n, nI_add, ← j1, ← c1, ← c3, show (0 : Int32) = nI (biR (sts rv (I 15)) nd (cV (I 28)) (j + 1)) from by rw [c2]; rfl]
        refine ih (j + 1) _ _ (by omega) ?_ ?_ ?_ ?_ ?_ ?_ ?_ ?_
        · simp only [aU_R]
          exact Fr_s (Fr_s (Fr_s (Fr_s g1 _ (by decide)) _ (by decide)) _ (by decide)) _ (by decide)
        · simp (disch := decide) only [aU_r]; exact g3
        · simp (disch := decide) only [aU_r]; exact g4
        · simp (disch := decide) only [aU_s, aU_i]; rfl
        · rw [aU_s]
        · simp (disch := decide) only [aU_s, aU_i]
        · simp (disch := decide) only [aU_s, aU_i]
        · simp (disch := decide) only [aU_i, g5]; exact q7
  obtain ⟨I', h1, h2⟩ := l N 0 (aU (aU (aU (aU I 41 0 (-1)) 41 1 0) 41 2 0) 41 3 0) aNo (by omega) (by
    simp only [aU_R]
    exact Fr_s (Fr_s (Fr_s (Fr_s (Fr_r _ _) _ (by decide)) _ (by decide)) _ (by decide)) _ (by decide)) (by simp (disch := decide) only [aU_r]; rfl) (by simp (disch := decide) only [aU_r]) (by simp (disch := decide) only [aU_s, aU_i]; rfl) (by simp (disch := decide) only [aU_s, aU_i]; rfl) (by simp (disch := decide) only [aU_s, aU_i]; rfl) (by simp (disch := decide) only [aU_s, aU_i]; rfl) (by simp (disch := decide) only [aU_i])
  refine ⟨I', h1, h2.1, h2.2.1, h2.2.2.1, h2.2.2.2.1, h2.2.2.2.2.1, h2.2.2.2.2.2.1, h2.2.2.2.2.2.2.1, ?_⟩
  show aE d 64 0 [.ref 41, .ref 14, .ref 27, .ref 37, .int (nI N), aNo, aNo, aNo, aNo, aNo] [] _ = _
  rw [b64_0_3]
  exact h2.2.2.2.2.2.2.2
