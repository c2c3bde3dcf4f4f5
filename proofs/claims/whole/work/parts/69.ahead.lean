/-! joins, ahead: tied -/
variable {d : Nat} {g : Nat × Nat × Nat} {I : Nat → Nat → Int32} {J : Nat → Nat → Int64} {sl rd rl : Nat} {t n m q : Nat}
/-- what is tried -/
def cpT (I : Nat → Nat → Int32) : Nat → Nat → Int32 := aR I 28 (cpB (I 28) (I 24) 0 32)
theorem cpT_r (I : Nat → Nat → Int32) {a : Nat} (h : a ≠ 28) : cpT I a = I a := aR_r _ _ h
theorem cpT_28 (I : Nat → Nat → Int32) {k : Nat} (h : k < 32) : cpT I 28 k = I 24 k := by
  unfold cpT; rw [aR_s, cpB_in _ _ (by omega) (by omega)]; rfl
theorem cpT_V (I : Nat → Nat → Int32) : cV (cpT I 28) = cV (I 24) := cV_congr (fun i hi => cpT_28 I hi)
theorem cpT_F (I : Nat → Nat → Int32) : Fr [28] I (cpT I) := Fr_s (Fr_r _ _) _ (by decide)
def cpR (I : Nat → Nat → Int32) : Nat → Nat → Int32 := aR (aU I 46 13 0) 60 (cpB (I 60) (I 47) 0 39)
theorem cpR_60 (I : Nat → Nat → Int32) {k : Nat} (h : k < 39) : cpR I 60 k = I 47 k := by
  unfold cpR; rw [aR_s, cpB_in _ _ (by omega) (by omega)]; rfl
theorem cpR_V (I : Nat → Nat → Int32) : rV (cpR I 60) = rV (I 47) := rV_congr (fun i hi => cpR_60 I hi)
theorem cpR_F (I : Nat → Nat → Int32) : Fr [46, 60] I (cpR I) := by
  unfold cpR; rw [aU_R]; exact Fr_s (Fr_s (Fr_r _ _) _ (by decide)) _ (by decide)
theorem cpR_46 (I : Nat → Nat → Int32) : F46 [13] I (cpR I) := by
  intro j hj
  have hj : j ≠ 13 := by simpa using hj
  unfold cpR
  rw [aR_r _ _ (by decide), aU_i _ _ hj]
theorem f222R (I : Nat → Nat → Int32) : aF d 222 [.ref 47, .ref 60, .int 0] (g, aU I 46 13 0, J, aP1 sl rd rl) = some (some none, (g, cpR I, J, aP1 sl rd rl)) := by
  have f := f222_60 (d := d) (g := g) (I := aU I 46 13 0) (J := J) (sl := sl) (rd := rd) (rl := rl) (o := 0) (by decide)
  have f : aF d 222 [.ref 47, .ref 60, .int 0] (g, aU I 46 13 0, J, aP1 sl rd rl) = _ := f
  rw [f, aU_r _ _ (by decide), aU_r _ _ (by decide)]
  rfl
/-- a race of nobody -/
theorem f65t0 {mm : Nat} {rv : (Nat → Int32) → Int32} (hR : cRule (I 34) mm rv) (hs : I 33 1 = nI mm) (h0 : I 14 0 = nI 0) : ∃ I', Fr [35, 36] I I' ∧ aF d 65 [.ref 27, .ref 14, .ref 33] (g, I, J, aP1 sl rd rl) = some (some (some (.int (-1))), (g, I', J, aP1 sl rd rl)) := by
  obtain ⟨x, y, e⟩ := f66t (d := d) (g := g) (I := I) (J := J) (sl := sl) (rd := rd) (rl := rl) (nd := 0) hR hs h0 (by decide) (fun i hi => by omega) 0
  have e : aF d 66 [.ref 33, .ref 14, .ref 27, .int 0] (g, I, J, aP1 sl rd rl) = some (some (some (.int (-1))), (g, aR (aR I 35 x) 36 y, J, aP1 sl rd rl)) := e
  refine ⟨aR (aR I 35 x) 36 y, Fr_s (Fr_s (Fr_r _ _) x (by decide)) y (by decide), ?_⟩
  show aE d 65 0 [.ref 27, .ref 14, .ref 33, aNo, aNo] [] _ = _
  rw [b65_0_2, e]
  simp only [aBi]
  rw [b65_7_2, f68n_27]
  simp only [aBi]
  rw [b65_13_2, f75]
  simp only [aBi]
  rw [b65_20_2, if_pos (by decide)]
/-- a race in the trial, by what is seen -/
theorem f65s {nd mm : Nat} {rv : (Nat → Int32) → Int32} {st : (Nat → Int32) → Nat → Int32} {v : Nat → Int32} {j : Nat} (hR : cRule (I 34) mm rv) (hs : I 33 1 = nI mm) (h0 : I 14 0 = nI nd) (hn : nd ≤ 8) (hd : 0 < nd) (hst : st = sts rv (I 15)) (hc : clubs (fun i => v (6 + i)) nd) (hv : cV (I 28) = vsR st nd v j) : ∃ I', Fr [28, 35, 36] I I' ∧ cV (I' 28) = vsR st nd v (j + 1) ∧ I' 28 7 = I 28 7 ∧ aF d 65 [.ref 27, .ref 14, .ref 33] (g, I, J, aP1 sl rd rl) = some (some (some (.int (nI (wnR st nd v j)))), (g, I', J, aP1 sl rd rl)) := by
  subst hst
  obtain ⟨hl, k, hk, e1, e2⟩ := vsR_1 (st := sts rv (I 15)) hc hn hd j
  have hW : wnR (sts rv (I 15)) nd v j < nd := wn_lt _ hd
  have hcl : ∀ i, i < 8 → I 28 (8 + i) = v (6 + i) := fun i hi => by
    rw [← cV_l (I 28) hi, hv]; exact hl i hi
  have hk1 : I 28 (8 + wnR (sts rv (I 15)) nd v j) = nI k := by
    rw [← cV_l (I 28) (show wnR (sts rv (I 15)) nd v j < 8 by omega), hv]; exact e1
  have f := f65t (d := d) (g := g) (I := I) (J := J) (sl := sl) (rd := rd) (rl := rl) (m := mm) (nd := nd) (k := k) (rv := rv) hR hs h0 hn hd (fun i hi => by
    obtain ⟨k, hk, e⟩ := hc i hi
    exact ⟨k, hk, (hcl i (by omega)).trans e⟩) hk (by rw [hv]; exact hk1)
  rw [hv] at f
  obtain ⟨x, y, f⟩ := f
  refine ⟨aR (aR (aR I 28 (cRace (I 28) (wnR (sts rv (I 15)) nd v j) k)) 35 x) 36 y, Fr_s (Fr_s (Fr_s (Fr_r _ _) _ (by decide)) x (by decide)) y (by decide), ?_, ?_, f⟩
  · rw [aR_r _ _ (by decide), aR_r _ _ (by decide), aR_s, cRace_v _ (by omega) hk, hv, e2]
  · rw [aR_r _ _ (by decide), aR_r _ _ (by decide), aR_s]
    unfold cRace adA adM
    rw [upd_n _ _ (by omega), upd_n _ _ (by omega), upd_n _ _ (by omega), upd_n _ _ (by omega), upd_n _ _ (by omega), upd_n _ _ (by omega)]
/-- .. and the reference's -/
theorem f224s {nd rs : Nat} {rv : (Nat → Int32) → Int32} {sk : Nat → Int32} {st : (Nat → Int32) → Nat → Int32} {v : Nat → Int32} {j : Nat} (hd : 41 ≤ d) (hV : rRule (I 55) rs rv) (hB : byR (I 55)) (hC : ∀ t t' : Nat → Int32, (∀ k, k < 8 → t k = t' k) → rv t = rv t') (hs : I 46 22 = nI rs) (hN : I 46 1 = nI nd) (hn : nd ≤ 8) (h0 : 0 < nd) (hst : st = sts rv sk) (hc : clubs (fun i => v (6 + i)) nd) (hsk : ∀ i, i < nd → I 48 i = sk i) (hv : rV (I 60) = vsR st nd v j) : ∃ I' rd', Fr [46, 57, 60] I I' ∧ F46 [15, 16, 17, 18, 23] I I' ∧ rV (I' 60) = vsR st nd v (j + 1) ∧ aF d 224 [.ref 46, .ref 60] (g, I, J, aP1 sl rd 56) = some (some (some (.int (nI (wnR st nd v j)))), (g, I', J, aP1 sl rd' 56)) := by
  subst hst
  obtain ⟨hl, k, hk, e1, e2⟩ := vsR_1 (st := sts rv sk) hc hn h0 j
  have hW : wnR (sts rv sk) nd v j < nd := wn_lt _ h0
  have f := f224t (d := d) (g := g) (I := I) (J := J) (sl := sl) (rd := rd) (nd := nd) (rs := rs) (rv := rv) (sk := sk) hd hV hB hC hs hN hn h0 (fun i hi => by
    obtain ⟨k, hk, e⟩ := hc i hi
    exact ⟨k, hk, by show I 60 (6 + i) = nI k; rw [← rV_lt (I 60) (show 6 + i < 39 by omega), hv, hl i (by omega)]; exact e⟩) hsk
  rw [hv] at f
  obtain ⟨I2, rd2, k', hk', f1, f2, f3, f4, f5⟩ := f
  have f1 : I 60 (6 + wnR (sts rv sk) nd v j) = nI k' := f1
  obtain rfl : k = k' := by
    have : nI k = nI k' := by rw [← e1, ← f1, ← hv, rV_lt _ (by omega)]
    exact (nI_eq (by omega) (by omega)).mp this
  refine ⟨I2, rd2, f3, f4, ?_, f5⟩
  rw [f2, rRace_r _ (Nat.lt_of_lt_of_le (wn_lt _ h0) hn) hk, hv, e2]
  rfl
/-- the first of k from j on of which p holds -/
def jF (p : Nat → Bool) : Nat → Nat → Option Nat
  | 0, _ => none
  | k + 1, j => if p j = true then some j else jF p k (j + 1)
theorem jF_0 (p : Nat → Bool) (j : Nat) : jF p 0 j = none := rfl
theorem jF_t {p : Nat → Bool} {k j : Nat} (h : p j = true) : jF p (k + 1) j = some j := if_pos h
theorem jF_f {p : Nat → Bool} {k j : Nat} (h : ¬ p j = true) : jF p (k + 1) j = jF p k (j + 1) := if_neg h
theorem tie_joins (hd : 41 ≤ d) (H : zInv t n m q I J) : tie d 111 249 [] t g I J sl rd := by
  obtain ⟨hn, d1, d2, -⟩ := H.2.2.1
  have hS := H.2.2.2.2.2.2.1
  have hL := H.2.2.2.2.2.1
  obtain ⟨mm, kk, rv, v1, v2, v3, v4, v5, v6⟩ := zV_get H
  have sk := zD_s H
  have cl : clubs (fun i => cV (I 24) (6 + i)) n := fun i hi => by
    rw [hS.1]; exact hS.2.1.2.2.1 i hi
  generalize hst : sts rv (I 15) = st
  -- nobody races
  have e78 : ∀ (I1 : Nat → Nat → Int32) (v : Nat → Int32), cV (I1 28) = v → I1 14 = I 14 → aF d 78 [.ref 27, .ref 14] (g, I1, J, aP1 sl rd 56) = some (some (some (.int (tI (jn v (I 14 11))))), (g, I1, J, aP1 sl rd 56)) := by
    intro I1 v h1 h2
    rw [f78_27, jn_c, ← jn_cV, h1, h2]
  have e228 : ∀ (I1 : Nat → Nat → Int32) (J1 : Nat → Nat → Int64) (rd1 : Nat) (v : Nat → Int32), rV (I1 60) = v → I1 46 8 = I 46 8 → aF d 228 [.ref 46, .ref 60] (g, I1, J1, aP1 sl rd1 56) = some (some (some (.int (tI (jn v (I 14 11))))), (g, I1, J1, aP1 sl rd1 56)) := by
    intro I1 J1 rd1 v h1 h2
    rw [f228_60, jn_r, ← jn_rV, h1, h2, ← hL]
  have tellC : ∀ (I1 : Nat → Nat → Int32) (v : Nat → Int32) (j : Nat), cV (I1 28) = v → jn v (I 14 11) = true → I1 14 = I 14 → j ≤ 99 → aE d 111 13 [.ref 6, .int (nI j)] [] (g, I1, J, aP1 sl rd 56) = some (some (some (.int (nI j))), (g, aU I1 12 1 2, aU (aU J 13 0 (Int32.toInt64 (v 2))) 13 1 (Int32.toInt64 (v 3)), aP1 sl rd 56)) := by
    intro I1 v j h1 h2 h3 h4
    have a0 := f73_27 (d := d) (g := g) (I := I1) (J := J) (sl := sl) (rd := rd) (rl := 56) (c := 0) (by decide)
    have a0 : aF d 73 [.ref 27, .int 0] (g, I1, J, aP1 sl rd 56) = _ := a0
    have a1 := f73_27 (d := d) (g := g) (I := I1) (J := J) (sl := sl) (rd := rd) (rl := 56) (c := 1) (by decide)
    have a1 : aF d 73 [.ref 27, .int 1] (g, I1, J, aP1 sl rd 56) = _ := a1
    rw [b111_13, if_neg (show ¬ 99 < nI j from nI_nlt (a := 99) h4 (by decide)), e78 I1 v h1 h3, h2]
    simp only [aBi]
    rw [b111_30, if_neg (by decide), a0]
    simp only [aBi]
    rw [b111_45, a1]
    simp only [aBi]
    rw [b111_54, f82]
    simp only [aBv]
    rw [b111_58, ← h1]
    rfl
  have tellR : ∀ (I1 : Nat → Nat → Int32) (J1 : Nat → Nat → Int64) (rd1 : Nat) (v : Nat → Int32) (j : Nat), rV (I1 60) = v → jn v (I 14 11) = true → I1 46 8 = I 46 8 → j ≤ 99 → aE d 249 19 [.ref 46, .int (nI j)] [] (g, I1, J1, aP1 sl rd1 56) = some (some (some (.int (nI j))), (g, aU I1 46 12 2, aU (aU J1 53 0 (Int32.toInt64 (v 2))) 53 1 (Int32.toInt64 (v 3)), aP1 sl rd1 56)) := by
    intro I1 J1 rd1 v j h1 h2 h3 h4
    rw [b249_19, if_neg (show ¬ 99 < nI j from nI_nlt (a := 99) h4 (by decide)), e228 I1 J1 rd1 v h1 h3, h2]
    simp only [aBi]
    rw [b249_33, if_neg (by decide), tell0]
    simp only [aBv]
    rw [b249_52, tell1]
    simp only [aBv]
    rw [b249_63, aU_r _ _ (by decide), ← h1]
    rfl
  have eC : aF d 111 [.ref 6] (g, I, J, aP1 sl rd 56) = aE d 111 13 [.ref 6, .int (nI 0)] [] (g, cpT I, J, aP1 sl rd 56) := by
    show aE d 111 0 [.ref 6, aNo] [] _ = _
    rw [b111_0, f63_28]
    simp only [aBv]
    rw [b111_11]
    rfl
  have eR : ∀ (I1 : Nat → Nat → Int32) (J1 : Nat → Nat → Int64), aF d 249 [.ref 46] (g, I1, J1, aP1 sl rd 56) = aE d 249 19 [.ref 46, .int (nI 0)] [] (g, cpR I1, J1, aP1 sl rd 56) := by
    intro I1 J1
    show aE d 249 0 [.ref 46, aNo] [] _ = _
    rw [b249_0, f222R]
    simp only [aBv]
    rw [b249_17]
    rfl
  -- both, told the same
  have fin : ∀ (I1 I2 : Nat → Nat → Int32) (rd2 i : Nat) (v : Nat → Int32), Fr [28, 35, 36] I I1 → Fr [46, 57, 60] (aU I1 12 1 2) I2 → F46 [13, 15, 16, 17, 18, 23] (aU I1 12 1 2) I2 → aF d 111 [.ref 6] (g, I, J, aP1 sl rd 56) = some (some (some (.int (nI i))), (g, aU I1 12 1 2, aU (aU J 13 0 (Int32.toInt64 (v 2))) 13 1 (Int32.toInt64 (v 3)), aP1 sl rd 56)) → aF d 249 [.ref 46] (g, aU I1 12 1 2, aU (aU J 13 0 (Int32.toInt64 (v 2))) 13 1 (Int32.toInt64 (v 3)), aP1 sl rd 56) = some (some (some (.int (nI i))), (g, aU I2 46 12 2, aU (aU (aU (aU J 13 0 (Int32.toInt64 (v 2))) 13 1 (Int32.toInt64 (v 3))) 53 0 (Int32.toInt64 (v 2))) 53 1 (Int32.toInt64 (v 3)), aP1 sl rd2 56)) → tie d 111 249 [] t g I J sl rd := by
    intro I1 I2 rd2 i v h1 h2 h3 e1 e2
    refine tie_R H (by rw [aU_R]; exact Fr_s (Fr_w h1 (by decide)) _ (by decide)) ?_ ?_ ?_ e1 e2
    · rw [aU_R I2]; exact Fr_s (Fr_w h2 (by decide)) _ (by decide)
    · intro j hj
      rw [aU_i _ _ (fun e => hj (by rw [e]; decide))]
      exact (F46_w h3 (by decide) : F46 (12 :: scf) _ I2) j hj
    · refine zR_2 ?_ ?_ ?_ ?_
      · rw [aU_r _ _ (by decide), h2 12 (by decide), aU_s]
      · rw [aU_s]
      · simp (disch := decide) only [aU_r, aU_i, aU_s]
      · simp (disch := decide) only [aU_r, aU_i, aU_s]
  by_cases hn0 : n = 0
  · subst hn0
    by_cases hj : jn (cV (I 24)) (I 14 11) = true
    · refine fin (cpT I) (cpR (aU (cpT I) 12 1 2)) rd 0 (cV (I 24)) (Fr_w (cpT_F I) (by decide)) (Fr_w (cpR_F _) (by decide)) (F46_w (cpR_46 _) (by decide)) ?_ ?_
      · rw [eC]; exact tellC _ _ 0 (cpT_V I) hj (cpT_r _ (by decide)) (by decide)
      · rw [eR]
        refine tellR _ _ _ _ 0 ?_ hj ?_ (by decide)
        · rw [cpR_V, aU_r _ _ (by decide), cpT_r _ (by decide), hS.1]
        · rw [cpR_46 _ 8 (by decide), aU_r _ _ (by decide), cpT_r _ (by decide)]
    · obtain ⟨I1, f1, f2⟩ := f65t0 (d := d) (g := g) (I := cpT I) (J := J) (sl := sl) (rd := rd) (rl := 56) (mm := mm) (rv := rv) (by rw [cpT_r _ (by decide)]; exact v3) (by rw [cpT_r _ (by decide)]; exact v1) (by rw [cpT_r _ (by decide)]; exact d1)
      have hj : jn (cV (I 24)) (I 14 11) = false := by simpa using hj
      have F1 : Fr [28, 35, 36] I I1 := Fr_t (Fr_w (cpT_F I) (by decide)) (Fr_w f1 (by decide))
      refine tie_0 (rd2 := rd) (v := -2) (I1 := I1) (I2 := cpR I1) H (Fr_w F1 (by decide)) (Fr_w (cpR_F _) (by decide)) (F46_w (cpR_46 _) (by decide)) ?_ ?_
      · rw [show (Value.ref 6 :: [] : List Value) = [.ref 6] from rfl, eC, b111_13, if_neg (by decide), e78 _ _ (cpT_V I) (cpT_r _ (by decide)), hj]
        simp only [aBi]
        rw [b111_30, if_pos tI_f, f2]
        simp only [aBi]
        rw [b111_75, if_pos rfl]
      · rw [show (Value.ref 46 :: [] : List Value) = [.ref 46] from rfl, eR, b249_19, if_neg (by decide), e228 _ _ _ _ (cpR_V I1) (cpR_46 _ 8 (by decide) |>.trans (by rw [F1 46 (by decide)])), F1 47 (by decide), ← hS.1, hj]
        simp only [aBi]
        rw [b249_33, if_pos tI_f, if_pos (show cpR I1 46 1 = 0 from (cpR_46 I1 1 (by decide)).trans (by rw [F1 46 (by decide)]; exact d2))]
  have h0 : 0 < n := by omega
  have nz := nIz h0 (by omega)
  -- the class
  have lC : ∀ (k j : Nat) (I1 : Nat → Nat → Int32), j + k = 100 → Fr [28, 35, 36] I I1 → cV (I1 28) = vsR st n (cV (I 24)) j → (jF (fun j => jn (vsR st n (cV (I 24)) j) (I 14 11)) k j = none → ∃ I', Fr [28, 35, 36] I I' ∧ aE d 111 13 [.ref 6, .int (nI j)] [] (g, I1, J, aP1 sl rd 56) = some (some (some (.int (-2))), (g, I', J, aP1 sl rd 56))) ∧ (∀ i, jF (fun j => jn (vsR st n (cV (I 24)) j) (I 14 11)) k j = some i → ∃ I', Fr [28, 35, 36] I I' ∧ aE d 111 13 [.ref 6, .int (nI j)] [] (g, I1, J, aP1 sl rd 56) = some (some (some (.int (nI i))), (g, aU I' 12 1 2, aU (aU J 13 0 (Int32.toInt64 (vsR st n (cV (I 24)) i 2))) 13 1 (Int32.toInt64 (vsR st n (cV (I 24)) i 3)), aP1 sl rd 56))) := by
    intro k
    induction k with
    | zero =>
      intro j I1 hj q1 q2
      obtain rfl : j = 100 := by omega
      refine ⟨fun _ => ⟨I1, q1, ?_⟩, fun i h => by cases h⟩
      rw [b111_13, if_pos (by decide)]
    | succ k ih =>
      intro j I1 hj q1 q2
      by_cases hp : jn (vsR st n (cV (I 24)) j) (I 14 11) = true
      · rw [jF_t (p := fun j => jn (vsR st n (cV (I 24)) j) (I 14 11)) hp]
        refine ⟨fun h => (by cases h), fun i h => ?_⟩
        cases h
        exact ⟨I1, q1, tellC I1 _ j q2 hp (q1 14 (by decide)) (by omega)⟩
      · rw [jF_f (p := fun j => jn (vsR st n (cV (I 24)) j) (I 14 11)) hp]
        have hp' : jn (vsR st n (cV (I 24)) j) (I 14 11) = false := by simpa using hp
        obtain ⟨I2, g1, g2, -, g4⟩ := f65s (d := d) (g := g) (I := I1) (J := J) (sl := sl) (rd := rd) (rl := 56) (nd := n) (mm := mm) (rv := rv) (st := st) (v := cV (I 24)) (j := j) (by rw [q1 34 (by decide)]; exact v3) (by rw [q1 33 (by decide)]; exact v1) (by rw [q1 14 (by decide)]; exact d1) hn h0 (by rw [q1 15 (by decide)]; exact hst.symm) cl q2
        have hw : wnR st n (cV (I 24)) j < n := wn_lt _ h0
        have e : aE d 111 13 [.ref 6, .int (nI j)] [] (g, I1, J, aP1 sl rd 56) = aE d 111 13 [.ref 6, .int (nI (j + 1))] [] (g, I2, J, aP1 sl rd 56) := by
          rw [b111_13, if_neg (show ¬ 99 < nI j from nI_nlt (a := 99) (by omega) (by decide)), e78 I1 _ q2 (q1 14 (by decide)), hp']
          simp only [aBi]
          rw [b111_30, if_pos tI_f, g4]
          simp only [aBi]
          rw [b111_75, if_neg (of_eq_false (nIm1 (by omega))), nI_1]
        rw [e]
        exact ih (j + 1) I2 (by omega) (Fr_t q1 g1) g2
  have lR : ∀ (Ic : Nat → Nat → Int32) (J1 : Nat → Nat → Int64), Fr [12, 28, 35, 36] I Ic → ∀ (k j : Nat) (I1 : Nat → Nat → Int32) (rd1 : Nat), j + k = 100 → Fr [46, 57, 60] Ic I1 → F46 [13, 15, 16, 17, 18, 23] Ic I1 → rV (I1 60) = vsR st n (cV (I 24)) j → (jF (fun j => jn (vsR st n (cV (I 24)) j) (I 14 11)) k j = none → ∃ I' rd', Fr [46, 57, 60] Ic I' ∧ F46 [13, 15, 16, 17, 18, 23] Ic I' ∧ aE d 249 19 [.ref 46, .int (nI j)] [] (g, I1, J1, aP1 sl rd1 56) = some (some (some (.int (-2))), (g, I', J1, aP1 sl rd' 56))) ∧ (∀ i, jF (fun j => jn (vsR st n (cV (I 24)) j) (I 14 11)) k j = some i → ∃ I' rd', Fr [46, 57, 60] Ic I' ∧ F46 [13, 15, 16, 17, 18, 23] Ic I' ∧ aE d 249 19 [.ref 46, .int (nI j)] [] (g, I1, J1, aP1 sl rd1 56) = some (some (some (.int (nI i))), (g, aU I' 46 12 2, aU (aU J1 53 0 (Int32.toInt64 (vsR st n (cV (I 24)) i 2))) 53 1 (Int32.toInt64 (vsR st n (cV (I 24)) i 3)), aP1 sl rd' 56))) := by
    intro Ic J1 hIc k
    induction k with
    | zero =>
      intro j I1 rd1 hj q1 q2 q3
      obtain rfl : j = 100 := by omega
      refine ⟨fun _ => ⟨I1, rd1, q1, q2, ?_⟩, fun i h => by cases h⟩
      rw [b249_19, if_pos (by decide)]
    | succ k ih =>
      intro j I1 rd1 hj q1 q2 q3
      have r46 : ∀ j, j ∉ [13, 15, 16, 17, 18, 23] → I1 46 j = I 46 j := fun j hj => by rw [q2 j hj, hIc 46 (by decide)]
      by_cases hp : jn (vsR st n (cV (I 24)) j) (I 14 11) = true
      · rw [jF_t (p := fun j => jn (vsR st n (cV (I 24)) j) (I 14 11)) hp]
        refine ⟨fun h => (by cases h), fun i h => ?_⟩
        cases h
        exact ⟨I1, rd1, q1, q2, tellR I1 J1 rd1 _ j q3 hp (r46 8 (by decide)) (by omega)⟩
      · rw [jF_f (p := fun j => jn (vsR st n (cV (I 24)) j) (I 14 11)) hp]
        have hp' : jn (vsR st n (cV (I 24)) j) (I 14 11) = false := by simpa using hp
        obtain ⟨I2, rd2, g1, g2, g3, g4⟩ := f224s (d := d) (g := g) (I := I1) (J := J1) (sl := sl) (rd := rd1) (nd := n) (rs := kk) (rv := rv) (sk := I 15) (st := st) (v := cV (I 24)) (j := j) hd (by rw [q1 55 (by decide), hIc 55 (by decide)]; exact v4) (by rw [q1 55 (by decide), hIc 55 (by decide)]; exact v5) v6 (by rw [r46 22 (by decide)]; exact v2) (by rw [r46 1 (by decide)]; exact d2) hn h0 hst.symm cl (fun i hi => by rw [q1 48 (by decide), hIc 48 (by decide)]; exact sk i hi) q3
        have e : aE d 249 19 [.ref 46, .int (nI j)] [] (g, I1, J1, aP1 sl rd1 56) = aE d 249 19 [.ref 46, .int (nI (j + 1))] [] (g, I2, J1, aP1 sl rd2 56) := by
          rw [b249_19, if_neg (show ¬ 99 < nI j from nI_nlt (a := 99) (by omega) (by decide)), e228 I1 J1 rd1 _ q3 (r46 8 (by decide)), hp']
          simp only [aBi]
          rw [b249_33, if_pos tI_f, if_neg (by rw [r46 1 (by decide), d2]; exact nz), g4]
          simp only [aBi]
          rw [b249_83, nI_1]
        rw [e]
        exact ih (j + 1) I2 rd2 (by omega) (Fr_t q1 g1) (F46_t q2 (F46_w g2 (by decide))) g3
  obtain ⟨cN, cS⟩ := lC 100 0 (cpT I) rfl (Fr_w (cpT_F I) (by decide)) (cpT_V I)
  have lR0 : ∀ (Ic : Nat → Nat → Int32) (J1 : Nat → Nat → Int64) (h : Fr [12, 28, 35, 36] I Ic), _ := fun Ic J1 h => lR Ic J1 h 100 0 (cpR Ic) rd rfl (Fr_w (cpR_F _) (by decide)) (F46_w (cpR_46 _) (by decide)) (by rw [cpR_V, h 47 (by decide), ← hS.1]; rfl)
  cases hf : jF (fun j => jn (vsR st n (cV (I 24)) j) (I 14 11)) 100 0 with
  | none =>
    obtain ⟨I1, a1, a2⟩ := cN hf
    obtain ⟨I2, rd2, b1, b2, b3⟩ := (lR0 I1 J (Fr_w a1 (by decide))).1 hf
    exact tie_0 H (Fr_w a1 (by decide)) (Fr_w b1 (by decide)) (F46_w b2 (by decide)) (eC.trans a2) ((eR _ _).trans b3)
  | some i =>
    obtain ⟨I1, a1, a2⟩ := cS i hf
    obtain ⟨I2, rd2, b1, b2, b3⟩ := (lR0 (aU I1 12 1 2) (aU (aU J 13 0 (Int32.toInt64 (vsR st n (cV (I 24)) i 2))) 13 1 (Int32.toInt64 (vsR st n (cV (I 24)) i 3))) (by rw [aU_R]; exact Fr_s (Fr_w a1 (by decide)) _ (by decide))).2 i hf
    exact fin I1 I2 rd2 i _ a1 b1 b2 (eC.trans a2) ((eR _ _).trans b3)
theorem tie_ahead (hd : 41 ≤ d) (H : zInv t n m q I J) (a : Int32) : tie d 109 248 [.int a] t g I J sl rd := by
  obtain ⟨hn, d1, d2, -⟩ := H.2.2.1
  have hS := H.2.2.2.2.2.2.1
  have hL := H.2.2.2.2.2.1
  by_cases hn0 : n = 0
  · subst hn0
    refine tie_0 (rd2 := rd) (v := -2) H (Fr_r _ _) (th_F _) (th_46 _) ?_ ?_
    · show aE d 109 0 [.ref 6, .int a, aNo] [] _ = _
      rw [b109_0, if_pos (show I 14 0 = 0 from d1)]
    · show aE d 248 0 [.ref 46, .int a, aNo, aNo, aNo, aNo, aNo, aNo, aNo, aNo] [] _ = _
      rw [b248_0, if_pos (show I 46 1 = 0 from d2)]
  have h0 : 0 < n := by omega
  have nz := nIz h0 (by omega)
  by_cases hx : a < 0 ∨ 99 < a
  · refine tie_0 (rd2 := rd) (v := -1) H (Fr_r _ _) (th_F _) (th_46 _) ?_ ?_
    · show aE d 109 0 [.ref 6, .int a, aNo] [] _ = _
      rw [b109_0, if_neg (by rw [d1]; exact nz)]
      rcases hx with hx | hx
      · rw [if_pos hx]
      · rw [if_neg (c := a ≤ 99) (by rw [nle_lt]; exact hx), ite_self]
    · show aE d 248 0 [.ref 46, .int a, aNo, aNo, aNo, aNo, aNo, aNo, aNo, aNo] [] _ = _
      rw [b248_0, if_neg (by rw [d2]; exact nz), f181, inI_f hx]
      simp only [aBi]
      rw [b248_22, if_pos rfl]
  obtain ⟨N, hN, rfl⟩ := rngN (b := 99) (M := 99) rfl (by decide) hx
  obtain ⟨mm, kk, rv, v1, v2, v3, v4, v5, v6⟩ := zV_get H
  have sk := zD_s H
  have cl : clubs (fun i => cV (I 24) (6 + i)) n := fun i hi => by
    rw [hS.1]; exact hS.2.1.2.2.1 i hi
  obtain ⟨I1, c1, -, -, -, c5, c6, c7, -, c9⟩ := f64t (d := d) (g := g) (I := cpT I) (J := J) (sl := sl) (rd := rd) (rl := 56) (nd := n) (m := mm) (N := N) (rv := rv) (by rw [cpT_r _ (by decide)]; exact v3) (by rw [cpT_r _ (by decide)]; exact v1) (by rw [cpT_r _ (by decide)]; exact d1) hn h0 (fun i hi => by
    obtain ⟨k, hk, e⟩ := okS_cl hS hn i hi
    exact ⟨k, hk, (cpT_28 I (by omega)).trans e⟩) hN
  rw [cpT_V, cpT_r _ (show 15 ≠ 28 by decide)] at c5 c6 c7 c9
  rw [cpT_r _ (show 14 ≠ 28 by decide)] at c5
  generalize hst : sts rv (I 15) = st at c5 c6 c7 c9
  have G1 : Fr [28, 35, 36, 41] I I1 := Fr_t (Fr_w (cpT_F I) (by decide)) (Fr_w c1 (by decide))
  generalize hv : cV (I 24) = v at c5 c6 c7 c9 cl
  generalize hJ : aU (aU (aU J 13 0 (Int32.toInt64 (nI (mbR st n v N)))) 13 1 (Int32.toInt64 (nI (mgR st n v N)))) 13 2 (Int32.toInt64 (nI (joR st n v (I 14 11) N))) = J1
  have e1 : aF d 109 [.ref 6, .int (nI N)] (g, I, J, aP1 sl rd 56) = some (some (some (.int (nI (blR st n v N)))), (g, aU I1 12 1 3, J1, aP1 sl rd 56)) := by
    show aE d 109 0 [.ref 6, .int (nI N), aNo] [] _ = _
    rw [b109_0, if_neg (by rw [d1]; exact nz), if_neg (fun h => hx (Or.inl h)), if_pos (Classical.byContradiction fun h => hx (Or.inr (by rw [← nle_lt]; exact h))), f63_28]
    simp only [aBv]
    rw [b109_36, show aR I 28 (cpB (I 28) (I 24) 0 32) = cpT I from rfl, c9]
    simp only [aBi]
    rw [b109_56, f110, c5, c6, c7, hJ]
    simp only [aBv]
    rw [b109_88]
  have G2 : Fr [12, 28, 35, 36, 41] I (aU I1 12 1 3) := by rw [aU_R]; exact Fr_s (Fr_w G1 (by decide)) _ (by decide)
  generalize hIc : aU I1 12 1 3 = Ic at e1 G2
  have B1 := blR_le st n v
  have B2 := biR_le st n v
  have B3 := giR_le st n v
  have B4 := mbR_le st n v
  have B5 := mgR_le st n v
  have e228 : ∀ (I1 : Nat → Nat → Int32) (rd1 : Nat) (w : Nat → Int32), rV (I1 60) = w → I1 46 8 = I 46 8 → aF d 228 [.ref 46, .ref 60] (g, I1, J1, aP1 sl rd1 56) = some (some (some (.int (tI (jn w (I 14 11))))), (g, I1, J1, aP1 sl rd1 56)) := by
    intro I1 rd1 w h1 h2
    rw [f228_60, jn_r, ← jn_rV, h1, h2, ← hL]
  have lR : ∀ (M j : Nat) (I1 : Nat → Nat → Int32) (rd1 : Nat) (w9 : Value) (run last : Int32), j + M = N → Fr [46, 57, 60] Ic I1 → F46 [13, 15, 16, 17, 18, 23] Ic I1 → rV (I1 60) = vsR st n v j → ((last = -1 ∧ biR st n v j = 0 ∧ giR st n v j = 0) ∨ (last = 0 ∧ run = nI (biR st n v j) ∧ giR st n v j = 0) ∨ (last = 1 ∧ run = nI (giR st n v j) ∧ biR st n v j = 0)) → ∃ I' rd', Fr [46, 57, 60] Ic I' ∧ F46 [13, 15, 16, 17, 18, 23] Ic I' ∧ aE d 248 58 [.ref 46, .int (nI N), .int (nI (blR st n v j)), .int (nI (joR st n v (I 14 11) j)), .int run, .int last, .int (nI (mbR st n v j)), .int (nI (mgR st n v j)), .int (nI j), w9] [] (g, I1, J1, aP1 sl rd1 56) = some (some (some (.int (nI (blR st n v N)))), (g, aU I' 46 12 3, aU (aU (aU J1 53 0 (Int32.toInt64 (nI (mbR st n v N)))) 53 1 (Int32.toInt64 (nI (mgR st n v N)))) 53 2 (Int32.toInt64 (nI (joR st n v (I 14 11) N))), aP1 sl rd' 56)) := by
    intro M
    induction M with
    | zero =>
      intro j I1 rd1 w9 run last hj q1 q2 q3 _
      obtain rfl : j = N := by omega
      refine ⟨I1, rd1, q1, q2, ?_⟩
      rw [b248_58, if_pos (Int32.le_refl _), tell0]
      simp only [aBv]
      rw [b248_201, tell1]
      simp only [aBv]
      rw [b248_208, tell2]
      simp only [aBv]
      rw [b248_214]
    | succ M ih =>
      intro j I1 rd1 w9 run last hj q1 q2 q3 hQ
      have r46 : ∀ j, j ∉ [13, 15, 16, 17, 18, 23] → I1 46 j = I 46 j := fun j hj => by rw [q2 j hj, G2 46 (by decide)]
      obtain ⟨hl, k, hk, k1, k2⟩ := vsR_1 (st := st) cl hn h0 j
      have hw : wnR st n v j < n := wn_lt _ h0
      obtain ⟨I2, rd2, a1, a2, a3⟩ := f225t (d := d) (g := g) (I := I1) (J := J1) (sl := sl) (rd := rd1) (nd := n) (rs := kk) (rv := rv) (sk := I 15) hd (by rw [q1 55 (by decide), G2 55 (by decide)]; exact v4) (by rw [q1 55 (by decide), G2 55 (by decide)]; exact v5) v6 (by rw [r46 22 (by decide)]; exact v2) (by rw [r46 1 (by decide)]; exact d2) hn h0 (fun i hi => by
        obtain ⟨k, hk, e⟩ := cl i hi
        exact ⟨k, hk, by show I1 60 (6 + i) = nI k; rw [← rV_lt (I1 60) (show 6 + i < 39 by omega), q3, hl i (by omega)]; exact e⟩) (fun i hi => by rw [q1 48 (by decide), G2 48 (by decide)]; exact sk i hi)
      rw [hst, q3] at a3
      have a3 : aF d 225 [.ref 46, .ref 60] (g, I1, J1, aP1 sl rd1 56) = some (some (some (.int (nI (wnR st n v j)))), (g, I2, J1, aP1 sl rd2 56)) := a3
      have q1' : Fr [46, 57, 60] Ic I2 := Fr_t q1 (Fr_w a1 (by decide))
      have q2' : F46 [13, 15, 16, 17, 18, 23] Ic I2 := F46_t q2 (F46_w a2 (by decide))
      have r46' : ∀ j, j ∉ [13, 15, 16, 17, 18, 23] → I2 46 j = I 46 j := fun j hj => by rw [q2' j hj, G2 46 (by decide)]
      have q3' : rV (I2 60) = vsR st n v j := by rw [a1 60 (by decide)]; exact q3
      obtain ⟨I3, rd3, g1, g2, g3, g4⟩ := f224s (d := d) (g := g) (I := I2) (J := J1) (sl := sl) (rd := rd2) (nd := n) (rs := kk) (rv := rv) (sk := I 15) (st := st) (v := v) (j := j) hd (by rw [q1' 55 (by decide), G2 55 (by decide)]; exact v4) (by rw [q1' 55 (by decide), G2 55 (by decide)]; exact v5) v6 (by rw [r46' 22 (by decide)]; exact v2) (by rw [r46' 1 (by decide)]; exact d2) hn h0 hst.symm cl (fun i hi => by rw [q1' 48 (by decide), G2 48 (by decide)]; exact sk i hi) q3'
      have q1'' : Fr [46, 57, 60] Ic I3 := Fr_t q1' g1
      have q2'' : F46 [13, 15, 16, 17, 18, 23] Ic I3 := F46_t q2' (F46_w g2 (by decide))
      have hc : I2 60 (6 + wnR st n v j) = nI k := by rw [← k1, ← q3', rV_lt _ (by omega)]
      have hB : isB st n v j = decide (nI k = 0) := by unfold isB; rw [k1]
      have b1 := B1 j
      have b2 := B2 j
      have b3 := B3 j
      have b4 := B4 j
      have b5 := B5 j
      have j1 : joR st n v (I 14 11) (j + 1) = joR st n v (I 14 11) j + (jn (vsR st n v (j + 1)) (I 14 11)).toNat := rfl
      rw [b248_58, if_neg (nI_ge (by omega) (by omega)), a3]
      simp only [aBi]
      rw [b248_78]
      simp (disch := omega) only [hc, g4, aBi, aBv, aBl, nI_1, nIle_t, nIle_f, nIlt_t, nIlt_f, nIeq_t, nIeq_f, nIneg, nI_clamp, nat_le_f, nat_le_t, nat_lt_f, nat_lt_t, or_self, or_false, false_or, if_true, if_false, ↓reduceIte, Int32.or_zero, Int32.add_zero, nIm2, nIm3, nIm4, nIp2, nIp4, nIp6, nIp8, nIp14, nIp16, nIp22, nIp24, nIp30, nIq2, nIq3, nIq4, hasI_0, aU_s, aU_i, aU_r, aU_u]
      have e8 := e228 I3 rd3 _ g3 (by rw [q2'' 8 (by decide), G2 46 (by decide)])
      have m1 : ∀ x y : Nat, x ≤ 200 → y ≤ 200 → (if nI x < nI y then nI y else nI x) = nI (if x < y then y else x) := by
        intro x y hx hy
        by_cases h : x < y
        · rw [if_pos h, if_pos (nI_lt h (by omega))]
        · rw [if_neg h, if_neg (nI_nlt (by omega) (by omega))]
      rcases (by omega : k = 0 ∨ k = 1) with rfl | rfl
      · have hB : isB st n v j = true := by rw [hB]; rfl
        have x1 : blR st n v (j + 1) = blR st n v j + 1 := if_pos hB
        have x2 : biR st n v (j + 1) = biR st n v j + 1 := if_pos hB
        have x3 : giR st n v (j + 1) = 0 := if_pos hB
        have x4 : mgR st n v (j + 1) = mgR st n v j := by
          show (if mgR st n v j < giR st n v (j + 1) then giR st n v (j + 1) else mgR st n v j) = _
          rw [x3, if_neg (Nat.not_lt_zero _)]
        have x5 : (if nI (mbR st n v j) < nI (biR st n v (j + 1)) then nI (biR st n v (j + 1)) else nI (mbR st n v j)) = nI (mbR st n v (j + 1)) := m1 _ _ (by omega) (by omega)
        have go : aE d 248 90 [.ref 46, .int (nI N), .int (nI (blR st n v j)), .int (nI (joR st n v (I 14 11) j)), .int run, .int last, .int (nI (mbR st n v j)), .int (nI (mgR st n v j)), .int (nI j), .int (nI 0)] [.int (nI (wnR st n v j))] (g, I3, J1, aP1 sl rd3 56) = aE d 248 58 [.ref 46, .int (nI N), .int (nI (blR st n v (j + 1))), .int (nI (joR st n v (I 14 11) (j + 1))), .int (nI (biR st n v (j + 1))), .int 0, .int (nI (mbR st n v (j + 1))), .int (nI (mgR st n v (j + 1))), .int (nI (j + 1)), .int (nI 0)] [] (g, I3, J1, aP1 sl rd3 56) := by
          have y : ∀ r : Int32, r = nI (biR st n v (j + 1)) → aE d 248 134 [.ref 46, .int (nI N), .int (nI (blR st n v j) + 1), .int (nI (joR st n v (I 14 11) j)), .int r, .int (nI 0), .int (nI (mbR st n v j)), .int (nI (mgR st n v j)), .int (nI j), .int (nI 0)] [.int (tI (jn (vsR st n v (j + 1)) (I 14 11))), .int (nI (joR st n v (I 14 11) j))] (g, I3, J1, aP1 sl rd3 56) = aE d 248 58 [.ref 46, .int (nI N), .int (nI (blR st n v (j + 1))), .int (nI (joR st n v (I 14 11) (j + 1))), .int (nI (biR st n v (j + 1))), .int 0, .int (nI (mbR st n v (j + 1))), .int (nI (mgR st n v (j + 1))), .int (nI (j + 1)), .int (nI 0)] [] (g, I3, J1, aP1 sl rd3 56) := by
            intro r hr
            rw [b248_134, hr]
            simp only [nI_00, show (nI 0 = (1 : Int32)) = False from eq_false (by decide), if_true, if_false]
            rw [ifT _ (fun z => aE d 248 58 [.ref 46, .int (nI N), .int (nI (blR st n v j) + 1), .int z, .int (nI (biR st n v (j + 1))), .int (nI 0), _, _, _, _] [] (g, I3, J1, aP1 sl rd3 56)), tI_n, nI_add, ← j1, nI_1, nI_1, ← x1, x5, ← x4]
            rfl
          rw [b248_90]
          by_cases h : nI 0 = last
          · rw [if_pos h, if_pos (show nI 0 = (0 : Int32) from rfl), e8]
            simp only [aBi]
            refine y _ ?_
            rcases hQ with ⟨w1, _⟩ | ⟨_, w2, _⟩ | ⟨w1, _⟩
            · rw [← h] at w1; exact absurd w1 (by decide)
            · rw [w2, x2, nI_1]
            · rw [← h] at w1; exact absurd w1 (by decide)
          · rw [if_neg h, if_pos (show nI 0 = (0 : Int32) from rfl), e8]
            simp only [aBi]
            refine y _ ?_
            rcases hQ with ⟨_, w2, _⟩ | ⟨w1, _⟩ | ⟨_, _, w2⟩
            · rw [x2, w2]; rfl
            · exact absurd w1.symm h
            · rw [x2, w2]; rfl
        rw [go]
        exact ih (j + 1) I3 rd3 _ _ _ (by omega) q1'' q2'' g3 (Or.inr (Or.inl ⟨rfl, rfl, x3⟩))
      · have hB : ¬ isB st n v j = true := by rw [hB]; decide
        have x1 : blR st n v (j + 1) = blR st n v j := if_neg hB
        have x2 : biR st n v (j + 1) = 0 := if_neg hB
        have x3 : giR st n v (j + 1) = giR st n v j + 1 := if_neg hB
        have x4 : mbR st n v (j + 1) = mbR st n v j := by
          show (if mbR st n v j < biR st n v (j + 1) then biR st n v (j + 1) else mbR st n v j) = _
          rw [x2, if_neg (Nat.not_lt_zero _)]
        have x5 : (if nI (mgR st n v j) < nI (giR st n v (j + 1)) then nI (giR st n v (j + 1)) else nI (mgR st n v j)) = nI (mgR st n v (j + 1)) := m1 _ _ (by omega) (by omega)
        have go : aE d 248 90 [.ref 46, .int (nI N), .int (nI (blR st n v j)), .int (nI (joR st n v (I 14 11) j)), .int run, .int last, .int (nI (mbR st n v j)), .int (nI (mgR st n v j)), .int (nI j), .int (nI 1)] [.int (nI (wnR st n v j))] (g, I3, J1, aP1 sl rd3 56) = aE d 248 58 [.ref 46, .int (nI N), .int (nI (blR st n v (j + 1))), .int (nI (joR st n v (I 14 11) (j + 1))), .int (nI (giR st n v (j + 1))), .int 1, .int (nI (mbR st n v (j + 1))), .int (nI (mgR st n v (j + 1))), .int (nI (j + 1)), .int (nI 1)] [] (g, I3, J1, aP1 sl rd3 56) := by
          have y : ∀ r : Int32, r = nI (giR st n v (j + 1)) → aE d 248 134 [.ref 46, .int (nI N), .int (nI (blR st n v j) + 0), .int (nI (joR st n v (I 14 11) j)), .int r, .int (nI 1), .int (nI (mbR st n v j)), .int (nI (mgR st n v j)), .int (nI j), .int (nI 1)] [.int (tI (jn (vsR st n v (j + 1)) (I 14 11))), .int (nI (joR st n v (I 14 11) j))] (g, I3, J1, aP1 sl rd3 56) = aE d 248 58 [.ref 46, .int (nI N), .int (nI (blR st n v (j + 1))), .int (nI (joR st n v (I 14 11) (j + 1))), .int (nI (giR st n v (j + 1))), .int 1, .int (nI (mbR st n v (j + 1))), .int (nI (mgR st n v (j + 1))), .int (nI (j + 1)), .int (nI 1)] [] (g, I3, J1, aP1 sl rd3 56) := by
            intro r hr
            rw [b248_134, hr]
            simp only [nI_10, show (nI 1 = (1 : Int32)) = True from eq_true rfl, if_true, if_false]
            rw [ifT _ (fun z => aE d 248 58 [.ref 46, .int (nI N), .int (nI (blR st n v j) + 0), .int z, .int (nI (giR st n v (j + 1))), .int (nI 1), _, _, _, _] [] (g, I3, J1, aP1 sl rd3 56)), tI_n, nI_add, ← j1, nI_1, Int32.add_zero, ← x1, x5, ← x4]
            rfl
          rw [b248_90]
          by_cases h : nI 1 = last
          · rw [if_pos h, if_neg (show ¬ nI 1 = (0 : Int32) from by decide), e8]
            simp only [aBi]
            refine y _ ?_
            rcases hQ with ⟨w1, _⟩ | ⟨w1, _⟩ | ⟨_, w2, _⟩
            · rw [← h] at w1; exact absurd w1 (by decide)
            · rw [← h] at w1; exact absurd w1 (by decide)
            · rw [w2, x3, nI_1]
          · rw [if_neg h, if_neg (show ¬ nI 1 = (0 : Int32) from by decide), e8]
            simp only [aBi]
            refine y _ ?_
            rcases hQ with ⟨_, _, w2⟩ | ⟨_, _, w2⟩ | ⟨w1, _⟩
            · rw [x3, w2]; rfl
            · rw [x3, w2]; rfl
            · exact absurd w1.symm h
        rw [go]
        exact ih (j + 1) I3 rd3 _ _ _ (by omega) q1'' q2'' g3 (Or.inr (Or.inr ⟨rfl, rfl, x2⟩))
  obtain ⟨I2, rd2, b1, b2, b3⟩ := lR N 0 (cpR Ic) rd aNo 0 (-1) (by omega) (Fr_w (cpR_F _) (by decide)) (F46_w (cpR_46 _) (by decide)) (by rw [cpR_V, G2 47 (by decide), ← hS.1, hv]; rfl) (Or.inl ⟨rfl, rfl, rfl⟩)
  have e2 : aF d 248 [.ref 46, .int (nI N)] (g, Ic, J1, aP1 sl rd 56) = some (some (some (.int (nI (blR st n v N)))), (g, aU I2 46 12 3, aU (aU (aU J1 53 0 (Int32.toInt64 (nI (mbR st n v N)))) 53 1 (Int32.toInt64 (nI (mgR st n v N)))) 53 2 (Int32.toInt64 (nI (joR st n v (I 14 11) N))), aP1 sl rd2 56)) := by
    show aE d 248 0 [.ref 46, .int (nI N), aNo, aNo, aNo, aNo, aNo, aNo, aNo, aNo] [] _ = _
    rw [b248_0, if_neg (by rw [G2 46 (by decide), d2]; exact nz), f181, inI_t (fun h => hx (Or.inl h)) (fun h => hx (Or.inr h))]
    simp only [aBi]
    rw [b248_22, if_neg (by decide), f222R]
    simp only [aBv]
    rw [b248_39]
    exact b3
  refine tie_R H (Fr_w G2 (by decide)) ?_ ?_ ?_ e1 e2
  · rw [aU_R]; exact Fr_s (Fr_w b1 (by decide)) _ (by decide)
  · intro j hj
    rw [aU_i _ _ (fun e => hj (by rw [e]; decide))]
    exact (F46_w b2 (by decide) : F46 (12 :: scf) _ I2) j hj
  · refine zR_3 ?_ ?_ ?_ ?_ ?_
    · rw [aU_r _ _ (by decide), b1 12 (by decide), ← hIc, aU_s]
    · rw [aU_s]
    · rw [← hJ]; simp (disch := decide) only [aU_r, aU_i, aU_s]
    · rw [← hJ]; simp (disch := decide) only [aU_r, aU_i, aU_s]
    · rw [← hJ]; simp (disch := decide) only [aU_r, aU_i, aU_s]
