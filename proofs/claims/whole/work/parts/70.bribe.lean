/-! who would win; bribe: tied -/
variable {d : Nat} {g : Nat × Nat × Nat} {I : Nat → Nat → Int32} {J : Nat → Nat → Int64} {sl rd rl : Nat} {t n m q : Nat}
/-- in state v the first of n is of club a -/
def wv (st : (Nat → Int32) → Nat → Int32) (n : Nat) (v : Nat → Int32) (a : Int32) : Bool := decide (v (6 + wn (st v) n) = a)
theorem f113 {mm nd : Nat} {rv : (Nat → Int32) → Int32} (hR : cRule (I 34) mm rv) (hs : I 33 1 = nI mm) (h0 : I 14 0 = nI nd) (hn : nd ≤ 8) (hd : 0 < nd) (hc : clubs (fun i => I 24 (8 + i)) nd) (a : Int32) : ∃ I', Fr [35, 36] I I' ∧ aF d 113 [.ref 6, .ref 23, .int a] (g, I, J, aP1 sl rd rl) = some (some (some (.int (tI (wv (sts rv (I 15)) nd (cV (I 24)) a)))), (g, I', J, aP1 sl rd rl)) := by
  obtain ⟨x, y, e⟩ := f66 (d := d) (g := g) (I := I) (J := J) (sl := sl) (rd := rd) (rl := rl) (nd := nd) hR hs h0 hn hc 0
  rw [fas_wn _ hd hn] at e
  have hw := wn_lt (sts rv (I 15) (cV (I 24))) hd
  refine ⟨aR (aR I 35 x) 36 y, Fr_s (Fr_s (Fr_r _ _) x (by decide)) y (by decide), ?_⟩
  show aE d 113 0 [.ref 6, .ref 23, .int a, aNo] [] _ = _
  rw [b113_0, e]
  simp only [aBi]
  rw [b113_13, if_neg (of_eq_false (nIm1 (by omega))), f68_23 (by omega)]
  simp only [aBi]
  rw [b113_24, aR_r _ _ (by decide), aR_r _ _ (by decide)]
  unfold wv
  rw [← cV_l (I 24) (show wn (sts rv (I 15) (cV (I 24))) nd < 8 by omega)]
  by_cases h : cV (I 24) (6 + wn (sts rv (I 15) (cV (I 24))) nd) = a
  · rw [if_pos h, decide_eq_true h]; rfl
  · rw [if_neg h, decide_eq_false h]; rfl
theorem f113t {mm nd : Nat} {rv : (Nat → Int32) → Int32} (hR : cRule (I 34) mm rv) (hs : I 33 1 = nI mm) (h0 : I 14 0 = nI nd) (hn : nd ≤ 8) (hd : 0 < nd) (hc : clubs (fun i => I 28 (8 + i)) nd) (a : Int32) : ∃ I', Fr [35, 36] I I' ∧ aF d 113 [.ref 6, .ref 27, .int a] (g, I, J, aP1 sl rd rl) = some (some (some (.int (tI (wv (sts rv (I 15)) nd (cV (I 28)) a)))), (g, I', J, aP1 sl rd rl)) := by
  obtain ⟨x, y, e⟩ := f66t (d := d) (g := g) (I := I) (J := J) (sl := sl) (rd := rd) (rl := rl) (nd := nd) hR hs h0 hn hc 0
  rw [fas_wn _ hd hn] at e
  have hw := wn_lt (sts rv (I 15) (cV (I 28))) hd
  refine ⟨aR (aR I 35 x) 36 y, Fr_s (Fr_s (Fr_r _ _) x (by decide)) y (by decide), ?_⟩
  show aE d 113 0 [.ref 6, .ref 27, .int a, aNo] [] _ = _
  rw [b113_0_2, e]
  simp only [aBi]
  rw [b113_13_2, if_neg (of_eq_false (nIm1 (by omega))), f68_27 (by omega)]
  simp only [aBi]
  rw [b113_24, aR_r _ _ (by decide), aR_r _ _ (by decide)]
  unfold wv
  rw [← cV_l (I 28) (show wn (sts rv (I 15) (cV (I 28))) nd < 8 by omega)]
  by_cases h : cV (I 28) (6 + wn (sts rv (I 15) (cV (I 28))) nd) = a
  · rw [if_pos h, decide_eq_true h]; rfl
  · rw [if_neg h, decide_eq_false h]; rfl
theorem f113_0 {mm : Nat} {rv : (Nat → Int32) → Int32} (hR : cRule (I 34) mm rv) (hs : I 33 1 = nI mm) (h0 : I 14 0 = nI 0) (a : Int32) : ∃ I', Fr [35, 36] I I' ∧ aF d 113 [.ref 6, .ref 23, .int a] (g, I, J, aP1 sl rd rl) = some (some (some (.int 0)), (g, I', J, aP1 sl rd rl)) := by
  obtain ⟨x, y, e⟩ := f66 (d := d) (g := g) (I := I) (J := J) (sl := sl) (rd := rd) (rl := rl) (nd := 0) hR hs h0 (by decide) (fun i hi => by omega) 0
  have e : aF d 66 [.ref 33, .ref 14, .ref 23, .int 0] (g, I, J, aP1 sl rd rl) = some (some (some (.int (-1))), (g, aR (aR I 35 x) 36 y, J, aP1 sl rd rl)) := e
  refine ⟨aR (aR I 35 x) 36 y, Fr_s (Fr_s (Fr_r _ _) x (by decide)) y (by decide), ?_⟩
  show aE d 113 0 [.ref 6, .ref 23, .int a, aNo] [] _ = _
  rw [b113_0, e]
  simp only [aBi]
  rw [b113_13, if_pos rfl]
theorem f251 {nd rs : Nat} {rv : (Nat → Int32) → Int32} {sk : Nat → Int32} (hd : 41 ≤ d) (hV : rRule (I 55) rs rv) (hB : byR (I 55)) (hC : ∀ t t' : Nat → Int32, (∀ k, k < 8 → t k = t' k) → rv t = rv t') (hs : I 46 22 = nI rs) (hN : I 46 1 = nI nd) (hn : nd ≤ 8) (h0 : 0 < nd) (hc : clubs (fun i => I 47 (6 + i)) nd) (hsk : ∀ i, i < nd → I 48 i = sk i) (a : Int32) : ∃ I' rd', Fr [46, 57] I I' ∧ F46 [15, 16, 17, 18, 23] I I' ∧ aF d 251 [.ref 46, .ref 47, .int a] (g, I, J, aP1 sl rd 56) = some (some (some (.int (tI (wv (sts rv sk) nd (rV (I 47)) a)))), (g, I', J, aP1 sl rd' 56)) := by
  obtain ⟨I1, rd1, a1, a2, a3⟩ := f225 (d := d) (g := g) (I := I) (J := J) (sl := sl) (rd := rd) hd hV hB hC hs hN hn h0 hc hsk
  have hw := wn_lt (sts rv sk (rV (I 47))) h0
  refine ⟨I1, rd1, a1, a2, ?_⟩
  show aE d 251 0 [.ref 46, .ref 47, .int a] [] _ = _
  rw [b251_0, a3]
  simp only [aBi]
  rw [b251_8]
  simp (disch := omega) only [a1 47 (by decide), aBi, aBv, aBl, nI_1, nIle_t, nIle_f, nIlt_t, nIlt_f, nIeq_t, nIeq_f, nIneg, nI_clamp, nat_le_f, nat_le_t, nat_lt_f, nat_lt_t, or_self, or_false, false_or, if_true, if_false, ↓reduceIte, Int32.or_zero, Int32.add_zero, nIm2, nIm3, nIm4, nIp2, nIp4, nIp6, nIp8, nIp14, nIp16, nIp22, nIp24, nIp30, nIq2, nIq3, nIq4, hasI_0, aU_s, aU_i, aU_r, aU_u]
  unfold wv
  rw [← rV_lt (I 47) (show 6 + wn (sts rv sk (rV (I 47))) nd < 39 by omega)]
  by_cases h : rV (I 47) (6 + wn (sts rv sk (rV (I 47))) nd) = a
  · rw [if_pos h, decide_eq_true h]; rfl
  · rw [if_neg h, decide_eq_false h]; rfl
theorem f251t {nd rs : Nat} {rv : (Nat → Int32) → Int32} {sk : Nat → Int32} (hd : 41 ≤ d) (hV : rRule (I 55) rs rv) (hB : byR (I 55)) (hC : ∀ t t' : Nat → Int32, (∀ k, k < 8 → t k = t' k) → rv t = rv t') (hs : I 46 22 = nI rs) (hN : I 46 1 = nI nd) (hn : nd ≤ 8) (h0 : 0 < nd) (hc : clubs (fun i => I 60 (6 + i)) nd) (hsk : ∀ i, i < nd → I 48 i = sk i) (a : Int32) : ∃ I' rd', Fr [46, 57] I I' ∧ F46 [15, 16, 17, 18, 23] I I' ∧ aF d 251 [.ref 46, .ref 60, .int a] (g, I, J, aP1 sl rd 56) = some (some (some (.int (tI (wv (sts rv sk) nd (rV (I 60)) a)))), (g, I', J, aP1 sl rd' 56)) := by
  obtain ⟨I1, rd1, a1, a2, a3⟩ := f225t (d := d) (g := g) (I := I) (J := J) (sl := sl) (rd := rd) hd hV hB hC hs hN hn h0 hc hsk
  have hw := wn_lt (sts rv sk (rV (I 60))) h0
  refine ⟨I1, rd1, a1, a2, ?_⟩
  show aE d 251 0 [.ref 46, .ref 60, .int a] [] _ = _
  rw [b251_0_2, a3]
  simp only [aBi]
  rw [b251_8_2]
  simp (disch := omega) only [a1 60 (by decide), aBi, aBv, aBl, nI_1, nIle_t, nIle_f, nIlt_t, nIlt_f, nIeq_t, nIeq_f, nIneg, nI_clamp, nat_le_f, nat_le_t, nat_lt_f, nat_lt_t, or_self, or_false, false_or, if_true, if_false, ↓reduceIte, Int32.or_zero, Int32.add_zero, nIm2, nIm3, nIm4, nIp2, nIp4, nIp6, nIp8, nIp14, nIp16, nIp22, nIp24, nIp30, nIq2, nIq3, nIq4, hasI_0, aU_s, aU_i, aU_r, aU_u]
  unfold wv
  rw [← rV_lt (I 60) (show 6 + wn (sts rv sk (rV (I 60))) nd < 39 by omega)]
  by_cases h : rV (I 60) (6 + wn (sts rv sk (rV (I 60))) nd) = a
  · rw [if_pos h, decide_eq_true h]; rfl
  · rw [if_neg h, decide_eq_false h]; rfl
def br1 (st : (Nat → Int32) → Nat → Int32) (n : Nat) (V : Nat → Int32) (c : Nat) (pr : Nat → Int32) (j : Nat) (b : Int32) : Int32 :=
  if ¬ V (6 + j) = nI c ∧ pr j ≤ V c ∧ (b = -1 ∨ pr j < pr b.toNatClampNeg) ∧ wv st n (rBuy V c j (pr j)) (nI c) = true then nI j else b
theorem br1_ix {st : (Nat → Int32) → Nat → Int32} {n : Nat} {V : Nat → Int32} {c : Nat} {pr : Nat → Int32} {j : Nat} {b : Int32} (hj : j < n) (hb : b = -1 ∨ ∃ i, i < n ∧ b = nI i) : br1 st n V c pr j b = -1 ∨ ∃ i, i < n ∧ br1 st n V c pr j b = nI i := by
  unfold br1
  split
  · exact Or.inr ⟨j, hj, rfl⟩
  · exact hb
theorem fo_1 {α : Type} (f : Nat → α → α) (m i : Nat) (a : α) : fo f (m + 1) i a = fo f m (i + 1) (f i a) := rfl
theorem br_ix {st : (Nat → Int32) → Nat → Int32} {n : Nat} {V : Nat → Int32} {c : Nat} {pr : Nat → Int32} : ∀ (k j : Nat) (b : Int32), j + k = n → (b = -1 ∨ ∃ i, i < n ∧ b = nI i) → (fo (br1 st n V c pr) k j b = -1 ∨ ∃ i, i < n ∧ fo (br1 st n V c pr) k j b = nI i) := by
  intro k
  induction k with
  | zero => intro j b _ hb; exact hb
  | succ k ih => intro j b hj hb; rw [fo_1]; exact ih (j + 1) _ (by omega) (br1_ix (by omega) hb)
theorem tie_bribe (hd : 41 ≤ d) (H : zInv t n m q I J) (a : Int32) : tie d 112 250 [.int a] t g I J sl rd := by
  obtain ⟨hn, d1, d2, -⟩ := H.2.2.1
  have hS := H.2.2.2.2.2.2.1
  obtain ⟨mm, kk, rv, v1, v2, v3, v4, v5, v6⟩ := zV_get H
  have sk := zD_s H
  rcases isC_ix a with ha | ⟨c, hc, rfl⟩
  · refine tie_0 (rd2 := rd) (v := -1) H (Fr_r _ _) (th_F _) (th_46 _) ?_ ?_
    · show aE d 112 0 [.ref 6, .int a, aNo, aNo, aNo] [] _ = _
      rw [b112_0, f75]
      simp only [aBi]
      rw [b112_4, if_pos ha]
    · show aE d 250 0 [.ref 46, .int a, aNo, aNo] [] _ = _
      rw [b250_0, f213]
      simp only [aBi]
      rw [b250_9, if_pos ha]
  by_cases hn0 : n = 0
  · subst hn0
    obtain ⟨I1, f1, f2⟩ := f113_0 (d := d) (g := g) (I := I) (J := J) (sl := sl) (rd := rd) (rl := 56) v3 v1 d1 (nI c)
    refine tie_0 (rd2 := rd) (v := -2) H (Fr_w f1 (by decide)) (th_F _) (th_46 _) ?_ ?_
    · show aE d 112 0 [.ref 6, .int (nI c), aNo, aNo, aNo] [] _ = _
      rw [b112_0, f75]
      simp only [aBi]
      rw [b112_4, isC_n hc, if_neg (by decide), f2]
      simp only [aBi]
      rw [b112_18, if_pos rfl, b112_37, if_pos (show I1 14 0 ≤ 0 from by rw [f1 14 (by decide), d1]; decide), if_pos rfl]
    · show aE d 250 0 [.ref 46, .int (nI c), aNo, aNo] [] _ = _
      rw [b250_0, f213]
      simp only [aBi]
      rw [b250_9, isC_n hc, if_neg (by decide), if_pos (show aU I1 46 13 0 46 1 = 0 from by rw [aU_i _ _ (by decide), f1 46 (by decide)]; exact d2)]
  have h0 : 0 < n := by omega
  have nz := nIz h0 (by omega)
  generalize hst : sts rv (I 15) = st
  have hV : ∀ i, i < 39 → rV (I 47) i = I 47 i := fun i hi => rV_lt _ hi
  -- the class's look at a state
  have W : ∀ (I1 : Nat → Nat → Int32) (h : Nat → Int32), Fr [28, 35, 36] I I1 → okS n q (I1 28) h → ∃ I', Fr [28, 35, 36] I I' ∧ aF d 113 [.ref 6, .ref 27, .int (nI c)] (g, I1, J, aP1 sl rd 56) = some (some (some (.int (tI (wv st n (rV h) (nI c))))), (g, I', J, aP1 sl rd 56)) := by
    intro I1 h q1 q2
    obtain ⟨I', f1, f2⟩ := f113t (d := d) (g := g) (I := I1) (J := J) (sl := sl) (rd := rd) (rl := 56) (nd := n) (mm := mm) (rv := rv) (by rw [q1 34 (by decide)]; exact v3) (by rw [q1 33 (by decide)]; exact v1) (by rw [q1 14 (by decide)]; exact d1) hn h0 (okS_cl q2 hn) (nI c)
    rw [q1 15 (by decide), hst, q2.1] at f2
    exact ⟨I', Fr_t q1 (Fr_w f1 (by decide)), f2⟩
  have Wr : ∀ (Ic I1 : Nat → Nat → Int32) (J1 : Nat → Nat → Int64) (rd1 : Nat) (f : Nat → Int32), Fr [12, 28, 35, 36] I Ic → Fr [46, 57, 60] Ic I1 → F46 [13, 15, 16, 17, 18, 23] Ic I1 → okS n q f (I1 60) → ∃ I' rd', Fr [46, 57, 60] Ic I' ∧ F46 [13, 15, 16, 17, 18, 23] Ic I' ∧ aF d 251 [.ref 46, .ref 60, .int (nI c)] (g, I1, J1, aP1 sl rd1 56) = some (some (some (.int (tI (wv st n (rV (I1 60)) (nI c))))), (g, I', J1, aP1 sl rd' 56)) := by
    intro Ic I1 J1 rd1 f h1 q1 q2 q3
    have r46 : ∀ j, j ∉ [13, 15, 16, 17, 18, 23] → I1 46 j = I 46 j := fun j hj => by rw [q2 j hj, h1 46 (by decide)]
    obtain ⟨I', rd', a1, a2, a3⟩ := f251t (d := d) (g := g) (I := I1) (J := J1) (sl := sl) (rd := rd1) (nd := n) (rs := kk) (rv := rv) (sk := I 15) hd (by rw [q1 55 (by decide), h1 55 (by decide)]; exact v4) (by rw [q1 55 (by decide), h1 55 (by decide)]; exact v5) v6 (by rw [r46 22 (by decide)]; exact v2) (by rw [r46 1 (by decide)]; exact d2) hn h0 (okS_clr q3 hn) (fun i hi => by rw [q1 48 (by decide), h1 48 (by decide)]; exact sk i hi) (nI c)
    rw [hst] at a3
    exact ⟨I', rd', Fr_t q1 (Fr_w a1 (by decide)), F46_t q2 (F46_w a2 (by decide)), a3⟩
  -- as it is
  obtain ⟨I1, f1, f2⟩ := f113 (d := d) (g := g) (I := I) (J := J) (sl := sl) (rd := rd) (rl := 56) (nd := n) (mm := mm) (rv := rv) v3 v1 d1 hn h0 (okS_cl hS hn) (nI c)
  rw [hst, hS.1] at f2
  have f1' : Fr [28, 35, 36] I I1 := Fr_w f1 (by decide)
  have R0 : ∀ (Ic : Nat → Nat → Int32) (J1 : Nat → Nat → Int64), Fr [12, 28, 35, 36] I Ic → ∃ I' rd', Fr [46, 57, 60] Ic I' ∧ F46 [13, 15, 16, 17, 18, 23] Ic I' ∧ aF d 250 [.ref 46, .int (nI c)] (g, Ic, J1, aP1 sl rd 56) = aE d 250 35 [.ref 46, .int (nI c), .int (-1), aNo] [.int (tI (wv st n (rV (I 47)) (nI c)))] (g, I', J1, aP1 sl rd' 56) := by
    intro Ic J1 h1
    obtain ⟨I', rd', a1, a2, a3⟩ := f251 (d := d) (g := g) (I := aU Ic 46 13 0) (J := J1) (sl := sl) (rd := rd) (nd := n) (rs := kk) (rv := rv) (sk := I 15) hd (by rw [aU_r _ _ (by decide), h1 55 (by decide)]; exact v4) (by rw [aU_r _ _ (by decide), h1 55 (by decide)]; exact v5) v6 (by rw [aU_i _ _ (by decide), h1 46 (by decide)]; exact v2) (by rw [aU_i _ _ (by decide), h1 46 (by decide)]; exact d2) hn h0 (by rw [aU_r _ _ (by decide), h1 47 (by decide)]; exact okS_clr hS hn) (fun i hi => by rw [aU_r _ _ (by decide), h1 48 (by decide)]; exact sk i hi) (nI c)
    rw [hst, aU_r _ _ (by decide), h1 47 (by decide)] at a3
    refine ⟨I', rd', ?_, ?_, ?_⟩
    · refine Fr_t ?_ (Fr_w a1 (by decide))
      rw [aU_R]; exact Fr_s (Fr_r _ _) _ (by decide)
    · refine F46_t (fun j hj => ?_) (F46_w a2 (by decide))
      have hj : j ≠ 13 ∧ j ≠ 15 ∧ j ≠ 16 ∧ j ≠ 17 ∧ j ≠ 18 ∧ j ≠ 23 := by simpa using hj
      rw [aU_i _ _ hj.1]
    · show aE d 250 0 [.ref 46, .int (nI c), aNo, aNo] [] _ = _
      rw [b250_0, f213]
      simp only [aBi]
      rw [b250_9, isC_n hc, if_neg (by decide), if_neg (by rw [aU_i _ _ (by decide), h1 46 (by decide), d2]; exact nz), a3]
      simp only [aBi]
  have C0 : aF d 112 [.ref 6, .int (nI c)] (g, I, J, aP1 sl rd 56) = aE d 112 18 [.ref 6, .int (nI c), aNo, aNo, aNo] [.int (tI (wv st n (rV (I 47)) (nI c)))] (g, I1, J, aP1 sl rd 56) := by
    show aE d 112 0 [.ref 6, .int (nI c), aNo, aNo, aNo] [] _ = _
    rw [b112_0, f75]
    simp only [aBi]
    rw [b112_4, isC_n hc, if_neg (by decide), f2]
    simp only [aBi]
  by_cases hw : wv st n (rV (I 47)) (nI c) = true
  · obtain ⟨I2, rd2, b1, b2, b3⟩ := R0 (aU I1 12 1 1) (aU J 13 0 (-1)) (by rw [aU_R]; exact Fr_s (Fr_w f1 (by decide)) _ (by decide))
    refine tie_R (rd2 := rd2) (v := 0) (I1 := aU I1 12 1 1) (I2 := aU I2 46 12 1) (J1 := aU J 13 0 (-1)) (J2 := aU (aU J 13 0 (-1)) 53 0 (-1)) H (by rw [aU_R]; exact Fr_s (Fr_w f1 (by decide)) _ (by decide)) ?_ ?_ ?_ ?_ ?_
    · rw [aU_R I2]; exact Fr_s (Fr_w b1 (by decide)) _ (by decide)
    · intro j hj
      rw [aU_i _ _ (fun e => hj (by rw [e]; decide))]
      exact (F46_w b2 (by decide) : F46 (12 :: scf) _ I2) j hj
    · refine zR_1 ?_ (aU_s _ _ _ _) ?_
      · rw [aU_r _ _ (by decide), b1 12 (by decide), aU_s]
      · simp (disch := decide) only [aU_r, aU_s]
    · refine C0.trans ?_
      rw [hw, b112_18, if_neg (by decide), f83']
      simp only [aBv]
      rw [b112_31]
    · refine b3.trans ?_
      rw [hw, b250_35, if_neg (by decide), show Int32.toInt64 (-1) = -1 by decide, tell0]
      simp only [aBv]
      rw [b250_145, if_pos rfl]
  have hw : wv st n (rV (I 47)) (nI c) = false := by simpa using hw
  rw [hw, b112_18, if_pos tI_f] at C0
  have P := fun {i : Nat} (hi : i < n) => zD_p H hi
  -- the class's loop
  have lC : ∀ (k j : Nat) (b : Int32) (I1 : Nat → Nat → Int32) (w4 : Value), j + k = n → (b = -1 ∨ ∃ i, i < n ∧ b = nI i) → Fr [28, 35, 36] I I1 → ∃ I' w', Fr [28, 35, 36] I I' ∧ aE d 112 37 [.ref 6, .int (nI c), .int b, .int (nI j), w4] [] (g, I1, J, aP1 sl rd 56) = aE d 112 37 [.ref 6, .int (nI c), .int (fo (br1 st n (rV (I 47)) c (I 16)) k j b), .int (nI n), w'] [] (g, I', J, aP1 sl rd 56) := by
    intro k
    induction k with
    | zero => intro j b I1 w4 hj hb q1; obtain rfl : j = n := by omega
              exact ⟨I1, w4, q1, rfl⟩
    | succ k ih =>
      intro j b I1 w4 hj hb q1
      rw [fo_1]
      have hjn : j < n := by omega
      obtain ⟨p1, p, p2, p3⟩ := P hjn
      have T : Fr [28, 35, 36] I (aR I1 28 (cpB (I1 28) (I1 24) 0 32)) := Fr_s q1 _ (by decide)
      have T28 : ∀ i, i < 32 → aR I1 28 (cpB (I1 28) (I1 24) 0 32) 28 i = I 24 i := fun i hi => by
        rw [aR_s, cpB_in _ _ (by omega) (by omega), q1 24 (by decide)]; rfl
      have TS : okS n q (aR I1 28 (cpB (I1 28) (I1 24) 0 32) 28) (I 47) := okS_congr hS T28 (fun _ _ => rfl)
      generalize hI2 : aR I1 28 (cpB (I1 28) (I1 24) 0 32) = I2 at T T28 TS
      have e0 : aE d 112 37 [.ref 6, .int (nI c), .int b, .int (nI j), w4] [] (g, I1, J, aP1 sl rd 56) = aE d 112 59 [.ref 6, .int (nI c), .int b, .int (nI j), w4] [] (g, I2, J, aP1 sl rd 56) := by
        rw [b112_37, if_neg (by rw [q1 14 (by decide), d1]; exact nI_ge (by omega) (by omega)), f63_28, hI2]
        simp only [aBv]
      rw [e0]
      have e16 : I2 16 = I 16 := T 16 (by decide)
      have e14 : I2 14 = I 14 := T 14 (by decide)
      have v6j : rV (I 47) (6 + j) = I2 28 (8 + j) := by rw [rV_lt _ (by omega), okS_l TS (by omega)]
      have vc : rV (I 47) c = I2 28 c := by rw [rV_lt _ (by omega), okS_c TS (by omega)]
      -- what a purchase comes to
      have buy : ∃ I' w', Fr [28, 35, 36] I I' ∧ aBi (aF d 87 [.ref 27, .ref 14, .int (nI c), .int (nI j)] (g, I2, J, aP1 sl rd 56)) (fun x0 t0 => aE d 112 110 [.ref 6, .int (nI c), .int b, .int (nI j), .int 1] [.int x0] t0) = aE d 112 37 [.ref 6, .int (nI c), .int (if ¬ rV (I 47) (6 + j) = nI c ∧ I 16 j ≤ rV (I 47) c ∧ wv st n (rBuy (rV (I 47)) c j (I 16 j)) (nI c) = true then nI j else b), .int (nI (j + 1)), w'] [] (g, I', J, aP1 sl rd 56) := by
        have f := f87_28 (d := d) (g := g) (I := I2) (J := J) (sl := sl) (rd := rd) (rl := 56) (n := n) (c := c) (i := j) hc hjn hn (by rw [e14]; exact d1)
        rw [e16] at f
        by_cases q2 : I2 28 (8 + j) = nI c
        · rw [if_pos q2] at f
          refine ⟨I2, .int 1, T, ?_⟩
          rw [f]
          simp only [aBi]
          rw [b112_110, if_pos (by decide), nI_1, if_neg (fun h => h.1 (v6j.trans q2))]
        · rw [if_neg q2] at f
          by_cases q3 : I 16 j ≤ I2 28 c
          · rw [if_pos q3] at f
            have S2 : okS n q (cBuy (I2 28) c j (I 16 j)) (rBuy (I 47) c j (I 16 j)) := by
              rw [p3]; exact okS_buy TS hc hjn hn p2 (by rw [← p3]; exact q3)
            obtain ⟨k', _, k1, _⟩ := okS_m S2 hc
            obtain ⟨I3, g1, g2⟩ := W (aR I2 28 (cBuy (I2 28) c j (I 16 j))) (rBuy (I 47) c j (I 16 j)) (Fr_s T _ (by decide)) (by rw [aR_s]; exact S2)
            rw [rBuy_r _ _ hc (by omega)] at g2
            refine ⟨I3, .int 1, g1, ?_⟩
            rw [f]
            simp only [aBi]
            rw [b112_110, k1, if_neg (nI_pos (by omega)), g2]
            simp only [aBi]
            rw [b112_122, nI_1]
            by_cases q4 : wv st n (rBuy (rV (I 47)) c j (I 16 j)) (nI c) = true
            · rw [q4, if_neg (by decide), if_pos ⟨fun h => q2 (v6j.symm.trans h), by rw [vc]; exact q3, rfl⟩]
            · have q4' : wv st n (rBuy (rV (I 47)) c j (I 16 j)) (nI c) = false := by simpa using q4
              rw [q4', if_pos tI_f, if_neg (fun h => absurd h.2.2 (by decide))]
          · rw [if_neg q3] at f
            refine ⟨I2, .int 1, T, ?_⟩
            rw [f]
            simp only [aBi]
            rw [b112_110, if_pos (by decide), nI_1, if_neg (fun h => q3 (by rw [← vc]; exact h.2.1))]
      obtain ⟨I3, w3, g1, g2⟩ := buy
      have fin : ∀ (I4 : Nat → Nat → Int32) (w : Value) (b' : Int32), Fr [28, 35, 36] I I4 → b' = br1 st n (rV (I 47)) c (I 16) j b → ∃ I' w', Fr [28, 35, 36] I I' ∧ aE d 112 37 [.ref 6, .int (nI c), .int b', .int (nI (j + 1)), w] [] (g, I4, J, aP1 sl rd 56) = aE d 112 37 [.ref 6, .int (nI c), .int (fo (br1 st n (rV (I 47)) c (I 16)) k (j + 1) (br1 st n (rV (I 47)) c (I 16) j b)), .int (nI n), w'] [] (g, I', J, aP1 sl rd 56) := by
        intro I4 w b' h1 h2
        rw [h2]
        exact ih (j + 1) _ I4 w (by omega) (br1_ix hjn hb) h1
      rw [b112_59]
      rcases hb with hb | ⟨i, hi, hb⟩
      · rw [if_pos hb, g2]
        refine fin I3 w3 _ g1 ?_
        unfold br1
        by_cases z : ¬ rV (I 47) (6 + j) = nI c ∧ I 16 j ≤ rV (I 47) c ∧ wv st n (rBuy (rV (I 47)) c j (I 16 j)) (nI c) = true
        · rw [if_pos z, if_pos ⟨z.1, z.2.1, Or.inl hb, z.2.2⟩]
        · rw [if_neg z, if_neg (fun h => z ⟨h.1, h.2.1, h.2.2.2⟩)]
      · subst hb
        rw [if_neg (of_eq_false (nIm1 (by omega)))]
        simp (disch := omega) only [e16, aBi, aBv, aBl, nI_1, nIle_t, nIle_f, nIlt_t, nIlt_f, nIeq_t, nIeq_f, nIneg, nI_clamp, nat_le_f, nat_le_t, nat_lt_f, nat_lt_t, or_self, or_false, false_or, if_true, if_false, ↓reduceIte, Int32.or_zero, Int32.add_zero, nIm2, nIm3, nIm4, nIp2, nIp4, nIp6, nIp8, nIp14, nIp16, nIp22, nIp24, nIp30, nIq2, nIq3, nIq4, hasI_0, aU_s, aU_i, aU_r, aU_u]
        by_cases z1 : I 16 i ≤ I 16 j
        · rw [if_pos z1]
          refine fin I2 _ _ T ?_
          unfold br1
          rw [if_neg (fun h => by
            rcases h.2.2.1 with h | h
            · exact absurd h (of_eq_false (nIm1 (by omega)))
            · rw [nI_clamp (by omega), ← nle_lt] at h; exact h z1)]
        · rw [if_neg z1]
          have g2' := g2
          simp only [aBi] at g2'
          rw [g2']
          refine fin I3 w3 _ g1 ?_
          unfold br1
          by_cases z : ¬ rV (I 47) (6 + j) = nI c ∧ I 16 j ≤ rV (I 47) c ∧ wv st n (rBuy (rV (I 47)) c j (I 16 j)) (nI c) = true
          · rw [if_pos z, if_pos ⟨z.1, z.2.1, Or.inr (by rw [nI_clamp (by omega), ← nle_lt]; exact z1), z.2.2⟩]
          · rw [if_neg z, if_neg (fun h => z ⟨h.1, h.2.1, h.2.2.2⟩)]
  -- the reference's
  have lR : ∀ (Ic : Nat → Nat → Int32) (J1 : Nat → Nat → Int64), Fr [12, 28, 35, 36] I Ic → ∀ (k j : Nat) (b : Int32) (I1 : Nat → Nat → Int32) (rd1 : Nat), j + k = n → (b = -1 ∨ ∃ i, i < n ∧ b = nI i) → Fr [46, 57, 60] Ic I1 → F46 [13, 15, 16, 17, 18, 23] Ic I1 → ∃ I' rd', Fr [46, 57, 60] Ic I' ∧ F46 [13, 15, 16, 17, 18, 23] Ic I' ∧ aE d 250 40 [.ref 46, .int (nI c), .int b, .int (nI j)] [] (g, I1, J1, aP1 sl rd1 56) = aE d 250 40 [.ref 46, .int (nI c), .int (fo (br1 st n (rV (I 47)) c (I 16)) k j b), .int (nI n)] [] (g, I', J1, aP1 sl rd' 56) := by
    intro Ic J1 hIc k
    induction k with
    | zero => intro j b I1 rd1 hj hb q1 q2; obtain rfl : j = n := by omega
              exact ⟨I1, rd1, q1, q2, rfl⟩
    | succ k ih =>
      intro j b I1 rd1 hj hb q1 q2
      rw [fo_1]
      have hjn : j < n := by omega
      obtain ⟨p1, p, p2, p3⟩ := P hjn
      have r46 : ∀ j, j ∉ [13, 15, 16, 17, 18, 23] → I1 46 j = I 46 j := fun j hj => by rw [q2 j hj, hIc 46 (by decide)]
      have e47 : I1 47 = I 47 := by rw [q1 47 (by decide), hIc 47 (by decide)]
      have e49 : I1 49 = I 49 := by rw [q1 49 (by decide), hIc 49 (by decide)]
      have v6j : rV (I 47) (6 + j) = I 47 (6 + j) := rV_lt _ (by omega)
      have vc : rV (I 47) c = I 47 c := rV_lt _ (by omega)
      have fin : ∀ (I4 : Nat → Nat → Int32) (rd4 : Nat) (b' : Int32), Fr [46, 57, 60] Ic I4 → F46 [13, 15, 16, 17, 18, 23] Ic I4 → b' = br1 st n (rV (I 47)) c (I 16) j b → ∃ I' rd', Fr [46, 57, 60] Ic I' ∧ F46 [13, 15, 16, 17, 18, 23] Ic I' ∧ aE d 250 40 [.ref 46, .int (nI c), .int b', .int (nI (j + 1))] [] (g, I4, J1, aP1 sl rd4 56) = aE d 250 40 [.ref 46, .int (nI c), .int (fo (br1 st n (rV (I 47)) c (I 16)) k (j + 1) (br1 st n (rV (I 47)) c (I 16) j b)), .int (nI n)] [] (g, I', J1, aP1 sl rd' 56) := by
        intro I4 rd4 b' h1 h2 h3
        rw [h3]
        exact ih (j + 1) _ I4 rd4 (by omega) (br1_ix hjn hb) h1 h2
      have f := f231_47 (d := d) (g := g) (I := I1) (J := J1) (sl := sl) (rd := rd1) (rl := 56) (n := n) (c := c) (i := j) hc hjn hn (by rw [r46 1 (by decide)]; exact d2)
      rw [e47, e49, p1, ← v6j, ← vc] at f
      have skip : ∀ z : Int32, z < 0 → aF d 231 [.ref 46, .ref 47, .int (nI c), .int (nI j)] (g, I1, J1, aP1 sl rd1 56) = some (some (some (.int z)), (g, I1, J1, aP1 sl rd1 56)) → aE d 250 40 [.ref 46, .int (nI c), .int b, .int (nI j)] [] (g, I1, J1, aP1 sl rd1 56) = aE d 250 40 [.ref 46, .int (nI c), .int b, .int (nI (j + 1))] [] (g, I1, J1, aP1 sl rd1 56) := by
        intro z hz hf
        rw [b250_40, if_neg (by rw [r46 1 (by decide), d2]; exact nI_ge (by omega) (by omega)), hf]
        simp only [aBi]
        rw [b250_58, if_pos hz, nI_1]
      by_cases z1 : rV (I 47) (6 + j) = nI c
      · rw [if_pos z1] at f
        rw [skip _ (by decide) f]
        refine fin I1 rd1 b q1 q2 ?_
        unfold br1
        rw [if_neg (fun h => h.1 z1)]
      rw [if_neg z1] at f
      by_cases z2 : I 16 j ≤ rV (I 47) c
      · rw [if_pos z2] at f
        -- it is tried
        have go : ∃ I' rd', Fr [46, 57, 60] Ic I' ∧ F46 [13, 15, 16, 17, 18, 23] Ic I' ∧ aBv (aF d 222 [.ref 47, .ref 60, .int 0] (g, I1, J1, aP1 sl rd1 56)) (fun t0 => aE d 250 96 [.ref 46, .int (nI c), .int b, .int (nI j)] [] t0) = aE d 250 40 [.ref 46, .int (nI c), .int (if wv st n (rBuy (rV (I 47)) c j (I 16 j)) (nI c) = true then nI j else b), .int (nI (j + 1))] [] (g, I', J1, aP1 sl rd' 56) := by
          have f2 := f222_60 (d := d) (g := g) (I := I1) (J := J1) (sl := sl) (rd := rd1) (rl := 56) (o := 0) (by decide)
          have f2 : aF d 222 [.ref 47, .ref 60, .int 0] (g, I1, J1, aP1 sl rd1 56) = _ := f2
          have s60 : ∀ i, i < 39 → cpB (I1 60) (I1 47) 0 39 i = I 47 i := fun i hi => by
            rw [cpB_in _ _ (by omega) (by omega), e47]; rfl
          have S0 : okS n q (I 24) (cpB (I1 60) (I1 47) 0 39) := okS_congr hS (fun _ _ => rfl) s60
          have S2 : okS n q (cBuy (I 24) c j (I 16 j)) (rBuy (cpB (I1 60) (I1 47) 0 39) c j (I 16 j)) := by
            rw [p3]; exact okS_buy S0 hc hjn hn p2 (by rw [← p3, okS_c hS (by omega), ← vc]; exact z2)
          have hr : rV (rBuy (cpB (I1 60) (I1 47) 0 39) c j (I 16 j)) = rBuy (rV (I 47)) c j (I 16 j) := by
            rw [rBuy_r _ _ hc (by omega), rV_congr s60]
          obtain ⟨I3, rd3, g1, g2, g3⟩ := Wr Ic (aR (aR I1 60 (cpB (I1 60) (I1 47) 0 39)) 60 (rBuy (cpB (I1 60) (I1 47) 0 39) c j (I 16 j))) J1 rd1 (cBuy (I 24) c j (I 16 j)) hIc (Fr_s (Fr_s q1 _ (by decide)) _ (by decide)) (fun i hi => by rw [aR_r _ _ (by decide), aR_r _ _ (by decide)]; exact q2 i hi) (by rw [aR_s]; exact S2)
          rw [aR_s, hr] at g3
          refine ⟨I3, rd3, g1, g2, ?_⟩
          rw [f2]
          simp only [aBv]
          rw [b250_96, f232_60 hc (by omega)]
          simp only [aBv]
          rw [b250_106, aR_s, aR_r _ _ (show 49 ≠ 60 by decide), e49, p1, g3]
          simp only [aBi]
          rw [b250_115, nI_1]
          cases wv st n (rBuy (rV (I 47)) c j (I 16 j)) (nI c)
          · rfl
          · rfl
        obtain ⟨I3, rd3, g1, g2, g3⟩ := go
        rw [b250_40, if_neg (by rw [r46 1 (by decide), d2]; exact nI_ge (by omega) (by omega)), f]
        simp only [aBi]
        rw [b250_58, if_neg (by decide)]
        rcases hb with hb' | ⟨i, hi, hb'⟩
        · rw [if_pos hb', g3]
          refine fin I3 rd3 _ g1 g2 ?_
          unfold br1
          by_cases z : wv st n (rBuy (rV (I 47)) c j (I 16 j)) (nI c) = true
          · rw [if_pos z, if_pos ⟨z1, z2, Or.inl hb', z⟩]
          · rw [if_neg z, if_neg (fun h => z h.2.2.2)]
        · subst hb'
          rw [if_neg (of_eq_false (nIm1 (by omega)))]
          have pi := (P hi).1
          simp (disch := omega) only [e49, p1, pi, aBi, aBv, aBl, nI_1, nIle_t, nIle_f, nIlt_t, nIlt_f, nIeq_t, nIeq_f, nIneg, nI_clamp, nat_le_f, nat_le_t, nat_lt_f, nat_lt_t, or_self, or_false, false_or, if_true, if_false, ↓reduceIte, Int32.or_zero, Int32.add_zero, nIm2, nIm3, nIm4, nIp2, nIp4, nIp6, nIp8, nIp14, nIp16, nIp22, nIp24, nIp30, nIq2, nIq3, nIq4, hasI_0, aU_s, aU_i, aU_r, aU_u]
          by_cases z3 : I 16 j < I 16 i
          · rw [if_pos z3]
            have g3' := g3
            simp only [aBv] at g3'
            rw [g3']
            refine fin I3 rd3 _ g1 g2 ?_
            unfold br1
            by_cases z : wv st n (rBuy (rV (I 47)) c j (I 16 j)) (nI c) = true
            · rw [if_pos z, if_pos ⟨z1, z2, Or.inr (by rw [nI_clamp (by omega)]; exact z3), z⟩]
            · rw [if_neg z, if_neg (fun h => z h.2.2.2)]
          · rw [if_neg z3]
            refine fin I1 rd1 _ q1 q2 ?_
            unfold br1
            rw [if_neg (fun h => by
              rcases h.2.2.1 with h | h
              · exact absurd h (of_eq_false (nIm1 (by omega)))
              · rw [nI_clamp (by omega)] at h; exact z3 h)]
      · rw [if_neg z2] at f
        rw [skip _ (by decide) f]
        refine fin I1 rd1 b q1 q2 ?_
        unfold br1
        rw [if_neg (fun h => z2 h.2.1)]
  -- both
  obtain ⟨Ic, wc, c1, c2⟩ := lC n 0 (-1) I1 aNo (by omega) (Or.inl rfl) f1'
  have c2 : aE d 112 37 [.ref 6, .int (nI c), .int (-1), .int 0, aNo] [] (g, I1, J, aP1 sl rd 56) = _ := c2
  have hix := br_ix (n := n) (st := st) (V := rV (I 47)) (c := c) (pr := I 16) n 0 (-1) (by omega) (Or.inl rfl)
  have R1 : ∀ (Id : Nat → Nat → Int32) (J1 : Nat → Nat → Int64), Fr [12, 28, 35, 36] I Id → ∃ I' rd', Fr [46, 57, 60] Id I' ∧ F46 [13, 15, 16, 17, 18, 23] Id I' ∧ aF d 250 [.ref 46, .int (nI c)] (g, Id, J1, aP1 sl rd 56) = aE d 250 40 [.ref 46, .int (nI c), .int (fo (br1 st n (rV (I 47)) c (I 16)) n 0 (-1)), .int (nI n)] [] (g, I', J1, aP1 sl rd' 56) := by
    intro Id J1 h
    obtain ⟨I2, rd2, b1, b2, b3⟩ := R0 Id J1 h
    obtain ⟨I3, rd3, e1, e2, e3⟩ := lR Id J1 h n 0 (-1) I2 rd2 (by omega) (Or.inl rfl) b1 b2
    refine ⟨I3, rd3, e1, e2, ?_⟩
    rw [b3, hw, b250_35, if_pos tI_f]
    exact e3
  generalize fo (br1 st n (rV (I 47)) c (I 16)) n 0 (-1) = B at c2 hix R1
  rcases hix with hB | ⟨i, hi, hB⟩
  · obtain ⟨I3, rd3, e1, e2, e3⟩ := R1 Ic J (Fr_w c1 (by decide))
    subst hB
    refine tie_0 (rd2 := rd3) (v := -2) H (Fr_w c1 (by decide)) (Fr_w e1 (by decide)) (F46_w e2 (by decide)) ?_ (e3.trans ?_)
    · refine C0.trans (c2.trans ?_)
      rw [b112_37, if_pos (by rw [c1 14 (by decide), d1]; exact Int32.le_refl _), if_pos rfl]
    · rw [b250_40, if_pos (by rw [e2 1 (by decide), c1 46 (by decide), d2]; exact Int32.le_refl _), if_pos rfl]
  · subst hB
    obtain ⟨I3, rd3, e1, e2, e3⟩ := R1 (aU Ic 12 1 1) (aU J 13 0 (Int32.toInt64 (nI i))) (by rw [aU_R]; exact Fr_s (Fr_w c1 (by decide)) _ (by decide))
    refine tie_R (v := I 16 i) (I1 := aU Ic 12 1 1) (I2 := aU I3 46 12 1) (J1 := aU J 13 0 (Int32.toInt64 (nI i))) (J2 := aU (aU J 13 0 (Int32.toInt64 (nI i))) 53 0 (Int32.toInt64 (nI i))) (rd2 := rd3) H (by rw [aU_R]; exact Fr_s (Fr_w c1 (by decide)) _ (by decide)) ?_ ?_ ?_ ?_ ?_
    · rw [aU_R I3]; exact Fr_s (Fr_w e1 (by decide)) _ (by decide)
    · intro j hj
      rw [aU_i _ _ (fun e => hj (by rw [e]; decide))]
      exact (F46_w e2 (by decide) : F46 (12 :: scf) _ I3) j hj
    · refine zR_1 ?_ (aU_s _ _ _ _) ?_
      · rw [aU_r _ _ (by decide), e1 12 (by decide), aU_s]
      · simp (disch := decide) only [aU_r, aU_s]
    · refine C0.trans (c2.trans ?_)
      rw [b112_37, if_pos (by rw [c1 14 (by decide), d1]; exact Int32.le_refl _), if_neg (of_eq_false (nIm1 (by omega))), f83']
      simp only [aBv]
      rw [b112_150]
      simp (disch := omega) only [c1 16 (by decide), aBi, aBv, aBl, nI_1, nIle_t, nIle_f, nIlt_t, nIlt_f, nIeq_t, nIeq_f, nIneg, nI_clamp, nat_le_f, nat_le_t, nat_lt_f, nat_lt_t, or_self, or_false, false_or, if_true, if_false, ↓reduceIte, Int32.or_zero, Int32.add_zero, nIm2, nIm3, nIm4, nIp2, nIp4, nIp6, nIp8, nIp14, nIp16, nIp22, nIp24, nIp30, nIq2, nIq3, nIq4, hasI_0, aU_s, aU_i, aU_r, aU_u]
    · refine e3.trans ?_
      rw [b250_40, if_pos (by rw [e2 1 (by decide), aU_r _ _ (by decide), c1 46 (by decide), d2]; exact Int32.le_refl _), if_neg (of_eq_false (nIm1 (by omega))), tell0]
      simp only [aBv]
      rw [b250_145, if_neg (of_eq_false (nIm1 (by omega)))]
      simp (disch := omega) only [e1 49 (by decide), c1 49 (by decide), (P hi).1, aBi, aBv, aBl, nI_1, nIle_t, nIle_f, nIlt_t, nIlt_f, nIeq_t, nIeq_f, nIneg, nI_clamp, nat_le_f, nat_le_t, nat_lt_f, nat_lt_t, or_self, or_false, false_or, if_true, if_false, ↓reduceIte, Int32.or_zero, Int32.add_zero, nIm2, nIm3, nIm4, nIp2, nIp4, nIp6, nIp8, nIp14, nIp16, nIp22, nIp24, nIp30, nIq2, nIq3, nIq4, hasI_0, aU_s, aU_i, aU_r, aU_u]
