section T00
/-! race, joins, ahead: tied -/
variable {d : Nat} {g : Nat × Nat × Nat} {I : Nat → Nat → Int32} {J : Nat → Nat → Int64} {sl rd rl : Nat} {t n m q : Nat}
theorem tie_R {kc km : Nat} {as : List Value} {v : Int32} {I1 I2 : Nat → Nat → Int32} {J1 J2 : Nat → Nat → Int64} {rd2 : Nat} (H : zInv t n m q I J) (h1 : Fr (12 :: scc) I I1) (h2 : Fr scm I1 I2) (h3 : F46 (12 :: scf) I1 I2) (hR : zR (I2 12 1) (I2 46 12) (J2 13) (J2 53)) (e1 : aF d kc (.ref 6 :: as) (g, I, J, aP1 sl rd 56) = some (some (some (.int v)), (g, I1, J1, aP1 sl rd 56))) (e2 : aF d km (.ref 46 :: as) (g, I1, J1, aP1 sl rd 56) = some (some (some (.int v)), (g, I2, J2, aP1 sl rd2 56))) : tie d kc km as t g I J sl rd :=
  ⟨v, I1, J1, I2, J2, rd2, n, m, q, e1, e2, zInv_up (zInv_R H (Fr_t (Fr_w h1 (by decide)) (Fr_w h2 (by decide))) (F46_t (F46_f h1 (by decide)) h3) hR), (h2 0 (by decide)).trans (h1 0 (by decide))⟩
theorem tell0 (v : Int64) : aF d 229 [.ref 46, .long v] (g, aU I 46 12 0, J, aP1 sl rd rl) = some (some none, (g, aU I 46 12 1, aU J 53 0 v, aP1 sl rd rl)) := by
  rw [f229 (n := 0) (by rw [aU_s]; rfl) (by decide), aU_u]; rfl
theorem tell1 (v : Int64) : aF d 229 [.ref 46, .long v] (g, aU I 46 12 1, J, aP1 sl rd rl) = some (some none, (g, aU I 46 12 2, aU J 53 1 v, aP1 sl rd rl)) := by
  rw [f229 (n := 1) (by rw [aU_s]; rfl) (by decide), aU_u]; rfl
theorem tell2 (v : Int64) : aF d 229 [.ref 46, .long v] (g, aU I 46 12 2, J, aP1 sl rd rl) = some (some none, (g, aU I 46 12 3, aU J 53 2 v, aP1 sl rd rl)) := by
  rw [f229 (n := 2) (by rw [aU_s]; rfl) (by decide), aU_u]; rfl
theorem zR_1 {a b : Int32} {j13 j53 : Nat → Int64} (h1 : a = 1) (h2 : b = 1) (h3 : j13 0 = j53 0) : zR a b j13 j53 := ⟨1, by decide, h1, h2, fun i hi => by
  obtain rfl : i = 0 := by omega
  exact h3⟩
theorem zR_2 {a b : Int32} {j13 j53 : Nat → Int64} (h1 : a = 2) (h2 : b = 2) (h3 : j13 0 = j53 0) (h4 : j13 1 = j53 1) : zR a b j13 j53 := ⟨2, by decide, h1, h2, fun i hi => by
  rcases (by omega : i = 0 ∨ i = 1) with rfl | rfl
  · exact h3
  · exact h4⟩
theorem zR_3 {a b : Int32} {j13 j53 : Nat → Int64} (h1 : a = 3) (h2 : b = 3) (h3 : j13 0 = j53 0) (h4 : j13 1 = j53 1) (h5 : j13 2 = j53 2) : zR a b j13 j53 := ⟨3, by decide, h1, h2, fun i hi => by
  rcases (by omega : i = 0 ∨ i = 1 ∨ i = 2) with rfl | rfl | rfl
  · exact h3
  · exact h4
  · exact h5⟩
theorem zV_get (H : zInv t n m q I J) : ∃ mm k rv, I 33 1 = nI mm ∧ I 46 22 = nI k ∧ cRule (I 34) mm rv ∧ rRule (I 55) k rv ∧ byR (I 55) ∧ (∀ t t' : Nat → Int32, (∀ k, k < 8 → t k = t' k) → rv t = rv t') := by
  obtain ⟨mm, k, rv, h1, h2, h3, h4, h5⟩ := H.2.2.2.2.2.2.2.2.2.1
  exact ⟨mm, k, rv, h1, h2, h3, h4, h5, fun _ _ e => cRule_congr h3 e⟩
theorem zD_s (H : zInv t n m q I J) : ∀ i, i < n → I 48 i = I 15 i := fun i hi => ((H.2.2.1.2.2.2 i hi).1).symm
theorem nIz {k : Nat} (h : 0 < k) (h2 : k < 2 ^ 31) : ¬ nI k = 0 := fun e => absurd ((nI_eq (b := 0) h2 (by decide)).mp e) (by omega)
theorem rngN {a : Int32} {M : Nat} {b : Int32} (hb : b = nI M) (hM : M < 2 ^ 31) (h : ¬ (a < 0 ∨ b < a)) : ∃ N, N ≤ M ∧ a = nI N := by
  subst hb
  exact nI_of2 (M := nI M) (nI_toInt hM) (fun q => h (Or.inl q)) (Classical.byContradiction fun q => h (Or.inr (by rw [← nle_lt]; exact q)))
theorem tie_race (hd : 41 ≤ d) (H : zInv t n m q I J) (a : Int32) : tie d 62 220 [.int a] t g I J sl rd := by
  obtain ⟨hn, d1, d2, -⟩ := H.2.2.1
  have hS := H.2.2.2.2.2.2.1
  have hL := H.2.2.2.2.2.1
  by_cases hn0 : n = 0
  · subst hn0
    refine tie_0 (rd2 := rd) (v := -2) H (Fr_r _ _) (th_F _) (th_46 _) ?_ ?_
    · show aE d 62 0 [.ref 6, .int a, aNo] [] _ = _
      rw [b62_0, if_pos (show I 14 0 = 0 from d1)]
    · show aE d 220 0 [.ref 46, .int a] [] _ = _
      rw [b220_0, if_pos (show I 46 1 = 0 from d2)]
  have h0 : 0 < n := by omega
  have nz := nIz h0 (by omega)
  by_cases hx : a < 0 ∨ 60 < a
  · refine tie_0 (rd2 := rd) (v := -1) H (Fr_r _ _) (th_F _) (th_46 _) ?_ ?_
    · show aE d 62 0 [.ref 6, .int a, aNo] [] _ = _
      rw [b62_0, if_neg (by rw [d1]; exact nz)]
      rcases hx with hx | hx
      · rw [if_pos hx]
      · rw [if_neg (c := a ≤ 60) (by rw [nle_lt]; exact hx), ite_self]
    · show aE d 220 0 [.ref 46, .int a] [] _ = _
      rw [b220_0, if_neg (by rw [d2]; exact nz), f181, inI_f hx]
      simp only [aBi]
      rw [b220_22, if_pos rfl]
  obtain ⟨N, hN, rfl⟩ := rngN (b := 60) (M := 60) rfl (by decide) hx
  obtain ⟨mm, kk, rv, v1, v2, v3, v4, v5, v6⟩ := zV_get H
  obtain ⟨u, x, u1, u2, u3, u4, u5, u6⟩ := zU_get H
  have sk := zD_s H
  -- the class
  obtain ⟨I1, c1, c2, c3, c4, c5, c6, c7, c8, c9⟩ := f64 (d := d) (g := g) (I := cpN I) (J := J) (sl := sl) (rd := rd) (rl := 56) (nd := n) (m := mm) (N := N) (rv := rv) (by rw [cpN_r _ (by decide)]; exact v3) (by rw [cpN_r _ (by decide)]; exact v1) (by rw [cpN_r _ (by decide)]; exact d1) hn h0 (by rw [cpN_r _ (by decide)]; exact okS_cl hS hn) (by omega)
  rw [cpN_r _ (show 24 ≠ 26 by decide), cpN_r _ (show 15 ≠ 26 by decide)] at c2 c4 c5 c9
  rw [cpN_r _ (show 24 ≠ 26 by decide)] at c3
  rw [cpN_r _ (show 14 ≠ 26 by decide)] at c5
  have G1 : Fr [24, 26, 35, 36, 41] I I1 := Fr_t (Fr_s (Fr_r _ _) _ (by decide)) (Fr_w c1 (by decide))
  have P : ∃ I2, aE d 62 56 [.ref 6, .int (nI N), aNo] [.int (nI (blR (sts rv (I 15)) n (cV (I 24)) N))] (g, I1, J, aP1 sl rd 56) = aE d 62 72 [.ref 6, .int (nI N), .int (nI (blR (sts rv (I 15)) n (cV (I 24)) N))] [] (g, I2, J, aP1 sl rd 56) ∧ Fr [29, 30] I1 I2 ∧ (N = 0 → I2 = I1) ∧ (0 < N → I2 29 1 = nI (up12 u) ∧ I2 29 2 = nI ((x + 1) % 12) ∧ I2 30 = cpB (I 30) (cpB (I 26) (I 24) 0 32) (32 * x) 32) := by
    by_cases hN0 : N = 0
    · subst hN0
      refine ⟨I1, ?_, Fr_r _ _, fun _ => rfl, fun h => by omega⟩
      rw [b62_56, if_pos (by decide)]
    · refine ⟨aR (aR I1 30 (cpB (I1 30) (I1 26) (32 * x) 32)) 29 (upd (upd (I1 29) 2 (nI ((x + 1) % 12))) 1 (nI (up12 u))), ?_, ?_, fun h => absurd h hN0, fun _ => ?_⟩
      · rw [b62_56, if_neg (show ¬ nI N ≤ 0 from nI_ge (a := 0) (by omega) (by omega)), f80 (u := u) (x := x) (by rw [G1 29 (by decide)]; exact u1) u2 (by rw [G1 29 (by decide)]; exact u3) u4]
        simp only [aBv]
      · exact Fr_s (Fr_s (Fr_r _ _) _ (by decide)) _ (by decide)
      · rw [aR_s, upd_s, upd_n _ _ (by decide), upd_s, aR_r _ _ (show 30 ≠ 29 by decide), aR_s, G1 30 (by decide), c1 26 (by decide)]
        refine ⟨rfl, rfl, ?_⟩
        unfold cpN; rw [aR_s]
  obtain ⟨I2, p1, p2, p3, p4⟩ := P
  have e1 : aF d 62 [.ref 6, .int (nI N)] (g, I, J, aP1 sl rd 56) = some (some (some (.int (nI (blR (sts rv (I 15)) n (cV (I 24)) N)))), (g, aU I2 12 1 2, aU (aU J 13 0 (Int32.toInt64 (laR (sts rv (I 15)) n (cV (I 24)) N))) 13 1 (Int32.toInt64 (nI (joR (sts rv (I 15)) n (cV (I 24)) (I 14 11) N))), aP1 sl rd 56)) := by
    show aE d 62 0 [.ref 6, .int (nI N), aNo] [] _ = _
    rw [b62_0, if_neg (by rw [d1]; exact nz), if_neg (fun h => hx (Or.inl h)), if_pos (Classical.byContradiction fun h => hx (Or.inr (by rw [← nle_lt]; exact h))), f63_26]
    simp only [aBv]
    rw [b62_36, show aR I 26 (cpB (I 26) (I 24) 0 32) = cpN I from rfl, c9]
    simp only [aBi]
    rw [p1, b62_72, f82, p2 41 (by decide), c4, c5]
    simp only [aBv]
    rw [b62_95]
  have G2 : Fr [12, 24, 26, 29, 30, 35, 36, 41] I (aU I2 12 1 2) := by
    rw [aU_R]; exact Fr_s (Fr_t (Fr_w G1 (by decide)) (Fr_w p2 (by decide))) _ (by decide)
  generalize hIc : aU I2 12 1 2 = Ic at e1 G2
  -- the reference
  have Q : ∃ I3, aE d 220 22 [.ref 46, .int (nI N)] [.int 1] (g, aU Ic 46 13 0, aU (aU J 13 0 (Int32.toInt64 (laR (sts rv (I 15)) n (cV (I 24)) N))) 13 1 (Int32.toInt64 (nI (joR (sts rv (I 15)) n (cV (I 24)) (I 14 11) N))), aP1 sl rd 56) = aE d 220 39 [.ref 46, .int (nI N)] [] (g, I3, aU (aU J 13 0 (Int32.toInt64 (laR (sts rv (I 15)) n (cV (I 24)) N))) 13 1 (Int32.toInt64 (nI (joR (sts rv (I 15)) n (cV (I 24)) (I 14 11) N))), aP1 sl rd 56) ∧ Fr [46, 58] Ic I3 ∧ F46 [13, 26] Ic I3 ∧ (N = 0 → I3 46 26 = I 46 26 ∧ I3 58 = I 58) ∧ (0 < N → I3 46 26 = nI (up12 u) ∧ I3 58 = remR (I 58) (I 47) u) := by
    by_cases hN0 : N = 0
    · subst hN0
      refine ⟨aU Ic 46 13 0, ?_, ?_, ?_, fun _ => ?_, fun h => by omega⟩
      · rw [b220_22, if_neg (by decide), if_pos (by decide)]
      · rw [aU_R]; exact Fr_s (Fr_r _ _) _ (by decide)
      · intro j hj
        have hj : j ≠ 13 ∧ j ≠ 26 := by simpa using hj
        rw [aU_i _ _ hj.1]
      · rw [aU_i _ _ (by decide), aU_r _ _ (by decide), G2 46 (by decide), G2 58 (by decide)]; exact ⟨rfl, rfl⟩
    · refine ⟨remI Ic u, ?_, ?_, ?_, fun h => absurd h hN0, fun _ => ?_⟩
      · rw [b220_22, if_neg (by decide), if_neg (show ¬ nI N ≤ 0 from nI_ge (a := 0) (by omega) (by omega)), f221' (by rw [G2 46 (by decide)]; exact u5) u2]
        simp only [aBv]
      · unfold remI; rw [aU_R]; exact Fr_s (Fr_s (Fr_s (Fr_r _ _) _ (by decide)) _ (by decide)) _ (by decide)
      · intro j hj
        have hj : j ≠ 13 ∧ j ≠ 26 := by simpa using hj
        unfold remI
        rw [aR_s, upd_n _ _ hj.2, upd_n _ _ hj.1]
      · unfold remI
        rw [aR_s, upd_s, aR_r _ _ (show 58 ≠ 46 by decide), aR_s, G2 58 (by decide), G2 47 (by decide)]; exact ⟨rfl, rfl⟩
  obtain ⟨I3, q1, q2, q3, q4, q5⟩ := Q
  have G3 : Fr [12, 24, 26, 29, 30, 35, 36, 41, 46, 58] I I3 := Fr_t (Fr_w G2 (by decide)) (Fr_w q2 (by decide))
  have G4 : F46 [13, 26] I I3 := F46_t (F46_f G2 (by decide)) q3
  obtain ⟨I4, rd4, r1, r2, r3, r4, r5, r6, r7⟩ := f223 (d := d) (g := g) (I := I3) (J := aU (aU J 13 0 (Int32.toInt64 (laR (sts rv (I 15)) n (cV (I 24)) N))) 13 1 (Int32.toInt64 (nI (joR (sts rv (I 15)) n (cV (I 24)) (I 14 11) N)))) (sl := sl) (rd := rd) (nd := n) (rs := kk) (N := N) (rv := rv) (sk := I 15) hd (by rw [G3 55 (by decide)]; exact v4) (by rw [G3 55 (by decide)]; exact v5) v6 (by rw [G4 22 (by decide)]; exact v2) (by rw [G4 1 (by decide)]; exact d2) hn h0 (by rw [G3 47 (by decide)]; exact okS_clr hS hn) (fun i hi => by rw [G3 48 (by decide)]; exact sk i hi) (by omega)
  rw [G3 47 (by decide), ← hS.1] at r3 r4 r5 r6
  rw [G4 8 (by decide), ← hL] at r6
  have e2 : aF d 220 [.ref 46, .int (nI N)] (g, Ic, aU (aU J 13 0 (Int32.toInt64 (laR (sts rv (I 15)) n (cV (I 24)) N))) 13 1 (Int32.toInt64 (nI (joR (sts rv (I 15)) n (cV (I 24)) (I 14 11) N))), aP1 sl rd 56) = some (some (some (.int (nI (blR (sts rv (I 15)) n (cV (I 24)) N)))), (g, aU I4 46 12 2, aU (aU (aU (aU J 13 0 (Int32.toInt64 (laR (sts rv (I 15)) n (cV (I 24)) N))) 13 1 (Int32.toInt64 (nI (joR (sts rv (I 15)) n (cV (I 24)) (I 14 11) N)))) 53 0 (Int32.toInt64 (laR (sts rv (I 15)) n (cV (I 24)) N))) 53 1 (Int32.toInt64 (nI (joR (sts rv (I 15)) n (cV (I 24)) (I 14 11) N))), aP1 sl rd4 56)) := by
    show aE d 220 0 [.ref 46, .int (nI N)] [] _ = _
    rw [b220_0, if_neg (by rw [G2 46 (by decide), d2]; exact nz), f181, inI_t (fun h => hx (Or.inl h)) (fun h => hx (Or.inr h))]
    simp only [aBi]
    rw [q1, b220_39, r7]
    simp only [aBv]
    rw [b220_48, tell0]
    simp only [aBv]
    rw [b220_62, tell1]
    simp only [aBv]
    rw [b220_71]
    simp (disch := decide) only [aU_i, r4, r5, r6]
  have F : Fr (12 :: 24 :: 29 :: 30 :: 47 :: 58 :: scr) I (aU I4 46 12 2) := by
    rw [aU_R]; exact Fr_s (Fr_t (Fr_w G3 (by decide)) (Fr_w r1 (by decide))) _ (by decide)
  have E46 : F46 (12 :: 26 :: scf) I (aU I4 46 12 2) := by
    intro j hj
    rw [aU_i _ _ (fun e => hj (by rw [e]; decide))]
    exact (F46_t (F46_w G4 (by decide)) (F46_w r2 (by decide)) : F46 (12 :: 26 :: scf) I I4) j hj
  have k24 : aU I4 46 12 2 24 = I1 24 := by
    rw [aU_r _ _ (by decide), r1 24 (by decide), q2 24 (by decide), ← hIc, aU_r _ _ (by decide), p2 24 (by decide)]
  refine ⟨_, _, _, _, _, rd4, n, m, q, e1, e2, zInv_up (zInv_N H F E46 ?_ ?_ ?_), F 0 (by decide)⟩
  · refine zR_2 ?_ ?_ ?_ ?_
    · rw [aU_r _ _ (by decide), r1 12 (by decide), q2 12 (by decide), ← hIc, aU_s]
    · rw [aU_s]
    · simp (disch := decide) only [aU_r, aU_i, aU_s]
    · simp (disch := decide) only [aU_r, aU_i, aU_s]
  · rw [k24, aU_r _ _ (by decide)]
    refine ⟨?_, ?_, ?_⟩
    · rw [c2, r3]
    · rw [r3]
      exact vsR_ok (by rw [hS.1]; exact hS.2.1) hn h0 N
    · rw [c3]; exact hS.2.2
  · have k29 : aU I4 46 12 2 29 = I2 29 := by
      rw [aU_r _ _ (by decide), r1 29 (by decide), q2 29 (by decide), ← hIc, aU_r _ _ (by decide)]
    have k30 : aU I4 46 12 2 30 = I2 30 := by
      rw [aU_r _ _ (by decide), r1 30 (by decide), q2 30 (by decide), ← hIc, aU_r _ _ (by decide)]
    have k58 : aU I4 46 12 2 58 = I3 58 := by
      rw [aU_r _ _ (by decide), r1 58 (by decide)]
    have k26 : aU I4 46 12 2 46 26 = I3 46 26 := by
      rw [aU_i _ _ (by decide), r2 26 (by decide)]
    rw [k29, k30, k58, k26]
    by_cases hN0 : N = 0
    · rw [p3 hN0, (q4 hN0).1, (q4 hN0).2, G1 29 (by decide), G1 30 (by decide)]
      exact ⟨u, x, u1, u5, u3, u6⟩
    · obtain ⟨w1, w2, w3⟩ := p4 (by omega)
      obtain ⟨w4, w5⟩ := q5 (by omega)
      rw [w1, w2, w3, w4, w5]
      exact ⟨_, _, rfl, rfl, rfl, okU_push u6 (okS_congr hS (fun i hi => by rw [cpB_in _ _ (by omega) (by omega)]; congr 1) (fun _ _ => rfl))⟩
end T00
section T01
/-! joins, ahead: tied -/
variable {d : Nat} {g : Nat × Nat × Nat} {I : Nat → Nat → Int32} {J : Nat → Nat → Int64} {sl rd rl : Nat} {t n m q : Nat}
/-- what is tried -/
def cpT (I : Nat → Nat → Int32) : Nat → Nat → Int32 := aR I 28 (cpB (I 28) (I 24) 0 32)
theorem cpT_r (I : Nat → Nat → Int32) {a : Nat} (h : a ≠ 28) : cpT I a = I a := aR_r _ _ h
theorem cpT_28 (I : Nat → Nat → Int32) {k : Nat} (h : k < 32) : cpT I 28 k = I 24 k := by
  unfold cpT; rw [aR_s, cpB_in _ _ (by omega) (by omega)]; rfl
theorem cpT_V (I : Nat → Nat → Int32) : cV (cpT I 28) = cV (I 24) := cV_congr (fun i hi => cpT_28 I hi)
theorem cpT_F (I : Nat → Nat → Int32) : Fr [28] I (cpT I) := Fr_s (Fr_r _ _) _ (by decide)
def cpR (I : Nat → Nat → Int32) : Nat → Nat → Int32 := aR (aU I 46 13 0) 60 (cpB (I 60) (I 47) 0 39)
theorem cpR_60 (I : Nat → Nat → Int32) {k : Nat} (h : k < 39) : cpR I 60 k = I 47 k := by
  unfold cpR; rw [aR_s, cpB_in _ _ (by omega) (by omega)]; rfl
theorem cpR_V (I : Nat → Nat → Int32) : rV (cpR I 60) = rV (I 47) := rV_congr (fun i hi => cpR_60 I hi)
theorem cpR_F (I : Nat → Nat → Int32) : Fr [46, 60] I (cpR I) := by
  unfold cpR; rw [aU_R]; exact Fr_s (Fr_s (Fr_r _ _) _ (by decide)) _ (by decide)
theorem cpR_46 (I : Nat → Nat → Int32) : F46 [13] I (cpR I) := by
  intro j hj
  have hj : j ≠ 13 := by simpa using hj
  unfold cpR
  rw [aR_r _ _ (by decide), aU_i _ _ hj]
theorem f222R (I : Nat → Nat → Int32) : aF d 222 [.ref 47, .ref 60, .int 0] (g, aU I 46 13 0, J, aP1 sl rd rl) = some (some none, (g, cpR I, J, aP1 sl rd rl)) := by
  have f := f222_60 (d := d) (g := g) (I := aU I 46 13 0) (J := J) (sl := sl) (rd := rd) (rl := rl) (o := 0) (by decide)
  have f : aF d 222 [.ref 47, .ref 60, .int 0] (g, aU I 46 13 0, J, aP1 sl rd rl) = _ := f
  rw [f, aU_r _ _ (by decide), aU_r _ _ (by decide)]
  rfl
/-- a race of nobody -/
theorem f65t0 {mm : Nat} {rv : (Nat → Int32) → Int32} (hR : cRule (I 34) mm rv) (hs : I 33 1 = nI mm) (h0 : I 14 0 = nI 0) : ∃ I', Fr [35, 36] I I' ∧ aF d 65 [.ref 27, .ref 14, .ref 33] (g, I, J, aP1 sl rd rl) = some (some (some (.int (-1))), (g, I', J, aP1 sl rd rl)) := by
  obtain ⟨x, y, e⟩ := f66t (d := d) (g := g) (I := I) (J := J) (sl := sl) (rd := rd) (rl := rl) (nd := 0) hR hs h0 (by decide) (fun i hi => by omega) 0
  have e : aF d 66 [.ref 33, .ref 14, .ref 27, .int 0] (g, I, J, aP1 sl rd rl) = some (some (some (.int (-1))), (g, aR (aR I 35 x) 36 y, J, aP1 sl rd rl)) := e
  refine ⟨aR (aR I 35 x) 36 y, Fr_s (Fr_s (Fr_r _ _) x (by decide)) y (by decide), ?_⟩
  show aE d 65 0 [.ref 27, .ref 14, .ref 33, aNo, aNo] [] _ = _
  rw [b65_0_2, e]
  simp only [aBi]
  rw [b65_7_2, f68n_27]
  simp only [aBi]
  rw [b65_13_2, f75]
  simp only [aBi]
  rw [b65_20_2, if_pos (by decide)]
/-- a race in the trial, by what is seen -/
theorem f65s {nd mm : Nat} {rv : (Nat → Int32) → Int32} {st : (Nat → Int32) → Nat → Int32} {v : Nat → Int32} {j : Nat} (hR : cRule (I 34) mm rv) (hs : I 33 1 = nI mm) (h0 : I 14 0 = nI nd) (hn : nd ≤ 8) (hd : 0 < nd) (hst : st = sts rv (I 15)) (hc : clubs (fun i => v (6 + i)) nd) (hv : cV (I 28) = vsR st nd v j) : ∃ I', Fr [28, 35, 36] I I' ∧ cV (I' 28) = vsR st nd v (j + 1) ∧ I' 28 7 = I 28 7 ∧ aF d 65 [.ref 27, .ref 14, .ref 33] (g, I, J, aP1 sl rd rl) = some (some (some (.int (nI (wnR st nd v j)))), (g, I', J, aP1 sl rd rl)) := by
  subst hst
  obtain ⟨hl, k, hk, e1, e2⟩ := vsR_1 (st := sts rv (I 15)) hc hn hd j
  have hW : wnR (sts rv (I 15)) nd v j < nd := wn_lt _ hd
  have hcl : ∀ i, i < 8 → I 28 (8 + i) = v (6 + i) := fun i hi => by
    rw [← cV_l (I 28) hi, hv]; exact hl i hi
  have hk1 : I 28 (8 + wnR (sts rv (I 15)) nd v j) = nI k := by
    rw [← cV_l (I 28) (show wnR (sts rv (I 15)) nd v j < 8 by omega), hv]; exact e1
  have f := f65t (d := d) (g := g) (I := I) (J := J) (sl := sl) (rd := rd) (rl := rl) (m := mm) (nd := nd) (k := k) (rv := rv) hR hs h0 hn hd (fun i hi => by
    obtain ⟨k, hk, e⟩ := hc i hi
    exact ⟨k, hk, (hcl i (by omega)).trans e⟩) hk (by rw [hv]; exact hk1)
  rw [hv] at f
  obtain ⟨x, y, f⟩ := f
  refine ⟨aR (aR (aR I 28 (cRace (I 28) (wnR (sts rv (I 15)) nd v j) k)) 35 x) 36 y, Fr_s (Fr_s (Fr_s (Fr_r _ _) _ (by decide)) x (by decide)) y (by decide), ?_, ?_, f⟩
  · rw [aR_r _ _ (by decide), aR_r _ _ (by decide), aR_s, cRace_v _ (by omega) hk, hv, e2]
  · rw [aR_r _ _ (by decide), aR_r _ _ (by decide), aR_s]
    unfold cRace adA adM
    rw [upd_n _ _ (by omega), upd_n _ _ (by omega), upd_n _ _ (by omega), upd_n _ _ (by omega), upd_n _ _ (by omega), upd_n _ _ (by omega)]
/-- .. and the reference's -/
theorem f224s {nd rs : Nat} {rv : (Nat → Int32) → Int32} {sk : Nat → Int32} {st : (Nat → Int32) → Nat → Int32} {v : Nat → Int32} {j : Nat} (hd : 41 ≤ d) (hV : rRule (I 55) rs rv) (hB : byR (I 55)) (hC : ∀ t t' : Nat → Int32, (∀ k, k < 8 → t k = t' k) → rv t = rv t') (hs : I 46 22 = nI rs) (hN : I 46 1 = nI nd) (hn : nd ≤ 8) (h0 : 0 < nd) (hst : st = sts rv sk) (hc : clubs (fun i => v (6 + i)) nd) (hsk : ∀ i, i < nd → I 48 i = sk i) (hv : rV (I 60) = vsR st nd v j) : ∃ I' rd', Fr [46, 57, 60] I I' ∧ F46 [15, 16, 17, 18, 23] I I' ∧ rV (I' 60) = vsR st nd v (j + 1) ∧ aF d 224 [.ref 46, .ref 60] (g, I, J, aP1 sl rd 56) = some (some (some (.int (nI (wnR st nd v j)))), (g, I', J, aP1 sl rd' 56)) := by
  subst hst
  obtain ⟨hl, k, hk, e1, e2⟩ := vsR_1 (st := sts rv sk) hc hn h0 j
  have hW : wnR (sts rv sk) nd v j < nd := wn_lt _ h0
  have f := f224t (d := d) (g := g) (I := I) (J := J) (sl := sl) (rd := rd) (nd := nd) (rs := rs) (rv := rv) (sk := sk) hd hV hB hC hs hN hn h0 (fun i hi => by
    obtain ⟨k, hk, e⟩ := hc i hi
    exact ⟨k, hk, by show I 60 (6 + i) = nI k; rw [← rV_lt (I 60) (show 6 + i < 39 by omega), hv, hl i (by omega)]; exact e⟩) hsk
  rw [hv] at f
  obtain ⟨I2, rd2, k', hk', f1, f2, f3, f4, f5⟩ := f
  have f1 : I 60 (6 + wnR (sts rv sk) nd v j) = nI k' := f1
  obtain rfl : k = k' := by
    have : nI k = nI k' := by rw [← e1, ← f1, ← hv, rV_lt _ (by omega)]
    exact (nI_eq (by omega) (by omega)).mp this
  refine ⟨I2, rd2, f3, f4, ?_, f5⟩
  rw [f2, rRace_r _ (Nat.lt_of_lt_of_le (wn_lt _ h0) hn) hk, hv, e2]
  rfl
/-- the first of k from j on of which p holds -/
def jF (p : Nat → Bool) : Nat → Nat → Option Nat
  | 0, _ => none
  | k + 1, j => if p j = true then some j else jF p k (j + 1)
theorem jF_0 (p : Nat → Bool) (j : Nat) : jF p 0 j = none := rfl
theorem jF_t {p : Nat → Bool} {k j : Nat} (h : p j = true) : jF p (k + 1) j = some j := if_pos h
theorem jF_f {p : Nat → Bool} {k j : Nat} (h : ¬ p j = true) : jF p (k + 1) j = jF p k (j + 1) := if_neg h
theorem tie_joins (hd : 41 ≤ d) (H : zInv t n m q I J) : tie d 111 249 [] t g I J sl rd := by
  obtain ⟨hn, d1, d2, -⟩ := H.2.2.1
  have hS := H.2.2.2.2.2.2.1
  have hL := H.2.2.2.2.2.1
  obtain ⟨mm, kk, rv, v1, v2, v3, v4, v5, v6⟩ := zV_get H
  have sk := zD_s H
  have cl : clubs (fun i => cV (I 24) (6 + i)) n := fun i hi => by
    rw [hS.1]; exact hS.2.1.2.2.1 i hi
  generalize hst : sts rv (I 15) = st
  -- nobody races
  have e78 : ∀ (I1 : Nat → Nat → Int32) (v : Nat → Int32), cV (I1 28) = v → I1 14 = I 14 → aF d 78 [.ref 27, .ref 14] (g, I1, J, aP1 sl rd 56) = some (some (some (.int (tI (jn v (I 14 11))))), (g, I1, J, aP1 sl rd 56)) := by
    intro I1 v h1 h2
    rw [f78_27, jn_c, ← jn_cV, h1, h2]
  have e228 : ∀ (I1 : Nat → Nat → Int32) (J1 : Nat → Nat → Int64) (rd1 : Nat) (v : Nat → Int32), rV (I1 60) = v → I1 46 8 = I 46 8 → aF d 228 [.ref 46, .ref 60] (g, I1, J1, aP1 sl rd1 56) = some (some (some (.int (tI (jn v (I 14 11))))), (g, I1, J1, aP1 sl rd1 56)) := by
    intro I1 J1 rd1 v h1 h2
    rw [f228_60, jn_r, ← jn_rV, h1, h2, ← hL]
  have tellC : ∀ (I1 : Nat → Nat → Int32) (v : Nat → Int32) (j : Nat), cV (I1 28) = v → jn v (I 14 11) = true → I1 14 = I 14 → j ≤ 99 → aE d 111 13 [.ref 6, .int (nI j)] [] (g, I1, J, aP1 sl rd 56) = some (some (some (.int (nI j))), (g, aU I1 12 1 2, aU (aU J 13 0 (Int32.toInt64 (v 2))) 13 1 (Int32.toInt64 (v 3)), aP1 sl rd 56)) := by
    intro I1 v j h1 h2 h3 h4
    have a0 := f73_27 (d := d) (g := g) (I := I1) (J := J) (sl := sl) (rd := rd) (rl := 56) (c := 0) (by decide)
    have a0 : aF d 73 [.ref 27, .int 0] (g, I1, J, aP1 sl rd 56) = _ := a0
    have a1 := f73_27 (d := d) (g := g) (I := I1) (J := J) (sl := sl) (rd := rd) (rl := 56) (c := 1) (by decide)
    have a1 : aF d 73 [.ref 27, .int 1] (g, I1, J, aP1 sl rd 56) = _ := a1
    rw [b111_13, if_neg (show ¬ 99 < nI j from nI_nlt (a := 99) h4 (by decide)), e78 I1 v h1 h3, h2]
    simp only [aBi]
    rw [b111_30, if_neg (by decide), a0]
    simp only [aBi]
    rw [b111_45, a1]
    simp only [aBi]
    rw [b111_54, f82]
    simp only [aBv]
    rw [b111_58, ← h1]
    rfl
  have tellR : ∀ (I1 : Nat → Nat → Int32) (J1 : Nat → Nat → Int64) (rd1 : Nat) (v : Nat → Int32) (j : Nat), rV (I1 60) = v → jn v (I 14 11) = true → I1 46 8 = I 46 8 → j ≤ 99 → aE d 249 19 [.ref 46, .int (nI j)] [] (g, I1, J1, aP1 sl rd1 56) = some (some (some (.int (nI j))), (g, aU I1 46 12 2, aU (aU J1 53 0 (Int32.toInt64 (v 2))) 53 1 (Int32.toInt64 (v 3)), aP1 sl rd1 56)) := by
    intro I1 J1 rd1 v j h1 h2 h3 h4
    rw [b249_19, if_neg (show ¬ 99 < nI j from nI_nlt (a := 99) h4 (by decide)), e228 I1 J1 rd1 v h1 h3, h2]
    simp only [aBi]
    rw [b249_33, if_neg (by decide), tell0]
    simp only [aBv]
    rw [b249_52, tell1]
    simp only [aBv]
    rw [b249_63, aU_r _ _ (by decide), ← h1]
    rfl
  have eC : aF d 111 [.ref 6] (g, I, J, aP1 sl rd 56) = aE d 111 13 [.ref 6, .int (nI 0)] [] (g, cpT I, J, aP1 sl rd 56) := by
    show aE d 111 0 [.ref 6, aNo] [] _ = _
    rw [b111_0, f63_28]
    simp only [aBv]
    rw [b111_11]
    rfl
  have eR : ∀ (I1 : Nat → Nat → Int32) (J1 : Nat → Nat → Int64), aF d 249 [.ref 46] (g, I1, J1, aP1 sl rd 56) = aE d 249 19 [.ref 46, .int (nI 0)] [] (g, cpR I1, J1, aP1 sl rd 56) := by
    intro I1 J1
    show aE d 249 0 [.ref 46, aNo] [] _ = _
    rw [b249_0, f222R]
    simp only [aBv]
    rw [b249_17]
    rfl
  -- both, told the same
  have fin : ∀ (I1 I2 : Nat → Nat → Int32) (rd2 i : Nat) (v : Nat → Int32), Fr [28, 35, 36] I I1 → Fr [46, 57, 60] (aU I1 12 1 2) I2 → F46 [13, 15, 16, 17, 18, 23] (aU I1 12 1 2) I2 → aF d 111 [.ref 6] (g, I, J, aP1 sl rd 56) = some (some (some (.int (nI i))), (g, aU I1 12 1 2, aU (aU J 13 0 (Int32.toInt64 (v 2))) 13 1 (Int32.toInt64 (v 3)), aP1 sl rd 56)) → aF d 249 [.ref 46] (g, aU I1 12 1 2, aU (aU J 13 0 (Int32.toInt64 (v 2))) 13 1 (Int32.toInt64 (v 3)), aP1 sl rd 56) = some (some (some (.int (nI i))), (g, aU I2 46 12 2, aU (aU (aU (aU J 13 0 (Int32.toInt64 (v 2))) 13 1 (Int32.toInt64 (v 3))) 53 0 (Int32.toInt64 (v 2))) 53 1 (Int32.toInt64 (v 3)), aP1 sl rd2 56)) → tie d 111 249 [] t g I J sl rd := by
    intro I1 I2 rd2 i v h1 h2 h3 e1 e2
    refine tie_R H (by rw [aU_R]; exact Fr_s (Fr_w h1 (by decide)) _ (by decide)) ?_ ?_ ?_ e1 e2
    · rw [aU_R I2]; exact Fr_s (Fr_w h2 (by decide)) _ (by decide)
    · intro j hj
      rw [aU_i _ _ (fun e => hj (by rw [e]; decide))]
      exact (F46_w h3 (by decide) : F46 (12 :: scf) _ I2) j hj
    · refine zR_2 ?_ ?_ ?_ ?_
      · rw [aU_r _ _ (by decide), h2 12 (by decide), aU_s]
      · rw [aU_s]
      · simp (disch := decide) only [aU_r, aU_i, aU_s]
      · simp (disch := decide) only [aU_r, aU_i, aU_s]
  by_cases hn0 : n = 0
  · subst hn0
    by_cases hj : jn (cV (I 24)) (I 14 11) = true
    · refine fin (cpT I) (cpR (aU (cpT I) 12 1 2)) rd 0 (cV (I 24)) (Fr_w (cpT_F I) (by decide)) (Fr_w (cpR_F _) (by decide)) (F46_w (cpR_46 _) (by decide)) ?_ ?_
      · rw [eC]; exact tellC _ _ 0 (cpT_V I) hj (cpT_r _ (by decide)) (by decide)
      · rw [eR]
        refine tellR _ _ _ _ 0 ?_ hj ?_ (by decide)
        · rw [cpR_V, aU_r _ _ (by decide), cpT_r _ (by decide), hS.1]
        · rw [cpR_46 _ 8 (by decide), aU_r _ _ (by decide), cpT_r _ (by decide)]
    · obtain ⟨I1, f1, f2⟩ := f65t0 (d := d) (g := g) (I := cpT I) (J := J) (sl := sl) (rd := rd) (rl := 56) (mm := mm) (rv := rv) (by rw [cpT_r _ (by decide)]; exact v3) (by rw [cpT_r _ (by decide)]; exact v1) (by rw [cpT_r _ (by decide)]; exact d1)
      have hj : jn (cV (I 24)) (I 14 11) = false := by simpa using hj
      have F1 : Fr [28, 35, 36] I I1 := Fr_t (Fr_w (cpT_F I) (by decide)) (Fr_w f1 (by decide))
      refine tie_0 (rd2 := rd) (v := -2) (I1 := I1) (I2 := cpR I1) H (Fr_w F1 (by decide)) (Fr_w (cpR_F _) (by decide)) (F46_w (cpR_46 _) (by decide)) ?_ ?_
      · rw [show (Value.ref 6 :: [] : List Value) = [.ref 6] from rfl, eC, b111_13, if_neg (by decide), e78 _ _ (cpT_V I) (cpT_r _ (by decide)), hj]
        simp only [aBi]
        rw [b111_30, if_pos tI_f, f2]
        simp only [aBi]
        rw [b111_75, if_pos rfl]
      · rw [show (Value.ref 46 :: [] : List Value) = [.ref 46] from rfl, eR, b249_19, if_neg (by decide), e228 _ _ _ _ (cpR_V I1) (cpR_46 _ 8 (by decide) |>.trans (by rw [F1 46 (by decide)])), F1 47 (by decide), ← hS.1, hj]
        simp only [aBi]
        rw [b249_33, if_pos tI_f, if_pos (show cpR I1 46 1 = 0 from (cpR_46 I1 1 (by decide)).trans (by rw [F1 46 (by decide)]; exact d2))]
  have h0 : 0 < n := by omega
  have nz := nIz h0 (by omega)
  -- the class
  have lC : ∀ (k j : Nat) (I1 : Nat → Nat → Int32), j + k = 100 → Fr [28, 35, 36] I I1 → cV (I1 28) = vsR st n (cV (I 24)) j → (jF (fun j => jn (vsR st n (cV (I 24)) j) (I 14 11)) k j = none → ∃ I', Fr [28, 35, 36] I I' ∧ aE d 111 13 [.ref 6, .int (nI j)] [] (g, I1, J, aP1 sl rd 56) = some (some (some (.int (-2))), (g, I', J, aP1 sl rd 56))) ∧ (∀ i, jF (fun j => jn (vsR st n (cV (I 24)) j) (I 14 11)) k j = some i → ∃ I', Fr [28, 35, 36] I I' ∧ aE d 111 13 [.ref 6, .int (nI j)] [] (g, I1, J, aP1 sl rd 56) = some (some (some (.int (nI i))), (g, aU I' 12 1 2, aU (aU J 13 0 (Int32.toInt64 (vsR st n (cV (I 24)) i 2))) 13 1 (Int32.toInt64 (vsR st n (cV (I 24)) i 3)), aP1 sl rd 56))) := by
    intro k
    induction k with
    | zero =>
      intro j I1 hj q1 q2
      obtain rfl : j = 100 := by omega
      refine ⟨fun _ => ⟨I1, q1, ?_⟩, fun i h => by cases h⟩
      rw [b111_13, if_pos (by decide)]
    | succ k ih =>
      intro j I1 hj q1 q2
      by_cases hp : jn (vsR st n (cV (I 24)) j) (I 14 11) = true
      · rw [jF_t (p := fun j => jn (vsR st n (cV (I 24)) j) (I 14 11)) hp]
        refine ⟨fun h => (by cases h), fun i h => ?_⟩
        cases h
        exact ⟨I1, q1, tellC I1 _ j q2 hp (q1 14 (by decide)) (by omega)⟩
      · rw [jF_f (p := fun j => jn (vsR st n (cV (I 24)) j) (I 14 11)) hp]
        have hp' : jn (vsR st n (cV (I 24)) j) (I 14 11) = false := by simpa using hp
        obtain ⟨I2, g1, g2, -, g4⟩ := f65s (d := d) (g := g) (I := I1) (J := J) (sl := sl) (rd := rd) (rl := 56) (nd := n) (mm := mm) (rv := rv) (st := st) (v := cV (I 24)) (j := j) (by rw [q1 34 (by decide)]; exact v3) (by rw [q1 33 (by decide)]; exact v1) (by rw [q1 14 (by decide)]; exact d1) hn h0 (by rw [q1 15 (by decide)]; exact hst.symm) cl q2
        have hw : wnR st n (cV (I 24)) j < n := wn_lt _ h0
        have e : aE d 111 13 [.ref 6, .int (nI j)] [] (g, I1, J, aP1 sl rd 56) = aE d 111 13 [.ref 6, .int (nI (j + 1))] [] (g, I2, J, aP1 sl rd 56) := by
          rw [b111_13, if_neg (show ¬ 99 < nI j from nI_nlt (a := 99) (by omega) (by decide)), e78 I1 _ q2 (q1 14 (by decide)), hp']
          simp only [aBi]
          rw [b111_30, if_pos tI_f, g4]
          simp only [aBi]
          rw [b111_75, if_neg (of_eq_false (nIm1 (by omega))), nI_1]
        rw [e]
        exact ih (j + 1) I2 (by omega) (Fr_t q1 g1) g2
  have lR : ∀ (Ic : Nat → Nat → Int32) (J1 : Nat → Nat → Int64), Fr [12, 28, 35, 36] I Ic → ∀ (k j : Nat) (I1 : Nat → Nat → Int32) (rd1 : Nat), j + k = 100 → Fr [46, 57, 60] Ic I1 → F46 [13, 15, 16, 17, 18, 23] Ic I1 → rV (I1 60) = vsR st n (cV (I 24)) j → (jF (fun j => jn (vsR st n (cV (I 24)) j) (I 14 11)) k j = none → ∃ I' rd', Fr [46, 57, 60] Ic I' ∧ F46 [13, 15, 16, 17, 18, 23] Ic I' ∧ aE d 249 19 [.ref 46, .int (nI j)] [] (g, I1, J1, aP1 sl rd1 56) = some (some (some (.int (-2))), (g, I', J1, aP1 sl rd' 56))) ∧ (∀ i, jF (fun j => jn (vsR st n (cV (I 24)) j) (I 14 11)) k j = some i → ∃ I' rd', Fr [46, 57, 60] Ic I' ∧ F46 [13, 15, 16, 17, 18, 23] Ic I' ∧ aE d 249 19 [.ref 46, .int (nI j)] [] (g, I1, J1, aP1 sl rd1 56) = some (some (some (.int (nI i))), (g, aU I' 46 12 2, aU (aU J1 53 0 (Int32.toInt64 (vsR st n (cV (I 24)) i 2))) 53 1 (Int32.toInt64 (vsR st n (cV (I 24)) i 3)), aP1 sl rd' 56))) := by
    intro Ic J1 hIc k
    induction k with
    | zero =>
      intro j I1 rd1 hj q1 q2 q3
      obtain rfl : j = 100 := by omega
      refine ⟨fun _ => ⟨I1, rd1, q1, q2, ?_⟩, fun i h => by cases h⟩
      rw [b249_19, if_pos (by decide)]
    | succ k ih =>
      intro j I1 rd1 hj q1 q2 q3
      have r46 : ∀ j, j ∉ [13, 15, 16, 17, 18, 23] → I1 46 j = I 46 j := fun j hj => by rw [q2 j hj, hIc 46 (by decide)]
      by_cases hp : jn (vsR st n (cV (I 24)) j) (I 14 11) = true
      · rw [jF_t (p := fun j => jn (vsR st n (cV (I 24)) j) (I 14 11)) hp]
        refine ⟨fun h => (by cases h), fun i h => ?_⟩
        cases h
        exact ⟨I1, rd1, q1, q2, tellR I1 J1 rd1 _ j q3 hp (r46 8 (by decide)) (by omega)⟩
      · rw [jF_f (p := fun j => jn (vsR st n (cV (I 24)) j) (I 14 11)) hp]
        have hp' : jn (vsR st n (cV (I 24)) j) (I 14 11) = false := by simpa using hp
        obtain ⟨I2, rd2, g1, g2, g3, g4⟩ := f224s (d := d) (g := g) (I := I1) (J := J1) (sl := sl) (rd := rd1) (nd := n) (rs := kk) (rv := rv) (sk := I 15) (st := st) (v := cV (I 24)) (j := j) hd (by rw [q1 55 (by decide), hIc 55 (by decide)]; exact v4) (by rw [q1 55 (by decide), hIc 55 (by decide)]; exact v5) v6 (by rw [r46 22 (by decide)]; exact v2) (by rw [r46 1 (by decide)]; exact d2) hn h0 hst.symm cl (fun i hi => by rw [q1 48 (by decide), hIc 48 (by decide)]; exact sk i hi) q3
        have e : aE d 249 19 [.ref 46, .int (nI j)] [] (g, I1, J1, aP1 sl rd1 56) = aE d 249 19 [.ref 46, .int (nI (j + 1))] [] (g, I2, J1, aP1 sl rd2 56) := by
          rw [b249_19, if_neg (show ¬ 99 < nI j from nI_nlt (a := 99) (by omega) (by decide)), e228 I1 J1 rd1 _ q3 (r46 8 (by decide)), hp']
          simp only [aBi]
          rw [b249_33, if_pos tI_f, if_neg (by rw [r46 1 (by decide), d2]; exact nz), g4]
          simp only [aBi]
          rw [b249_83, nI_1]
        rw [e]
        exact ih (j + 1) I2 rd2 (by omega) (Fr_t q1 g1) (F46_t q2 (F46_w g2 (by decide))) g3
  obtain ⟨cN, cS⟩ := lC 100 0 (cpT I) rfl (Fr_w (cpT_F I) (by decide)) (cpT_V I)
  have lR0 : ∀ (Ic : Nat → Nat → Int32) (J1 : Nat → Nat → Int64) (h : Fr [12, 28, 35, 36] I Ic), _ := fun Ic J1 h => lR Ic J1 h 100 0 (cpR Ic) rd rfl (Fr_w (cpR_F _) (by decide)) (F46_w (cpR_46 _) (by decide)) (by rw [cpR_V, h 47 (by decide), ← hS.1]; rfl)
  cases hf : jF (fun j => jn (vsR st n (cV (I 24)) j) (I 14 11)) 100 0 with
  | none =>
    obtain ⟨I1, a1, a2⟩ := cN hf
    obtain ⟨I2, rd2, b1, b2, b3⟩ := (lR0 I1 J (Fr_w a1 (by decide))).1 hf
    exact tie_0 H (Fr_w a1 (by decide)) (Fr_w b1 (by decide)) (F46_w b2 (by decide)) (eC.trans a2) ((eR _ _).trans b3)
  | some i =>
    obtain ⟨I1, a1, a2⟩ := cS i hf
    obtain ⟨I2, rd2, b1, b2, b3⟩ := (lR0 (aU I1 12 1 2) (aU (aU J 13 0 (Int32.toInt64 (vsR st n (cV (I 24)) i 2))) 13 1 (Int32.toInt64 (vsR st n (cV (I 24)) i 3))) (by rw [aU_R]; exact Fr_s (Fr_w a1 (by decide)) _ (by decide))).2 i hf
    exact fin I1 I2 rd2 i _ a1 b1 b2 (eC.trans a2) ((eR _ _).trans b3)
theorem tie_ahead (hd : 41 ≤ d) (H : zInv t n m q I J) (a : Int32) : tie d 109 248 [.int a] t g I J sl rd := by
  obtain ⟨hn, d1, d2, -⟩ := H.2.2.1
  have hS := H.2.2.2.2.2.2.1
  have hL := H.2.2.2.2.2.1
  by_cases hn0 : n = 0
  · subst hn0
    refine tie_0 (rd2 := rd) (v := -2) H (Fr_r _ _) (th_F _) (th_46 _) ?_ ?_
    · show aE d 109 0 [.ref 6, .int a, aNo] [] _ = _
      rw [b109_0, if_pos (show I 14 0 = 0 from d1)]
    · show aE d 248 0 [.ref 46, .int a, aNo, aNo, aNo, aNo, aNo, aNo, aNo, aNo] [] _ = _
      rw [b248_0, if_pos (show I 46 1 = 0 from d2)]
  have h0 : 0 < n := by omega
  have nz := nIz h0 (by omega)
  by_cases hx : a < 0 ∨ 99 < a
  · refine tie_0 (rd2 := rd) (v := -1) H (Fr_r _ _) (th_F _) (th_46 _) ?_ ?_
    · show aE d 109 0 [.ref 6, .int a, aNo] [] _ = _
      rw [b109_0, if_neg (by rw [d1]; exact nz)]
      rcases hx with hx | hx
      · rw [if_pos hx]
      · rw [if_neg (c := a ≤ 99) (by rw [nle_lt]; exact hx), ite_self]
    · show aE d 248 0 [.ref 46, .int a, aNo, aNo, aNo, aNo, aNo, aNo, aNo, aNo] [] _ = _
      rw [b248_0, if_neg (by rw [d2]; exact nz), f181, inI_f hx]
      simp only [aBi]
      rw [b248_22, if_pos rfl]
  obtain ⟨N, hN, rfl⟩ := rngN (b := 99) (M := 99) rfl (by decide) hx
  obtain ⟨mm, kk, rv, v1, v2, v3, v4, v5, v6⟩ := zV_get H
  have sk := zD_s H
  have cl : clubs (fun i => cV (I 24) (6 + i)) n := fun i hi => by
    rw [hS.1]; exact hS.2.1.2.2.1 i hi
  obtain ⟨I1, c1, -, -, -, c5, c6, c7, -, c9⟩ := f64t (d := d) (g := g) (I := cpT I) (J := J) (sl := sl) (rd := rd) (rl := 56) (nd := n) (m := mm) (N := N) (rv := rv) (by rw [cpT_r _ (by decide)]; exact v3) (by rw [cpT_r _ (by decide)]; exact v1) (by rw [cpT_r _ (by decide)]; exact d1) hn h0 (fun i hi => by
    obtain ⟨k, hk, e⟩ := okS_cl hS hn i hi
    exact ⟨k, hk, (cpT_28 I (by omega)).trans e⟩) hN
  rw [cpT_V, cpT_r _ (show 15 ≠ 28 by decide)] at c5 c6 c7 c9
  rw [cpT_r _ (show 14 ≠ 28 by decide)] at c5
  generalize hst : sts rv (I 15) = st at c5 c6 c7 c9
  have G1 : Fr [28, 35, 36, 41] I I1 := Fr_t (Fr_w (cpT_F I) (by decide)) (Fr_w c1 (by decide))
  generalize hv : cV (I 24) = v at c5 c6 c7 c9 cl
  generalize hJ : aU (aU (aU J 13 0 (Int32.toInt64 (nI (mbR st n v N)))) 13 1 (Int32.toInt64 (nI (mgR st n v N)))) 13 2 (Int32.toInt64 (nI (joR st n v (I 14 11) N))) = J1
  have e1 : aF d 109 [.ref 6, .int (nI N)] (g, I, J, aP1 sl rd 56) = some (some (some (.int (nI (blR st n v N)))), (g, aU I1 12 1 3, J1, aP1 sl rd 56)) := by
    show aE d 109 0 [.ref 6, .int (nI N), aNo] [] _ = _
    rw [b109_0, if_neg (by rw [d1]; exact nz), if_neg (fun h => hx (Or.inl h)), if_pos (Classical.byContradiction fun h => hx (Or.inr (by rw [← nle_lt]; exact h))), f63_28]
    simp only [aBv]
    rw [b109_36, show aR I 28 (cpB (I 28) (I 24) 0 32) = cpT I from rfl, c9]
    simp only [aBi]
    rw [b109_56, f110, c5, c6, c7, hJ]
    simp only [aBv]
    rw [b109_88]
  have G2 : Fr [12, 28, 35, 36, 41] I (aU I1 12 1 3) := by rw [aU_R]; exact Fr_s (Fr_w G1 (by decide)) _ (by decide)
  generalize hIc : aU I1 12 1 3 = Ic at e1 G2
  have B1 := blR_le st n v
  have B2 := biR_le st n v
  have B3 := giR_le st n v
  have B4 := mbR_le st n v
  have B5 := mgR_le st n v
  have e228 : ∀ (I1 : Nat → Nat → Int32) (rd1 : Nat) (w : Nat → Int32), rV (I1 60) = w → I1 46 8 = I 46 8 → aF d 228 [.ref 46, .ref 60] (g, I1, J1, aP1 sl rd1 56) = some (some (some (.int (tI (jn w (I 14 11))))), (g, I1, J1, aP1 sl rd1 56)) := by
    intro I1 rd1 w h1 h2
    rw [f228_60, jn_r, ← jn_rV, h1, h2, ← hL]
  have lR : ∀ (M j : Nat) (I1 : Nat → Nat → Int32) (rd1 : Nat) (w9 : Value) (run last : Int32), j + M = N → Fr [46, 57, 60] Ic I1 → F46 [13, 15, 16, 17, 18, 23] Ic I1 → rV (I1 60) = vsR st n v j → ((last = -1 ∧ biR st n v j = 0 ∧ giR st n v j = 0) ∨ (last = 0 ∧ run = nI (biR st n v j) ∧ giR st n v j = 0) ∨ (last = 1 ∧ run = nI (giR st n v j) ∧ biR st n v j = 0)) → ∃ I' rd', Fr [46, 57, 60] Ic I' ∧ F46 [13, 15, 16, 17, 18, 23] Ic I' ∧ aE d 248 58 [.ref 46, .int (nI N), .int (nI (blR st n v j)), .int (nI (joR st n v (I 14 11) j)), .int run, .int last, .int (nI (mbR st n v j)), .int (nI (mgR st n v j)), .int (nI j), w9] [] (g, I1, J1, aP1 sl rd1 56) = some (some (some (.int (nI (blR st n v N)))), (g, aU I' 46 12 3, aU (aU (aU J1 53 0 (Int32.toInt64 (nI (mbR st n v N)))) 53 1 (Int32.toInt64 (nI (mgR st n v N)))) 53 2 (Int32.toInt64 (nI (joR st n v (I 14 11) N))), aP1 sl rd' 56)) := by
    intro M
    induction M with
    | zero =>
      intro j I1 rd1 w9 run last hj q1 q2 q3 _
      obtain rfl : j = N := by omega
      refine ⟨I1, rd1, q1, q2, ?_⟩
      rw [b248_58, if_pos (Int32.le_refl _), tell0]
      simp only [aBv]
      rw [b248_201, tell1]
      simp only [aBv]
      rw [b248_208, tell2]
      simp only [aBv]
      rw [b248_214]
    | succ M ih =>
      intro j I1 rd1 w9 run last hj q1 q2 q3 hQ
      have r46 : ∀ j, j ∉ [13, 15, 16, 17, 18, 23] → I1 46 j = I 46 j := fun j hj => by rw [q2 j hj, G2 46 (by decide)]
      obtain ⟨hl, k, hk, k1, k2⟩ := vsR_1 (st := st) cl hn h0 j
      have hw : wnR st n v j < n := wn_lt _ h0
      obtain ⟨I2, rd2, a1, a2, a3⟩ := f225t (d := d) (g := g) (I := I1) (J := J1) (sl := sl) (rd := rd1) (nd := n) (rs := kk) (rv := rv) (sk := I 15) hd (by rw [q1 55 (by decide), G2 55 (by decide)]; exact v4) (by rw [q1 55 (by decide), G2 55 (by decide)]; exact v5) v6 (by rw [r46 22 (by decide)]; exact v2) (by rw [r46 1 (by decide)]; exact d2) hn h0 (fun i hi => by
        obtain ⟨k, hk, e⟩ := cl i hi
        exact ⟨k, hk, by show I1 60 (6 + i) = nI k; rw [← rV_lt (I1 60) (show 6 + i < 39 by omega), q3, hl i (by omega)]; exact e⟩) (fun i hi => by rw [q1 48 (by decide), G2 48 (by decide)]; exact sk i hi)
      rw [hst, q3] at a3
      have a3 : aF d 225 [.ref 46, .ref 60] (g, I1, J1, aP1 sl rd1 56) = some (some (some (.int (nI (wnR st n v j)))), (g, I2, J1, aP1 sl rd2 56)) := a3
      have q1' : Fr [46, 57, 60] Ic I2 := Fr_t q1 (Fr_w a1 (by decide))
      have q2' : F46 [13, 15, 16, 17, 18, 23] Ic I2 := F46_t q2 (F46_w a2 (by decide))
      have r46' : ∀ j, j ∉ [13, 15, 16, 17, 18, 23] → I2 46 j = I 46 j := fun j hj => by rw [q2' j hj, G2 46 (by decide)]
      have q3' : rV (I2 60) = vsR st n v j := by rw [a1 60 (by decide)]; exact q3
      obtain ⟨I3, rd3, g1, g2, g3, g4⟩ := f224s (d := d) (g := g) (I := I2) (J := J1) (sl := sl) (rd := rd2) (nd := n) (rs := kk) (rv := rv) (sk := I 15) (st := st) (v := v) (j := j) hd (by rw [q1' 55 (by decide), G2 55 (by decide)]; exact v4) (by rw [q1' 55 (by decide), G2 55 (by decide)]; exact v5) v6 (by rw [r46' 22 (by decide)]; exact v2) (by rw [r46' 1 (by decide)]; exact d2) hn h0 hst.symm cl (fun i hi => by rw [q1' 48 (by decide), G2 48 (by decide)]; exact sk i hi) q3'
      have q1'' : Fr [46, 57, 60] Ic I3 := Fr_t q1' g1
      have q2'' : F46 [13, 15, 16, 17, 18, 23] Ic I3 := F46_t q2' (F46_w g2 (by decide))
      have hc : I2 60 (6 + wnR st n v j) = nI k := by rw [← k1, ← q3', rV_lt _ (by omega)]
      have hB : isB st n v j = decide (nI k = 0) := by unfold isB; rw [k1]
      have b1 := B1 j
      have b2 := B2 j
      have b3 := B3 j
      have b4 := B4 j
      have b5 := B5 j
      have j1 : joR st n v (I 14 11) (j + 1) = joR st n v (I 14 11) j + (jn (vsR st n v (j + 1)) (I 14 11)).toNat := rfl
      rw [b248_58, if_neg (nI_ge (by omega) (by omega)), a3]
      simp only [aBi]
      rw [b248_78]
      simp (disch := omega) only [hc, g4, aBi, aBv, aBl, nI_1, nIle_t, nIle_f, nIlt_t, nIlt_f, nIeq_t, nIeq_f, nIneg, nI_clamp, nat_le_f, nat_le_t, nat_lt_f, nat_lt_t, or_self, or_false, false_or, if_true, if_false, ↓reduceIte, Int32.or_zero, Int32.add_zero, nIm2, nIm3, nIm4, nIp2, nIp4, nIp6, nIp8, nIp14, nIp16, nIp22, nIp24, nIp30, nIq2, nIq3, nIq4, hasI_0, aU_s, aU_i, aU_r, aU_u]
      have e8 := e228 I3 rd3 _ g3 (by rw [q2'' 8 (by decide), G2 46 (by decide)])
      have m1 : ∀ x y : Nat, x ≤ 200 → y ≤ 200 → (if nI x < nI y then nI y else nI x) = nI (if x < y then y else x) := by
        intro x y hx hy
        by_cases h : x < y
        · rw [if_pos h, if_pos (nI_lt h (by omega))]
        · rw [if_neg h, if_neg (nI_nlt (by omega) (by omega))]
      rcases (by omega : k = 0 ∨ k = 1) with rfl | rfl
      · have hB : isB st n v j = true := by rw [hB]; rfl
        have x1 : blR st n v (j + 1) = blR st n v j + 1 := if_pos hB
        have x2 : biR st n v (j + 1) = biR st n v j + 1 := if_pos hB
        have x3 : giR st n v (j + 1) = 0 := if_pos hB
        have x4 : mgR st n v (j + 1) = mgR st n v j := by
          show (if mgR st n v j < giR st n v (j + 1) then giR st n v (j + 1) else mgR st n v j) = _
          rw [x3, if_neg (Nat.not_lt_zero _)]
        have x5 : (if nI (mbR st n v j) < nI (biR st n v (j + 1)) then nI (biR st n v (j + 1)) else nI (mbR st n v j)) = nI (mbR st n v (j + 1)) := m1 _ _ (by omega) (by omega)
        have go : aE d 248 90 [.ref 46, .int (nI N), .int (nI (blR st n v j)), .int (nI (joR st n v (I 14 11) j)), .int run, .int last, .int (nI (mbR st n v j)), .int (nI (mgR st n v j)), .int (nI j), .int (nI 0)] [.int (nI (wnR st n v j))] (g, I3, J1, aP1 sl rd3 56) = aE d 248 58 [.ref 46, .int (nI N), .int (nI (blR st n v (j + 1))), .int (nI (joR st n v (I 14 11) (j + 1))), .int (nI (biR st n v (j + 1))), .int 0, .int (nI (mbR st n v (j + 1))), .int (nI (mgR st n v (j + 1))), .int (nI (j + 1)), .int (nI 0)] [] (g, I3, J1, aP1 sl rd3 56) := by
          have y : ∀ r : Int32, r = nI (biR st n v (j + 1)) → aE d 248 134 [.ref 46, .int (nI N), .int (nI (blR st n v j) + 1), .int (nI (joR st n v (I 14 11) j)), .int r, .int (nI 0), .int (nI (mbR st n v j)), .int (nI (mgR st n v j)), .int (nI j), .int (nI 0)] [.int (tI (jn (vsR st n v (j + 1)) (I 14 11))), .int (nI (joR st n v (I 14 11) j))] (g, I3, J1, aP1 sl rd3 56) = aE d 248 58 [.ref 46, .int (nI N), .int (nI (blR st n v (j + 1))), .int (nI (joR st n v (I 14 11) (j + 1))), .int (nI (biR st n v (j + 1))), .int 0, .int (nI (mbR st n v (j + 1))), .int (nI (mgR st n v (j + 1))), .int (nI (j + 1)), .int (nI 0)] [] (g, I3, J1, aP1 sl rd3 56) := by
            intro r hr
            rw [b248_134, hr]
            simp only [nI_00, show (nI 0 = (1 : Int32)) = False from eq_false (by decide), if_true, if_false]
            rw [ifT _ (fun z => aE d 248 58 [.ref 46, .int (nI N), .int (nI (blR st n v j) + 1), .int z, .int (nI (biR st n v (j + 1))), .int (nI 0), _, _, _, _] [] (g, I3, J1, aP1 sl rd3 56)), tI_n, nI_add, ← j1, nI_1, nI_1, ← x1, x5, ← x4]
            rfl
          rw [b248_90]
          by_cases h : nI 0 = last
          · rw [if_pos h, if_pos (show nI 0 = (0 : Int32) from rfl), e8]
            simp only [aBi]
            refine y _ ?_
            rcases hQ with ⟨w1, _⟩ | ⟨_, w2, _⟩ | ⟨w1, _⟩
            · rw [← h] at w1; exact absurd w1 (by decide)
            · rw [w2, x2, nI_1]
            · rw [← h] at w1; exact absurd w1 (by decide)
          · rw [if_neg h, if_pos (show nI 0 = (0 : Int32) from rfl), e8]
            simp only [aBi]
            refine y _ ?_
            rcases hQ with ⟨_, w2, _⟩ | ⟨w1, _⟩ | ⟨_, _, w2⟩
            · rw [x2, w2]; rfl
            · exact absurd w1.symm h
            · rw [x2, w2]; rfl
        rw [go]
        exact ih (j + 1) I3 rd3 _ _ _ (by omega) q1'' q2'' g3 (Or.inr (Or.inl ⟨rfl, rfl, x3⟩))
      · have hB : ¬ isB st n v j = true := by rw [hB]; decide
        have x1 : blR st n v (j + 1) = blR st n v j := if_neg hB
        have x2 : biR st n v (j + 1) = 0 := if_neg hB
        have x3 : giR st n v (j + 1) = giR st n v j + 1 := if_neg hB
        have x4 : mbR st n v (j + 1) = mbR st n v j := by
          show (if mbR st n v j < biR st n v (j + 1) then biR st n v (j + 1) else mbR st n v j) = _
          rw [x2, if_neg (Nat.not_lt_zero _)]
        have x5 : (if nI (mgR st n v j) < nI (giR st n v (j + 1)) then nI (giR st n v (j + 1)) else nI (mgR st n v j)) = nI (mgR st n v (j + 1)) := m1 _ _ (by omega) (by omega)
        have go : aE d 248 90 [.ref 46, .int (nI N), .int (nI (blR st n v j)), .int (nI (joR st n v (I 14 11) j)), .int run, .int last, .int (nI (mbR st n v j)), .int (nI (mgR st n v j)), .int (nI j), .int (nI 1)] [.int (nI (wnR st n v j))] (g, I3, J1, aP1 sl rd3 56) = aE d 248 58 [.ref 46, .int (nI N), .int (nI (blR st n v (j + 1))), .int (nI (joR st n v (I 14 11) (j + 1))), .int (nI (giR st n v (j + 1))), .int 1, .int (nI (mbR st n v (j + 1))), .int (nI (mgR st n v (j + 1))), .int (nI (j + 1)), .int (nI 1)] [] (g, I3, J1, aP1 sl rd3 56) := by
          have y : ∀ r : Int32, r = nI (giR st n v (j + 1)) → aE d 248 134 [.ref 46, .int (nI N), .int (nI (blR st n v j) + 0), .int (nI (joR st n v (I 14 11) j)), .int r, .int (nI 1), .int (nI (mbR st n v j)), .int (nI (mgR st n v j)), .int (nI j), .int (nI 1)] [.int (tI (jn (vsR st n v (j + 1)) (I 14 11))), .int (nI (joR st n v (I 14 11) j))] (g, I3, J1, aP1 sl rd3 56) = aE d 248 58 [.ref 46, .int (nI N), .int (nI (blR st n v (j + 1))), .int (nI (joR st n v (I 14 11) (j + 1))), .int (nI (giR st n v (j + 1))), .int 1, .int (nI (mbR st n v (j + 1))), .int (nI (mgR st n v (j + 1))), .int (nI (j + 1)), .int (nI 1)] [] (g, I3, J1, aP1 sl rd3 56) := by
            intro r hr
            rw [b248_134, hr]
            simp only [nI_10, show (nI 1 = (1 : Int32)) = True from eq_true rfl, if_true, if_false]
            rw [ifT _ (fun z => aE d 248 58 [.ref 46, .int (nI N), .int (nI (blR st n v j) + 0), .int z, .int (nI (giR st n v (j + 1))), .int (nI 1), _, _, _, _] [] (g, I3, J1, aP1 sl rd3 56)), tI_n, nI_add, ← j1, nI_1, Int32.add_zero, ← x1, x5, ← x4]
            rfl
          rw [b248_90]
          by_cases h : nI 1 = last
          · rw [if_pos h, if_neg (show ¬ nI 1 = (0 : Int32) from by decide), e8]
            simp only [aBi]
            refine y _ ?_
            rcases hQ with ⟨w1, _⟩ | ⟨w1, _⟩ | ⟨_, w2, _⟩
            · rw [← h] at w1; exact absurd w1 (by decide)
            · rw [← h] at w1; exact absurd w1 (by decide)
            · rw [w2, x3, nI_1]
          · rw [if_neg h, if_neg (show ¬ nI 1 = (0 : Int32) from by decide), e8]
            simp only [aBi]
            refine y _ ?_
            rcases hQ with ⟨_, _, w2⟩ | ⟨_, _, w2⟩ | ⟨w1, _⟩
            · rw [x3, w2]; rfl
            · rw [x3, w2]; rfl
            · exact absurd w1.symm h
        rw [go]
        exact ih (j + 1) I3 rd3 _ _ _ (by omega) q1'' q2'' g3 (Or.inr (Or.inr ⟨rfl, rfl, x2⟩))
  obtain ⟨I2, rd2, b1, b2, b3⟩ := lR N 0 (cpR Ic) rd aNo 0 (-1) (by omega) (Fr_w (cpR_F _) (by decide)) (F46_w (cpR_46 _) (by decide)) (by rw [cpR_V, G2 47 (by decide), ← hS.1, hv]; rfl) (Or.inl ⟨rfl, rfl, rfl⟩)
  have e2 : aF d 248 [.ref 46, .int (nI N)] (g, Ic, J1, aP1 sl rd 56) = some (some (some (.int (nI (blR st n v N)))), (g, aU I2 46 12 3, aU (aU (aU J1 53 0 (Int32.toInt64 (nI (mbR st n v N)))) 53 1 (Int32.toInt64 (nI (mgR st n v N)))) 53 2 (Int32.toInt64 (nI (joR st n v (I 14 11) N))), aP1 sl rd2 56)) := by
    show aE d 248 0 [.ref 46, .int (nI N), aNo, aNo, aNo, aNo, aNo, aNo, aNo, aNo] [] _ = _
    rw [b248_0, if_neg (by rw [G2 46 (by decide), d2]; exact nz), f181, inI_t (fun h => hx (Or.inl h)) (fun h => hx (Or.inr h))]
    simp only [aBi]
    rw [b248_22, if_neg (by decide), f222R]
    simp only [aBv]
    rw [b248_39]
    exact b3
  refine tie_R H (Fr_w G2 (by decide)) ?_ ?_ ?_ e1 e2
  · rw [aU_R]; exact Fr_s (Fr_w b1 (by decide)) _ (by decide)
  · intro j hj
    rw [aU_i _ _ (fun e => hj (by rw [e]; decide))]
    exact (F46_w b2 (by decide) : F46 (12 :: scf) _ I2) j hj
  · refine zR_3 ?_ ?_ ?_ ?_ ?_
    · rw [aU_r _ _ (by decide), b1 12 (by decide), ← hIc, aU_s]
    · rw [aU_s]
    · rw [← hJ]; simp (disch := decide) only [aU_r, aU_i, aU_s]
    · rw [← hJ]; simp (disch := decide) only [aU_r, aU_i, aU_s]
    · rw [← hJ]; simp (disch := decide) only [aU_r, aU_i, aU_s]
end T01
section T02
/-! who would win; bribe: tied -/
variable {d : Nat} {g : Nat × Nat × Nat} {I : Nat → Nat → Int32} {J : Nat → Nat → Int64} {sl rd rl : Nat} {t n m q : Nat}
/-- in state v the first of n is of club a -/
def wv (st : (Nat → Int32) → Nat → Int32) (n : Nat) (v : Nat → Int32) (a : Int32) : Bool := decide (v (6 + wn (st v) n) = a)
theorem f113 {mm nd : Nat} {rv : (Nat → Int32) → Int32} (hR : cRule (I 34) mm rv) (hs : I 33 1 = nI mm) (h0 : I 14 0 = nI nd) (hn : nd ≤ 8) (hd : 0 < nd) (hc : clubs (fun i => I 24 (8 + i)) nd) (a : Int32) : ∃ I', Fr [35, 36] I I' ∧ aF d 113 [.ref 6, .ref 23, .int a] (g, I, J, aP1 sl rd rl) = some (some (some (.int (tI (wv (sts rv (I 15)) nd (cV (I 24)) a)))), (g, I', J, aP1 sl rd rl)) := by
  obtain ⟨x, y, e⟩ := f66 (d := d) (g := g) (I := I) (J := J) (sl := sl) (rd := rd) (rl := rl) (nd := nd) hR hs h0 hn hc 0
  rw [fas_wn _ hd hn] at e
  have hw := wn_lt (sts rv (I 15) (cV (I 24))) hd
  refine ⟨aR (aR I 35 x) 36 y, Fr_s (Fr_s (Fr_r _ _) x (by decide)) y (by decide), ?_⟩
  show aE d 113 0 [.ref 6, .ref 23, .int a, aNo] [] _ = _
  rw [b113_0, e]
  simp only [aBi]
  rw [b113_13, if_neg (of_eq_false (nIm1 (by omega))), f68_23 (by omega)]
  simp only [aBi]
  rw [b113_24, aR_r _ _ (by decide), aR_r _ _ (by decide)]
  unfold wv
  rw [← cV_l (I 24) (show wn (sts rv (I 15) (cV (I 24))) nd < 8 by omega)]
  by_cases h : cV (I 24) (6 + wn (sts rv (I 15) (cV (I 24))) nd) = a
  · rw [if_pos h, decide_eq_true h]; rfl
  · rw [if_neg h, decide_eq_false h]; rfl
theorem f113t {mm nd : Nat} {rv : (Nat → Int32) → Int32} (hR : cRule (I 34) mm rv) (hs : I 33 1 = nI mm) (h0 : I 14 0 = nI nd) (hn : nd ≤ 8) (hd : 0 < nd) (hc : clubs (fun i => I 28 (8 + i)) nd) (a : Int32) : ∃ I', Fr [35, 36] I I' ∧ aF d 113 [.ref 6, .ref 27, .int a] (g, I, J, aP1 sl rd rl) = some (some (some (.int (tI (wv (sts rv (I 15)) nd (cV (I 28)) a)))), (g, I', J, aP1 sl rd rl)) := by
  obtain ⟨x, y, e⟩ := f66t (d := d) (g := g) (I := I) (J := J) (sl := sl) (rd := rd) (rl := rl) (nd := nd) hR hs h0 hn hc 0
  rw [fas_wn _ hd hn] at e
  have hw := wn_lt (sts rv (I 15) (cV (I 28))) hd
  refine ⟨aR (aR I 35 x) 36 y, Fr_s (Fr_s (Fr_r _ _) x (by decide)) y (by decide), ?_⟩
  show aE d 113 0 [.ref 6, .ref 27, .int a, aNo] [] _ = _
  rw [b113_0_2, e]
  simp only [aBi]
  rw [b113_13_2, if_neg (of_eq_false (nIm1 (by omega))), f68_27 (by omega)]
  simp only [aBi]
  rw [b113_24, aR_r _ _ (by decide), aR_r _ _ (by decide)]
  unfold wv
  rw [← cV_l (I 28) (show wn (sts rv (I 15) (cV (I 28))) nd < 8 by omega)]
  by_cases h : cV (I 28) (6 + wn (sts rv (I 15) (cV (I 28))) nd) = a
  · rw [if_pos h, decide_eq_true h]; rfl
  · rw [if_neg h, decide_eq_false h]; rfl
theorem f113_0 {mm : Nat} {rv : (Nat → Int32) → Int32} (hR : cRule (I 34) mm rv) (hs : I 33 1 = nI mm) (h0 : I 14 0 = nI 0) (a : Int32) : ∃ I', Fr [35, 36] I I' ∧ aF d 113 [.ref 6, .ref 23, .int a] (g, I, J, aP1 sl rd rl) = some (some (some (.int 0)), (g, I', J, aP1 sl rd rl)) := by
  obtain ⟨x, y, e⟩ := f66 (d := d) (g := g) (I := I) (J := J) (sl := sl) (rd := rd) (rl := rl) (nd := 0) hR hs h0 (by decide) (fun i hi => by omega) 0
  have e : aF d 66 [.ref 33, .ref 14, .ref 23, .int 0] (g, I, J, aP1 sl rd rl) = some (some (some (.int (-1))), (g, aR (aR I 35 x) 36 y, J, aP1 sl rd rl)) := e
  refine ⟨aR (aR I 35 x) 36 y, Fr_s (Fr_s (Fr_r _ _) x (by decide)) y (by decide), ?_⟩
  show aE d 113 0 [.ref 6, .ref 23, .int a, aNo] [] _ = _
  rw [b113_0, e]
  simp only [aBi]
  rw [b113_13, if_pos rfl]
theorem f251 {nd rs : Nat} {rv : (Nat → Int32) → Int32} {sk : Nat → Int32} (hd : 41 ≤ d) (hV : rRule (I 55) rs rv) (hB : byR (I 55)) (hC : ∀ t t' : Nat → Int32, (∀ k, k < 8 → t k = t' k) → rv t = rv t') (hs : I 46 22 = nI rs) (hN : I 46 1 = nI nd) (hn : nd ≤ 8) (h0 : 0 < nd) (hc : clubs (fun i => I 47 (6 + i)) nd) (hsk : ∀ i, i < nd → I 48 i = sk i) (a : Int32) : ∃ I' rd', Fr [46, 57] I I' ∧ F46 [15, 16, 17, 18, 23] I I' ∧ aF d 251 [.ref 46, .ref 47, .int a] (g, I, J, aP1 sl rd 56) = some (some (some (.int (tI (wv (sts rv sk) nd (rV (I 47)) a)))), (g, I', J, aP1 sl rd' 56)) := by
  obtain ⟨I1, rd1, a1, a2, a3⟩ := f225 (d := d) (g := g) (I := I) (J := J) (sl := sl) (rd := rd) hd hV hB hC hs hN hn h0 hc hsk
  have hw := wn_lt (sts rv sk (rV (I 47))) h0
  refine ⟨I1, rd1, a1, a2, ?_⟩
  show aE d 251 0 [.ref 46, .ref 47, .int a] [] _ = _
  rw [b251_0, a3]
  simp only [aBi]
  rw [b251_8]
  simp (disch := omega) only [a1 47 (by decide), aBi, aBv, aBl, nI_1, nIle_t, nIle_f, nIlt_t, nIlt_f, nIeq_t, nIeq_f, nIneg, nI_clamp, nat_le_f, nat_le_t, nat_lt_f, nat_lt_t, or_self, or_false, false_or, if_true, if_false, ↓reduceIte, Int32.or_zero, Int32.add_zero, nIm2, nIm3, nIm4, nIp2, nIp4, nIp6, nIp8, nIp14, nIp16, nIp22, nIp24, nIp30, nIq2, nIq3, nIq4, hasI_0, aU_s, aU_i, aU_r, aU_u]
  unfold wv
  rw [← rV_lt (I 47) (show 6 + wn (sts rv sk (rV (I 47))) nd < 39 by omega)]
  by_cases h : rV (I 47) (6 + wn (sts rv sk (rV (I 47))) nd) = a
  · rw [if_pos h, decide_eq_true h]; rfl
  · rw [if_neg h, decide_eq_false h]; rfl
theorem f251t {nd rs : Nat} {rv : (Nat → Int32) → Int32} {sk : Nat → Int32} (hd : 41 ≤ d) (hV : rRule (I 55) rs rv) (hB : byR (I 55)) (hC : ∀ t t' : Nat → Int32, (∀ k, k < 8 → t k = t' k) → rv t = rv t') (hs : I 46 22 = nI rs) (hN : I 46 1 = nI nd) (hn : nd ≤ 8) (h0 : 0 < nd) (hc : clubs (fun i => I 60 (6 + i)) nd) (hsk : ∀ i, i < nd → I 48 i = sk i) (a : Int32) : ∃ I' rd', Fr [46, 57] I I' ∧ F46 [15, 16, 17, 18, 23] I I' ∧ aF d 251 [.ref 46, .ref 60, .int a] (g, I, J, aP1 sl rd 56) = some (some (some (.int (tI (wv (sts rv sk) nd (rV (I 60)) a)))), (g, I', J, aP1 sl rd' 56)) := by
  obtain ⟨I1, rd1, a1, a2, a3⟩ := f225t (d := d) (g := g) (I := I) (J := J) (sl := sl) (rd := rd) hd hV hB hC hs hN hn h0 hc hsk
  have hw := wn_lt (sts rv sk (rV (I 60))) h0
  refine ⟨I1, rd1, a1, a2, ?_⟩
  show aE d 251 0 [.ref 46, .ref 60, .int a] [] _ = _
  rw [b251_0_2, a3]
  simp only [aBi]
  rw [b251_8_2]
  simp (disch := omega) only [a1 60 (by decide), aBi, aBv, aBl, nI_1, nIle_t, nIle_f, nIlt_t, nIlt_f, nIeq_t, nIeq_f, nIneg, nI_clamp, nat_le_f, nat_le_t, nat_lt_f, nat_lt_t, or_self, or_false, false_or, if_true, if_false, ↓reduceIte, Int32.or_zero, Int32.add_zero, nIm2, nIm3, nIm4, nIp2, nIp4, nIp6, nIp8, nIp14, nIp16, nIp22, nIp24, nIp30, nIq2, nIq3, nIq4, hasI_0, aU_s, aU_i, aU_r, aU_u]
  unfold wv
  rw [← rV_lt (I 60) (show 6 + wn (sts rv sk (rV (I 60))) nd < 39 by omega)]
  by_cases h : rV (I 60) (6 + wn (sts rv sk (rV (I 60))) nd) = a
  · rw [if_pos h, decide_eq_true h]; rfl
  · rw [if_neg h, decide_eq_false h]; rfl
def br1 (st : (Nat → Int32) → Nat → Int32) (n : Nat) (V : Nat → Int32) (c : Nat) (pr : Nat → Int32) (j : Nat) (b : Int32) : Int32 :=
  if ¬ V (6 + j) = nI c ∧ pr j ≤ V c ∧ (b = -1 ∨ pr j < pr b.toNatClampNeg) ∧ wv st n (rBuy V c j (pr j)) (nI c) = true then nI j else b
theorem br1_ix {st : (Nat → Int32) → Nat → Int32} {n : Nat} {V : Nat → Int32} {c : Nat} {pr : Nat → Int32} {j : Nat} {b : Int32} (hj : j < n) (hb : b = -1 ∨ ∃ i, i < n ∧ b = nI i) : br1 st n V c pr j b = -1 ∨ ∃ i, i < n ∧ br1 st n V c pr j b = nI i := by
  unfold br1
  split
  · exact Or.inr ⟨j, hj, rfl⟩
  · exact hb
theorem fo_1 {α : Type} (f : Nat → α → α) (m i : Nat) (a : α) : fo f (m + 1) i a = fo f m (i + 1) (f i a) := rfl
theorem br_ix {st : (Nat → Int32) → Nat → Int32} {n : Nat} {V : Nat → Int32} {c : Nat} {pr : Nat → Int32} : ∀ (k j : Nat) (b : Int32), j + k = n → (b = -1 ∨ ∃ i, i < n ∧ b = nI i) → (fo (br1 st n V c pr) k j b = -1 ∨ ∃ i, i < n ∧ fo (br1 st n V c pr) k j b = nI i) := by
  intro k
  induction k with
  | zero => intro j b _ hb; exact hb
  | succ k ih => intro j b hj hb; rw [fo_1]; exact ih (j + 1) _ (by omega) (br1_ix (by omega) hb)
theorem tie_bribe (hd : 41 ≤ d) (H : zInv t n m q I J) (a : Int32) : tie d 112 250 [.int a] t g I J sl rd := by
  obtain ⟨hn, d1, d2, -⟩ := H.2.2.1
  have hS := H.2.2.2.2.2.2.1
  obtain ⟨mm, kk, rv, v1, v2, v3, v4, v5, v6⟩ := zV_get H
  have sk := zD_s H
  rcases isC_ix a with ha | ⟨c, hc, rfl⟩
  · refine tie_0 (rd2 := rd) (v := -1) H (Fr_r _ _) (th_F _) (th_46 _) ?_ ?_
    · show aE d 112 0 [.ref 6, .int a, aNo, aNo, aNo] [] _ = _
      rw [b112_0, f75]
      simp only [aBi]
      rw [b112_4, if_pos ha]
    · show aE d 250 0 [.ref 46, .int a, aNo, aNo] [] _ = _
      rw [b250_0, f213]
      simp only [aBi]
      rw [b250_9, if_pos ha]
  by_cases hn0 : n = 0
  · subst hn0
    obtain ⟨I1, f1, f2⟩ := f113_0 (d := d) (g := g) (I := I) (J := J) (sl := sl) (rd := rd) (rl := 56) v3 v1 d1 (nI c)
    refine tie_0 (rd2 := rd) (v := -2) H (Fr_w f1 (by decide)) (th_F _) (th_46 _) ?_ ?_
    · show aE d 112 0 [.ref 6, .int (nI c), aNo, aNo, aNo] [] _ = _
      rw [b112_0, f75]
      simp only [aBi]
      rw [b112_4, isC_n hc, if_neg (by decide), f2]
      simp only [aBi]
      rw [b112_18, if_pos rfl, b112_37, if_pos (show I1 14 0 ≤ 0 from by rw [f1 14 (by decide), d1]; decide), if_pos rfl]
    · show aE d 250 0 [.ref 46, .int (nI c), aNo, aNo] [] _ = _
      rw [b250_0, f213]
      simp only [aBi]
      rw [b250_9, isC_n hc, if_neg (by decide), if_pos (show aU I1 46 13 0 46 1 = 0 from by rw [aU_i _ _ (by decide), f1 46 (by decide)]; exact d2)]
  have h0 : 0 < n := by omega
  have nz := nIz h0 (by omega)
  generalize hst : sts rv (I 15) = st
  have hV : ∀ i, i < 39 → rV (I 47) i = I 47 i := fun i hi => rV_lt _ hi
  -- the class's look at a state
  have W : ∀ (I1 : Nat → Nat → Int32) (h : Nat → Int32), Fr [28, 35, 36] I I1 → okS n q (I1 28) h → ∃ I', Fr [28, 35, 36] I I' ∧ aF d 113 [.ref 6, .ref 27, .int (nI c)] (g, I1, J, aP1 sl rd 56) = some (some (some (.int (tI (wv st n (rV h) (nI c))))), (g, I', J, aP1 sl rd 56)) := by
    intro I1 h q1 q2
    obtain ⟨I', f1, f2⟩ := f113t (d := d) (g := g) (I := I1) (J := J) (sl := sl) (rd := rd) (rl := 56) (nd := n) (mm := mm) (rv := rv) (by rw [q1 34 (by decide)]; exact v3) (by rw [q1 33 (by decide)]; exact v1) (by rw [q1 14 (by decide)]; exact d1) hn h0 (okS_cl q2 hn) (nI c)
    rw [q1 15 (by decide), hst, q2.1] at f2
    exact ⟨I', Fr_t q1 (Fr_w f1 (by decide)), f2⟩
  have Wr : ∀ (Ic I1 : Nat → Nat → Int32) (J1 : Nat → Nat → Int64) (rd1 : Nat) (f : Nat → Int32), Fr [12, 28, 35, 36] I Ic → Fr [46, 57, 60] Ic I1 → F46 [13, 15, 16, 17, 18, 23] Ic I1 → okS n q f (I1 60) → ∃ I' rd', Fr [46, 57, 60] Ic I' ∧ F46 [13, 15, 16, 17, 18, 23] Ic I' ∧ aF d 251 [.ref 46, .ref 60, .int (nI c)] (g, I1, J1, aP1 sl rd1 56) = some (some (some (.int (tI (wv st n (rV (I1 60)) (nI c))))), (g, I', J1, aP1 sl rd' 56)) := by
    intro Ic I1 J1 rd1 f h1 q1 q2 q3
    have r46 : ∀ j, j ∉ [13, 15, 16, 17, 18, 23] → I1 46 j = I 46 j := fun j hj => by rw [q2 j hj, h1 46 (by decide)]
    obtain ⟨I', rd', a1, a2, a3⟩ := f251t (d := d) (g := g) (I := I1) (J := J1) (sl := sl) (rd := rd1) (nd := n) (rs := kk) (rv := rv) (sk := I 15) hd (by rw [q1 55 (by decide), h1 55 (by decide)]; exact v4) (by rw [q1 55 (by decide), h1 55 (by decide)]; exact v5) v6 (by rw [r46 22 (by decide)]; exact v2) (by rw [r46 1 (by decide)]; exact d2) hn h0 (okS_clr q3 hn) (fun i hi => by rw [q1 48 (by decide), h1 48 (by decide)]; exact sk i hi) (nI c)
    rw [hst] at a3
    exact ⟨I', rd', Fr_t q1 (Fr_w a1 (by decide)), F46_t q2 (F46_w a2 (by decide)), a3⟩
  -- as it is
  obtain ⟨I1, f1, f2⟩ := f113 (d := d) (g := g) (I := I) (J := J) (sl := sl) (rd := rd) (rl := 56) (nd := n) (mm := mm) (rv := rv) v3 v1 d1 hn h0 (okS_cl hS hn) (nI c)
  rw [hst, hS.1] at f2
  have f1' : Fr [28, 35, 36] I I1 := Fr_w f1 (by decide)
  have R0 : ∀ (Ic : Nat → Nat → Int32) (J1 : Nat → Nat → Int64), Fr [12, 28, 35, 36] I Ic → ∃ I' rd', Fr [46, 57, 60] Ic I' ∧ F46 [13, 15, 16, 17, 18, 23] Ic I' ∧ aF d 250 [.ref 46, .int (nI c)] (g, Ic, J1, aP1 sl rd 56) = aE d 250 35 [.ref 46, .int (nI c), .int (-1), aNo] [.int (tI (wv st n (rV (I 47)) (nI c)))] (g, I', J1, aP1 sl rd' 56) := by
    intro Ic J1 h1
    obtain ⟨I', rd', a1, a2, a3⟩ := f251 (d := d) (g := g) (I := aU Ic 46 13 0) (J := J1) (sl := sl) (rd := rd) (nd := n) (rs := kk) (rv := rv) (sk := I 15) hd (by rw [aU_r _ _ (by decide), h1 55 (by decide)]; exact v4) (by rw [aU_r _ _ (by decide), h1 55 (by decide)]; exact v5) v6 (by rw [aU_i _ _ (by decide), h1 46 (by decide)]; exact v2) (by rw [aU_i _ _ (by decide), h1 46 (by decide)]; exact d2) hn h0 (by rw [aU_r _ _ (by decide), h1 47 (by decide)]; exact okS_clr hS hn) (fun i hi => by rw [aU_r _ _ (by decide), h1 48 (by decide)]; exact sk i hi) (nI c)
    rw [hst, aU_r _ _ (by decide), h1 47 (by decide)] at a3
    refine ⟨I', rd', ?_, ?_, ?_⟩
    · refine Fr_t ?_ (Fr_w a1 (by decide))
      rw [aU_R]; exact Fr_s (Fr_r _ _) _ (by decide)
    · refine F46_t (fun j hj => ?_) (F46_w a2 (by decide))
      have hj : j ≠ 13 ∧ j ≠ 15 ∧ j ≠ 16 ∧ j ≠ 17 ∧ j ≠ 18 ∧ j ≠ 23 := by simpa using hj
      rw [aU_i _ _ hj.1]
    · show aE d 250 0 [.ref 46, .int (nI c), aNo, aNo] [] _ = _
      rw [b250_0, f213]
      simp only [aBi]
      rw [b250_9, isC_n hc, if_neg (by decide), if_neg (by rw [aU_i _ _ (by decide), h1 46 (by decide), d2]; exact nz), a3]
      simp only [aBi]
  have C0 : aF d 112 [.ref 6, .int (nI c)] (g, I, J, aP1 sl rd 56) = aE d 112 18 [.ref 6, .int (nI c), aNo, aNo, aNo] [.int (tI (wv st n (rV (I 47)) (nI c)))] (g, I1, J, aP1 sl rd 56) := by
    show aE d 112 0 [.ref 6, .int (nI c), aNo, aNo, aNo] [] _ = _
    rw [b112_0, f75]
    simp only [aBi]
    rw [b112_4, isC_n hc, if_neg (by decide), f2]
    simp only [aBi]
  by_cases hw : wv st n (rV (I 47)) (nI c) = true
  · obtain ⟨I2, rd2, b1, b2, b3⟩ := R0 (aU I1 12 1 1) (aU J 13 0 (-1)) (by rw [aU_R]; exact Fr_s (Fr_w f1 (by decide)) _ (by decide))
    refine tie_R (rd2 := rd2) (v := 0) (I1 := aU I1 12 1 1) (I2 := aU I2 46 12 1) (J1 := aU J 13 0 (-1)) (J2 := aU (aU J 13 0 (-1)) 53 0 (-1)) H (by rw [aU_R]; exact Fr_s (Fr_w f1 (by decide)) _ (by decide)) ?_ ?_ ?_ ?_ ?_
    · rw [aU_R I2]; exact Fr_s (Fr_w b1 (by decide)) _ (by decide)
    · intro j hj
      rw [aU_i _ _ (fun e => hj (by rw [e]; decide))]
      exact (F46_w b2 (by decide) : F46 (12 :: scf) _ I2) j hj
    · refine zR_1 ?_ (aU_s _ _ _ _) ?_
      · rw [aU_r _ _ (by decide), b1 12 (by decide), aU_s]
      · simp (disch := decide) only [aU_r, aU_s]
    · refine C0.trans ?_
      rw [hw, b112_18, if_neg (by decide), f83']
      simp only [aBv]
      rw [b112_31]
    · refine b3.trans ?_
      rw [hw, b250_35, if_neg (by decide), show Int32.toInt64 (-1) = -1 by decide, tell0]
      simp only [aBv]
      rw [b250_145, if_pos rfl]
  have hw : wv st n (rV (I 47)) (nI c) = false := by simpa using hw
  rw [hw, b112_18, if_pos tI_f] at C0
  have P := fun {i : Nat} (hi : i < n) => zD_p H hi
  -- the class's loop
  have lC : ∀ (k j : Nat) (b : Int32) (I1 : Nat → Nat → Int32) (w4 : Value), j + k = n → (b = -1 ∨ ∃ i, i < n ∧ b = nI i) → Fr [28, 35, 36] I I1 → ∃ I' w', Fr [28, 35, 36] I I' ∧ aE d 112 37 [.ref 6, .int (nI c), .int b, .int (nI j), w4] [] (g, I1, J, aP1 sl rd 56) = aE d 112 37 [.ref 6, .int (nI c), .int (fo (br1 st n (rV (I 47)) c (I 16)) k j b), .int (nI n), w'] [] (g, I', J, aP1 sl rd 56) := by
    intro k
    induction k with
    | zero => intro j b I1 w4 hj hb q1; obtain rfl : j = n := by omega
              exact ⟨I1, w4, q1, rfl⟩
    | succ k ih =>
      intro j b I1 w4 hj hb q1
      rw [fo_1]
      have hjn : j < n := by omega
      obtain ⟨p1, p, p2, p3⟩ := P hjn
      have T : Fr [28, 35, 36] I (aR I1 28 (cpB (I1 28) (I1 24) 0 32)) := Fr_s q1 _ (by decide)
      have T28 : ∀ i, i < 32 → aR I1 28 (cpB (I1 28) (I1 24) 0 32) 28 i = I 24 i := fun i hi => by
        rw [aR_s, cpB_in _ _ (by omega) (by omega), q1 24 (by decide)]; rfl
      have TS : okS n q (aR I1 28 (cpB (I1 28) (I1 24) 0 32) 28) (I 47) := okS_congr hS T28 (fun _ _ => rfl)
      generalize hI2 : aR I1 28 (cpB (I1 28) (I1 24) 0 32) = I2 at T T28 TS
      have e0 : aE d 112 37 [.ref 6, .int (nI c), .int b, .int (nI j), w4] [] (g, I1, J, aP1 sl rd 56) = aE d 112 59 [.ref 6, .int (nI c), .int b, .int (nI j), w4] [] (g, I2, J, aP1 sl rd 56) := by
        rw [b112_37, if_neg (by rw [q1 14 (by decide), d1]; exact nI_ge (by omega) (by omega)), f63_28, hI2]
        simp only [aBv]
      rw [e0]
      have e16 : I2 16 = I 16 := T 16 (by decide)
      have e14 : I2 14 = I 14 := T 14 (by decide)
      have v6j : rV (I 47) (6 + j) = I2 28 (8 + j) := by rw [rV_lt _ (by omega), okS_l TS (by omega)]
      have vc : rV (I 47) c = I2 28 c := by rw [rV_lt _ (by omega), okS_c TS (by omega)]
      -- what a purchase comes to
      have buy : ∃ I' w', Fr [28, 35, 36] I I' ∧ aBi (aF d 87 [.ref 27, .ref 14, .int (nI c), .int (nI j)] (g, I2, J, aP1 sl rd 56)) (fun x0 t0 => aE d 112 110 [.ref 6, .int (nI c), .int b, .int (nI j), .int 1] [.int x0] t0) = aE d 112 37 [.ref 6, .int (nI c), .int (if ¬ rV (I 47) (6 + j) = nI c ∧ I 16 j ≤ rV (I 47) c ∧ wv st n (rBuy (rV (I 47)) c j (I 16 j)) (nI c) = true then nI j else b), .int (nI (j + 1)), w'] [] (g, I', J, aP1 sl rd 56) := by
        have f := f87_28 (d := d) (g := g) (I := I2) (J := J) (sl := sl) (rd := rd) (rl := 56) (n := n) (c := c) (i := j) hc hjn hn (by rw [e14]; exact d1)
        rw [e16] at f
        by_cases q2 : I2 28 (8 + j) = nI c
        · rw [if_pos q2] at f
          refine ⟨I2, .int 1, T, ?_⟩
          rw [f]
          simp only [aBi]
          rw [b112_110, if_pos (by decide), nI_1, if_neg (fun h => h.1 (v6j.trans q2))]
        · rw [if_neg q2] at f
          by_cases q3 : I 16 j ≤ I2 28 c
          · rw [if_pos q3] at f
            have S2 : okS n q (cBuy (I2 28) c j (I 16 j)) (rBuy (I 47) c j (I 16 j)) := by
              rw [p3]; exact okS_buy TS hc hjn hn p2 (by rw [← p3]; exact q3)
            obtain ⟨k', _, k1, _⟩ := okS_m S2 hc
            obtain ⟨I3, g1, g2⟩ := W (aR I2 28 (cBuy (I2 28) c j (I 16 j))) (rBuy (I 47) c j (I 16 j)) (Fr_s T _ (by decide)) (by rw [aR_s]; exact S2)
            rw [rBuy_r _ _ hc (by omega)] at g2
            refine ⟨I3, .int 1, g1, ?_⟩
            rw [f]
            simp only [aBi]
            rw [b112_110, k1, if_neg (nI_pos (by omega)), g2]
            simp only [aBi]
            rw [b112_122, nI_1]
            by_cases q4 : wv st n (rBuy (rV (I 47)) c j (I 16 j)) (nI c) = true
            · rw [q4, if_neg (by decide), if_pos ⟨fun h => q2 (v6j.symm.trans h), by rw [vc]; exact q3, rfl⟩]
            · have q4' : wv st n (rBuy (rV (I 47)) c j (I 16 j)) (nI c) = false := by simpa using q4
              rw [q4', if_pos tI_f, if_neg (fun h => absurd h.2.2 (by decide))]
          · rw [if_neg q3] at f
            refine ⟨I2, .int 1, T, ?_⟩
            rw [f]
            simp only [aBi]
            rw [b112_110, if_pos (by decide), nI_1, if_neg (fun h => q3 (by rw [← vc]; exact h.2.1))]
      obtain ⟨I3, w3, g1, g2⟩ := buy
      have fin : ∀ (I4 : Nat → Nat → Int32) (w : Value) (b' : Int32), Fr [28, 35, 36] I I4 → b' = br1 st n (rV (I 47)) c (I 16) j b → ∃ I' w', Fr [28, 35, 36] I I' ∧ aE d 112 37 [.ref 6, .int (nI c), .int b', .int (nI (j + 1)), w] [] (g, I4, J, aP1 sl rd 56) = aE d 112 37 [.ref 6, .int (nI c), .int (fo (br1 st n (rV (I 47)) c (I 16)) k (j + 1) (br1 st n (rV (I 47)) c (I 16) j b)), .int (nI n), w'] [] (g, I', J, aP1 sl rd 56) := by
        intro I4 w b' h1 h2
        rw [h2]
        exact ih (j + 1) _ I4 w (by omega) (br1_ix hjn hb) h1
      rw [b112_59]
      rcases hb with hb | ⟨i, hi, hb⟩
      · rw [if_pos hb, g2]
        refine fin I3 w3 _ g1 ?_
        unfold br1
        by_cases z : ¬ rV (I 47) (6 + j) = nI c ∧ I 16 j ≤ rV (I 47) c ∧ wv st n (rBuy (rV (I 47)) c j (I 16 j)) (nI c) = true
        · rw [if_pos z, if_pos ⟨z.1, z.2.1, Or.inl hb, z.2.2⟩]
        · rw [if_neg z, if_neg (fun h => z ⟨h.1, h.2.1, h.2.2.2⟩)]
      · subst hb
        rw [if_neg (of_eq_false (nIm1 (by omega)))]
        simp (disch := omega) only [e16, aBi, aBv, aBl, nI_1, nIle_t, nIle_f, nIlt_t, nIlt_f, nIeq_t, nIeq_f, nIneg, nI_clamp, nat_le_f, nat_le_t, nat_lt_f, nat_lt_t, or_self, or_false, false_or, if_true, if_false, ↓reduceIte, Int32.or_zero, Int32.add_zero, nIm2, nIm3, nIm4, nIp2, nIp4, nIp6, nIp8, nIp14, nIp16, nIp22, nIp24, nIp30, nIq2, nIq3, nIq4, hasI_0, aU_s, aU_i, aU_r, aU_u]
        by_cases z1 : I 16 i ≤ I 16 j
        · rw [if_pos z1]
          refine fin I2 _ _ T ?_
          unfold br1
          rw [if_neg (fun h => by
            rcases h.2.2.1 with h | h
            · exact absurd h (of_eq_false (nIm1 (by omega)))
            · rw [nI_clamp (by omega), ← nle_lt] at h; exact h z1)]
        · rw [if_neg z1]
          have g2' := g2
          simp only [aBi] at g2'
          rw [g2']
          refine fin I3 w3 _ g1 ?_
          unfold br1
          by_cases z : ¬ rV (I 47) (6 + j) = nI c ∧ I 16 j ≤ rV (I 47) c ∧ wv st n (rBuy (rV (I 47)) c j (I 16 j)) (nI c) = true
          · rw [if_pos z, if_pos ⟨z.1, z.2.1, Or.inr (by rw [nI_clamp (by omega), ← nle_lt]; exact z1), z.2.2⟩]
          · rw [if_neg z, if_neg (fun h => z ⟨h.1, h.2.1, h.2.2.2⟩)]
  -- the reference's
  have lR : ∀ (Ic : Nat → Nat → Int32) (J1 : Nat → Nat → Int64), Fr [12, 28, 35, 36] I Ic → ∀ (k j : Nat) (b : Int32) (I1 : Nat → Nat → Int32) (rd1 : Nat), j + k = n → (b = -1 ∨ ∃ i, i < n ∧ b = nI i) → Fr [46, 57, 60] Ic I1 → F46 [13, 15, 16, 17, 18, 23] Ic I1 → ∃ I' rd', Fr [46, 57, 60] Ic I' ∧ F46 [13, 15, 16, 17, 18, 23] Ic I' ∧ aE d 250 40 [.ref 46, .int (nI c), .int b, .int (nI j)] [] (g, I1, J1, aP1 sl rd1 56) = aE d 250 40 [.ref 46, .int (nI c), .int (fo (br1 st n (rV (I 47)) c (I 16)) k j b), .int (nI n)] [] (g, I', J1, aP1 sl rd' 56) := by
    intro Ic J1 hIc k
    induction k with
    | zero => intro j b I1 rd1 hj hb q1 q2; obtain rfl : j = n := by omega
              exact ⟨I1, rd1, q1, q2, rfl⟩
    | succ k ih =>
      intro j b I1 rd1 hj hb q1 q2
      rw [fo_1]
      have hjn : j < n := by omega
      obtain ⟨p1, p, p2, p3⟩ := P hjn
      have r46 : ∀ j, j ∉ [13, 15, 16, 17, 18, 23] → I1 46 j = I 46 j := fun j hj => by rw [q2 j hj, hIc 46 (by decide)]
      have e47 : I1 47 = I 47 := by rw [q1 47 (by decide), hIc 47 (by decide)]
      have e49 : I1 49 = I 49 := by rw [q1 49 (by decide), hIc 49 (by decide)]
      have v6j : rV (I 47) (6 + j) = I 47 (6 + j) := rV_lt _ (by omega)
      have vc : rV (I 47) c = I 47 c := rV_lt _ (by omega)
      have fin : ∀ (I4 : Nat → Nat → Int32) (rd4 : Nat) (b' : Int32), Fr [46, 57, 60] Ic I4 → F46 [13, 15, 16, 17, 18, 23] Ic I4 → b' = br1 st n (rV (I 47)) c (I 16) j b → ∃ I' rd', Fr [46, 57, 60] Ic I' ∧ F46 [13, 15, 16, 17, 18, 23] Ic I' ∧ aE d 250 40 [.ref 46, .int (nI c), .int b', .int (nI (j + 1))] [] (g, I4, J1, aP1 sl rd4 56) = aE d 250 40 [.ref 46, .int (nI c), .int (fo (br1 st n (rV (I 47)) c (I 16)) k (j + 1) (br1 st n (rV (I 47)) c (I 16) j b)), .int (nI n)] [] (g, I', J1, aP1 sl rd' 56) := by
        intro I4 rd4 b' h1 h2 h3
        rw [h3]
        exact ih (j + 1) _ I4 rd4 (by omega) (br1_ix hjn hb) h1 h2
      have f := f231_47 (d := d) (g := g) (I := I1) (J := J1) (sl := sl) (rd := rd1) (rl := 56) (n := n) (c := c) (i := j) hc hjn hn (by rw [r46 1 (by decide)]; exact d2)
      rw [e47, e49, p1, ← v6j, ← vc] at f
      have skip : ∀ z : Int32, z < 0 → aF d 231 [.ref 46, .ref 47, .int (nI c), .int (nI j)] (g, I1, J1, aP1 sl rd1 56) = some (some (some (.int z)), (g, I1, J1, aP1 sl rd1 56)) → aE d 250 40 [.ref 46, .int (nI c), .int b, .int (nI j)] [] (g, I1, J1, aP1 sl rd1 56) = aE d 250 40 [.ref 46, .int (nI c), .int b, .int (nI (j + 1))] [] (g, I1, J1, aP1 sl rd1 56) := by
        intro z hz hf
        rw [b250_40, if_neg (by rw [r46 1 (by decide), d2]; exact nI_ge (by omega) (by omega)), hf]
        simp only [aBi]
        rw [b250_58, if_pos hz, nI_1]
      by_cases z1 : rV (I 47) (6 + j) = nI c
      · rw [if_pos z1] at f
        rw [skip _ (by decide) f]
        refine fin I1 rd1 b q1 q2 ?_
        unfold br1
        rw [if_neg (fun h => h.1 z1)]
      rw [if_neg z1] at f
      by_cases z2 : I 16 j ≤ rV (I 47) c
      · rw [if_pos z2] at f
        -- it is tried
        have go : ∃ I' rd', Fr [46, 57, 60] Ic I' ∧ F46 [13, 15, 16, 17, 18, 23] Ic I' ∧ aBv (aF d 222 [.ref 47, .ref 60, .int 0] (g, I1, J1, aP1 sl rd1 56)) (fun t0 => aE d 250 96 [.ref 46, .int (nI c), .int b, .int (nI j)] [] t0) = aE d 250 40 [.ref 46, .int (nI c), .int (if wv st n (rBuy (rV (I 47)) c j (I 16 j)) (nI c) = true then nI j else b), .int (nI (j + 1))] [] (g, I', J1, aP1 sl rd' 56) := by
          have f2 := f222_60 (d := d) (g := g) (I := I1) (J := J1) (sl := sl) (rd := rd1) (rl := 56) (o := 0) (by decide)
          have f2 : aF d 222 [.ref 47, .ref 60, .int 0] (g, I1, J1, aP1 sl rd1 56) = _ := f2
          have s60 : ∀ i, i < 39 → cpB (I1 60) (I1 47) 0 39 i = I 47 i := fun i hi => by
            rw [cpB_in _ _ (by omega) (by omega), e47]; rfl
          have S0 : okS n q (I 24) (cpB (I1 60) (I1 47) 0 39) := okS_congr hS (fun _ _ => rfl) s60
          have S2 : okS n q (cBuy (I 24) c j (I 16 j)) (rBuy (cpB (I1 60) (I1 47) 0 39) c j (I 16 j)) := by
            rw [p3]; exact okS_buy S0 hc hjn hn p2 (by rw [← p3, okS_c hS (by omega), ← vc]; exact z2)
          have hr : rV (rBuy (cpB (I1 60) (I1 47) 0 39) c j (I 16 j)) = rBuy (rV (I 47)) c j (I 16 j) := by
            rw [rBuy_r _ _ hc (by omega), rV_congr s60]
          obtain ⟨I3, rd3, g1, g2, g3⟩ := Wr Ic (aR (aR I1 60 (cpB (I1 60) (I1 47) 0 39)) 60 (rBuy (cpB (I1 60) (I1 47) 0 39) c j (I 16 j))) J1 rd1 (cBuy (I 24) c j (I 16 j)) hIc (Fr_s (Fr_s q1 _ (by decide)) _ (by decide)) (fun i hi => by rw [aR_r _ _ (by decide), aR_r _ _ (by decide)]; exact q2 i hi) (by rw [aR_s]; exact S2)
          rw [aR_s, hr] at g3
          refine ⟨I3, rd3, g1, g2, ?_⟩
          rw [f2]
          simp only [aBv]
          rw [b250_96, f232_60 hc (by omega)]
          simp only [aBv]
          rw [b250_106, aR_s, aR_r _ _ (show 49 ≠ 60 by decide), e49, p1, g3]
          simp only [aBi]
          rw [b250_115, nI_1]
          cases wv st n (rBuy (rV (I 47)) c j (I 16 j)) (nI c)
          · rfl
          · rfl
        obtain ⟨I3, rd3, g1, g2, g3⟩ := go
        rw [b250_40, if_neg (by rw [r46 1 (by decide), d2]; exact nI_ge (by omega) (by omega)), f]
        simp only [aBi]
        rw [b250_58, if_neg (by decide)]
        rcases hb with hb' | ⟨i, hi, hb'⟩
        · rw [if_pos hb', g3]
          refine fin I3 rd3 _ g1 g2 ?_
          unfold br1
          by_cases z : wv st n (rBuy (rV (I 47)) c j (I 16 j)) (nI c) = true
          · rw [if_pos z, if_pos ⟨z1, z2, Or.inl hb', z⟩]
          · rw [if_neg z, if_neg (fun h => z h.2.2.2)]
        · subst hb'
          rw [if_neg (of_eq_false (nIm1 (by omega)))]
          have pi := (P hi).1
          simp (disch := omega) only [e49, p1, pi, aBi, aBv, aBl, nI_1, nIle_t, nIle_f, nIlt_t, nIlt_f, nIeq_t, nIeq_f, nIneg, nI_clamp, nat_le_f, nat_le_t, nat_lt_f, nat_lt_t, or_self, or_false, false_or, if_true, if_false, ↓reduceIte, Int32.or_zero, Int32.add_zero, nIm2, nIm3, nIm4, nIp2, nIp4, nIp6, nIp8, nIp14, nIp16, nIp22, nIp24, nIp30, nIq2, nIq3, nIq4, hasI_0, aU_s, aU_i, aU_r, aU_u]
          by_cases z3 : I 16 j < I 16 i
          · rw [if_pos z3]
            have g3' := g3
            simp only [aBv] at g3'
            rw [g3']
            refine fin I3 rd3 _ g1 g2 ?_
            unfold br1
            by_cases z : wv st n (rBuy (rV (I 47)) c j (I 16 j)) (nI c) = true
            · rw [if_pos z, if_pos ⟨z1, z2, Or.inr (by rw [nI_clamp (by omega)]; exact z3), z⟩]
            · rw [if_neg z, if_neg (fun h => z h.2.2.2)]
          · rw [if_neg z3]
            refine fin I1 rd1 _ q1 q2 ?_
            unfold br1
            rw [if_neg (fun h => by
              rcases h.2.2.1 with h | h
              · exact absurd h (of_eq_false (nIm1 (by omega)))
              · rw [nI_clamp (by omega)] at h; exact z3 h)]
      · rw [if_neg z2] at f
        rw [skip _ (by decide) f]
        refine fin I1 rd1 b q1 q2 ?_
        unfold br1
        rw [if_neg (fun h => z2 h.2.1)]
  -- both
  obtain ⟨Ic, wc, c1, c2⟩ := lC n 0 (-1) I1 aNo (by omega) (Or.inl rfl) f1'
  have c2 : aE d 112 37 [.ref 6, .int (nI c), .int (-1), .int 0, aNo] [] (g, I1, J, aP1 sl rd 56) = _ := c2
  have hix := br_ix (n := n) (st := st) (V := rV (I 47)) (c := c) (pr := I 16) n 0 (-1) (by omega) (Or.inl rfl)
  have R1 : ∀ (Id : Nat → Nat → Int32) (J1 : Nat → Nat → Int64), Fr [12, 28, 35, 36] I Id → ∃ I' rd', Fr [46, 57, 60] Id I' ∧ F46 [13, 15, 16, 17, 18, 23] Id I' ∧ aF d 250 [.ref 46, .int (nI c)] (g, Id, J1, aP1 sl rd 56) = aE d 250 40 [.ref 46, .int (nI c), .int (fo (br1 st n (rV (I 47)) c (I 16)) n 0 (-1)), .int (nI n)] [] (g, I', J1, aP1 sl rd' 56) := by
    intro Id J1 h
    obtain ⟨I2, rd2, b1, b2, b3⟩ := R0 Id J1 h
    obtain ⟨I3, rd3, e1, e2, e3⟩ := lR Id J1 h n 0 (-1) I2 rd2 (by omega) (Or.inl rfl) b1 b2
    refine ⟨I3, rd3, e1, e2, ?_⟩
    rw [b3, hw, b250_35, if_pos tI_f]
    exact e3
  generalize fo (br1 st n (rV (I 47)) c (I 16)) n 0 (-1) = B at c2 hix R1
  rcases hix with hB | ⟨i, hi, hB⟩
  · obtain ⟨I3, rd3, e1, e2, e3⟩ := R1 Ic J (Fr_w c1 (by decide))
    subst hB
    refine tie_0 (rd2 := rd3) (v := -2) H (Fr_w c1 (by decide)) (Fr_w e1 (by decide)) (F46_w e2 (by decide)) ?_ (e3.trans ?_)
    · refine C0.trans (c2.trans ?_)
      rw [b112_37, if_pos (by rw [c1 14 (by decide), d1]; exact Int32.le_refl _), if_pos rfl]
    · rw [b250_40, if_pos (by rw [e2 1 (by decide), c1 46 (by decide), d2]; exact Int32.le_refl _), if_pos rfl]
  · subst hB
    obtain ⟨I3, rd3, e1, e2, e3⟩ := R1 (aU Ic 12 1 1) (aU J 13 0 (Int32.toInt64 (nI i))) (by rw [aU_R]; exact Fr_s (Fr_w c1 (by decide)) _ (by decide))
    refine tie_R (v := I 16 i) (I1 := aU Ic 12 1 1) (I2 := aU I3 46 12 1) (J1 := aU J 13 0 (Int32.toInt64 (nI i))) (J2 := aU (aU J 13 0 (Int32.toInt64 (nI i))) 53 0 (Int32.toInt64 (nI i))) (rd2 := rd3) H (by rw [aU_R]; exact Fr_s (Fr_w c1 (by decide)) _ (by decide)) ?_ ?_ ?_ ?_ ?_
    · rw [aU_R I3]; exact Fr_s (Fr_w e1 (by decide)) _ (by decide)
    · intro j hj
      rw [aU_i _ _ (fun e => hj (by rw [e]; decide))]
      exact (F46_w e2 (by decide) : F46 (12 :: scf) _ I3) j hj
    · refine zR_1 ?_ (aU_s _ _ _ _) ?_
      · rw [aU_r _ _ (by decide), e1 12 (by decide), aU_s]
      · simp (disch := decide) only [aU_r, aU_s]
    · refine C0.trans (c2.trans ?_)
      rw [b112_37, if_pos (by rw [c1 14 (by decide), d1]; exact Int32.le_refl _), if_neg (of_eq_false (nIm1 (by omega))), f83']
      simp only [aBv]
      rw [b112_150]
      simp (disch := omega) only [c1 16 (by decide), aBi, aBv, aBl, nI_1, nIle_t, nIle_f, nIlt_t, nIlt_f, nIeq_t, nIeq_f, nIneg, nI_clamp, nat_le_f, nat_le_t, nat_lt_f, nat_lt_t, or_self, or_false, false_or, if_true, if_false, ↓reduceIte, Int32.or_zero, Int32.add_zero, nIm2, nIm3, nIm4, nIp2, nIp4, nIp6, nIp8, nIp14, nIp16, nIp22, nIp24, nIp30, nIq2, nIq3, nIq4, hasI_0, aU_s, aU_i, aU_r, aU_u]
    · refine e3.trans ?_
      rw [b250_40, if_pos (by rw [e2 1 (by decide), aU_r _ _ (by decide), c1 46 (by decide), d2]; exact Int32.le_refl _), if_neg (of_eq_false (nIm1 (by omega))), tell0]
      simp only [aBv]
      rw [b250_145, if_neg (of_eq_false (nIm1 (by omega)))]
      simp (disch := omega) only [e1 49 (by decide), c1 49 (by decide), (P hi).1, aBi, aBv, aBl, nI_1, nIle_t, nIle_f, nIlt_t, nIlt_f, nIeq_t, nIeq_f, nIneg, nI_clamp, nat_le_f, nat_le_t, nat_lt_f, nat_lt_t, or_self, or_false, false_or, if_true, if_false, ↓reduceIte, Int32.or_zero, Int32.add_zero, nIm2, nIm3, nIm4, nIp2, nIp4, nIp6, nIp8, nIp14, nIp16, nIp22, nIp24, nIp30, nIq2, nIq3, nIq4, hasI_0, aU_s, aU_i, aU_r, aU_u]
end T02
