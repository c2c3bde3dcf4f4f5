/-! race, joins, ahead: tied -/
variable {d : Nat} {g : Nat × Nat × Nat} {I : Nat → Nat → Int32} {J : Nat → Nat → Int64} {sl rd rl : Nat} {t n m q : Nat}
theorem tie_R {kc km : Nat} {as : List Value} {v : Int32} {I1 I2 : Nat → Nat → Int32} {J1 J2 : Nat → Nat → Int64} {rd2 : Nat} (H : zInv t n m q I J) (h1 : Fr (12 :: scc) I I1) (h2 : Fr scm I1 I2) (h3 : F46 (12 :: scf) I1 I2) (hR : zR (I2 12 1) (I2 46 12) (J2 13) (J2 53)) (e1 : aF d kc (.ref 6 :: as) (g, I, J, aP1 sl rd 56) = some (some (some (.int v)), (g, I1, J1, aP1 sl rd 56))) (e2 : aF d km (.ref 46 :: as) (g, I1, J1, aP1 sl rd 56) = some (some (some (.int v)), (g, I2, J2, aP1 sl rd2 56))) : tie d kc km as t g I J sl rd :=
  ⟨v, I1, J1, I2, J2, rd2, n, m, q, e1, e2, zInv_up (zInv_R H (Fr_t (Fr_w h1 (by decide)) (Fr_w h2 (by decide))) (F46_t (F46_f h1 (by decide)) h3) hR), (h2 0 (by decide)).trans (h1 0 (by decide))⟩
theorem tell0 (v : Int64) : aF d 229 [.ref 46, .long v] (g, aU I 46 12 0, J, aP1 sl rd rl) = some (some none, (g, aU I 46 12 1, aU J 53 0 v, aP1 sl rd rl)) := by
  rw [f229 (n := 0) (by rw [aU_s]; rfl) (by decide), aU_u]; rfl
theorem tell1 (v : Int64) : aF d 229 [.ref 46, .long v] (g, aU I 46 12 1, J, aP1 sl rd rl) = some (some none, (g, aU I 46 12 2, aU J 53 1 v, aP1 sl rd rl)) := by
  rw [f229 (n := 1) (by rw [aU_s]; rfl) (by decide), aU_u]; rfl
theorem tell2 (v : Int64) : aF d 229 [.ref 46, .long v] (g, aU I 46 12 2, J, aP1 sl rd rl) = some (some none, (g, aU I 46 12 3, aU J 53 2 v, aP1 sl rd rl)) := by
  rw [f229 (n := 2) (by rw [aU_s]; rfl) (by decide), aU_u]; rfl
theorem zR_1 {a b : Int32} {j13 j53 : Nat → Int64} (h1 : a = 1) (h2 : b = 1) (h3 : j13 0 = j53 0) : zR a b j13 j53 := ⟨1, by decide, h1, h2, fun i hi => by
  obtain rfl : i = 0 := by omega
  exact h3⟩
theorem zR_2 {a b : Int32} {j13 j53 : Nat → Int64} (h1 : a = 2) (h2 : b = 2) (h3 : j13 0 = j53 0) (h4 : j13 1 = j53 1) : zR a b j13 j53 := ⟨2, by decide, h1, h2, fun i hi => by
  rcases (by omega : i = 0 ∨ i = 1) with rfl | rfl
  · exact h3
  · exact h4⟩
theorem zR_3 {a b : Int32} {j13 j53 : Nat → Int64} (h1 : a = 3) (h2 : b = 3) (h3 : j13 0 = j53 0) (h4 : j13 1 = j53 1) (h5 : j13 2 = j53 2) : zR a b j13 j53 := ⟨3, by decide, h1, h2, fun i hi => by
  rcases (by omega : i = 0 ∨ i = 1 ∨ i = 2) with rfl | rfl | rfl
  · exact h3
  · exact h4
  · exact h5⟩
theorem zV_get (H : zInv t n m q I J) : ∃ mm k rv, I 33 1 = nI mm ∧ I 46 22 = nI k ∧ cRule (I 34) mm rv ∧ rRule (I 55) k rv ∧ byR (I 55) ∧ (∀ t t' : Nat → Int32, (∀ k, k < 8 → t k = t' k) → rv t = rv t') := by
  obtain ⟨mm, k, rv, h1, h2, h3, h4, h5⟩ := H.2.2.2.2.2.2.2.2.2.1
  exact ⟨mm, k, rv, h1, h2, h3, h4, h5, fun _ _ e => cRule_congr h3 e⟩
theorem zD_s (H : zInv t n m q I J) : ∀ i, i < n → I 48 i = I 15 i := fun i hi => ((H.2.2.1.2.2.2 i hi).1).symm
theorem nIz {k : Nat} (h : 0 < k) (h2 : k < 2 ^ 31) : ¬ nI k = 0 := fun e => absurd ((nI_eq (b := 0) h2 (by decide)).mp e) (by omega)
theorem rngN {a : Int32} {M : Nat} {b : Int32} (hb : b = nI M) (hM : M < 2 ^ 31) (h : ¬ (a < 0 ∨ b < a)) : ∃ N, N ≤ M ∧ a = nI N := by
  subst hb
  exact nI_of2 (M := nI M) (nI_toInt hM) (fun q => h (Or.inl q)) (Classical.byContradiction fun q => h (Or.inr (by rw [← nle_lt]; exact q)))
theorem tie_race (hd : 41 ≤ d) (H : zInv t n m q I J) (a : Int32) : tie d 62 220 [.int a] t g I J sl rd := by
  obtain ⟨hn, d1, d2, -⟩ := H.2.2.1
  have hS := H.2.2.2.2.2.2.1
  have hL := H.2.2.2.2.2.1
  by_cases hn0 : n = 0
  · subst hn0
    refine tie_0 (rd2 := rd) (v := -2) H (Fr_r _ _) (th_F _) (th_46 _) ?_ ?_
    · show aE d 62 0 [.ref 6, .int a, aNo] [] _ = _
      rw [b62_0, if_pos (show I 14 0 = 0 from d1)]
    · show aE d 220 0 [.ref 46, .int a] [] _ = _
      rw [b220_0, if_pos (show I 46 1 = 0 from d2)]
  have h0 : 0 < n := by omega
  have nz := nIz h0 (by omega)
  by_cases hx : a < 0 ∨ 60 < a
  · refine tie_0 (rd2 := rd) (v := -1) H (Fr_r _ _) (th_F _) (th_46 _) ?_ ?_
    · show aE d 62 0 [.ref 6, .int a, aNo] [] _ = _
      rw [b62_0, if_neg (by rw [d1]; exact nz)]
      rcases hx with hx | hx
      · rw [if_pos hx]
      · rw [if_neg (c := a ≤ 60) (by rw [nle_lt]; exact hx), ite_self]
    · show aE d 220 0 [.ref 46, .int a] [] _ = _
      rw [b220_0, if_neg (by rw [d2]; exact nz), f181, inI_f hx]
      simp only [aBi]
      rw [b220_22, if_pos rfl]
  obtain ⟨N, hN, rfl⟩ := rngN (b := 60) (M := 60) rfl (by decide) hx
  obtain ⟨mm, kk, rv, v1, v2, v3, v4, v5, v6⟩ := zV_get H
  obtain ⟨u, x, u1, u2, u3, u4, u5, u6⟩ := zU_get H
  have sk := zD_s H
  -- the class
  obtain ⟨I1, c1, c2, c3, c4, c5, c6, c7, c8, c9⟩ := f64 (d := d) (g := g) (I := cpN I) (J := J) (sl := sl) (rd := rd) (rl := 56) (nd := n) (m := mm) (N := N) (rv := rv) (by rw [cpN_r _ (by decide)]; exact v3) (by rw [cpN_r _ (by decide)]; exact v1) (by rw [cpN_r _ (by decide)]; exact d1) hn h0 (by rw [cpN_r _ (by decide)]; exact okS_cl hS hn) (by omega)
  rw [cpN_r _ (show 24 ≠ 26 by decide), cpN_r _ (show 15 ≠ 26 by decide)] at c2 c4 c5 c9
  rw [cpN_r _ (show 24 ≠ 26 by decide)] at c3
  rw [cpN_r _ (show 14 ≠ 26 by decide)] at c5
  have G1 : Fr [24, 26, 35, 36, 41] I I1 := Fr_t (Fr_s (Fr_r _ _) _ (by decide)) (Fr_w c1 (by decide))
  have P : ∃ I2, aE d 62 56 [.ref 6, .int (nI N), aNo] [.int (nI (blR (sts rv (I 15)) n (cV (I 24)) N))] (g, I1, J, aP1 sl rd 56) = aE d 62 72 [.ref 6, .int (nI N), .int (nI (blR (sts rv (I 15)) n (cV (I 24)) N))] [] (g, I2, J, aP1 sl rd 56) ∧ Fr [29, 30] I1 I2 ∧ (N = 0 → I2 = I1) ∧ (0 < N → I2 29 1 = nI (up12 u) ∧ I2 29 2 = nI ((x + 1) % 12) ∧ I2 30 = cpB (I 30) (cpB (I 26) (I 24) 0 32) (32 * x) 32) := by
    by_cases hN0 : N = 0
    · subst hN0
      refine ⟨I1, ?_, Fr_r _ _, fun _ => rfl, fun h => by omega⟩
      rw [b62_56, if_pos (by decide)]
    · refine ⟨aR (aR I1 30 (cpB (I1 30) (I1 26) (32 * x) 32)) 29 (upd (upd (I1 29) 2 (nI ((x + 1) % 12))) 1 (nI (up12 u))), ?_, ?_, fun h => absurd h hN0, fun _ => ?_⟩
      · rw [b62_56, if_neg (show ¬ nI N ≤ 0 from nI_ge (a := 0) (by omega) (by omega)), f80 (u := u) (x := x) (by rw [G1 29 (by decide)]; exact u1) u2 (by rw [G1 29 (by decide)]; exact u3) u4]
        simp only [aBv]
      · exact Fr_s (Fr_s (Fr_r _ _) _ (by decide)) _ (by decide)
      · rw [aR_s, upd_s, upd_n _ _ (by decide), upd_s, aR_r _ _ (show 30 ≠ 29 by decide), aR_s, G1 30 (by decide), c1 26 (by decide)]
        refine ⟨rfl, rfl, ?_⟩
        unfold cpN; rw [aR_s]
  obtain ⟨I2, p1, p2, p3, p4⟩ := P
  have e1 : aF d 62 [.ref 6, .int (nI N)] (g, I, J, aP1 sl rd 56) = some (some (some (.int (nI (blR (sts rv (I 15)) n (cV (I 24)) N)))), (g, aU I2 12 1 2, aU (aU J 13 0 (Int32.toInt64 (laR (sts rv (I 15)) n (cV (I 24)) N))) 13 1 (Int32.toInt64 (nI (joR (sts rv (I 15)) n (cV (I 24)) (I 14 11) N))), aP1 sl rd 56)) := by
    show aE d 62 0 [.ref 6, .int (nI N), aNo] [] _ = _
    rw [b62_0, if_neg (by rw [d1]; exact nz), if_neg (fun h => hx (Or.inl h)), if_pos (Classical.byContradiction fun h => hx (Or.inr (by rw [← nle_lt]; exact h))), f63_26]
    simp only [aBv]
    rw [b62_36, show aR I 26 (cpB (I 26) (I 24) 0 32) = cpN I from rfl, c9]
    simp only [aBi]
    rw [p1, b62_72, f82, p2 41 (by decide), c4, c5]
    simp only [aBv]
    rw [b62_95]
  have G2 : Fr [12, 24, 26, 29, 30, 35, 36, 41] I (aU I2 12 1 2) := by
    rw [aU_R]; exact Fr_s (Fr_t (Fr_w G1 (by decide)) (Fr_w p2 (by decide))) _ (by decide)
  generalize hIc : aU I2 12 1 2 = Ic at e1 G2
  -- the reference
  have Q : ∃ I3, aE d 220 22 [.ref 46, .int (nI N)] [.int 1] (g, aU Ic 46 13 0, aU (aU J 13 0 (Int32.toInt64 (laR (sts rv (I 15)) n (cV (I 24)) N))) 13 1 (Int32.toInt64 (nI (joR (sts rv (I 15)) n (cV (I 24)) (I 14 11) N))), aP1 sl rd 56) = aE d 220 39 [.ref 46, .int (nI N)] [] (g, I3, aU (aU J 13 0 (Int32.toInt64 (laR (sts rv (I 15)) n (cV (I 24)) N))) 13 1 (Int32.toInt64 (nI (joR (sts rv (I 15)) n (cV (I 24)) (I 14 11) N))), aP1 sl rd 56) ∧ Fr [46, 58] Ic I3 ∧ F46 [13, 26] Ic I3 ∧ (N = 0 → I3 46 26 = I 46 26 ∧ I3 58 = I 58) ∧ (0 < N → I3 46 26 = nI (up12 u) ∧ I3 58 = remR (I 58) (I 47) u) := by
    by_cases hN0 : N = 0
    · subst hN0
      refine ⟨aU Ic 46 13 0, ?_, ?_, ?_, fun _ => ?_, fun h => by omega⟩
      · rw [b220_22, if_neg (by decide), if_pos (by decide)]
      · rw [aU_R]; exact Fr_s (Fr_r _ _) _ (by decide)
      · intro j hj
        have hj : j ≠ 13 ∧ j ≠ 26 := by simpa using hj
        rw [aU_i _ _ hj.1]
      · rw [aU_i _ _ (by decide), aU_r _ _ (by decide), G2 46 (by decide), G2 58 (by decide)]; exact ⟨rfl, rfl⟩
    · refine ⟨remI Ic u, ?_, ?_, ?_, fun h => absurd h hN0, fun _ => ?_⟩
      · rw [b220_22, if_neg (by decide), if_neg (show ¬ nI N ≤ 0 from nI_ge (a := 0) (by omega) (by omega)), f221' (by rw [G2 46 (by decide)]; exact u5) u2]
        simp only [aBv]
      · unfold remI; rw [aU_R]; exact Fr_s (Fr_s (Fr_s (Fr_r _ _) _ (by decide)) _ (by decide)) _ (by decide)
      · intro j hj
        have hj : j ≠ 13 ∧ j ≠ 26 := by simpa using hj
        unfold remI
        rw [aR_s, upd_n _ _ hj.2, upd_n _ _ hj.1]
      · unfold remI
        rw [aR_s, upd_s, aR_r _ _ (show 58 ≠ 46 by decide), aR_s, G2 58 (by decide), G2 47 (by decide)]; exact ⟨rfl, rfl⟩
  obtain ⟨I3, q1, q2, q3, q4, q5⟩ := Q
  have G3 : Fr [12, 24, 26, 29, 30, 35, 36, 41, 46, 58] I I3 := Fr_t (Fr_w G2 (by decide)) (Fr_w q2 (by decide))
  have G4 : F46 [13, 26] I I3 := F46_t (F46_f G2 (by decide)) q3
  obtain ⟨I4, rd4, r1, r2, r3, r4, r5, r6, r7⟩ := f223 (d := d) (g := g) (I := I3) (J := aU (aU J 13 0 (Int32.toInt64 (laR (sts rv (I 15)) n (cV (I 24)) N))) 13 1 (Int32.toInt64 (nI (joR (sts rv (I 15)) n (cV (I 24)) (I 14 11) N)))) (sl := sl) (rd := rd) (nd := n) (rs := kk) (N := N) (rv := rv) (sk := I 15) hd (by rw [G3 55 (by decide)]; exact v4) (by rw [G3 55 (by decide)]; exact v5) v6 (by rw [G4 22 (by decide)]; exact v2) (by rw [G4 1 (by decide)]; exact d2) hn h0 (by rw [G3 47 (by decide)]; exact okS_clr hS hn) (fun i hi => by rw [G3 48 (by decide)]; exact sk i hi) (by omega)
  rw [G3 47 (by decide), ← hS.1] at r3 r4 r5 r6
  rw [G4 8 (by decide), ← hL] at r6
  have e2 : aF d 220 [.ref 46, .int (nI N)] (g, Ic, aU (aU J 13 0 (Int32.toInt64 (laR (sts rv (I 15)) n (cV (I 24)) N))) 13 1 (Int32.toInt64 (nI (joR (sts rv (I 15)) n (cV (I 24)) (I 14 11) N))), aP1 sl rd 56) = some (some (some (.int (nI (blR (sts rv (I 15)) n (cV (I 24)) N)))), (g, aU I4 46 12 2, aU (aU (aU (aU J 13 0 (Int32.toInt64 (laR (sts rv (I 15)) n (cV (I 24)) N))) 13 1 (Int32.toInt64 (nI (joR (sts rv (I 15)) n (cV (I 24)) (I 14 11) N)))) 53 0 (Int32.toInt64 (laR (sts rv (I 15)) n (cV (I 24)) N))) 53 1 (Int32.toInt64 (nI (joR (sts rv (I 15)) n (cV (I 24)) (I 14 11) N))), aP1 sl rd4 56)) := by
    show aE d 220 0 [.ref 46, .int (nI N)] [] _ = _
    rw [b220_0, if_neg (by rw [G2 46 (by decide), d2]; exact nz), f181, inI_t (fun h => hx (Or.inl h)) (fun h => hx (Or.inr h))]
    simp only [aBi]
    rw [q1, b220_39, r7]
    simp only [aBv]
    rw [b220_48, tell0]
    simp only [aBv]
    rw [b220_62, tell1]
    simp only [aBv]
    rw [b220_71]
    simp (disch := decide) only [aU_i, r4, r5, r6]
  have F : Fr (12 :: 24 :: 29 :: 30 :: 47 :: 58 :: scr) I (aU I4 46 12 2) := by
    rw [aU_R]; exact Fr_s (Fr_t (Fr_w G3 (by decide)) (Fr_w r1 (by decide))) _ (by decide)
  have E46 : F46 (12 :: 26 :: scf) I (aU I4 46 12 2) := by
    intro j hj
    rw [aU_i _ _ (fun e => hj (by rw [e]; decide))]
    exact (F46_t (F46_w G4 (by decide)) (F46_w r2 (by decide)) : F46 (12 :: 26 :: scf) I I4) j hj
  have k24 : aU I4 46 12 2 24 = I1 24 := by
    rw [aU_r _ _ (by decide), r1 24 (by decide), q2 24 (by decide), ← hIc, aU_r _ _ (by decide), p2 24 (by decide)]
  refine ⟨_, _, _, _, _, rd4, n, m, q, e1, e2, zInv_up (zInv_N H F E46 ?_ ?_ ?_), F 0 (by decide)⟩
  · refine zR_2 ?_ ?_ ?_ ?_
    · rw [aU_r _ _ (by decide), r1 12 (by decide), q2 12 (by decide), ← hIc, aU_s]
    · rw [aU_s]
    · simp (disch := decide) only [aU_r, aU_i, aU_s]
    · simp (disch := decide) only [aU_r, aU_i, aU_s]
  · rw [k24, aU_r _ _ (by decide)]
    refine ⟨?_, ?_, ?_⟩
    · rw [c2, r3]
    · rw [r3]
      exact vsR_ok (by rw [hS.1]; exact hS.2.1) hn h0 N
    · rw [c3]; exact hS.2.2
  · have k29 : aU I4 46 12 2 29 = I2 29 := by
      rw [aU_r _ _ (by decide), r1 29 (by decide), q2 29 (by decide), ← hIc, aU_r _ _ (by decide)]
    have k30 : aU I4 46 12 2 30 = I2 30 := by
      rw [aU_r _ _ (by decide), r1 30 (by decide), q2 30 (by decide), ← hIc, aU_r _ _ (by decide)]
    have k58 : aU I4 46 12 2 58 = I3 58 := by
      rw [aU_r _ _ (by decide), r1 58 (by decide)]
    have k26 : aU I4 46 12 2 46 26 = I3 46 26 := by
      rw [aU_i _ _ (by decide), r2 26 (by decide)]
    rw [k29, k30, k58, k26]
    by_cases hN0 : N = 0
    · rw [p3 hN0, (q4 hN0).1, (q4 hN0).2, G1 29 (by decide), G1 30 (by decide)]
      exact ⟨u, x, u1, u5, u3, u6⟩
    · obtain ⟨w1, w2, w3⟩ := p4 (by omega)
      obtain ⟨w4, w5⟩ := q5 (by omega)
      rw [w1, w2, w3, w4, w5]
      exact ⟨_, _, rfl, rfl, rfl, okU_push u6 (okS_congr hS (fun i hi => by rw [cpB_in _ _ (by omega) (by omega)]; congr 1) (fun _ _ => rfl))⟩
