/-! grain, show, race, undo, kept states, what is heard, the text: tied -/
variable {d : Nat} {g : Nat × Nat × Nat} {I : Nat → Nat → Int32} {J : Nat → Nat → Int64} {sl rd rl : Nat} {t n m q : Nat}
theorem inI_f {v a b : Int32} (h : v < a ∨ b < v) : inI v a b = 0 := by
  unfold inI
  rcases h with h | h
  · rw [if_pos h]
  · rw [if_pos h, ite_self]
theorem inI_t {v a b : Int32} (h : ¬ v < a) (h2 : ¬ b < v) : inI v a b = 1 := by
  unfold inI; rw [if_neg h, if_neg h2]
theorem nle_lt {a b : Int32} : (¬ a ≤ b) = (b < a) := propext ⟨fun h => by rw [int_le] at h; rw [int_lt]; omega, fun h => by rw [int_lt] at h; rw [int_le]; omega⟩
theorem tie_grain (H : zInv t n m q I J) (a b : Int32) : tie d 96 239 [.int a, .int b] t g I J sl rd := by
  obtain ⟨u, x, u1, u2, u3, u4, u5, u6⟩ := zU_get H
  have hS := H.2.2.2.2.2.2.1
  have C (I1 : Nat → Nat → Int32) (v : Int32) (hf : aF d 97 [.ref 23, .int a, .int b] (g, cpN I, J, aP1 sl rd 56) = some (some (some (.int v)), (g, I1, J, aP1 sl rd 56))) (I2 : Nat → Nat → Int32) (h2 : aF d 89 [.ref 6, .int v] (g, I1, J, aP1 sl rd 56) = some (some (some (.int v)), (g, I2, J, aP1 sl rd 56))) : aF d 96 [.ref 6, .int a, .int b] (g, I, J, aP1 sl rd 56) = some (some (some (.int v)), (g, I2, J, aP1 sl rd 56)) := by
    show aE d 96 0 [.ref 6, .int a, .int b] [] _ = _
    rw [b96_0, f63_26]
    simp only [aBv]
    rw [b96_11]
    rw [show aR I 26 (cpB (I 26) (I 24) 0 32) = cpN I from rfl, hf]
    simp only [aBi]
    rw [b96_21, h2]
    simp only [aBi]
    rw [b96_24]
  have no (hf : aF d 97 [.ref 23, .int a, .int b] (g, cpN I, J, aP1 sl rd 56) = some (some (some (.int (-1))), (g, cpN I, J, aP1 sl rd 56))) (hx : isC a = 0 ∨ (b < 1 ∨ 99 < b)) : tie d 96 239 [.int a, .int b] t g I J sl rd := by
    refine tie_0 (rd2 := rd) (v := -1) H (cpN_F I) (th_F _) (th_46 _) (C _ _ hf _ (f89n (by decide))) ?_
    show aE d 239 0 [.ref 46, .int a, .int b] [] _ = _
    rw [b239_0, f213]
    simp only [aBi]
    rw [b239_9]
    by_cases ha : isC a = 0
    · rw [if_pos ha]
    · rw [if_neg ha, f181, inI_f (hx.resolve_left ha)]
      simp only [aBi]
      rw [b239_19, if_pos rfl]
  rcases isC_ix a with ha | ⟨c, hc, rfl⟩
  · exact no (f97n_24 ha) (Or.inl ha)
  have f := f97_24 (d := d) (g := g) (I := cpN I) (J := J) (sl := sl) (rd := rd) (rl := 56) hc b
  rw [cpN_r _ (show 24 ≠ 26 by decide)] at f
  by_cases h1 : b < 1
  · rw [if_pos h1] at f
    exact no f (Or.inr (Or.inl h1))
  rw [if_neg h1] at f
  by_cases h2 : b ≤ 99
  · rw [if_pos h2] at f
    have hS2 : okS n q (adA (I 24) c (-b)) (adA (I 47) c (-b)) := okS_A hS hc _
    obtain ⟨k, k0, k1, k2⟩ := okS_a hS2 hc
    have F1 := psh_F I (adA (I 24) c (-b)) u x
    refine tie_act (rd2 := rd) H u6 hS2 (C _ _ f _ (f89' (by rw [k1]; exact nI_pos (by omega)) _ u1 u2 u3 u4)) ?_
    show aE d 239 0 [.ref 46, .int (nI c), .int b] [] _ = _
    rw [b239_0, f213]
    simp only [aBi]
    rw [b239_9, isC_n hc, if_neg (by decide), f181, inI_t h1 (by rw [int_lt]; rw [int_le] at h2; omega)]
    simp only [aBi]
    rw [b239_19, if_neg (by decide), f221' (by rw [F1 46 (by decide)]; exact u5) u2]
    simp only [aBv]
    rw [b239_32, f227_47 hc]
    simp only [aBv]
    rw [b239_42, remI_r _ _ (by decide) (by decide), F1 47 (by decide)]
    simp (disch := omega) only [aR_s, aBi, aBv, aBl, nI_1, nIle_t, nIle_f, nIlt_t, nIlt_f, nIeq_t, nIeq_f, nIneg, nI_clamp, nat_le_f, nat_le_t, nat_lt_f, nat_lt_t, or_self, or_false, false_or, if_true, if_false, ↓reduceIte, Int32.or_zero, Int32.add_zero, nIm2, nIm3, nIm4, nIp2, nIp4, nIp6, nIp8, nIp14, nIp16, nIp22, nIp24, nIp30, nIq2, nIq3, nIq4, hasI_0, aU_s, aU_i, aU_r, aU_u]
    rw [k1, k2]
  · rw [if_neg h2] at f
    exact no f (Or.inr (Or.inr (by rw [← nle_lt]; exact h2)))
theorem jn_S {n q : Nat} {f h : Nat → Int32} (H : okS n q f h) (l : Int32) : jn h l = jn f l := by
  rw [← jn_rV h, ← jn_cV f, H.1]
theorem isC_b {y : Int32} (h : isC y = 0) : y < 0 ∨ 1 < y := by
  rw [← inI_C] at h
  unfold inI at h
  by_cases h1 : y < 0
  · exact Or.inl h1
  · by_cases h2 : 1 < y
    · exact Or.inr h2
    · rw [if_neg h1, if_neg h2] at h; exact absurd h (by decide)
theorem zS_e (H : zInv t n m q I J) {k : Nat} (hk : k < 4 * q) : I 51 k = I 22 k := ((H.2.2.2.2.1.2.2.2 k hk).1).symm
theorem tie_show (H : zInv t n m q I J) (a b : Int32) : tie d 98 240 [.int a, .int b] t g I J sl rd := by
  obtain ⟨hq, d1, d2, -⟩ := H.2.2.2.2.1
  obtain ⟨hn, -⟩ := H.2.2.1
  have hL := H.2.2.2.2.2.1
  obtain ⟨u, x, u1, u2, u3, u4, u5, u6⟩ := zU_get H
  have hS := H.2.2.2.2.2.2.1
  have C (I1 : Nat → Nat → Int32) (v : Int32) (hf : aF d 99 [.ref 23, .ref 14, .int a, .int b] (g, cpN I, J, aP1 sl rd 56) = some (some (some (.int v)), (g, I1, J, aP1 sl rd 56))) (I2 : Nat → Nat → Int32) (h2 : aF d 89 [.ref 6, .int v] (g, I1, J, aP1 sl rd 56) = some (some (some (.int v)), (g, I2, J, aP1 sl rd 56))) : aF d 98 [.ref 6, .int a, .int b] (g, I, J, aP1 sl rd 56) = some (some (some (.int v)), (g, I2, J, aP1 sl rd 56)) := by
    show aE d 98 0 [.ref 6, .int a, .int b] [] _ = _
    rw [b98_0, f63_26]
    simp only [aBv]
    rw [b98_11]
    rw [show aR I 26 (cpB (I 26) (I 24) 0 32) = cpN I from rfl, hf]
    simp only [aBi]
    rw [b98_25, h2]
    simp only [aBi]
    rw [b98_28]
  have no (v : Int32) (hv : v < 0) (hf : aF d 99 [.ref 23, .ref 14, .int a, .int b] (g, cpN I, J, aP1 sl rd 56) = some (some (some (.int v)), (g, cpN I, J, aP1 sl rd 56))) (hr : aF d 241 [.ref 46, .int a, .int b] (g, aU (cpN I) 46 13 0, J, aP1 sl rd 56) = some (some (some (.int v)), (g, aU (cpN I) 46 13 0, J, aP1 sl rd 56))) : tie d 98 240 [.int a, .int b] t g I J sl rd := by
    refine tie_0 (rd2 := rd) (v := v) H (cpN_F I) (th_F _) (th_46 _) (C _ _ hf _ (f89n hv)) ?_
    show aE d 240 0 [.ref 46, .int a, .int b, aNo] [] _ = _
    rw [b240_0, hr]
    simp only [aBi]
    rw [b240_11, if_neg (by rw [int_le]; rw [int_lt] at hv; omega)]
  have refuse (hx : noI a q ∨ (b < 0 ∨ 1 < b)) : tie d 98 240 [.int a, .int b] t g I J sl rd :=
    no (-1) (by decide) (f99n_24 (n := q) (by rw [cpN_r _ (by decide)]; exact d1) hx) (f241n (n := q) hq (by rw [aU_i _ _ (by decide), cpN_r _ (by decide)]; exact d2) hx)
  rcases noI_ix a hq with ha | ⟨i, hi, rfl⟩
  · exact refuse (Or.inl ha)
  rcases isC_ix b with hb | ⟨c, hc, rfl⟩
  · exact refuse (Or.inr (isC_b hb))
  have e8 := okS_s hS (show i < 8 by omega)
  have f := f99_24 (d := d) (g := g) (I := cpN I) (J := J) (sl := sl) (rd := rd) (rl := 56) (n := q) hc hi hq (by rw [cpN_r _ (by decide)]; exact d1)
  rw [cpN_r _ (show 24 ≠ 26 by decide), cpN_r _ (show 22 ≠ 26 by decide), cpN_r _ (show 14 ≠ 26 by decide)] at f
  have R (I1 : Nat → Nat → Int32) (h1 : I1 46 6 = nI q) (h2 : I1 47 = I 47) : aF d 241 [.ref 46, .int (nI i), .int (nI c)] (g, aU I1 46 13 0, J, aP1 sl rd 56) = if I 24 (24 + i) = -1 then some (some (some (.int 0)), (g, aU I1 46 13 0, J, aP1 sl rd 56)) else some (some (some (.int (-2))), (g, aU I1 46 13 0, J, aP1 sl rd 56)) := by
    rw [f241 (n := q) hc hi hq (by rw [aU_i _ _ (by decide)]; exact h1), aU_r _ _ (by decide), h2, ← e8]
  by_cases h1 : I 24 (24 + i) = -1
  · rw [if_pos h1] at f
    have hS2 : okS n q (cSide (I 24) i c (I 22 (4 * i + c)) (I 22 (4 * i + 2 + c))) (rSide (I 47) i c (I 51 (4 * i + c)) (I 51 (4 * i + 2 + c))) := by
      rw [zS_e H (by omega), zS_e H (by omega)]; exact okS_side hS hi hn hq c _ _
    have F1 := psh_F I (cSide (I 24) i c (I 22 (4 * i + c)) (I 22 (4 * i + 2 + c))) u x
    have ej : jn (rSide (I 47) i c (I 51 (4 * i + c)) (I 51 (4 * i + 2 + c))) (I 14 11) = jn (cSide (I 24) i c (I 22 (4 * i + c)) (I 22 (4 * i + 2 + c))) (I 14 11) := by
      exact jn_S hS2 _
    refine tie_act (rd2 := rd) H u6 hS2 (C _ _ f _ (f89' (by cases jn (cSide (I 24) i c (I 22 (4 * i + c)) (I 22 (4 * i + 2 + c))) (I 14 11) <;> decide) _ u1 u2 u3 u4)) ?_
    show aE d 240 0 [.ref 46, .int (nI i), .int (nI c), aNo] [] _ = _
    rw [b240_0, R _ (by rw [F1 46 (by decide)]; exact d2) (F1 47 (by decide)), if_pos h1]
    simp only [aBi]
    rw [b240_11, if_pos (by decide), f221' (by rw [F1 46 (by decide)]; exact u5) u2]
    simp only [aBv]
    rw [b240_26, f242_47 (by omega) hc]
    simp only [aBv]
    rw [b240_36, f228_47]
    simp only [aBi]
    rw [b240_44, jn_r, aR_s, remI_r _ _ (by decide) (by decide), remI_r _ _ (by decide) (by decide), F1 47 (by decide), F1 51 (by decide), show aR (remI (pshI I (cSide (I 24) i c (I 22 (4 * i + c)) (I 22 (4 * i + 2 + c))) u x) u) 47 (rSide (I 47) i c (I 51 (4 * i + c)) (I 51 (4 * i + 2 + c))) 46 8 = I 14 11 from by
      rw [aR_r _ _ (by decide)]; unfold remI; rw [aR_s, upd_n _ _ (by decide), upd_n _ _ (by decide), F1 46 (by decide), hL], ej, tIif]
  · rw [if_neg h1] at f
    refine no (-2) (by decide) f ?_
    rw [R _ (by rw [cpN_r _ (by decide)]; exact d2) (cpN_r _ (by decide)), if_neg h1]
/-! undo -/
theorem tie_undo (H : zInv t n m q I J) : tie d 105 246 [] t g I J sl rd := by
  obtain ⟨u, x, u1, u2, u3, u4, u5, u6⟩ := zU_get H
  cases u with
  | zero =>
    refine tie_0 (rd2 := rd) (v := -1) H (Fr_r _ _) (th_F _) (th_46 _) ?_ ?_
    · show aE d 105 0 [.ref 6] [] _ = _
      rw [b105_0, show aF d 106 [.ref 29, .ref 23] (g, I, J, aP1 sl rd 56) = some (some (some (.int (-1))), (g, I, J, aP1 sl rd 56)) from by
        show aE d 106 0 [.ref 29, .ref 23] [] _ = _
        rw [b106_0, if_pos (show I 29 1 = 0 from u1)]]
      simp only [aBi]
      rw [b105_11]
    · show aE d 246 0 [.ref 46, aNo] [] _ = _
      rw [b246_0, if_pos (show I 46 26 = 0 from u5)]
  | succ u =>
    obtain ⟨w1, w2⟩ := okU_pop u6
    have n0 : ¬ nI (u + 1) = 0 := fun e => absurd ((nI_eq (b := 0) (by omega) (by decide)).mp e) (by omega)
    -- the class
    have e106 : aF d 106 [.ref 29, .ref 23] (g, I, J, aP1 sl rd 56) = some (some (some (.int (nI u))), (g, aR (aR I 29 (upd (upd (I 29) 2 (nI ((x + 11) % 12))) 1 (nI u))) 24 (cpB (I 24) (fun k => I 30 (32 * ((x + 11) % 12) + k)) 0 32), J, aP1 sl rd 56)) := by
      show aE d 106 0 [.ref 29, .ref 23] [] _ = _
      rw [b106_0, if_neg (by rw [u1]; exact n0), u3]
      by_cases h : x = 0
      · subst h
        have f := f107_30 (d := d) (g := g) (I := aU I 29 2 11) (J := J) (sl := sl) (rd := rd) (rl := 56) (i := 11) (by decide)
        have f : aF d 107 [.ref 23, .ref 30, .int 11] (g, aU I 29 2 11, J, aP1 sl rd 56) = _ := f
        rw [if_pos (by decide), f]
        simp only [aBv]
        rw [b106_43]
        simp (disch := decide) only [aU_R, aR_s, aR_r, aR_u, upd_n, u1, nI_pred]
        rw [aR_c I _ _ (by decide), aR_u, aR_c I _ _ (by decide)]
        rfl
      · have f := f107_30 (d := d) (g := g) (I := aU I 29 2 (nI (x - 1))) (J := J) (sl := sl) (rd := rd) (rl := 56) (i := x - 1) (by omega)
        have hm : nI x - 1 = nI (x - 1) := pk_sub (b := 1) (by omega)
        rw [if_neg (show ¬ nI x ≤ 0 from nI_ge (a := 0) (by omega) (by omega)), hm, f]
        simp only [aBv]
        rw [b106_43]
        simp (disch := decide) only [aU_R, aR_s, aR_r, aR_u, upd_n, u1, nI_pred]
        rw [aR_c I _ _ (by decide), aR_u, aR_c I _ _ (by decide), show (x + 11) % 12 = x - 1 by omega]
    have e1 : aF d 105 [.ref 6] (g, I, J, aP1 sl rd 56) = some (some (some (.int (nI u))), (g, aR (aR I 29 (upd (upd (I 29) 2 (nI ((x + 11) % 12))) 1 (nI u))) 24 (cpB (I 24) (fun k => I 30 (32 * ((x + 11) % 12) + k)) 0 32), J, aP1 sl rd 56)) := by
      show aE d 105 0 [.ref 6] [] _ = _
      rw [b105_0, e106]
      simp only [aBi]
      rw [b105_11]
    generalize hI1 : aR (aR I 29 (upd (upd (I 29) 2 (nI ((x + 11) % 12))) 1 (nI u))) 24 (cpB (I 24) (fun k => I 30 (32 * ((x + 11) % 12) + k)) 0 32) = I1 at e1
    have F1 : Fr [24, 29] I I1 := by rw [← hI1]; exact Fr_s (Fr_s (Fr_r _ _) _ (by decide)) _ (by decide)
    have r46 := F1 46 (by decide)
    have r58 := F1 58 (by decide)
    have r47 := F1 47 (by decide)
    -- the reference
    have l : ∀ k j, j + k = 39 → aE d 246 26 [.ref 46, .int (nI j)] [] (g, aR (aU (aU I1 46 13 0) 46 26 (nI u)) 47 (cpB (I 47) (fun i => I 58 (39 * u + i)) 0 j), J, aP1 sl rd 56) = some (some (some (.int (nI u))), (g, aR (aU (aU I1 46 13 0) 46 26 (nI u)) 47 (cpB (I 47) (fun i => I 58 (39 * u + i)) 0 39), J, aP1 sl rd 56)) := by
      intro k
      induction k with
      | zero =>
        intro j hj; obtain rfl : j = 39 := by omega
        rw [b246_26]
        simp (disch := omega) only [kgf39, kgt39, klt39, klf39, kmt39, kmf39, kat39, kaf39, ket39, kef39, aR_r, aBi, aBv, aBl, nI_1, nIle_t, nIle_f, nIlt_t, nIlt_f, nIeq_t, nIeq_f, nIneg, nI_clamp, nat_le_f, nat_le_t, nat_lt_f, nat_lt_t, or_self, or_false, false_or, if_true, if_false, ↓reduceIte, Int32.or_zero, Int32.add_zero, nIm2, nIm3, nIm4, nIp2, nIp4, nIp6, nIp8, nIp14, nIp16, nIp22, nIp24, nIp30, nIq2, nIq3, nIq4, hasI_0, aU_s, aU_i, aU_r, aU_u]
      | succ k ih =>
        intro j hj
        have e58 : aU (aU I1 46 13 0) 46 26 (nI u) 58 = I 58 := by rw [aU_r _ _ (by decide), aU_r _ _ (by decide), r58]
        rw [b246_26]
        simp (disch := omega) only [aR_r, aU_s, e58, nIm39, nI_add, kgf39, nI_1, nI_clamp, nIneg, nat_le_f, or_self, if_false]
        rw [aU_R, aR_s, aR_u, show upd (cpB (I 47) (fun i => I 58 (39 * u + i)) 0 j) j (I 58 (39 * u + j)) = cpB (I 47) (fun i => I 58 (39 * u + i)) 0 (j + 1) from by
          have := cpB_1 (I 47) (fun i => I 58 (39 * u + i)) 0 j
          rw [Nat.zero_add] at this; exact this]
        exact ih (j + 1) (by omega)
    have e2 : aF d 246 [.ref 46] (g, I1, J, aP1 sl rd 56) = some (some (some (.int (nI u))), (g, aR (aU (aU I1 46 13 0) 46 26 (nI u)) 47 (cpB (I 47) (fun i => I 58 (39 * u + i)) 0 39), J, aP1 sl rd 56)) := by
      show aE d 246 0 [.ref 46, aNo] [] _ = _
      rw [b246_0, if_neg (by rw [r46, u5]; exact n0), r46, u5, nI_pred]
      have l0 := l 39 0 rfl
      rw [cpB_0, show aR (aU (aU I1 46 13 0) 46 26 (nI u)) 47 (I 47) = aU (aU I1 46 13 0) 46 26 (nI u) from by
        rw [show I 47 = aU (aU I1 46 13 0) 46 26 (nI u) 47 from by rw [aU_r _ _ (by decide), aU_r _ _ (by decide), r47]]
        exact aR_i _ _] at l0
      exact l0
    generalize hI2 : aR (aU (aU I1 46 13 0) 46 26 (nI u)) 47 (cpB (I 47) (fun i => I 58 (39 * u + i)) 0 39) = I2 at e2
    have F2 : Fr [46, 47] I1 I2 := by
      rw [← hI2, aU_R, aU_R]; exact Fr_s (Fr_s (Fr_s (Fr_r _ _) _ (by decide)) _ (by decide)) _ (by decide)
    have F3 : F46 [13, 26] I1 I2 := by
      intro j hj
      have hj : j ≠ 13 ∧ j ≠ 26 := by simpa using hj
      rw [← hI2, aR_r _ _ (by decide), aU_i _ _ hj.2, aU_i _ _ hj.1]
    refine ⟨nI u, I1, J, I2, J, rd, n, m, q, e1, e2, zInv_up (zInv_N H (Fr_t (Fr_w F1 (by decide)) (Fr_w F2 (by decide))) (F46_t (F46_f F1 (by decide)) (F46_w F3 (by decide))) ?_ ?_ ?_), (F2 0 (by decide)).trans (F1 0 (by decide))⟩
    · rw [F2 12 (by decide), F1 12 (by decide), F3 12 (by decide), r46]; exact H.2.1
    · rw [F2 24 (by decide), ← hI2, aR_s, ← hI1, aR_s]
      refine okS_congr w2 (fun i hi => ?_) (fun i hi => ?_)
      · rw [cpB_in _ _ (by omega) (by omega)]; simp only [Nat.sub_zero]
      · rw [cpB_in _ _ (by omega) (by omega)]; simp only [Nat.sub_zero]
    · rw [F2 29 (by decide), F2 30 (by decide), F1 30 (by decide), F2 58 (by decide), r58, ← hI2, aR_r _ _ (show 46 ≠ 47 by decide), aU_s, ← hI1, aR_r _ _ (show 29 ≠ 24 by decide), aR_s, upd_s, upd_n _ _ (by decide), upd_s]
      exact ⟨u, _, rfl, rfl, rfl, w1⟩
