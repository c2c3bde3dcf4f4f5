section T00
/-! grain, show, race, undo, kept states, what is heard, the text: tied -/
variable {d : Nat} {g : Nat × Nat × Nat} {I : Nat → Nat → Int32} {J : Nat → Nat → Int64} {sl rd rl : Nat} {t n m q : Nat}
theorem inI_f {v a b : Int32} (h : v < a ∨ b < v) : inI v a b = 0 := by
  unfold inI
  rcases h with h | h
  · rw [if_pos h]
  · rw [if_pos h, ite_self]
theorem inI_t {v a b : Int32} (h : ¬ v < a) (h2 : ¬ b < v) : inI v a b = 1 := by
  unfold inI; rw [if_neg h, if_neg h2]
theorem nle_lt {a b : Int32} : (¬ a ≤ b) = (b < a) := propext ⟨fun h => by rw [int_le] at h; rw [int_lt]; omega, fun h => by rw [int_lt] at h; rw [int_le]; omega⟩
theorem tie_grain (H : zInv t n m q I J) (a b : Int32) : tie d 96 239 [.int a, .int b] t g I J sl rd := by
  obtain ⟨u, x, u1, u2, u3, u4, u5, u6⟩ := zU_get H
  have hS := H.2.2.2.2.2.2.1
  have C (I1 : Nat → Nat → Int32) (v : Int32) (hf : aF d 97 [.ref 23, .int a, .int b] (g, cpN I, J, aP1 sl rd 56) = some (some (some (.int v)), (g, I1, J, aP1 sl rd 56))) (I2 : Nat → Nat → Int32) (h2 : aF d 89 [.ref 6, .int v] (g, I1, J, aP1 sl rd 56) = some (some (some (.int v)), (g, I2, J, aP1 sl rd 56))) : aF d 96 [.ref 6, .int a, .int b] (g, I, J, aP1 sl rd 56) = some (some (some (.int v)), (g, I2, J, aP1 sl rd 56)) := by
    show aE d 96 0 [.ref 6, .int a, .int b] [] _ = _
    rw [b96_0, f63_26]
    simp only [aBv]
    rw [b96_11]
    rw [show aR I 26 (cpB (I 26) (I 24) 0 32) = cpN I from rfl, hf]
    simp only [aBi]
    rw [b96_21, h2]
    simp only [aBi]
    rw [b96_24]
  have no (hf : aF d 97 [.ref 23, .int a, .int b] (g, cpN I, J, aP1 sl rd 56) = some (some (some (.int (-1))), (g, cpN I, J, aP1 sl rd 56))) (hx : isC a = 0 ∨ (b < 1 ∨ 99 < b)) : tie d 96 239 [.int a, .int b] t g I J sl rd := by
    refine tie_0 (rd2 := rd) (v := -1) H (cpN_F I) (th_F _) (th_46 _) (C _ _ hf _ (f89n (by decide))) ?_
    show aE d 239 0 [.ref 46, .int a, .int b] [] _ = _
    rw [b239_0, f213]
    simp only [aBi]
    rw [b239_9]
    by_cases ha : isC a = 0
    · rw [if_pos ha]
    · rw [if_neg ha, f181, inI_f (hx.resolve_left ha)]
      simp only [aBi]
      rw [b239_19, if_pos rfl]
  rcases isC_ix a with ha | ⟨c, hc, rfl⟩
  · exact no (f97n_24 ha) (Or.inl ha)
  have f := f97_24 (d := d) (g := g) (I := cpN I) (J := J) (sl := sl) (rd := rd) (rl := 56) hc b
  rw [cpN_r _ (show 24 ≠ 26 by decide)] at f
  by_cases h1 : b < 1
  · rw [if_pos h1] at f
    exact no f (Or.inr (Or.inl h1))
  rw [if_neg h1] at f
  by_cases h2 : b ≤ 99
  · rw [if_pos h2] at f
    have hS2 : okS n q (adA (I 24) c (-b)) (adA (I 47) c (-b)) := okS_A hS hc _
    obtain ⟨k, k0, k1, k2⟩ := okS_a hS2 hc
    have F1 := psh_F I (adA (I 24) c (-b)) u x
    refine tie_act (rd2 := rd) H u6 hS2 (C _ _ f _ (f89' (by rw [k1]; exact nI_pos (by omega)) _ u1 u2 u3 u4)) ?_
    show aE d 239 0 [.ref 46, .int (nI c), .int b] [] _ = _
    rw [b239_0, f213]
    simp only [aBi]
    rw [b239_9, isC_n hc, if_neg (by decide), f181, inI_t h1 (by rw [int_lt]; rw [int_le] at h2; omega)]
    simp only [aBi]
    rw [b239_19, if_neg (by decide), f221' (by rw [F1 46 (by decide)]; exact u5) u2]
    simp only [aBv]
    rw [b239_32, f227_47 hc]
    simp only [aBv]
    rw [b239_42, remI_r _ _ (by decide) (by decide), F1 47 (by decide)]
    simp (disch := omega) only [aR_s, aBi, aBv, aBl, nI_1, nIle_t, nIle_f, nIlt_t, nIlt_f, nIeq_t, nIeq_f, nIneg, nI_clamp, nat_le_f, nat_le_t, nat_lt_f, nat_lt_t, or_self, or_false, false_or, if_true, if_false, ↓reduceIte, Int32.or_zero, Int32.add_zero, nIm2, nIm3, nIm4, nIp2, nIp4, nIp6, nIp8, nIp14, nIp16, nIp22, nIp24, nIp30, nIq2, nIq3, nIq4, hasI_0, aU_s, aU_i, aU_r, aU_u]
    rw [k1, k2]
  · rw [if_neg h2] at f
    exact no f (Or.inr (Or.inr (by rw [← nle_lt]; exact h2)))
theorem jn_S {n q : Nat} {f h : Nat → Int32} (H : okS n q f h) (l : Int32) : jn h l = jn f l := by
  rw [← jn_rV h, ← jn_cV f, H.1]
theorem isC_b {y : Int32} (h : isC y = 0) : y < 0 ∨ 1 < y := by
  rw [← inI_C] at h
  unfold inI at h
  by_cases h1 : y < 0
  · exact Or.inl h1
  · by_cases h2 : 1 < y
    · exact Or.inr h2
    · rw [if_neg h1, if_neg h2] at h; exact absurd h (by decide)
theorem zS_e (H : zInv t n m q I J) {k : Nat} (hk : k < 4 * q) : I 51 k = I 22 k := ((H.2.2.2.2.1.2.2.2 k hk).1).symm
theorem tie_show (H : zInv t n m q I J) (a b : Int32) : tie d 98 240 [.int a, .int b] t g I J sl rd := by
  obtain ⟨hq, d1, d2, -⟩ := H.2.2.2.2.1
  obtain ⟨hn, -⟩ := H.2.2.1
  have hL := H.2.2.2.2.2.1
  obtain ⟨u, x, u1, u2, u3, u4, u5, u6⟩ := zU_get H
  have hS := H.2.2.2.2.2.2.1
  have C (I1 : Nat → Nat → Int32) (v : Int32) (hf : aF d 99 [.ref 23, .ref 14, .int a, .int b] (g, cpN I, J, aP1 sl rd 56) = some (some (some (.int v)), (g, I1, J, aP1 sl rd 56))) (I2 : Nat → Nat → Int32) (h2 : aF d 89 [.ref 6, .int v] (g, I1, J, aP1 sl rd 56) = some (some (some (.int v)), (g, I2, J, aP1 sl rd 56))) : aF d 98 [.ref 6, .int a, .int b] (g, I, J, aP1 sl rd 56) = some (some (some (.int v)), (g, I2, J, aP1 sl rd 56)) := by
    show aE d 98 0 [.ref 6, .int a, .int b] [] _ = _
    rw [b98_0, f63_26]
    simp only [aBv]
    rw [b98_11]
    rw [show aR I 26 (cpB (I 26) (I 24) 0 32) = cpN I from rfl, hf]
    simp only [aBi]
    rw [b98_25, h2]
    simp only [aBi]
    rw [b98_28]
  have no (v : Int32) (hv : v < 0) (hf : aF d 99 [.ref 23, .ref 14, .int a, .int b] (g, cpN I, J, aP1 sl rd 56) = some (some (some (.int v)), (g, cpN I, J, aP1 sl rd 56))) (hr : aF d 241 [.ref 46, .int a, .int b] (g, aU (cpN I) 46 13 0, J, aP1 sl rd 56) = some (some (some (.int v)), (g, aU (cpN I) 46 13 0, J, aP1 sl rd 56))) : tie d 98 240 [.int a, .int b] t g I J sl rd := by
    refine tie_0 (rd2 := rd) (v := v) H (cpN_F I) (th_F _) (th_46 _) (C _ _ hf _ (f89n hv)) ?_
    show aE d 240 0 [.ref 46, .int a, .int b, aNo] [] _ = _
    rw [b240_0, hr]
    simp only [aBi]
    rw [b240_11, if_neg (by rw [int_le]; rw [int_lt] at hv; omega)]
  have refuse (hx : noI a q ∨ (b < 0 ∨ 1 < b)) : tie d 98 240 [.int a, .int b] t g I J sl rd :=
    no (-1) (by decide) (f99n_24 (n := q) (by rw [cpN_r _ (by decide)]; exact d1) hx) (f241n (n := q) hq (by rw [aU_i _ _ (by decide), cpN_r _ (by decide)]; exact d2) hx)
  rcases noI_ix a hq with ha | ⟨i, hi, rfl⟩
  · exact refuse (Or.inl ha)
  rcases isC_ix b with hb | ⟨c, hc, rfl⟩
  · exact refuse (Or.inr (isC_b hb))
  have e8 := okS_s hS (show i < 8 by omega)
  have f := f99_24 (d := d) (g := g) (I := cpN I) (J := J) (sl := sl) (rd := rd) (rl := 56) (n := q) hc hi hq (by rw [cpN_r _ (by decide)]; exact d1)
  rw [cpN_r _ (show 24 ≠ 26 by decide), cpN_r _ (show 22 ≠ 26 by decide), cpN_r _ (show 14 ≠ 26 by decide)] at f
  have R (I1 : Nat → Nat → Int32) (h1 : I1 46 6 = nI q) (h2 : I1 47 = I 47) : aF d 241 [.ref 46, .int (nI i), .int (nI c)] (g, aU I1 46 13 0, J, aP1 sl rd 56) = if I 24 (24 + i) = -1 then some (some (some (.int 0)), (g, aU I1 46 13 0, J, aP1 sl rd 56)) else some (some (some (.int (-2))), (g, aU I1 46 13 0, J, aP1 sl rd 56)) := by
    rw [f241 (n := q) hc hi hq (by rw [aU_i _ _ (by decide)]; exact h1), aU_r _ _ (by decide), h2, ← e8]
  by_cases h1 : I 24 (24 + i) = -1
  · rw [if_pos h1] at f
    have hS2 : okS n q (cSide (I 24) i c (I 22 (4 * i + c)) (I 22 (4 * i + 2 + c))) (rSide (I 47) i c (I 51 (4 * i + c)) (I 51 (4 * i + 2 + c))) := by
      rw [zS_e H (by omega), zS_e H (by omega)]; exact okS_side hS hi hn hq c _ _
    have F1 := psh_F I (cSide (I 24) i c (I 22 (4 * i + c)) (I 22 (4 * i + 2 + c))) u x
    have ej : jn (rSide (I 47) i c (I 51 (4 * i + c)) (I 51 (4 * i + 2 + c))) (I 14 11) = jn (cSide (I 24) i c (I 22 (4 * i + c)) (I 22 (4 * i + 2 + c))) (I 14 11) := by
      exact jn_S hS2 _
    refine tie_act (rd2 := rd) H u6 hS2 (C _ _ f _ (f89' (by cases jn (cSide (I 24) i c (I 22 (4 * i + c)) (I 22 (4 * i + 2 + c))) (I 14 11) <;> decide) _ u1 u2 u3 u4)) ?_
    show aE d 240 0 [.ref 46, .int (nI i), .int (nI c), aNo] [] _ = _
    rw [b240_0, R _ (by rw [F1 46 (by decide)]; exact d2) (F1 47 (by decide)), if_pos h1]
    simp only [aBi]
    rw [b240_11, if_pos (by decide), f221' (by rw [F1 46 (by decide)]; exact u5) u2]
    simp only [aBv]
    rw [b240_26, f242_47 (by omega) hc]
    simp only [aBv]
    rw [b240_36, f228_47]
    simp only [aBi]
    rw [b240_44, jn_r, aR_s, remI_r _ _ (by decide) (by decide), remI_r _ _ (by decide) (by decide), F1 47 (by decide), F1 51 (by decide), show aR (remI (pshI I (cSide (I 24) i c (I 22 (4 * i + c)) (I 22 (4 * i + 2 + c))) u x) u) 47 (rSide (I 47) i c (I 51 (4 * i + c)) (I 51 (4 * i + 2 + c))) 46 8 = I 14 11 from by
      rw [aR_r _ _ (by decide)]; unfold remI; rw [aR_s, upd_n _ _ (by decide), upd_n _ _ (by decide), F1 46 (by decide), hL], ej, tIif]
  · rw [if_neg h1] at f
    refine no (-2) (by decide) f ?_
    rw [R _ (by rw [cpN_r _ (by decide)]; exact d2) (cpN_r _ (by decide)), if_neg h1]
/-! undo -/
theorem tie_undo (H : zInv t n m q I J) : tie d 105 246 [] t g I J sl rd := by
  obtain ⟨u, x, u1, u2, u3, u4, u5, u6⟩ := zU_get H
  cases u with
  | zero =>
    refine tie_0 (rd2 := rd) (v := -1) H (Fr_r _ _) (th_F _) (th_46 _) ?_ ?_
    · show aE d 105 0 [.ref 6] [] _ = _
      rw [b105_0, show aF d 106 [.ref 29, .ref 23] (g, I, J, aP1 sl rd 56) = some (some (some (.int (-1))), (g, I, J, aP1 sl rd 56)) from by
        show aE d 106 0 [.ref 29, .ref 23] [] _ = _
        rw [b106_0, if_pos (show I 29 1 = 0 from u1)]]
      simp only [aBi]
      rw [b105_11]
    · show aE d 246 0 [.ref 46, aNo] [] _ = _
      rw [b246_0, if_pos (show I 46 26 = 0 from u5)]
  | succ u =>
    obtain ⟨w1, w2⟩ := okU_pop u6
    have n0 : ¬ nI (u + 1) = 0 := fun e => absurd ((nI_eq (b := 0) (by omega) (by decide)).mp e) (by omega)
    -- the class
    have e106 : aF d 106 [.ref 29, .ref 23] (g, I, J, aP1 sl rd 56) = some (some (some (.int (nI u))), (g, aR (aR I 29 (upd (upd (I 29) 2 (nI ((x + 11) % 12))) 1 (nI u))) 24 (cpB (I 24) (fun k => I 30 (32 * ((x + 11) % 12) + k)) 0 32), J, aP1 sl rd 56)) := by
      show aE d 106 0 [.ref 29, .ref 23] [] _ = _
      rw [b106_0, if_neg (by rw [u1]; exact n0), u3]
      by_cases h : x = 0
      · subst h
        have f := f107_30 (d := d) (g := g) (I := aU I 29 2 11) (J := J) (sl := sl) (rd := rd) (rl := 56) (i := 11) (by decide)
        have f : aF d 107 [.ref 23, .ref 30, .int 11] (g, aU I 29 2 11, J, aP1 sl rd 56) = _ := f
        rw [if_pos (by decide), f]
        simp only [aBv]
        rw [b106_43]
        simp (disch := decide) only [aU_R, aR_s, aR_r, aR_u, upd_n, u1, nI_pred]
        rw [aR_c I _ _ (by decide), aR_u, aR_c I _ _ (by decide)]
        rfl
      · have f := f107_30 (d := d) (g := g) (I := aU I 29 2 (nI (x - 1))) (J := J) (sl := sl) (rd := rd) (rl := 56) (i := x - 1) (by omega)
        have hm : nI x - 1 = nI (x - 1) := pk_sub (b := 1) (by omega)
        rw [if_neg (show ¬ nI x ≤ 0 from nI_ge (a := 0) (by omega) (by omega)), hm, f]
        simp only [aBv]
        rw [b106_43]
        simp (disch := decide) only [aU_R, aR_s, aR_r, aR_u, upd_n, u1, nI_pred]
        rw [aR_c I _ _ (by decide), aR_u, aR_c I _ _ (by decide), show (x + 11) % 12 = x - 1 by omega]
    have e1 : aF d 105 [.ref 6] (g, I, J, aP1 sl rd 56) = some (some (some (.int (nI u))), (g, aR (aR I 29 (upd (upd (I 29) 2 (nI ((x + 11) % 12))) 1 (nI u))) 24 (cpB (I 24) (fun k => I 30 (32 * ((x + 11) % 12) + k)) 0 32), J, aP1 sl rd 56)) := by
      show aE d 105 0 [.ref 6] [] _ = _
      rw [b105_0, e106]
      simp only [aBi]
      rw [b105_11]
    generalize hI1 : aR (aR I 29 (upd (upd (I 29) 2 (nI ((x + 11) % 12))) 1 (nI u))) 24 (cpB (I 24) (fun k => I 30 (32 * ((x + 11) % 12) + k)) 0 32) = I1 at e1
    have F1 : Fr [24, 29] I I1 := by rw [← hI1]; exact Fr_s (Fr_s (Fr_r _ _) _ (by decide)) _ (by decide)
    have r46 := F1 46 (by decide)
    have r58 := F1 58 (by decide)
    have r47 := F1 47 (by decide)
    -- the reference
    have l : ∀ k j, j + k = 39 → aE d 246 26 [.ref 46, .int (nI j)] [] (g, aR (aU (aU I1 46 13 0) 46 26 (nI u)) 47 (cpB (I 47) (fun i => I 58 (39 * u + i)) 0 j), J, aP1 sl rd 56) = some (some (some (.int (nI u))), (g, aR (aU (aU I1 46 13 0) 46 26 (nI u)) 47 (cpB (I 47) (fun i => I 58 (39 * u + i)) 0 39), J, aP1 sl rd 56)) := by
      intro k
      induction k with
      | zero =>
        intro j hj; obtain rfl : j = 39 := by omega
        rw [b246_26]
        simp (disch := omega) only [kgf39, kgt39, klt39, klf39, kmt39, kmf39, kat39, kaf39, ket39, kef39, aR_r, aBi, aBv, aBl, nI_1, nIle_t, nIle_f, nIlt_t, nIlt_f, nIeq_t, nIeq_f, nIneg, nI_clamp, nat_le_f, nat_le_t, nat_lt_f, nat_lt_t, or_self, or_false, false_or, if_true, if_false, ↓reduceIte, Int32.or_zero, Int32.add_zero, nIm2, nIm3, nIm4, nIp2, nIp4, nIp6, nIp8, nIp14, nIp16, nIp22, nIp24, nIp30, nIq2, nIq3, nIq4, hasI_0, aU_s, aU_i, aU_r, aU_u]
      | succ k ih =>
        intro j hj
        have e58 : aU (aU I1 46 13 0) 46 26 (nI u) 58 = I 58 := by rw [aU_r _ _ (by decide), aU_r _ _ (by decide), r58]
        rw [b246_26]
        simp (disch := omega) only [aR_r, aU_s, e58, nIm39, nI_add, kgf39, nI_1, nI_clamp, nIneg, nat_le_f, or_self, if_false]
        rw [aU_R, aR_s, aR_u, show upd (cpB (I 47) (fun i => I 58 (39 * u + i)) 0 j) j (I 58 (39 * u + j)) = cpB (I 47) (fun i => I 58 (39 * u + i)) 0 (j + 1) from by
          have := cpB_1 (I 47) (fun i => I 58 (39 * u + i)) 0 j
          rw [Nat.zero_add] at this; exact this]
        exact ih (j + 1) (by omega)
    have e2 : aF d 246 [.ref 46] (g, I1, J, aP1 sl rd 56) = some (some (some (.int (nI u))), (g, aR (aU (aU I1 46 13 0) 46 26 (nI u)) 47 (cpB (I 47) (fun i => I 58 (39 * u + i)) 0 39), J, aP1 sl rd 56)) := by
      show aE d 246 0 [.ref 46, aNo] [] _ = _
      rw [b246_0, if_neg (by rw [r46, u5]; exact n0), r46, u5, nI_pred]
      have l0 := l 39 0 rfl
      rw [cpB_0, show aR (aU (aU I1 46 13 0) 46 26 (nI u)) 47 (I 47) = aU (aU I1 46 13 0) 46 26 (nI u) from by
        rw [show I 47 = aU (aU I1 46 13 0) 46 26 (nI u) 47 from by rw [aU_r _ _ (by decide), aU_r _ _ (by decide), r47]]
        exact aR_i _ _] at l0
      exact l0
    generalize hI2 : aR (aU (aU I1 46 13 0) 46 26 (nI u)) 47 (cpB (I 47) (fun i => I 58 (39 * u + i)) 0 39) = I2 at e2
    have F2 : Fr [46, 47] I1 I2 := by
      rw [← hI2, aU_R, aU_R]; exact Fr_s (Fr_s (Fr_s (Fr_r _ _) _ (by decide)) _ (by decide)) _ (by decide)
    have F3 : F46 [13, 26] I1 I2 := by
      intro j hj
      have hj : j ≠ 13 ∧ j ≠ 26 := by simpa using hj
      rw [← hI2, aR_r _ _ (by decide), aU_i _ _ hj.2, aU_i _ _ hj.1]
    refine ⟨nI u, I1, J, I2, J, rd, n, m, q, e1, e2, zInv_up (zInv_N H (Fr_t (Fr_w F1 (by decide)) (Fr_w F2 (by decide))) (F46_t (F46_f F1 (by decide)) (F46_w F3 (by decide))) ?_ ?_ ?_), (F2 0 (by decide)).trans (F1 0 (by decide))⟩
    · rw [F2 12 (by decide), F1 12 (by decide), F3 12 (by decide), r46]; exact H.2.1
    · rw [F2 24 (by decide), ← hI2, aR_s, ← hI1, aR_s]
      refine okS_congr w2 (fun i hi => ?_) (fun i hi => ?_)
      · rw [cpB_in _ _ (by omega) (by omega)]; simp only [Nat.sub_zero]
      · rw [cpB_in _ _ (by omega) (by omega)]; simp only [Nat.sub_zero]
    · rw [F2 29 (by decide), F2 30 (by decide), F1 30 (by decide), F2 58 (by decide), r58, ← hI2, aR_r _ _ (show 46 ≠ 47 by decide), aU_s, ← hI1, aR_r _ _ (show 29 ≠ 24 by decide), aR_s, upd_s, upd_n _ _ (by decide), upd_s]
      exact ⟨u, _, rfl, rfl, rfl, w1⟩
end T00
section T01
/-! limit, the text, what is heard, kept states, races: tied -/
variable {d : Nat} {g : Nat × Nat × Nat} {I : Nat → Nat → Int32} {J : Nat → Nat → Int64} {sl rd rl : Nat} {t n m q : Nat}
theorem tie_limit (H : zInv t n m q I J) (a : Int32) : tie d 59 218 [.int a] t g I J sl rd := by
  have no (hx : a < 1 ∨ 99 < a) : tie d 59 218 [.int a] t g I J sl rd := by
    refine tie_0 (rd2 := rd) (v := -1) H (Fr_r _ _) (th_F _) (th_46 _) ?_ ?_
    · show aE d 59 0 [.ref 6, .int a, aNo] [] _ = _
      rw [b59_0]
      rcases hx with hx | hx
      · rw [if_pos hx]
      · rw [if_neg (c := a ≤ 99) (by rw [nle_lt]; exact hx), ite_self]
    · show aE d 218 0 [.ref 46, .int a, aNo] [] _ = _
      rw [b218_0, f181, inI_f hx]
      simp only [aBi]
      rw [b218_12, if_pos rfl]
  by_cases h1 : a < 1
  · exact no (Or.inl h1)
  by_cases h2 : 99 < a
  · exact no (Or.inr h2)
  refine ⟨I 14 11, aU I 14 11 a, J, aU (aU (aU I 14 11 a) 46 13 0) 46 8 a, J, rd, n, m, q, ?_, ?_, zInv_up ?_, by simp (disch := decide) only [aU_r]⟩
  · show aE d 59 0 [.ref 6, .int a, aNo] [] _ = _
    rw [b59_0, if_neg h1, if_pos (by rw [← nle_lt] at h2; exact Classical.byContradiction h2)]
  · show aE d 218 0 [.ref 46, .int a, aNo] [] _ = _
    rw [b218_0, f181, inI_t h1 h2]
    simp only [aBi]
    rw [b218_12, if_neg (by decide), aU_i _ _ (by decide), aU_r _ _ (by decide), ← H.2.2.2.2.2.1]
  · obtain ⟨a1, a2, a3, a4, a5, a6, a7, a8, a9, b1, b2⟩ := H
    unfold zInv
    simp (disch := decide) only [aU_r, aU_i, aU_s]
    exact ⟨a1, a2, a3, a4, a5, trivial, a7, a8, a9, b1, b2⟩
theorem tie_forget (H : zInv t n m q I J) : tie d 150 278 [] t g I J sl rd := by
  obtain ⟨k, h1, h2, h3, h4⟩ := H.2.2.2.2.2.2.2.2.2.2
  refine ⟨I 42 2, aU I 42 2 0, J, aU (aU (aU I 42 2 0) 46 13 0) 46 35 0, J, rd, n, m, q, ?_, ?_, zInv_up ?_, by simp (disch := decide) only [aU_r]⟩
  · show aE d 150 0 [.ref 6] [] _ = _
    rw [b150_0, show aF d 151 [.ref 42] (g, I, J, aP1 sl rd 56) = some (some (some (.int (I 42 2))), (g, aU I 42 2 0, J, aP1 sl rd 56)) from by
      show aE d 151 0 [.ref 42, aNo] [] _ = _
      rw [b151_0]]
    simp only [aBi]
    rw [b150_7]
  · show aE d 278 0 [.ref 46, aNo] [] _ = _
    rw [b278_0, aU_r _ _ (by decide), h3, h2]
  · obtain ⟨a1, a2, a3, a4, a5, a6, a7, a8, a9, b1, b2⟩ := H
    unfold zInv
    simp (disch := decide) only [aU_r, aU_i, aU_s]
    exact ⟨a1, a2, a3, a4, a5, a6, a7, a8, a9, b1, ⟨0, by decide, rfl, rfl, fun i hi => by omega⟩⟩
def mO (a : Int32) : Int32 := if a = 0 then 1 else if a = 1 then 99 else if a = 2 then 9 else if a = 3 then 8 else if a = 4 then 8 else -1
theorem f149 (a : Int32) : aF d 149 [.int a] (g, I, J, aP1 sl rd rl) = some (some (some (.int (mO a))), (g, I, J, aP1 sl rd rl)) := by
  show aE d 149 0 [.int a] [] _ = _
  rw [b149_0]
  unfold mO
  by_cases h0 : a = 0
  · subst h0; rw [b149_1_c0]; rfl
  by_cases h1 : a = 1
  · subst h1; rw [b149_1_c1]; rfl
  by_cases h2 : a = 2
  · subst h2; rw [b149_1_c2]; rfl
  by_cases h3 : a = 3
  · subst h3; rw [b149_1_c3]; rfl
  by_cases h4 : a = 4
  · subst h4; rw [b149_1_c4]; rfl
  rw [if_neg h0, if_neg h1, if_neg h2, if_neg h3, if_neg h4, s149_1 _ _ _ _ (by
    apply Classical.byContradiction; intro h
    have q : ∀ k : Int32, a ≠ k → a.toInt ≠ k.toInt := fun k hk e => hk (Int32.toInt_inj.mp e)
    have e0 := q 0 h0
    have e1 := q 1 h1
    have e2 := q 2 h2
    have e3 := q 3 h3
    have e4 := q 4 h4
    have : (0 : Int32).toInt = 0 := rfl
    have : (1 : Int32).toInt = 1 := rfl
    have : (2 : Int32).toInt = 2 := rfl
    have : (3 : Int32).toInt = 3 := rfl
    have : (4 : Int32).toInt = 4 := rfl
    omega), b149_47]
theorem ix5 (a : Int32) : (a < 0 ∨ 4 < a) ∨ ∃ k, k < 5 ∧ a = nI k := by
  rcases pk_ix a (by decide : 5 < 2 ^ 31) with h | h | h
  · exact Or.inl (Or.inl h)
  · refine Or.inl (Or.inr ?_)
    rw [int_le] at h
    rw [int_lt]
    have : (nI 5).toInt = 5 := rfl
    have : (4 : Int32).toInt = 4 := rfl
    omega
  · exact Or.inr h
theorem mO_no {a : Int32} (h : a < 0 ∨ 4 < a) : mO a = -1 := by
  have q : ∀ k : Int32, 0 ≤ k.toInt → k.toInt ≤ 4 → a ≠ k := fun k h1 h2 e => by
    subst e
    have : (0 : Int32).toInt = 0 := rfl
    have : (4 : Int32).toInt = 4 := rfl
    rcases h with h | h <;> rw [int_lt] at h <;> omega
  unfold mO
  rw [if_neg (q _ (by decide) (by decide)), if_neg (q _ (by decide) (by decide)), if_neg (q _ (by decide) (by decide)), if_neg (q _ (by decide) (by decide)), if_neg (q _ (by decide) (by decide))]
theorem tie_heard (H : zInv t n m q I J) (a b : Int32) : tie d 147 277 [.int a, .int b] t g I J sl rd := by
  obtain ⟨k, h1, h2, h3, h4⟩ := H.2.2.2.2.2.2.2.2.2.2
  -- the class's answer
  have C : aF d 147 [.ref 6, .int a, .int b] (g, I, J, aP1 sl rd 56) = if 12 ≤ k ∨ b < 0 ∨ ¬ b ≤ mO a then some (some (some (.int (-1))), (g, I, J, aP1 sl rd 56)) else some (some (some (.int (nI (k + 1)))), (g, aU (aU (aU I 43 k a) 44 k b) 42 2 (nI (k + 1)), J, aP1 sl rd 56)) := by
    show aE d 147 0 [.ref 6, .int a, .int b] [] _ = _
    have e : aF d 148 [.ref 42, .int a, .int b] (g, I, J, aP1 sl rd 56) = if 12 ≤ k ∨ b < 0 ∨ ¬ b ≤ mO a then some (some (some (.int (-1))), (g, I, J, aP1 sl rd 56)) else some (some (some (.int (nI (k + 1)))), (g, aU (aU (aU I 43 k a) 44 k b) 42 2 (nI (k + 1)), J, aP1 sl rd 56)) := by
      show aE d 148 0 [.ref 42, .int a, .int b] [] _ = _
      rw [b148_0, h2]
      by_cases q1 : 12 ≤ k
      · rw [if_pos (show 12 ≤ nI k from nI_le (a := 12) q1 (by omega)), if_pos (Or.inl q1)]
      · rw [if_neg (show ¬ 12 ≤ nI k from nI_ge (b := 12) (by omega) (by decide))]
        by_cases q2 : b < 0
        · rw [if_pos q2, if_pos (Or.inr (Or.inl q2))]
        · rw [if_neg q2, f149]
          simp only [aBi]
          rw [b148_18]
          by_cases q3 : b ≤ mO a
          · rw [if_pos q3, if_neg (show ¬ (12 ≤ k ∨ b < 0 ∨ ¬ b ≤ mO a) from fun q => by
              rcases q with q | q | q
              · exact q1 q
              · exact q2 q
              · exact q q3)]
            simp (disch := omega) only [h2, aBi, aBv, aBl, nI_1, nIle_t, nIle_f, nIlt_t, nIlt_f, nIeq_t, nIeq_f, nIneg, nI_clamp, nat_le_f, nat_le_t, nat_lt_f, nat_lt_t, or_self, or_false, false_or, if_true, if_false, ↓reduceIte, Int32.or_zero, Int32.add_zero, nIm2, nIm3, nIm4, nIp2, nIp4, nIp6, nIp8, nIp14, nIp16, nIp22, nIp24, nIp30, nIq2, nIq3, nIq4, hasI_0, aU_s, aU_i, aU_r, aU_u]
          · rw [if_neg q3, if_pos (Or.inr (Or.inr q3))]
    rw [b147_0, e]
    split
    · simp only [aBi]; rw [b147_9]
    · simp only [aBi]; rw [b147_9]
  -- the reference's
  have R (I1 : Nat → Nat → Int32) (r46 : I1 46 = I 46) : aF d 277 [.ref 46, .int a, .int b] (g, I1, J, aP1 sl rd 56) = if 12 ≤ k ∨ b < 0 ∨ ¬ b ≤ mO a then some (some (some (.int (-1))), (g, aU I1 46 13 0, J, aP1 sl rd 56)) else some (some (some (.int (nI (k + 1)))), (g, aU (aU (aU (aU I1 46 13 0) 62 k a) 63 k b) 46 35 (nI (k + 1)), J, aP1 sl rd 56)) := by
    show aE d 277 0 [.ref 46, .int a, .int b, aNo] [] _ = _
    have go (M : Int32) (hM : mO a = M) (hin : inI a 0 4 = 1) : aBi (aF d 181 [.int a, .int 0, .int 4] (g, aU I1 46 13 0, J, aP1 sl rd 56)) (fun x t => aE d 277 42 [.ref 46, .int a, .int b, .int M] [.int x] t) = if 12 ≤ k ∨ b < 0 ∨ ¬ b ≤ mO a then some (some (some (.int (-1))), (g, aU I1 46 13 0, J, aP1 sl rd 56)) else some (some (some (.int (nI (k + 1)))), (g, aU (aU (aU (aU I1 46 13 0) 62 k a) 63 k b) 46 35 (nI (k + 1)), J, aP1 sl rd 56)) := by
      rw [f181, hin]
      simp only [aBi]
      rw [b277_42, if_neg (by decide), f181]
      simp only [aBi]
      rw [b277_51, aU_i _ _ (by decide), r46, h3, hM]
      by_cases q2 : b < 0
      · rw [inI_f (Or.inl q2), if_pos rfl, if_pos (Or.inr (Or.inl q2))]
      · by_cases q3 : b ≤ M
        · rw [inI_t q2 (by rw [← nle_lt]; exact fun q => q q3), if_neg (by decide)]
          by_cases q1 : 12 ≤ k
          · rw [if_pos (show nI k = 12 by rw [show k = 12 by omega]; rfl), if_pos (Or.inl q1)]
          · rw [if_neg (show ¬ nI k = 12 from fun e => q1 (by have := (nI_eq (b := 12) (by omega) (by decide)).mp e; omega)), if_neg (show ¬ (12 ≤ k ∨ b < 0 ∨ ¬ b ≤ M) from fun q => by
              rcases q with q | q | q
              · exact q1 q
              · exact q2 q
              · exact q q3)]
            simp (disch := omega) only [aBi, aBv, aBl, nI_1, nIle_t, nIle_f, nIlt_t, nIlt_f, nIeq_t, nIeq_f, nIneg, nI_clamp, nat_le_f, nat_le_t, nat_lt_f, nat_lt_t, or_self, or_false, false_or, if_true, if_false, ↓reduceIte, Int32.or_zero, Int32.add_zero, nIm2, nIm3, nIm4, nIp2, nIp4, nIp6, nIp8, nIp14, nIp16, nIp22, nIp24, nIp30, nIq2, nIq3, nIq4, hasI_0, aU_s, aU_i, aU_r, aU_u]
        · rw [inI_f (Or.inr (by rw [← nle_lt]; exact q3)), if_pos rfl, if_pos (Or.inr (Or.inr q3))]
    rw [b277_0]
    rcases ix5 a with h5 | ⟨j, hj, rfl⟩
    · have hne : ∀ i : Int32, 0 ≤ i.toInt → i.toInt ≤ 4 → a ≠ i := fun i p1 p2 e => by
        subst e
        have : (0 : Int32).toInt = 0 := rfl
        have : (4 : Int32).toInt = 4 := rfl
        rcases h5 with h | h <;> rw [int_lt] at h <;> omega
      rw [if_neg (hne _ (by decide) (by decide)), if_neg (hne _ (by decide) (by decide)), if_neg (hne _ (by decide) (by decide)), f181, inI_f h5]
      simp only [aBi]
      rw [b277_42, if_pos rfl, mO_no h5]
      by_cases q2 : b < 0
      · rw [if_pos (Or.inr (Or.inl q2))]
      · rw [if_pos (Or.inr (Or.inr (by rw [int_le]; rw [int_lt] at q2; have : (0 : Int32).toInt = 0 := rfl; have : (-1 : Int32).toInt = -1 := rfl; omega)))]
    · rcases (by omega : j = 0 ∨ j = 1 ∨ j = 2 ∨ j = 3 ∨ j = 4) with rfl | rfl | rfl | rfl | rfl
      · rw [if_pos (by decide)]; exact go 1 (by decide) (by decide)
      · rw [if_neg (by decide), if_pos (by decide)]; exact go 99 (by decide) (by decide)
      · rw [if_neg (by decide), if_neg (by decide), if_pos (by decide)]; exact go 9 (by decide) (by decide)
      · rw [if_neg (by decide), if_neg (by decide), if_neg (by decide)]; exact go 8 (by decide) (by decide)
      · rw [if_neg (by decide), if_neg (by decide), if_neg (by decide)]; exact go 8 (by decide) (by decide)
  by_cases hx : 12 ≤ k ∨ b < 0 ∨ ¬ b ≤ mO a
  · refine tie_0 (rd2 := rd) (v := -1) H (Fr_r _ _) (th_F _) (th_46 _) ?_ ?_
    · exact C.trans (if_pos hx)
    · exact (R I rfl).trans (if_pos hx)
  · refine ⟨nI (k + 1), aU (aU (aU I 43 k a) 44 k b) 42 2 (nI (k + 1)), J, aU (aU (aU (aU (aU (aU (aU I 43 k a) 44 k b) 42 2 (nI (k + 1))) 46 13 0) 62 k a) 63 k b) 46 35 (nI (k + 1)), J, rd, n, m, q, C.trans (if_neg hx), ?_, zInv_up ?_, by simp (disch := decide) only [aU_r]⟩
    · exact (R _ (by simp (disch := decide) only [aU_r])).trans (if_neg hx)
    · have hk : k < 12 := by omega
      have hb : ¬ b < 0 := fun q => hx (Or.inr (Or.inl q))
      have hb2 : b ≤ mO a := Classical.byContradiction (fun q => hx (Or.inr (Or.inr q)))
      have ha : ∃ p, p < 5 ∧ a = nI p := by
        rcases ix5 a with h5 | h5
        · exfalso
          rw [mO_no h5] at hb2
          rw [int_le] at hb2
          rw [int_lt] at hb
          have : (0 : Int32).toInt = 0 := rfl
          have : (-1 : Int32).toInt = -1 := rfl
          omega
        · exact h5
      have hb3 : ∃ p, p ≤ 99 ∧ b = nI p := by
        refine nI_of2 (M := 99) (n := 99) rfl hb ?_
        obtain ⟨p, hp, rfl⟩ := ha
        have e : mO (nI p) ≤ 99 := by
          rcases (by omega : p = 0 ∨ p = 1 ∨ p = 2 ∨ p = 3 ∨ p = 4) with rfl | rfl | rfl | rfl | rfl <;> decide
        rw [int_le] at *
        omega
      obtain ⟨a1, a2, a3, a4, a5, a6, a7, a8, a9, b1, b2⟩ := H
      unfold zInv
      simp (disch := decide) only [aU_r, aU_i, aU_s]
      refine ⟨a1, a2, a3, a4, a5, a6, a7, a8, a9, b1, ⟨k + 1, by omega, rfl, rfl, fun i hi => ?_⟩⟩
      by_cases e : i = k
      · subst e
        simp only [aU_s]
        refine ⟨trivial, trivial, ha, hb3, fun e0 => ?_⟩
        subst e0
        obtain ⟨p, hp, rfl⟩ := hb3
        refine ⟨p, ?_, rfl⟩
        have := nI_lei (b := 1) hb2 (by omega)
        omega
      · simp only [aU_i _ _ e]
        exact h4 i (by omega)
end T01
section T02
/-! kept states, the text, races: tied -/
variable {d : Nat} {g : Nat × Nat × Nat} {I : Nat → Nat → Int32} {J : Nat → Nat → Int64} {sl rd rl : Nat} {t n m q : Nat}
theorem ix2 (a : Int32) : (a < 0 ∨ 1 < a) ∨ ∃ k, k < 2 ∧ a = nI k := by
  rcases isC_ix a with h | h
  · exact Or.inl (isC_b h)
  · exact Or.inr h
theorem lt12 {a : Int32} : (1 < a) = (2 ≤ a) := by
  refine propext ⟨fun h => ?_, fun h => ?_⟩
  · rw [int_lt] at h; rw [int_le]; have : (1 : Int32).toInt = 1 := rfl; have : (2 : Int32).toInt = 2 := rfl; omega
  · rw [int_le] at h; rw [int_lt]; have : (1 : Int32).toInt = 1 := rfl; have : (2 : Int32).toInt = 2 := rfl; omega
theorem nb1 : vp_nar .boolean 1 = 1 := by decide
theorem nb0 : vp_nar .boolean 0 = 0 := by decide
theorem cpB_away (r f : Nat → Int32) {o n a : Nat} (h : ∀ k, k < a → o + n ≤ k ∨ k < o) {k : Nat} (hk : k < a) : cpB r f o n k = r k := cpB_out _ _ (by rcases h k hk with h | h; exact Or.inr h; exact Or.inl h)
theorem tie_keep (H : zInv t n m q I J) (a : Int32) : tie d 166 291 [.int a] t g I J sl rd := by
  rcases ix2 a with hx | ⟨i, hi, rfl⟩
  · refine tie_0 (rd2 := rd) (v := 0) H (Fr_r _ _) (th_F _) (th_46 _) ?_ ?_
    · show aE d 166 0 [.ref 6, .int a] [] _ = _
      rw [b166_0]
      rcases hx with hx | hx
      · rw [if_pos hx]
      · rw [if_neg (c := a < 2) (by rw [lt12, int_le] at hx; rw [int_lt]; omega), ite_self]
    · show aE d 291 0 [.ref 46, .int a] [] _ = _
      rw [b291_0, f181, inI_f hx]
      simp only [aBi]
      rw [b291_11, if_pos rfl]
  obtain ⟨c, c1, c2, c3⟩ := H.2.2.2.2.2.2.2.2.1
  have hS := H.2.2.2.2.2.2.1
  have e1 : aF d 166 [.ref 6, .int (nI i)] (g, I, J, aP1 sl rd 56) = some (some (some (.int 1)), (g, aR (aR I 31 (cpB (I 31) (I 24) (32 * i) 32)) 32 (upd (I 32) i 1), J, aP1 sl rd 56)) := by
    show aE d 166 0 [.ref 6, .int (nI i)] [] _ = _
    rw [b166_0, if_neg (nI_pos (by omega)), if_pos (show nI i < 2 from nI_lt (b := 2) hi (by decide)), f81_31 hi]
    simp only [aBv]
    rw [b166_23, nb1]
    simp (disch := omega) only [aU_R, aR_r, aBi, aBv, aBl, nI_1, nIle_t, nIle_f, nIlt_t, nIlt_f, nIeq_t, nIeq_f, nIneg, nI_clamp, nat_le_f, nat_le_t, nat_lt_f, nat_lt_t, or_self, or_false, false_or, if_true, if_false, ↓reduceIte, Int32.or_zero, Int32.add_zero, nIm2, nIm3, nIm4, nIp2, nIp4, nIp6, nIp8, nIp14, nIp16, nIp22, nIp24, nIp30, nIq2, nIq3, nIq4, hasI_0, aU_s, aU_i, aU_r, aU_u]
  generalize hI1 : aR (aR I 31 (cpB (I 31) (I 24) (32 * i) 32)) 32 (upd (I 32) i 1) = I1 at e1
  have F1 : Fr [31, 32] I I1 := by rw [← hI1]; exact Fr_s (Fr_s (Fr_r _ _) _ (by decide)) _ (by decide)
  have e2 : aF d 291 [.ref 46, .int (nI i)] (g, I1, J, aP1 sl rd 56) = some (some (some (.int 1)), (g, aR (aU (aU (aU I1 46 13 0) 65 i 1) 66 i (nI c)) 64 (cpB (I 64) (I 47) (39 * i) 39), J, aP1 sl rd 56)) := by
    show aE d 291 0 [.ref 46, .int (nI i)] [] _ = _
    rw [b291_0, f181, inI_C, isC_n hi]
    simp only [aBi]
    rw [b291_11, if_neg (by decide), nb1]
    simp (disch := omega) only [nIm39, f222_64, F1 46 (by decide), F1 64 (by decide), F1 47 (by decide), c2, b291_48, aBi, aBv, aBl, nI_1, nIle_t, nIle_f, nIlt_t, nIlt_f, nIeq_t, nIeq_f, nIneg, nI_clamp, nat_le_f, nat_le_t, nat_lt_f, nat_lt_t, or_self, or_false, false_or, if_true, if_false, ↓reduceIte, Int32.or_zero, Int32.add_zero, nIm2, nIm3, nIm4, nIp2, nIp4, nIp6, nIp8, nIp14, nIp16, nIp22, nIp24, nIp30, nIq2, nIq3, nIq4, hasI_0, aU_s, aU_i, aU_r, aU_u]
  refine ⟨1, I1, J, _, J, rd, n, m, q, e1, e2, zInv_up ?_, ?_⟩
  · have r := F1
    have r0 : ∀ a, a ∉ [31, 32] → I1 a = I a := F1
    have r31 : I1 31 = cpB (I 31) (I 24) (32 * i) 32 := by rw [← hI1, aR_r _ _ (by decide), aR_s]
    have r32 : I1 32 = upd (I 32) i 1 := by rw [← hI1, aR_s]
    obtain ⟨a1, a2, a3, a4, a5, a6, a7, a8, a9, b1, b2⟩ := H
    unfold zInv
    simp (disch := decide) only [aR_r, aR_s, aU_r, aU_i, r0, r31, r32, aU_R]
    refine ⟨a1, a2, a3, a4, a5, a6, a7, a8, ⟨c, c1, c2, fun j hj => ?_⟩, b1, b2⟩
    by_cases e : j = i
    · subst e
      rw [upd_s, upd_s, upd_s]
      refine ⟨Or.inr rfl, ⟨c, Nat.le_refl _, rfl⟩, ⟨fun _ => ⟨by decide, rfl⟩, fun _ => rfl⟩, fun _ => ?_⟩
      refine okS_congr a7 (fun k hk => ?_) (fun k hk => ?_)
      · rw [cpB_in _ _ (by omega) (by omega)]; congr 1; omega
      · rw [cpB_in _ _ (by omega) (by omega)]; congr 1; omega
    · rw [upd_n _ _ e, upd_n _ _ e, upd_n _ _ e]
      obtain ⟨k1, k2, k3, k4⟩ := c3 j hj
      refine ⟨k1, k2, k3, fun h => okS_congr (k4 h) (fun k hk => ?_) (fun k hk => ?_)⟩
      · rw [cpB_out _ _ (by omega)]
      · rw [cpB_out _ _ (by omega)]
  · simp (disch := decide) only [aR_r, aU_r]; exact F1 0 (by decide)
theorem tie_again (H : zInv t n m q I J) (a : Int32) : tie d 167 292 [.int a] t g I J sl rd := by
  rcases ix2 a with hx | ⟨i, hi, rfl⟩
  · refine tie_0 (rd2 := rd) (v := 0) H (Fr_r _ _) (th_F _) (th_46 _) ?_ ?_
    · show aE d 167 0 [.ref 6, .int a] [] _ = _
      rw [b167_0]
      rcases hx with hx | hx
      · rw [if_pos hx]
      · rw [if_pos (c := 2 ≤ a) (by rw [← lt12]; exact hx), ite_self]
    · show aE d 292 0 [.ref 46, .int a, aNo] [] _ = _
      rw [b292_0, f181, inI_f hx]
      simp only [aBi]
      rw [b292_11, if_pos rfl]
  obtain ⟨c, c1, c2, c3⟩ := H.2.2.2.2.2.2.2.2.1
  obtain ⟨k1, k2, k3, k4⟩ := c3 i hi
  have hS := H.2.2.2.2.2.2.1
  have R (I1 : Nat → Nat → Int32) (r46 : I1 46 = I 46) (r65 : I1 65 = I 65) (r66 : I1 66 = I 66) : aF d 292 [.ref 46, .int (nI i)] (g, I1, J, aP1 sl rd 56) = if I 65 i = 0 then some (some (some (.int 0)), (g, aU I1 46 13 0, J, aP1 sl rd 56)) else if I 66 i = nI c then aE d 292 40 [.ref 46, .int (nI i), .int 0] [] (g, aU I1 46 13 0, J, aP1 sl rd 56) else some (some (some (.int 0)), (g, aU I1 46 13 0, J, aP1 sl rd 56)) := by
    show aE d 292 0 [.ref 46, .int (nI i), aNo] [] _ = _
    rw [b292_0, f181, inI_C, isC_n hi]
    simp only [aBi]
    rw [b292_11, if_neg (by decide)]
    simp (disch := omega) only [r46, r65, r66, c2, aBi, aBv, aBl, nI_1, nIle_t, nIle_f, nIlt_t, nIlt_f, nIeq_t, nIeq_f, nIneg, nI_clamp, nat_le_f, nat_le_t, nat_lt_f, nat_lt_t, or_self, or_false, false_or, if_true, if_false, ↓reduceIte, Int32.or_zero, Int32.add_zero, nIm2, nIm3, nIm4, nIp2, nIp4, nIp6, nIp8, nIp14, nIp16, nIp22, nIp24, nIp30, nIq2, nIq3, nIq4, hasI_0, aU_s, aU_i, aU_r, aU_u]
  by_cases hk : I 32 i = 0
  · have hn : ¬ (¬ I 65 i = 0 ∧ I 66 i = nI c) := fun h => by
      have := k3.mpr h; rw [hk] at this; exact absurd this (by decide)
    refine tie_0 (rd2 := rd) (v := 0) H (Fr_r _ _) (th_F _) (th_46 _) ?_ ?_
    · show aE d 167 0 [.ref 6, .int (nI i)] [] _ = _
      rw [b167_0]
      simp (disch := omega) only [kgf2, kgt2, klt2, klf2, kmt2, kmf2, kat2, kaf2, ket2, kef2, hk, aBi, aBv, aBl, nI_1, nIle_t, nIle_f, nIlt_t, nIlt_f, nIeq_t, nIeq_f, nIneg, nI_clamp, nat_le_f, nat_le_t, nat_lt_f, nat_lt_t, or_self, or_false, false_or, if_true, if_false, ↓reduceIte, Int32.or_zero, Int32.add_zero, nIm2, nIm3, nIm4, nIp2, nIp4, nIp6, nIp8, nIp14, nIp16, nIp22, nIp24, nIp30, nIq2, nIq3, nIq4, hasI_0, aU_s, aU_i, aU_r, aU_u]
    · refine (R I rfl rfl rfl).trans ?_
      by_cases h : I 65 i = 0
      · rw [if_pos h]
      · rw [if_neg h, if_neg (fun e => hn ⟨h, e⟩)]
  have hk1 : I 32 i = 1 := k1.resolve_left hk
  obtain ⟨m1, m2⟩ := k3.mp hk1
  have hS2 := k4 hk1
  have e1 : aF d 167 [.ref 6, .int (nI i)] (g, I, J, aP1 sl rd 56) = some (some (some (.int 1)), (g, aR (aR I 24 (cpB (I 24) (fun k => I 31 (32 * i + k)) 0 32)) 29 (upd (I 29) 1 0), J, aP1 sl rd 56)) := by
    show aE d 167 0 [.ref 6, .int (nI i)] [] _ = _
    rw [b167_0]
    simp (disch := omega) only [kgf2, kgt2, klt2, klf2, kmt2, kmf2, kat2, kaf2, ket2, kef2, hk1, n10, f107_31 hi, b167_32, aBi, aBv, aBl, nI_1, nIle_t, nIle_f, nIlt_t, nIlt_f, nIeq_t, nIeq_f, nIneg, nI_clamp, nat_le_f, nat_le_t, nat_lt_f, nat_lt_t, or_self, or_false, false_or, if_true, if_false, ↓reduceIte, Int32.or_zero, Int32.add_zero, nIm2, nIm3, nIm4, nIp2, nIp4, nIp6, nIp8, nIp14, nIp16, nIp22, nIp24, nIp30, nIq2, nIq3, nIq4, hasI_0, aU_s, aU_i, aU_r, aU_u]
    rw [show ∀ I : Nat → Nat → Int32, aF d 54 [.ref 29] (g, I, J, aP1 sl rd 56) = some (some none, (g, aU I 29 1 0, J, aP1 sl rd 56)) from fun I => by
      show aE d 54 0 [.ref 29] [] _ = _
      rw [b54_0]]
    simp only
    rw [b167_39, aU_R, aR_r _ _ (by decide)]
  generalize hI1 : aR (aR I 24 (cpB (I 24) (fun k => I 31 (32 * i + k)) 0 32)) 29 (upd (I 29) 1 0) = I1 at e1
  have F1 : Fr [24, 29] I I1 := by rw [← hI1]; exact Fr_s (Fr_s (Fr_r _ _) _ (by decide)) _ (by decide)
  have r47 := F1 47 (by decide)
  have r64 := F1 64 (by decide)
  have l : ∀ k j, j + k = 39 → aE d 292 40 [.ref 46, .int (nI i), .int (nI j)] [] (g, aR (aU I1 46 13 0) 47 (cpB (I 47) (fun k => I 64 (39 * i + k)) 0 j), J, aP1 sl rd 56) = some (some (some (.int 1)), (g, aU (aR (aU I1 46 13 0) 47 (cpB (I 47) (fun k => I 64 (39 * i + k)) 0 39)) 46 26 0, J, aP1 sl rd 56)) := by
    intro k
    induction k with
    | zero =>
      intro j hj; obtain rfl : j = 39 := by omega
      rw [b292_40]
      simp (disch := omega) only [kgf39, kgt39, klt39, klf39, kmt39, kmf39, kat39, kaf39, ket39, kef39, aBi, aBv, aBl, nI_1, nIle_t, nIle_f, nIlt_t, nIlt_f, nIeq_t, nIeq_f, nIneg, nI_clamp, nat_le_f, nat_le_t, nat_lt_f, nat_lt_t, or_self, or_false, false_or, if_true, if_false, ↓reduceIte, Int32.or_zero, Int32.add_zero, nIm2, nIm3, nIm4, nIp2, nIp4, nIp6, nIp8, nIp14, nIp16, nIp22, nIp24, nIp30, nIq2, nIq3, nIq4, hasI_0, aU_s, aU_i, aU_r, aU_u]
    | succ k ih =>
      intro j hj
      have e64 : aU I1 46 13 0 64 = I 64 := by rw [aU_r _ _ (by decide), r64]
      rw [b292_40]
      simp (disch := omega) only [aR_r, e64, nIm39, nI_add, kgf39, nI_1, nI_clamp, nIneg, nat_le_f, or_self, if_false]
      rw [aU_R, aR_s, aR_u, show upd (cpB (I 47) (fun k => I 64 (39 * i + k)) 0 j) j (I 64 (39 * i + j)) = cpB (I 47) (fun k => I 64 (39 * i + k)) 0 (j + 1) from by
        have := cpB_1 (I 47) (fun k => I 64 (39 * i + k)) 0 j
        rw [Nat.zero_add] at this; exact this]
      exact ih (j + 1) (by omega)
  have e2 : aF d 292 [.ref 46, .int (nI i)] (g, I1, J, aP1 sl rd 56) = some (some (some (.int 1)), (g, aU (aR (aU I1 46 13 0) 47 (cpB (I 47) (fun k => I 64 (39 * i + k)) 0 39)) 46 26 0, J, aP1 sl rd 56)) := by
    rw [R I1 (F1 46 (by decide)) (F1 65 (by decide)) (F1 66 (by decide)), if_neg m1, if_pos m2]
    have l0 := l 39 0 rfl
    rw [cpB_0, show aR (aU I1 46 13 0) 47 (I 47) = aU I1 46 13 0 from by
      rw [show I 47 = aU I1 46 13 0 47 from by rw [aU_r _ _ (by decide), r47]]
      exact aR_i _ _] at l0
    exact l0
  generalize hI2 : aU (aR (aU I1 46 13 0) 47 (cpB (I 47) (fun k => I 64 (39 * i + k)) 0 39)) 46 26 0 = I2 at e2
  have F2 : Fr [46, 47] I1 I2 := by
    rw [← hI2, aU_R, aU_R]; exact Fr_s (Fr_s (Fr_s (Fr_r _ _) _ (by decide)) _ (by decide)) _ (by decide)
  have F3 : F46 [13, 26] I1 I2 := by
    intro j hj
    have hj : j ≠ 13 ∧ j ≠ 26 := by simpa using hj
    rw [← hI2, aU_i _ _ hj.2, aR_r _ _ (by decide), aU_i _ _ hj.1]
  obtain ⟨u, x, u1, u2, u3, u4, u5, u6⟩ := zU_get H
  refine ⟨1, I1, J, I2, J, rd, n, m, q, e1, e2, zInv_up (zInv_N H (Fr_t (Fr_w F1 (by decide)) (Fr_w F2 (by decide))) (F46_t (F46_f F1 (by decide)) (F46_w F3 (by decide))) ?_ ?_ ?_), (F2 0 (by decide)).trans (F1 0 (by decide))⟩
  · rw [F2 12 (by decide), F1 12 (by decide), F3 12 (by decide), F1 46 (by decide)]; exact H.2.1
  · rw [F2 24 (by decide), ← hI2, aU_r _ _ (by decide), aR_s, ← hI1, aR_r _ _ (by decide), aR_s]
    refine okS_congr hS2 (fun i hi => ?_) (fun i hi => ?_)
    · rw [cpB_in _ _ (by omega) (by omega)]; simp only [Nat.sub_zero]
    · rw [cpB_in _ _ (by omega) (by omega)]; simp only [Nat.sub_zero]
  · rw [F2 29 (by decide), F2 30 (by decide), F1 30 (by decide), F2 58 (by decide), F1 58 (by decide), ← hI2, aU_s, ← hI1, aR_s, upd_s, upd_n _ _ (by decide), u3]
    exact ⟨0, x, rfl, rfl, rfl, okU_0 u6⟩
/-! the text -/
theorem bp_b (x : Int32) : x.toInt8.toInt32 &&& 255 = x &&& 255 := by
  apply Int32.toBitVec_inj.mp
  rw [Int32.toBitVec_and, Int32.toBitVec_and, Int8.toBitVec_toInt32, Int32.toBitVec_toInt8]
  apply BitVec.eq_of_getLsbD_eq
  intro i hi
  rw [BitVec.getLsbD_and, BitVec.getLsbD_and]
  have hm : ∀ i < 32, 8 ≤ i → (255 : Int32).toBitVec.getLsbD i = false := by decide
  rcases Nat.lt_or_ge i 8 with z | z
  · rw [BitVec.getLsbD_signExtend, BitVec.getLsbD_signExtend, if_pos z, if_pos hi]
    simp only [z, hi, decide_true, Bool.true_and]
  · rw [hm i hi z, Bool.and_false, Bool.and_false]
theorem chN : ∀ n, n < 256 → vp_nar .char (UInt32.toInt32 (Int32.toUInt32 (nI n) % 65536)) = nI n := by decide +kernel
theorem by8 : ∀ n, n < 256 → ((Int8.ofNat n).toInt32 &&& 255) < 128 → (Int8.ofNat n).toInt32 &&& 255 = (Int8.ofNat n).toInt32 := by decide +kernel
theorem by_ok (b : Int8) (h : (b.toInt32 &&& 255) < 128) : b.toInt32 &&& 255 = b.toInt32 := by
  have e : Int8.ofNat b.toBitVec.toNat = b := by
    apply Int8.toBitVec_inj.mp
    apply BitVec.eq_of_toNat_eq
    show (BitVec.ofNat 8 _).toNat = _
    rw [BitVec.toNat_ofNat]
    exact Nat.mod_eq_of_lt b.toBitVec.isLt
  have k := by8 b.toBitVec.toNat b.toBitVec.isLt
  rw [e] at k
  exact k h
def cSg (v s : Int32) : Int32 := vp_nar .char (UInt32.toInt32 (Int32.toUInt32 ((v.toUInt32 >>> (Int32.toUInt32 s &&& Int32.toUInt32 31)).toInt32 &&& 255) % 65536))
def rSg (v k : Int32) : Int32 := vp_nar .byte (Int8.toInt32 (Int32.toInt8 (v >>> ((8 * k) &&& 31))))
theorem sg_eq (v : Int32) {j : Nat} (hj : j < 4) : cSg v (nI (8 * j)) = rSg v (nI j) &&& 255 := by
  have e : ((v.toUInt32 >>> (Int32.toUInt32 (nI (8 * j)) &&& Int32.toUInt32 31)).toInt32 &&& 255) = (v >>> (nI (8 * j) &&& 31)) &&& 255 := by
    refine b_ext (fun i hi => ?_)
    rw [b_and, b_and, b_ushr _ (by omega), b_sshr _ (by omega) v hi, b_255]
    by_cases h : i < 8
    · rw [if_pos (by omega)]
    · simp only [h, decide_false, Bool.and_false]
  unfold cSg rSg
  rw [pk_vb, bp_b, show (8 : Int32) * nI j = nI (8 * j) from pk_mul 8 j, e]
  obtain ⟨k, hk, e2⟩ := pk_andE (v >>> (nI (8 * j) &&& 31)) (m := 255) 8 (by decide)
  rw [e2, chN k hk]
theorem rSg_ok (v k : Int32) (h : (rSg v k &&& 255) < 128) : rSg v k &&& 255 = rSg v k := by
  unfold rSg at *
  rw [pk_vb] at *
  exact by_ok _ h
theorem f26 {k : Nat} (h : I 7 1 = nI k) (hk : k < 80) (x : Int32) : aF d 26 [.ref 7, .int x] (g, I, J, aP1 sl rd rl) = some (some none, (g, aR (aR I 8 (upd (I 8) k (vp_nar .char x))) 7 (upd (I 7) 1 (nI (k + 1))), J, aP1 sl rd rl)) := by
  show aE d 26 0 [.ref 7, .int x] [] _ = _
  simp (disch := omega) only [b26_0, h, kgf80, kgt80, klt80, klf80, kmt80, kmf80, kat80, kaf80, ket80, kef80, aU_R, aR_r, aBi, aBv, aBl, nI_1, nIle_t, nIle_f, nIlt_t, nIlt_f, nIeq_t, nIeq_f, nIneg, nI_clamp, nat_le_f, nat_le_t, nat_lt_f, nat_lt_t, or_self, or_false, false_or, if_true, if_false, ↓reduceIte, Int32.or_zero, Int32.add_zero, nIm2, nIm3, nIm4, nIp2, nIp4, nIp6, nIp8, nIp14, nIp16, nIp22, nIp24, nIp30, nIq2, nIq3, nIq4, hasI_0, aU_s, aU_i, aU_r, aU_u]
def up4 (r : Nat → Int32) (k : Nat) (a b c e : Int32) : Nat → Int32 := upd (upd (upd (upd r k a) (k + 1) b) (k + 2) c) (k + 3) e
theorem f44 {k : Nat} (h : I 7 1 = nI k) (hk : k + 4 ≤ 80) (v : Int32) : aF d 44 [.ref 7, .int v] (g, I, J, aP1 sl rd rl) = some (some (some (.int (nI (k + 4)))), (g, aR (aR I 8 (up4 (I 8) k (cSg v 24) (cSg v 16) (cSg v 8) (cSg v 0))) 7 (upd (I 7) 1 (nI (k + 4))), J, aP1 sl rd rl)) := by
  show aE d 44 0 [.ref 7, .int v, aNo] [] _ = _
  rw [b44_0, h, if_pos (show nI k + 4 ≤ 80 from by rw [show nI k + 4 = nI (k + 4) from nI_add k 4]; exact nI_le (b := 80) hk (by decide))]
  have st : ∀ (s : Int32) (j : Nat) (r8 : Nat → Int32) (hs : ¬ s < 0), j < 80 → aE d 44 19 [.ref 7, .int v, .int s] [] (g, aR (aR I 8 r8) 7 (upd (I 7) 1 (nI j)), J, aP1 sl rd rl) = aE d 44 19 [.ref 7, .int v, .int (s + (-8))] [] (g, aR (aR I 8 (upd r8 j (cSg v s))) 7 (upd (I 7) 1 (nI (j + 1))), J, aP1 sl rd rl) := by
    intro s j r8 hs hj
    rw [b44_19, if_neg hs, f26 (k := j) (by rw [aR_s, upd_s]) hj]
    simp only [aBv]
    rw [b44_35, aR_s, upd_u, aR_r _ _ (show 8 ≠ 7 by decide), aR_s, aR_c (aR I 8 r8) _ _ (show 7 ≠ 8 by decide), aR_u, aR_u]
    rfl
  have s0 := st 24 k (I 8) (by decide) (by omega)
  rw [show aR (aR I 8 (I 8)) 7 (upd (I 7) 1 (nI k)) = I from by
    rw [aR_i, show upd (I 7) 1 (nI k) = I 7 from by
      funext j; unfold upd; split
      · rename_i e; rw [e]; exact h.symm
      · rfl]
    exact aR_i _ _] at s0
  rw [s0, show (24 : Int32) + (-8) = 16 by decide, st 16 _ _ (by decide) (by omega), show (16 : Int32) + (-8) = 8 by decide, st 8 _ _ (by decide) (by omega), show (8 : Int32) + (-8) = 0 by decide, st 0 _ _ (by decide) (by omega), show (0 : Int32) + (-8) = -8 by decide, b44_19, if_pos (by decide), aR_s, upd_s]
  rfl
theorem f179 {k : Nat} (h : I 46 10 = nI k) (hk : k + 4 ≤ 80) (v : Int32) : aF d 179 [.ref 46, .int v] (g, I, J, aP1 sl rd rl) = some (some (some (.int (nI (k + 4)))), (g, aR (aR I 52 (up4 (I 52) k (rSg v 3) (rSg v 2) (rSg v 1) (rSg v 0))) 46 (upd (upd (I 46) 13 0) 10 (nI (k + 4))), J, aP1 sl rd rl)) := by
  show aE d 179 0 [.ref 46, .int v, aNo] [] _ = _
  rw [b179_0, h, if_pos (show nI k + 4 ≤ 80 from by rw [show nI k + 4 = nI (k + 4) from nI_add k 4]; exact nI_le (b := 80) hk (by decide))]
  have st : ∀ (s : Int32) (j : Nat) (r8 : Nat → Int32) (hs : ¬ s < 0), j < 80 → aE d 179 20 [.ref 46, .int v, .int s] [] (g, aR (aR I 52 r8) 46 (upd (upd (I 46) 13 0) 10 (nI j)), J, aP1 sl rd rl) = aE d 179 20 [.ref 46, .int v, .int (s + (-1))] [] (g, aR (aR I 52 (upd r8 j (rSg v s))) 46 (upd (upd (I 46) 13 0) 10 (nI (j + 1))), J, aP1 sl rd rl) := by
    intro s j r8 hs hj
    rw [b179_20, if_neg hs]
    simp only [aR_s, upd_s]
    simp (disch := omega) only [aBi, aBv, aBl, nI_1, nIle_t, nIle_f, nIlt_t, nIlt_f, nIeq_t, nIeq_f, nIneg, nI_clamp, nat_le_f, nat_le_t, nat_lt_f, nat_lt_t, or_self, or_false, false_or, if_true, if_false, ↓reduceIte, Int32.or_zero, Int32.add_zero, nIm2, nIm3, nIm4, nIp2, nIp4, nIp6, nIp8, nIp14, nIp16, nIp22, nIp24, nIp30, nIq2, nIq3, nIq4, hasI_0, aU_s, aU_i, aU_r, aU_u]
    rw [aU_R, aU_R, aR_s, upd_u, aR_u, aR_r _ _ (show 52 ≠ 46 by decide), aR_s, aR_c (aR I 52 r8) _ _ (show 46 ≠ 52 by decide), aR_u]
    rfl
  have s0 := st 3 k (I 52) (by decide) (by omega)
  rw [show aR (aR I 52 (I 52)) 46 (upd (upd (I 46) 13 0) 10 (nI k)) = aU I 46 13 0 from by
    rw [aR_i, aU_R, show upd (upd (I 46) 13 0) 10 (nI k) = upd (I 46) 13 0 from by
      funext j; unfold upd; split
      · rename_i e; rw [e, if_neg (by decide)]; exact h.symm
      · rfl]] at s0
  rw [s0, show (3 : Int32) + (-1) = 2 by decide, st 2 _ _ (by decide) (by omega), show (2 : Int32) + (-1) = 1 by decide, st 1 _ _ (by decide) (by omega), show (1 : Int32) + (-1) = 0 by decide, st 0 _ _ (by decide) (by omega), show (0 : Int32) + (-1) = -1 by decide, b179_20, if_pos (by decide), aR_s, upd_s]
  rfl
theorem byR_upd {r : Nat → Int32} {k : Nat} {x : Int32} (h : byR r) (hx : (x &&& 255) < 128 → x &&& 255 = x) : byR (upd r k x) := fun j => by
  by_cases e : j = k
  · subst e; rw [upd_s]; exact hx
  · rw [upd_n _ _ e]; exact h j
theorem up4_in (r : Nat → Int32) (k : Nat) (a b c e : Int32) (i : Nat) : up4 r k a b c e i = if i = k + 3 then e else if i = k + 2 then c else if i = k + 1 then b else if i = k then a else r i := rfl
theorem tie_sign (H : zInv t n m q I J) (v : Int32) : tie d 43 179 [.int v] t g I J sl rd := by
  obtain ⟨k, h1, h2, h3, h4, h5⟩ := H.1
  by_cases hk : k + 4 ≤ 80
  · have e1 : aF d 43 [.ref 6, .int v] (g, I, J, aP1 sl rd 56) = some (some (some (.int (nI (k + 4)))), (g, aR (aR I 8 (up4 (I 8) k (cSg v 24) (cSg v 16) (cSg v 8) (cSg v 0))) 7 (upd (I 7) 1 (nI (k + 4))), J, aP1 sl rd 56)) := by
      show aE d 43 0 [.ref 6, .int v] [] _ = _
      rw [b43_0, f44 h2 hk]
      simp only [aBi]
      rw [b43_8]
    generalize hI1 : aR (aR I 8 (up4 (I 8) k (cSg v 24) (cSg v 16) (cSg v 8) (cSg v 0))) 7 (upd (I 7) 1 (nI (k + 4))) = I1 at e1
    have F1 : ∀ a, a ∉ [7, 8] → I1 a = I a := by rw [← hI1]; exact Fr_s (Fr_s (Fr_r _ _) _ (by decide)) _ (by decide)
    have r7 : I1 7 1 = nI (k + 4) := by rw [← hI1, aR_s, upd_s]
    have r8 : I1 8 = up4 (I 8) k (cSg v 24) (cSg v 16) (cSg v 8) (cSg v 0) := by rw [← hI1, aR_r _ _ (by decide), aR_s]
    have e2 := f179 (d := d) (g := g) (I := I1) (J := J) (sl := sl) (rd := rd) (rl := 56) (k := k) (by rw [F1 46 (by decide)]; exact h3) hk v
    refine ⟨_, I1, J, _, J, rd, n, m, q, e1, e2, zInv_up ?_, by simp (disch := decide) only [aR_r]; exact F1 0 (by decide)⟩
    obtain ⟨a1, a2, a3, a4, a5, a6, a7, a8, a9, b1, b2⟩ := H
    unfold zInv
    simp (disch := decide) only [aR_r, aR_s, F1, r7, r8, upd_s, upd_n]
    refine ⟨⟨k + 4, hk, rfl, rfl, fun i hi => ?_, byR_upd (byR_upd (byR_upd (byR_upd h5 (rSg_ok _ _)) (rSg_ok _ _)) (rSg_ok _ _)) (rSg_ok _ _)⟩, a2, a3, a4, a5, a6, a7, a8, a9, b1, b2⟩
    · rw [up4_in, up4_in]
      by_cases q3 : i = k + 3
      · rw [if_pos q3, if_pos q3]; exact sg_eq v (j := 0) (by decide)
      · rw [if_neg q3, if_neg q3]
        by_cases q2 : i = k + 2
        · rw [if_pos q2, if_pos q2]; exact sg_eq v (j := 1) (by decide)
        · rw [if_neg q2, if_neg q2]
          by_cases q1 : i = k + 1
          · rw [if_pos q1, if_pos q1]; exact sg_eq v (j := 2) (by decide)
          · rw [if_neg q1, if_neg q1]
            by_cases q0 : i = k
            · rw [if_pos q0, if_pos q0]; exact sg_eq v (j := 3) (by decide)
            · rw [if_neg q0, if_neg q0]; exact h4 i (by omega)
  · refine tie_0 (rd2 := rd) (v := -1) H (Fr_r _ _) (th_F _) (th_46 _) ?_ ?_
    · show aE d 43 0 [.ref 6, .int v] [] _ = _
      rw [b43_0, show aF d 44 [.ref 7, .int v] (g, I, J, aP1 sl rd 56) = some (some (some (.int (-1))), (g, I, J, aP1 sl rd 56)) from by
        show aE d 44 0 [.ref 7, .int v, aNo] [] _ = _
        rw [b44_0, h2, if_neg (show ¬ nI k + 4 ≤ 80 from by rw [show nI k + 4 = nI (k + 4) from nI_add k 4]; exact nI_ge (a := 80) (by omega) (by omega))]]
      simp only [aBi]
      rw [b43_8]
    · show aE d 179 0 [.ref 46, .int v, aNo] [] _ = _
      rw [b179_0, h3, if_neg (show ¬ nI k + 4 ≤ 80 from by rw [show nI k + 4 = nI (k + 4) from nI_add k 4]; exact nI_ge (a := 80) (by omega) (by omega))]
theorem f42 (x : Int32) : aF d 42 [.ref 7, .int x] (g, I, J, aP1 sl rd rl) = if x < 0 ∨ I 7 1 < x then some (some (some (.int (0))), (g, I, J, aP1 sl rd rl)) else some (some (some (.int 1)), (g, aU I 7 1 x, J, aP1 sl rd rl)) := by
  show aE d 42 0 [.ref 7, .int x] [] _ = _
  rw [b42_0]
  by_cases h1 : x < 0
  · rw [if_pos h1, if_pos (Or.inl h1)]
  · rw [if_neg h1]
    by_cases h2 : x ≤ I 7 1
    · rw [if_pos h2, if_neg (fun h => by
        rcases h with h | h
        · exact h1 h
        · rw [← nle_lt] at h; exact h h2)]
    · rw [if_neg h2, if_pos (Or.inr (by rw [← nle_lt]; exact h2))]
theorem tie_end (H : zInv t n m q I J) (v : Int32) : tie d 45 180 [.int v] t g I J sl rd := by
  obtain ⟨k, h1, h2, h3, h4, h5⟩ := H.1
  by_cases hx : v < 0 ∨ nI k < v
  · refine tie_0 (rd2 := rd) (v := 0) H (Fr_r _ _) (th_F _) (th_46 _) ?_ ?_
    · show aE d 45 0 [.ref 6, .int v] [] _ = _
      rw [b45_0, f42, h2, if_pos hx]
      simp only [aBi]
      rw [b45_8, if_pos (show narrow .boolean (.int 0) = .int 0 from rfl)]
    · show aE d 180 0 [.ref 46, .int v] [] _ = _
      rw [b180_0, f181, h3, inI_f hx]
      simp only [aBi]
      rw [b180_14, if_pos rfl]
  · obtain ⟨j, hj, rfl⟩ : ∃ j, j ≤ k ∧ v = nI j := nI_of2 (M := nI k) (nI_toInt (by omega)) (fun h => hx (Or.inl h)) (Classical.byContradiction fun h => hx (Or.inr (by rw [← nle_lt]; exact h)))
    refine ⟨1, aU I 7 1 (nI j), J, aU (aU (aU I 7 1 (nI j)) 46 13 0) 46 10 (nI j), J, rd, n, m, q, ?_, ?_, zInv_up ?_, by simp (disch := decide) only [aU_r]⟩
    · show aE d 45 0 [.ref 6, .int (nI j)] [] _ = _
      rw [b45_0, f42, h2, if_neg hx]
      simp only [aBi]
      rw [b45_8, if_pos (show narrow .boolean (.int 1) = .int 1 from rfl)]
    · show aE d 180 0 [.ref 46, .int (nI j)] [] _ = _
      rw [b180_0, f181, aU_r _ _ (by decide), h3, inI_t (fun h => hx (Or.inl h)) (fun h => hx (Or.inr h))]
      simp only [aBi]
      rw [b180_14, if_neg (by decide)]
    · obtain ⟨a1, a2, a3, a4, a5, a6, a7, a8, a9, b1, b2⟩ := H
      unfold zInv
      simp (disch := decide) only [aU_r, aU_i, aU_s]
      exact ⟨⟨j, by omega, rfl, rfl, fun i hi => h4 i (by omega), h5⟩, a2, a3, a4, a5, a6, a7, a8, a9, b1, b2⟩
end T02
