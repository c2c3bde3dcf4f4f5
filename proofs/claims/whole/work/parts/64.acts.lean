/-! a call of both sides: the same answer, the invariant -/
variable {d : Nat} {g : Nat × Nat × Nat} {I : Nat → Nat → Int32} {J : Nat → Nat → Int64} {sl rd rl : Nat} {t n m q : Nat}
def tie (d kc km : Nat) (as : List Value) (t : Nat) (g : Nat × Nat × Nat) (I : Nat → Nat → Int32) (J : Nat → Nat → Int64) (sl rd : Nat) : Prop :=
  ∃ v I1 J1 I2 J2 rd2 n m q, aF d kc (.ref 6 :: as) (g, I, J, aP1 sl rd 56) = some (some (some (.int v)), (g, I1, J1, aP1 sl rd 56)) ∧ aF d km (.ref 46 :: as) (g, I1, J1, aP1 sl rd 56) = some (some (some (.int v)), (g, I2, J2, aP1 sl rd2 56)) ∧ zInv (t + 1) n m q I2 J2 ∧ I2 0 = I 0
def scc : List Nat := [9, 10, 11, 17, 25, 26, 27, 28, 35, 36, 37, 38, 39, 40, 41, 45]
def scm : List Nat := [46, 54, 56, 57, 59, 60, 61]
theorem tie_0 {kc km : Nat} {as : List Value} {v : Int32} {I1 I2 : Nat → Nat → Int32} {rd2 : Nat} (H : zInv t n m q I J) (h1 : Fr scc I I1) (h2 : Fr scm I1 I2) (h3 : F46 scf I1 I2) (e1 : aF d kc (.ref 6 :: as) (g, I, J, aP1 sl rd 56) = some (some (some (.int v)), (g, I1, J, aP1 sl rd 56))) (e2 : aF d km (.ref 46 :: as) (g, I1, J, aP1 sl rd 56) = some (some (some (.int v)), (g, I2, J, aP1 sl rd2 56))) : tie d kc km as t g I J sl rd :=
  ⟨v, I1, J, I2, J, rd2, n, m, q, e1, e2, zInv_up (zInv_0 H (Fr_t (Fr_w h1 (by decide)) (Fr_w h2 (by decide))) (F46_t (F46_f h1 (by decide)) h3)), (h2 0 (by decide)).trans (h1 0 (by decide))⟩
theorem zU_get (H : zInv t n m q I J) : ∃ u x, I 29 1 = nI u ∧ u ≤ 12 ∧ I 29 2 = nI x ∧ x < 12 ∧ I 46 26 = nI u ∧ okU n q u x (I 30) (I 58) := by
  obtain ⟨-, -, -, -, -, -, -, ⟨u, x, h1, h2, h3, h4⟩, -⟩ := H
  exact ⟨u, x, h1, h4.1, h3, h4.2.1, h2, h4⟩
def cpN (I : Nat → Nat → Int32) : Nat → Nat → Int32 := aR I 26 (cpB (I 26) (I 24) 0 32)
theorem cpN_r (I : Nat → Nat → Int32) {a : Nat} (h : a ≠ 26) : cpN I a = I a := aR_r _ _ h
theorem cpN_F (I : Nat → Nat → Int32) : Fr scc I (cpN I) := Fr_s (Fr_r _ _) _ (by decide)
def pshI (I : Nat → Nat → Int32) (f : Nat → Int32) (u x : Nat) : Nat → Nat → Int32 := aR (aR (aR (cpN I) 24 f) 30 (cpB (aR (cpN I) 24 f 30) (aR (cpN I) 24 f 26) (32 * x) 32)) 29 (upd (upd (aR (cpN I) 24 f 29) 2 (nI ((x + 1) % 12))) 1 (nI (up12 u)))
theorem psh_F (I : Nat → Nat → Int32) (f : Nat → Int32) (u x : Nat) : Fr [24, 26, 29, 30] I (pshI I f u x) := Fr_s (Fr_s (Fr_s (Fr_s (Fr_r _ _) _ (by decide)) _ (by decide)) _ (by decide)) _ (by decide)
theorem f89' {v : Int32} (hv : ¬ v < 0) {u x : Nat} (f : Nat → Int32) (h1 : I 29 1 = nI u) (hu : u ≤ 12) (h2 : I 29 2 = nI x) (hx : x < 12) : aF d 89 [.ref 6, .int v] (g, aR (cpN I) 24 f, J, aP1 sl rd rl) = some (some (some (.int v)), (g, pshI I f u x, J, aP1 sl rd rl)) :=
  f89 hv (by rw [aR_r _ _ (by decide), cpN_r _ (by decide)]; exact h1) hu (by rw [aR_r _ _ (by decide), cpN_r _ (by decide)]; exact h2) hx
def remI (I : Nat → Nat → Int32) (u : Nat) : Nat → Nat → Int32 := aR (aR (aU I 46 13 0) 58 (remR (I 58) (I 47) u)) 46 (upd (upd (I 46) 13 0) 26 (nI (up12 u)))
theorem f221' {u : Nat} (hu : I 46 26 = nI u) (h12 : u ≤ 12) : aF d 221 [.ref 46, .ref 47] (g, aU I 46 13 0, J, aP1 sl rd rl) = some (some none, (g, remI I u, J, aP1 sl rd rl)) := by
  rw [f221_47 (by rw [aU_i _ _ (by decide)]; exact hu) h12]
  unfold remI
  rw [aU_r _ _ (by decide), aU_r _ _ (by decide), aU_R, aR_s]
theorem remI_r (I : Nat → Nat → Int32) (u : Nat) {a : Nat} (h : a ≠ 46) (h2 : a ≠ 58) : remI I u a = I a := by
  unfold remI; rw [aR_r _ _ h, aR_r _ _ h2, aU_r _ _ h]
theorem rem_F (I : Nat → Nat → Int32) (u : Nat) (h : Nat → Int32) : Fr (47 :: 58 :: scm) I (aR (remI I u) 47 h) := by
  unfold remI
  rw [aU_R]
  exact Fr_s (Fr_s (Fr_s (Fr_s (Fr_r _ _) _ (by decide)) _ (by decide)) _ (by decide)) _ (by decide)
theorem rem_46 (I : Nat → Nat → Int32) (u : Nat) (h : Nat → Int32) : F46 (26 :: scf) I (aR (remI I u) 47 h) := by
  intro j hj
  have h1 : j ≠ 26 := fun e => hj (by rw [e]; decide)
  have h2 : j ≠ 13 := fun e => hj (by rw [e]; decide)
  rw [aR_r _ _ (by decide)]
  unfold remI
  rw [aR_s, upd_n _ _ h1, upd_n _ _ h2]
theorem tie_act {kc km : Nat} {as : List Value} {v : Int32} {f h : Nat → Int32} {u x rd2 : Nat} (H : zInv t n m q I J) (hU : okU n q u x (I 30) (I 58)) (hS : okS n q f h) (e1 : aF d kc (.ref 6 :: as) (g, I, J, aP1 sl rd 56) = some (some (some (.int v)), (g, pshI I f u x, J, aP1 sl rd 56))) (e2 : aF d km (.ref 46 :: as) (g, pshI I f u x, J, aP1 sl rd 56) = some (some (some (.int v)), (g, aR (remI (pshI I f u x) u) 47 h, J, aP1 sl rd2 56))) : tie d kc km as t g I J sl rd := by
  have F1 := psh_F I f u x
  have F2 := rem_F (pshI I f u x) u h
  have F3 := rem_46 (pshI I f u x) u h
  have F : Fr (12 :: 24 :: 29 :: 30 :: 47 :: 58 :: scr) I (aR (remI (pshI I f u x) u) 47 h) := Fr_t (Fr_w F1 (by decide)) (Fr_w F2 (by decide))
  refine ⟨v, _, _, _, _, rd2, n, m, q, e1, e2, zInv_up (zInv_N H F (F46_t (F46_f F1 (by decide)) (F46_w F3 (by decide))) ?_ ?_ ?_), F 0 (by decide)⟩
  · rw [F2 12 (by decide), F1 12 (by decide), F3 12 (by decide), F1 46 (by decide)]; exact H.2.1
  · rw [aR_s, F2 24 (by decide)]
    have : pshI I f u x 24 = f := by unfold pshI; rw [aR_r _ _ (by decide), aR_r _ _ (by decide), aR_s]
    rw [this]; exact hS
  · have p29 : ∀ k, aR (remI (pshI I f u x) u) 47 h 29 k = upd (upd (I 29) 2 (nI ((x + 1) % 12))) 1 (nI (up12 u)) k := by
      intro k
      rw [F2 29 (by decide)]; unfold pshI; rw [aR_s, aR_r _ _ (by decide), cpN_r _ (by decide)]
    have p30 : aR (remI (pshI I f u x) u) 47 h 30 = cpB (I 30) (cpB (I 26) (I 24) 0 32) (32 * x) 32 := by
      rw [F2 30 (by decide)]; unfold pshI; rw [aR_r _ _ (by decide), aR_s, aR_r _ _ (by decide), cpN_r _ (by decide), aR_r _ _ (by decide)]; unfold cpN; rw [aR_s]
    have p58 : aR (remI (pshI I f u x) u) 47 h 58 = remR (I 58) (I 47) u := by
      rw [aR_r _ _ (by decide)]; unfold remI; rw [aR_r _ _ (by decide), aR_s, F1 58 (by decide), F1 47 (by decide)]
    have p26 : aR (remI (pshI I f u x) u) 47 h 46 26 = nI (up12 u) := by
      rw [aR_r _ _ (by decide)]; unfold remI; rw [aR_s, upd_s]
    rw [p29, p29, p30, p58, p26, upd_s, upd_n _ _ (by decide), upd_s]
    refine ⟨up12 u, _, rfl, rfl, rfl, okU_push hU ?_⟩
    exact okS_congr H.2.2.2.2.2.2.1 (fun i hi => by rw [cpB_in _ _ (by omega) (by omega)]; congr 1) (fun i hi => rfl)
/-- nothing but the reference's 'thrown' -/
theorem th_F (I : Nat → Nat → Int32) : Fr scm I (aU I 46 13 0) := by rw [aU_R]; exact Fr_s (Fr_r _ _) _ (by decide)
theorem th_46 (I : Nat → Nat → Int32) : F46 scf I (aU I 46 13 0) := fun j hj => aU_i _ _ (fun e => hj (by rw [e]; decide))
theorem m1neg : (-1 : Int32) < 0 := by decide
theorem tie_buyn (H : zInv t n m q I J) (a b : Int32) (h : isC a = 0 ∨ noI b n) : tie d 86 230 [.int a, .int b] t g I J sl rd := by
  obtain ⟨hn, d1, d2, -⟩ := H.2.2.1
  refine tie_0 (rd2 := rd) (v := -1) H (cpN_F I) (th_F _) (th_46 _) ?_ ?_
  · show aE d 86 0 [.ref 6, .int a, .int b] [] _ = _
    rw [b86_0, f63_26]
    simp only [aBv]
    rw [b86_11, f87n_24 (n := n) (by rw [aR_r _ _ (by decide)]; exact d1) h]
    simp only [aBi]
    rw [b86_25, f89n m1neg]
    simp only [aBi]
    rw [b86_28]
    rfl
  · show aE d 230 0 [.ref 46, .int a, .int b, aNo] [] _ = _
    rw [b230_0, f231n_47 (n := n) hn (by rw [aU_i _ _ (by decide), cpN_r _ (by decide)]; exact d2) h]
    simp only [aBi]
    rw [b230_15, if_neg (by decide)]
theorem tie_cursen (H : zInv t n m q I J) (a b : Int32) (h : isC a = 0 ∨ noI b n) : tie d 90 233 [.int a, .int b] t g I J sl rd := by
  obtain ⟨hn, d1, d2, -⟩ := H.2.2.1
  refine tie_0 (rd2 := rd) (v := -1) H (cpN_F I) (th_F _) (th_46 _) ?_ ?_
  · show aE d 90 0 [.ref 6, .int a, .int b] [] _ = _
    rw [b90_0, f63_26]
    simp only [aBv]
    rw [b90_11, f91n_24 (n := n) (by rw [aR_r _ _ (by decide)]; exact d1) h]
    simp only [aBi]
    rw [b90_25, f89n m1neg]
    simp only [aBi]
    rw [b90_28]
    rfl
  · show aE d 233 0 [.ref 46, .int a, .int b, aNo] [] _ = _
    rw [b233_0, f234n (n := n) hn (by rw [aU_i _ _ (by decide), cpN_r _ (by decide)]; exact d2) h]
    simp only [aBi]
    rw [b233_11, if_neg (by decide)]
theorem tie_dign (H : zInv t n m q I J) (b : Int32) (h : noI b n) : tie d 94 236 [.int b] t g I J sl rd := by
  obtain ⟨hn, d1, d2, -⟩ := H.2.2.1
  refine tie_0 (rd2 := rd) (v := -1) H (cpN_F I) (th_F _) (th_46 _) ?_ ?_
  · show aE d 94 0 [.ref 6, .int b] [] _ = _
    rw [b94_0, f63_26]
    simp only [aBv]
    rw [b94_11, f95n (n := n) (by rw [aR_r _ _ (by decide)]; exact d1) h]
    simp only [aBi]
    rw [b94_24, f89n m1neg]
    simp only [aBi]
    rw [b94_27]
    rfl
  · show aE d 236 0 [.ref 46, .int b, aNo] [] _ = _
    rw [b236_0, f237n (n := n) hn (by rw [aU_i _ _ (by decide), cpN_r _ (by decide)]; exact d2) h]
    simp only [aBi]
    rw [b236_10, if_neg (by decide)]
theorem zD_p (H : zInv t n m q I J) {i : Nat} (hi : i < n) : I 49 i = I 16 i ∧ ∃ p, p ≤ 99 ∧ I 16 i = nI p := by
  obtain ⟨_, _, _, h⟩ := H.2.2.1
  obtain ⟨_, h2, h3, _⟩ := h i hi
  exact ⟨h2.symm, h3⟩
theorem tie_buy (H : zInv t n m q I J) (a b : Int32) : tie d 86 230 [.int a, .int b] t g I J sl rd := by
  obtain ⟨hn, d1, d2, -⟩ := H.2.2.1
  obtain ⟨u, x, u1, u2, u3, u4, u5, u6⟩ := zU_get H
  have hS := H.2.2.2.2.2.2.1
  rcases isC_ix a with ha | ⟨c, hc, rfl⟩
  · exact tie_buyn H a b (Or.inl ha)
  rcases noI_ix b hn with hb | ⟨i, hi, rfl⟩
  · exact tie_buyn H _ b (Or.inr hb)
  obtain ⟨p1, p, p2, p3⟩ := zD_p H hi
  have e8 := okS_l hS (show i < 8 by omega)
  have ec := okS_c hS (show c < 6 by omega)
  have C (I1 : Nat → Nat → Int32) (v : Int32) (hf : aF d 87 [.ref 23, .ref 14, .int (nI c), .int (nI i)] (g, cpN I, J, aP1 sl rd 56) = some (some (some (.int v)), (g, I1, J, aP1 sl rd 56))) (I2 : Nat → Nat → Int32) (h2 : aF d 89 [.ref 6, .int v] (g, I1, J, aP1 sl rd 56) = some (some (some (.int v)), (g, I2, J, aP1 sl rd 56))) : aF d 86 [.ref 6, .int (nI c), .int (nI i)] (g, I, J, aP1 sl rd 56) = some (some (some (.int v)), (g, I2, J, aP1 sl rd 56)) := by
    show aE d 86 0 [.ref 6, .int (nI c), .int (nI i)] [] _ = _
    rw [b86_0, f63_26]
    simp only [aBv]
    rw [b86_11]
    rw [show aR I 26 (cpB (I 26) (I 24) 0 32) = cpN I from rfl, hf]
    simp only [aBi]
    rw [b86_25, h2]
    simp only [aBi]
    rw [b86_28]
  have f := f87_24 (d := d) (g := g) (I := cpN I) (J := J) (sl := sl) (rd := rd) (rl := 56) (n := n) hc hi hn (by rw [cpN_r _ (by decide)]; exact d1)
  rw [cpN_r _ (show 24 ≠ 26 by decide), cpN_r _ (show 16 ≠ 26 by decide)] at f
  have R (I1 : Nat → Nat → Int32) (h1 : I1 46 1 = nI n) (h2 : I1 47 = I 47) (h3 : I1 49 = I 49) : aF d 231 [.ref 46, .ref 47, .int (nI c), .int (nI i)] (g, aU I1 46 13 0, J, aP1 sl rd 56) = if I 24 (8 + i) = nI c then some (some (some (.int (-2))), (g, aU I1 46 13 0, J, aP1 sl rd 56)) else if I 16 i ≤ I 24 c then some (some (some (.int 0)), (g, aU I1 46 13 0, J, aP1 sl rd 56)) else some (some (some (.int (-3))), (g, aU I1 46 13 0, J, aP1 sl rd 56)) := by
    rw [f231_47 (n := n) hc hi hn (by rw [aU_i _ _ (by decide)]; exact h1), aU_r _ _ (by decide), aU_r _ _ (by decide), h2, h3, p1, ← e8, ← ec]
  by_cases h1 : I 24 (8 + i) = nI c
  · rw [if_pos h1] at f
    refine tie_0 (rd2 := rd) (v := -2) H (cpN_F I) (th_F _) (th_46 _) (C _ _ f _ (f89n (by decide))) ?_
    show aE d 230 0 [.ref 46, .int (nI c), .int (nI i), aNo] [] _ = _
    rw [b230_0, R _ (by rw [cpN_r _ (by decide)]; exact d2) (cpN_r _ (by decide)) (cpN_r _ (by decide)), if_pos h1]
    simp only [aBi]
    rw [b230_15, if_neg (by decide)]
  · rw [if_neg h1] at f
    by_cases h2 : I 16 i ≤ I 24 c
    · rw [if_pos h2] at f
      have hS2 : okS n q (cBuy (I 24) c i (I 16 i)) (rBuy (I 47) c i (I 49 i)) := by
        rw [p1, p3]; exact okS_buy hS hc hi hn p2 (by rw [← p3]; exact h2)
      obtain ⟨k, _, k1, k2⟩ := okS_m hS2 hc
      have F1 := psh_F I (cBuy (I 24) c i (I 16 i)) u x
      refine tie_act (rd2 := rd) H u6 hS2 (C _ _ f _ (f89' (by rw [k1]; exact nI_pos (by omega)) _ u1 u2 u3 u4)) ?_
      show aE d 230 0 [.ref 46, .int (nI c), .int (nI i), aNo] [] _ = _
      rw [b230_0, R _ (by rw [F1 46 (by decide)]; exact d2) (F1 47 (by decide)) (F1 49 (by decide)), if_neg h1, if_pos h2]
      simp only [aBi]
      rw [b230_15, if_pos (by decide), f221' (by rw [F1 46 (by decide)]; exact u5) u2]
      simp only [aBv]
      rw [b230_30, f232_47 hc (by omega)]
      simp only [aBv]
      rw [b230_40, remI_r _ _ (by decide) (by decide), remI_r _ _ (by decide) (by decide), F1 47 (by decide), F1 49 (by decide)]
      simp (disch := omega) only [aR_s, aBi, aBv, aBl, nI_1, nIle_t, nIle_f, nIlt_t, nIlt_f, nIeq_t, nIeq_f, nIneg, nI_clamp, nat_le_f, nat_le_t, nat_lt_f, nat_lt_t, or_self, or_false, false_or, if_true, if_false, ↓reduceIte, Int32.or_zero, Int32.add_zero, nIm2, nIm3, nIm4, nIp2, nIp4, nIp6, nIp8, nIp14, nIp16, nIp22, nIp24, nIp30, nIq2, nIq3, nIq4, hasI_0, aU_s, aU_i, aU_r, aU_u]
      rw [k1, k2]
    · rw [if_neg h2] at f
      refine tie_0 (rd2 := rd) (v := -3) H (cpN_F I) (th_F _) (th_46 _) (C _ _ f _ (f89n (by decide))) ?_
      show aE d 230 0 [.ref 46, .int (nI c), .int (nI i), aNo] [] _ = _
      rw [b230_0, R _ (by rw [cpN_r _ (by decide)]; exact d2) (cpN_r _ (by decide)) (cpN_r _ (by decide)), if_neg h1, if_neg h2]
      simp only [aBi]
      rw [b230_15, if_neg (by decide)]
theorem tie_curse (H : zInv t n m q I J) (a b : Int32) : tie d 90 233 [.int a, .int b] t g I J sl rd := by
  obtain ⟨hn, d1, d2, -⟩ := H.2.2.1
  obtain ⟨u, x, u1, u2, u3, u4, u5, u6⟩ := zU_get H
  have hS := H.2.2.2.2.2.2.1
  rcases isC_ix a with ha | ⟨c, hc, rfl⟩
  · exact tie_cursen H a b (Or.inl ha)
  rcases noI_ix b hn with hb | ⟨i, hi, rfl⟩
  · exact tie_cursen H _ b (Or.inr hb)
  have e8 := okS_l hS (show i < 8 by omega)
  have ec := okS_c hS (show c < 6 by omega)
  have ex := okS_x hS (show i < 8 by omega)
  have C (I1 : Nat → Nat → Int32) (v : Int32) (hf : aF d 91 [.ref 23, .ref 14, .int (nI c), .int (nI i)] (g, cpN I, J, aP1 sl rd 56) = some (some (some (.int v)), (g, I1, J, aP1 sl rd 56))) (I2 : Nat → Nat → Int32) (h2 : aF d 89 [.ref 6, .int v] (g, I1, J, aP1 sl rd 56) = some (some (some (.int v)), (g, I2, J, aP1 sl rd 56))) : aF d 90 [.ref 6, .int (nI c), .int (nI i)] (g, I, J, aP1 sl rd 56) = some (some (some (.int v)), (g, I2, J, aP1 sl rd 56)) := by
    show aE d 90 0 [.ref 6, .int (nI c), .int (nI i)] [] _ = _
    rw [b90_0, f63_26]
    simp only [aBv]
    rw [b90_11]
    rw [show aR I 26 (cpB (I 26) (I 24) 0 32) = cpN I from rfl, hf]
    simp only [aBi]
    rw [b90_25, h2]
    simp only [aBi]
    rw [b90_28]
  have f := f91_24 (d := d) (g := g) (I := cpN I) (J := J) (sl := sl) (rd := rd) (rl := 56) (n := n) hc hi hn (by rw [cpN_r _ (by decide)]; exact d1)
  rw [cpN_r _ (show 24 ≠ 26 by decide)] at f
  have R (I1 : Nat → Nat → Int32) (h1 : I1 46 1 = nI n) (h2 : I1 47 = I 47) : aF d 234 [.ref 46, .int (nI c), .int (nI i)] (g, aU I1 46 13 0, J, aP1 sl rd 56) = if I 24 (8 + i) = nI c then some (some (some (.int (-2))), (g, aU I1 46 13 0, J, aP1 sl rd 56)) else if tI (hasT (I 24 7) (nI i)) = 1 then some (some (some (.int (-3))), (g, aU I1 46 13 0, J, aP1 sl rd 56)) else if 5 ≤ I 24 c then some (some (some (.int 0)), (g, aU I1 46 13 0, J, aP1 sl rd 56)) else some (some (some (.int (-4))), (g, aU I1 46 13 0, J, aP1 sl rd 56)) := by
    rw [f234 (n := n) hc hi hn (by rw [aU_i _ _ (by decide)]; exact h1), aU_r _ _ (by decide), h2, ex, ← e8, ← ec]
  have no (v : Int32) (hv : v < 0) (hf : aF d 91 [.ref 23, .ref 14, .int (nI c), .int (nI i)] (g, cpN I, J, aP1 sl rd 56) = some (some (some (.int v)), (g, cpN I, J, aP1 sl rd 56))) (hr : aF d 234 [.ref 46, .int (nI c), .int (nI i)] (g, aU (cpN I) 46 13 0, J, aP1 sl rd 56) = some (some (some (.int v)), (g, aU (cpN I) 46 13 0, J, aP1 sl rd 56))) : tie d 90 233 [.int (nI c), .int (nI i)] t g I J sl rd := by
    refine tie_0 (rd2 := rd) (v := v) H (cpN_F I) (th_F _) (th_46 _) (C _ _ hf _ (f89n hv)) ?_
    show aE d 233 0 [.ref 46, .int (nI c), .int (nI i), aNo] [] _ = _
    rw [b233_0, hr]
    simp only [aBi]
    rw [b233_11, if_neg (by rw [int_le]; rw [int_lt] at hv; omega)]
  have r0 := R (cpN I) (by rw [cpN_r _ (by decide)]; exact d2) (cpN_r _ (by decide))
  by_cases h1 : I 24 (8 + i) = nI c
  · rw [if_pos h1] at f r0
    exact no _ (by decide) f r0
  · rw [if_neg h1] at f r0
    by_cases hx : hasT (I 24 7) (nI i) = true
    · rw [if_pos hx] at f
      rw [hx, if_pos (show tI true = 1 from rfl)] at r0
      exact no _ (by decide) f r0
    · have hx' : ¬ tI (hasT (I 24 7) (nI i)) = 1 := by
        intro e; apply hx; revert e; cases hasT (I 24 7) (nI i) <;> decide
      rw [if_neg hx] at f
      rw [if_neg hx'] at r0
      by_cases h2 : 5 ≤ I 24 c
      · rw [if_pos h2] at f
        have hS2 : okS n q (cHex (I 24) c i) (rHex (I 47) c i) := okS_hex hS hc hi hn h2
        obtain ⟨k, _, k1, k2⟩ := okS_m hS2 hc
        have F1 := psh_F I (cHex (I 24) c i) u x
        refine tie_act (rd2 := rd) H u6 hS2 (C _ _ f _ (f89' (by rw [k1]; exact nI_pos (by omega)) _ u1 u2 u3 u4)) ?_
        show aE d 233 0 [.ref 46, .int (nI c), .int (nI i), aNo] [] _ = _
        rw [b233_0, R _ (by rw [F1 46 (by decide)]; exact d2) (F1 47 (by decide)), if_neg h1, if_neg hx', if_pos h2]
        simp only [aBi]
        rw [b233_11, if_pos (by decide), f221' (by rw [F1 46 (by decide)]; exact u5) u2]
        simp only [aBv]
        rw [b233_26, f235_47 hc (by omega)]
        simp only [aBv]
        rw [b233_35, remI_r _ _ (by decide) (by decide), F1 47 (by decide)]
        simp (disch := omega) only [aR_s, aBi, aBv, aBl, nI_1, nIle_t, nIle_f, nIlt_t, nIlt_f, nIeq_t, nIeq_f, nIneg, nI_clamp, nat_le_f, nat_le_t, nat_lt_f, nat_lt_t, or_self, or_false, false_or, if_true, if_false, ↓reduceIte, Int32.or_zero, Int32.add_zero, nIm2, nIm3, nIm4, nIp2, nIp4, nIp6, nIp8, nIp14, nIp16, nIp22, nIp24, nIp30, nIq2, nIq3, nIq4, hasI_0, aU_s, aU_i, aU_r, aU_u]
        rw [k1, k2]
      · rw [if_neg h2] at f r0
        exact no _ (by decide) f r0
theorem tie_dig (H : zInv t n m q I J) (b : Int32) : tie d 94 236 [.int b] t g I J sl rd := by
  obtain ⟨hn, d1, d2, -⟩ := H.2.2.1
  obtain ⟨u, x, u1, u2, u3, u4, u5, u6⟩ := zU_get H
  have hS := H.2.2.2.2.2.2.1
  rcases noI_ix b hn with hb | ⟨i, hi, rfl⟩
  · exact tie_dign H b hb
  obtain ⟨c, hc, kc, kr⟩ := okS_k hS hn hi
  have ec := okS_c hS (show c < 6 by omega)
  have ex := okS_x hS (show i < 8 by omega)
  have C (I1 : Nat → Nat → Int32) (v : Int32) (hf : aF d 95 [.ref 23, .ref 14, .int (nI i)] (g, cpN I, J, aP1 sl rd 56) = some (some (some (.int v)), (g, I1, J, aP1 sl rd 56))) (I2 : Nat → Nat → Int32) (h2 : aF d 89 [.ref 6, .int v] (g, I1, J, aP1 sl rd 56) = some (some (some (.int v)), (g, I2, J, aP1 sl rd 56))) : aF d 94 [.ref 6, .int (nI i)] (g, I, J, aP1 sl rd 56) = some (some (some (.int v)), (g, I2, J, aP1 sl rd 56)) := by
    show aE d 94 0 [.ref 6, .int (nI i)] [] _ = _
    rw [b94_0, f63_26]
    simp only [aBv]
    rw [b94_11]
    rw [show aR I 26 (cpB (I 26) (I 24) 0 32) = cpN I from rfl, hf]
    simp only [aBi]
    rw [b94_24, h2]
    simp only [aBi]
    rw [b94_27]
  have f := f95 (d := d) (g := g) (I := cpN I) (J := J) (sl := sl) (rd := rd) (rl := 56) (n := n) (c := c) hi hn (by rw [cpN_r _ (by decide)]; exact d1) hc (by rw [cpN_r _ (by decide)]; exact kc)
  rw [cpN_r _ (show 24 ≠ 26 by decide)] at f
  have R (I1 : Nat → Nat → Int32) (h1 : I1 46 1 = nI n) (h2 : I1 47 = I 47) : aF d 237 [.ref 46, .int (nI i)] (g, aU I1 46 13 0, J, aP1 sl rd 56) = if tI (hasT (I 24 7) (nI i)) = 0 then some (some (some (.int (-2))), (g, aU I1 46 13 0, J, aP1 sl rd 56)) else if 3 ≤ I 24 c then some (some (some (.int 0)), (g, aU I1 46 13 0, J, aP1 sl rd 56)) else some (some (some (.int (-3))), (g, aU I1 46 13 0, J, aP1 sl rd 56)) := by
    rw [f237 (n := n) (c := c) hi hn (by rw [aU_i _ _ (by decide)]; exact h1) hc (by rw [aU_r _ _ (by decide), h2]; exact kr), aU_r _ _ (by decide), h2, ex, ← ec]
  have no (v : Int32) (hv : v < 0) (hf : aF d 95 [.ref 23, .ref 14, .int (nI i)] (g, cpN I, J, aP1 sl rd 56) = some (some (some (.int v)), (g, cpN I, J, aP1 sl rd 56))) (hr : aF d 237 [.ref 46, .int (nI i)] (g, aU (cpN I) 46 13 0, J, aP1 sl rd 56) = some (some (some (.int v)), (g, aU (cpN I) 46 13 0, J, aP1 sl rd 56))) : tie d 94 236 [.int (nI i)] t g I J sl rd := by
    refine tie_0 (rd2 := rd) (v := v) H (cpN_F I) (th_F _) (th_46 _) (C _ _ hf _ (f89n hv)) ?_
    show aE d 236 0 [.ref 46, .int (nI i), aNo] [] _ = _
    rw [b236_0, hr]
    simp only [aBi]
    rw [b236_10, if_neg (by rw [int_le]; rw [int_lt] at hv; omega)]
  have r0 := R (cpN I) (by rw [cpN_r _ (by decide)]; exact d2) (cpN_r _ (by decide))
  by_cases hx : hasT (I 24 7) (nI i) = false
  · rw [if_pos hx] at f
    rw [hx, if_pos (show tI false = 0 from rfl)] at r0
    exact no _ (by decide) f r0
  · have hx' : ¬ tI (hasT (I 24 7) (nI i)) = 0 := by
      intro e; apply hx; revert e; cases hasT (I 24 7) (nI i) <;> decide
    rw [if_neg hx] at f
    rw [if_neg hx'] at r0
    by_cases h2 : 3 ≤ I 24 c
    · rw [if_pos h2] at f
      have hS2 : okS n q (cDig (I 24) c i) (rDig (I 47) c i) := okS_dig hS hc hi hn h2
      obtain ⟨k, _, k1, k2⟩ := okS_m hS2 hc
      have F1 := psh_F I (cDig (I 24) c i) u x
      refine tie_act (rd2 := rd) H u6 hS2 (C _ _ f _ (f89' (by rw [k1]; exact nI_pos (by omega)) _ u1 u2 u3 u4)) ?_
      have kk : rDig (I 47) c i (6 + i) = nI c := by
        unfold rDig; rw [upd_n _ _ (by omega), upd_n _ _ (by omega)]; exact kr
      show aE d 236 0 [.ref 46, .int (nI i), aNo] [] _ = _
      rw [b236_0, R _ (by rw [F1 46 (by decide)]; exact d2) (F1 47 (by decide)), if_neg hx', if_pos h2]
      simp only [aBi]
      rw [b236_10, if_pos (by decide), f221' (by rw [F1 46 (by decide)]; exact u5) u2]
      simp only [aBv]
      rw [b236_25, f238 (c := c) (by omega) hc (by rw [remI_r _ _ (by decide) (by decide), F1 47 (by decide)]; exact kr)]
      simp only [aBv]
      rw [b236_30, remI_r _ _ (by decide) (by decide), F1 47 (by decide)]
      simp (disch := omega) only [aR_s, kk, aBi, aBv, aBl, nI_1, nIle_t, nIle_f, nIlt_t, nIlt_f, nIeq_t, nIeq_f, nIneg, nI_clamp, nat_le_f, nat_le_t, nat_lt_f, nat_lt_t, or_self, or_false, false_or, if_true, if_false, ↓reduceIte, Int32.or_zero, Int32.add_zero, nIm2, nIm3, nIm4, nIp2, nIp4, nIp6, nIp8, nIp14, nIp16, nIp22, nIp24, nIp30, nIq2, nIq3, nIq4, hasI_0, aU_s, aU_i, aU_r, aU_u]
      rw [k1, k2]
    · rw [if_neg h2] at f r0
      exact no _ (by decide) f r0
