/-! law: tied -/
variable {d : Nat} {g : Nat × Nat × Nat} {I : Nat → Nat → Int32} {J : Nat → Nat → Int64} {sl rd rl : Nat} {t n m q : Nat}
theorem m9 (w : Int32) : -1 - w - 9999 = -10000 - w := by
  rw [Int32.sub_eq_add_neg (-1 - w), Int32.sub_eq_add_neg (-1) w, Int32.add_assoc, Int32.add_comm (-w), ← Int32.add_assoc, Int32.sub_eq_add_neg (-10000) w]
  rfl
theorem f288 {nd rs : Nat} {rv : (Nat → Int32) → Int32} {sk : Nat → Int32} (hd : 41 ≤ d) (hV : rRule (I 55) rs rv) (hB : byR (I 55)) (hC : ∀ t t' : Nat → Int32, (∀ k, k < 8 → t k = t' k) → rv t = rv t') (hs : I 46 22 = nI rs) (hN : I 46 1 = nI nd) (hn : nd ≤ 8) (h0 : 0 < nd) (hc : clubs (fun i => I 47 (6 + i)) nd) (hsk : ∀ i, i < nd → I 48 i = sk i) : ∃ I' rd', Fr [46, 57, 60] I I' ∧ F46 [15, 16, 17, 18, 23, 29, 30, 31] I I' ∧ aF d 288 [.ref 46, .int 20] (g, I, J, aP1 sl rd 56) = some (some (some (.int (nI (blR (sts rv sk) nd (rV (I 47)) 20)))), (g, I', J, aP1 sl rd' 56)) := by
  generalize hI0 : aR I 60 (cpB (I 60) (I 47) 0 39) = I0
  have F0 : Fr [60] I I0 := by rw [← hI0]; exact Fr_s (Fr_r _ _) _ (by decide)
  have c60 : ∀ k, k < 39 → I0 60 k = I 47 k := fun k hk => by
    rw [← hI0, aR_s, cpB_in _ _ (by omega) (by omega)]; rfl
  have v60 : rV (I0 60) = rV (I 47) := rV_congr (fun i hi => c60 i hi)
  have e222 : aF d 222 [.ref 47, .ref 60, .int 0] (g, I, J, aP1 sl rd 56) = some (some none, (g, I0, J, aP1 sl rd 56)) := by
    have f := f222_60 (d := d) (g := g) (I := I) (J := J) (sl := sl) (rd := rd) (rl := 56) (o := 0) (by decide)
    rw [hI0] at f
    exact f
  obtain ⟨I', rd', z1, z2, -, z4, -, -, z7⟩ := f223t (d := d) (g := g) (I := I0) (J := J) (sl := sl) (rd := rd) (nd := nd) (rs := rs) (N := 20) (rv := rv) (sk := sk) hd (by rw [F0 55 (by decide)]; exact hV) (by rw [F0 55 (by decide)]; exact hB) hC (by rw [F0 46 (by decide)]; exact hs) (by rw [F0 46 (by decide)]; exact hN) hn h0 (fun i hi => by
    obtain ⟨k, hk, e⟩ := hc i hi
    exact ⟨k, hk, (c60 _ (by omega)).trans e⟩) (fun i hi => by rw [F0 48 (by decide)]; exact hsk i hi) (by decide)
  rw [v60] at z4
  have z7 : aF d 223 [.ref 46, .ref 60, .int 20] (g, I0, J, aP1 sl rd 56) = some (some none, (g, I', J, aP1 sl rd' 56)) := z7
  refine ⟨I', rd', Fr_t (Fr_w F0 (by decide)) z1, fun j hj => by rw [z2 j hj, F0 46 (by decide)], ?_⟩
  show aE d 288 0 [.ref 46, .int 20] [] _ = _
  rw [b288_0, e222]
  simp only [aBv]
  rw [b288_12, z7]
  simp only [aBv]
  rw [b288_21, z4]
theorem f288o {nd rs : Nat} {rv : (Nat → Int32) → Int32} {sk : Nat → Int32} (hd : 41 ≤ d) (hV : rRule (I 56) rs rv) (hB : byR (I 56)) (hC : ∀ t t' : Nat → Int32, (∀ k, k < 8 → t k = t' k) → rv t = rv t') (hs : I 46 22 = nI rs) (hN : I 46 1 = nI nd) (hn : nd ≤ 8) (h0 : 0 < nd) (hc : clubs (fun i => I 47 (6 + i)) nd) (hsk : ∀ i, i < nd → I 48 i = sk i) : ∃ I' rd', Fr [46, 57, 60] I I' ∧ F46 [15, 16, 17, 18, 23, 29, 30, 31] I I' ∧ aF d 288 [.ref 46, .int 20] (g, I, J, aP1 sl rd 57) = some (some (some (.int (nI (blR (sts rv sk) nd (rV (I 47)) 20)))), (g, I', J, aP1 sl rd' 57)) := by
  generalize hI0 : aR I 60 (cpB (I 60) (I 47) 0 39) = I0
  have F0 : Fr [60] I I0 := by rw [← hI0]; exact Fr_s (Fr_r _ _) _ (by decide)
  have c60 : ∀ k, k < 39 → I0 60 k = I 47 k := fun k hk => by
    rw [← hI0, aR_s, cpB_in _ _ (by omega) (by omega)]; rfl
  have v60 : rV (I0 60) = rV (I 47) := rV_congr (fun i hi => c60 i hi)
  have e222 : aF d 222 [.ref 47, .ref 60, .int 0] (g, I, J, aP1 sl rd 57) = some (some none, (g, I0, J, aP1 sl rd 57)) := by
    have f := f222_60 (d := d) (g := g) (I := I) (J := J) (sl := sl) (rd := rd) (rl := 57) (o := 0) (by decide)
    rw [hI0] at f
    exact f
  obtain ⟨I', rd', z1, z2, -, z4, -, -, z7⟩ := f223o (d := d) (g := g) (I := I0) (J := J) (sl := sl) (rd := rd) (nd := nd) (rs := rs) (N := 20) (rv := rv) (sk := sk) hd (by rw [F0 56 (by decide)]; exact hV) (by rw [F0 56 (by decide)]; exact hB) hC (by rw [F0 46 (by decide)]; exact hs) (by rw [F0 46 (by decide)]; exact hN) hn h0 (fun i hi => by
    obtain ⟨k, hk, e⟩ := hc i hi
    exact ⟨k, hk, (c60 _ (by omega)).trans e⟩) (fun i hi => by rw [F0 48 (by decide)]; exact hsk i hi) (by decide)
  rw [v60] at z4
  have z7 : aF d 223 [.ref 46, .ref 60, .int 20] (g, I0, J, aP1 sl rd 57) = some (some none, (g, I', J, aP1 sl rd' 57)) := z7
  refine ⟨I', rd', Fr_t (Fr_w F0 (by decide)) z1, fun j hj => by rw [z2 j hj, F0 46 (by decide)], ?_⟩
  show aE d 288 0 [.ref 46, .int 20] [] _ = _
  rw [b288_0, e222]
  simp only [aBv]
  rw [b288_12, z7]
  simp only [aBv]
  rw [b288_21, z4]
theorem l287 {len : Nat} (hl : len ≤ 40) (a2 a4 : Int32) (I0 : Nat → Nat → Int32) : aE d 287 71 [.ref 46, .int (nI len), .int a2, .ref 55, .int a4, .int 0] [] (g, I0, J, aP1 sl rd 57) = aBi (aF d 288 [.ref 46, .int 20] (g, aR I0 56 (txR (I0 56) (I0 52) len), J, aP1 sl rd 57)) (fun x0 t0 => aE d 287 103 [.ref 46, .int (nI len), .int a2, .ref 55, .int a4, .int (nI len)] [.int x0] t0) := by
  have lp : ∀ (M j : Nat), j + M = len → aE d 287 71 [.ref 46, .int (nI len), .int a2, .ref 55, .int a4, .int (nI j)] [] (g, aR I0 56 (txR (I0 56) (I0 52) j), J, aP1 sl rd 57) = aBi (aF d 288 [.ref 46, .int 20] (g, aR I0 56 (txR (I0 56) (I0 52) len), J, aP1 sl rd 57)) (fun x0 t0 => aE d 287 103 [.ref 46, .int (nI len), .int a2, .ref 55, .int a4, .int (nI len)] [.int x0] t0) := by
    intro M
    induction M with
    | zero =>
      intro j hj
      obtain rfl : j = len := by omega
      rw [b287_71_l57, if_pos (Int32.le_refl _)]
    | succ M ih =>
      intro j hj
      rw [b287_71_l57, if_neg (nI_ge (by omega) (by omega)), nI_clamp (by omega), if_neg (by rintro (q | q); exact nI_pos (by omega) q; omega), if_neg (t40 (by omega)), aR_r _ _ (show 52 ≠ 56 by decide), aU_R, aR_s, aR_u, txR_s, nI_1]
      exact ih (j + 1) (by omega)
  have := lp len 0 (by omega)
  rw [txR_0, aR_id] at this
  exact this
theorem tie_law (hd : 41 ≤ d) (h3 : ∀ j, j < 17 → I 3 j = aStd.getD j 0) (h4 : ∀ j, j < 8 → I 4 j = aThg.getD j 0) (h56 : byR (I 56)) (H : zInv t n m q I J) : tie d 162 287 [] t g I J sl rd := by
  obtain ⟨len, l1, l2, l3, l4, l5⟩ := H.1
  obtain ⟨hn, d1, d2, -⟩ := H.2.2.1
  have hRz := H.2.1
  have hS := H.2.2.2.2.2.2.1
  obtain ⟨mm, kk, rv0, v1, v2, v3, v4, v5, v6⟩ := zV_get H
  have sk := zD_s H
  have hVz := H.2.2.2.2.2.2.2.2.2.1
  -- the reference, behind the class
  have R : ∀ (I1 : Nat → Nat → Int32) (J1 : Nat → Nat → Int64), Fr (7 :: 8 :: 12 :: scc) I I1 → ∃ p', p'.2 = (if len = 0 then -1 else rW (pc (sgn (I 52) len 40) 300 0 0 [] (0, -1)).2 len) ∧ aF d 287 [.ref 46] (g, I1, J1, aP1 sl rd 56) = aE d 287 14 [.ref 46, .int (nI len), aNo, aNo, aNo, aNo] [.int (tI (decide (p'.2 = -1)))] (g, pM (aU (bgn I1 len 40) 46 23 0) p', J1, aP1 sl 53 56) := by
    intro I1 J1 F
    obtain ⟨p', y1, y2⟩ := f199 (d := d) (g := g) (I := I1) (J := J1) (sl := sl) (rd := rd) (len := len) hd (by rw [F 46 (by decide)]; exact l3) l1 (by rw [F 52 (by decide)]; exact l5)
    rw [F 52 (by decide)] at y1 y2
    rw [← y1] at y2
    refine ⟨p', y1, ?_⟩
    show aE d 287 0 [.ref 46, aNo, aNo, aNo, aNo, aNo] [] _ = _
    rw [b287_0, y2, F 46 (by decide), l3]
    rfl
  have B : ∀ (I1 : Nat → Nat → Int32) (p' : Nat × Int32), Fr [46] I1 (pM (aU (bgn I1 len 40) 46 23 0) p') ∧ F46 (10 :: scf) I1 (pM (aU (bgn I1 len 40) 46 23 0) p') ∧ pM (aU (bgn I1 len 40) 46 23 0) p' 46 10 = 0 := by
    intro I1 p'
    refine ⟨?_, ?_, ?_⟩
    · unfold pM
      rw [aU_R]
      exact Fr_s (Fr_s (bgn_F I1 len 40) _ (by decide)) _ (by decide)
    · intro k hk
      rw [pM_o _ _ (fun e => hk (by rw [e]; decide)) (fun e => hk (by rw [e]; decide)), aU_i _ _ (fun e => hk (by rw [e]; decide))]
      exact bgn_46 I1 len 40 k hk
    · rw [pM_o _ _ (by decide) (by decide), aU_i _ _ (by decide), bgn_10]
  -- nothing told
  have no : ∀ (v : Int32) (I' : Nat → Nat → Int32) (p' : Nat × Int32), Fr [7, 8, 9, 10, 11, 37, 38] I I' → I' 7 1 = 0 → aF d 162 [.ref 6] (g, I, J, aP1 sl rd 56) = some (some (some (.int v)), (g, I', J, aP1 sl rd 56)) → aF d 287 [.ref 46] (g, I', J, aP1 sl rd 56) = some (some (some (.int v)), (g, pM (aU (bgn I' len 40) 46 23 0) p', J, aP1 sl 53 56)) → tie d 162 287 [] t g I J sl rd := by
    intro v I' p' z1 z2 e1 e2
    obtain ⟨u1, u2, u3⟩ := B I' p'
    have kp : ∀ a, a ∉ [7, 8, 9, 10, 11, 37, 38, 46] → pM (aU (bgn I' len 40) 46 23 0) p' a = I a := fun a ha => by
      rw [u1 a (fun h => ha (by simp at h ⊢; omega)), z1 a (fun h => ha (by simp at h ⊢; omega))]
    refine ⟨_, I', J, _, J, 53, n, m, q, e1, e2, zInv_V (zInv_up H) ?_ ?_ ?_ u3 ?_ ?_, kp 0 (by decide)⟩
    · exact Fr_t (Fr_w z1 (by decide)) (Fr_w u1 (by decide))
    · intro k hk
      rw [u2 k (fun h => hk (by simp [scf] at h ⊢; omega)), z1 46 (by decide)]
    · rw [u1 7 (by decide)]; exact z2
    · rw [kp 12 (by decide), u2 12 (by decide), z1 46 (by decide)]; exact hRz
    · rw [kp 33 (by decide), kp 34 (by decide), kp 55 (by decide), u2 22 (by decide), z1 46 (by decide)]
      exact hVz
  -- a rule that is right
  have yes : ∀ (I' : Nat → Nat → Int32) (c : List Int32) (rv : (Nat → Int32) → Int32), Fr [7, 8, 9, 10, 11, 37, 38] I I' → I' 7 1 = 0 → c.length ≤ 40 → I' 37 1 = nI c.length → cde (I' 38) c → aF d 24 [.ref 6, .ref 37] (g, I, J, aP1 sl rd 56) = some (some (some (.int 0)), (g, I', J, aP1 sl rd 56)) → (if len = 0 then -1 else rW (pc (sgn (I 52) len 40) 300 0 0 [] (0, -1)).2 len) = -1 → len ≤ 40 → (∀ t, ev t c [] = [rv t]) → (∀ r s, (∀ i, s i = I 52 i) → rRule (txR r s len) len rv) → tie d 162 287 [] t g I J sl rd := by
    intro I' c rv F q7 hc c37 c38 e24 hw hl40 hev hrr
    by_cases hn0 : n = 0
    · obtain ⟨p', y1, y2⟩ := R I' J (Fr_w F (by decide))
      obtain ⟨u1, u2, u3⟩ := B I' p'
      refine no (-20000) I' p' F q7 ?_ ?_
      · show aE d 162 0 [.ref 6, aNo, aNo, aNo] [] _ = _
        rw [b162_0, e24]
        simp only [aBi]
        rw [b162_8, if_pos rfl, if_pos (by rw [F 14 (by decide), d1, hn0]; rfl)]
      · rw [y2, y1, decide_eq_true hw, b287_14, if_neg (by decide), if_pos (by rw [u2 1 (by decide), F 46 (by decide), d2, hn0]; rfl)]
    have h0 : 0 < n := by omega
    have nz := nIz h0 (by omega)
    have cR : cRule (I' 38) c.length rv := cRule_of hc c38 hev
    have rvC : ∀ t t' : Nat → Int32, (∀ k, k < 8 → t k = t' k) → rv t = rv t' := fun t t' h => cRule_congr cR h
    have cl2 : ∀ I5 : Nat → Nat → Int32, I5 24 = I 24 → clubs (fun i => cpT I5 28 (8 + i)) n := fun I5 h i hi => by
      obtain ⟨k, hk, e⟩ := okS_cl hS hn i hi
      exact ⟨k, hk, by show cpT I5 28 (8 + i) = nI k; rw [cpT_28 I5 (by omega), h]; exact e⟩
    obtain ⟨I1, c1, -, -, -, -, -, -, -, c9⟩ := f64o (d := d) (g := g) (I := cpT I') (J := J) (sl := sl) (rd := rd) (rl := 56) (nd := n) (m := c.length) (N := 20) (rv := rv) (by rw [cpT_r _ (by decide)]; exact cR) (by rw [cpT_r _ (by decide)]; exact c37) (by rw [cpT_r _ (by decide), F 14 (by decide)]; exact d1) hn h0 (cl2 I' (F 24 (by decide))) (by decide)
    rw [cpT_V, cpT_r _ (show 15 ≠ 28 by decide), F 15 (by decide), F 24 (by decide)] at c9
    have G1 : Fr (7 :: 8 :: scc) I I1 := Fr_t (Fr_w F (by decide)) (Fr_t (Fr_w (cpT_F I') (by decide)) (Fr_w c1 (by decide)))
    obtain ⟨I2, k1, -, -, -, -, -, -, -, k9⟩ := f64t (d := d) (g := g) (I := cpT I1) (J := J) (sl := sl) (rd := rd) (rl := 56) (nd := n) (m := mm) (N := 20) (rv := rv0) (by rw [cpT_r _ (by decide), G1 34 (by decide)]; exact v3) (by rw [cpT_r _ (by decide), G1 33 (by decide)]; exact v1) (by rw [cpT_r _ (by decide), G1 14 (by decide)]; exact d1) hn h0 (cl2 I1 (G1 24 (by decide))) (by decide)
    rw [cpT_V, cpT_r _ (show 15 ≠ 28 by decide), G1 15 (by decide), G1 24 (by decide)] at k9
    have c9 : aF d 64 [.ref 41, .ref 14, .ref 27, .ref 37, .int 20] (g, cpT I', J, aP1 sl rd 56) = _ := c9
    have k9 : aF d 64 [.ref 41, .ref 14, .ref 27, .ref 33, .int 20] (g, cpT I1, J, aP1 sl rd 56) = _ := k9
    have G2 : Fr (7 :: 8 :: scc) I I2 := Fr_t G1 (Fr_t (Fr_w (cpT_F I1) (by decide)) (Fr_w k1 (by decide)))
    have q72 : I2 7 1 = 0 := by
      rw [k1 7 (by decide), cpT_r _ (by decide), c1 7 (by decide), cpT_r _ (by decide)]; exact q7
    have hcv : cV (I 24) = rV (I 47) := hS.1
    rw [hcv] at c9 k9
    generalize hN1 : nI (blR (sts rv (I 15)) n (rV (I 47)) 20) = X1 at c9
    generalize hN2 : nI (blR (sts rv0 (I 15)) n (rV (I 47)) 20) = X2 at k9
    generalize hJ : aU (aU J 13 0 (Int32.toInt64 X1)) 13 1 (Int32.toInt64 X2) = J1
    have e1 : aF d 162 [.ref 6] (g, I, J, aP1 sl rd 56) = some (some (some (.int (X1 - X2))), (g, aU I2 12 1 2, J1, aP1 sl rd 56)) := by
      show aE d 162 0 [.ref 6, aNo, aNo, aNo] [] _ = _
      rw [b162_0, e24]
      simp only [aBi]
      rw [b162_8, if_pos rfl, if_neg (by rw [F 14 (by decide), d1]; exact nz), f63_28]
      simp only [aBv]
      rw [b162_44, show aR I' 28 (cpB (I' 28) (I' 24) 0 32) = cpT I' from rfl, c9]
      simp only [aBi]
      rw [b162_65, f63_28]
      simp only [aBv]
      rw [b162_77, show aR I1 28 (cpB (I1 28) (I1 24) 0 32) = cpT I1 from rfl, k9]
      simp only [aBi]
      rw [b162_98, f82, hJ]
      simp only [aBv]
      rw [b162_110]
    generalize hIc : aU I2 12 1 2 = Ic at e1
    have Gc : Fr (7 :: 8 :: 12 :: scc) I Ic := by
      rw [← hIc, aU_R]; exact Fr_s (Fr_w G2 (by decide)) _ (by decide)
    have q7c : Ic 7 1 = 0 := by rw [← hIc, aU_r _ _ (by decide)]; exact q72
    have q12 : Ic 12 1 = 2 := by rw [← hIc, aU_s]
    obtain ⟨p', y1, y2⟩ := R Ic J1 Gc
    obtain ⟨u1, u2, u3⟩ := B Ic p'
    generalize hIa : pM (aU (bgn Ic len 40) 46 23 0) p' = Ia at y2 u1 u2 u3
    have Ga : ∀ a, a ∉ 7 :: 8 :: 12 :: 46 :: scc → Ia a = I a := fun a ha => by
      rw [u1 a (fun h => ha (by simp [scc] at h ⊢; omega)), Gc a (fun h => ha (by simp [scc] at h ⊢; omega))]
    have Ea : ∀ k, k ∉ 10 :: scf → Ia 46 k = I 46 k := fun k hk => by rw [u2 k hk, Gc 46 (by decide)]
    obtain ⟨Ib, rb, b1, b2, b3⟩ := f288 (d := d) (g := g) (I := Ia) (J := J1) (sl := sl) (rd := 53) (nd := n) (rs := kk) (rv := rv0) (sk := I 15) hd (by rw [Ga 55 (by decide)]; exact v4) (by rw [Ga 55 (by decide)]; exact v5) v6 (by rw [Ea 22 (by decide)]; exact v2) (by rw [Ea 1 (by decide)]; exact d2) hn h0 (by rw [Ga 47 (by decide)]; exact okS_clr hS hn) (fun i hi => by rw [Ga 48 (by decide)]; exact sk i hi)
    rw [Ga 47 (by decide), hN2] at b3
    have Gb : ∀ a, a ∉ 7 :: 8 :: 12 :: 46 :: 57 :: 60 :: scc → Ib a = I a := fun a ha => by
      rw [b1 a (fun h => ha (by simp [scc] at h ⊢; omega)), Ga a (fun h => ha (by simp [scc] at h ⊢; omega))]
    have Eb : ∀ k, k ∉ 10 :: scf → Ib 46 k = I 46 k := fun k hk => by
      rw [b2 k (fun h => hk (by simp [scf] at h ⊢; omega)), Ea k hk]
    generalize hId : aR (aU Ib 46 22 (nI len)) 56 (txR (aU Ib 46 22 (nI len) 56) (aU Ib 46 22 (nI len) 52) len) = Id
    have d56 : Id 56 = txR (I 56) (I 52) len := by
      rw [← hId, aR_s, aU_r _ _ (by decide), aU_r _ _ (by decide), Gb 56 (by decide), Gb 52 (by decide)]
    have Gd : ∀ a, a ∉ 7 :: 8 :: 12 :: 46 :: 56 :: 57 :: 60 :: scc → Id a = I a := fun a ha => by
      rw [← hId, aR_r _ _ (fun e => ha (by rw [e]; decide)), aU_r _ _ (fun e => ha (by rw [e]; decide)), Gb a (fun h => ha (by simp [scc] at h ⊢; omega))]
    have Ed : ∀ k, k ∉ 10 :: 22 :: scf → Id 46 k = I 46 k := fun k hk => by
      rw [← hId, aR_r _ _ (by decide), aU_i _ _ (fun e => hk (by rw [e]; decide)), Eb k (fun h => hk (by simp [scf] at h ⊢; omega))]
    obtain ⟨Ie, re, g1, g2, g3⟩ := f288o (d := d) (g := g) (I := Id) (J := J1) (sl := sl) (rd := rb) (nd := n) (rs := len) (rv := rv) (sk := I 15) hd (by rw [d56]; exact hrr _ _ (fun _ => rfl)) (by rw [d56]; exact txR_by h56 _ _) rvC (by rw [← hId, aR_r _ _ (by decide), aU_s]) (by rw [Ed 1 (by decide)]; exact d2) hn h0 (by rw [Gd 47 (by decide)]; exact okS_clr hS hn) (fun i hi => by rw [Gd 48 (by decide)]; exact sk i hi)
    rw [Gd 47 (by decide), hN1] at g3
    have Ge : ∀ a, a ∉ 7 :: 8 :: 12 :: 46 :: 56 :: 57 :: 60 :: scc → Ie a = I a := fun a ha => by
      rw [g1 a (fun h => ha (by simp [scc] at h ⊢; omega)), Gd a ha]
    have Ee : ∀ k, k ∉ 10 :: 22 :: scf → Ie 46 k = I 46 k := fun k hk => by
      rw [g2 k (fun h => hk (by simp [scf] at h ⊢; omega)), Ed k hk]
    have e2 : aF d 287 [.ref 46] (g, Ic, J1, aP1 sl rd 56) = some (some (some (.int (X1 - X2))), (g, aU (aU Ie 46 22 (nI kk)) 46 12 2, aU (aU J1 53 0 (Int32.toInt64 X1)) 53 1 (Int32.toInt64 X2), aP1 sl re 56)) := by
      rw [y2, y1, decide_eq_true hw, b287_14, if_neg (by decide), if_neg (by rw [Ea 1 (by decide), d2]; exact nz), b3]
      simp only [aBi]
      rw [b287_43_l56, aP1_rl, l287 hl40, hId, g3, Eb 22 (by decide), v2]
      simp only [aBi]
      rw [b287_103, aP1_rl, tell0]
      simp only [aBv]
      rw [b287_128, tell1]
      simp only [aBv]
      rw [b287_134]
    have ke : ∀ a, a ≠ 46 → aU (aU Ie 46 22 (nI kk)) 46 12 2 a = Ie a := fun a ha => by rw [aU_r _ _ ha, aU_r _ _ ha]
    have s7 : Ie 7 = Ic 7 := by
      rw [g1 7 (by decide), ← hId, aR_r _ _ (by decide), aU_r _ _ (by decide), b1 7 (by decide), u1 7 (by decide)]
    have s12 : Ie 12 = Ic 12 := by
      rw [g1 12 (by decide), ← hId, aR_r _ _ (by decide), aU_r _ _ (by decide), b1 12 (by decide), u1 12 (by decide)]
    refine ⟨_, Ic, J1, _, _, re, n, m, q, e1, e2, zInv_V (zInv_up H) ?_ ?_ ?_ ?_ ?_ ?_, ?_⟩
    · intro a ha
      rw [ke a (fun e => ha (by rw [e]; decide))]
      exact Ge a (fun h => ha (by simp [scc, scr] at h ⊢; omega))
    · intro k hk
      rw [aU_i _ _ (fun e => hk (by rw [e]; decide)), aU_i _ _ (fun e => hk (by rw [e]; decide)), Ee k (fun h => hk (by simp [scf] at h ⊢; omega))]
    · rw [ke 7 (by decide), s7]; exact q7c
    · rw [aU_i _ _ (by decide), aU_i _ _ (by decide), g2 10 (by decide), ← hId, aR_r _ _ (by decide), aU_i _ _ (by decide), b2 10 (by decide)]; exact u3
    · rw [ke 12 (by decide), s12, aU_s]
      refine zR_2 q12 rfl ?_ ?_
      · rw [aU_r _ _ (show 13 ≠ 53 by decide), aU_r _ _ (show 13 ≠ 53 by decide), aU_i _ _ (by decide), aU_s, ← hJ, aU_i _ _ (by decide), aU_s]
      · rw [aU_r _ _ (show 13 ≠ 53 by decide), aU_r _ _ (show 13 ≠ 53 by decide), aU_s, ← hJ, aU_s]
    · rw [ke 33 (by decide), ke 34 (by decide), ke 55 (by decide), aU_i _ _ (by decide), aU_s, Ge 33 (by decide), Ge 34 (by decide), Ge 55 (by decide)]
      exact ⟨mm, kk, rv0, v1, rfl, v3, v4, v5⟩
    · rw [ke 0 (by decide), Ge 0 (by decide)]
  by_cases hz : len = 0
  · obtain ⟨I', z1, z2, z3, z4, z5⟩ := f24s (d := d) (g := g) (I := I) (J := J) (sl := sl) (rd := rd) (rl := 56) (by rw [l2, hz]) h3 h4
    refine yes I' cdS (fun t => t 0 * 10 - t 1 * 15 + (t 4 + t 2) / 3) z1 z2 (by decide) z3 z4 z5 (if_pos hz) (by omega) std_v (fun r s _ => ?_)
    exact Or.inl ⟨hz, fun _ => rfl⟩
  · have hsg : sgn (I 52) len 40 = sgc (I 8) len 40 := (sg_cn (a := 0) (b := 0) l4 40).symm
    obtain ⟨I', z1, z2, z3, z4, z5, z6⟩ := f24 (d := d) (g := g) (I := I) (J := J) (sl := sl) (rd := rd) (rl := 56) (len := len) (sg := sgn (I 52) len 40) l2 l1 (by omega) hsg (fun a ha => by
      obtain ⟨k, hk, e⟩ := pk_andE (I 52 a) (m := 255) 8 (by decide)
      exact ⟨k, hk, by rw [l4 a ha]; exact e⟩) h4
    obtain ⟨r1, r2⟩ := rd_eq (sg := sgn (I 52) len 40) (len := len) rfl l1
    rw [r1] at z6
    by_cases hw : rW (pc (sgn (I 52) len 40) 300 0 0 [] (0, -1)).2 len = -1
    · obtain ⟨w1, w2, w3⟩ := r2 hw
      obtain ⟨rv, hrv⟩ := rd_v (sg := sgn (I 52) len 40) rfl l1 l5 w1
      rw [if_pos hw] at z6
      rw [w3] at z3 z4 z5
      refine yes I' _ rv z1 z2 z3 z4 z5 z6 (by rw [if_neg hz]; exact hw) w2 (fun t => hrv t []) (fun r s hr => ?_)
      obtain rfl : s = I 52 := funext hr
      refine Or.inr ⟨by omega, w2, ?_, ?_⟩
      · rw [txR_sg]; exact w1
      · rw [txR_sg]; exact hrv
    · rw [if_neg hw] at z6
      obtain ⟨p', y1, y2⟩ := R I' J (Fr_w z1 (by decide))
      rw [if_neg hz] at y1
      generalize rW (pc (sgn (I 52) len 40) 300 0 0 [] (0, -1)).2 len = wr at hw z6 y1
      refine no (-10000 - wr) I' p' z1 z2 ?_ ?_
      · show aE d 162 0 [.ref 6, aNo, aNo, aNo] [] _ = _
        rw [b162_0, z6]
        simp only [aBi]
        rw [b162_8, if_neg (m1_0 hw), m9]
      · rw [y2, y1, decide_eq_false hw, b287_14, if_pos tI_f, pM_18, y1]
