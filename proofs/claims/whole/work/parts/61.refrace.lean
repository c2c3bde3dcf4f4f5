/-! the reference: strength, who is first, a race -/
variable {d : Nat} {g : Nat × Nat × Nat} {I : Nat → Nat → Int32} {J : Nat → Nat → Int64} {sl rd rl : Nat}
theorem pM_u (I : Nat → Nat → Int32) (p : Nat × Int32) {k : Nat} (h : k ≠ 17) (h2 : k ≠ 18) (x : Int32) : aU (pM I p) 46 k x = pM (aU I 46 k x) p := by
  unfold pM
  rw [aU_R, aR_s, aR_u, aU_R I, aR_s, aR_u, upd_c _ _ _ (Ne.symm h2), upd_c _ _ _ (Ne.symm h)]
theorem f184_52 (a b : Int32) : aF d 184 [.ref 46, .ref 52, .int a, .int b] (g, I, J, aP1 sl rd rl) = some (some none, (g, pM (aU (aU I 46 15 a) 46 16 b) (0, -1), J, aP1 sl 53 rl)) := by
  show aE d 184 0 [.ref 46, .ref 52, .int a, .int b] [] _ = _
  rw [b184_0, aP1_rd]
  unfold pM
  rw [aU_R _ 46 18, aU_R _ 46 17, aR_s, aR_u]
  rfl
theorem f184_55 (a b : Int32) : aF d 184 [.ref 46, .ref 55, .int a, .int b] (g, I, J, aP1 sl rd rl) = some (some none, (g, pM (aU (aU I 46 15 a) 46 16 b) (0, -1), J, aP1 sl 56 rl)) := by
  show aE d 184 0 [.ref 46, .ref 55, .int a, .int b] [] _ = _
  rw [b184_0_2, aP1_rd]
  unfold pM
  rw [aU_R _ 46 18, aU_R _ 46 17, aR_s, aR_u]
  rfl
theorem f184_56 (a b : Int32) : aF d 184 [.ref 46, .ref 56, .int a, .int b] (g, I, J, aP1 sl rd rl) = some (some none, (g, pM (aU (aU I 46 15 a) 46 16 b) (0, -1), J, aP1 sl 57 rl)) := by
  show aE d 184 0 [.ref 46, .ref 56, .int a, .int b] [] _ = _
  rw [b184_0_3, aP1_rd]
  unfold pM
  rw [aU_R _ 46 18, aU_R _ 46 17, aR_s, aR_u]
  rfl
theorem clamp1 : (1 : Int32).toNatClampNeg = 1 := rfl
theorem f209 {i k rs : Nat} {rv : (Nat → Int32) → Int32} {sk : Nat → Int32} (hd : 41 ≤ d) (hV : rRule (I 55) rs rv) (hB : byR (I 55)) (hC : ∀ t t' : Nat → Int32, (∀ k, k < 8 → t k = t' k) → rv t = rv t') (hs : I 46 22 = nI rs) (hi : i < 8) (hk : k < 2) (hI : I 47 (6 + i) = nI k) (hsk : I 48 i = sk i) : ∃ I' rd', Fr [46, 57] I I' ∧ F46 [15, 16, 17, 18, 23] I I' ∧ aF d 209 [.ref 46, .ref 47, .int (nI i)] (g, I, J, aP1 sl rd 56) = some (some (some (.int (rv (th sk (rV (I 47)) i)))), (g, I', J, aP1 sl rd' 56)) := by
  by_cases hz : rs = 0
  · subst hz
    rcases hV with ⟨_, hV⟩ | ⟨h, _⟩
    · refine ⟨I, rd, Fr_r _ _, fun _ _ => rfl, ?_⟩
      show aE d 209 0 [.ref 46, .ref 47, .int (nI i), aNo, aNo] [] _ = _
      rw [b209_0_l56]
      simp (disch := omega) only [hs, show (nI 0 = (0 : Int32)) = True from eq_true rfl, aBi, aBv, aBl, nI_1, nIle_t, nIle_f, nIlt_t, nIlt_f, nIeq_t, nIeq_f, nIneg, nI_clamp, nat_le_f, nat_le_t, nat_lt_f, nat_lt_t, or_self, or_false, false_or, if_true, if_false, ↓reduceIte, Int32.or_zero, Int32.add_zero, nIm2, nIm3, nIm4, nIp2, nIp4, nIp6, nIp8, nIp14, nIp16, nIp22, nIp24, nIp30, nIq2, nIq3, nIq4, hasI_0, aU_s, aU_i, aU_r, aU_u]
      rw [hV, show th sk (rV (I 47)) i 0 = I 48 i from hsk.symm, show th sk (rV (I 47)) i 1 = I 47 (14 + i) from rV_lt _ (by omega), show th sk (rV (I 47)) i 4 = I 47 38 - I 47 38 / 8 * 8 from rfl, show th sk (rV (I 47)) i 2 = nI i from rfl]
    · omega
  · obtain ⟨h0, h40, hw, hev⟩ : 0 < rs ∧ rs ≤ 40 ∧ (pc (sgn (I 55) rs 40) 300 0 0 [] (0, -1)).2.2 = -1 ∧ ∀ t S, ev t (pc (sgn (I 55) rs 40) 300 0 0 [] (0, -1)).1 S = rv t :: S := by
      rcases hV with ⟨h, _⟩ | h
      · exact absurd h hz
      · exact h
    have e : ∃ T, (∀ j, j < 8 → T j = th sk (rV (I 47)) i j) ∧ aF d 209 [.ref 46, .ref 47, .int (nI i)] (g, I, J, aP1 sl rd 56) = aBv (aF d 184 [.ref 46, .ref 55, .int (nI rs), .int 40] (g, aR I 57 T, J, aP1 sl rd 56)) (fun t0 => aE d 209 148 [.ref 46, .ref 47, .int (nI i), .int (nI k), aNo] [] t0) := by
      refine ⟨upd (upd (upd (upd (upd (upd (upd (upd (I 57) 0 (I 48 i)) 1 (I 47 (14 + i))) 2 (nI i)) 3 (I 47 (22 + i))) 4 (I 47 38 - I 47 38 / 8 * 8)) 5 (nI k)) 6 (I 47 k / 10)) 7 (I 47 (2 + k)), ?_, ?_⟩
      · intro j hj
        rcases ix8c hj with rfl | rfl | rfl | rfl | rfl | rfl | rfl | rfl
        · exact hsk
        · show I 47 (14 + i) = rV (I 47) (14 + i)
          exact (rV_lt _ (by omega)).symm
        · rfl
        · show I 47 (22 + i) = rV (I 47) (22 + i)
          exact (rV_lt _ (by omega)).symm
        · rfl
        · exact hI.symm.trans (rV_lt _ (by omega)).symm
        · show I 47 k / 10 = rV (I 47) (rV (I 47) (6 + i)).toNatClampNeg / 10
          rw [rV_lt (I 47) (show 6 + i < 39 by omega), hI, nI_clamp (by omega), rV_lt _ (by omega)]
        · show I 47 (2 + k) = rV (I 47) (2 + (rV (I 47) (6 + i)).toNatClampNeg)
          rw [rV_lt (I 47) (show 6 + i < 39 by omega), hI, nI_clamp (by omega), rV_lt _ (by omega)]
      · show aE d 209 0 [.ref 46, .ref 47, .int (nI i), aNo, aNo] [] _ = _
        rw [b209_0_l56]
        simp (disch := omega) only [hs, hI, show (nI rs = (0 : Int32)) = False from eq_false (fun e => hz ((nI_eq (b := 0) (by omega) (by decide)).mp e)), aU_R, aR_s, aR_u, aBi, aBv, aBl, nI_1, nIle_t, nIle_f, nIlt_t, nIlt_f, nIeq_t, nIeq_f, nIneg, nI_clamp, nat_le_f, nat_le_t, nat_lt_f, nat_lt_t, or_self, or_false, false_or, if_true, if_false, ↓reduceIte, Int32.or_zero, Int32.add_zero, nIm2, nIm3, nIm4, nIp2, nIp4, nIp6, nIp8, nIp14, nIp16, nIp22, nIp24, nIp30, nIq2, nIq3, nIq4, hasI_0, aU_s, aU_i, aU_r, aU_u]
    obtain ⟨T, hT, e⟩ := e
    generalize hI3 : aU (aU (aU (aR I 57 T) 46 15 (nI rs)) 46 16 40) 46 23 1 = I3
    have r55 : I3 55 = I 55 := by rw [← hI3, aU_r _ _ (by decide), aU_r _ _ (by decide), aU_r _ _ (by decide), aR_r _ _ (by decide)]
    have r57 : I3 57 = T := by rw [← hI3, aU_r _ _ (by decide), aU_r _ _ (by decide), aU_r _ _ (by decide), aR_s]
    have r23 : I3 46 23 = 1 := by rw [← hI3, aU_s]
    have r16 : I3 46 16 = 40 := by rw [← hI3, aU_i _ _ (by decide), aU_s]
    have r15 : I3 46 15 = nI rs := by rw [← hI3, aU_i _ _ (by decide), aU_i _ _ (by decide), aU_s]
    obtain ⟨v, e2, e3⟩ := (rAll_55 (g := g) (I := I3) (J := J) (sl := sl) (rl := 56) (len := rs) r15 r16 (by omega) (by rw [r55]; exact hB) 300).1 d 0 (0, -1) (by decide) (by decide) (by omega) (by decide)
    rw [r55] at e2 e3
    have hv : v = rv T := by
      have q := e3 hw (by rw [r23]; decide) []
      rw [r57, hev] at q
      exact (List.cons.inj q).1.symm
    have e4 : aF d 200 [.ref 46, .int 0] (g, pM I3 (0, -1), J, aP1 sl 56 56) = some (some (some (.int v)), (g, pM I3 (pc (sgn (I 55) rs 40) 300 0 0 [] (0, -1)).2, J, aP1 sl 56 56)) := e2
    generalize (pc (sgn (I 55) rs 40) 300 0 0 [] (0, -1)).2 = p at e4
    refine ⟨aU (pM I3 p) 46 23 0, 56, ?_, ?_, ?_⟩
    · rw [← hI3]
      unfold pM
      simp only [aU_R, aR_s, aR_u]
      exact Fr_s (Fr_s (Fr_r _ _) _ (by decide)) _ (by decide)
    · intro j hj
      have hj : j ≠ 15 ∧ j ≠ 16 ∧ j ≠ 17 ∧ j ≠ 18 ∧ j ≠ 23 := by simpa using hj
      rw [aU_i _ _ hj.2.2.2.2, pM_o _ _ hj.2.2.1 hj.2.2.2.1, ← hI3, aU_i _ _ hj.2.2.2.2, aU_i _ _ hj.2.1, aU_i _ _ hj.1, aR_r _ _ (by decide)]
    · rw [e, f184_55]
      simp only [aBv]
      rw [b209_148, pM_u _ _ (by decide) (by decide), hI3, e4]
      simp only [aBi]
      rw [b209_158, hv, hC T _ hT]
theorem f209t {i k rs : Nat} {rv : (Nat → Int32) → Int32} {sk : Nat → Int32} (hd : 41 ≤ d) (hV : rRule (I 55) rs rv) (hB : byR (I 55)) (hC : ∀ t t' : Nat → Int32, (∀ k, k < 8 → t k = t' k) → rv t = rv t') (hs : I 46 22 = nI rs) (hi : i < 8) (hk : k < 2) (hI : I 60 (6 + i) = nI k) (hsk : I 48 i = sk i) : ∃ I' rd', Fr [46, 57] I I' ∧ F46 [15, 16, 17, 18, 23] I I' ∧ aF d 209 [.ref 46, .ref 60, .int (nI i)] (g, I, J, aP1 sl rd 56) = some (some (some (.int (rv (th sk (rV (I 60)) i)))), (g, I', J, aP1 sl rd' 56)) := by
  by_cases hz : rs = 0
  · subst hz
    rcases hV with ⟨_, hV⟩ | ⟨h, _⟩
    · refine ⟨I, rd, Fr_r _ _, fun _ _ => rfl, ?_⟩
      show aE d 209 0 [.ref 46, .ref 60, .int (nI i), aNo, aNo] [] _ = _
      rw [b209_0_2_l56]
      simp (disch := omega) only [hs, show (nI 0 = (0 : Int32)) = True from eq_true rfl, aBi, aBv, aBl, nI_1, nIle_t, nIle_f, nIlt_t, nIlt_f, nIeq_t, nIeq_f, nIneg, nI_clamp, nat_le_f, nat_le_t, nat_lt_f, nat_lt_t, or_self, or_false, false_or, if_true, if_false, ↓reduceIte, Int32.or_zero, Int32.add_zero, nIm2, nIm3, nIm4, nIp2, nIp4, nIp6, nIp8, nIp14, nIp16, nIp22, nIp24, nIp30, nIq2, nIq3, nIq4, hasI_0, aU_s, aU_i, aU_r, aU_u]
      rw [hV, show th sk (rV (I 60)) i 0 = I 48 i from hsk.symm, show th sk (rV (I 60)) i 1 = I 60 (14 + i) from rV_lt _ (by omega), show th sk (rV (I 60)) i 4 = I 60 38 - I 60 38 / 8 * 8 from rfl, show th sk (rV (I 60)) i 2 = nI i from rfl]
    · omega
  · obtain ⟨h0, h40, hw, hev⟩ : 0 < rs ∧ rs ≤ 40 ∧ (pc (sgn (I 55) rs 40) 300 0 0 [] (0, -1)).2.2 = -1 ∧ ∀ t S, ev t (pc (sgn (I 55) rs 40) 300 0 0 [] (0, -1)).1 S = rv t :: S := by
      rcases hV with ⟨h, _⟩ | h
      · exact absurd h hz
      · exact h
    have e : ∃ T, (∀ j, j < 8 → T j = th sk (rV (I 60)) i j) ∧ aF d 209 [.ref 46, .ref 60, .int (nI i)] (g, I, J, aP1 sl rd 56) = aBv (aF d 184 [.ref 46, .ref 55, .int (nI rs), .int 40] (g, aR I 57 T, J, aP1 sl rd 56)) (fun t0 => aE d 209 148 [.ref 46, .ref 60, .int (nI i), .int (nI k), aNo] [] t0) := by
      refine ⟨upd (upd (upd (upd (upd (upd (upd (upd (I 57) 0 (I 48 i)) 1 (I 60 (14 + i))) 2 (nI i)) 3 (I 60 (22 + i))) 4 (I 60 38 - I 60 38 / 8 * 8)) 5 (nI k)) 6 (I 60 k / 10)) 7 (I 60 (2 + k)), ?_, ?_⟩
      · intro j hj
        rcases ix8c hj with rfl | rfl | rfl | rfl | rfl | rfl | rfl | rfl
        · exact hsk
        · show I 60 (14 + i) = rV (I 60) (14 + i)
          exact (rV_lt _ (by omega)).symm
        · rfl
        · show I 60 (22 + i) = rV (I 60) (22 + i)
          exact (rV_lt _ (by omega)).symm
        · rfl
        · exact hI.symm.trans (rV_lt _ (by omega)).symm
        · show I 60 k / 10 = rV (I 60) (rV (I 60) (6 + i)).toNatClampNeg / 10
          rw [rV_lt (I 60) (show 6 + i < 39 by omega), hI, nI_clamp (by omega), rV_lt _ (by omega)]
        · show I 60 (2 + k) = rV (I 60) (2 + (rV (I 60) (6 + i)).toNatClampNeg)
          rw [rV_lt (I 60) (show 6 + i < 39 by omega), hI, nI_clamp (by omega), rV_lt _ (by omega)]
      · show aE d 209 0 [.ref 46, .ref 60, .int (nI i), aNo, aNo] [] _ = _
        rw [b209_0_2_l56]
        simp (disch := omega) only [hs, hI, show (nI rs = (0 : Int32)) = False from eq_false (fun e => hz ((nI_eq (b := 0) (by omega) (by decide)).mp e)), aU_R, aR_s, aR_u, aBi, aBv, aBl, nI_1, nIle_t, nIle_f, nIlt_t, nIlt_f, nIeq_t, nIeq_f, nIneg, nI_clamp, nat_le_f, nat_le_t, nat_lt_f, nat_lt_t, or_self, or_false, false_or, if_true, if_false, ↓reduceIte, Int32.or_zero, Int32.add_zero, nIm2, nIm3, nIm4, nIp2, nIp4, nIp6, nIp8, nIp14, nIp16, nIp22, nIp24, nIp30, nIq2, nIq3, nIq4, hasI_0, aU_s, aU_i, aU_r, aU_u]
    obtain ⟨T, hT, e⟩ := e
    generalize hI3 : aU (aU (aU (aR I 57 T) 46 15 (nI rs)) 46 16 40) 46 23 1 = I3
    have r55 : I3 55 = I 55 := by rw [← hI3, aU_r _ _ (by decide), aU_r _ _ (by decide), aU_r _ _ (by decide), aR_r _ _ (by decide)]
    have r57 : I3 57 = T := by rw [← hI3, aU_r _ _ (by decide), aU_r _ _ (by decide), aU_r _ _ (by decide), aR_s]
    have r23 : I3 46 23 = 1 := by rw [← hI3, aU_s]
    have r16 : I3 46 16 = 40 := by rw [← hI3, aU_i _ _ (by decide), aU_s]
    have r15 : I3 46 15 = nI rs := by rw [← hI3, aU_i _ _ (by decide), aU_i _ _ (by decide), aU_s]
    obtain ⟨v, e2, e3⟩ := (rAll_55 (g := g) (I := I3) (J := J) (sl := sl) (rl := 56) (len := rs) r15 r16 (by omega) (by rw [r55]; exact hB) 300).1 d 0 (0, -1) (by decide) (by decide) (by omega) (by decide)
    rw [r55] at e2 e3
    have hv : v = rv T := by
      have q := e3 hw (by rw [r23]; decide) []
      rw [r57, hev] at q
      exact (List.cons.inj q).1.symm
    have e4 : aF d 200 [.ref 46, .int 0] (g, pM I3 (0, -1), J, aP1 sl 56 56) = some (some (some (.int v)), (g, pM I3 (pc (sgn (I 55) rs 40) 300 0 0 [] (0, -1)).2, J, aP1 sl 56 56)) := e2
    generalize (pc (sgn (I 55) rs 40) 300 0 0 [] (0, -1)).2 = p at e4
    refine ⟨aU (pM I3 p) 46 23 0, 56, ?_, ?_, ?_⟩
    · rw [← hI3]
      unfold pM
      simp only [aU_R, aR_s, aR_u]
      exact Fr_s (Fr_s (Fr_r _ _) _ (by decide)) _ (by decide)
    · intro j hj
      have hj : j ≠ 15 ∧ j ≠ 16 ∧ j ≠ 17 ∧ j ≠ 18 ∧ j ≠ 23 := by simpa using hj
      rw [aU_i _ _ hj.2.2.2.2, pM_o _ _ hj.2.2.1 hj.2.2.2.1, ← hI3, aU_i _ _ hj.2.2.2.2, aU_i _ _ hj.2.1, aU_i _ _ hj.1, aR_r _ _ (by decide)]
    · rw [e, f184_55]
      simp only [aBv]
      rw [b209_148, pM_u _ _ (by decide) (by decide), hI3, e4]
      simp only [aBi]
      rw [b209_158, hv, hC T _ hT]
theorem f209o {i k rs : Nat} {rv : (Nat → Int32) → Int32} {sk : Nat → Int32} (hd : 41 ≤ d) (hV : rRule (I 56) rs rv) (hB : byR (I 56)) (hC : ∀ t t' : Nat → Int32, (∀ k, k < 8 → t k = t' k) → rv t = rv t') (hs : I 46 22 = nI rs) (hi : i < 8) (hk : k < 2) (hI : I 60 (6 + i) = nI k) (hsk : I 48 i = sk i) : ∃ I' rd', Fr [46, 57] I I' ∧ F46 [15, 16, 17, 18, 23] I I' ∧ aF d 209 [.ref 46, .ref 60, .int (nI i)] (g, I, J, aP1 sl rd 57) = some (some (some (.int (rv (th sk (rV (I 60)) i)))), (g, I', J, aP1 sl rd' 57)) := by
  by_cases hz : rs = 0
  · subst hz
    rcases hV with ⟨_, hV⟩ | ⟨h, _⟩
    · refine ⟨I, rd, Fr_r _ _, fun _ _ => rfl, ?_⟩
      show aE d 209 0 [.ref 46, .ref 60, .int (nI i), aNo, aNo] [] _ = _
      rw [b209_0_2_l57]
      simp (disch := omega) only [hs, show (nI 0 = (0 : Int32)) = True from eq_true rfl, aBi, aBv, aBl, nI_1, nIle_t, nIle_f, nIlt_t, nIlt_f, nIeq_t, nIeq_f, nIneg, nI_clamp, nat_le_f, nat_le_t, nat_lt_f, nat_lt_t, or_self, or_false, false_or, if_true, if_false, ↓reduceIte, Int32.or_zero, Int32.add_zero, nIm2, nIm3, nIm4, nIp2, nIp4, nIp6, nIp8, nIp14, nIp16, nIp22, nIp24, nIp30, nIq2, nIq3, nIq4, hasI_0, aU_s, aU_i, aU_r, aU_u]
      rw [hV, show th sk (rV (I 60)) i 0 = I 48 i from hsk.symm, show th sk (rV (I 60)) i 1 = I 60 (14 + i) from rV_lt _ (by omega), show th sk (rV (I 60)) i 4 = I 60 38 - I 60 38 / 8 * 8 from rfl, show th sk (rV (I 60)) i 2 = nI i from rfl]
    · omega
  · obtain ⟨h0, h40, hw, hev⟩ : 0 < rs ∧ rs ≤ 40 ∧ (pc (sgn (I 56) rs 40) 300 0 0 [] (0, -1)).2.2 = -1 ∧ ∀ t S, ev t (pc (sgn (I 56) rs 40) 300 0 0 [] (0, -1)).1 S = rv t :: S := by
      rcases hV with ⟨h, _⟩ | h
      · exact absurd h hz
      · exact h
    have e : ∃ T, (∀ j, j < 8 → T j = th sk (rV (I 60)) i j) ∧ aF d 209 [.ref 46, .ref 60, .int (nI i)] (g, I, J, aP1 sl rd 57) = aBv (aF d 184 [.ref 46, .ref 56, .int (nI rs), .int 40] (g, aR I 57 T, J, aP1 sl rd 57)) (fun t0 => aE d 209 148 [.ref 46, .ref 60, .int (nI i), .int (nI k), aNo] [] t0) := by
      refine ⟨upd (upd (upd (upd (upd (upd (upd (upd (I 57) 0 (I 48 i)) 1 (I 60 (14 + i))) 2 (nI i)) 3 (I 60 (22 + i))) 4 (I 60 38 - I 60 38 / 8 * 8)) 5 (nI k)) 6 (I 60 k / 10)) 7 (I 60 (2 + k)), ?_, ?_⟩
      · intro j hj
        rcases ix8c hj with rfl | rfl | rfl | rfl | rfl | rfl | rfl | rfl
        · exact hsk
        · show I 60 (14 + i) = rV (I 60) (14 + i)
          exact (rV_lt _ (by omega)).symm
        · rfl
        · show I 60 (22 + i) = rV (I 60) (22 + i)
          exact (rV_lt _ (by omega)).symm
        · rfl
        · exact hI.symm.trans (rV_lt _ (by omega)).symm
        · show I 60 k / 10 = rV (I 60) (rV (I 60) (6 + i)).toNatClampNeg / 10
          rw [rV_lt (I 60) (show 6 + i < 39 by omega), hI, nI_clamp (by omega), rV_lt _ (by omega)]
        · show I 60 (2 + k) = rV (I 60) (2 + (rV (I 60) (6 + i)).toNatClampNeg)
          rw [rV_lt (I 60) (show 6 + i < 39 by omega), hI, nI_clamp (by omega), rV_lt _ (by omega)]
      · show aE d 209 0 [.ref 46, .ref 60, .int (nI i), aNo, aNo] [] _ = _
        rw [b209_0_2_l57]
        simp (disch := omega) only [hs, hI, show (nI rs = (0 : Int32)) = False from eq_false (fun e => hz ((nI_eq (b := 0) (by omega) (by decide)).mp e)), aU_R, aR_s, aR_u, aBi, aBv, aBl, nI_1, nIle_t, nIle_f, nIlt_t, nIlt_f, nIeq_t, nIeq_f, nIneg, nI_clamp, nat_le_f, nat_le_t, nat_lt_f, nat_lt_t, or_self, or_false, false_or, if_true, if_false, ↓reduceIte, Int32.or_zero, Int32.add_zero, nIm2, nIm3, nIm4, nIp2, nIp4, nIp6, nIp8, nIp14, nIp16, nIp22, nIp24, nIp30, nIq2, nIq3, nIq4, hasI_0, aU_s, aU_i, aU_r, aU_u]
    obtain ⟨T, hT, e⟩ := e
    generalize hI3 : aU (aU (aU (aR I 57 T) 46 15 (nI rs)) 46 16 40) 46 23 1 = I3
    have r55 : I3 56 = I 56 := by rw [← hI3, aU_r _ _ (by decide), aU_r _ _ (by decide), aU_r _ _ (by decide), aR_r _ _ (by decide)]
    have r57 : I3 57 = T := by rw [← hI3, aU_r _ _ (by decide), aU_r _ _ (by decide), aU_r _ _ (by decide), aR_s]
    have r23 : I3 46 23 = 1 := by rw [← hI3, aU_s]
    have r16 : I3 46 16 = 40 := by rw [← hI3, aU_i _ _ (by decide), aU_s]
    have r15 : I3 46 15 = nI rs := by rw [← hI3, aU_i _ _ (by decide), aU_i _ _ (by decide), aU_s]
    obtain ⟨v, e2, e3⟩ := (rAll_56 (g := g) (I := I3) (J := J) (sl := sl) (rl := 57) (len := rs) r15 r16 (by omega) (by rw [r55]; exact hB) 300).1 d 0 (0, -1) (by decide) (by decide) (by omega) (by decide)
    rw [r55] at e2 e3
    have hv : v = rv T := by
      have q := e3 hw (by rw [r23]; decide) []
      rw [r57, hev] at q
      exact (List.cons.inj q).1.symm
    have e4 : aF d 200 [.ref 46, .int 0] (g, pM I3 (0, -1), J, aP1 sl 57 57) = some (some (some (.int v)), (g, pM I3 (pc (sgn (I 56) rs 40) 300 0 0 [] (0, -1)).2, J, aP1 sl 57 57)) := e2
    generalize (pc (sgn (I 56) rs 40) 300 0 0 [] (0, -1)).2 = p at e4
    refine ⟨aU (pM I3 p) 46 23 0, 57, ?_, ?_, ?_⟩
    · rw [← hI3]
      unfold pM
      simp only [aU_R, aR_s, aR_u]
      exact Fr_s (Fr_s (Fr_r _ _) _ (by decide)) _ (by decide)
    · intro j hj
      have hj : j ≠ 15 ∧ j ≠ 16 ∧ j ≠ 17 ∧ j ≠ 18 ∧ j ≠ 23 := by simpa using hj
      rw [aU_i _ _ hj.2.2.2.2, pM_o _ _ hj.2.2.1 hj.2.2.2.1, ← hI3, aU_i _ _ hj.2.2.2.2, aU_i _ _ hj.2.1, aU_i _ _ hj.1, aR_r _ _ (by decide)]
    · rw [e, f184_56]
      simp only [aBv]
      rw [b209_148, pM_u _ _ (by decide) (by decide), hI3, e4]
      simp only [aBi]
      rw [b209_158, hv, hC T _ hT]
theorem F46_r (S : List Nat) (I : Nat → Nat → Int32) : F46 S I I := fun _ _ => rfl
theorem f225 {nd rs : Nat} {rv : (Nat → Int32) → Int32} {sk : Nat → Int32} (hd : 41 ≤ d) (hV : rRule (I 55) rs rv) (hB : byR (I 55)) (hC : ∀ t t' : Nat → Int32, (∀ k, k < 8 → t k = t' k) → rv t = rv t') (hs : I 46 22 = nI rs) (hN : I 46 1 = nI nd) (hn : nd ≤ 8) (h0 : 0 < nd) (hc : clubs (fun i => I 47 (6 + i)) nd) (hsk : ∀ i, i < nd → I 48 i = sk i) : ∃ I' rd', Fr [46, 57] I I' ∧ F46 [15, 16, 17, 18, 23] I I' ∧ aF d 225 [.ref 46, .ref 47] (g, I, J, aP1 sl rd 56) = some (some (some (.int (nI (wn (sts rv sk (rV (I 47))) nd)))), (g, I', J, aP1 sl rd' 56)) := by
  have st : ∀ (i : Nat) (I1 : Nat → Nat → Int32) (rd1 : Nat), i < nd → Fr [46, 57] I I1 → F46 [15, 16, 17, 18, 23] I I1 → ∃ I' rd', Fr [46, 57] I I' ∧ F46 [15, 16, 17, 18, 23] I I' ∧ aF d 209 [.ref 46, .ref 47, .int (nI i)] (g, I1, J, aP1 sl rd1 56) = some (some (some (.int (sts rv sk (rV (I 47)) i))), (g, I', J, aP1 sl rd' 56)) := by
    intro i I1 rd1 hi q1 q2
    obtain ⟨k, hk, hI⟩ := hc i hi
    obtain ⟨I', rd', f1, f2, f3⟩ := f209 (d := d) (g := g) (I := I1) (J := J) (sl := sl) (rd := rd1) (i := i) (k := k) (rs := rs) (rv := rv) (sk := sk) hd (by rw [q1 55 (by decide)]; exact hV) (by rw [q1 55 (by decide)]; exact hB) hC (by rw [q2 22 (by decide)]; exact hs) (by omega) hk (by rw [q1 47 (by decide)]; exact hI) (by rw [q1 48 (by decide)]; exact hsk i hi)
    rw [q1 47 (by decide)] at f3
    exact ⟨I', rd', Fr_t q1 f1, F46_t q2 f2, f3⟩
  have l : ∀ (m j b : Nat) (I1 : Nat → Nat → Int32) (rd1 : Nat), j + m = nd → b < j → Fr [46, 57] I I1 → F46 [15, 16, 17, 18, 23] I I1 → ∃ I' rd', Fr [46, 57] I I' ∧ F46 [15, 16, 17, 18, 23] I I' ∧ aE d 225 4 [.ref 46, .ref 47, .int (nI b), .int (nI j)] [] (g, I1, J, aP1 sl rd1 56) = some (some (some (.int (nI (fo (wn1 (sts rv sk (rV (I 47)))) m j b)))), (g, I', J, aP1 sl rd' 56)) := by
    intro m
    induction m with
    | zero =>
      intro j b I1 rd1 hj hb q1 q2
      refine ⟨I1, rd1, q1, q2, ?_⟩
      have hN1 : I1 46 1 = nI nd := (q2 1 (by decide)).trans hN
      rw [b225_4]
      simp (disch := omega) only [hN1, aBi, aBv, aBl, nI_1, nIle_t, nIle_f, nIlt_t, nIlt_f, nIeq_t, nIeq_f, nIneg, nI_clamp, nat_le_f, nat_le_t, nat_lt_f, nat_lt_t, or_self, or_false, false_or, if_true, if_false, ↓reduceIte, Int32.or_zero, Int32.add_zero, nIm2, nIm3, nIm4, nIp2, nIp4, nIp6, nIp8, nIp14, nIp16, nIp22, nIp24, nIp30, nIq2, nIq3, nIq4, hasI_0, aU_s, aU_i, aU_r, aU_u]
      rfl
    | succ m ih =>
      intro j b I1 rd1 hj hb q1 q2
      have hN1 : I1 46 1 = nI nd := (q2 1 (by decide)).trans hN
      obtain ⟨I2, rd2, a1, a2, a3⟩ := st j I1 rd1 (by omega) q1 q2
      obtain ⟨I3, rd3, b1, b2, b3⟩ := st b I2 rd2 (by omega) a1 a2
      rw [b225_4]
      simp (disch := omega) only [hN1, a3, b225_18, b3, b225_24, aBi, aBv, aBl, nI_1, nIle_t, nIle_f, nIlt_t, nIlt_f, nIeq_t, nIeq_f, nIneg, nI_clamp, nat_le_f, nat_le_t, nat_lt_f, nat_lt_t, or_self, or_false, false_or, if_true, if_false, ↓reduceIte, Int32.or_zero, Int32.add_zero, nIm2, nIm3, nIm4, nIp2, nIp4, nIp6, nIp8, nIp14, nIp16, nIp22, nIp24, nIp30, nIq2, nIq3, nIq4, hasI_0, aU_s, aU_i, aU_r, aU_u]
      by_cases h : sts rv sk (rV (I 47)) j ≤ sts rv sk (rV (I 47)) b
      · rw [if_pos h]
        obtain ⟨I', rd', c1, c2, c3⟩ := ih (j + 1) b I3 rd3 (by omega) (by omega) b1 b2
        refine ⟨I', rd', c1, c2, ?_⟩
        rw [show fo (wn1 (sts rv sk (rV (I 47)))) (m + 1) j b = fo (wn1 (sts rv sk (rV (I 47)))) m (j + 1) b from by
          show fo (wn1 (sts rv sk (rV (I 47)))) m (j + 1) (wn1 (sts rv sk (rV (I 47))) j b) = _
          rw [show wn1 (sts rv sk (rV (I 47))) j b = b from if_pos h]]
        exact c3
      · rw [if_neg h]
        obtain ⟨I', rd', c1, c2, c3⟩ := ih (j + 1) j I3 rd3 (by omega) (by omega) b1 b2
        refine ⟨I', rd', c1, c2, ?_⟩
        rw [show fo (wn1 (sts rv sk (rV (I 47)))) (m + 1) j b = fo (wn1 (sts rv sk (rV (I 47)))) m (j + 1) j from by
          show fo (wn1 (sts rv sk (rV (I 47)))) m (j + 1) (wn1 (sts rv sk (rV (I 47))) j b) = _
          rw [show wn1 (sts rv sk (rV (I 47))) j b = j from if_neg h]]
        exact c3
  obtain ⟨I', rd', c1, c2, c3⟩ := l (nd - 1) 1 0 I rd (by omega) (by omega) (Fr_r _ _) (F46_r _ _)
  refine ⟨I', rd', c1, c2, ?_⟩
  show aE d 225 0 [.ref 46, .ref 47, aNo, aNo] [] _ = _
  rw [b225_0]
  exact c3
theorem f225t {nd rs : Nat} {rv : (Nat → Int32) → Int32} {sk : Nat → Int32} (hd : 41 ≤ d) (hV : rRule (I 55) rs rv) (hB : byR (I 55)) (hC : ∀ t t' : Nat → Int32, (∀ k, k < 8 → t k = t' k) → rv t = rv t') (hs : I 46 22 = nI rs) (hN : I 46 1 = nI nd) (hn : nd ≤ 8) (h0 : 0 < nd) (hc : clubs (fun i => I 60 (6 + i)) nd) (hsk : ∀ i, i < nd → I 48 i = sk i) : ∃ I' rd', Fr [46, 57] I I' ∧ F46 [15, 16, 17, 18, 23] I I' ∧ aF d 225 [.ref 46, .ref 60] (g, I, J, aP1 sl rd 56) = some (some (some (.int (nI (wn (sts rv sk (rV (I 60))) nd)))), (g, I', J, aP1 sl rd' 56)) := by
  have st : ∀ (i : Nat) (I1 : Nat → Nat → Int32) (rd1 : Nat), i < nd → Fr [46, 57] I I1 → F46 [15, 16, 17, 18, 23] I I1 → ∃ I' rd', Fr [46, 57] I I' ∧ F46 [15, 16, 17, 18, 23] I I' ∧ aF d 209 [.ref 46, .ref 60, .int (nI i)] (g, I1, J, aP1 sl rd1 56) = some (some (some (.int (sts rv sk (rV (I 60)) i))), (g, I', J, aP1 sl rd' 56)) := by
    intro i I1 rd1 hi q1 q2
    obtain ⟨k, hk, hI⟩ := hc i hi
    obtain ⟨I', rd', f1, f2, f3⟩ := f209t (d := d) (g := g) (I := I1) (J := J) (sl := sl) (rd := rd1) (i := i) (k := k) (rs := rs) (rv := rv) (sk := sk) hd (by rw [q1 55 (by decide)]; exact hV) (by rw [q1 55 (by decide)]; exact hB) hC (by rw [q2 22 (by decide)]; exact hs) (by omega) hk (by rw [q1 60 (by decide)]; exact hI) (by rw [q1 48 (by decide)]; exact hsk i hi)
    rw [q1 60 (by decide)] at f3
    exact ⟨I', rd', Fr_t q1 f1, F46_t q2 f2, f3⟩
  have l : ∀ (m j b : Nat) (I1 : Nat → Nat → Int32) (rd1 : Nat), j + m = nd → b < j → Fr [46, 57] I I1 → F46 [15, 16, 17, 18, 23] I I1 → ∃ I' rd', Fr [46, 57] I I' ∧ F46 [15, 16, 17, 18, 23] I I' ∧ aE d 225 4 [.ref 46, .ref 60, .int (nI b), .int (nI j)] [] (g, I1, J, aP1 sl rd1 56) = some (some (some (.int (nI (fo (wn1 (sts rv sk (rV (I 60)))) m j b)))), (g, I', J, aP1 sl rd' 56)) := by
    intro m
    induction m with
    | zero =>
      intro j b I1 rd1 hj hb q1 q2
      refine ⟨I1, rd1, q1, q2, ?_⟩
      have hN1 : I1 46 1 = nI nd := (q2 1 (by decide)).trans hN
      rw [b225_4_2]
      simp (disch := omega) only [hN1, aBi, aBv, aBl, nI_1, nIle_t, nIle_f, nIlt_t, nIlt_f, nIeq_t, nIeq_f, nIneg, nI_clamp, nat_le_f, nat_le_t, nat_lt_f, nat_lt_t, or_self, or_false, false_or, if_true, if_false, ↓reduceIte, Int32.or_zero, Int32.add_zero, nIm2, nIm3, nIm4, nIp2, nIp4, nIp6, nIp8, nIp14, nIp16, nIp22, nIp24, nIp30, nIq2, nIq3, nIq4, hasI_0, aU_s, aU_i, aU_r, aU_u]
      rfl
    | succ m ih =>
      intro j b I1 rd1 hj hb q1 q2
      have hN1 : I1 46 1 = nI nd := (q2 1 (by decide)).trans hN
      obtain ⟨I2, rd2, a1, a2, a3⟩ := st j I1 rd1 (by omega) q1 q2
      obtain ⟨I3, rd3, b1, b2, b3⟩ := st b I2 rd2 (by omega) a1 a2
      rw [b225_4_2]
      simp (disch := omega) only [hN1, a3, b225_18_2, b3, b225_24_2, aBi, aBv, aBl, nI_1, nIle_t, nIle_f, nIlt_t, nIlt_f, nIeq_t, nIeq_f, nIneg, nI_clamp, nat_le_f, nat_le_t, nat_lt_f, nat_lt_t, or_self, or_false, false_or, if_true, if_false, ↓reduceIte, Int32.or_zero, Int32.add_zero, nIm2, nIm3, nIm4, nIp2, nIp4, nIp6, nIp8, nIp14, nIp16, nIp22, nIp24, nIp30, nIq2, nIq3, nIq4, hasI_0, aU_s, aU_i, aU_r, aU_u]
      by_cases h : sts rv sk (rV (I 60)) j ≤ sts rv sk (rV (I 60)) b
      · rw [if_pos h]
        obtain ⟨I', rd', c1, c2, c3⟩ := ih (j + 1) b I3 rd3 (by omega) (by omega) b1 b2
        refine ⟨I', rd', c1, c2, ?_⟩
        rw [show fo (wn1 (sts rv sk (rV (I 60)))) (m + 1) j b = fo (wn1 (sts rv sk (rV (I 60)))) m (j + 1) b from by
          show fo (wn1 (sts rv sk (rV (I 60)))) m (j + 1) (wn1 (sts rv sk (rV (I 60))) j b) = _
          rw [show wn1 (sts rv sk (rV (I 60))) j b = b from if_pos h]]
        exact c3
      · rw [if_neg h]
        obtain ⟨I', rd', c1, c2, c3⟩ := ih (j + 1) j I3 rd3 (by omega) (by omega) b1 b2
        refine ⟨I', rd', c1, c2, ?_⟩
        rw [show fo (wn1 (sts rv sk (rV (I 60)))) (m + 1) j b = fo (wn1 (sts rv sk (rV (I 60)))) m (j + 1) j from by
          show fo (wn1 (sts rv sk (rV (I 60)))) m (j + 1) (wn1 (sts rv sk (rV (I 60))) j b) = _
          rw [show wn1 (sts rv sk (rV (I 60))) j b = j from if_neg h]]
        exact c3
  obtain ⟨I', rd', c1, c2, c3⟩ := l (nd - 1) 1 0 I rd (by omega) (by omega) (Fr_r _ _) (F46_r _ _)
  refine ⟨I', rd', c1, c2, ?_⟩
  show aE d 225 0 [.ref 46, .ref 60, aNo, aNo] [] _ = _
  rw [b225_0_2]
  exact c3
theorem f225o {nd rs : Nat} {rv : (Nat → Int32) → Int32} {sk : Nat → Int32} (hd : 41 ≤ d) (hV : rRule (I 56) rs rv) (hB : byR (I 56)) (hC : ∀ t t' : Nat → Int32, (∀ k, k < 8 → t k = t' k) → rv t = rv t') (hs : I 46 22 = nI rs) (hN : I 46 1 = nI nd) (hn : nd ≤ 8) (h0 : 0 < nd) (hc : clubs (fun i => I 60 (6 + i)) nd) (hsk : ∀ i, i < nd → I 48 i = sk i) : ∃ I' rd', Fr [46, 57] I I' ∧ F46 [15, 16, 17, 18, 23] I I' ∧ aF d 225 [.ref 46, .ref 60] (g, I, J, aP1 sl rd 57) = some (some (some (.int (nI (wn (sts rv sk (rV (I 60))) nd)))), (g, I', J, aP1 sl rd' 57)) := by
  have st : ∀ (i : Nat) (I1 : Nat → Nat → Int32) (rd1 : Nat), i < nd → Fr [46, 57] I I1 → F46 [15, 16, 17, 18, 23] I I1 → ∃ I' rd', Fr [46, 57] I I' ∧ F46 [15, 16, 17, 18, 23] I I' ∧ aF d 209 [.ref 46, .ref 60, .int (nI i)] (g, I1, J, aP1 sl rd1 57) = some (some (some (.int (sts rv sk (rV (I 60)) i))), (g, I', J, aP1 sl rd' 57)) := by
    intro i I1 rd1 hi q1 q2
    obtain ⟨k, hk, hI⟩ := hc i hi
    obtain ⟨I', rd', f1, f2, f3⟩ := f209o (d := d) (g := g) (I := I1) (J := J) (sl := sl) (rd := rd1) (i := i) (k := k) (rs := rs) (rv := rv) (sk := sk) hd (by rw [q1 56 (by decide)]; exact hV) (by rw [q1 56 (by decide)]; exact hB) hC (by rw [q2 22 (by decide)]; exact hs) (by omega) hk (by rw [q1 60 (by decide)]; exact hI) (by rw [q1 48 (by decide)]; exact hsk i hi)
    rw [q1 60 (by decide)] at f3
    exact ⟨I', rd', Fr_t q1 f1, F46_t q2 f2, f3⟩
  have l : ∀ (m j b : Nat) (I1 : Nat → Nat → Int32) (rd1 : Nat), j + m = nd → b < j → Fr [46, 57] I I1 → F46 [15, 16, 17, 18, 23] I I1 → ∃ I' rd', Fr [46, 57] I I' ∧ F46 [15, 16, 17, 18, 23] I I' ∧ aE d 225 4 [.ref 46, .ref 60, .int (nI b), .int (nI j)] [] (g, I1, J, aP1 sl rd1 57) = some (some (some (.int (nI (fo (wn1 (sts rv sk (rV (I 60)))) m j b)))), (g, I', J, aP1 sl rd' 57)) := by
    intro m
    induction m with
    | zero =>
      intro j b I1 rd1 hj hb q1 q2
      refine ⟨I1, rd1, q1, q2, ?_⟩
      have hN1 : I1 46 1 = nI nd := (q2 1 (by decide)).trans hN
      rw [b225_4_2]
      simp (disch := omega) only [hN1, aBi, aBv, aBl, nI_1, nIle_t, nIle_f, nIlt_t, nIlt_f, nIeq_t, nIeq_f, nIneg, nI_clamp, nat_le_f, nat_le_t, nat_lt_f, nat_lt_t, or_self, or_false, false_or, if_true, if_false, ↓reduceIte, Int32.or_zero, Int32.add_zero, nIm2, nIm3, nIm4, nIp2, nIp4, nIp6, nIp8, nIp14, nIp16, nIp22, nIp24, nIp30, nIq2, nIq3, nIq4, hasI_0, aU_s, aU_i, aU_r, aU_u]
      rfl
    | succ m ih =>
      intro j b I1 rd1 hj hb q1 q2
      have hN1 : I1 46 1 = nI nd := (q2 1 (by decide)).trans hN
      obtain ⟨I2, rd2, a1, a2, a3⟩ := st j I1 rd1 (by omega) q1 q2
      obtain ⟨I3, rd3, b1, b2, b3⟩ := st b I2 rd2 (by omega) a1 a2
      rw [b225_4_2]
      simp (disch := omega) only [hN1, a3, b225_18_2, b3, b225_24_2, aBi, aBv, aBl, nI_1, nIle_t, nIle_f, nIlt_t, nIlt_f, nIeq_t, nIeq_f, nIneg, nI_clamp, nat_le_f, nat_le_t, nat_lt_f, nat_lt_t, or_self, or_false, false_or, if_true, if_false, ↓reduceIte, Int32.or_zero, Int32.add_zero, nIm2, nIm3, nIm4, nIp2, nIp4, nIp6, nIp8, nIp14, nIp16, nIp22, nIp24, nIp30, nIq2, nIq3, nIq4, hasI_0, aU_s, aU_i, aU_r, aU_u]
      by_cases h : sts rv sk (rV (I 60)) j ≤ sts rv sk (rV (I 60)) b
      · rw [if_pos h]
        obtain ⟨I', rd', c1, c2, c3⟩ := ih (j + 1) b I3 rd3 (by omega) (by omega) b1 b2
        refine ⟨I', rd', c1, c2, ?_⟩
        rw [show fo (wn1 (sts rv sk (rV (I 60)))) (m + 1) j b = fo (wn1 (sts rv sk (rV (I 60)))) m (j + 1) b from by
          show fo (wn1 (sts rv sk (rV (I 60)))) m (j + 1) (wn1 (sts rv sk (rV (I 60))) j b) = _
          rw [show wn1 (sts rv sk (rV (I 60))) j b = b from if_pos h]]
        exact c3
      · rw [if_neg h]
        obtain ⟨I', rd', c1, c2, c3⟩ := ih (j + 1) j I3 rd3 (by omega) (by omega) b1 b2
        refine ⟨I', rd', c1, c2, ?_⟩
        rw [show fo (wn1 (sts rv sk (rV (I 60)))) (m + 1) j b = fo (wn1 (sts rv sk (rV (I 60)))) m (j + 1) j from by
          show fo (wn1 (sts rv sk (rV (I 60)))) m (j + 1) (wn1 (sts rv sk (rV (I 60))) j b) = _
          rw [show wn1 (sts rv sk (rV (I 60))) j b = j from if_neg h]]
        exact c3
  obtain ⟨I', rd', c1, c2, c3⟩ := l (nd - 1) 1 0 I rd (by omega) (by omega) (Fr_r _ _) (F46_r _ _)
  refine ⟨I', rd', c1, c2, ?_⟩
  show aE d 225 0 [.ref 46, .ref 60, aNo, aNo] [] _ = _
  rw [b225_0_2]
  exact c3
theorem f224 {nd rs : Nat} {rv : (Nat → Int32) → Int32} {sk : Nat → Int32} (hd : 41 ≤ d) (hV : rRule (I 55) rs rv) (hB : byR (I 55)) (hC : ∀ t t' : Nat → Int32, (∀ k, k < 8 → t k = t' k) → rv t = rv t') (hs : I 46 22 = nI rs) (hN : I 46 1 = nI nd) (hn : nd ≤ 8) (h0 : 0 < nd) (hc : clubs (fun i => I 47 (6 + i)) nd) (hsk : ∀ i, i < nd → I 48 i = sk i) : ∃ I' rd' k, k < 2 ∧ I 47 (6 + wn (sts rv sk (rV (I 47))) nd) = nI k ∧ I' 47 = rRace (I 47) (wn (sts rv sk (rV (I 47))) nd) k ∧ Fr [46, 57, 47] I I' ∧ F46 [15, 16, 17, 18, 23] I I' ∧ aF d 224 [.ref 46, .ref 47] (g, I, J, aP1 sl rd 56) = some (some (some (.int (nI (wn (sts rv sk (rV (I 47))) nd)))), (g, I', J, aP1 sl rd' 56)) := by
  have hw := wn_lt (sts rv sk (rV (I 47))) h0
  obtain ⟨I1, rd1, a1, a2, a3⟩ := f225 (d := d) (g := g) (I := I) (J := J) (sl := sl) (rd := rd) hd hV hB hC hs hN hn h0 hc hsk
  obtain ⟨k, hk, hI⟩ := hc _ hw
  generalize wn (sts rv sk (rV (I 47))) nd = i at *
  have hI : I 47 (6 + i) = nI k := hI
  have ew : I1 47 = I 47 := a1 47 (by decide)
  refine ⟨aR I1 47 (rRace (I 47) i k), rd1, k, hk, hI, aR_s _ _ _, ?_, ?_, ?_⟩
  · exact Fr_s (Fr_w a1 (by decide)) _ (by decide)
  · intro j hj; rw [aR_r _ _ (by decide)]; exact a2 j hj
  · show aE d 224 0 [.ref 46, .ref 47, aNo, aNo] [] _ = _
    have e1 (I : Nat → Nat → Int32) (v : Int32) (rd : Nat) : aF d 227 [.ref 47, .int (nI (1 - k)), .int v] (g, I, J, aP1 sl rd 56) = some (some none, (g, aR I 47 (adA (I 47) (1 - k) v), J, aP1 sl rd 56)) := f227_47 (by omega) v
    simp (disch := omega) only [b224_0_2, a3, b224_5_2, ew, hI, f226_47, aU_R, aR_s, aR_u, b224_39_2, nI_1m, e1, b224_47_2, f227_47, b224_53_2, aBi, aBv, aBl, nI_1, nIle_t, nIle_f, nIlt_t, nIlt_f, nIeq_t, nIeq_f, nIneg, nI_clamp, nat_le_f, nat_le_t, nat_lt_f, nat_lt_t, or_self, or_false, false_or, if_true, if_false, ↓reduceIte, Int32.or_zero, Int32.add_zero, nIm2, nIm3, nIm4, nIp2, nIp4, nIp6, nIp8, nIp14, nIp16, nIp22, nIp24, nIp30, nIq2, nIq3, nIq4, hasI_0, aU_s, aU_i, aU_r, aU_u]
    unfold rRace
    simp only
    have e6 : ∀ q, adA (adA (adM (upd (upd (I 47) (22 + i) (I 47 (22 + i) + 1)) (4 + k) q) k 10) (1 - k) 3) k (-1) 38 = I 47 38 := by
      intro q
      unfold adA adM
      rw [upd_n _ _ (by omega), upd_n _ _ (by omega), upd_n _ _ (by omega), upd_n _ _ (by omega), upd_n _ _ (by omega)]
    rw [e6]
theorem f224t {nd rs : Nat} {rv : (Nat → Int32) → Int32} {sk : Nat → Int32} (hd : 41 ≤ d) (hV : rRule (I 55) rs rv) (hB : byR (I 55)) (hC : ∀ t t' : Nat → Int32, (∀ k, k < 8 → t k = t' k) → rv t = rv t') (hs : I 46 22 = nI rs) (hN : I 46 1 = nI nd) (hn : nd ≤ 8) (h0 : 0 < nd) (hc : clubs (fun i => I 60 (6 + i)) nd) (hsk : ∀ i, i < nd → I 48 i = sk i) : ∃ I' rd' k, k < 2 ∧ I 60 (6 + wn (sts rv sk (rV (I 60))) nd) = nI k ∧ I' 60 = rRace (I 60) (wn (sts rv sk (rV (I 60))) nd) k ∧ Fr [46, 57, 60] I I' ∧ F46 [15, 16, 17, 18, 23] I I' ∧ aF d 224 [.ref 46, .ref 60] (g, I, J, aP1 sl rd 56) = some (some (some (.int (nI (wn (sts rv sk (rV (I 60))) nd)))), (g, I', J, aP1 sl rd' 56)) := by
  have hw := wn_lt (sts rv sk (rV (I 60))) h0
  obtain ⟨I1, rd1, a1, a2, a3⟩ := f225t (d := d) (g := g) (I := I) (J := J) (sl := sl) (rd := rd) hd hV hB hC hs hN hn h0 hc hsk
  obtain ⟨k, hk, hI⟩ := hc _ hw
  generalize wn (sts rv sk (rV (I 60))) nd = i at *
  have hI : I 60 (6 + i) = nI k := hI
  have ew : I1 60 = I 60 := a1 60 (by decide)
  refine ⟨aR I1 60 (rRace (I 60) i k), rd1, k, hk, hI, aR_s _ _ _, ?_, ?_, ?_⟩
  · exact Fr_s (Fr_w a1 (by decide)) _ (by decide)
  · intro j hj; rw [aR_r _ _ (by decide)]; exact a2 j hj
  · show aE d 224 0 [.ref 46, .ref 60, aNo, aNo] [] _ = _
    have e1 (I : Nat → Nat → Int32) (v : Int32) (rd : Nat) : aF d 227 [.ref 60, .int (nI (1 - k)), .int v] (g, I, J, aP1 sl rd 56) = some (some none, (g, aR I 60 (adA (I 60) (1 - k) v), J, aP1 sl rd 56)) := f227_60 (by omega) v
    simp (disch := omega) only [b224_0, a3, b224_5, ew, hI, f226_60, aU_R, aR_s, aR_u, b224_39, nI_1m, e1, b224_47, f227_60, b224_53, aBi, aBv, aBl, nI_1, nIle_t, nIle_f, nIlt_t, nIlt_f, nIeq_t, nIeq_f, nIneg, nI_clamp, nat_le_f, nat_le_t, nat_lt_f, nat_lt_t, or_self, or_false, false_or, if_true, if_false, ↓reduceIte, Int32.or_zero, Int32.add_zero, nIm2, nIm3, nIm4, nIp2, nIp4, nIp6, nIp8, nIp14, nIp16, nIp22, nIp24, nIp30, nIq2, nIq3, nIq4, hasI_0, aU_s, aU_i, aU_r, aU_u]
    unfold rRace
    simp only
    have e6 : ∀ q, adA (adA (adM (upd (upd (I 60) (22 + i) (I 60 (22 + i) + 1)) (4 + k) q) k 10) (1 - k) 3) k (-1) 38 = I 60 38 := by
      intro q
      unfold adA adM
      rw [upd_n _ _ (by omega), upd_n _ _ (by omega), upd_n _ _ (by omega), upd_n _ _ (by omega), upd_n _ _ (by omega)]
    rw [e6]
theorem f224o {nd rs : Nat} {rv : (Nat → Int32) → Int32} {sk : Nat → Int32} (hd : 41 ≤ d) (hV : rRule (I 56) rs rv) (hB : byR (I 56)) (hC : ∀ t t' : Nat → Int32, (∀ k, k < 8 → t k = t' k) → rv t = rv t') (hs : I 46 22 = nI rs) (hN : I 46 1 = nI nd) (hn : nd ≤ 8) (h0 : 0 < nd) (hc : clubs (fun i => I 60 (6 + i)) nd) (hsk : ∀ i, i < nd → I 48 i = sk i) : ∃ I' rd' k, k < 2 ∧ I 60 (6 + wn (sts rv sk (rV (I 60))) nd) = nI k ∧ I' 60 = rRace (I 60) (wn (sts rv sk (rV (I 60))) nd) k ∧ Fr [46, 57, 60] I I' ∧ F46 [15, 16, 17, 18, 23] I I' ∧ aF d 224 [.ref 46, .ref 60] (g, I, J, aP1 sl rd 57) = some (some (some (.int (nI (wn (sts rv sk (rV (I 60))) nd)))), (g, I', J, aP1 sl rd' 57)) := by
  have hw := wn_lt (sts rv sk (rV (I 60))) h0
  obtain ⟨I1, rd1, a1, a2, a3⟩ := f225o (d := d) (g := g) (I := I) (J := J) (sl := sl) (rd := rd) hd hV hB hC hs hN hn h0 hc hsk
  obtain ⟨k, hk, hI⟩ := hc _ hw
  generalize wn (sts rv sk (rV (I 60))) nd = i at *
  have hI : I 60 (6 + i) = nI k := hI
  have ew : I1 60 = I 60 := a1 60 (by decide)
  refine ⟨aR I1 60 (rRace (I 60) i k), rd1, k, hk, hI, aR_s _ _ _, ?_, ?_, ?_⟩
  · exact Fr_s (Fr_w a1 (by decide)) _ (by decide)
  · intro j hj; rw [aR_r _ _ (by decide)]; exact a2 j hj
  · show aE d 224 0 [.ref 46, .ref 60, aNo, aNo] [] _ = _
    have e1 (I : Nat → Nat → Int32) (v : Int32) (rd : Nat) : aF d 227 [.ref 60, .int (nI (1 - k)), .int v] (g, I, J, aP1 sl rd 57) = some (some none, (g, aR I 60 (adA (I 60) (1 - k) v), J, aP1 sl rd 57)) := f227_60 (by omega) v
    simp (disch := omega) only [b224_0, a3, b224_5, ew, hI, f226_60, aU_R, aR_s, aR_u, b224_39, nI_1m, e1, b224_47, f227_60, b224_53, aBi, aBv, aBl, nI_1, nIle_t, nIle_f, nIlt_t, nIlt_f, nIeq_t, nIeq_f, nIneg, nI_clamp, nat_le_f, nat_le_t, nat_lt_f, nat_lt_t, or_self, or_false, false_or, if_true, if_false, ↓reduceIte, Int32.or_zero, Int32.add_zero, nIm2, nIm3, nIm4, nIp2, nIp4, nIp6, nIp8, nIp14, nIp16, nIp22, nIp24, nIp30, nIq2, nIq3, nIq4, hasI_0, aU_s, aU_i, aU_r, aU_u]
    unfold rRace
    simp only
    have e6 : ∀ q, adA (adA (adM (upd (upd (I 60) (22 + i) (I 60 (22 + i) + 1)) (4 + k) q) k 10) (1 - k) 3) k (-1) 38 = I 60 38 := by
      intro q
      unfold adA adM
      rw [upd_n _ _ (by omega), upd_n _ _ (by omega), upd_n _ _ (by omega), upd_n _ _ (by omega), upd_n _ _ (by omega)]
    rw [e6]
