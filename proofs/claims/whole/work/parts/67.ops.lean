/-! kept states, the text, races: tied -/
variable {d : Nat} {g : Nat × Nat × Nat} {I : Nat → Nat → Int32} {J : Nat → Nat → Int64} {sl rd rl : Nat} {t n m q : Nat}
theorem ix2 (a : Int32) : (a < 0 ∨ 1 < a) ∨ ∃ k, k < 2 ∧ a = nI k := by
  rcases isC_ix a with h | h
  · exact Or.inl (isC_b h)
  · exact Or.inr h
theorem lt12 {a : Int32} : (1 < a) = (2 ≤ a) := by
  refine propext ⟨fun h => ?_, fun h => ?_⟩
  · rw [int_lt] at h; rw [int_le]; have : (1 : Int32).toInt = 1 := rfl; have : (2 : Int32).toInt = 2 := rfl; omega
  · rw [int_le] at h; rw [int_lt]; have : (1 : Int32).toInt = 1 := rfl; have : (2 : Int32).toInt = 2 := rfl; omega
theorem nb1 : vp_nar .boolean 1 = 1 := by decide
theorem nb0 : vp_nar .boolean 0 = 0 := by decide
theorem cpB_away (r f : Nat → Int32) {o n a : Nat} (h : ∀ k, k < a → o + n ≤ k ∨ k < o) {k : Nat} (hk : k < a) : cpB r f o n k = r k := cpB_out _ _ (by rcases h k hk with h | h; exact Or.inr h; exact Or.inl h)
theorem tie_keep (H : zInv t n m q I J) (a : Int32) : tie d 166 291 [.int a] t g I J sl rd := by
  rcases ix2 a with hx | ⟨i, hi, rfl⟩
  · refine tie_0 (rd2 := rd) (v := 0) H (Fr_r _ _) (th_F _) (th_46 _) ?_ ?_
    · show aE d 166 0 [.ref 6, .int a] [] _ = _
      rw [b166_0]
      rcases hx with hx | hx
      · rw [if_pos hx]
      · rw [if_neg (c := a < 2) (by rw [lt12, int_le] at hx; rw [int_lt]; omega), ite_self]
    · show aE d 291 0 [.ref 46, .int a] [] _ = _
      rw [b291_0, f181, inI_f hx]
      simp only [aBi]
      rw [b291_11, if_pos rfl]
  obtain ⟨c, c1, c2, c3⟩ := H.2.2.2.2.2.2.2.2.1
  have hS := H.2.2.2.2.2.2.1
  have e1 : aF d 166 [.ref 6, .int (nI i)] (g, I, J, aP1 sl rd 56) = some (some (some (.int 1)), (g, aR (aR I 31 (cpB (I 31) (I 24) (32 * i) 32)) 32 (upd (I 32) i 1), J, aP1 sl rd 56)) := by
    show aE d 166 0 [.ref 6, .int (nI i)] [] _ = _
    rw [b166_0, if_neg (nI_pos (by omega)), if_pos (show nI i < 2 from nI_lt (b := 2) hi (by decide)), f81_31 hi]
    simp only [aBv]
    rw [b166_23, nb1]
    simp (disch := omega) only [aU_R, aR_r, aBi, aBv, aBl, nI_1, nIle_t, nIle_f, nIlt_t, nIlt_f, nIeq_t, nIeq_f, nIneg, nI_clamp, nat_le_f, nat_le_t, nat_lt_f, nat_lt_t, or_self, or_false, false_or, if_true, if_false, ↓reduceIte, Int32.or_zero, Int32.add_zero, nIm2, nIm3, nIm4, nIp2, nIp4, nIp6, nIp8, nIp14, nIp16, nIp22, nIp24, nIp30, nIq2, nIq3, nIq4, hasI_0, aU_s, aU_i, aU_r, aU_u]
  generalize hI1 : aR (aR I 31 (cpB (I 31) (I 24) (32 * i) 32)) 32 (upd (I 32) i 1) = I1 at e1
  have F1 : Fr [31, 32] I I1 := by rw [← hI1]; exact Fr_s (Fr_s (Fr_r _ _) _ (by decide)) _ (by decide)
  have e2 : aF d 291 [.ref 46, .int (nI i)] (g, I1, J, aP1 sl rd 56) = some (some (some (.int 1)), (g, aR (aU (aU (aU I1 46 13 0) 65 i 1) 66 i (nI c)) 64 (cpB (I 64) (I 47) (39 * i) 39), J, aP1 sl rd 56)) := by
    show aE d 291 0 [.ref 46, .int (nI i)] [] _ = _
    rw [b291_0, f181, inI_C, isC_n hi]
    simp only [aBi]
    rw [b291_11, if_neg (by decide), nb1]
    simp (disch := omega) only [nIm39, f222_64, F1 46 (by decide), F1 64 (by decide), F1 47 (by decide), c2, b291_48, aBi, aBv, aBl, nI_1, nIle_t, nIle_f, nIlt_t, nIlt_f, nIeq_t, nIeq_f, nIneg, nI_clamp, nat_le_f, nat_le_t, nat_lt_f, nat_lt_t, or_self, or_false, false_or, if_true, if_false, ↓reduceIte, Int32.or_zero, Int32.add_zero, nIm2, nIm3, nIm4, nIp2, nIp4, nIp6, nIp8, nIp14, nIp16, nIp22, nIp24, nIp30, nIq2, nIq3, nIq4, hasI_0, aU_s, aU_i, aU_r, aU_u]
  refine ⟨1, I1, J, _, J, rd, n, m, q, e1, e2, zInv_up ?_, ?_⟩
  · have r := F1
    have r0 : ∀ a, a ∉ [31, 32] → I1 a = I a := F1
    have r31 : I1 31 = cpB (I 31) (I 24) (32 * i) 32 := by rw [← hI1, aR_r _ _ (by decide), aR_s]
    have r32 : I1 32 = upd (I 32) i 1 := by rw [← hI1, aR_s]
    obtain ⟨a1, a2, a3, a4, a5, a6, a7, a8, a9, b1, b2⟩ := H
    unfold zInv
    simp (disch := decide) only [aR_r, aR_s, aU_r, aU_i, r0, r31, r32, aU_R]
    refine ⟨a1, a2, a3, a4, a5, a6, a7, a8, ⟨c, c1, c2, fun j hj => ?_⟩, b1, b2⟩
    by_cases e : j = i
    · subst e
      rw [upd_s, upd_s, upd_s]
      refine ⟨Or.inr rfl, ⟨c, Nat.le_refl _, rfl⟩, ⟨fun _ => ⟨by decide, rfl⟩, fun _ => rfl⟩, fun _ => ?_⟩
      refine okS_congr a7 (fun k hk => ?_) (fun k hk => ?_)
      · rw [cpB_in _ _ (by omega) (by omega)]; congr 1; omega
      · rw [cpB_in _ _ (by omega) (by omega)]; congr 1; omega
    · rw [upd_n _ _ e, upd_n _ _ e, upd_n _ _ e]
      obtain ⟨k1, k2, k3, k4⟩ := c3 j hj
      refine ⟨k1, k2, k3, fun h => okS_congr (k4 h) (fun k hk => ?_) (fun k hk => ?_)⟩
      · rw [cpB_out _ _ (by omega)]
      · rw [cpB_out _ _ (by omega)]
  · simp (disch := decide) only [aR_r, aU_r]; exact F1 0 (by decide)
theorem tie_again (H : zInv t n m q I J) (a : Int32) : tie d 167 292 [.int a] t g I J sl rd := by
  rcases ix2 a with hx | ⟨i, hi, rfl⟩
  · refine tie_0 (rd2 := rd) (v := 0) H (Fr_r _ _) (th_F _) (th_46 _) ?_ ?_
    · show aE d 167 0 [.ref 6, .int a] [] _ = _
      rw [b167_0]
      rcases hx with hx | hx
      · rw [if_pos hx]
      · rw [if_pos (c := 2 ≤ a) (by rw [← lt12]; exact hx), ite_self]
    · show aE d 292 0 [.ref 46, .int a, aNo] [] _ = _
      rw [b292_0, f181, inI_f hx]
      simp only [aBi]
      rw [b292_11, if_pos rfl]
  obtain ⟨c, c1, c2, c3⟩ := H.2.2.2.2.2.2.2.2.1
  obtain ⟨k1, k2, k3, k4⟩ := c3 i hi
  have hS := H.2.2.2.2.2.2.1
  have R (I1 : Nat → Nat → Int32) (r46 : I1 46 = I 46) (r65 : I1 65 = I 65) (r66 : I1 66 = I 66) : aF d 292 [.ref 46, .int (nI i)] (g, I1, J, aP1 sl rd 56) = if I 65 i = 0 then some (some (some (.int 0)), (g, aU I1 46 13 0, J, aP1 sl rd 56)) else if I 66 i = nI c then aE d 292 40 [.ref 46, .int (nI i), .int 0] [] (g, aU I1 46 13 0, J, aP1 sl rd 56) else some (some (some (.int 0)), (g, aU I1 46 13 0, J, aP1 sl rd 56)) := by
    show aE d 292 0 [.ref 46, .int (nI i), aNo] [] _ = _
    rw [b292_0, f181, inI_C, isC_n hi]
    simp only [aBi]
    rw [b292_11, if_neg (by decide)]
    simp (disch := omega) only [r46, r65, r66, c2, aBi, aBv, aBl, nI_1, nIle_t, nIle_f, nIlt_t, nIlt_f, nIeq_t, nIeq_f, nIneg, nI_clamp, nat_le_f, nat_le_t, nat_lt_f, nat_lt_t, or_self, or_false, false_or, if_true, if_false, ↓reduceIte, Int32.or_zero, Int32.add_zero, nIm2, nIm3, nIm4, nIp2, nIp4, nIp6, nIp8, nIp14, nIp16, nIp22, nIp24, nIp30, nIq2, nIq3, nIq4, hasI_0, aU_s, aU_i, aU_r, aU_u]
  by_cases hk : I 32 i = 0
  · have hn : ¬ (¬ I 65 i = 0 ∧ I 66 i = nI c) := fun h => by
      have := k3.mpr h; rw [hk] at this; exact absurd this (by decide)
    refine tie_0 (rd2 := rd) (v := 0) H (Fr_r _ _) (th_F _) (th_46 _) ?_ ?_
    · show aE d 167 0 [.ref 6, .int (nI i)] [] _ = _
      rw [b167_0]
      simp (disch := omega) only [kgf2, kgt2, klt2, klf2, kmt2, kmf2, kat2, kaf2, ket2, kef2, hk, aBi, aBv, aBl, nI_1, nIle_t, nIle_f, nIlt_t, nIlt_f, nIeq_t, nIeq_f, nIneg, nI_clamp, nat_le_f, nat_le_t, nat_lt_f, nat_lt_t, or_self, or_false, false_or, if_true, if_false, ↓reduceIte, Int32.or_zero, Int32.add_zero, nIm2, nIm3, nIm4, nIp2, nIp4, nIp6, nIp8, nIp14, nIp16, nIp22, nIp24, nIp30, nIq2, nIq3, nIq4, hasI_0, aU_s, aU_i, aU_r, aU_u]
    · refine (R I rfl rfl rfl).trans ?_
      by_cases h : I 65 i = 0
      · rw [if_pos h]
      · rw [if_neg h, if_neg (fun e => hn ⟨h, e⟩)]
  have hk1 : I 32 i = 1 := k1.resolve_left hk
  obtain ⟨m1, m2⟩ := k3.mp hk1
  have hS2 := k4 hk1
  have e1 : aF d 167 [.ref 6, .int (nI i)] (g, I, J, aP1 sl rd 56) = some (some (some (.int 1)), (g, aR (aR I 24 (cpB (I 24) (fun k => I 31 (32 * i + k)) 0 32)) 29 (upd (I 29) 1 0), J, aP1 sl rd 56)) := by
    show aE d 167 0 [.ref 6, .int (nI i)] [] _ = _
    rw [b167_0]
    simp (disch := omega) only [kgf2, kgt2, klt2, klf2, kmt2, kmf2, kat2, kaf2, ket2, kef2, hk1, n10, f107_31 hi, b167_32, aBi, aBv, aBl, nI_1, nIle_t, nIle_f, nIlt_t, nIlt_f, nIeq_t, nIeq_f, nIneg, nI_clamp, nat_le_f, nat_le_t, nat_lt_f, nat_lt_t, or_self, or_false, false_or, if_true, if_false, ↓reduceIte, Int32.or_zero, Int32.add_zero, nIm2, nIm3, nIm4, nIp2, nIp4, nIp6, nIp8, nIp14, nIp16, nIp22, nIp24, nIp30, nIq2, nIq3, nIq4, hasI_0, aU_s, aU_i, aU_r, aU_u]
    rw [show ∀ I : Nat → Nat → Int32, aF d 54 [.ref 29] (g, I, J, aP1 sl rd 56) = some (some none, (g, aU I 29 1 0, J, aP1 sl rd 56)) from fun I => by
      show aE d 54 0 [.ref 29] [] _ = _
      rw [b54_0]]
    simp only
    rw [b167_39, aU_R, aR_r _ _ (by decide)]
  generalize hI1 : aR (aR I 24 (cpB (I 24) (fun k => I 31 (32 * i + k)) 0 32)) 29 (upd (I 29) 1 0) = I1 at e1
  have F1 : Fr [24, 29] I I1 := by rw [← hI1]; exact Fr_s (Fr_s (Fr_r _ _) _ (by decide)) _ (by decide)
  have r47 := F1 47 (by decide)
  have r64 := F1 64 (by decide)
  have l : ∀ k j, j + k = 39 → aE d 292 40 [.ref 46, .int (nI i), .int (nI j)] [] (g, aR (aU I1 46 13 0) 47 (cpB (I 47) (fun k => I 64 (39 * i + k)) 0 j), J, aP1 sl rd 56) = some (some (some (.int 1)), (g, aU (aR (aU I1 46 13 0) 47 (cpB (I 47) (fun k => I 64 (39 * i + k)) 0 39)) 46 26 0, J, aP1 sl rd 56)) := by
    intro k
    induction k with
    | zero =>
      intro j hj; obtain rfl : j = 39 := by omega
      rw [b292_40]
      simp (disch := omega) only [kgf39, kgt39, klt39, klf39, kmt39, kmf39, kat39, kaf39, ket39, kef39, aBi, aBv, aBl, nI_1, nIle_t, nIle_f, nIlt_t, nIlt_f, nIeq_t, nIeq_f, nIneg, nI_clamp, nat_le_f, nat_le_t, nat_lt_f, nat_lt_t, or_self, or_false, false_or, if_true, if_false, ↓reduceIte, Int32.or_zero, Int32.add_zero, nIm2, nIm3, nIm4, nIp2, nIp4, nIp6, nIp8, nIp14, nIp16, nIp22, nIp24, nIp30, nIq2, nIq3, nIq4, hasI_0, aU_s, aU_i, aU_r, aU_u]
    | succ k ih =>
      intro j hj
      have e64 : aU I1 46 13 0 64 = I 64 := by rw [aU_r _ _ (by decide), r64]
      rw [b292_40]
      simp (disch := omega) only [aR_r, e64, nIm39, nI_add, kgf39, nI_1, nI_clamp, nIneg, nat_le_f, or_self, if_false]
      rw [aU_R, aR_s, aR_u, show upd (cpB (I 47) (fun k => I 64 (39 * i + k)) 0 j) j (I 64 (39 * i + j)) = cpB (I 47) (fun k => I 64 (39 * i + k)) 0 (j + 1) from by
        have := cpB_1 (I 47) (fun k => I 64 (39 * i + k)) 0 j
        rw [Nat.zero_add] at this; exact this]
      exact ih (j + 1) (by omega)
  have e2 : aF d 292 [.ref 46, .int (nI i)] (g, I1, J, aP1 sl rd 56) = some (some (some (.int 1)), (g, aU (aR (aU I1 46 13 0) 47 (cpB (I 47) (fun k => I 64 (39 * i + k)) 0 39)) 46 26 0, J, aP1 sl rd 56)) := by
    rw [R I1 (F1 46 (by decide)) (F1 65 (by decide)) (F1 66 (by decide)), if_neg m1, if_pos m2]
    have l0 := l 39 0 rfl
    rw [cpB_0, show aR (aU I1 46 13 0) 47 (I 47) = aU I1 46 13 0 from by
      rw [show I 47 = aU I1 46 13 0 47 from by rw [aU_r _ _ (by decide), r47]]
      exact aR_i _ _] at l0
    exact l0
  generalize hI2 : aU (aR (aU I1 46 13 0) 47 (cpB (I 47) (fun k => I 64 (39 * i + k)) 0 39)) 46 26 0 = I2 at e2
  have F2 : Fr [46, 47] I1 I2 := by
    rw [← hI2, aU_R, aU_R]; exact Fr_s (Fr_s (Fr_s (Fr_r _ _) _ (by decide)) _ (by decide)) _ (by decide)
  have F3 : F46 [13, 26] I1 I2 := by
    intro j hj
    have hj : j ≠ 13 ∧ j ≠ 26 := by simpa using hj
    rw [← hI2, aU_i _ _ hj.2, aR_r _ _ (by decide), aU_i _ _ hj.1]
  obtain ⟨u, x, u1, u2, u3, u4, u5, u6⟩ := zU_get H
  refine ⟨1, I1, J, I2, J, rd, n, m, q, e1, e2, zInv_up (zInv_N H (Fr_t (Fr_w F1 (by decide)) (Fr_w F2 (by decide))) (F46_t (F46_f F1 (by decide)) (F46_w F3 (by decide))) ?_ ?_ ?_), (F2 0 (by decide)).trans (F1 0 (by decide))⟩
  · rw [F2 12 (by decide), F1 12 (by decide), F3 12 (by decide), F1 46 (by decide)]; exact H.2.1
  · rw [F2 24 (by decide), ← hI2, aU_r _ _ (by decide), aR_s, ← hI1, aR_r _ _ (by decide), aR_s]
    refine okS_congr hS2 (fun i hi => ?_) (fun i hi => ?_)
    · rw [cpB_in _ _ (by omega) (by omega)]; simp only [Nat.sub_zero]
    · rw [cpB_in _ _ (by omega) (by omega)]; simp only [Nat.sub_zero]
  · rw [F2 29 (by decide), F2 30 (by decide), F1 30 (by decide), F2 58 (by decide), F1 58 (by decide), ← hI2, aU_s, ← hI1, aR_s, upd_s, upd_n _ _ (by decide), u3]
    exact ⟨0, x, rfl, rfl, rfl, okU_0 u6⟩
/-! the text -/
theorem bp_b (x : Int32) : x.toInt8.toInt32 &&& 255 = x &&& 255 := by
  apply Int32.toBitVec_inj.mp
  rw [Int32.toBitVec_and, Int32.toBitVec_and, Int8.toBitVec_toInt32, Int32.toBitVec_toInt8]
  apply BitVec.eq_of_getLsbD_eq
  intro i hi
  rw [BitVec.getLsbD_and, BitVec.getLsbD_and]
  have hm : ∀ i < 32, 8 ≤ i → (255 : Int32).toBitVec.getLsbD i = false := by decide
  rcases Nat.lt_or_ge i 8 with z | z
  · rw [BitVec.getLsbD_signExtend, BitVec.getLsbD_signExtend, if_pos z, if_pos hi]
    simp only [z, hi, decide_true, Bool.true_and]
  · rw [hm i hi z, Bool.and_false, Bool.and_false]
theorem chN : ∀ n, n < 256 → vp_nar .char (UInt32.toInt32 (Int32.toUInt32 (nI n) % 65536)) = nI n := by decide +kernel
theorem by8 : ∀ n, n < 256 → ((Int8.ofNat n).toInt32 &&& 255) < 128 → (Int8.ofNat n).toInt32 &&& 255 = (Int8.ofNat n).toInt32 := by decide +kernel
theorem by_ok (b : Int8) (h : (b.toInt32 &&& 255) < 128) : b.toInt32 &&& 255 = b.toInt32 := by
  have e : Int8.ofNat b.toBitVec.toNat = b := by
    apply Int8.toBitVec_inj.mp
    apply BitVec.eq_of_toNat_eq
    show (BitVec.ofNat 8 _).toNat = _
    rw [BitVec.toNat_ofNat]
    exact Nat.mod_eq_of_lt b.toBitVec.isLt
  have k := by8 b.toBitVec.toNat b.toBitVec.isLt
  rw [e] at k
  exact k h
def cSg (v s : Int32) : Int32 := vp_nar .char (UInt32.toInt32 (Int32.toUInt32 ((v.toUInt32 >>> (Int32.toUInt32 s &&& Int32.toUInt32 31)).toInt32 &&& 255) % 65536))
def rSg (v k : Int32) : Int32 := vp_nar .byte (Int8.toInt32 (Int32.toInt8 (v >>> ((8 * k) &&& 31))))
theorem sg_eq (v : Int32) {j : Nat} (hj : j < 4) : cSg v (nI (8 * j)) = rSg v (nI j) &&& 255 := by
  have e : ((v.toUInt32 >>> (Int32.toUInt32 (nI (8 * j)) &&& Int32.toUInt32 31)).toInt32 &&& 255) = (v >>> (nI (8 * j) &&& 31)) &&& 255 := by
    refine b_ext (fun i hi => ?_)
    rw [b_and, b_and, b_ushr _ (by omega), b_sshr _ (by omega) v hi, b_255]
    by_cases h : i < 8
    · rw [if_pos (by omega)]
    · simp only [h, decide_false, Bool.and_false]
  unfold cSg rSg
  rw [pk_vb, bp_b, show (8 : Int32) * nI j = nI (8 * j) from pk_mul 8 j, e]
  obtain ⟨k, hk, e2⟩ := pk_andE (v >>> (nI (8 * j) &&& 31)) (m := 255) 8 (by decide)
  rw [e2, chN k hk]
theorem rSg_ok (v k : Int32) (h : (rSg v k &&& 255) < 128) : rSg v k &&& 255 = rSg v k := by
  unfold rSg at *
  rw [pk_vb] at *
  exact by_ok _ h
theorem f26 {k : Nat} (h : I 7 1 = nI k) (hk : k < 80) (x : Int32) : aF d 26 [.ref 7, .int x] (g, I, J, aP1 sl rd rl) = some (some none, (g, aR (aR I 8 (upd (I 8) k (vp_nar .char x))) 7 (upd (I 7) 1 (nI (k + 1))), J, aP1 sl rd rl)) := by
  show aE d 26 0 [.ref 7, .int x] [] _ = _
  simp (disch := omega) only [b26_0, h, kgf80, kgt80, klt80, klf80, kmt80, kmf80, kat80, kaf80, ket80, kef80, aU_R, aR_r, aBi, aBv, aBl, nI_1, nIle_t, nIle_f, nIlt_t, nIlt_f, nIeq_t, nIeq_f, nIneg, nI_clamp, nat_le_f, nat_le_t, nat_lt_f, nat_lt_t, or_self, or_false, false_or, if_true, if_false, ↓reduceIte, Int32.or_zero, Int32.add_zero, nIm2, nIm3, nIm4, nIp2, nIp4, nIp6, nIp8, nIp14, nIp16, nIp22, nIp24, nIp30, nIq2, nIq3, nIq4, hasI_0, aU_s, aU_i, aU_r, aU_u]
def up4 (r : Nat → Int32) (k : Nat) (a b c e : Int32) : Nat → Int32 := upd (upd (upd (upd r k a) (k + 1) b) (k + 2) c) (k + 3) e
theorem f44 {k : Nat} (h : I 7 1 = nI k) (hk : k + 4 ≤ 80) (v : Int32) : aF d 44 [.ref 7, .int v] (g, I, J, aP1 sl rd rl) = some (some (some (.int (nI (k + 4)))), (g, aR (aR I 8 (up4 (I 8) k (cSg v 24) (cSg v 16) (cSg v 8) (cSg v 0))) 7 (upd (I 7) 1 (nI (k + 4))), J, aP1 sl rd rl)) := by
  show aE d 44 0 [.ref 7, .int v, aNo] [] _ = _
  rw [b44_0, h, if_pos (show nI k + 4 ≤ 80 from by rw [show nI k + 4 = nI (k + 4) from nI_add k 4]; exact nI_le (b := 80) hk (by decide))]
  have st : ∀ (s : Int32) (j : Nat) (r8 : Nat → Int32) (hs : ¬ s < 0), j < 80 → aE d 44 19 [.ref 7, .int v, .int s] [] (g, aR (aR I 8 r8) 7 (upd (I 7) 1 (nI j)), J, aP1 sl rd rl) = aE d 44 19 [.ref 7, .int v, .int (s + (-8))] [] (g, aR (aR I 8 (upd r8 j (cSg v s))) 7 (upd (I 7) 1 (nI (j + 1))), J, aP1 sl rd rl) := by
    intro s j r8 hs hj
    rw [b44_19, if_neg hs, f26 (k := j) (by rw [aR_s, upd_s]) hj]
    simp only [aBv]
    rw [b44_35, aR_s, upd_u, aR_r _ _ (show 8 ≠ 7 by decide), aR_s, aR_c (aR I 8 r8) _ _ (show 7 ≠ 8 by decide), aR_u, aR_u]
    rfl
  have s0 := st 24 k (I 8) (by decide) (by omega)
  rw [show aR (aR I 8 (I 8)) 7 (upd (I 7) 1 (nI k)) = I from by
    rw [aR_i, show upd (I 7) 1 (nI k) = I 7 from by
      funext j; unfold upd; split
      · rename_i e; rw [e]; exact h.symm
      · rfl]
    exact aR_i _ _] at s0
  rw [s0, show (24 : Int32) + (-8) = 16 by decide, st 16 _ _ (by decide) (by omega), show (16 : Int32) + (-8) = 8 by decide, st 8 _ _ (by decide) (by omega), show (8 : Int32) + (-8) = 0 by decide, st 0 _ _ (by decide) (by omega), show (0 : Int32) + (-8) = -8 by decide, b44_19, if_pos (by decide), aR_s, upd_s]
  rfl
theorem f179 {k : Nat} (h : I 46 10 = nI k) (hk : k + 4 ≤ 80) (v : Int32) : aF d 179 [.ref 46, .int v] (g, I, J, aP1 sl rd rl) = some (some (some (.int (nI (k + 4)))), (g, aR (aR I 52 (up4 (I 52) k (rSg v 3) (rSg v 2) (rSg v 1) (rSg v 0))) 46 (upd (upd (I 46) 13 0) 10 (nI (k + 4))), J, aP1 sl rd rl)) := by
  show aE d 179 0 [.ref 46, .int v, aNo] [] _ = _
  rw [b179_0, h, if_pos (show nI k + 4 ≤ 80 from by rw [show nI k + 4 = nI (k + 4) from nI_add k 4]; exact nI_le (b := 80) hk (by decide))]
  have st : ∀ (s : Int32) (j : Nat) (r8 : Nat → Int32) (hs : ¬ s < 0), j < 80 → aE d 179 20 [.ref 46, .int v, .int s] [] (g, aR (aR I 52 r8) 46 (upd (upd (I 46) 13 0) 10 (nI j)), J, aP1 sl rd rl) = aE d 179 20 [.ref 46, .int v, .int (s + (-1))] [] (g, aR (aR I 52 (upd r8 j (rSg v s))) 46 (upd (upd (I 46) 13 0) 10 (nI (j + 1))), J, aP1 sl rd rl) := by
    intro s j r8 hs hj
    rw [b179_20, if_neg hs]
    simp only [aR_s, upd_s]
    simp (disch := omega) only [aBi, aBv, aBl, nI_1, nIle_t, nIle_f, nIlt_t, nIlt_f, nIeq_t, nIeq_f, nIneg, nI_clamp, nat_le_f, nat_le_t, nat_lt_f, nat_lt_t, or_self, or_false, false_or, if_true, if_false, ↓reduceIte, Int32.or_zero, Int32.add_zero, nIm2, nIm3, nIm4, nIp2, nIp4, nIp6, nIp8, nIp14, nIp16, nIp22, nIp24, nIp30, nIq2, nIq3, nIq4, hasI_0, aU_s, aU_i, aU_r, aU_u]
    rw [aU_R, aU_R, aR_s, upd_u, aR_u, aR_r _ _ (show 52 ≠ 46 by decide), aR_s, aR_c (aR I 52 r8) _ _ (show 46 ≠ 52 by decide), aR_u]
    rfl
  have s0 := st 3 k (I 52) (by decide) (by omega)
  rw [show aR (aR I 52 (I 52)) 46 (upd (upd (I 46) 13 0) 10 (nI k)) = aU I 46 13 0 from by
    rw [aR_i, aU_R, show upd (upd (I 46) 13 0) 10 (nI k) = upd (I 46) 13 0 from by
      funext j; unfold upd; split
      · rename_i e; rw [e, if_neg (by decide)]; exact h.symm
      · rfl]] at s0
  rw [s0, show (3 : Int32) + (-1) = 2 by decide, st 2 _ _ (by decide) (by omega), show (2 : Int32) + (-1) = 1 by decide, st 1 _ _ (by decide) (by omega), show (1 : Int32) + (-1) = 0 by decide, st 0 _ _ (by decide) (by omega), show (0 : Int32) + (-1) = -1 by decide, b179_20, if_pos (by decide), aR_s, upd_s]
  rfl
theorem byR_upd {r : Nat → Int32} {k : Nat} {x : Int32} (h : byR r) (hx : (x &&& 255) < 128 → x &&& 255 = x) : byR (upd r k x) := fun j => by
  by_cases e : j = k
  · subst e; rw [upd_s]; exact hx
  · rw [upd_n _ _ e]; exact h j
theorem up4_in (r : Nat → Int32) (k : Nat) (a b c e : Int32) (i : Nat) : up4 r k a b c e i = if i = k + 3 then e else if i = k + 2 then c else if i = k + 1 then b else if i = k then a else r i := rfl
theorem tie_sign (H : zInv t n m q I J) (v : Int32) : tie d 43 179 [.int v] t g I J sl rd := by
  obtain ⟨k, h1, h2, h3, h4, h5⟩ := H.1
  by_cases hk : k + 4 ≤ 80
  · have e1 : aF d 43 [.ref 6, .int v] (g, I, J, aP1 sl rd 56) = some (some (some (.int (nI (k + 4)))), (g, aR (aR I 8 (up4 (I 8) k (cSg v 24) (cSg v 16) (cSg v 8) (cSg v 0))) 7 (upd (I 7) 1 (nI (k + 4))), J, aP1 sl rd 56)) := by
      show aE d 43 0 [.ref 6, .int v] [] _ = _
      rw [b43_0, f44 h2 hk]
      simp only [aBi]
      rw [b43_8]
    generalize hI1 : aR (aR I 8 (up4 (I 8) k (cSg v 24) (cSg v 16) (cSg v 8) (cSg v 0))) 7 (upd (I 7) 1 (nI (k + 4))) = I1 at e1
    have F1 : ∀ a, a ∉ [7, 8] → I1 a = I a := by rw [← hI1]; exact Fr_s (Fr_s (Fr_r _ _) _ (by decide)) _ (by decide)
    have r7 : I1 7 1 = nI (k + 4) := by rw [← hI1, aR_s, upd_s]
    have r8 : I1 8 = up4 (I 8) k (cSg v 24) (cSg v 16) (cSg v 8) (cSg v 0) := by rw [← hI1, aR_r _ _ (by decide), aR_s]
    have e2 := f179 (d := d) (g := g) (I := I1) (J := J) (sl := sl) (rd := rd) (rl := 56) (k := k) (by rw [F1 46 (by decide)]; exact h3) hk v
    refine ⟨_, I1, J, _, J, rd, n, m, q, e1, e2, zInv_up ?_, by simp (disch := decide) only [aR_r]; exact F1 0 (by decide)⟩
    obtain ⟨a1, a2, a3, a4, a5, a6, a7, a8, a9, b1, b2⟩ := H
    unfold zInv
    simp (disch := decide) only [aR_r, aR_s, F1, r7, r8, upd_s, upd_n]
    refine ⟨⟨k + 4, hk, rfl, rfl, fun i hi => ?_, byR_upd (byR_upd (byR_upd (byR_upd h5 (rSg_ok _ _)) (rSg_ok _ _)) (rSg_ok _ _)) (rSg_ok _ _)⟩, a2, a3, a4, a5, a6, a7, a8, a9, b1, b2⟩
    · rw [up4_in, up4_in]
      by_cases q3 : i = k + 3
      · rw [if_pos q3, if_pos q3]; exact sg_eq v (j := 0) (by decide)
      · rw [if_neg q3, if_neg q3]
        by_cases q2 : i = k + 2
        · rw [if_pos q2, if_pos q2]; exact sg_eq v (j := 1) (by decide)
        · rw [if_neg q2, if_neg q2]
          by_cases q1 : i = k + 1
          · rw [if_pos q1, if_pos q1]; exact sg_eq v (j := 2) (by decide)
          · rw [if_neg q1, if_neg q1]
            by_cases q0 : i = k
            · rw [if_pos q0, if_pos q0]; exact sg_eq v (j := 3) (by decide)
            · rw [if_neg q0, if_neg q0]; exact h4 i (by omega)
  · refine tie_0 (rd2 := rd) (v := -1) H (Fr_r _ _) (th_F _) (th_46 _) ?_ ?_
    · show aE d 43 0 [.ref 6, .int v] [] _ = _
      rw [b43_0, show aF d 44 [.ref 7, .int v] (g, I, J, aP1 sl rd 56) = some (some (some (.int (-1))), (g, I, J, aP1 sl rd 56)) from by
        show aE d 44 0 [.ref 7, .int v, aNo] [] _ = _
        rw [b44_0, h2, if_neg (show ¬ nI k + 4 ≤ 80 from by rw [show nI k + 4 = nI (k + 4) from nI_add k 4]; exact nI_ge (a := 80) (by omega) (by omega))]]
      simp only [aBi]
      rw [b43_8]
    · show aE d 179 0 [.ref 46, .int v, aNo] [] _ = _
      rw [b179_0, h3, if_neg (show ¬ nI k + 4 ≤ 80 from by rw [show nI k + 4 = nI (k + 4) from nI_add k 4]; exact nI_ge (a := 80) (by omega) (by omega))]
theorem f42 (x : Int32) : aF d 42 [.ref 7, .int x] (g, I, J, aP1 sl rd rl) = if x < 0 ∨ I 7 1 < x then some (some (some (.int (0))), (g, I, J, aP1 sl rd rl)) else some (some (some (.int 1)), (g, aU I 7 1 x, J, aP1 sl rd rl)) := by
  show aE d 42 0 [.ref 7, .int x] [] _ = _
  rw [b42_0]
  by_cases h1 : x < 0
  · rw [if_pos h1, if_pos (Or.inl h1)]
  · rw [if_neg h1]
    by_cases h2 : x ≤ I 7 1
    · rw [if_pos h2, if_neg (fun h => by
        rcases h with h | h
        · exact h1 h
        · rw [← nle_lt] at h; exact h h2)]
    · rw [if_neg h2, if_pos (Or.inr (by rw [← nle_lt]; exact h2))]
theorem tie_end (H : zInv t n m q I J) (v : Int32) : tie d 45 180 [.int v] t g I J sl rd := by
  obtain ⟨k, h1, h2, h3, h4, h5⟩ := H.1
  by_cases hx : v < 0 ∨ nI k < v
  · refine tie_0 (rd2 := rd) (v := 0) H (Fr_r _ _) (th_F _) (th_46 _) ?_ ?_
    · show aE d 45 0 [.ref 6, .int v] [] _ = _
      rw [b45_0, f42, h2, if_pos hx]
      simp only [aBi]
      rw [b45_8, if_pos (show narrow .boolean (.int 0) = .int 0 from rfl)]
    · show aE d 180 0 [.ref 46, .int v] [] _ = _
      rw [b180_0, f181, h3, inI_f hx]
      simp only [aBi]
      rw [b180_14, if_pos rfl]
  · obtain ⟨j, hj, rfl⟩ : ∃ j, j ≤ k ∧ v = nI j := nI_of2 (M := nI k) (nI_toInt (by omega)) (fun h => hx (Or.inl h)) (Classical.byContradiction fun h => hx (Or.inr (by rw [← nle_lt]; exact h)))
    refine ⟨1, aU I 7 1 (nI j), J, aU (aU (aU I 7 1 (nI j)) 46 13 0) 46 10 (nI j), J, rd, n, m, q, ?_, ?_, zInv_up ?_, by simp (disch := decide) only [aU_r]⟩
    · show aE d 45 0 [.ref 6, .int (nI j)] [] _ = _
      rw [b45_0, f42, h2, if_neg hx]
      simp only [aBi]
      rw [b45_8, if_pos (show narrow .boolean (.int 1) = .int 1 from rfl)]
    · show aE d 180 0 [.ref 46, .int (nI j)] [] _ = _
      rw [b180_0, f181, aU_r _ _ (by decide), h3, inI_t (fun h => hx (Or.inl h)) (fun h => hx (Or.inr h))]
      simp only [aBi]
      rw [b180_14, if_neg (by decide)]
    · obtain ⟨a1, a2, a3, a4, a5, a6, a7, a8, a9, b1, b2⟩ := H
      unfold zInv
      simp (disch := decide) only [aU_r, aU_i, aU_s]
      exact ⟨⟨j, by omega, rfl, rfl, fun i hi => h4 i (by omega), h5⟩, a2, a3, a4, a5, a6, a7, a8, a9, b1, b2⟩
