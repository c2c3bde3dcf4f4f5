/-! rule: tied -/
variable {d : Nat} {g : Nat × Nat × Nat} {I : Nat → Nat → Int32} {J : Nat → Nat → Int64} {sl rd rl : Nat} {t n m q : Nat}
theorem zInv_V {I' : Nat → Nat → Int32} {J' : Nat → Nat → Int64} (H : zInv t n m q I J) (h : Fr (7 :: 8 :: 12 :: 33 :: 34 :: 55 :: scr) I I') (h2 : F46 (10 :: 12 :: 22 :: scf) I I') (hT : I' 7 1 = 0) (hT2 : I' 46 10 = 0) (hR : zR (I' 12 1) (I' 46 12) (J' 13) (J' 53)) (hV : zV (I' 33 1) (I' 46 22) (I' 34) (I' 55)) : zInv t n m q I' J' := by
  obtain ⟨a1, a2, a3, a4, a5, a6, a7, a8, a9, b1, b2⟩ := H
  obtain ⟨k, c1, c2, c3, c4, c5⟩ := a1
  refine ⟨⟨0, by decide, hT, hT2, fun i hi => by omega, by rw [h 52 (by decide)]; exact c5⟩, hR, ?_, ?_, ?_, ?_, ?_, ?_, ?_, hV, ?_⟩
  · rw [h 14 (by decide), h2 1 (by decide), h 15 (by decide), h 16 (by decide), h 48 (by decide), h 49 (by decide)]; exact a3
  · rw [h 14 (by decide), h2 4 (by decide), h 18 (by decide), h 19 (by decide), h 20 (by decide), h 21 (by decide), h 50 (by decide)]; exact a4
  · rw [h 14 (by decide), h2 6 (by decide), h 22 (by decide), h 51 (by decide)]; exact a5
  · rw [h 14 (by decide), h2 8 (by decide)]; exact a6
  · rw [h 24 (by decide), h 47 (by decide)]; exact a7
  · rw [h 29 (by decide), h2 26 (by decide), h 30 (by decide), h 58 (by decide)]; exact a8
  · rw [h2 37 (by decide), h 31 (by decide), h 32 (by decide), h 64 (by decide), h 65 (by decide), h 66 (by decide)]; exact a9
  · rw [h 42 (by decide), h2 35 (by decide), h 43 (by decide), h 44 (by decide), h 62 (by decide), h 63 (by decide)]; exact b2
theorem m1_0 {w : Int32} (h : ¬ w = -1) : ¬ -1 - w = 0 := fun e => h (by
  have z : (-1 : Int32) - w + w = 0 + w := by rw [e]
  rw [Int32.sub_add_cancel, Int32.zero_add] at z
  exact z.symm)
theorem cde_cp {r r' : Nat → Int32} {c : List Int32} (hl : c.length ≤ 40) (h : cde r c) : cde (cpB r' (fun k => r (0 + k)) 0 40) c := by
  intro i x hx
  have hlt := (List.getElem?_eq_some_iff.mp hx).1
  rw [cpB_in _ _ (by omega) (by omega)]
  show r (0 + (i - 0)) = x
  rw [Nat.zero_add, Nat.sub_zero]
  exact h i x hx
/-- the text as the rule's row has it -/
def txR (r s : Nat → Int32) (k : Nat) : Nat → Int32 := fun i => if i < k then Int8.toInt32 (Int32.toInt8 (s i)) else r i
theorem txR_s (r s : Nat → Int32) (k : Nat) : upd (txR r s k) k (vp_nar .byte (s k)) = txR r s (k + 1) := by
  funext i
  by_cases e : i = k
  · subst e; rw [upd_s, vp_nar_byte]; unfold txR; rw [if_pos (Nat.lt_succ_self _)]
  · rw [upd_n _ _ e]
    unfold txR
    by_cases h : i < k
    · rw [if_pos h, if_pos (by omega)]
    · rw [if_neg h, if_neg (by omega)]
theorem txR_0 (r s : Nat → Int32) : txR r s 0 = r := by
  funext i; unfold txR; rw [if_neg (by omega)]
theorem txR_sg (r s : Nat → Int32) (len : Nat) : sgn (txR r s len) len 40 = sgn s len 40 := by
  funext a
  unfold sgn
  by_cases h : a < len ∧ a < 40
  · rw [if_pos h, if_pos h]
    unfold txR
    rw [if_pos h.1, bp_b]
  · rw [if_neg h, if_neg h]
theorem txR_by {r : Nat → Int32} (h : byR r) (s : Nat → Int32) (len : Nat) : byR (txR r s len) := by
  intro k hk
  unfold txR at hk ⊢
  by_cases q : k < len
  · rw [if_pos q] at hk ⊢
    exact by_ok _ hk
  · rw [if_neg q] at hk ⊢
    exact h k hk
theorem l198 {len : Nat} (hl : len ≤ 40) (I0 : Nat → Nat → Int32) : aE d 198 26 [.ref 46, .int (nI len), .int 0] [] (g, I0, J, aP1 sl 53 56) = some (some (some (.int 0)), (g, aU (aR I0 55 (txR (I0 55) (I0 52) len)) 46 22 (nI len), J, aP1 sl 53 56)) := by
  have lp : ∀ (M j : Nat), j + M = len → aE d 198 26 [.ref 46, .int (nI len), .int (nI j)] [] (g, aR I0 55 (txR (I0 55) (I0 52) j), J, aP1 sl 53 56) = some (some (some (.int 0)), (g, aU (aR I0 55 (txR (I0 55) (I0 52) len)) 46 22 (nI len), J, aP1 sl 53 56)) := by
    intro M
    induction M with
    | zero =>
      intro j hj
      obtain rfl : j = len := by omega
      rw [b198_26_r5356, if_pos (Int32.le_refl _)]
    | succ M ih =>
      intro j hj
      rw [b198_26_r5356, if_neg (nI_ge (by omega) (by omega)), nI_clamp (by omega), if_neg (by rintro (q | q); exact nI_pos (by omega) q; omega), if_neg (t40 (by omega)), aR_r _ _ (show 52 ≠ 55 by decide), aU_R, aR_s, aR_u, txR_s, nI_1]
      exact ih (j + 1) (by omega)
  have := lp len 0 (by omega)
  rw [txR_0, aR_id] at this
  exact this
theorem tie_rule (hd : 41 ≤ d) (h3 : ∀ j, j < 17 → I 3 j = aStd.getD j 0) (h4 : ∀ j, j < 8 → I 4 j = aThg.getD j 0) (H : zInv t n m q I J) : tie d 57 198 [] t g I J sl rd := by
  obtain ⟨len, l1, l2, l3, l4, l5⟩ := H.1
  have hRz := H.2.1
  obtain ⟨mm, kk, rv0, v1, v2, v3, v4, v5⟩ := H.2.2.2.2.2.2.2.2.2.1
  have e58 : ∀ I1 : Nat → Nat → Int32, aF d 58 [.ref 33, .ref 37] (g, I1, J, aP1 sl rd 56) = some (some none, (g, aU (aCpI I1 38 0 34 0 40) 33 1 (I1 37 1), J, aP1 sl rd 56)) := fun I1 => b58_0 ..
  -- the reference, behind the class
  have R : ∀ I1 : Nat → Nat → Int32, Fr [7, 8, 9, 10, 11, 33, 34, 37, 38] I I1 → ∃ p', p'.2 = (if len = 0 then -1 else rW (pc (sgn (I 52) len 40) 300 0 0 [] (0, -1)).2 len) ∧ aF d 198 [.ref 46] (g, I1, J, aP1 sl rd 56) = aE d 198 14 [.ref 46, .int (nI len), aNo] [.int (tI (decide (p'.2 = -1)))] (g, pM (aU (bgn I1 len 40) 46 23 0) p', J, aP1 sl 53 56) := by
    intro I1 F
    obtain ⟨p', y1, y2⟩ := f199 (d := d) (g := g) (I := I1) (J := J) (sl := sl) (rd := rd) (len := len) hd (by rw [F 46 (by decide)]; exact l3) l1 (by rw [F 52 (by decide)]; exact l5)
    rw [F 52 (by decide)] at y1 y2
    rw [← y1] at y2
    refine ⟨p', y1, ?_⟩
    show aE d 198 0 [.ref 46, aNo, aNo] [] _ = _
    rw [b198_0, y2, F 46 (by decide), l3]
    rfl
  have B : ∀ (I1 : Nat → Nat → Int32) (p' : Nat × Int32), Fr [46] I1 (pM (aU (bgn I1 len 40) 46 23 0) p') ∧ F46 (10 :: scf) I1 (pM (aU (bgn I1 len 40) 46 23 0) p') ∧ pM (aU (bgn I1 len 40) 46 23 0) p' 46 10 = 0 := by
    intro I1 p'
    refine ⟨?_, ?_, ?_⟩
    · unfold pM
      rw [aU_R]
      exact Fr_s (Fr_s (bgn_F I1 len 40) _ (by decide)) _ (by decide)
    · intro k hk
      rw [pM_o _ _ (fun e => hk (by rw [e]; decide)) (fun e => hk (by rw [e]; decide)), aU_i _ _ (fun e => hk (by rw [e]; decide))]
      exact bgn_46 I1 len 40 k hk
    · rw [pM_o _ _ (by decide) (by decide), aU_i _ _ (by decide), bgn_10]
  -- a rule that is taken
  have yes : ∀ (I' : Nat → Nat → Int32) (c : List Int32) (rv : (Nat → Int32) → Int32), Fr [7, 8, 9, 10, 11, 37, 38] I I' → I' 7 1 = 0 → c.length ≤ 40 → I' 37 1 = nI c.length → cde (I' 38) c → aF d 24 [.ref 6, .ref 37] (g, I, J, aP1 sl rd 56) = some (some (some (.int 0)), (g, I', J, aP1 sl rd 56)) → (if len = 0 then -1 else rW (pc (sgn (I 52) len 40) 300 0 0 [] (0, -1)).2 len) = -1 → len ≤ 40 → (∀ t, ev t c [] = [rv t]) → (∀ r, r = txR (I 55) (I 52) len → rRule r len rv) → tie d 57 198 [] t g I J sl rd := by
    intro I' c rv F q7 hc c37 c38 e24 hw hl40 hev hrr
    generalize hI1 : aU (aCpI I' 38 0 34 0 40) 33 1 (I' 37 1) = I1
    have F1 : Fr [7, 8, 9, 10, 11, 33, 34, 37, 38] I I1 := by
      rw [← hI1, aCp_R, aU_R]
      exact Fr_s (Fr_s (Fr_w F (by decide)) _ (by decide)) _ (by decide)
    have e1 : aF d 57 [.ref 6] (g, I, J, aP1 sl rd 56) = some (some (some (.int 0)), (g, I1, J, aP1 sl rd 56)) := by
      show aE d 57 0 [.ref 6, aNo] [] _ = _
      rw [b57_0, e24]
      simp only [aBi]
      rw [b57_8, if_pos rfl, e58, hI1]
      simp only [aBv]
      rw [b57_24]
    obtain ⟨p', y1, y2⟩ := R I1 F1
    obtain ⟨u1, u2, u3⟩ := B I1 p'
    generalize hIa : pM (aU (bgn I1 len 40) 46 23 0) p' = Ia at y2 u1 u2 u3
    have e2 : aF d 198 [.ref 46] (g, I1, J, aP1 sl rd 56) = some (some (some (.int 0)), (g, aU (aR Ia 55 (txR (Ia 55) (Ia 52) len)) 46 22 (nI len), J, aP1 sl 53 56)) := by
      rw [y2, y1, decide_eq_true hw, b198_14, if_neg (by decide)]
      exact l198 hl40 Ia
    have kp : ∀ a, a ∉ [46, 55] → aU (aR Ia 55 (txR (Ia 55) (Ia 52) len)) 46 22 (nI len) a = I1 a := fun a ha => by
      rw [aU_r _ _ (fun e => ha (by rw [e]; decide)), aR_r _ _ (fun e => ha (by rw [e]; decide)), u1 a (fun h => ha (by simp at h ⊢; omega))]
    refine ⟨0, I1, J, _, J, 53, n, m, q, e1, e2, zInv_V (zInv_up H) ?_ ?_ ?_ ?_ ?_ ?_, ?_⟩
    · rw [aU_R]
      exact Fr_s (Fr_s (Fr_t (Fr_w F1 (by decide)) (Fr_w u1 (by decide))) _ (by decide)) _ (by decide)
    · intro k hk
      rw [aU_i _ _ (fun e => hk (by rw [e]; decide)), aR_r _ _ (by decide), u2 k (fun h => hk (by simp [scf] at h ⊢; omega)), F1 46 (by decide)]
    · rw [kp 7 (by decide), ← hI1, aU_r _ _ (by decide), aCp_R, aR_r _ _ (by decide)]; exact q7
    · rw [aU_i _ _ (by decide), aR_r _ _ (by decide)]; exact u3
    · rw [kp 12 (by decide), F1 12 (by decide), aU_i _ _ (by decide), aR_r _ _ (by decide), u2 12 (by decide), F1 46 (by decide)]; exact hRz
    · rw [kp 33 (by decide), kp 34 (by decide), aU_s, aU_r _ _ (show 55 ≠ 46 by decide), aR_s, u1 55 (by decide), u1 52 (by decide), F1 55 (by decide), F1 52 (by decide), ← hI1, aU_s, aU_r _ _ (show 34 ≠ 33 by decide), aCp_R, aR_s]
      exact ⟨c.length, len, rv, c37, rfl, cRule_of hc (cde_cp hc c38) hev, hrr _ rfl, txR_by v5 _ _⟩
    · rw [kp 0 (by decide), F1 0 (by decide)]
  by_cases hz : len = 0
  · obtain ⟨I', z1, z2, z3, z4, z5⟩ := f24s (d := d) (g := g) (I := I) (J := J) (sl := sl) (rd := rd) (rl := 56) (by rw [l2, hz]) h3 h4
    refine yes I' cdS (fun t => t 0 * 10 - t 1 * 15 + (t 4 + t 2) / 3) z1 z2 (by decide) z3 z4 z5 (if_pos hz) (by omega) std_v (fun r _ => ?_)
    exact Or.inl ⟨hz, fun _ => rfl⟩
  · have hsg : sgn (I 52) len 40 = sgc (I 8) len 40 := (sg_cn (a := 0) (b := 0) l4 40).symm
    obtain ⟨I', z1, z2, z3, z4, z5, z6⟩ := f24 (d := d) (g := g) (I := I) (J := J) (sl := sl) (rd := rd) (rl := 56) (len := len) (sg := sgn (I 52) len 40) l2 l1 (by omega) hsg (fun a ha => by
      obtain ⟨k, hk, e⟩ := pk_andE (I 52 a) (m := 255) 8 (by decide)
      exact ⟨k, hk, by rw [l4 a ha]; exact e⟩) h4
    obtain ⟨r1, r2⟩ := rd_eq (sg := sgn (I 52) len 40) (len := len) rfl l1
    rw [r1] at z6
    by_cases hw : rW (pc (sgn (I 52) len 40) 300 0 0 [] (0, -1)).2 len = -1
    · obtain ⟨w1, w2, w3⟩ := r2 hw
      obtain ⟨rv, hrv⟩ := rd_v (sg := sgn (I 52) len 40) rfl l1 l5 w1
      rw [if_pos hw] at z6
      rw [w3] at z3 z4 z5
      refine yes I' _ rv z1 z2 z3 z4 z5 z6 (by rw [if_neg hz]; exact hw) w2 (fun t => hrv t []) (fun r hr => ?_)
      subst hr
      refine Or.inr ⟨by omega, w2, ?_, ?_⟩
      · rw [txR_sg]; exact w1
      · rw [txR_sg]; exact hrv
    · rw [if_neg hw] at z6
      generalize rW (pc (sgn (I 52) len 40) 300 0 0 [] (0, -1)).2 len = wr at hw z6 R
      have e1 : aF d 57 [.ref 6] (g, I, J, aP1 sl rd 56) = some (some (some (.int (-1 - wr))), (g, I', J, aP1 sl rd 56)) := by
        show aE d 57 0 [.ref 6, aNo] [] _ = _
        rw [b57_0, z6]
        simp only [aBi]
        rw [b57_8, if_neg (m1_0 hw), b57_24]
      obtain ⟨p', y1, y2⟩ := R I' (Fr_w z1 (by decide))
      rw [if_neg hz] at y1
      obtain ⟨u1, u2, u3⟩ := B I' p'
      have e2 : aF d 198 [.ref 46] (g, I', J, aP1 sl rd 56) = some (some (some (.int (-1 - wr))), (g, pM (aU (bgn I' len 40) 46 23 0) p', J, aP1 sl 53 56)) := by
        rw [y2, y1, decide_eq_false hw, b198_14, if_pos tI_f, pM_18, y1]
      have kp : ∀ a, a ∉ [7, 8, 9, 10, 11, 37, 38, 46] → pM (aU (bgn I' len 40) 46 23 0) p' a = I a := fun a ha => by
        rw [u1 a (fun h => ha (by simp at h ⊢; omega)), z1 a (fun h => ha (by simp at h ⊢; omega))]
      refine ⟨_, I', J, _, J, 53, n, m, q, e1, e2, zInv_V (zInv_up H) ?_ ?_ ?_ u3 ?_ ?_, kp 0 (by decide)⟩
      · exact Fr_t (Fr_w z1 (by decide)) (Fr_w u1 (by decide))
      · intro k hk
        rw [u2 k (fun h => hk (by simp [scf] at h ⊢; omega)), z1 46 (by decide)]
      · rw [u1 7 (by decide)]; exact z2
      · rw [kp 12 (by decide), u2 12 (by decide), z1 46 (by decide)]; exact hRz
      · rw [kp 33 (by decide), kp 34 (by decide), kp 55 (by decide), u2 22 (by decide), z1 46 (by decide)]
        exact ⟨mm, kk, rv0, v1, v2, v3, v4, v5⟩
