/-! quarters: tied -/
variable {d : Nat} {g : Nat × Nat × Nat} {I : Nat → Nat → Int32} {J : Nat → Nat → Int64} {sl rd rl : Nat} {t n m q : Nat}
theorem tie_quarters (ht : t < 2 ^ 30) (H : zInv t n m q I J) : tie d 55 195 [] t g I J sl rd := by
  have hDz := H.2.2.1
  have hQz := H.2.2.2.1
  have hSz := H.2.2.2.2.1
  obtain ⟨hn, d1, d2, d3⟩ := H.2.2.2.1
  have hS := H.2.2.2.2.2.2.1
  have hKz := H.2.2.2.2.2.2.2.2.1
  have hUz := H.2.2.2.2.2.2.2.1
  obtain ⟨len, l1, l2, l3, l4, l5⟩ := H.1
  generalize hsg : sgn (I 52) len 76 = sg
  have hsgc : sg = sgc (I 8) len 76 := by rw [← hsg]; exact (sg_cn (a := 0) (b := 0) l4 76).symm
  have hE : sgE sg 76 := by rw [← hsg]; exact sgn_E _ _ _
  have A : (lnL sg (lnQ sg) (8 - m) 0 (0, -1)).2.1 ≤ 76 ∧ wrk (lnL sg (lnQ sg) (8 - m) 0 (0, -1)).2 ∧ ((lnL sg (lnQ sg) (8 - m) 0 (0, -1)).2.2 = -1 → 0 < (lnL sg (lnQ sg) (8 - m) 0 (0, -1)).1 ∧ ∀ j, j < (lnL sg (lnQ sg) (8 - m) 0 (0, -1)).1 → (lnP (lnQ sg) j).1 ≤ 76 ∧ (lnP (lnQ sg) j).2 = -1 ∧ (lnQ sg (lnP (lnQ sg) j)).2 = -1) := lnL_all (ln := lnQ sg) hE (by decide) (fun p hp => lnQ_at hE hp) (fun p hp h => lnQ_wrk hE (by decide) hp h) (8 - m) 0 (by show 0 ≤ 76; omega) rfl (fun j hj => by omega)
  have A4 := (lnL_b sg (lnQ sg) (8 - m) 0 (0, -1)).2
  obtain ⟨I1, f1, fk, f2, f3⟩ := f47 (d := d) (g := g) (I := I) (J := J) (sl := sl) (rd := rd) (rl := 56) (len := len) (top := 76) (sg := sg) (S := [18, 19, 20, 21]) (kind := 113) (ln := lnQ sg) (Vc := vcQ sg) (n0 := m) (w := 1) l2 l1 (by decide) hn hsgc (by decide) (by decide) (by decide) (fun p hp => lnQ_at hE hp) (fun I1 p i hi a b c e => f48q hE l1 (by decide) I1 p i hi a b c e) (vcQ_k rfl)
  have f3 : aF d 47 [.ref 9, .int 113, .int 76, .ref 14, .int (nI m)] (g, I, J, aP1 sl rd 56) = _ := f3
  generalize hP : lnL sg (lnQ sg) (8 - m) 0 (0, -1) = P at A A4 f2 f3
  obtain ⟨K, pe⟩ := P
  dsimp only at A A4 f2 f3
  generalize hwr : rW pe len = wr at f3
  have e42 : aF d 42 [.ref 7, .int 0] (g, I1, J, aP1 sl rd 56) = some (some (some (.int 1)), (g, aU I1 7 1 0, J, aP1 sl rd 56)) := by
    rw [f42, f1 7 (by decide), l2, if_neg (by
      rintro (h | h)
      · exact absurd h (by decide)
      · exact nI_nlt (a := len) (b := 0) (by omega) (by omega) h)]
  have F1 : Fr [7, 9, 18, 19, 20, 21] I (aU I1 7 1 0) := by rw [aU_R]; exact Fr_s (Fr_w f1 (by decide)) _ (by decide)
  generalize hv : (if len = 0 then 0 else if wr = -1 then nI K else -1 - wr) = v at f3
  have C0 : aF d 55 [.ref 6] (g, I, J, aP1 sl rd 56) = aE d 55 31 [.ref 6, .int v] [.int 1] (g, aU I1 7 1 0, J, aP1 sl rd 56) := by
    show aE d 55 0 [.ref 6, aNo] [] _ = _
    rw [b55_0, d1, f3]
    simp only [aBi]
    rw [b55_22, e42]
    rfl
  have keep : ∀ a, a ≠ 7 → a ≠ 9 → ∀ i, i < 1 * m → aU I1 7 1 0 a i = I a i := fun a h7 h9 i hi => by
    rw [aU_r _ _ h7]; exact fk a h9 i hi
  have no : ∀ (v' : Int32) (Ir : Nat → Nat → Int32), v = v' → v' ≤ 0 → Fr [46, 54] (aU I1 7 1 0) Ir → F46 (10 :: scf) (aU I1 7 1 0) Ir → Ir 46 10 = 0 → aF d 195 [.ref 46] (g, aU I1 7 1 0, J, aP1 sl rd 56) = some (some (some (.int v')), (g, Ir, J, aP1 sl 53 56)) → tie d 55 195 [] t g I J sl rd := by
    intro v' Ir e hv0 G G46 q10 er
    have kp : ∀ a, a ∉ [7, 9, 18, 19, 20, 21, 46, 54] → Ir a = I a := fun a ha => by
      rw [G a (fun h => ha (by simp at h ⊢; omega)), F1 a (fun h => ha (by simp at h ⊢; omega))]
    have E : ∀ k, k ∉ 10 :: scf → Ir 46 k = I 46 k := fun k hk => by rw [G46 k hk, F1 46 (by decide)]
    refine ⟨v', _, J, _, J, 53, n, m, q, ?_, er, zInv_L H ?_ ?_ ?_ ?_ q10 ?_ ?_ ?_ ?_ ?_ ?_, kp 0 (by decide)⟩
    · rw [C0, e, b55_31, if_pos hv0, b55_53]
    · exact Fr_t (Fr_w F1 (by decide)) (Fr_w G (by decide))
    · intro k hk; exact E k (fun h => hk (by simp [scf] at h ⊢; omega))
    · rw [kp 14 (by decide)]
    · rw [G 7 (by decide), aU_s]
    · rw [kp 14 (by decide), E 1 (by decide), kp 15 (by decide), kp 16 (by decide), kp 48 (by decide), kp 49 (by decide)]; exact hDz
    · refine ⟨hn, by rw [kp 14 (by decide)]; exact d1, by rw [E 4 (by decide)]; exact d2, fun i hi => ?_⟩
      rw [G 18 (by decide), G 19 (by decide), G 20 (by decide), G 21 (by decide), keep 18 (by decide) (by decide) i (by omega), keep 19 (by decide) (by decide) i (by omega), keep 20 (by decide) (by decide) i (by omega), keep 21 (by decide) (by decide) i (by omega), kp 50 (by decide)]
      exact d3 i hi
    · rw [kp 14 (by decide), E 6 (by decide), kp 22 (by decide), kp 51 (by decide)]; exact hSz
    · rw [kp 24 (by decide), kp 47 (by decide)]; exact hS
    · rw [kp 29 (by decide), E 26 (by decide), kp 30 (by decide), kp 58 (by decide)]; exact hUz
    · rw [E 37 (by decide), kp 31 (by decide), kp 32 (by decide), kp 64 (by decide), kp 65 (by decide), kp 66 (by decide)]; exact zK_up hKz
  have e183 : ∀ Ic : Nat → Nat → Int32, Ic 46 = I 46 → aF d 183 [.ref 46, .int 76] (g, aU Ic 46 13 0, J, aP1 sl rd 56) = some (some none, (g, pM (bgn Ic len 76) (0, -1), J, aP1 sl 53 56)) := fun Ic h46 => f183 (top := 76) (by rw [h46]; exact l3)
  have R0 : ∀ Ic : Nat → Nat → Int32, Ic 46 = I 46 → Ic 52 = I 52 → ¬ len = 0 → ∃ I' K' w' p', Fr [54] (bgn Ic len 76) I' ∧ p'.2 = wr ∧ (wr = -1 → K' = K ∧ ∀ j, j < K → vrQ sg I' j (lnP (lnQ sg) j)) ∧ aF d 195 [.ref 46] (g, Ic, J, aP1 sl rd 56) = aE d 195 81 [.ref 46, .int (nI K'), .int 0, w'] [.int (tI (decide (wr = -1)))] (g, pM I' p', J, aP1 sl 53 56) := by
    intro Ic h46 h52 hz
    have e52 : bgn Ic len 76 52 = I 52 := by rw [bgn_F Ic len 76 52 (by decide)]; exact h52
    have e1 : bgn Ic len 76 46 4 = nI m := by rw [bgn_46 Ic len 76 4 (by decide), h46]; exact d2
    obtain ⟨I', K', w', p3, z1, z2, z3, z4, z5⟩ := rLn (sg := sg) (ln := lnQ sg) (top := 76) (len := len) (fun k a w I p => aE d 195 24 [.ref 46, .int (nI k), .int a, w] [] (g, pM I p, J, aP1 sl 53 56)) (fun k a w I p => aBi (aF d 193 [.ref 46] (g, pM I p, J, aP1 sl 53 56)) (fun x0 t0 => aE d 195 81 [.ref 46, .int (nI k), .int a, w] [.int x0] t0)) (Vr := vrQ sg) (I0 := bgn Ic len 76) (n0 := m) (c := 4) hE (by decide) (fun p hp => lnQ_at hE hp) (fun k w I p => by rw [b195_24, if_pos rfl]) (fun k w I p F p2 hp hk => l195f (bgn_15 ..) (bgn_16 ..) l1 (by decide) e1 k w I p F p2 hp hk) (fun k w I p F p2 hp hk => l195 (bgn_15 ..) (bgn_16 ..) l1 (by decide) (by rw [e52]; exact l5) (by rw [e52]; exact hsg.symm) e1 k w I p F p2 hp hk) vrQ_k (8 - m) 0 aNo (bgn Ic len 76) (by omega) (Fr_r _ _) (by show 0 ≤ 76; omega) rfl (fun j hj => by omega)
    have z2 : rW p3 len = rW (lnL sg (lnQ sg) (8 - m) 0 (0, -1)).2 len := z2
    have z4 : (lnL sg (lnQ sg) (8 - m) 0 (0, -1)).2.2 = -1 → K' = (lnL sg (lnQ sg) (8 - m) 0 (0, -1)).1 ∧ ∀ j, j < K' → vrQ sg I' j (lnP (lnQ sg) j) := z4
    rw [hP] at z2 z4
    dsimp only at z2 z4
    have z5 : aE d 195 24 [.ref 46, .int 0, .int 1, aNo] [] (g, pM (bgn Ic len 76) (0, -1), J, aP1 sl 53 56) = aBi (aF d 193 [.ref 46] (g, pM I' p3, J, aP1 sl 53 56)) (fun x0 t0 => aE d 195 81 [.ref 46, .int (nI K'), .int 0, w'] [.int x0] t0) := z5
    obtain ⟨p', y0, y1, y2⟩ := f193 (d := d) (g := g) (I := I') (J := J) (sl := sl) (rd := 53) (rl := 56) (len := len) (p := p3) (by rw [z1 46 (by decide)]; exact bgn_15 ..) l1 z3
    rw [z2, hwr] at y1 y2
    refine ⟨I', K', w', p', z1, y1, fun h => ?_, ?_⟩
    · obtain ⟨eK, h'⟩ := z4 (rW_2 (hwr.trans h))
      rw [eK] at h'
      exact ⟨eK, h'⟩
    · show aE d 195 0 [.ref 46, aNo, aNo, aNo] [] _ = _
      rw [b195_0, e183 Ic h46]
      simp only [aBv]
      rw [b195_11, pM_o _ _ (by decide) (by decide), bgn_15, if_neg (show ¬ nI len = 0 from fun e => hz ((nI_eq (b := 0) (by omega) (by decide)).mp e)), z5, y2]
      rfl
  have Fb : ∀ (Ic I' : Nat → Nat → Int32) (p' : Nat × Int32), Fr [54] (bgn Ic len 76) I' → Fr [46, 54] Ic (pM I' p') ∧ F46 (10 :: scf) Ic (pM I' p') ∧ pM I' p' 46 10 = 0 := by
    intro Ic I' p' h
    refine ⟨?_, ?_, ?_⟩
    · unfold pM; exact Fr_s (Fr_t (Fr_w (bgn_F Ic len 76) (by decide)) (Fr_w h (by decide))) _ (by decide)
    · intro k hk
      rw [pM_o _ _ (fun e => hk (by rw [e]; decide)) (fun e => hk (by rw [e]; decide)), h 46 (by decide)]
      exact bgn_46 Ic len 76 k hk
    · rw [pM_o _ _ (by decide) (by decide), h 46 (by decide), bgn_10]
  by_cases hz : len = 0
  · obtain ⟨u1, u2, u3⟩ := Fb (aU I1 7 1 0) (bgn (aU I1 7 1 0) len 76) (0, -1) (Fr_r _ _)
    refine no 0 _ (by rw [← hv, if_pos hz]) (by decide) u1 u2 u3 ?_
    show aE d 195 0 [.ref 46, aNo, aNo, aNo] [] _ = _
    rw [b195_0, e183 _ (F1 46 (by decide))]
    simp only [aBv]
    rw [b195_11, pM_o _ _ (by decide) (by decide), bgn_15, if_pos (by rw [hz]; rfl)]
  by_cases hw : wr = -1
  · obtain ⟨K0, Af⟩ := A.2.2 (rW_2 (hwr.trans hw))
    have hvK : v = nI K := by rw [← hv, if_neg hz, if_pos hw]
    have hK8 : m + K ≤ 8 := by omega
    have V := f2 (by omega)
    have e1 : aF d 55 [.ref 6] (g, I, J, aP1 sl rd 56) = some (some (some (.int (nI K))), (g, fgt (aU (aU I1 7 1 0) 14 4 (nI (m + K))), J, aP1 sl rd 56)) := by
      rw [C0, hvK, b55_31, if_neg (show ¬ nI K ≤ 0 from nI_ge (a := 0) (by omega) (by omega)), F1 14 (by decide), d1, nI_add, f53]
      simp only [aBv]
      rw [b55_53]
    generalize hIc : fgt (aU (aU I1 7 1 0) 14 4 (nI (m + K))) = Ic at e1
    have Gq : Fr [14, 29, 32] (aU I1 7 1 0) Ic := by
      rw [← hIc, aU_R _ 14]
      exact Fr_t (Fr_w (Fr_s (Fr_r [14] _) _ (by decide)) (by decide)) (Fr_w (fgt_F _) (by decide))
    have Gc : Fr [7, 9, 14, 18, 19, 20, 21, 29, 32] I Ic := Fr_t (Fr_w F1 (by decide)) (Fr_w Gq (by decide))
    obtain ⟨I', K', w', p', z1, z2, z3, z4⟩ := R0 Ic (Gc 46 (by decide)) (Gc 52 (by decide)) hz
    obtain ⟨eK, zv⟩ := z3 hw
    rw [eK] at z4
    obtain ⟨u1, u2, u3⟩ := Fb Ic I' p' z1
    have v54 : pM I' p' 54 = I' 54 := pM_r _ _ (by decide)
    generalize hIa : pM I' p' = Ia at z4 u1 u2 u3 v54
    obtain ⟨I2, y1, y2, y3, y4, y5, y7, y8, y9⟩ := c195 (d := d) (g := g) (J := J) (sl := sl) (rd := 53) (rl := 56) (Ia := Ia) (m := m) (K := K) 0 (by rw [u2 4 (by decide), Gc 46 (by decide)]; exact d2) hK8
    have e2 : aF d 195 [.ref 46] (g, Ic, J, aP1 sl rd 56) = some (some (some (.int (nI K))), (g, I2, J, aP1 sl 53 56)) := by
      rw [z4, b195_81, decide_eq_true hw, if_neg (by decide)]
      exact y9
    have kp : ∀ a, a ∉ [7, 9, 14, 18, 19, 20, 21, 29, 32, 46, 50, 54] → I2 a = I a := fun a ha => by
      rw [y1 a (fun h => ha (by simp at h ⊢; omega)), u1 a (fun h => ha (by simp at h ⊢; omega)), Gc a (fun h => ha (by simp at h ⊢; omega))]
    have kc : ∀ a, a ∉ [46, 50, 54] → I2 a = Ic a := fun a ha => by
      rw [y1 a (fun h => ha (by simp at h ⊢; omega)), u1 a (fun h => ha (by simp at h ⊢; omega))]
    have E : ∀ k, k ∉ 4 :: 10 :: 26 :: 37 :: scf → I2 46 k = I 46 k := fun k hk => by
      rw [y2 k (fun h => hk (by simp [scf] at h ⊢; omega)), u2 k (fun h => hk (by simp [scf] at h ⊢; omega)), Gc 46 (by decide)]
    have c14 : ∀ k, k ≠ 4 → I2 14 k = I 14 k := fun k hk => by
      rw [kc 14 (by decide), ← hIc, fgt_F _ 14 (by decide), aU_i _ _ hk, F1 14 (by decide)]
    have cS : ∀ a, a ∉ [14, 29, 32, 46, 50, 54] → I2 a = aU I1 7 1 0 a := fun a ha => by
      rw [kc a (fun h => ha (by simp at h ⊢; omega)), Gq a (fun h => ha (by simp at h ⊢; omega))]
    refine ⟨_, _, _, _, _, 53, n, m + K, q, e1, e2, zInv_L H ?_ ?_ (c14 11 (by decide)) ?_ ?_ ?_ ?_ ?_ ?_ ?_ ?_, kp 0 (by decide)⟩
    · exact Fr_t (Fr_w Gc (by decide)) (Fr_t (Fr_w u1 (by decide)) (Fr_w y1 (by decide)))
    · intro k hk; exact E k (fun h => hk (by simp [scf] at h ⊢; omega))
    · rw [kc 7 (by decide), Gq 7 (by decide), aU_s]
    · rw [y2 10 (by decide)]; exact u3
    · rw [c14 0 (by decide), E 1 (by decide), kp 15 (by decide), kp 16 (by decide), kp 48 (by decide), kp 49 (by decide)]; exact hDz
    · refine ⟨hK8, ?_, y3, fun i hi => ?_⟩
      · rw [kc 14 (by decide), ← hIc, fgt_F _ 14 (by decide), aU_s]
      · rw [cS 18 (by decide), cS 19 (by decide), cS 20 (by decide), cS 21 (by decide)]
        by_cases hi2 : i < m
        · rw [keep 18 (by decide) (by decide) i (by omega), keep 19 (by decide) (by decide) i (by omega), keep 20 (by decide) (by decide) i (by omega), keep 21 (by decide) (by decide) i (by omega), y7 (4 * i) (by omega), y7 (4 * i + 1) (by omega), y7 (4 * i + 2) (by omega), y7 (4 * i + 3) (by omega), u1 50 (by decide), Gc 50 (by decide)]
          exact d3 i hi2
        · obtain ⟨j, rfl⟩ : ∃ j, i = m + j := ⟨i - m, by omega⟩
          have hj : j < K := by omega
          obtain ⟨a1, a2, a3⟩ := Af j hj
          obtain ⟨g1, g2, g3, g4⟩ := vQ_good hE (by decide) a1 a3
          obtain ⟨v1, v2, v3, v4⟩ := V j hj (by omega)
          obtain ⟨r1, r2, r3, r4⟩ := zv j hj
          have y8' : ∀ x, x < 4 → I2 50 (4 * (m + j) + x) = I' 54 (4 * j + x) := fun x hx => by
            rw [show 4 * (m + j) + x = 4 * m + (4 * j + x) by omega, y8 _ (by omega), v54]
          rw [aU_r _ _ (show 18 ≠ 7 by decide), aU_r _ _ (show 19 ≠ 7 by decide), aU_r _ _ (show 20 ≠ 7 by decide), aU_r _ _ (show 21 ≠ 7 by decide), v1, v2, v3, v4, (show I2 50 (4 * (m + j)) = I' 54 (4 * j) from y8' 0 (by decide)), y8' 1 (by decide), y8' 2 (by decide), y8' 3 (by decide), r1, r2, r3, r4, g2]
          exact ⟨rfl, rfl, rfl, rfl, g1, g3, g4⟩
    · rw [c14 9 (by decide), E 6 (by decide), kp 22 (by decide), kp 51 (by decide)]; exact hSz
    · rw [kp 24 (by decide), kp 47 (by decide)]; exact hS
    · obtain ⟨u, x, w1, w2, w3, w4⟩ := hUz
      refine ⟨0, x, ?_, y4, ?_, okU_0 w4⟩
      · rw [kc 29 (by decide), ← hIc]; unfold fgt; rw [aU_r _ _ (by decide), aU_r _ _ (by decide), aU_s]; rfl
      · rw [kc 29 (by decide), ← hIc]; unfold fgt; rw [aU_r _ _ (by decide), aU_r _ _ (by decide), aU_i _ _ (by decide), aU_r _ _ (by decide), F1 29 (by decide)]; exact w3
    · rw [y5, u2 37 (by decide), Gc 46 (by decide), kp 65 (by decide), kp 66 (by decide)]
      refine zK_new ht hKz ?_ ?_
      · rw [kc 32 (by decide), ← hIc]; unfold fgt; rw [aU_i _ _ (by decide), aU_s]
      · rw [kc 32 (by decide), ← hIc]; unfold fgt; rw [aU_s]
  · obtain ⟨k, hk, ew⟩ : ∃ k, k ≤ 80 ∧ wr = nI k := by
      rcases wrk_W (len := len) (Nat.le_trans A.1 (by decide)) A.2.1 with h | ⟨k, h1, h2⟩
      · exact absurd (hwr.symm.trans h) hw
      · exact ⟨k, h1, hwr.symm.trans h2⟩
    obtain ⟨I', K', w', p', z1, z2, z3, z4⟩ := R0 (aU I1 7 1 0) (F1 46 (by decide)) (F1 52 (by decide)) hz
    obtain ⟨u1, u2, u3⟩ := Fb (aU I1 7 1 0) I' p' z1
    refine no (-1 - wr) _ (by rw [← hv, if_neg hz, if_neg hw]) ?_ u1 u2 u3 ?_
    · rw [ew]
      have := m1_neg k hk
      rw [int_le] at this ⊢
      omega
    · rw [z4, b195_81, decide_eq_false hw, if_pos tI_f, pM_18, z2]
