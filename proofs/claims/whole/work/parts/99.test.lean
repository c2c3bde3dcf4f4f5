section T00
/-! season: tied -/
variable {d : Nat} {g : Nat × Nat × Nat} {I : Nat → Nat → Int32} {J : Nat → Nat → Int64} {sl rd rl : Nat} {t n m q : Nat}
/-- the text, the row that is told, the state, what undo goes back to -/
theorem zInv_X {t n m q : Nat} {I I' : Nat → Nat → Int32} {J J' : Nat → Nat → Int64} (H : zInv t n m q I J) (h : Fr (7 :: 12 :: 24 :: 29 :: 30 :: 47 :: 58 :: scr) I I') (h2 : F46 (10 :: 12 :: 26 :: scf) I I') (hT : I' 7 1 = 0) (hT2 : I' 46 10 = 0) (hR : zR (I' 12 1) (I' 46 12) (J' 13) (J' 53)) (hN : okS n q (I' 24) (I' 47)) (hU : zU n q (I' 29 1) (I' 46 26) (I' 29 2) (I' 30) (I' 58)) : zInv t n m q I' J' := by
  obtain ⟨a1, a2, a3, a4, a5, a6, a7, a8, a9, b1, b2⟩ := H
  unfold zInv
  have h0 : ∀ a, a ∉ _ → I' a = I a := h
  simp (disch := decide) only [h0, h2 1, h2 4, h2 6, h2 8, h2 37, h2 22, h2 35]
  obtain ⟨k, c1, c2, c3, c4, c5⟩ := a1
  exact ⟨⟨0, by decide, hT, hT2, fun i hi => by omega, c5⟩, hR, a3, a4, a5, a6, hN, hU, a9, b1, b2⟩
def sV (st : (Nat → Int32) → Nat → Int32) (n q : Nat) (pr sd : Nat → Int32) (A : Nat → Int32 × Int32 × Int32) (v : Nat → Int32) : Nat → Nat → Int32
  | 0 => v
  | j + 1 => (actV st n q pr sd (A j) (sV st n q pr sd A v j)).getD (sV st n q pr sd A v j)
def dN (p : Nat → Bool) : Nat → Nat → Nat
  | 0, j => j
  | M + 1, j => if p j = true then dN p M (j + 1) else j
theorem dN_b (p : Nat → Bool) : ∀ M j, j ≤ dN p M j ∧ dN p M j ≤ j + M
  | 0, j => ⟨Nat.le_refl _, Nat.le_refl _⟩
  | M + 1, j => by
    have := dN_b p M (j + 1)
    unfold dN
    split <;> omega
theorem sg_cn {a b : Int32} {r8 r52 : Nat → Int32} {k : Nat} (h : ∀ i, i < k → r8 i = r52 i &&& 255) (top : Nat) : sgc r8 k top = sgn r52 k top := by
  funext i
  unfold sgc sgn
  by_cases e : i < k ∧ i < top
  · rw [if_pos e, if_pos e]; exact h i e.1
  · rw [if_neg e, if_neg e]
def wrk (p : Nat × Int32) : Prop := p.2 = -1 ∨ ∃ k, k ≤ 80 ∧ p.2 = nI k
theorem wrk_f {p : Nat × Int32} (hp : p.1 ≤ 80) (h : wrk p) : wrk (flt p (nI p.1)) := by
  unfold flt
  split
  · exact Or.inr ⟨p.1, hp, rfl⟩
  · exact h
theorem wrk_t {sg : Nat → Int32} {lo hi : Int32} {p : Nat × Int32} (hp : p.1 ≤ 80) (h : wrk p) : wrk (tk sg lo hi p).2 := by
  unfold tk
  split
  · exact wrk_f hp h
  · split
    · exact h
    · exact wrk_f hp h
theorem wrk_a {sg : Nat → Int32} (hE : sgE sg 60) {p : Nat × Int32} (hk : ¬ pk sg p = -1) (h : wrk p) : wrk (actR sg p).2 := by
  have pl := pk_at hE hk
  have a1 : (adv p).1 ≤ 60 := pl
  have a2 : wrk (adv p) := h
  have t1 := tk_at hE (lo := 48) (hi := 49) (by decide) a1
  have t2 := tk_at hE (lo := 48) (hi := 57) (by decide) a1
  unfold actR
  split
  · exact wrk_t (by omega) (wrk_t (by omega) a2)
  · split
    · exact wrk_t (by omega) a2
    · split
      · exact wrk_t (by omega) (wrk_t (by omega) a2)
      · exact wrk_f (by omega) h
theorem wrk_K {sg : Nat → Int32} (hE : sgE sg 60) : ∀ {K : Nat}, (∀ j, j < K → ¬ pk sg (rP sg j) = -1) → wrk (rP sg K)
  | 0, _ => Or.inl rfl
  | K + 1, h => wrk_a hE (h K (by omega)) (wrk_K hE (fun j hj => h j (by omega)))
theorem wrk_W {p : Nat × Int32} {len : Nat} (hp : p.1 ≤ 80) (h : wrk p) : rW p len = -1 ∨ ∃ k, k ≤ 80 ∧ rW p len = nI k := by
  unfold rW
  split
  · exact h
  · exact wrk_f hp h
theorem m1_neg : ∀ k, k ≤ 80 → ¬ (0 : Int32) ≤ -1 - nI k := by decide +kernel
theorem tie_season (hd : 41 ≤ d) (H : zInv t n m q I J) : tie d 102 243 [] t g I J sl rd := by
  obtain ⟨hn, d1, d2, -⟩ := H.2.2.1
  obtain ⟨hq, d3, d4, -⟩ := H.2.2.2.2.1
  have hS := H.2.2.2.2.2.2.1
  have hL := H.2.2.2.2.2.1
  obtain ⟨mm, kk, rv, v1, v2, v3, v4, v5, v6⟩ := zV_get H
  have sk := zD_s H
  have hp2 : ∀ i, i < n → ∃ x, x ≤ 99 ∧ I 16 i = nI x := fun i hi => (zD_p H hi).2
  have hp : ∀ i, i < n → I 49 i = I 16 i := fun i hi => (zD_p H hi).1
  obtain ⟨u, x, w1, w2, w3, w4, w5, w6⟩ := zU_get H
  obtain ⟨len, l1, l2, l3, l4, l5⟩ := H.1
  generalize hsg : sgn (I 52) len 60 = sg
  have hsgc : sg = sgc (I 8) len 60 := by rw [← hsg]; exact (sg_cn (a := 0) (b := 0) l4 60).symm
  have hE : sgE sg 60 := by rw [← hsg]; exact sgn_E _ _ _
  obtain ⟨K, hK, k1, k2⟩ := rP_K hE
  -- the class reads
  obtain ⟨I1, f1, f2, f3⟩ := f103 (d := d) (g := g) (I := I) (J := J) (sl := sl) (rd := rd) (rl := 56) (len := len) (sg := sg) l2 l1 hsgc hK k1 k2
  generalize hwr : rW (rP sg K) len = wr at f2 f3
  have e42 : aF d 42 [.ref 7, .int 0] (g, I1, J, aP1 sl rd 56) = some (some (some (.int 1)), (g, aU I1 7 1 0, J, aP1 sl rd 56)) := by
    rw [f42, f1 7 (by decide), l2, if_neg (by
      rintro (h | h)
      · exact absurd h (by decide)
      · exact nI_nlt (a := len) (b := 0) (by omega) (by omega) h)]
  have F1 : Fr [7, 9, 45] I (aU I1 7 1 0) := by rw [aU_R]; exact Fr_s (Fr_w f1 (by decide)) _ (by decide)
  have C0 : aF d 102 [.ref 6] (g, I, J, aP1 sl rd 56) = aE d 102 20 [.ref 6, .int (if wr = -1 then nI K else -1 - wr), aNo] [.int 1] (g, aU I1 7 1 0, J, aP1 sl rd 56) := by
    show aE d 102 0 [.ref 6, aNo, aNo] [] _ = _
    rw [b102_0, f3]
    simp only [aBi]
    rw [b102_11, e42]
    rfl
  -- the reference reads
  have R0 : ∀ (Ic : Nat → Nat → Int32) (Jc : Nat → Nat → Int64), Ic 46 = I 46 → Ic 52 = I 52 → ∃ X K' p' I0, Fr [46] Ic I0 ∧ F46 (10 :: scf) Ic I0 ∧ I0 46 10 = 0 ∧ p'.2 = wr ∧ (wr = -1 → K' = K ∧ ∀ i, i < K → mtR sg X i) ∧ aF d 243 [.ref 46] (g, Ic, Jc, aP1 sl rd 56) = aE d 243 48 [.ref 46, .int (nI K'), aNo] [.int (tI (decide (wr = -1)))] (g, pM (aR I0 61 X) p', Jc, aP1 sl 53 56) := by
    intro Ic Jc h46 h52
    generalize hI0 : aU (aU (aU (aU Ic 46 13 0) 46 15 (nI len)) 46 16 60) 46 10 0 = I0
    have G : Fr [46] Ic I0 := by
      rw [← hI0, aU_R, aU_R, aU_R, aU_R]
      exact Fr_s (Fr_s (Fr_s (Fr_s (Fr_r _ _) _ (by decide)) _ (by decide)) _ (by decide)) _ (by decide)
    have G46 : F46 (10 :: scf) Ic I0 := by
      intro j hj
      rw [← hI0, aU_i _ _ (fun e => hj (by rw [e]; decide)), aU_i _ _ (fun e => hj (by rw [e]; decide)), aU_i _ _ (fun e => hj (by rw [e]; decide)), aU_i _ _ (fun e => hj (by rw [e]; decide))]
    have q15 : I0 46 15 = nI len := by rw [← hI0, aU_i _ _ (by decide), aU_i _ _ (by decide), aU_s]
    have q16 : I0 46 16 = nI 60 := by rw [← hI0, aU_i _ _ (by decide), aU_s]; rfl
    have q10 : I0 46 10 = 0 := by rw [← hI0, aU_s]
    have e183 : aF d 183 [.ref 46, .int 60] (g, aU Ic 46 13 0, Jc, aP1 sl rd 56) = some (some none, (g, pM I0 (0, -1), Jc, aP1 sl 53 56)) := by
      show aE d 183 0 [.ref 46, .int 60] [] _ = _
      rw [b183_0, aU_i _ _ (show 10 ≠ 13 by decide), h46, l3, f184_52]
      simp only [aBv]
      rw [b183_13, pM_u _ _ (by decide) (by decide), hI0]
    obtain ⟨X, K', p', u1, u2, u3⟩ := r243 (d := d) (g := g) (I := I0) (J := Jc) (sl := sl) (rl := 56) (len := len) (sg := sg) (K := K) q15 q16 l1 (by rw [G 52 (by decide), h52]; exact l5) (by rw [G 52 (by decide), h52]; exact hsg.symm) hK k1 k2 aNo
    rw [hwr] at u1 u2 u3
    refine ⟨X, K', p', I0, G, G46, q10, u1, u2, ?_⟩
    show aE d 243 0 [.ref 46, aNo, aNo] [] _ = _
    rw [b243_0, e183]
    simp only [aBv]
    rw [b243_11, u3]
  by_cases hw : wr = -1
  · have gA : ∀ i, i < K → goodA (actR sg (rP sg i)).1 := fun i hi => by
      refine ((actR_at hE (by decide) (k2 i hi)).2 ?_).2
      show (rP sg (i + 1)).2 = -1
      by_cases e2 : i + 1 = K
      · rw [e2]; exact rW_2 (hwr.trans hw)
      · exact pk_2 (k2 (i + 1) (by omega))
    have m1 := f2 hw
    generalize hst : sts rv (I 15) = st
    generalize hSv : sV st n q (I 16) (I 22) (fun i => (actR sg (rP sg i)).1) (rV (I 47)) = S
    have S0 : S 0 = rV (I 47) := by rw [← hSv]; rfl
    have S1 : ∀ j, S (j + 1) = (actV st n q (I 16) (I 22) (actR sg (rP sg j)).1 (S j)).getD (S j) := by rw [← hSv]; intro j; rfl
    generalize hpb : (fun j => (actV st n q (I 16) (I 22) (actR sg (rP sg j)).1 (S j)).isSome) = pb
    have pb' : ∀ j, pb j = (actV st n q (I 16) (I 22) (actR sg (rP sg j)).1 (S j)).isSome := fun j => by rw [← hpb]
    have keep : ∀ j, ¬ pb j = true → S (j + 1) = S j := fun j h => by
      rw [pb'] at h
      rw [S1]
      cases e : actV st n q (I 16) (I 22) (actR sg (rP sg j)).1 (S j) with
      | none => rfl
      | some w => rw [e] at h; exact absurd rfl h
    generalize hIb : aR (aU I1 7 1 0) 26 (cpB (aU I1 7 1 0 26) (aU I1 7 1 0 24) 0 32) = Ib
    have Fb : Fr [7, 9, 26, 45] I Ib := by rw [← hIb]; exact Fr_s (Fr_w F1 (by decide)) _ (by decide)
    have b26 : ∀ i, i < 32 → Ib 26 i = I 24 i := fun i hi => by
      rw [← hIb, aR_s, cpB_in _ _ (by omega) (by omega), F1 24 (by decide)]; rfl
    have b45 : Ib 45 = I1 45 := by rw [← hIb, aR_r _ _ (by decide), aU_r _ _ (by decide)]
    have SS : okS n q (I 24) (rV (I 47)) := ⟨by rw [rV_i]; exact hS.1, by rw [rV_i]; exact hS.2.1, hS.2.2⟩
    -- the class acts
    have lC : ∀ (M j : Nat) (I2 : Nat → Nat → Int32), j + M = K → Fr [24, 35, 36, 41] Ib I2 → okS n q (I2 24) (S j) → rV (S j) = S j → ∃ I', Fr [24, 35, 36, 41] Ib I' ∧ okS n q (I' 24) (S (dN pb M j)) ∧ rV (S (dN pb M j)) = S (dN pb M j) ∧ (∀ i, j ≤ i → i ≤ dN pb M j → okW n q (S i)) ∧ aE d 102 40 [.ref 6, .int (nI K), .int (nI j)] [] (g, I2, J, aP1 sl rd 56) = (if nI (dN pb M j) ≤ 0 then aE d 102 77 [.ref 6, .int (nI K), .int (nI (dN pb M j))] [] (g, I', J, aP1 sl rd 56) else aBv (aF d 80 [.ref 29, .ref 25] (g, I', J, aP1 sl rd 56)) (fun t0 => aE d 102 77 [.ref 6, .int (nI K), .int (nI (dN pb M j))] [] t0)) := by
      intro M
      induction M with
      | zero =>
        intro j I2 hj q1 q2 q3
        obtain rfl : j = K := by omega
        refine ⟨I2, q1, q2, q3, fun i h1 h2 => ?_, ?_⟩
        · have h2 : i ≤ j := h2
          obtain rfl : i = j := by omega
          have := q2.2.1; rw [q3] at this; exact this
        · rw [b102_40, if_pos (Int32.le_refl _)]; rfl
      | succ M ih =>
        intro j I2 hj q1 q2 q3
        have G : ∀ a, a ∉ [7, 9, 24, 26, 35, 36, 41, 45] → I2 a = I a := fun a ha => by
          rw [q1 a (fun h => ha (by simp at h ⊢; omega)), Fb a (fun h => ha (by simp at h ⊢; omega))]
        have x45 : I2 45 = I1 45 := by rw [q1 45 (by decide)]; exact b45
        obtain ⟨c1, c2, c3⟩ := m1 j (by omega)
        obtain ⟨r, I3, h1, h2, h3, h4, h5⟩ := f104 (d := d) (g := g) (I := I2) (J := J) (sl := sl) (rd := rd) (rl := 56) (n := n) (q := q) (mm := mm) (rv := rv) (v := S j) (st := st) (a := (actR sg (rP sg j)).1) (i := j) (by rw [G 34 (by decide)]; exact v3) (by rw [G 33 (by decide)]; exact v1) (by rw [G 14 (by decide)]; exact d1) hn (by rw [G 14 (by decide)]; exact d3) hq (by rw [G 15 (by decide)]; exact hst.symm) (by rw [G 16 (by decide)]; exact hp2) q2 q3 (by omega) (gA j (by omega)) (by rw [x45]; exact c1) (by rw [x45]; exact c2) (by rw [x45]; exact c3)
        rw [G 16 (by decide), G 22 (by decide)] at h2 h3 h4
        rw [← pb'] at h2
        rw [← S1] at h3 h4
        have w0 : okW n q (S j) := by have := q2.2.1; rw [q3] at this; exact this
        rw [b102_40, if_neg (nI_ge (by omega) (by omega)), h5]
        simp only [aBi]
        rw [b102_50, nI_1]
        by_cases hb : pb j = true
        · have ed : dN pb (M + 1) j = dN pb M (j + 1) := if_pos hb
          obtain ⟨I', t1, t2, t3, t4, t5⟩ := ih (j + 1) I3 (by omega) (Fr_t q1 h1) h3 h4
          rw [if_pos (h2.mpr hb), ed]
          refine ⟨I', t1, t2, t3, fun i i1 i2 => ?_, t5⟩
          by_cases e : i = j
          · subst e; exact w0
          · exact t4 i (by omega) i2
        · have ed : dN pb (M + 1) j = j := if_neg hb
          rw [if_neg (fun h => hb (h2.mp h)), ed]
          rw [keep j hb] at h3
          exact ⟨I3, Fr_t q1 h1, h3, q3, fun i i1 i2 => by obtain rfl : i = j := by omega
                                                           exact w0, rfl⟩
    have hb24 : Ib 24 = I 24 := Fb 24 (by decide)
    obtain ⟨I2, p1, p2, p3, p4, p5⟩ := lC K 0 Ib (by omega) (Fr_r _ _) (by rw [S0, hb24]; exact SS) (by rw [S0]; exact rV_i _)
    have hD := (dN_b pb K 0).2
    generalize hDe : dN pb K 0 = D at p2 p3 p4 p5 hD
    have G2 : Fr [7, 9, 24, 26, 35, 36, 41, 45] I I2 := Fr_t (Fr_w Fb (by decide)) (Fr_w p1 (by decide))
    have z26 : ∀ i, i < 32 → I2 26 i = I 24 i := fun i hi => by rw [p1 26 (by decide)]; exact b26 i hi
    have C2 : ∃ I3, Fr [29, 30] I2 I3 ∧ (D = 0 → I3 = I2) ∧ (0 < D → I3 30 = cpB (I 30) (I2 26) (32 * x) 32 ∧ I3 29 1 = nI (up12 u) ∧ I3 29 2 = nI ((x + 1) % 12)) ∧ (if nI D ≤ 0 then aE d 102 77 [.ref 6, .int (nI K), .int (nI D)] [] (g, I2, J, aP1 sl rd 56) else aBv (aF d 80 [.ref 29, .ref 25] (g, I2, J, aP1 sl rd 56)) (fun t0 => aE d 102 77 [.ref 6, .int (nI K), .int (nI D)] [] t0)) = aE d 102 77 [.ref 6, .int (nI K), .int (nI D)] [] (g, I3, J, aP1 sl rd 56) := by
      by_cases h : D = 0
      · subst h
        exact ⟨I2, Fr_r _ _, fun _ => rfl, fun h => by omega, by rw [if_pos (show nI 0 ≤ 0 by decide)]⟩
      · refine ⟨aR (aR I2 30 (cpB (I2 30) (I2 26) (32 * x) 32)) 29 (upd (upd (I2 29) 2 (nI ((x + 1) % 12))) 1 (nI (up12 u))), ?_, fun q => absurd q h, fun _ => ?_, ?_⟩
        rotate_left 2
        · rw [if_neg (show ¬ nI D ≤ 0 from nI_ge (a := 0) (by omega) (by omega)), f80 (u := u) (x := x) (by rw [G2 29 (by decide)]; exact w1) w2 (by rw [G2 29 (by decide)]; exact w3) w4]
          rfl
        · exact Fr_s (Fr_s (Fr_r _ _) _ (by decide)) _ (by decide)
        · refine ⟨?_, ?_, ?_⟩
          · rw [aR_r _ _ (by decide), aR_s, G2 30 (by decide)]
          · rw [aR_s, upd_s]
          · rw [aR_s, upd_n _ _ (by decide), upd_s]
    obtain ⟨I3, s1, s2, s3, s4⟩ := C2
    have G3 : Fr [7, 9, 24, 26, 29, 30, 35, 36, 41, 45] I I3 := Fr_t (Fr_w G2 (by decide)) (Fr_w s1 (by decide))
    have k24 : I3 24 = I2 24 := s1 24 (by decide)
    have cv : cV (I3 24) = S D := by rw [k24, p2.1, p3]
    have e78 : aF d 78 [.ref 23, .ref 14] (g, I3, J, aP1 sl rd 56) = some (some (some (.int (tI (jn (S D) (I 14 11))))), (g, I3, J, aP1 sl rd 56)) := by
      rw [f78_23, jn_c, ← jn_cV, cv, G3 14 (by decide)]
    generalize hz1 : (if K ≤ D then (0 : Int64) else 1) = z1
    generalize hz2 : (if jn (S D) (I 14 11) = true then (1 : Int64) else 0) = z2
    have C3 : aE d 102 77 [.ref 6, .int (nI K), .int (nI D)] [] (g, I3, J, aP1 sl rd 56) = some (some (some (.int (nI D))), (g, aU I3 12 1 2, aU (aU J 13 0 z1) 13 1 z2, aP1 sl rd 56)) := by
      have T : ∀ z : Int64, aE d 102 102 [.ref 6, .int (nI K), .int (nI D)] [.int (tI (jn (S D) (I 14 11))), .long z, .ref 12] (g, I3, J, aP1 sl rd 56) = some (some (some (.int (nI D))), (g, aU I3 12 1 2, aU (aU J 13 0 z) 13 1 z2, aP1 sl rd 56)) := by
        intro z
        rw [b102_102, ← hz2]
        by_cases h : jn (S D) (I 14 11) = true
        · rw [h, if_neg (by decide), f82]
          simp only [aBv]
          rw [b102_113]; rfl
        · rw [if_neg h, show jn (S D) (I 14 11) = false by simpa using h, if_pos tI_f, f82]
          simp only [aBv]
          rw [b102_113]
      rw [b102_77, e78, ← hz1]
      by_cases h : K ≤ D
      · rw [if_pos (nI_le h (by omega)), if_pos h]; exact T 0
      · rw [if_neg (nI_ge (by omega) (by omega)), if_neg h]; exact T 1
    have e1 : aF d 102 [.ref 6] (g, I, J, aP1 sl rd 56) = some (some (some (.int (nI D))), (g, aU I3 12 1 2, aU (aU J 13 0 z1) 13 1 z2, aP1 sl rd 56)) := by
      rw [C0, if_pos hw, b102_20, if_pos (show 0 ≤ nI K from nI_le (a := 0) (by omega) (by omega)), f63_26]
      simp only [aBv]
      rw [b102_38, hIb]
      exact (p5.trans s4).trans C3
    generalize hJc : aU (aU J 13 0 z1) 13 1 z2 = Jc at e1
    generalize hIc : aU I3 12 1 2 = Ic at e1
    have Gc : Fr [7, 9, 12, 24, 26, 29, 30, 35, 36, 41, 45] I Ic := by rw [← hIc, aU_R]; exact Fr_s (Fr_w G3 (by decide)) _ (by decide)
    obtain ⟨X, K', p', I0, G, G46, q10, u1, u2, u3⟩ := R0 Ic Jc (Gc 46 (by decide)) (Gc 52 (by decide))
    obtain ⟨rfl, mR⟩ := u2 hw
    generalize hIe : pM (aR I0 61 X) p' = Ie at u3
    have Ge : Fr [46, 61] Ic Ie := by rw [← hIe]; unfold pM; exact Fr_s (Fr_s (Fr_w G (by decide)) _ (by decide)) _ (by decide)
    have Ge46 : F46 (10 :: scf) Ic Ie := by
      intro j hj
      rw [← hIe, pM_o _ _ (fun e => hj (by rw [e]; decide)) (fun e => hj (by rw [e]; decide)), aR_r _ _ (by decide), G46 j hj]
    have e61 : Ie 61 = X := by rw [← hIe, pM_r _ _ (by decide), aR_s]
    have e10 : Ie 46 10 = 0 := by rw [← hIe, pM_o _ _ (by decide) (by decide), aR_r _ _ (by decide), q10]
    generalize hIf : aR Ie 59 (cpB (Ie 59) (Ie 47) 0 39) = If
    have Gf : Fr [46, 59, 61] Ic If := by rw [← hIf]; exact Fr_s (Fr_w Ge (by decide)) _ (by decide)
    have Gf46 : If 46 = Ie 46 := by rw [← hIf, aR_r _ _ (by decide)]
    have f61 : If 61 = X := by rw [← hIf, aR_r _ _ (by decide)]; exact e61
    have f59 : ∀ i, i < 39 → If 59 i = I 47 i := fun i hi => by
      rw [← hIf, aR_s, cpB_in _ _ (by omega) (by omega), Ge 47 (by decide), Gc 47 (by decide)]; rfl
    have e222 : aF d 222 [.ref 47, .ref 59, .int 0] (g, Ie, Jc, aP1 sl 53 56) = some (some none, (g, If, Jc, aP1 sl 53 56)) := by
      rw [← hIf]; exact f222_59 (o := 0) (by decide)
    -- the reference acts
    have lR : ∀ (M j : Nat) (I4 : Nat → Nat → Int32) (rd1 : Nat), j + M = K' → Fr [46, 47, 57] If I4 → F46 scf If I4 → rV (I4 47) = S j → (∀ i, j ≤ i → i ≤ dN pb M j → okW n q (S i)) → ∃ I' rd', Fr [46, 47, 57] If I' ∧ F46 scf If I' ∧ rV (I' 47) = S (dN pb M j) ∧ aE d 243 72 [.ref 46, .int (nI K'), .int (nI j)] [] (g, I4, Jc, aP1 sl rd1 56) = (if nI (dN pb M j) ≤ 0 then aE d 243 130 [.ref 46, .int (nI K'), .int (nI (dN pb M j))] [] (g, I', Jc, aP1 sl rd' 56) else aBv (aF d 221 [.ref 46, .ref 59] (g, I', Jc, aP1 sl rd' 56)) (fun t0 => aE d 243 130 [.ref 46, .int (nI K'), .int (nI (dN pb M j))] [] t0)) := by
      intro M
      induction M with
      | zero =>
        intro j I4 rd1 hj q1 q2 q3 q4
        obtain rfl : j = K' := by omega
        refine ⟨I4, rd1, q1, q2, q3, ?_⟩
        rw [b243_72, if_pos (Int32.le_refl _)]; rfl
      | succ M ih =>
        intro j I4 rd1 hj q1 q2 q3 q4
        have Gx : ∀ a, a ∉ [7, 9, 12, 24, 26, 29, 30, 35, 36, 41, 45, 46, 47, 57, 59, 61] → I4 a = I a := fun a ha => by
          rw [q1 a (fun h => ha (by simp at h ⊢; omega)), Gf a (fun h => ha (by simp at h ⊢; omega)), Gc a (fun h => ha (by simp at h ⊢; omega))]
        have G46x : ∀ k, k ∉ 10 :: scf → I4 46 k = I 46 k := fun k hk => by
          rw [q2 k (fun h => hk (List.mem_cons_of_mem _ h)), Gf46, Ge46 k hk, Gc 46 (by decide)]
        have x61 : I4 61 = X := by rw [q1 61 (by decide)]; exact f61
        obtain ⟨c1, c2, c3⟩ := mR j (by omega)
        have wj : okW n q (S j) := q4 j (Nat.le_refl _) (dN_b pb (M + 1) j).1
        obtain ⟨I5, rd5, h1, h2, h3, h4⟩ := f245 (d := d) (g := g) (I := I4) (J := Jc) (sl := sl) (rd := rd1) (n := n) (q := q) (rs := kk) (rv := rv) (v := S j) (st := st) (a := (actR sg (rP sg j)).1) (sk := I 15) (pr := I 16) (sd := I 22) hd (by rw [Gx 55 (by decide)]; exact v4) (by rw [Gx 55 (by decide)]; exact v5) v6 (by rw [G46x 22 (by decide)]; exact v2) (by rw [G46x 1 (by decide)]; exact d2) hn (by rw [G46x 6 (by decide)]; exact d4) hq hst.symm (by rw [Gx 48 (by decide)]; exact sk) (by rw [Gx 49 (by decide)]; exact hp) (fun k hk => by rw [Gx 51 (by decide)]; exact zS_e H hk) wj q3 (gA j (by omega)) (X (3 * j + 2)) c3
        rw [← pb'] at h4
        rw [← S1] at h3
        have m3 : (3 : Int32) * nI j = nI (3 * j) := pk_mul 3 j
        have a1 : nI (3 * j) + 1 = nI (3 * j + 1) := nI_1 _
        have a2 : nI (3 * j) + 2 = nI (3 * j + 2) := nI_add (3 * j) 2
        rw [b243_72, if_neg (nI_ge (by omega) (by omega)), m3, a1, a2, nI_clamp (by omega), nI_clamp (by omega), nI_clamp (by omega), if_neg (t240 (by omega)), if_neg (t240 (by omega)), if_neg (t240 (by omega)), x61, c1, c2, h4]
        simp only [aBi]
        rw [b243_109, nI_1]
        by_cases hb : pb j = true
        · have ed : dN pb (M + 1) j = dN pb M (j + 1) := if_pos hb
          rw [ed] at q4 ⊢
          obtain ⟨I', rd', t1, t2, t3, t4⟩ := ih (j + 1) I5 rd5 (by omega) (Fr_t q1 h1) (F46_t q2 h2) h3 (fun i i1 i2 => q4 i (by omega) i2)
          rw [hb, if_neg (by decide)]
          exact ⟨I', rd', t1, t2, t3, t4⟩
        · have ed : dN pb (M + 1) j = j := if_neg hb
          rw [ed, show pb j = false by simpa using hb, if_pos tI_f]
          rw [keep j hb] at h3
          exact ⟨I5, rd5, Fr_t q1 h1, F46_t q2 h2, h3, rfl⟩
    obtain ⟨I4, rd4, t1, t2, t3, t4⟩ := lR K' 0 If 53 (by omega) (Fr_r _ _) (F46_r _ _) (by rw [S0, ← hIf, aR_r _ _ (by decide), Ge 47 (by decide), Gc 47 (by decide)]) (by rw [hDe]; exact p4)
    rw [hDe] at t3 t4
    have G4 : Fr [46, 47, 57, 59, 61] Ic I4 := Fr_t (Fr_w Gf (by decide)) (Fr_w t1 (by decide))
    have G446 : F46 (10 :: scf) Ic I4 := fun j hj => by rw [t2 j (fun h => hj (List.mem_cons_of_mem _ h)), Gf46, Ge46 j hj]
    have y59 : ∀ i, i < 39 → I4 59 i = I 47 i := fun i hi => by rw [t1 59 (by decide)]; exact f59 i hi
    have R2 : ∃ I5, Fr [46, 58] I4 I5 ∧ F46 [26] I4 I5 ∧ (D = 0 → I5 = I4) ∧ (0 < D → I5 58 = remR (I 58) (I4 59) u ∧ I5 46 26 = nI (up12 u)) ∧ (if nI D ≤ 0 then aE d 243 130 [.ref 46, .int (nI K'), .int (nI D)] [] (g, I4, Jc, aP1 sl rd4 56) else aBv (aF d 221 [.ref 46, .ref 59] (g, I4, Jc, aP1 sl rd4 56)) (fun t0 => aE d 243 130 [.ref 46, .int (nI K'), .int (nI D)] [] t0)) = aE d 243 130 [.ref 46, .int (nI K'), .int (nI D)] [] (g, I5, Jc, aP1 sl rd4 56) := by
      by_cases h : D = 0
      · exact ⟨I4, Fr_r _ _, F46_r _ _, fun _ => rfl, fun q => by omega, by rw [h, if_pos (show nI 0 ≤ 0 by decide)]⟩
      · refine ⟨aR (aR I4 58 (remR (I4 58) (I4 59) u)) 46 (upd (I4 46) 26 (nI (up12 u))), Fr_s (Fr_s (Fr_r _ _) _ (by decide)) _ (by decide), fun j hj => by rw [aR_s, upd_n _ _ (by simpa using hj)], fun q => absurd q h, fun _ => ⟨?_, by rw [aR_s, upd_s]⟩, ?_⟩
        · rw [aR_r _ _ (by decide), aR_s, G4 58 (by decide), Gc 58 (by decide)]
        · rw [if_neg (show ¬ nI D ≤ 0 from nI_ge (a := 0) (by omega) (by omega)), f221_59 (u := u) (by rw [G446 26 (by decide), Gc 46 (by decide)]; exact w5) w2]
          rfl
    obtain ⟨I5, x1, x2, x3, x4, x5⟩ := R2
    have k47 : I5 47 = I4 47 := x1 47 (by decide)
    have e228 : aF d 228 [.ref 46, .ref 47] (g, aU I5 46 12 1, aU Jc 53 0 z1, aP1 sl rd4 56) = some (some (some (.int (tI (jn (S D) (I 14 11))))), (g, aU I5 46 12 1, aU Jc 53 0 z1, aP1 sl rd4 56)) := by
      rw [f228_47, jn_r, ← jn_rV, aU_r _ _ (show 47 ≠ 46 by decide), k47, t3, aU_i _ _ (show 8 ≠ 12 by decide), x2 8 (by decide), G446 8 (by decide), Gc 46 (by decide), ← hL]
    have R3 : aE d 243 130 [.ref 46, .int (nI K'), .int (nI D)] [] (g, I5, Jc, aP1 sl rd4 56) = some (some (some (.int (nI D))), (g, aU I5 46 12 2, aU (aU Jc 53 0 z1) 53 1 z2, aP1 sl rd4 56)) := by
      have T : aE d 243 149 [.ref 46, .int (nI K'), .int (nI D)] [] (g, aU I5 46 12 1, aU Jc 53 0 z1, aP1 sl rd4 56) = some (some (some (.int (nI D))), (g, aU I5 46 12 2, aU (aU Jc 53 0 z1) 53 1 z2, aP1 sl rd4 56)) := by
        rw [b243_149, e228]
        simp only [aBi]
        rw [b243_158, ← hz2]
        by_cases h : jn (S D) (I 14 11) = true
        · rw [h, if_neg (by decide), tell1]
          simp only [aBv]
          rw [b243_169]; rfl
        · rw [if_neg h, show jn (S D) (I 14 11) = false by simpa using h, if_pos tI_f, tell1]
          simp only [aBv]
          rw [b243_169]
      rw [b243_130, tell0, tell0]
      simp only [aBv]
      rw [← hz1] at T
      by_cases h : K' ≤ D
      · rw [if_pos h] at T
        rw [if_pos (nI_le h (by omega)), T, ← hz1, if_pos h]
      · rw [if_neg h] at T
        rw [if_neg (nI_ge (by omega) (by omega)), T, ← hz1, if_neg h]
    have e2 : aF d 243 [.ref 46] (g, Ic, Jc, aP1 sl rd 56) = some (some (some (.int (nI D))), (g, aU I5 46 12 2, aU (aU Jc 53 0 z1) 53 1 z2, aP1 sl rd4 56)) := by
      rw [u3, b243_48, decide_eq_true hw, if_neg (by decide), e222]
      simp only [aBv]
      rw [b243_70]
      exact (t4.trans x5).trans R3
    have G5 : Fr [46, 47, 57, 58, 59, 61] Ic (aU I5 46 12 2) := by rw [aU_R I5]; exact Fr_s (Fr_t (Fr_w G4 (by decide)) (Fr_w x1 (by decide))) _ (by decide)
    have G546 : F46 (10 :: 12 :: 26 :: scf) Ic (aU I5 46 12 2) := by
      intro j hj
      have n12 : j ≠ 12 := fun e => hj (by rw [e]; decide)
      have n26 : j ≠ 26 := fun e => hj (by rw [e]; decide)
      rw [aU_i _ _ n12, x2 j (by simpa using n26)]
      exact G446 j (fun h => hj (by
        rcases List.mem_cons.mp h with h | h
        · exact List.mem_cons.mpr (Or.inl h)
        · exact List.mem_cons_of_mem _ (List.mem_cons_of_mem _ (List.mem_cons_of_mem _ h))))
    refine ⟨_, _, _, _, _, rd4, n, m, q, e1, e2, zInv_up (zInv_X H ?_ ?_ ?_ ?_ ?_ ?_ ?_), ?_⟩
    · exact Fr_t (Fr_w Gc (by decide)) (Fr_w G5 (by decide))
    · intro j hj; rw [G546 j hj, Gc 46 (by decide)]
    · rw [G5 7 (by decide), ← hIc, aU_r _ _ (by decide), s1 7 (by decide), p1 7 (by decide), ← hIb, aR_r _ _ (by decide), aU_s]
    · rw [aU_i _ _ (by decide), x2 10 (by decide), t2 10 (by decide), Gf46, e10]
    · refine zR_2 ?_ ?_ ?_ ?_
      · rw [G5 12 (by decide), ← hIc, aU_s]
      · rw [aU_s]
      · rw [← hJc]; simp (disch := decide) only [aU_r, aU_i, aU_s]
      · rw [← hJc]; simp (disch := decide) only [aU_r, aU_i, aU_s]
    · have r47 : aU I5 46 12 2 47 = I4 47 := by rw [aU_r _ _ (by decide)]; exact k47
      have r24 : aU I5 46 12 2 24 = I2 24 := by rw [G5 24 (by decide), ← hIc, aU_r _ _ (by decide)]; exact k24
      rw [r47, r24]
      refine ⟨?_, ?_, p2.2.2⟩
      · rw [t3, p2.1, p3]
      · rw [t3]; exact p4 D (by omega) (Nat.le_refl _)
    · have r29 : aU I5 46 12 2 29 = I3 29 := by rw [G5 29 (by decide), ← hIc, aU_r _ _ (by decide)]
      have r30 : aU I5 46 12 2 30 = I3 30 := by rw [G5 30 (by decide), ← hIc, aU_r _ _ (by decide)]
      have r58 : aU I5 46 12 2 58 = I5 58 := aU_r _ _ (by decide)
      have r26 : aU I5 46 12 2 46 26 = I5 46 26 := aU_i _ _ (by decide)
      rw [r29, r30, r58, r26]
      by_cases h : D = 0
      · rw [x3 h, s2 h, G4 58 (by decide), Gc 58 (by decide), G446 26 (by decide), Gc 46 (by decide), G2 29 (by decide), G2 30 (by decide)]
        exact H.2.2.2.2.2.2.2.1
      · obtain ⟨y1, y2, y3⟩ := s3 (by omega)
        obtain ⟨y4, y5⟩ := x4 (by omega)
        rw [y1, y2, y3, y4, y5]
        exact ⟨up12 u, (x + 1) % 12, rfl, rfl, rfl, okU_push w6 (okS_congr hS z26 y59)⟩
    · rw [G5 0 (by decide), Gc 0 (by decide)]
  · obtain ⟨k, hk, ew⟩ : ∃ k, k ≤ 80 ∧ wr = nI k := by
      rcases wrk_W (len := len) (Nat.le_trans (rP_le hE k2) (by decide)) (wrk_K hE k2) with h | ⟨k, h1, h2⟩
      · exact absurd (hwr.symm.trans h) hw
      · exact ⟨k, h1, hwr.symm.trans h2⟩
    obtain ⟨X, K', p', I0, G, G46, q10, u1, u2, u3⟩ := R0 (aU I1 7 1 0) J (F1 46 (by decide)) (F1 52 (by decide))
    have e1 : aF d 102 [.ref 6] (g, I, J, aP1 sl rd 56) = some (some (some (.int (-1 - wr))), (g, aU I1 7 1 0, J, aP1 sl rd 56)) := by
      rw [C0, if_neg hw, b102_20, if_neg (by rw [ew]; exact m1_neg k hk)]
    have e2 : aF d 243 [.ref 46] (g, aU I1 7 1 0, J, aP1 sl rd 56) = some (some (some (.int (-1 - wr))), (g, pM (aR I0 61 X) p', J, aP1 sl 53 56)) := by
      rw [u3, b243_48, decide_eq_false hw, if_pos tI_f, pM_18, u1]
    have F2 : Fr (7 :: 12 :: 24 :: 29 :: 30 :: 47 :: 58 :: scr) I (pM (aR I0 61 X) p') := by
      unfold pM
      exact Fr_s (Fr_s (Fr_t (Fr_w F1 (by decide)) (Fr_w G (by decide))) _ (by decide)) _ (by decide)
    have F3 : Fr [46, 61] (aU I1 7 1 0) (pM (aR I0 61 X) p') := by
      unfold pM
      exact Fr_s (Fr_s (Fr_w G (by decide)) _ (by decide)) _ (by decide)
    have E2 : F46 (10 :: scf) I (pM (aR I0 61 X) p') := by
      intro j hj
      rw [pM_o _ _ (fun e => hj (by rw [e]; decide)) (fun e => hj (by rw [e]; decide)), aR_r _ _ (by decide), G46 j hj, F1 46 (by decide)]
    have kp : ∀ a, a ∉ [7, 9, 45, 46, 61] → pM (aR I0 61 X) p' a = I a := fun a ha => by
      rw [F3 a (fun h => ha (by simp at h ⊢; omega)), F1 a (fun h => ha (by simp at h ⊢; omega))]
    refine ⟨_, _, _, _, _, 53, n, m, q, e1, e2, zInv_up (zInv_X H F2 (F46_w E2 (by decide)) ?_ ?_ ?_ ?_ ?_), kp 0 (by decide)⟩
    · rw [F3 7 (by decide), aU_s]
    · rw [pM_o _ _ (by decide) (by decide), aR_r _ _ (by decide), q10]
    · rw [kp 12 (by decide), E2 12 (by decide)]; exact H.2.1
    · rw [kp 24 (by decide), kp 47 (by decide)]; exact hS
    · rw [kp 29 (by decide), kp 30 (by decide), kp 58 (by decide), E2 26 (by decide)]; exact H.2.2.2.2.2.2.2.1
end T00
