section T00
/-! order: tied -/
variable {d : Nat} {g : Nat × Nat × Nat} {I : Nat → Nat → Int32} {J : Nat → Nat → Int64} {sl rd rl : Nat} {t n m q : Nat}
def orS (st : Nat → Int32) (n : Nat) : Nat → Int32
  | 0 => 0
  | j + 1 => orS st n j ||| (1 <<< (fas st (orS st n j) n &&& 31))
def orJ (st : Nat → Int32) (n c : Nat) (J : Nat → Nat → Int64) : Nat → Nat → Nat → Int64
  | 0 => J
  | j + 1 => aU (orJ st n c J j) c j (Int32.toInt64 (fas st (orS st n j) n))
theorem orJ_r (st : Nat → Int32) (n : Nat) {c : Nat} (J : Nat → Nat → Int64) {b : Nat} (hb : b ≠ c) : ∀ j, orJ st n c J j b = J b
  | 0 => rfl
  | j + 1 => by
    show aU (orJ st n c J j) c j _ b = J b
    rw [aU_r _ _ hb]; exact orJ_r st n J hb j
theorem orJ_s (st : Nat → Int32) (n c : Nat) (J : Nat → Nat → Int64) : ∀ j i, i < j → orJ st n c J j c i = Int32.toInt64 (fas st (orS st n i) n)
  | 0, i, h => by omega
  | j + 1, i, h => by
    show aU (orJ st n c J j) c j _ c i = _
    by_cases e : i = j
    · subst e; rw [aU_s]
    · rw [aU_i _ _ e]; exact orJ_s st n c J j i (by omega)
theorem o247 {rs : Nat} {rv : (Nat → Int32) → Int32} {sk : Nat → Int32} {st : Nat → Int32} (hd : 41 ≤ d) (hV : rRule (I 55) rs rv) (hB : byR (I 55)) (hC : ∀ t t' : Nat → Int32, (∀ k, k < 8 → t k = t' k) → rv t = rv t') (hs : I 46 22 = nI rs) (hN : I 46 1 = nI n) (hn : n ≤ 8) (hc : clubs (fun i => I 47 (6 + i)) n) (hsk : ∀ i, i < n → I 48 i = sk i) (hst : st = sts rv sk (rV (I 47))) (wo : Int32) (a2 : Int32) : ∀ (M j : Nat) (a : Int32 × Int32) (I1 : Nat → Nat → Int32) (J : Nat → Nat → Int64) (rd1 : Nat), j + M = n → (a.1 = -1 ∨ ∃ i, i < j ∧ a = (nI i, st i)) → Fr [46, 57] I I1 → F46 [12, 15, 16, 17, 18, 23] I I1 → ∃ I' rd', Fr [46, 57] I I' ∧ F46 [12, 15, 16, 17, 18, 23] I I' ∧ I' 46 12 = I1 46 12 ∧ aE d 247 37 [.ref 46, .int wo, .int a2, .int a.1, .int (nI j)] [] (g, I1, J, aP1 sl rd1 56) = aE d 247 37 [.ref 46, .int wo, .int a2, .int (fo (fas1 st wo) M j a).1, .int (nI n)] [] (g, I', J, aP1 sl rd' 56) := by
  intro M
  induction M with
  | zero =>
    intro j a I1 J rd1 hj _ q1 q2
    obtain rfl : j = n := by omega
    exact ⟨I1, rd1, q1, q2, rfl, rfl⟩
  | succ M ih =>
    intro j a I1 J rd1 hj ha q1 q2
    have s209 : ∀ (i : Nat) (I1 : Nat → Nat → Int32) (rd1 : Nat), i < n → Fr [46, 57] I I1 → F46 [12, 15, 16, 17, 18, 23] I I1 → ∃ I' rd', Fr [46, 57] I I' ∧ F46 [12, 15, 16, 17, 18, 23] I I' ∧ I' 46 12 = I1 46 12 ∧ aF d 209 [.ref 46, .ref 47, .int (nI i)] (g, I1, J, aP1 sl rd1 56) = some (some (some (.int (st i))), (g, I', J, aP1 sl rd' 56)) := by
      intro i I1 rd1 hi q1 q2
      obtain ⟨k, hk, hI⟩ := hc i hi
      obtain ⟨I', rd', f1, f2, f3⟩ := f209 (d := d) (g := g) (I := I1) (J := J) (sl := sl) (rd := rd1) (i := i) (k := k) (rs := rs) (rv := rv) (sk := sk) hd (by rw [q1 55 (by decide)]; exact hV) (by rw [q1 55 (by decide)]; exact hB) hC (by rw [q2 22 (by decide)]; exact hs) (by omega) hk (by rw [q1 47 (by decide)]; exact hI) (by rw [q1 48 (by decide)]; exact hsk i hi)
      rw [q1 47 (by decide)] at f3
      refine ⟨I', rd', Fr_t q1 f1, F46_t q2 (F46_w f2 (by decide)), f2 12 (by decide), ?_⟩
      rw [f3, hst]; rfl
    have hN1 : I1 46 1 = nI n := (q2 1 (by decide)).trans hN
    have e1 : nI j + 1 = nI (j + 1) := nI_1 j
    rw [fo_1, b247_37, if_neg (by rw [hN1]; exact nI_ge (by omega) (by omega)), f217]
    simp only [aBi]
    rw [b247_52, e1]
    unfold fas1
    by_cases hh : hasT wo (nI j) = true
    · rw [if_pos hh, hh, if_neg (by decide)]
      exact ih (j + 1) a I1 J rd1 (by omega) (by
        rcases ha with h | ⟨i, hi, h⟩
        · exact Or.inl h
        · exact Or.inr ⟨i, by omega, h⟩) q1 q2
    · rw [if_neg hh, show hasT wo (nI j) = false by simpa using hh, if_pos tI_f]
      by_cases h1 : a.1 = -1
      · rw [if_pos h1, if_pos h1]
        exact ih (j + 1) (nI j, st j) I1 J rd1 (by omega) (Or.inr ⟨j, by omega, rfl⟩) q1 q2
      · rw [if_neg h1, if_neg h1]
        obtain ⟨i, hi, rfl⟩ : ∃ i, i < j ∧ a = (nI i, st i) := by
          rcases ha with h | h
          · exact absurd h h1
          · exact h
        obtain ⟨I2, rd2, f1, f2, f3, f4⟩ := s209 j I1 rd1 (by omega) q1 q2
        obtain ⟨I3, rd3, g1, g2, g3, g4⟩ := s209 i I2 rd2 (by omega) f1 f2
        rw [f4]
        simp only [aBi]
        rw [b247_70, g4]
        simp only [aBi]
        rw [b247_79, e1]
        by_cases h2 : st j ≤ st i
        · rw [if_pos h2, if_pos h2]
          obtain ⟨I', rd', r1, r2, r3, r4⟩ := ih (j + 1) (nI i, st i) I3 J rd3 (by omega) (Or.inr ⟨i, by omega, rfl⟩) g1 g2
          exact ⟨I', rd', r1, r2, r3.trans (g3.trans f3), r4⟩
        · rw [if_neg h2, if_neg h2]
          obtain ⟨I', rd', r1, r2, r3, r4⟩ := ih (j + 1) (nI j, st j) I3 J rd3 (by omega) (Or.inr ⟨j, by omega, rfl⟩) g1 g2
          exact ⟨I', rd', r1, r2, r3.trans (g3.trans f3), r4⟩
theorem tie_order (hd : 41 ≤ d) (H : zInv t n m q I J) : tie d 108 247 [] t g I J sl rd := by
  obtain ⟨hn, d1, d2, hD⟩ := H.2.2.1
  have hS := H.2.2.2.2.2.2.1
  obtain ⟨mm, kk, rv, v1, v2, v3, v4, v5, v6⟩ := zV_get H
  have sk := zD_s H
  by_cases h0 : n = 0
  · subst h0
    refine tie_0 (rd2 := rd) (v := -2) H (Fr_r _ _) (th_F _) (th_46 _) ?_ ?_
    · show aE d 108 0 [.ref 6, aNo, aNo, aNo] [] _ = _
      rw [b108_0, if_pos (show I 14 0 = 0 from d1)]
    · show aE d 247 0 [.ref 46, aNo, aNo, aNo, aNo] [] _ = _
      rw [b247_0, if_pos (show I 46 1 = 0 from d2)]
  have n0 : 0 < n := by omega
  have nz : ¬ nI n = 0 := nIz n0 (by omega)
  generalize hst : sts rv (I 15) (cV (I 24)) = st
  have f66' : ∀ (I1 : Nat → Nat → Int32) (J1 : Nat → Nat → Int64) (wo : Int32), Fr [12, 35, 36] I I1 → ∃ I', Fr [12, 35, 36] I I' ∧ I' 12 1 = I1 12 1 ∧ aF d 66 [.ref 33, .ref 14, .ref 23, .int wo] (g, I1, J1, aP1 sl rd 56) = some (some (some (.int (fas st wo n))), (g, I', J1, aP1 sl rd 56)) := by
    intro I1 J1 wo h
    obtain ⟨x, y, e⟩ := f66 (d := d) (g := g) (I := I1) (J := J1) (sl := sl) (rd := rd) (rl := 56) (m := mm) (nd := n) (rv := rv) (by rw [h 34 (by decide)]; exact v3) (by rw [h 33 (by decide)]; exact v1) (by rw [h 14 (by decide)]; exact d1) hn (by rw [h 24 (by decide)]; exact okS_cl hS hn) wo
    rw [h 15 (by decide), h 24 (by decide), hst] at e
    exact ⟨_, Fr_s (Fr_s h x (by decide)) y (by decide), by rw [aR_r _ _ (by decide), aR_r _ _ (by decide)], e⟩
  have lC : ∀ (M j : Nat) (I1 : Nat → Nat → Int32) (w3 : Value), j + M = n → Fr [12, 35, 36] I I1 → I1 12 1 = nI j → ∃ I', Fr [12, 35, 36] I I' ∧ I' 12 1 = nI n ∧ aE d 108 24 [.ref 6, .int (orS st n j), .int (nI j), w3] [] (g, I1, orJ st n 13 J j, aP1 sl rd 56) = some (some (some (.int (fas st 0 n))), (g, I', orJ st n 13 J n, aP1 sl rd 56)) := by
    intro M
    induction M with
    | zero =>
      intro j I1 w3 hj q1 q2
      obtain rfl : j = n := by omega
      obtain ⟨I', r1, r2, r3⟩ := f66' I1 (orJ st j 13 J j) 0 q1
      refine ⟨I', r1, r2.trans q2, ?_⟩
      rw [b108_24, q1 14 (by decide), d1, if_pos (Int32.le_refl _), r3]
      simp only [aBi]
      rw [b108_89]
    | succ M ih =>
      intro j I1 w3 hj q1 q2
      obtain ⟨I2, r1, r2, r3⟩ := f66' I1 (orJ st n 13 J j) (orS st n j) q1
      obtain ⟨I', s1, s2, s3⟩ := ih (j + 1) (aU I2 12 1 (nI (j + 1))) (.int (fas st (orS st n j) n)) (by omega) (by rw [aU_R]; exact Fr_s r1 _ (by decide)) (by rw [aU_s])
      refine ⟨I', s1, s2, ?_⟩
      rw [b108_24, q1 14 (by decide), d1, if_neg (nI_ge (by omega) (by omega)), r3]
      simp only [aBi]
      rw [b108_51, f85 (r2.trans q2) (by omega)]
      simp only [aBv]
      rw [b108_61, nI_1]
      exact s3
  obtain ⟨I1, p1, p2, p3⟩ := lC n 0 (aU I 12 1 0) aNo (by omega) (by rw [aU_R]; exact Fr_s (Fr_r _ _) _ (by decide)) (by rw [aU_s]; rfl)
  have e1 : aF d 108 [.ref 6] (g, I, J, aP1 sl rd 56) = some (some (some (.int (fas st 0 n))), (g, I1, orJ st n 13 J n, aP1 sl rd 56)) := by
    show aE d 108 0 [.ref 6, aNo, aNo, aNo] [] _ = _
    rw [b108_0, d1, if_neg nz, f84]
    simp only [aBv]
    rw [b108_20]
    exact p3
  generalize hJ1 : orJ st n 13 J n = J1 at e1
  have k46 : I1 46 = I 46 := p1 46 (by decide)
  have hst2 : st = sts rv (I 15) (rV (I1 47)) := by rw [p1 47 (by decide), ← hS.1, hst]
  have in1 : ∀ (wo a2 : Int32) (I2 : Nat → Nat → Int32) (J2 : Nat → Nat → Int64) (rd1 : Nat), Fr [46, 57] I1 I2 → F46 [12, 13, 15, 16, 17, 18, 23] I1 I2 → ∃ I' rd', Fr [46, 57] I1 I' ∧ F46 [12, 13, 15, 16, 17, 18, 23] I1 I' ∧ I' 46 12 = I2 46 12 ∧ aE d 247 37 [.ref 46, .int wo, .int a2, .int (-1), .int 0] [] (g, I2, J2, aP1 sl rd1 56) = aE d 247 37 [.ref 46, .int wo, .int a2, .int (fas st wo n), .int (nI n)] [] (g, I', J2, aP1 sl rd' 56) := by
    intro wo a2 I2 J2 rd1 q1 q2
    obtain ⟨I', rd', r1, r2, r3, r4⟩ := o247 (d := d) (g := g) (I := I2) (sl := sl) (n := n) (rs := kk) (rv := rv) (sk := I 15) (st := st) hd (by rw [q1 55 (by decide), p1 55 (by decide)]; exact v4) (by rw [q1 55 (by decide), p1 55 (by decide)]; exact v5) v6 (by rw [q2 22 (by decide), k46]; exact v2) (by rw [q2 1 (by decide), k46]; exact d2) hn (by rw [q1 47 (by decide), p1 47 (by decide)]; exact okS_clr hS hn) (by rw [q1 48 (by decide), p1 48 (by decide)]; exact sk) (by rw [q1 47 (by decide)]; exact hst2) wo a2 n 0 (-1, 0) I2 J2 rd1 (by omega) (Or.inl rfl) (Fr_r _ _) (F46_r _ _)
    exact ⟨I', rd', Fr_t q1 r1, F46_t q2 (F46_w r2 (by decide)), r3, r4⟩
  have lR : ∀ (M j : Nat) (I2 : Nat → Nat → Int32) (rd1 : Nat) (w3 w4 : Value), j + M = n → Fr [46, 57] I1 I2 → F46 [12, 13, 15, 16, 17, 18, 23] I1 I2 → I2 46 12 = nI j → ∃ I' rd', Fr [46, 57] I1 I' ∧ F46 [12, 13, 15, 16, 17, 18, 23] I1 I' ∧ I' 46 12 = nI n ∧ aE d 247 24 [.ref 46, .int (orS st n j), .int (nI j), w3, w4] [] (g, I2, orJ st n 53 J1 j, aP1 sl rd1 56) = some (some (some (.int (fas st 0 n))), (g, I', orJ st n 53 J1 n, aP1 sl rd' 56)) := by
    intro M
    induction M with
    | zero =>
      intro j I2 rd1 w3 w4 hj q1 q2 q3
      obtain rfl : j = n := by omega
      refine ⟨I2, rd1, q1, q2, q3, ?_⟩
      rw [b247_24, if_pos (by rw [q2 1 (by decide), k46, d2]; exact Int32.le_refl _), orJ_s _ _ _ _ _ _ n0, Int32.toInt32_toInt64]
      rfl
    | succ M ih =>
      intro j I2 rd1 w3 w4 hj q1 q2 q3
      obtain ⟨I3, rd3, r1, r2, r3, r4⟩ := in1 (orS st n j) (nI j) I2 (orJ st n 53 J1 j) rd1 q1 q2
      obtain ⟨I', rd', s1, s2, s3, s4⟩ := ih (j + 1) (aU I3 46 12 (nI (j + 1))) rd3 (.int (fas st (orS st n j) n)) (.int (nI n)) (by omega) (by rw [aU_R]; exact Fr_s r1 _ (by decide)) (fun k hk => by rw [aU_i _ _ (fun e => hk (by rw [e]; decide))]; exact r2 k hk) (by rw [aU_s])
      refine ⟨I', rd', s1, s2, s3, ?_⟩
      rw [b247_24, if_neg (by rw [q2 1 (by decide), k46, d2]; exact nI_ge (by omega) (by omega)), r4, b247_37, if_pos (by rw [r2 1 (by decide), k46, d2]; exact Int32.le_refl _), f229 (r3.trans q3) (by omega)]
      simp only [aBv]
      rw [b247_97, nI_1]
      exact s4
  obtain ⟨I2, rd2, r1, r2, r3, r4⟩ := lR n 0 (aU (aU I1 46 13 0) 46 12 0) rd aNo aNo (by omega) (by rw [aU_R, aU_R]; exact Fr_s (Fr_s (Fr_r _ _) _ (by decide)) _ (by decide)) (fun k hk => by rw [aU_i _ _ (fun e => hk (by rw [e]; decide)), aU_i _ _ (fun e => hk (by rw [e]; decide))]) (by rw [aU_s]; rfl)
  have e2 : aF d 247 [.ref 46] (g, I1, J1, aP1 sl rd 56) = some (some (some (.int (fas st 0 n))), (g, I2, orJ st n 53 J1 n, aP1 sl rd2 56)) := by
    show aE d 247 0 [.ref 46, aNo, aNo, aNo, aNo] [] _ = _
    rw [b247_0, if_neg (by rw [k46, d2]; exact nz)]
    exact r4
  refine tie_R H (Fr_w p1 (by decide)) (Fr_w r1 (by decide)) (F46_w r2 (by decide)) ?_ e1 e2
  refine ⟨n, hn, ?_, r3, fun i hi => ?_⟩
  · rw [r1 12 (by decide)]; exact p2
  · rw [orJ_s _ _ _ _ _ _ hi, orJ_r _ _ _ (by decide), ← hJ1, orJ_s _ _ _ _ _ _ hi]
end T00
