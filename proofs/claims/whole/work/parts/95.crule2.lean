/-! the class reads a rule, all of it -/
variable {d : Nat} {g : Nat × Nat × Nat} {I : Nat → Nat → Int32} {J : Nat → Nat → Int64} {sl rd rl : Nat} {t n m q : Nat}
/-- what holds on the way -/
def yO (y : yC) : Prop := y.1.1 ≤ 40 ∧ y.2.1.length + y.2.2.1.length ≤ 40 ∧ (y.1.2 = -1 → y.2.1.length + y.2.2.1.length ≤ y.1.1) ∧ y.2.2.2.1 ≤ 4
section C
variable {len : Nat} {sg : Nat → Int32}
theorem yO_s (hE : sgE sg 40) {y : yC} (h : yO y) (hp : ¬ pk sg y.1 = -1) : yO (yS sg y) := by
  obtain ⟨p, c, w, e, m, b⟩ := y
  obtain ⟨h1, h2, h3, h4⟩ := h
  dsimp only at h1 h2 h3 h4 hp
  have p2 := pk_2 hp
  have p40 := pk_at hE hp
  have hl := h3 p2
  unfold yS
  dsimp only
  split
  · unfold yT
    split
    · exact ⟨p40, by show c.length + (w.length + 1) ≤ 40; omega, fun _ => by show c.length + (w.length + 1) ≤ p.1 + 1; omega, h4⟩
    · split
      · rename_i q
        exact ⟨p40, by show c.length + (w.length + 1) ≤ 40; omega, fun _ => by show c.length + (w.length + 1) ≤ p.1 + 1; omega, q.2⟩
      · have hc : ∀ x : Int32, (c ++ [x]).length = c.length + 1 := fun x => by rw [List.length_append]; rfl
        split
        · refine ⟨(nm_at hE 2 h1).2, by show (c ++ _).length + w.length ≤ 40; rw [hc]; omega, fun q => ?_, h4⟩
          have := nm_ok (sg := sg) (p := p) (by omega) p2 hE h1 q
          show (c ++ _).length + w.length ≤ (nm sg 2 p).2.1
          rw [hc]
          omega
        · exact ⟨p40, by show (c ++ _).length + w.length ≤ 40; rw [hc]; omega, fun _ => by show (c ++ _).length + w.length ≤ p.1 + 1; rw [hc]; omega, h4⟩
  · unfold yG
    split
    · have hs := stl_len 1 w c
      have ht : (stl 1 c w).2.tail.length ≤ (stl 1 c w).2.length := by rw [List.length_tail]; omega
      exact ⟨p40, by show (stl 1 c w).1.length + (stl 1 c w).2.tail.length ≤ 40; omega, fun _ => by show (stl 1 c w).1.length + (stl 1 c w).2.tail.length ≤ p.1 + 1; omega, by show e - 1 ≤ 4; omega⟩
    · split
      · exact ⟨by show (flt p (nI p.1)).1 ≤ 40; rw [flt_1]; exact h1, h2, fun _ => by show c.length + w.length ≤ (flt p (nI p.1)).1; rw [flt_1]; exact hl, h4⟩
      · have hs := stl_len (bnd (pk sg p)) w c
        exact ⟨p40, by show (stl (bnd (pk sg p)) c w).1.length + ((stl (bnd (pk sg p)) c w).2.length + 1) ≤ 40; omega, fun _ => by show (stl (bnd (pk sg p)) c w).1.length + ((stl (bnd (pk sg p)) c w).2.length + 1) ≤ p.1 + 1; omega, h4⟩
/-- where it stands when all is read -/
def yF2 (y : yC) : Nat × Int32 := if y.2.2.2.2.2 = true ∨ 0 < y.2.2.2.1 then flt y.1 (nI y.1.1) else y.1
theorem yF2_1 (y : yC) : (yF2 y).1 = y.1.1 := by unfold yF2; split <;> first | rfl | exact flt_1 _ _
theorem yF2_2 (y : yC) : (yF2 y).2 = yW y := by unfold yF2 yW; split <;> rfl
theorem l27 (hl : I 7 1 = nI len) (h1 : len ≤ 80) (hsg : sg = sgc (I 8) len 40) (hC : ∀ a, a < len → ∃ k, k < 256 ∧ I 8 a = nI k) (h4 : ∀ j, j < 8 → I 4 j = aThg.getD j 0) (hm : I 9 1 = nI 40) : ∀ (M j : Nat) (y : yC) (I1 : Nat → Nat → Int32), j + M = 40 → Fr [10, 11, 37, 38] I I1 → yJ I1 y → yO y → ∃ I' w3, Fr [10, 11, 37, 38] I I' ∧ yJ I' (yL sg M y) ∧ yO (yL sg M y) ∧ aE d 27 32 [.ref 10, .ref 37, .int (tI y.2.2.2.2.2), .int (nI j)] [] (g, pC I1 y.1, J, aP1 sl rd rl) = aE d 27 98 [.ref 10, .ref 37, .int (tI (yL sg M y).2.2.2.2.2), w3] [] (g, pC I' (yF2 (yL sg M y)), J, aP1 sl rd rl) := by
  have hE : sgE sg 40 := by rw [hsg]; exact sgc_E _ _ _
  have fin : ∀ (y : yC) (I1 : Nat → Nat → Int32) (w3 : Value), yJ I1 y → yO y → (if tI y.2.2.2.2.2 = 0 then (if pC I1 y.1 10 3 ≤ 0 then aE d 27 98 [.ref 10, .ref 37, .int (tI y.2.2.2.2.2), w3] [] (g, pC I1 y.1, J, aP1 sl rd rl) else (aBv (aF d 37 [.ref 9, .int (pC I1 y.1 9 2)] (g, pC I1 y.1, J, aP1 sl rd rl)) (fun t1 => aE d 27 98 [.ref 10, .ref 37, .int (tI y.2.2.2.2.2), w3] [] t1))) else (aBv (aF d 37 [.ref 9, .int (pC I1 y.1 9 2)] (g, pC I1 y.1, J, aP1 sl rd rl)) (fun t0 => aE d 27 98 [.ref 10, .ref 37, .int (tI y.2.2.2.2.2), w3] [] t0))) = aE d 27 98 [.ref 10, .ref 37, .int (tI y.2.2.2.2.2), w3] [] (g, pC I1 (yF2 y), J, aP1 sl rd rl) := by
    intro y I1 w3 hy ho
    have i3 : pC I1 y.1 10 3 = nI y.2.2.2.1 := by rw [pC_r _ _ (by decide)]; exact hy.2.2.2.2.1
    have h4 := ho.2.2.2
    rw [pC_2, f37, i3]
    simp only [aBv]
    unfold yF2
    cases hb : y.2.2.2.2.2 with
    | false =>
      rw [if_pos tI_f]
      by_cases he : 0 < y.2.2.2.1
      · rw [if_neg (show ¬ nI y.2.2.2.1 ≤ 0 from nI_ge (a := 0) he (by omega)), if_pos (Or.inr he)]
      · rw [if_pos (show nI y.2.2.2.1 ≤ 0 from by rw [show y.2.2.2.1 = 0 by omega]; decide), if_neg (by rintro (q | q); exact absurd q (by decide); exact he q)]
    | true => rw [if_neg (show ¬ tI true = 0 by decide), if_pos (Or.inl rfl)]
  intro M
  induction M with
  | zero =>
    intro j y I1 hj hF hy ho
    obtain rfl : j = 40 := by omega
    refine ⟨I1, .int (nI 40), hF, hy, ho, ?_⟩
    rw [b27_32, if_pos (by decide)]
    exact fin y I1 _ hy ho
  | succ M ih =>
    intro j y I1 hj hF hy ho
    have hl1 : I1 7 1 = nI len := by rw [hF 7 (by decide)]; exact hl
    have h8 : I1 8 = I 8 := hF 8 (by decide)
    have hm1 : I1 9 1 = nI 40 := by rw [hF 9 (by decide)]; exact hm
    have e30 := f30 (d := d) (g := g) (I := I1) (J := J) (sl := sl) (rd := rd) (rl := rl) (p := y.1) (len := len) (top := 40) hm1 hl1 h1 (by decide) (Nat.le_trans ho.1 (by decide))
    rw [h8, ← hsg] at e30
    have E0 : aE d 27 32 [.ref 10, .ref 37, .int (tI y.2.2.2.2.2), .int (nI j)] [] (g, pC I1 y.1, J, aP1 sl rd rl) = aE d 27 45 [.ref 10, .ref 37, .int (tI y.2.2.2.2.2), .int (nI j)] [.int (pk sg y.1)] (g, pC I1 y.1, J, aP1 sl rd rl) := by
      rw [b27_32, if_neg (show ¬ (40 : Int32) ≤ nI j from nI_ge (b := 40) (by omega) (by decide)), e30]
      rfl
    rw [E0, b27_45]
    by_cases hp : pk sg y.1 = -1
    · have el : yL sg (M + 1) y = y := if_pos hp
      rw [el, if_pos hp]
      exact ⟨I1, .int (nI j), hF, hy, ho, fin y I1 _ hy ho⟩
    · have el : yL sg (M + 1) y = yL sg M (yS sg y) := if_neg hp
      have ho2 := yO_s hE ho hp
      have p40 := pk_at hE hp
      have hn : y.2.1.length + y.2.2.1.length < 40 := Nat.lt_of_le_of_lt (ho.2.2.1 (pk_2 hp)) p40
      rw [el, if_neg hp]
      cases hb : y.2.2.2.2.2 with
      | true =>
        have es : yS sg y = yT sg y.1 y.2.1 y.2.2.1 y.2.2.2.1 y.2.2.2.2.1 := if_pos hb
        obtain ⟨I2, z1, z2, z3⟩ := f31 (d := d) (g := g) (J := J) (sl := sl) (rd := rd) (rl := rl) (I := I1) (len := len) (sg := sg) (p := y.1) hm1 hl1 h1 (by rw [h8]; exact hsg) (by rw [h8]; exact hC) (fun j hj => by rw [hF 4 (by decide)]; exact h4 j hj) hp hy hn ho.2.2.2
        rw [← es] at z2 z3
        obtain ⟨I', w3, u1, u2, u3, u4⟩ := ih (j + 1) (yS sg y) I2 (by omega) (Fr_t hF z1) z2 ho2
        refine ⟨I', w3, u1, u2, u3, ?_⟩
        rw [if_neg (by decide), z3]
        simp only [aBi]
        rw [b27_58, b27_66, nI_1]
        exact u4
      | false =>
        have es : yS sg y = yG sg y.1 y.2.1 y.2.2.1 y.2.2.2.1 y.2.2.2.2.1 := if_neg (by rw [hb]; decide)
        obtain ⟨I2, z1, z2, z3⟩ := f38 (d := d) (g := g) (J := J) (sl := sl) (rd := rd) (rl := rl) (I := I1) (len := len) (sg := sg) (p := y.1) hm1 hl1 h1 (by rw [h8]; exact hsg) hp p40 hy hn ho.2.2.2
        rw [← es] at z2 z3
        obtain ⟨I', w3, u1, u2, u3, u4⟩ := ih (j + 1) (yS sg y) I2 (by omega) (Fr_t hF z1) z2 ho2
        refine ⟨I', w3, u1, u2, u3, ?_⟩
        rw [if_pos (by decide), z3]
        simp only [aBi]
        rw [b27_66, nI_1]
        exact u4
theorem f27 (hl : I 7 1 = nI len) (h1 : len ≤ 80) (hsg : sg = sgc (I 8) len 40) (hC : ∀ a, a < len → ∃ k, k < 256 ∧ I 8 a = nI k) (h4 : ∀ j, j < 8 → I 4 j = aThg.getD j 0) : ∃ I', Fr [9, 10, 11, 37, 38] I I' ∧ (stl 1 (yE sg).2.1 (yE sg).2.2.1).1.length ≤ 40 ∧ I' 37 1 = nI (stl 1 (yE sg).2.1 (yE sg).2.2.1).1.length ∧ cde (I' 38) (stl 1 (yE sg).2.1 (yE sg).2.2.1).1 ∧ aF d 27 [.ref 10, .ref 37] (g, I, J, aP1 sl rd rl) = some (some (some (.int (if rW (yF2 (yE sg)) len = -1 then 0 else -1 - rW (yF2 (yE sg)) len))), (g, I', J, aP1 sl rd rl)) := by
  have e28 : aF d 28 [.ref 37] (g, I, J, aP1 sl rd rl) = some (some none, (g, aU I 37 1 0, J, aP1 sl rd rl)) := b28_0 ..
  generalize hI0 : aU (aU (aU (aU (aU I 37 1 0) 9 1 (nI 40)) 10 2 0) 10 3 0) 10 4 0 = I0
  have F0 : Fr [9, 10, 11, 37, 38] I I0 := by
    rw [← hI0]; simp only [aU_R]; exact Fr_s (Fr_s (Fr_s (Fr_s (Fr_s (Fr_r _ _) _ (by decide)) _ (by decide)) _ (by decide)) _ (by decide)) _ (by decide)
  have E0 : aF d 27 [.ref 10, .ref 37] (g, I, J, aP1 sl rd rl) = aE d 27 32 [.ref 10, .ref 37, .int 1, .int 0] [] (g, pC I0 (0, -1), J, aP1 sl rd rl) := by
    show aE d 27 0 [.ref 10, .ref 37, aNo, aNo] [] _ = _
    rw [b27_0, e28]
    simp only [aBv]
    rw [b27_4, f29]
    simp only [aBv]
    rw [b27_13, pC_a _ _ (by decide), pC_a _ _ (by decide), pC_a _ _ (by decide), ← hI0]
    rfl
  obtain ⟨I1, w3, u1, u2, u3, u4⟩ := l27 (d := d) (g := g) (J := J) (sl := sl) (rd := rd) (rl := rl) (I := I0) (len := len) (sg := sg) (by rw [F0 7 (by decide)]; exact hl) h1 (by rw [F0 8 (by decide)]; exact hsg) (by rw [F0 8 (by decide)]; exact hC) (fun j hj => by rw [F0 4 (by decide)]; exact h4 j hj) (by rw [← hI0, aU_r _ _ (by decide), aU_r _ _ (by decide), aU_r _ _ (by decide), aU_s]) 40 0 ((0, -1), [], [], 0, 0, true) I0 rfl (Fr_r _ _) (by
    refine ⟨?_, (by intro i x h; cases h), ?_, trivial, ?_, ?_⟩
    · rw [← hI0, aU_r _ _ (by decide), aU_r _ _ (by decide), aU_r _ _ (by decide), aU_r _ _ (by decide), aU_s]; rfl
    · rw [← hI0, aU_i _ _ (by decide), aU_i _ _ (by decide), aU_s]; try rfl
    · rw [← hI0, aU_i _ _ (by decide), aU_s]; try rfl
    · rw [← hI0, aU_s]) ⟨by show 0 ≤ 40; omega, by show 0 + 0 ≤ 40; omega, fun _ => by show 0 + 0 ≤ 0; omega, by show 0 ≤ 4; omega⟩
  have u4 : aE d 27 32 [.ref 10, .ref 37, .int 1, .int 0] [] (g, pC I0 (0, -1), J, aP1 sl rd rl) = aE d 27 98 [.ref 10, .ref 37, .int (tI (yE sg).2.2.2.2.2), w3] [] (g, pC I1 (yF2 (yE sg)), J, aP1 sl rd rl) := u4
  have u2 : yJ I1 (yE sg) := u2
  have u3 : yO (yE sg) := u3
  obtain ⟨I2, z1, z2, z3⟩ := f40 (d := d) (g := g) (J := J) (sl := sl) (rd := rd) (rl := rl) (b := 1) (p := yF2 (yE sg)) u2 u3.2.1
  have hs := stl_len 1 (yE sg).2.2.1 (yE sg).2.1
  have l41 := u3.2.1
  obtain ⟨p', y1⟩ := f41 (d := d) (g := g) (J := J) (sl := sl) (rd := rd) (rl := rl) (I := I2) (len := len) (p := yF2 (yE sg)) (by rw [z1 7 (by decide), u1 7 (by decide), F0 7 (by decide)]; exact hl) h1 (by rw [yF2_1]; exact Nat.le_trans u3.1 (by decide)) 0
  refine ⟨pC I2 p', ?_, by omega, ?_, ?_, ?_⟩
  · unfold pC
    exact Fr_s (Fr_t (Fr_t F0 (Fr_w u1 (by decide))) (Fr_w z1 (by decide))) _ (by decide)
  · rw [pC_r _ _ (by decide)]; exact z2.1
  · rw [pC_r _ _ (by decide)]; exact z2.2.1
  · rw [E0, u4, b27_98, z3]
    simp only [aBv]
    rw [b27_104, y1]
    simp only [aBi]
    rw [b27_112]
/-! the standing rule's text -/
theorem std17 : ∀ j, j < 17 → UInt32.toInt32 (Int32.toUInt32 ((aStd.getD j 0) &&& 255) % 65536) = aStd.getD j 0 := by decide +kernel
theorem f25 (h3 : ∀ j, j < 17 → I 3 j = aStd.getD j 0) : ∃ I', Fr [7, 8] I I' ∧ I' 7 1 = nI 17 ∧ (∀ j, j < 17 → I' 8 j = aStd.getD j 0) ∧ aF d 25 [.ref 7, .ref 1] (g, I, J, aP1 sl rd rl) = some (some none, (g, I', J, aP1 sl rd rl)) := by
  have e0 : ∀ I1 : Nat → Nat → Int32, aF d 0 [.ref 1] (g, I1, J, aP1 sl rd rl) = some (some (some (.int 17)), (g, I1, J, aP1 sl rd rl)) := by
    intro I1
    have e1 : aF d 1 [.ref 1] (g, I1, J, aP1 sl rd rl) = some (some (some (.int 0)), (g, I1, J, aP1 sl rd rl)) := b1_0 ..
    show aE d 0 0 [.ref 1] [] _ = _
    rw [b0_0, e1]
    simp only [aBi]
    rw [b0_9]
    rfl
  have e2 : ∀ (I1 : Nat → Nat → Int32) (j : Nat), j < 17 → I1 3 j = aStd.getD j 0 → aF d 2 [.ref 1, .int (nI j)] (g, I1, J, aP1 sl rd rl) = some (some (some (.int (UInt32.toInt32 (Int32.toUInt32 ((aStd.getD j 0) &&& 255) % 65536)))), (g, I1, J, aP1 sl rd rl)) := by
    intro I1 j hj hb
    have e3 : aF d 3 [.ref 1] (g, I1, J, aP1 sl rd rl) = some (some (some (.int 1)), (g, I1, J, aP1 sl rd rl)) := b3_0 ..
    have e6 : aF d 6 [.int (nI j), .int 17, .ref 5] (g, I1, J, aP1 sl rd rl) = some (some (some (.int (nI j))), (g, I1, J, aP1 sl rd rl)) := by
      show aE d 6 0 [.int (nI j), .int 17, .ref 5] [] _ = _
      rw [b6_0, if_neg (nI_pos (by omega)), if_pos (show nI j < 17 from nI_lt (b := 17) hj (by decide))]
    have e5 : aF d 5 [.int (nI j), .int 17] (g, I1, J, aP1 sl rd rl) = some (some none, (g, I1, J, aP1 sl rd rl)) := by
      show aE d 5 0 [.int (nI j), .int 17] [] _ = _
      rw [b5_0, e6]
      simp only [aBi]
      rw [b5_8]
    have e4 : aF d 4 [.ref 3, .int (nI j)] (g, I1, J, aP1 sl rd rl) = some (some (some (.int (UInt32.toInt32 (Int32.toUInt32 ((aStd.getD j 0) &&& 255) % 65536)))), (g, I1, J, aP1 sl rd rl)) := by
      show aE d 4 0 [.ref 3, .int (nI j)] [] _ = _
      rw [b4_0, e5]
      simp only [aBv]
      rw [b4_6, nI_clamp (by omega), if_neg (by rintro (q | q); exact nI_pos (by omega) q; omega), hb, if_pos (pk_nc _)]
    show aE d 2 0 [.ref 1, .int (nI j)] [] _ = _
    rw [b2_0, e3]
    simp only [aBi]
    rw [b2_4, if_neg (by decide), e4]
    simp only [aBi]
    rw [b2_15, if_pos (pk_nc _)]
  have lp : ∀ (M j : Nat) (I1 : Nat → Nat → Int32), j + M = 17 → Fr [7, 8] I I1 → I1 7 1 = nI j → (∀ i, i < j → I1 8 i = aStd.getD i 0) → ∃ I', Fr [7, 8] I I' ∧ I' 7 1 = nI 17 ∧ (∀ i, i < 17 → I' 8 i = aStd.getD i 0) ∧ aE d 25 7 [.ref 7, .ref 1, .int (nI j)] [] (g, I1, J, aP1 sl rd rl) = some (some none, (g, I', J, aP1 sl rd rl)) := by
    intro M
    induction M with
    | zero =>
      intro j I1 hj hF h7 h8
      obtain rfl : j = 17 := by omega
      refine ⟨I1, hF, h7, h8, ?_⟩
      rw [b25_7, e0]
      simp only [aBi]
      rw [b25_12, if_pos (by decide)]
    | succ M ih =>
      intro j I1 hj hF h7 h8
      obtain ⟨I', z1, z2, z3, z4⟩ := ih (j + 1) (aR (aR I1 8 (upd (I1 8) j (aStd.getD j 0))) 7 (upd (I1 7) 1 (nI (j + 1)))) (by omega) (Fr_s (Fr_s hF _ (by decide)) _ (by decide)) (by rw [aR_s, upd_s]) (fun i hi => by
        rw [aR_r _ _ (by decide), aR_s]
        by_cases e : i = j
        · subst e; exact upd_s _ _ _
        · rw [upd_n _ _ e]; exact h8 i (by omega))
      refine ⟨I', z1, z2, z3, ?_⟩
      rw [b25_7, e0]
      simp only [aBi]
      rw [b25_12, if_neg (show ¬ (17 : Int32) ≤ nI j from nI_ge (b := 17) (by omega) (by decide)), e2 I1 j (by omega) (by rw [hF 3 (by decide)]; exact h3 j (by omega))]
      simp only [aBi]
      rw [b25_21, f26 h7 (by omega), pk_vc, std17 j (by omega)]
      simp only [aBv]
      rw [b25_24, nI_1]
      exact z4
  obtain ⟨I', z1, z2, z3, z4⟩ := lp 17 0 (aU I 7 1 0) rfl (by rw [aU_R]; exact Fr_s (Fr_r _ _) _ (by decide)) (by rw [aU_s]; rfl) (fun i hi => by omega)
  refine ⟨I', z1, z2, z3, ?_⟩
  show aE d 25 0 [.ref 7, .ref 1, aNo] [] _ = _
  rw [b25_0]
  exact z4
end C
/-! a code worked out: list and row -/
theorem sm_ev (t : Nat → Int32) (one : Int32) {r : Nat → Int32} {S : List Int32} (h : stk r S) (hl : S.length < 40) : stk (sm1 t one (r, S.length)).1 (ev1 t one S) ∧ (sm1 t one (r, S.length)).2 = (ev1 t one S).length ∧ (ev1 t one S).length ≤ S.length + 1 := by
  have h40 : ¬ 40 ≤ S.length := by omega
  unfold sm1 ev1
  by_cases h2 : 2000 ≤ one
  · have hn : ¬ one < 2000 := by rw [int_lt]; rw [int_le] at h2; omega
    simp only [h2, true_or, if_true]
    by_cases h3 : one = 2256
    · cases S with
      | nil =>
        simp only [h3, if_true, true_and, List.length_nil, Nat.lt_irrefl, if_false, Nat.zero_le, or_true]
        first | exact ⟨trivial, rfl, by omega⟩ | exact trivial | exact ⟨trivial, by omega⟩ | exact ⟨trivial, trivial, by omega⟩ | simp [stk]
      | cons a S =>
        have hz : 0 < (a :: S).length := Nat.succ_pos _
        have el : (a :: S).length - 1 = S.length := rfl
        simp only [h3, if_true, true_and, hz, el]
        refine ⟨⟨?_, stk_u _ h.2 (Nat.le_refl _)⟩, rfl, Nat.le_succ _⟩
        rw [upd_s, h.1]
    · simp only [h3, false_and, if_false]
      cases S with
      | nil =>
        simp only [List.length_nil, Nat.zero_le, or_true, if_true]
        first | exact ⟨trivial, rfl, by omega⟩ | exact trivial | exact ⟨trivial, by omega⟩ | exact ⟨trivial, trivial, by omega⟩ | simp [stk]
      | cons b S =>
        cases S with
        | nil =>
          simp only [List.length_cons, List.length_nil, Nat.zero_add, Nat.le_refl, or_true, if_true]
          first | exact ⟨h, rfl, by omega⟩ | exact ⟨h, trivial, by omega⟩ | exact ⟨h, trivial, trivial⟩ | exact ⟨h, by simp⟩
        | cons a S =>
          have e1 : ¬ (one < 2000 ∨ (b :: a :: S).length ≤ 1) := by
            rintro (q | q)
            · exact hn q
            · have q : S.length + 2 ≤ 1 := q
              omega
          have e2 : (b :: a :: S).length - 2 = S.length := rfl
          have e3 : (b :: a :: S).length - 1 = S.length + 1 := rfl
          rw [if_neg e1, e2, e3]
          have hb : r (S.length + 1) = b := h.1
          have ha : r S.length = a := h.2.1
          refine ⟨⟨?_, stk_u _ h.2.2 (Nat.le_refl _)⟩, rfl, ?_⟩
          · show upd r S.length _ S.length = _
            rw [upd_s, hb, ha]
          · show S.length + 1 ≤ S.length + 2 + 1
            omega
  · simp only [h2, h40, or_self, if_false]
    exact ⟨stk_p h _, rfl, Nat.le_refl _⟩
theorem sm_all (t code : Nat → Int32) : ∀ (c : List Int32) (o : Nat) (r : Nat → Int32) (S : List Int32), (∀ i x, c[i]? = some x → code (o + i) = x) → stk r S → S.length + c.length ≤ 40 → ∃ r', fo (fun i y => sm1 t (code i) y) c.length o (r, S.length) = (r', (ev t c S).length) ∧ stk r' (ev t c S) := by
  intro c
  induction c with
  | nil => intro o r S _ h _; exact ⟨r, rfl, h⟩
  | cons x c ih =>
    intro o r S hc h hl
    have hl : S.length + (c.length + 1) ≤ 40 := hl
    have ex : code o = x := hc 0 x rfl
    obtain ⟨z1, z2, z3⟩ := sm_ev t x h (by omega)
    obtain ⟨r', y1, y2⟩ := ih (o + 1) (sm1 t x (r, S.length)).1 (ev1 t x S) (fun i y hy => by
      rw [show o + 1 + i = o + (i + 1) by omega]
      exact hc (i + 1) y hy) z1 (by omega)
    refine ⟨r', ?_, y2⟩
    show fo (fun i y => sm1 t (code i) y) c.length (o + 1) (sm1 t (code o) (r, S.length)) = _
    rw [ex]
    have : sm1 t x (r, S.length) = ((sm1 t x (r, S.length)).1, (ev1 t x S).length) := by rw [← z2]
    rw [this]
    exact y1
theorem cRule_of {code : Nat → Int32} {c : List Int32} {rv : (Nat → Int32) → Int32} (hl : c.length ≤ 40) (hc : cde code c) (he : ∀ t, ev t c [] = [rv t]) : cRule code c.length rv := by
  refine ⟨hl, fun t y => ?_⟩
  obtain ⟨r', h1, h2⟩ := sm_all t code c 0 y [] (fun i x hx => by rw [Nat.zero_add]; exact hc i x hx) trivial (by show 0 + c.length ≤ 40; omega)
  unfold smR
  have h1 : fo (fun i y => sm1 t (code i) y) c.length 0 (y, 0) = (r', (ev t c []).length) := h1
  rw [h1]
  rw [he t] at h2
  exact h2.1
