/-! a rule's text, both sides -/
variable {d : Nat} {g : Nat × Nat × Nat} {I : Nat → Nat → Int32} {J : Nat → Nat → Int64} {sl rd rl : Nat} {t n m q : Nat}
/-! the standing rule -/
def sgS : Nat → Int32 := sgc (fun j => aStd.getD j 0) 17 40
def cdS : List Int32 := [1000, 10, 2042, 1001, 15, 2042, 2045, 1004, 1002, 2043, 3, 2047, 2043]
set_option maxRecDepth 100000 in
theorem std_r : rW (yF2 (yE sgS)) 17 = -1 ∧ (stl 1 (yE sgS).2.1 (yE sgS).2.2.1).1 = cdS := by decide +kernel
theorem std_v (t : Nat → Int32) : ev t cdS [] = [t 0 * 10 - t 1 * 15 + (t 4 + t 2) / 3] := rfl
section C
variable {len : Nat} {sg : Nat → Int32}
theorem f24 (hl : I 7 1 = nI len) (h1 : len ≤ 80) (h0 : 0 < len) (hsg : sg = sgc (I 8) len 40) (hC : ∀ a, a < len → ∃ k, k < 256 ∧ I 8 a = nI k) (h4 : ∀ j, j < 8 → I 4 j = aThg.getD j 0) : ∃ I', Fr [7, 8, 9, 10, 11, 37, 38] I I' ∧ I' 7 1 = 0 ∧ (stl 1 (yE sg).2.1 (yE sg).2.2.1).1.length ≤ 40 ∧ I' 37 1 = nI (stl 1 (yE sg).2.1 (yE sg).2.2.1).1.length ∧ cde (I' 38) (stl 1 (yE sg).2.1 (yE sg).2.2.1).1 ∧ aF d 24 [.ref 6, .ref 37] (g, I, J, aP1 sl rd rl) = some (some (some (.int (if rW (yF2 (yE sg)) len = -1 then 0 else -1 - rW (yF2 (yE sg)) len))), (g, I', J, aP1 sl rd rl)) := by
  obtain ⟨I', z1, z2, z3, z4, z5⟩ := f27 (d := d) (g := g) (I := I) (J := J) (sl := sl) (rd := rd) (rl := rl) hl h1 hsg hC h4
  have e7 : I' 7 1 = nI len := by rw [z1 7 (by decide)]; exact hl
  refine ⟨aU I' 7 1 0, ?_, aU_s .., z2, ?_, ?_, ?_⟩
  · rw [aU_R]; exact Fr_s (Fr_w z1 (by decide)) _ (by decide)
  · rw [aU_r _ _ (by decide)]; exact z3
  · rw [aU_r _ _ (by decide)]; exact z4
  · show aE d 24 0 [.ref 6, .ref 37, aNo] [] _ = _
    rw [b24_0, hl, if_neg (nI_ne0 h0 (by omega)), b24_20, z5]
    simp only [aBi]
    rw [b24_28, f42, e7, if_neg (by
      rintro (h | h)
      · exact absurd h (by decide)
      · exact nI_pos (by omega) h)]
    simp only [aBi]
    rw [b24_37]
theorem f24s (hl : I 7 1 = nI 0) (h3 : ∀ j, j < 17 → I 3 j = aStd.getD j 0) (h4 : ∀ j, j < 8 → I 4 j = aThg.getD j 0) : ∃ I', Fr [7, 8, 9, 10, 11, 37, 38] I I' ∧ I' 7 1 = 0 ∧ I' 37 1 = nI cdS.length ∧ cde (I' 38) cdS ∧ aF d 24 [.ref 6, .ref 37] (g, I, J, aP1 sl rd rl) = some (some (some (.int 0)), (g, I', J, aP1 sl rd rl)) := by
  obtain ⟨I1, y1, y2, y3, y4⟩ := f25 (d := d) (g := g) (I := I) (J := J) (sl := sl) (rd := rd) (rl := rl) h3
  have hsg : sgS = sgc (I1 8) 17 40 := by
    funext a
    unfold sgS sgc
    by_cases h : a < 17 ∧ a < 40
    · rw [if_pos h, if_pos h, y3 a h.1]
    · rw [if_neg h, if_neg h]
  have hC : ∀ a, a < 17 → ∃ k, k < 256 ∧ I1 8 a = nI k := fun a ha => by
    have : ∀ a, a < 17 → (aStd.getD a 0).toInt.toNat < 256 ∧ aStd.getD a 0 = nI (aStd.getD a 0).toInt.toNat := by decide +kernel
    exact ⟨_, (this a ha).1, by rw [y3 a ha]; exact (this a ha).2⟩
  obtain ⟨I', z1, z2, z3, z4, z5⟩ := f27 (d := d) (g := g) (I := I1) (J := J) (sl := sl) (rd := rd) (rl := rl) (len := 17) (sg := sgS) y2 (by decide) hsg hC (fun j hj => by rw [y1 4 (by decide)]; exact h4 j hj)
  rw [std_r.2] at z3 z4
  rw [if_pos std_r.1] at z5
  have e7 : I' 7 1 = nI 17 := by rw [z1 7 (by decide)]; exact y2
  refine ⟨aU I' 7 1 0, ?_, aU_s .., ?_, ?_, ?_⟩
  · rw [aU_R]; exact Fr_s (Fr_t (Fr_w y1 (by decide)) (Fr_w z1 (by decide))) _ (by decide)
  · rw [aU_r _ _ (by decide)]; exact z3
  · rw [aU_r _ _ (by decide)]; exact z4
  · show aE d 24 0 [.ref 6, .ref 37, aNo] [] _ = _
    rw [b24_0, hl, if_pos (by decide), y4]
    simp only [aBv]
    rw [b24_20, z5]
    simp only [aBi]
    rw [b24_28, f42, e7, if_neg (by decide)]
    simp only [aBi]
    rw [b24_37]
/-- both ways through a text come to the same -/
theorem rd_eq {r : Nat → Int32} (hsg : sg = sgn r len 40) (h1 : len ≤ 80) : rW (yF2 (yE sg)) len = rW (pc sg 300 0 0 [] (0, -1)).2 len ∧ (rW (pc sg 300 0 0 [] (0, -1)).2 len = -1 → (pc sg 300 0 0 [] (0, -1)).2.2 = -1 ∧ len ≤ 40 ∧ (stl 1 (yE sg).2.1 (yE sg).2.2.1).1 = (pc sg 300 0 0 [] (0, -1)).1) := by
  have hE : sgE sg 40 := by rw [hsg]; exact sgn_E _ _ _
  have h256 : ∀ a, ¬ sg a = 256 := by
    intro a
    rw [hsg]
    unfold sgn
    split
    · obtain ⟨k, hk, e⟩ := pk_andE (r a) (m := 255) 8 (by decide)
      rw [e]
      intro h
      have := (nI_eq (b := 256) (by omega) (by decide)).mp h
      omega
    · decide
  obtain ⟨y1, y2, y3⟩ := yard hE h256
  have hat := (pc_at hE 300 0 0 [] (0, -1) (by decide)).2
  generalize pc sg 300 0 0 [] (0, -1) = q at y1 y2 y3 hat
  have hyl : (yE sg).1.1 ≤ 40 := by
    have : ∀ (M : Nat) (y : yC), yO y → yO (yL sg M y) := by
      intro M
      induction M with
      | zero => intro y h; exact h
      | succ M ih =>
        intro y h
        unfold yL
        split
        · exact h
        · rename_i hp; exact ih _ (yO_s hE h hp)
    exact (this 40 _ ⟨by show 0 ≤ 40; omega, by show 0 + 0 ≤ 40; omega, fun _ => by show 0 + 0 ≤ 0; omega, by show 0 ≤ 4; omega⟩).1
  have rWn : ∀ p : Nat × Int32, ¬ p.2 = -1 → rW p len = p.2 := fun p hp => by
    unfold rW flt
    rw [if_neg hp]
    split <;> rfl
  by_cases c1 : q.2.2 = -1
  · by_cases c2 : pk sg q.2 = -1
    · obtain ⟨z1, z2, z3⟩ := y2 c1 c2
      have ef : yF2 (yE sg) = q.2 := by
        have h := yF2_2 (yE sg)
        rw [z1] at h
        unfold yF2 at h ⊢
        by_cases b : (yE sg).2.2.2.2.2 = true ∨ 0 < (yE sg).2.2.2.1
        · rw [if_pos b] at h
          exact absurd h (flt_bad (by omega))
        · rw [if_neg b]; exact z2
      refine ⟨by rw [ef], fun h => ⟨c1, ?_, z3⟩⟩
      apply Classical.byContradiction; intro hn
      unfold rW at h
      rw [if_neg (by omega)] at h
      exact flt_bad (by omega) h
    · have z := y3 c1 c2
      have hlt : q.2.1 < len := by rw [hsg] at c2; exact pk_ltn c2
      have er : rW q.2 len = nI q.2.1 := by
        unfold rW flt
        rw [if_neg (by omega), if_pos c1]
      refine ⟨?_, fun h => ?_⟩
      · rw [er, rWn _ (by rw [yF2_2, z]; exact nIm1c (by omega)), yF2_2, z]
      · rw [er] at h
        exact absurd h (nIm1c (by omega))
  · have z := y1 c1
    refine ⟨?_, fun h => absurd (rW_2 h) c1⟩
    rw [rWn q.2 c1, rWn _ (by rw [yF2_2, z]; exact c1), yF2_2, z]
/-- what a right text asks of a driver -/
theorem rd_v {r : Nat → Int32} (hsg : sg = sgn r len 40) (h1 : len ≤ 80) (hB : byR r) (h : (pc sg 300 0 0 [] (0, -1)).2.2 = -1) : ∃ rv : (Nat → Int32) → Int32, ∀ t S, ev t (pc sg 300 0 0 [] (0, -1)).1 S = rv t :: S := by
  refine ⟨fun t => (ev t (pc sg 300 0 0 [] (0, -1)).1 []).headD 0, fun t S => ?_⟩
  have A := (rAll_52 (g := (0, 0, 0)) (I := aR (aR (aU (aU (aU (fun _ _ => 0) 46 15 (nI len)) 46 16 (nI 40)) 46 23 1) 57 t) 52 r) (J := fun _ _ => 0) (sl := 0) (rl := 0) (len := len) rfl rfl h1 hB 300).1 41 0 (0, -1) (by decide) (by decide) (by decide) (by decide)
  rw [aR_s, ← hsg] at A
  obtain ⟨v, -, hv⟩ := A
  have hv := hv h (show (1 : Int32) ≠ 0 by decide)
  have e57 : aR (aR (aU (aU (aU (fun _ _ => (0 : Int32)) 46 15 (nI len)) 46 16 (nI 40)) 46 23 1) 57 t) 52 r 57 = t := rfl
  rw [e57] at hv
  rw [hv S]
  dsimp only
  rw [hv []]
  rfl
end C
theorem nbB (b : Bool) : narrow .boolean (.int (tI b)) = .int (tI b) := by cases b <;> rfl
/-- the reference reads -/
theorem f199 {len : Nat} (hd : 41 ≤ d) (hl : I 46 10 = nI len) (h1 : len ≤ 80) (hB : byR (I 52)) : ∃ p', p'.2 = (if len = 0 then -1 else rW (pc (sgn (I 52) len 40) 300 0 0 [] (0, -1)).2 len) ∧ aF d 199 [.ref 46] (g, aU I 46 13 0, J, aP1 sl rd 56) = some (some (some (.int (tI (decide ((if len = 0 then -1 else rW (pc (sgn (I 52) len 40) 300 0 0 [] (0, -1)).2 len) = -1))))), (g, pM (aU (bgn I len 40) 46 23 0) p', J, aP1 sl 53 56)) := by
  have e183 : aF d 183 [.ref 46, .int 40] (g, aU I 46 13 0, J, aP1 sl rd 56) = some (some none, (g, pM (bgn I len 40) (0, -1), J, aP1 sl 53 56)) := f183 (top := 40) hl
  generalize hIb : aU (bgn I len 40) 46 23 0 = Ib
  have b15 : Ib 46 15 = nI len := by rw [← hIb, aU_i _ _ (by decide)]; exact bgn_15 ..
  have b16 : Ib 46 16 = nI 40 := by rw [← hIb, aU_i _ _ (by decide)]; exact bgn_16 ..
  have b52 : Ib 52 = I 52 := by rw [← hIb, aU_r _ _ (by decide)]; exact bgn_F I len 40 52 (by decide)
  have E0 : aF d 199 [.ref 46] (g, aU I 46 13 0, J, aP1 sl rd 56) = if nI len ≤ 0 then (aBi (aF d 193 [.ref 46] (g, pM Ib (0, -1), J, aP1 sl 53 56)) (fun x0 t0 => aE d 199 28 [.ref 46] [.int x0] t0)) else (aBi (aF d 200 [.ref 46, .int 0] (g, pM Ib (0, -1), J, aP1 sl 53 56)) (fun x1 t1 => aE d 199 23 [.ref 46] [.int x1] t1)) := by
    show aE d 199 0 [.ref 46] [] _ = _
    rw [b199_0, e183]
    simp only [aBv]
    rw [b199_6, pM_o _ _ (by decide) (by decide), bgn_15, pM_u _ _ (by decide) (by decide), hIb]
  by_cases hz : len = 0
  · obtain ⟨p', y0, y1, y2⟩ := f193 (d := d) (g := g) (I := Ib) (J := J) (sl := sl) (rd := 53) (rl := 56) (len := len) (p := (0, -1)) b15 h1 (by show 0 ≤ 80; omega)
    have ez : rW (0, -1) len = -1 := by rw [hz]; rfl
    rw [ez] at y1 y2
    refine ⟨p', by rw [if_pos hz]; exact y1, ?_⟩
    rw [E0, if_pos (by rw [hz]; decide), y2, if_pos hz]
    simp only [aBi]
    rw [b199_28, if_pos (nbB _)]
  · have A := (rAll_52 (g := g) (I := Ib) (J := J) (sl := sl) (rl := 56) (len := len) b15 b16 h1 (by rw [b52]; exact hB) 300).1 d 0 (0, -1) (by decide) (by decide) (by show 41 ≤ d + 0; omega) (by decide)
    rw [b52] at A
    obtain ⟨v, ev, -⟩ := A
    have ev : aF d 200 [.ref 46, .int 0] (g, pM Ib (0, -1), J, aP1 sl 53 56) = _ := ev
    have hat := (pc_at (sgn_E (I 52) len 40) 300 0 0 [] (0, -1) (by decide)).2
    obtain ⟨p', y0, y1, y2⟩ := f193 (d := d) (g := g) (I := Ib) (J := J) (sl := sl) (rd := 53) (rl := 56) (len := len) (p := (pc (sgn (I 52) len 40) 300 0 0 [] (0, -1)).2) b15 h1 (Nat.le_trans hat (by decide))
    refine ⟨p', by rw [if_neg hz]; exact y1, ?_⟩
    rw [E0, if_neg (show ¬ nI len ≤ 0 from nI_nle (by omega) (by omega)), ev, if_neg hz]
    simp only [aBi]
    rw [b199_23, y2]
    simp only [aBi]
    rw [b199_28, if_pos (nbB _)]
