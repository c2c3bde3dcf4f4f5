/-! the class reads a rule: its way is yL -/
variable {d : Nat} {g : Nat × Nat × Nat} {I : Nat → Nat → Int32} {J : Nat → Nat → Int64} {sl rd rl : Nat} {t n m q : Nat}
theorem t40 {k : Nat} (h : k < 40) : ¬ (nI k < 0 ∨ 40 ≤ k) := by
  rintro (q | q)
  · exact nI_pos (by omega) q
  · omega
theorem f39 (x : Int32) : aF d 39 [.int x] (g, I, J, aP1 sl rd rl) = some (some (some (.int (bnd x))), (g, I, J, aP1 sl rd rl)) := by
  show aE d 39 0 [.int x] [] _ = _
  rw [b39_0]
  unfold bnd
  by_cases h1 : x = 60
  · subst h1; rw [b39_1_c60, if_pos rfl]
  by_cases h2 : x = 62
  · subst h2; rw [b39_1_c62, if_neg h1, if_pos rfl]
  by_cases h3 : x = 61
  · subst h3; rw [b39_1_c61, if_neg h1, if_neg h2, if_pos rfl]
  by_cases h4 : x = 43
  · subst h4; rw [b39_1_c43, if_neg h1, if_neg h2, if_neg h3, if_pos rfl]
  by_cases h5 : x = 45
  · subst h5; rw [b39_1_c45, if_neg h1, if_neg h2, if_neg h3, if_neg h4, if_pos rfl]
  by_cases h6 : x = 42
  · subst h6; rw [b39_1_c42, if_neg h1, if_neg h2, if_neg h3, if_neg h4, if_neg h5, if_pos rfl]
  by_cases h7 : x = 47
  · subst h7; rw [b39_1_c47, if_neg h1, if_neg h2, if_neg h3, if_neg h4, if_neg h5, if_neg h6, if_pos rfl]
  by_cases h8 : x = 256
  · subst h8; rw [b39_1_c256, if_neg h1, if_neg h2, if_neg h3, if_neg h4, if_neg h5, if_neg h6, if_neg h7, if_pos rfl]
  rw [s39_1 _ _ _ _ ⟨h6, h4, h5, h7, h1, h3, h2, h8⟩, b39_84, if_neg h1, if_neg h2, if_neg h3, if_neg h4, if_neg h5, if_neg h6, if_neg h7, if_neg h8]
/-! the letters -/
theorem sxN : ∀ c, c < 256 → ((115 = Int8.toInt32 (Int32.toInt8 (nI c))) ↔ nI c = 115) ∧ ((99 = Int8.toInt32 (Int32.toInt8 (nI c))) ↔ nI c = 99) ∧ ((105 = Int8.toInt32 (Int32.toInt8 (nI c))) ↔ nI c = 105) ∧ ((119 = Int8.toInt32 (Int32.toInt8 (nI c))) ↔ nI c = 119) ∧ ((110 = Int8.toInt32 (Int32.toInt8 (nI c))) ↔ nI c = 110) ∧ ((111 = Int8.toInt32 (Int32.toInt8 (nI c))) ↔ nI c = 111) ∧ ((109 = Int8.toInt32 (Int32.toInt8 (nI c))) ↔ nI c = 109) ∧ ((97 = Int8.toInt32 (Int32.toInt8 (nI c))) ↔ nI c = 97) := by decide +kernel
theorem lo16 : ∀ c, c < 256 → UInt32.toInt32 (Int32.toUInt32 (nI c) % 65536) = nI c := by decide +kernel
theorem f11 (h4 : ∀ j, j < 8 → I 4 j = aThg.getD j 0) {c : Nat} (hc : c < 256) : aE d 11 7 [.ref 4, .int (nI c), .int 0, .int 8, .int (Int8.toInt32 (Int32.toInt8 (nI c))), .int 0] [] (g, I, J, aP1 sl rd rl) = some (some (some (.int (lt8 (nI c)))), (g, I, J, aP1 sl rd rl)) := by
  obtain ⟨s0, s1, s2, s3, s4, s5, s6, s7⟩ := sxN c hc
  generalize Int8.toInt32 (Int32.toInt8 (nI c)) = s at s0 s1 s2 s3 s4 s5 s6 s7
  have st : ∀ j k, k = j + 1 → j < 8 → ∀ b, I 4 j = b → aE d 11 7 [.ref 4, .int (nI c), .int 0, .int 8, .int s, .int (nI j)] [] (g, I, J, aP1 sl rd rl) = if b = s then some (some (some (.int (nI j))), (g, I, J, aP1 sl rd rl)) else aE d 11 7 [.ref 4, .int (nI c), .int 0, .int 8, .int s, .int (nI k)] [] (g, I, J, aP1 sl rd rl) := by
    intro j k hk hj b hb
    rw [b11_7, if_neg (show ¬ (8 : Int32) ≤ nI j from nI_ge (b := 8) hj (by decide)), nI_clamp (by omega), if_neg (t8 hj), hb, nI_1, hk]
  show aE d 11 7 [.ref 4, .int (nI c), .int 0, .int 8, .int s, .int (nI 0)] [] (g, I, J, aP1 sl rd rl) = _
  rw [st 0 1 rfl (by decide) 115 (h4 0 (by decide)), st 1 2 rfl (by decide) 99 (h4 1 (by decide)), st 2 3 rfl (by decide) 105 (h4 2 (by decide)), st 3 4 rfl (by decide) 119 (h4 3 (by decide)), st 4 5 rfl (by decide) 110 (h4 4 (by decide)), st 5 6 rfl (by decide) 111 (h4 5 (by decide)), st 6 7 rfl (by decide) 109 (h4 6 (by decide)), st 7 8 rfl (by decide) 97 (h4 7 (by decide)), b11_7, if_pos (show (8 : Int32) ≤ nI 8 by decide)]
  unfold lt8
  by_cases h0 : nI c = 115
  · rw [if_pos (s0.mpr h0), if_pos h0]; rfl
  rw [if_neg (mt s0.mp h0), if_neg h0]
  by_cases h1 : nI c = 99
  · rw [if_pos (s1.mpr h1), if_pos h1]; rfl
  rw [if_neg (mt s1.mp h1), if_neg h1]
  by_cases h2 : nI c = 105
  · rw [if_pos (s2.mpr h2), if_pos h2]; rfl
  rw [if_neg (mt s2.mp h2), if_neg h2]
  by_cases h3 : nI c = 119
  · rw [if_pos (s3.mpr h3), if_pos h3]; rfl
  rw [if_neg (mt s3.mp h3), if_neg h3]
  by_cases h5 : nI c = 110
  · rw [if_pos (s4.mpr h5), if_pos h5]; rfl
  rw [if_neg (mt s4.mp h5), if_neg h5]
  by_cases h6 : nI c = 111
  · rw [if_pos (s5.mpr h6), if_pos h6]; rfl
  rw [if_neg (mt s5.mp h6), if_neg h6]
  by_cases h7 : nI c = 109
  · rw [if_pos (s6.mpr h7), if_pos h7]; rfl
  rw [if_neg (mt s6.mp h7), if_neg h7]
  by_cases h8 : nI c = 97
  · rw [if_pos (s7.mpr h8), if_pos h8]; rfl
  rw [if_neg (mt s7.mp h8), if_neg h8]
theorem f7 (h4 : ∀ j, j < 8 → I 4 j = aThg.getD j 0) {c : Nat} (hc : c < 256) : aF d 7 [.ref 2, .int (nI c)] (g, I, J, aP1 sl rd rl) = some (some (some (.int (lt8 (nI c)))), (g, I, J, aP1 sl rd rl)) := by
  have e3 : aF d 3 [.ref 2] (g, I, J, aP1 sl rd rl) = some (some (some (.int (1))), (g, I, J, aP1 sl rd rl)) := b3_0_2 ..
  have e1 : aF d 1 [.ref 2] (g, I, J, aP1 sl rd rl) = some (some (some (.int (0))), (g, I, J, aP1 sl rd rl)) := b1_0_2 ..
  have e0 : aF d 0 [.ref 2] (g, I, J, aP1 sl rd rl) = some (some (some (.int (8))), (g, I, J, aP1 sl rd rl)) := by
    show aE d 0 0 [.ref 2] [] _ = _
    rw [b0_0_2, e1]
    simp only [aBi]
    rw [b0_9]
    rfl
  have e10 : aF d 10 [.int (nI c)] (g, I, J, aP1 sl rd rl) = some (some (some (.int (1))), (g, I, J, aP1 sl rd rl)) := by
    show aE d 10 0 [.int (nI c)] [] _ = _
    rw [b10_0, if_neg (nI_pos (by omega)), if_neg (show ¬ (255 : Int32) < nI c from nI_nlt (a := 255) (by omega) (by omega))]
  have e11 : aF d 11 [.ref 4, .int (nI c), .int 0, .int 8] (g, I, J, aP1 sl rd rl) = some (some (some (.int (lt8 (nI c)))), (g, I, J, aP1 sl rd rl)) := by
    show aE d 11 0 [.ref 4, .int (nI c), .int 0, .int 8, aNo, aNo] [] _ = _
    rw [b11_0]
    exact f11 h4 hc
  have e9 : aF d 9 [.ref 4, .int (nI c), .int 0, .int 8] (g, I, J, aP1 sl rd rl) = some (some (some (.int (lt8 (nI c)))), (g, I, J, aP1 sl rd rl)) := by
    show aE d 9 0 [.ref 4, .int (nI c), .int 0, .int 8] [] _ = _
    rw [b9_0, e10]
    simp only [aBi]
    have z1 : (if (0 : Int32) < 0 then (0 : Int32) else 0) = 0 := by decide
    have z2 : (if (8 : Int32) < 8 then (8 : Int32) else 8) = 8 := by decide
    rw [b9_4, if_neg (by decide), z1, z2, if_pos (by decide), e11]
    simp only [aBi]
    rw [b9_36]
  have e8 : aF d 8 [.ref 2, .int (nI c), .int 0] (g, I, J, aP1 sl rd rl) = some (some (some (.int (lt8 (nI c)))), (g, I, J, aP1 sl rd rl)) := by
    show aE d 8 0 [.ref 2, .int (nI c), .int 0] [] _ = _
    rw [b8_0, e3]
    simp only [aBi]
    rw [b8_4, if_neg (by decide), e0]
    simp only [aBi]
    rw [b8_17, e9]
    simp only [aBi]
    rw [b8_20]
  show aE d 7 0 [.ref 2, .int (nI c)] [] _ = _
  rw [b7_0, e8]
  simp only [aBi]
  rw [b7_6]
/-! code and what waits -/
def stk (r : Nat → Int32) : List Int32 → Prop
  | [] => True
  | x :: w => r w.length = x ∧ stk r w
def cde (r : Nat → Int32) (c : List Int32) : Prop := ∀ i x, c[i]? = some x → r i = x
theorem stk_u {r : Nat → Int32} {k : Nat} (x : Int32) : ∀ {w : List Int32}, stk r w → w.length ≤ k → stk (upd r k x) w
  | [], _, _ => trivial
  | y :: w, h, hk => by
    have hk : w.length + 1 ≤ k := hk
    exact ⟨by rw [upd_n _ _ (by omega)]; exact h.1, stk_u x h.2 (by omega)⟩
theorem stk_p {r : Nat → Int32} {w : List Int32} (h : stk r w) (x : Int32) : stk (upd r w.length x) (x :: w) := ⟨upd_s _ _ _, stk_u x h (Nat.le_refl _)⟩
theorem stk_t {r : Nat → Int32} : ∀ {w : List Int32}, stk r w → stk r w.tail
  | [], _ => trivial
  | _ :: _, h => h.2
theorem cde_p {r : Nat → Int32} {c : List Int32} (h : cde r c) (x : Int32) : cde (upd r c.length x) (c ++ [x]) := by
  intro i y hy
  have hlt := (List.getElem?_eq_some_iff.mp hy).1
  rw [List.length_append] at hlt
  have hlt : i < c.length + 1 := hlt
  by_cases e : i = c.length
  · subst e
    rw [List.getElem?_concat_length] at hy
    rw [upd_s]
    exact Option.some.inj hy
  · rw [List.getElem?_append_left (by omega)] at hy
    rw [upd_n _ _ e]
    exact h i y hy
def yI (I : Nat → Nat → Int32) (c w : List Int32) (e : Nat) (m : Int32) : Prop := I 37 1 = nI c.length ∧ cde (I 38) c ∧ I 10 2 = nI w.length ∧ stk (I 11) w ∧ I 10 3 = nI e ∧ I 10 4 = m
def yJ (I : Nat → Nat → Int32) (y : yC) : Prop := yI I y.2.1 y.2.2.1 y.2.2.2.1 y.2.2.2.2.1
def adI (I : Nat → Nat → Int32) (k : Nat) (x : Int32) : Nat → Nat → Int32 := aU (aU I 38 k x) 37 1 (nI (k + 1))
def hoI (I : Nat → Nat → Int32) (k : Nat) (x : Int32) : Nat → Nat → Int32 := aU (aU I 11 k x) 10 2 (nI (k + 1))
theorem adI_F (I : Nat → Nat → Int32) (k : Nat) (x : Int32) : Fr [10, 11, 37, 38] I (adI I k x) := by
  unfold adI; simp only [aU_R]; exact Fr_s (Fr_s (Fr_r _ _) _ (by decide)) _ (by decide)
theorem hoI_F (I : Nat → Nat → Int32) (k : Nat) (x : Int32) : Fr [10, 11, 37, 38] I (hoI I k x) := by
  unfold hoI; simp only [aU_R]; exact Fr_s (Fr_s (Fr_r _ _) _ (by decide)) _ (by decide)
theorem yI_ad {c w : List Int32} {e : Nat} {m : Int32} (h : yI I c w e m) (x : Int32) : yI (adI I c.length x) (c ++ [x]) w e m := by
  obtain ⟨h1, h2, h3, h4, h5, h6⟩ := h
  unfold adI
  refine ⟨?_, ?_, ?_, ?_, ?_, ?_⟩
  · rw [aU_s, List.length_append]; rfl
  · rw [aU_r _ _ (by decide), aU_w]; exact cde_p h2 x
  · rw [aU_r _ _ (by decide), aU_r _ _ (by decide)]; exact h3
  · rw [aU_r _ _ (by decide), aU_r _ _ (by decide)]; exact h4
  · rw [aU_r _ _ (by decide), aU_r _ _ (by decide)]; exact h5
  · rw [aU_r _ _ (by decide), aU_r _ _ (by decide)]; exact h6
theorem yI_ho {c w : List Int32} {e : Nat} {m : Int32} (h : yI I c w e m) (x : Int32) : yI (hoI I w.length x) c (x :: w) e m := by
  obtain ⟨h1, h2, h3, h4, h5, h6⟩ := h
  unfold hoI
  refine ⟨?_, ?_, ?_, ?_, ?_, ?_⟩
  · rw [aU_r _ _ (by decide), aU_r _ _ (by decide)]; exact h1
  · rw [aU_r _ _ (by decide), aU_r _ _ (by decide)]; exact h2
  · rw [aU_s]; rfl
  · rw [aU_r _ _ (by decide), aU_w]; exact stk_p h4 x
  · rw [aU_i _ _ (by decide), aU_r _ _ (by decide)]; exact h5
  · rw [aU_i _ _ (by decide), aU_r _ _ (by decide)]; exact h6
theorem f34 {k : Nat} {p : Nat × Int32} (h : I 37 1 = nI k) (hk : k < 40) (x : Int32) : aF d 34 [.ref 37, .int x] (g, pC I p, J, aP1 sl rd rl) = some (some none, (g, pC (adI I k x) p, J, aP1 sl rd rl)) := by
  show aE d 34 0 [.ref 37, .int x] [] _ = _
  rw [b34_0, pC_r _ _ (show 37 ≠ 9 by decide), h, if_neg (nI_pos (by omega)), if_neg (show ¬ (40 : Int32) ≤ nI k from nI_ge (b := 40) hk (by decide)), nI_clamp (by omega), if_neg (t40 hk), nI_1, pC_a _ _ (by decide), pC_a _ _ (by decide)]
  rfl
theorem f32 {k : Nat} {p : Nat × Int32} (h : I 10 2 = nI k) (hk : k < 40) (x : Int32) : aF d 32 [.ref 10, .int x] (g, pC I p, J, aP1 sl rd rl) = some (some none, (g, pC (hoI I k x) (adv p), J, aP1 sl rd rl)) := by
  show aE d 32 0 [.ref 10, .int x] [] _ = _
  rw [b32_0, f33]
  simp only [aBv]
  rw [b32_7, pC_r _ _ (show 10 ≠ 9 by decide), h, if_neg (nI_pos (by omega)), if_neg (show ¬ (40 : Int32) ≤ nI k from nI_ge (b := 40) hk (by decide)), nI_clamp (by omega), if_neg (t40 hk), nI_1, pC_a _ _ (by decide), pC_a _ _ (by decide)]
  rfl
theorem stl_len (b : Int32) : ∀ (w c : List Int32), (stl b c w).1.length + (stl b c w).2.length = c.length + w.length
  | [], c => rfl
  | x :: w, c => by
    unfold stl
    split
    · have := stl_len b w (c ++ [2000 + x])
      rw [this, List.length_append]
      show c.length + 1 + w.length = c.length + (w.length + 1)
      omega
    · rfl
theorem f40' {b : Int32} {p : Nat × Int32} {e : Nat} {m : Int32} : ∀ (w c : List Int32) (I : Nat → Nat → Int32), yI I c w e m → c.length + w.length ≤ 40 → ∃ I', Fr [10, 11, 37, 38] I I' ∧ yI I' (stl b c w).1 (stl b c w).2 e m ∧ aE d 40 7 [.ref 10, .ref 37, .int b, .int (nI w.length - 1)] [] (g, pC I p, J, aP1 sl rd rl) = some (some none, (g, pC I' p, J, aP1 sl rd rl)) := by
  intro w
  induction w with
  | nil =>
    intro c I h hl
    refine ⟨I, Fr_r _ _, h, ?_⟩
    rw [b40_7, if_pos (show nI ([] : List Int32).length - 1 < 0 by decide)]
  | cons x w ih =>
    intro c I h hl
    have hl : c.length + (w.length + 1) ≤ 40 := hl
    have hh := h
    obtain ⟨h1, h2, h3, h4, h5, h6⟩ := h
    have e0 : nI (x :: w).length - 1 = nI w.length := nI_pred w.length
    have hw : w.length < 40 := by omega
    have e11 : pC I p 11 w.length = x := by rw [pC_r _ _ (by decide)]; exact h4.1
    have ex : aE d 40 7 [.ref 10, .ref 37, .int b, .int (nI (x :: w).length - 1)] [] (g, pC I p, J, aP1 sl rd rl) = if b ≤ bnd x then aE d 40 7 [.ref 10, .ref 37, .int b, .int (nI w.length - 1)] [] (g, pC (aU (adI I c.length (2000 + x)) 10 2 (nI w.length)) p, J, aP1 sl rd rl) else some (some none, (g, pC I p, J, aP1 sl rd rl)) := by
      rw [e0, b40_7, if_neg (nI_pos (by omega)), if_neg (show ¬ (40 : Int32) ≤ nI w.length from nI_ge (b := 40) hw (by decide)), nI_clamp (by omega), if_neg (t40 hw), e11, f39]
      simp only [aBi]
      rw [b40_29]
      by_cases hb : b ≤ bnd x
      · rw [if_pos hb, if_pos hb, nI_clamp (by omega), if_neg (t40 hw), e11, f34 (k := c.length) h1 (by omega)]
        simp only [aBv]
        rw [b40_50, pC_a _ _ (by decide), Int32.sub_eq_add_neg]
      · rw [if_neg hb, if_neg hb]
    rw [ex]
    by_cases hb : b ≤ bnd x
    · have es : stl b c (x :: w) = stl b (c ++ [2000 + x]) w := if_pos hb
      obtain ⟨I', z1, z2, z3⟩ := ih (c ++ [2000 + x]) (aU (adI I c.length (2000 + x)) 10 2 (nI w.length)) (by
        obtain ⟨k1, k2, k3, k4, k5, k6⟩ := yI_ad hh (2000 + x)
        refine ⟨?_, ?_, ?_, ?_, ?_, ?_⟩
        · rw [aU_r _ _ (by decide)]; exact k1
        · rw [aU_r _ _ (by decide)]; exact k2
        · rw [aU_s]
        · rw [aU_r _ _ (by decide)]; exact k4.2
        · rw [aU_i _ _ (by decide)]; exact k5
        · rw [aU_i _ _ (by decide)]; exact k6) (by rw [List.length_append]; show c.length + 1 + w.length ≤ 40; omega)
      rw [es, if_pos hb]
      refine ⟨I', Fr_t ?_ z1, z2, z3⟩
      rw [aU_R]
      exact Fr_s (adI_F _ _ _) _ (by decide)
    · have es : stl b c (x :: w) = (c, x :: w) := if_neg hb
      rw [es, if_neg hb]
      exact ⟨I, Fr_r _ _, hh, rfl⟩
theorem f40 {b : Int32} {p : Nat × Int32} {e : Nat} {m : Int32} {w c : List Int32} (h : yI I c w e m) (hl : c.length + w.length ≤ 40) : ∃ I', Fr [10, 11, 37, 38] I I' ∧ yI I' (stl b c w).1 (stl b c w).2 e m ∧ aF d 40 [.ref 10, .ref 37, .int b] (g, pC I p, J, aP1 sl rd rl) = some (some none, (g, pC I' p, J, aP1 sl rd rl)) := by
  obtain ⟨I', z1, z2, z3⟩ := f40' (d := d) (g := g) (J := J) (sl := sl) (rd := rd) (rl := rl) (b := b) (p := p) w c I h hl
  refine ⟨I', z1, z2, ?_⟩
  show aE d 40 0 [.ref 10, .ref 37, .int b, aNo] [] _ = _
  rw [b40_0, pC_r _ _ (show 10 ≠ 9 by decide), h.2.2.1]
  exact z3
section C
variable {len : Nat} {sg : Nat → Int32}
theorem pk_rng {r : Nat → Int32} {p : Nat × Int32} (hsg : sg = sgc r len 40) (hC : ∀ a, a < len → ∃ k, k < 256 ∧ r a = nI k) (hp : ¬ pk sg p = -1) : p.2 = -1 ∧ p.1 < 40 ∧ ∃ k, k < 256 ∧ pk sg p = nI k := by
  have p2 := pk_2 hp
  have hE : sgE sg 40 := by rw [hsg]; exact sgc_E _ _ _
  refine ⟨p2, pk_at hE hp, ?_⟩
  unfold pk at hp ⊢
  rw [if_pos p2] at hp ⊢
  rw [hsg] at hp ⊢
  unfold sgc at hp ⊢
  by_cases h : p.1 < len ∧ p.1 < 40
  · rw [if_pos h]; exact hC p.1 h.1
  · rw [if_neg h] at hp; exact absurd rfl hp
theorem f31 {p : Nat × Int32} {c w : List Int32} {e : Nat} {m : Int32} (hm : I 9 1 = nI 40) (hl : I 7 1 = nI len) (h1 : len ≤ 80) (hsg : sg = sgc (I 8) len 40) (hC : ∀ a, a < len → ∃ k, k < 256 ∧ I 8 a = nI k) (h4 : ∀ j, j < 8 → I 4 j = aThg.getD j 0) (hp : ¬ pk sg p = -1) (hy : yI I c w e m) (hn : c.length + w.length < 40) (he : e ≤ 4) : ∃ I', Fr [10, 11, 37, 38] I I' ∧ yJ I' (yT sg p c w e m) ∧ aF d 31 [.ref 10, .ref 37] (g, pC I p, J, aP1 sl rd rl) = some (some (some (.int (tI (yT sg p c w e m).2.2.2.2.2))), (g, pC I' (yT sg p c w e m).1, J, aP1 sl rd rl)) := by
  obtain ⟨p2, p40, k, hk, ek⟩ := pk_rng hsg hC hp
  have e30 := f30 (d := d) (g := g) (I := I) (J := J) (sl := sl) (rd := rd) (rl := rl) (p := p) (len := len) (top := 40) hm hl h1 (by decide) (by omega)
  rw [← hsg] at e30
  have e7 : aF d 7 [.ref 2, .int (nI k)] (g, pC I p, J, aP1 sl rd rl) = some (some (some (.int (lt8 (nI k)))), (g, pC I p, J, aP1 sl rd rl)) := f7 (fun j hj => by rw [pC_r _ _ (by decide)]; exact h4 j hj) hk
  have e35 : aF d 35 [.ref 9, .int 3] (g, pC I p, J, aP1 sl rd rl) = some (some (some (.int (nm sg 2 p).1)), (g, pC I (nm sg 2 p).2, J, aP1 sl rd rl)) := by
    have f := f35 (d := d) (g := g) (I := I) (J := J) (sl := sl) (rd := rd) (rl := rl) (p := p) (len := len) (top := 40) (m := 2) hm hl h1 (by decide) (by omega) (by decide)
    rw [← hsg] at f
    exact f
  have E0 : aF d 31 [.ref 10, .ref 37] (g, pC I p, J, aP1 sl rd rl) = aE d 31 24 [.ref 10, .ref 37, .int (pk sg p), aNo] [.int (lt8 (pk sg p))] (g, pC I p, J, aP1 sl rd rl) := by
    show aE d 31 0 [.ref 10, .ref 37, aNo, aNo] [] _ = _
    rw [b31_0, e30]
    simp only [aBi]
    rw [b31_7, if_neg hp, ek, lo16 k hk, e7]
    rfl
  have ad : ∀ (x : Int32) (p' : Nat × Int32), aF d 34 [.ref 37, .int x] (g, pC I p', J, aP1 sl rd rl) = some (some none, (g, pC (adI I c.length x) p', J, aP1 sl rd rl)) := fun x p' => f34 hy.1 (by omega) x
  have ho : ∀ x : Int32, aF d 32 [.ref 10, .int x] (g, pC I p, J, aP1 sl rd rl) = some (some none, (g, pC (hoI I w.length x) (adv p), J, aP1 sl rd rl)) := fun x => f32 hy.2.2.1 (by omega) x
  rw [E0, b31_24]
  unfold yT
  by_cases h45 : pk sg p = 45
  · rw [if_pos h45, if_pos h45, ho]
    simp only [aBv]
    refine ⟨_, hoI_F _ _ _, yI_ho hy 256, ?_⟩
    rw [b31_38]
    rfl
  · rw [if_neg h45, if_neg h45]
    have i3 : pC I p 10 3 = nI e := by rw [pC_r _ _ (by decide)]; exact hy.2.2.2.2.1
    rw [i3]
    by_cases h40 : pk sg p = 40 ∧ e < 4
    · rw [if_pos h40, if_pos h40.1, if_neg (show ¬ (4 : Int32) ≤ nI e from nI_ge (b := 4) h40.2 (by decide)), ho]
      simp only [aBv]
      obtain ⟨z1, z2, z3, z4, z5, z6⟩ := yI_ho hy 40
      refine ⟨aU (aU (hoI I w.length 40) 10 3 (nI (e + 1))) 10 4 (m &&& (bit (e + 1) ^^^ (-1))), ?_, ⟨?_, ?_, ?_, ?_, ?_, ?_⟩, ?_⟩
      · simp only [aU_R]; exact Fr_s (Fr_s (hoI_F _ _ _) _ (by decide)) _ (by decide)
      · rw [aU_r _ _ (by decide), aU_r _ _ (by decide)]; exact z1
      · rw [aU_r _ _ (by decide), aU_r _ _ (by decide)]; exact z2
      · rw [aU_i _ _ (by decide), aU_i _ _ (by decide)]; exact z3
      · rw [aU_r _ _ (by decide), aU_r _ _ (by decide)]; exact z4
      · rw [aU_i _ _ (by decide), aU_s]
      · rw [aU_s]
      · rw [b31_60, pC_r _ _ (show 10 ≠ 9 by decide), z5, z6, nI_1, pC_a _ _ (by decide), pC_a _ _ (by decide)]
        rfl
    · rw [if_neg h40]
      have E1 : (if pk sg p = 40 then (if (4 : Int32) ≤ nI e then (if lt8 (pk sg p) < 0 then (aBi (aF d 35 [.ref 9, .int 3] (g, pC I p, J, aP1 sl rd rl)) (fun x2 t2 => aE d 31 120 [.ref 10, .ref 37, .int (pk sg p), .int (lt8 (pk sg p))] [.int x2, .ref 37] t2)) else (aBv (aF d 33 [.ref 9] (g, pC I p, J, aP1 sl rd rl)) (fun t3 => aE d 31 100 [.ref 10, .ref 37, .int (pk sg p), .int (lt8 (pk sg p))] [] t3))) else (aBv (aF d 32 [.ref 10, .int 40] (g, pC I p, J, aP1 sl rd rl)) (fun t4 => aE d 31 60 [.ref 10, .ref 37, .int (pk sg p), .int (lt8 (pk sg p))] [] t4))) else (if lt8 (pk sg p) < 0 then (aBi (aF d 35 [.ref 9, .int 3] (g, pC I p, J, aP1 sl rd rl)) (fun x0 t0 => aE d 31 120 [.ref 10, .ref 37, .int (pk sg p), .int (lt8 (pk sg p))] [.int x0, .ref 37] t0)) else (aBv (aF d 33 [.ref 9] (g, pC I p, J, aP1 sl rd rl)) (fun t1 => aE d 31 100 [.ref 10, .ref 37, .int (pk sg p), .int (lt8 (pk sg p))] [] t1)))) = (if lt8 (pk sg p) < 0 then (aBi (aF d 35 [.ref 9, .int 3] (g, pC I p, J, aP1 sl rd rl)) (fun x0 t0 => aE d 31 120 [.ref 10, .ref 37, .int (pk sg p), .int (lt8 (pk sg p))] [.int x0, .ref 37] t0)) else (aBv (aF d 33 [.ref 9] (g, pC I p, J, aP1 sl rd rl)) (fun t1 => aE d 31 100 [.ref 10, .ref 37, .int (pk sg p), .int (lt8 (pk sg p))] [] t1))) := by
        by_cases q : pk sg p = 40
        · have z : ¬ e < 4 := fun z => h40 ⟨q, z⟩
          rw [if_pos q, if_pos (show (4 : Int32) ≤ nI e from nI_le (a := 4) (by omega) (by omega))]
        · rw [if_neg q]
      rw [E1]
      by_cases h8 : lt8 (pk sg p) = -1
      · rw [if_pos h8, if_pos (by rw [h8]; decide), e35]
        simp only [aBi]
        refine ⟨_, adI_F _ _ _, yI_ad hy _, ?_⟩
        rw [b31_120, ad]
        simp only [aBv]
        rw [b31_123]
        rfl
      · have h8n : ¬ lt8 (pk sg p) < 0 := by
          rcases lt8_ix (pk sg p) with h | ⟨j, hj, h⟩
          · exact absurd h h8
          · rw [h]; exact nI_pos (by omega)
        rw [if_neg h8, if_neg h8n, f33]
        simp only [aBv]
        refine ⟨_, adI_F _ _ _, yI_ad hy _, ?_⟩
        rw [b31_100, ad]
        simp only [aBv]
        rw [b31_109]
        rfl
theorem f38 {p : Nat × Int32} {c w : List Int32} {e : Nat} {m : Int32} (hm : I 9 1 = nI 40) (hl : I 7 1 = nI len) (h1 : len ≤ 80) (hsg : sg = sgc (I 8) len 40) (hp : ¬ pk sg p = -1) (hp80 : p.1 < 40) (hy : yI I c w e m) (hn : c.length + w.length < 40) (he : e ≤ 4) : ∃ I', Fr [10, 11, 37, 38] I I' ∧ yJ I' (yG sg p c w e m) ∧ aF d 38 [.ref 10, .ref 37] (g, pC I p, J, aP1 sl rd rl) = some (some (some (.int (tI (yG sg p c w e m).2.2.2.2.2))), (g, pC I' (yG sg p c w e m).1, J, aP1 sl rd rl)) := by
  have e30 := f30 (d := d) (g := g) (I := I) (J := J) (sl := sl) (rd := rd) (rl := rl) (p := p) (len := len) (top := 40) hm hl h1 (by decide) (by omega)
  rw [← hsg] at e30
  have i3 : pC I p 10 3 = nI e := by rw [pC_r _ _ (by decide)]; exact hy.2.2.2.2.1
  have i4 : pC I p 10 4 = m := by rw [pC_r _ _ (by decide)]; exact hy.2.2.2.2.2
  have E0 : aF d 38 [.ref 10, .ref 37] (g, pC I p, J, aP1 sl rd rl) = aE d 38 12 [.ref 10, .ref 37, .int (pk sg p), aNo, aNo] [.int (bnd (pk sg p))] (g, pC I p, J, aP1 sl rd rl) := by
    show aE d 38 0 [.ref 10, .ref 37, aNo, aNo, aNo] [] _ = _
    rw [b38_0, e30]
    simp only [aBi]
    rw [b38_7, f39]
    rfl
  rw [E0, b38_12, i3]
  unfold yG
  by_cases h41 : pk sg p = 41 ∧ 0 < e
  · rw [if_pos h41, if_pos h41.1, if_neg (show ¬ nI e ≤ 0 from nI_ge (a := 0) h41.2 (by omega)), f33]
    simp only [aBv]
    obtain ⟨I', z1, z2, z3⟩ := f40 (d := d) (g := g) (J := J) (sl := sl) (rd := rd) (rl := rl) (b := 1) (p := adv p) hy (by omega)
    rw [b38_33, z3]
    simp only [aBv]
    obtain ⟨k1, k2, k3, k4, k5, k6⟩ := z2
    have et : (if 0 < nI (stl 1 c w).2.length - 1 then nI (stl 1 c w).2.length - 1 else 0) = nI (stl 1 c w).2.tail.length := by
      have hs := stl_len 1 w c
      generalize (stl 1 c w).2 = ws at hs ⊢
      cases ws with
      | nil => decide
      | cons x r =>
        have hs : (stl 1 c w).1.length + (r.length + 1) = c.length + w.length := hs
        show (if 0 < nI (r.length + 1) - 1 then nI (r.length + 1) - 1 else 0) = nI r.length
        rw [nI_pred]
        by_cases q : r.length = 0
        · rw [q]; decide
        · rw [if_pos (show 0 < nI r.length from nI_lt (a := 0) (by omega) (by omega))]
    refine ⟨aU (aU I' 10 2 (nI (stl 1 c w).2.tail.length)) 10 3 (nI (e - 1)), ?_, ⟨?_, ?_, ?_, ?_, ?_, ?_⟩, ?_⟩
    · simp only [aU_R]; exact Fr_s (Fr_s z1 _ (by decide)) _ (by decide)
    · rw [aU_r _ _ (by decide), aU_r _ _ (by decide)]; exact k1
    · rw [aU_r _ _ (by decide), aU_r _ _ (by decide)]; exact k2
    · rw [aU_i _ _ (by decide), aU_s]
    · rw [aU_r _ _ (by decide), aU_r _ _ (by decide)]; exact stk_t k4
    · rw [aU_s]
    · rw [aU_i _ _ (by decide), aU_i _ _ (by decide)]; exact k6
    · rw [b38_39, pC_r _ _ (show 10 ≠ 9 by decide), k3, k5, et, show nI e - 1 = nI (e - 1) from pk_sub (b := 1) (by omega), pC_a _ _ (by decide), pC_a _ _ (by decide)]
      rfl
  · have E1 : (if pk sg p = 41 then (if nI e ≤ 0 then aE d 38 65 [.ref 10, .ref 37, .int (pk sg p), .int (bnd (pk sg p)), aNo] [] (g, pC I p, J, aP1 sl rd rl) else (aBv (aF d 33 [.ref 9] (g, pC I p, J, aP1 sl rd rl)) (fun t0 => aE d 38 33 [.ref 10, .ref 37, .int (pk sg p), .int (bnd (pk sg p)), aNo] [] t0))) else aE d 38 65 [.ref 10, .ref 37, .int (pk sg p), .int (bnd (pk sg p)), aNo] [] (g, pC I p, J, aP1 sl rd rl)) = aE d 38 65 [.ref 10, .ref 37, .int (pk sg p), .int (bnd (pk sg p)), aNo] [] (g, pC I p, J, aP1 sl rd rl) := by
      by_cases q : pk sg p = 41
      · have z : ¬ 0 < e := fun z => h41 ⟨q, z⟩
        rw [if_pos q, if_pos (show nI e ≤ 0 from by rw [show e = 0 by omega]; decide)]
      · rw [if_neg q]
    have E2 : aE d 38 65 [.ref 10, .ref 37, .int (pk sg p), .int (bnd (pk sg p)), aNo] [] (g, pC I p, J, aP1 sl rd rl) = aE d 38 90 [.ref 10, .ref 37, .int (pk sg p), .int (bnd (pk sg p)), aNo] [.int (tI (decide (bnd (pk sg p) = 1 ∧ bt m e = true)))] (g, pC I p, J, aP1 sl rd rl) := by
      rw [b38_65, i3, i4]
      by_cases q1 : bnd (pk sg p) = 1
      · rw [if_pos q1]
        have sh := shr1' m (nI e)
        rw [hasT_bt _ (show e < 32 by omega)] at sh
        by_cases q2 : bt m e = true
        · rw [if_pos (by rw [sh]; exact q2), decide_eq_true ⟨q1, q2⟩]
          rfl
        · rw [if_neg (by rw [sh]; exact q2), b38_89, decide_eq_false (fun h => q2 h.2)]
          rfl
      · rw [if_neg q1, b38_89, decide_eq_false (fun h => q1 h.1)]
        rfl
    rw [if_neg h41, E1, E2, b38_90]
    by_cases hb : bnd (pk sg p) = 0 ∨ (bnd (pk sg p) = 1 ∧ bt m e = true)
    · have E3 : (if bnd (pk sg p) = 0 then aE d 38 101 [.ref 10, .ref 37, .int (pk sg p), .int (bnd (pk sg p)), .int (tI (decide (bnd (pk sg p) = 1 ∧ bt m e = true)))] [] (g, pC I p, J, aP1 sl rd rl) else (if tI (decide (bnd (pk sg p) = 1 ∧ bt m e = true)) = 0 then (if bnd (pk sg p) = 1 then aE d 38 137 [.ref 10, .ref 37, .int (pk sg p), .int (bnd (pk sg p)), .int (tI (decide (bnd (pk sg p) = 1 ∧ bt m e = true)))] [] (g, (aU (pC I p) 10 4 ((pC I p 10 4) ||| (1 <<< ((pC I p 10 3) &&& 31)))), J, aP1 sl rd rl) else aE d 38 137 [.ref 10, .ref 37, .int (pk sg p), .int (bnd (pk sg p)), .int (tI (decide (bnd (pk sg p) = 1 ∧ bt m e = true)))] [] (g, pC I p, J, aP1 sl rd rl)) else aE d 38 101 [.ref 10, .ref 37, .int (pk sg p), .int (bnd (pk sg p)), .int (tI (decide (bnd (pk sg p) = 1 ∧ bt m e = true)))] [] (g, pC I p, J, aP1 sl rd rl))) = aE d 38 101 [.ref 10, .ref 37, .int (pk sg p), .int (bnd (pk sg p)), .int (tI (decide (bnd (pk sg p) = 1 ∧ bt m e = true)))] [] (g, pC I p, J, aP1 sl rd rl) := by
        rcases hb with q | q
        · rw [if_pos q]
        · rw [if_neg (by rw [q.1]; decide), decide_eq_true q, if_neg (by decide)]
      rw [if_pos hb, E3, b38_101, pC_2, f37]
      simp only [aBv]
      refine ⟨I, Fr_r _ _, hy, ?_⟩
      rw [b38_115]
      rfl
    · rw [if_neg hb, if_neg (fun q => hb (Or.inl q)), decide_eq_false (fun q => hb (Or.inr q)), if_pos tI_f, i3, i4]
      have E4 : ∃ I1, Fr [10, 11, 37, 38] I I1 ∧ yI I1 c w e (if bnd (pk sg p) = 1 then m ||| bit e else m) ∧ (if bnd (pk sg p) = 1 then aE d 38 137 [.ref 10, .ref 37, .int (pk sg p), .int (bnd (pk sg p)), .int (tI false)] [] (g, (aU (pC I p) 10 4 (m ||| (1 <<< (nI e &&& 31)))), J, aP1 sl rd rl) else aE d 38 137 [.ref 10, .ref 37, .int (pk sg p), .int (bnd (pk sg p)), .int (tI false)] [] (g, pC I p, J, aP1 sl rd rl)) = aE d 38 137 [.ref 10, .ref 37, .int (pk sg p), .int (bnd (pk sg p)), .int (tI false)] [] (g, pC I1 p, J, aP1 sl rd rl) := by
        by_cases q : bnd (pk sg p) = 1
        · obtain ⟨k1, k2, k3, k4, k5, k6⟩ := hy
          refine ⟨aU I 10 4 (m ||| bit e), by rw [aU_R]; exact Fr_s (Fr_r _ _) _ (by decide), ⟨?_, ?_, ?_, ?_, ?_, ?_⟩, ?_⟩
          · rw [aU_r _ _ (by decide)]; exact k1
          · rw [aU_r _ _ (by decide)]; exact k2
          · rw [aU_i _ _ (by decide)]; exact k3
          · rw [aU_r _ _ (by decide)]; exact k4
          · rw [aU_i _ _ (by decide)]; exact k5
          · rw [aU_s, if_pos q]
          · rw [if_pos q, pC_a _ _ (by decide)]
            rfl
        · exact ⟨I, Fr_r _ _, by rw [if_neg q]; exact hy, by rw [if_neg q]⟩
      obtain ⟨I1, y1, y2, y3⟩ := E4
      obtain ⟨I2, z1, z2, z3⟩ := f40 (d := d) (g := g) (J := J) (sl := sl) (rd := rd) (rl := rl) (b := bnd (pk sg p)) (p := p) y2 (by omega)
      have sl1 := stl_len (bnd (pk sg p)) w c
      rw [y3, b38_137, z3]
      simp only [aBv]
      refine ⟨_, Fr_t (Fr_t y1 z1) (hoI_F _ _ _), yI_ho z2 (pk sg p), ?_⟩
      rw [b38_143, f32 z2.2.2.1 (by omega)]
      simp only [aBv]
      rw [b38_148]
      rfl
end C
