/-! drivers: one line -/
variable {d : Nat} {g : Nat × Nat × Nat} {I : Nat → Nat → Int32} {J : Nat → Nat → Int64} {sl rd rl : Nat} {t n m q : Nat}
theorem pC_a (I : Nat → Nat → Int32) (p : Nat × Int32) {a : Nat} (h : a ≠ 9) (k : Nat) (x : Int32) : aU (pC I p) a k x = pC (aU I a k x) p := by
  unfold pC
  rw [aU_R, aU_R, aR_r _ _ h, aR_r _ _ (Ne.symm h)]
  first | exact aR_c _ _ _ h | exact (aR_c _ _ _ h).symm | exact aR_c _ _ _ (Ne.symm h) | exact (aR_c _ _ _ (Ne.symm h)).symm
theorem pM_a (I : Nat → Nat → Int32) (p : Nat × Int32) {a : Nat} (h : a ≠ 46) (k : Nat) (x : Int32) : aU (pM I p) a k x = pM (aU I a k x) p := by
  unfold pM
  rw [aU_R, aU_R, aR_r _ _ h, aR_r _ _ (Ne.symm h)]
  first | exact aR_c _ _ _ h | exact (aR_c _ _ _ h).symm | exact aR_c _ _ _ (Ne.symm h) | exact (aR_c _ _ _ (Ne.symm h)).symm
theorem aU_k {α : Type} (f : Nat → Nat → α) {a b i j : Nat} (v : α) (h : j ≠ i) : aU f a i v b j = f b j := by unfold aU; simp [h]
theorem t8 {k : Nat} (h : k < 8) : ¬ (nI k < 0 ∨ 8 ≤ k) := by
  rintro (q | q)
  · exact nI_nlt (a := k) (b := 0) (by omega) (by omega) q
  · omega
theorem t32 {k : Nat} (h : k < 32) : ¬ (nI k < 0 ∨ 32 ≤ k) := by
  rintro (q | q)
  · exact nI_nlt (a := k) (b := 0) (by omega) (by omega) q
  · omega
theorem t39 {k : Nat} (h : k < 39) : ¬ (nI k < 0 ∨ 39 ≤ k) := by
  rintro (q | q)
  · exact nI_nlt (a := k) (b := 0) (by omega) (by omega) q
  · omega
def lnD (sg : Nat → Int32) (p : Nat × Int32) : Nat × Int32 := (cl sg (nm sg 1 (tk sg 49 57 p).2).2).2
def vD (sg : Nat → Int32) (p : Nat × Int32) : Int32 × Int32 × Int32 := ((tk sg 49 57 p).1 - 48, (nm sg 1 (tk sg 49 57 p).2).1, (cl sg (nm sg 1 (tk sg 49 57 p).2).2).1)
theorem lnD_at {sg : Nat → Int32} {N : Nat} (hE : sgE sg N) {p : Nat × Int32} (hp : p.1 ≤ N) : (lnD sg p).1 ≤ N := by
  have t1 := (tk_at hE (lo := 49) (hi := 57) (by decide) hp).2
  have t2 := (nm_at hE 1 t1).2
  unfold lnD
  exact cl_at hE t2
section D
variable {len top : Nat} {sg : Nat → Int32}
def vcD (sg : Nat → Int32) (I : Nat → Nat → Int32) (i : Nat) (p : Nat × Int32) : Prop := I 15 i = (vD sg p).1 ∧ I 16 i = (vD sg p).2.1 ∧ I 17 i = (vD sg p).2.2
theorem vcD_k {w : Nat} (hw : w = 1) : ∀ (I1 I2 : Nat → Nat → Int32) (i k : Nat) (p' : Nat × Int32), Ke w i I1 I2 → k < i → vcD sg I1 k p' → vcD sg I2 k p' := by
  intro I1 I2 i k p' h hk hv
  subst hw
  unfold vcD at *
  rw [h 15 (by decide) k (by omega), h 16 (by decide) k (by omega), h 17 (by decide) k (by omega)]
  exact hv
theorem f48d (hE : sgE sg top) (h1 : len ≤ 80) (h2 : top ≤ 80) (I1 : Nat → Nat → Int32) (p : Nat × Int32) (i : Nat) (hi : i < 8) (hm : I1 9 1 = nI top) (hl : I1 7 1 = nI len) (hsg : sg = sgc (I1 8) len top) (hp : p.1 ≤ top) : ∃ I2, Fr [15, 16, 17] I1 I2 ∧ Ke 1 i I1 I2 ∧ vcD sg I2 i p ∧ aF d 48 [.ref 9, .int 100, .ref 14, .int (nI i)] (g, pC I1 p, J, aP1 sl rd rl) = some (some none, (g, pC I2 (lnD sg p), J, aP1 sl rd rl)) := by
  have t1 := (tk_at hE (lo := 49) (hi := 57) (by decide) hp).2
  have t2 := (nm_at hE 1 t1).2
  have e36 : aF d 36 [.ref 9, .int 49, .int 57] (g, pC I1 p, J, aP1 sl rd rl) = some (some (some (.int (tk sg 49 57 p).1)), (g, pC I1 (tk sg 49 57 p).2, J, aP1 sl rd rl)) := by
    have f := f36 (d := d) (g := g) (I := I1) (J := J) (sl := sl) (rd := rd) (rl := rl) (p := p) hm hl h1 h2 (by omega) 49 57
    rw [← hsg] at f; exact f
  have e35 : ∀ v : Int32, aF d 35 [.ref 9, .int 2] (g, pC (aU I1 15 i v) (tk sg 49 57 p).2, J, aP1 sl rd rl) = some (some (some (.int (nm sg 1 (tk sg 49 57 p).2).1)), (g, pC (aU I1 15 i v) (nm sg 1 (tk sg 49 57 p).2).2, J, aP1 sl rd rl)) := by
    intro v
    have f := f35 (d := d) (g := g) (I := aU I1 15 i v) (J := J) (sl := sl) (rd := rd) (rl := rl) (p := (tk sg 49 57 p).2) (len := len) (top := top) (m := 1) (by rw [aU_r _ _ (by decide)]; exact hm) (by rw [aU_r _ _ (by decide)]; exact hl) h1 h2 t1 (by decide)
    rw [aU_r _ _ (show 8 ≠ 15 by decide), ← hsg] at f
    exact f
  have e49 : ∀ v w : Int32, aF d 49 [.ref 9] (g, pC (aU (aU I1 15 i v) 16 i w) (nm sg 1 (tk sg 49 57 p).2).2, J, aP1 sl rd rl) = some (some (some (.int (cl sg (nm sg 1 (tk sg 49 57 p).2).2).1)), (g, pC (aU (aU I1 15 i v) 16 i w) (lnD sg p), J, aP1 sl rd rl)) := by
    intro v w
    have f := f49 (d := d) (g := g) (I := aU (aU I1 15 i v) 16 i w) (J := J) (sl := sl) (rd := rd) (rl := rl) (p := (nm sg 1 (tk sg 49 57 p).2).2) (len := len) (top := top) (by rw [aU_r _ _ (by decide), aU_r _ _ (by decide)]; exact hm) (by rw [aU_r _ _ (by decide), aU_r _ _ (by decide)]; exact hl) h1 h2 (by omega)
    rw [aU_r _ _ (show 8 ≠ 16 by decide), aU_r _ _ (show 8 ≠ 15 by decide), ← hsg] at f
    exact f
  refine ⟨aU (aU (aU I1 15 i ((tk sg 49 57 p).1 - 48)) 16 i (nm sg 1 (tk sg 49 57 p).2).1) 17 i (cl sg (nm sg 1 (tk sg 49 57 p).2).2).1, ?_, ?_, ?_, ?_⟩
  · simp only [aU_R]; exact Fr_s (Fr_s (Fr_s (Fr_r _ _) _ (by decide)) _ (by decide)) _ (by decide)
  · intro a _ k hk
    have nk : k ≠ i := by omega
    rw [aU_k _ _ nk, aU_k _ _ nk, aU_k _ _ nk]
  · unfold vcD vD
    refine ⟨?_, ?_, ?_⟩
    · rw [aU_r _ _ (by decide), aU_r _ _ (by decide), aU_s]
    · rw [aU_r _ _ (by decide), aU_s]
    · rw [aU_s]
  · show aE d 48 0 [.ref 9, .int 100, .ref 14, .int (nI i), aNo] [] _ = _
    rw [b48_0, if_neg (show ¬ nI i < 0 from nI_nlt (b := 0) (by omega) (by omega)), if_pos (show nI i < 8 from nI_lt (b := 8) (by omega) (by omega)), if_pos rfl, e36]
    simp only [aBi]
    rw [b48_30, nI_clamp (by omega), if_neg (t8 hi), pC_a _ _ (by decide), e35]
    simp only [aBi]
    rw [b48_44, nI_clamp (by omega), if_neg (t8 hi), pC_a _ _ (by decide), e49]
    simp only [aBi]
    rw [b48_54, nI_clamp (by omega), if_neg (t8 hi), pC_a _ _ (by decide)]
end D
section R2
variable {len top n0 : Nat} {sg : Nat → Int32} {I0 : Nat → Nat → Int32}
theorem i49 (x : Int32) : x - 49 + 1 = x - 48 := by
  rw [Int32.sub_eq_add_neg, Int32.sub_eq_add_neg, Int32.add_assoc]; rfl
theorem vD_good {p : Nat × Int32} (hE : sgE sg top) (h2 : top ≤ 80) (hp : p.1 ≤ top) (h : (lnD sg p).2 = -1) : (∃ k, k ≤ 99 ∧ (vD sg p).1 = nI k) ∧ (∃ k, k ≤ 99 ∧ (vD sg p).2.1 = nI k) ∧ (clR sg (nm sg 1 (tk sg 49 57 p).2).2).1 = (vD sg p).2.2 ∧ ∃ c, c < 2 ∧ (vD sg p).2.2 = nI c := by
  have t1 := (tk_at hE (lo := 49) (hi := 57) (by decide) hp).2
  have t2 := (nm_at hE 1 t1).2
  unfold lnD at h
  obtain ⟨a1, a2, a3⟩ := cl_v (p := (nm sg 1 (tk sg 49 57 p).2).2) (by omega) h
  obtain ⟨b1, _, b2⟩ := nm1_v (p := (tk sg 49 57 p).2) (by omega) a1
  obtain ⟨e, u1, u2, u3⟩ := tk_fine (by omega) b1
  unfold vD
  dsimp only
  refine ⟨?_, b2, a2, a3⟩
  obtain ⟨x, hx, ex⟩ := digH (x := pk sg p) (hi := 57) (H := 9) (fun q => u1 (by
    rw [int_lt] at q ⊢
    have c1 : (48 : Int32).toInt = 48 := rfl
    have c0 : (49 : Int32).toInt = 49 := rfl
    rw [c1] at q
    rw [c0]
    omega)) u2 rfl (by decide)
  exact ⟨x, by omega, by rw [e]; exact ex⟩
theorem lnD_wrk (hE : sgE sg top) (h2 : top ≤ 80) {p : Nat × Int32} (hp : p.1 ≤ top) (h : wrk p) : wrk (lnD sg p) := by
  have t1 := (tk_at hE (lo := 49) (hi := 57) (by decide) hp).2
  have t2 := (nm_at hE 1 t1).2
  exact wrk_cl (by omega) (wrk_nm (by omega) (wrk_t (by omega) h))
theorem vD_1 (sg : Nat → Int32) (p : Nat × Int32) : (vD sg p).1 = (tk sg 49 57 p).1 - 48 := by simp only [vD]
theorem vD_2 (sg : Nat → Int32) (p : Nat × Int32) : (vD sg p).2.1 = (nm sg 1 (tk sg 49 57 p).2).1 := by simp only [vD]
def vrD (sg : Nat → Int32) (I : Nat → Nat → Int32) (k : Nat) (p : Nat × Int32) : Prop := I 54 (3 * k) = (tk sg 49 57 p).1 - 49 + 1 ∧ I 54 (3 * k + 1) = (nm sg 1 (tk sg 49 57 p).2).1 ∧ I 54 (3 * k + 2) = (clR sg (nm sg 1 (tk sg 49 57 p).2).2).1
theorem vrD_k : ∀ (I1 I2 : Nat → Nat → Int32) (k j : Nat) (p : Nat × Int32), (∀ i, i < 3 * k → I2 54 i = I1 54 i) → j < k → vrD sg I1 j p → vrD sg I2 j p := by
  intro I1 I2 k j p h hj hv
  unfold vrD at *
  rw [h (3 * j) (by omega), h (3 * j + 1) (by omega), h (3 * j + 2) (by omega)]
  exact hv
theorem l182 (q15 : I0 46 15 = nI len) (q16 : I0 46 16 = nI top) (h1 : len ≤ 80) (h2 : top ≤ 80) (hB : byR (I0 52)) (hsg : sg = sgn (I0 52) len top) (hn : I0 46 1 = nI n0) (k : Nat) (w : Value) (I1 : Nat → Nat → Int32) (p : Nat × Int32) (F : Fr [54] I0 I1) (p2 : p.2 = -1) (hp : p.1 ≤ top) (hk : n0 + k < 8) : ∃ I' w' p3, Fr [54] I1 I' ∧ (∀ i, i < 3 * k → I' 54 i = I1 54 i) ∧ vrD sg I' k p ∧ rW p3 len = rW (lnD sg p) len ∧ p3.1 ≤ 80 ∧ aE d 182 24 [.ref 46, .int (nI k), .int 1, w] [] (g, pM I1 p, J, aP1 sl 53 56) = if pk sg (lnD sg p) = 59 then aE d 182 24 [.ref 46, .int (nI (k + 1)), .int 1, w'] [] (g, pM I' (adv (lnD sg p)), J, aP1 sl 53 56) else aE d 182 24 [.ref 46, .int (nI (k + 1)), .int 0, w'] [] (g, pM I' p3, J, aP1 sl 53 56) := by
  have hE : sgE sg top := by rw [hsg]; exact sgn_E _ _ _
  have t1 := (tk_at hE (lo := 49) (hi := 57) (by decide) hp).2
  have t2 := (nm_at hE 1 t1).2
  have t3 := cl_at hE t2
  have f46 : I1 46 = I0 46 := F 46 (by decide)
  have f52 : I1 52 = I0 52 := F 52 (by decide)
  have b15 : ∀ X : Nat → Int32, aR I1 54 X 46 15 = nI len := fun X => by rw [aR_r _ _ (by decide), f46]; exact q15
  have b16 : ∀ X : Nat → Int32, aR I1 54 X 46 16 = nI top := fun X => by rw [aR_r _ _ (by decide), f46]; exact q16
  have b52 : ∀ X : Nat → Int32, aR I1 54 X 52 = I0 52 := fun X => by rw [aR_r _ _ (by decide)]; exact f52
  have hX : ∀ (X : Nat → Int32) (p : Nat × Int32) (i : Nat) (v : Int32), aU (pM (aR I1 54 X) p) 54 i v = pM (aR I1 54 (upd X i v)) p := fun X p i v => by
    rw [pM_a _ _ (by decide), aU_R, aR_s, aR_u]
  have g187 : ∀ (X : Nat → Int32), aF d 187 [.ref 46, .int 49, .int 9] (g, pM (aR I1 54 X) p, J, aP1 sl 53 56) = some (some (some (.int ((tk sg 49 57 p).1 - 49))), (g, pM (aR I1 54 X) (tk sg 49 57 p).2, J, aP1 sl 53 56)) := by
    intro X
    have f := f187_52 (d := d) (g := g) (I := aR I1 54 X) (J := J) (sl := sl) (rl := 56) (p := p) (len := len) (top := top) (b15 X) (b16 X) h1 h2 (by omega) (by rw [b52]; exact hB) (lo := 49) (many := 9) (hi := 57) (by decide) (by decide) (by decide)
    rw [b52, ← hsg] at f
    exact f
  have g189 : ∀ (X : Nat → Int32) (p : Nat × Int32), p.1 ≤ top → aF d 189 [.ref 46, .int 2] (g, pM (aR I1 54 X) p, J, aP1 sl 53 56) = some (some (some (.int (nm sg 1 p).1)), (g, pM (aR I1 54 X) (nm sg 1 p).2, J, aP1 sl 53 56)) := by
    intro X p hp
    have f := f189_52 (d := d) (g := g) (I := aR I1 54 X) (J := J) (sl := sl) (rl := 56) (p := p) (len := len) (top := top) (m := 1) (b15 X) (b16 X) h1 h2 hp (by rw [b52]; exact hB) (by decide)
    rw [b52, ← hsg] at f
    exact f
  have g190 : ∀ (X : Nat → Int32) (p : Nat × Int32), p.1 ≤ 80 → aF d 190 [.ref 46] (g, pM (aR I1 54 X) p, J, aP1 sl 53 56) = some (some (some (.int (clR sg p).1)), (g, pM (aR I1 54 X) (cl sg p).2, J, aP1 sl 53 56)) := by
    intro X p hp
    have f := f190 (d := d) (g := g) (I := aR I1 54 X) (J := J) (sl := sl) (rl := 56) (p := p) (len := len) (top := top) (b15 X) (b16 X) h1 h2 hp
    rw [b52, ← hsg, cl_2] at f
    exact f
  have g191 : ∀ (X : Nat → Int32) (p : Nat × Int32), p.1 ≤ 80 → aF d 191 [.ref 46, .int 59] (g, pM (aR I1 54 X) p, J, aP1 sl 53 56) = some (some (some (.int (tI (decide (pk sg p = 59))))), (g, pM (aR I1 54 X) (ps sg 59 p), J, aP1 sl 53 56)) := by
    intro X p hp
    have f := f191_52 (d := d) (g := g) (I := aR I1 54 X) (J := J) (sl := sl) (rl := 56) (p := p) (len := len) (top := top) (b15 X) (b16 X) h1 h2 hp (c := 59) (by decide)
    rw [b52, ← hsg] at f
    exact f
  have m3 : (3 : Int32) * nI k = nI (3 * k) := pk_mul 3 k
  have a1 : nI (3 * k) + 1 = nI (3 * k + 1) := nI_1 _
  have a2 : nI (3 * k) + 2 = nI (3 * k + 2) := nI_add (3 * k) 2
  have n8 : ¬ nI (n0 + k) = 8 := fun e => absurd ((nI_eq (b := 8) (by omega) (by decide)).mp e) (by omega)
  refine ⟨aR I1 54 (upd (upd (upd (I1 54) (3 * k) ((tk sg 49 57 p).1 - 49 + 1)) (3 * k + 1) (nm sg 1 (tk sg 49 57 p).2).1) (3 * k + 2) (clR sg (nm sg 1 (tk sg 49 57 p).2).2).1), w, lnD sg p, Fr_s (Fr_r _ _) _ (by decide), fun i hi => ?_, ?_, rfl, by unfold lnD; omega, ?_⟩
  · rw [aR_s, upd_n _ _ (by omega), upd_n _ _ (by omega), upd_n _ _ (by omega)]
  · unfold vrD
    rw [aR_s]
    exact ⟨by rw [upd_n _ _ (by omega), upd_n _ _ (by omega), upd_s], by rw [upd_n _ _ (by omega), upd_s], by rw [upd_s]⟩
  · have e0 : I1 = aR I1 54 (I1 54) := (aR_id I1 54).symm
    rw [b182_24, if_neg (show ¬ (1 : Int32) = 0 by decide), f185, decide_eq_true p2]
    simp only [aBi]
    have g0 := g187 (I1 54)
    rw [aR_id] at g0
    rw [b182_32, if_neg (show ¬ tI true = 0 by decide), pM_o _ _ (by decide) (by decide), f46, hn, nI_add, if_neg n8, g0]
    simp only [aBi]
    rw [m3, b182_72, nI_clamp (by omega), if_neg (t32 (by omega)), pM_a _ _ (by decide), aU_R, g189 _ _ t1]
    simp only [aBi]
    rw [m3, a1, b182_89, nI_clamp (by omega), if_neg (t32 (by omega)), hX, g190 _ _ (by omega)]
    simp only [aBi]
    rw [m3, a2, b182_103, nI_clamp (by omega), if_neg (t32 (by omega)), hX, g191 _ _ (Nat.le_trans t3 h2)]
    simp only [aBi]
    rw [b182_113, nI_1]
    unfold ps lnD
    by_cases h59 : pk sg (cl sg (nm sg 1 (tk sg 49 57 p).2).2).2 = 59
    · rw [if_pos h59, if_pos h59, decide_eq_true h59]
      rfl
    · rw [if_neg h59, if_neg h59, decide_eq_false h59]
      rfl
theorem l182f (q15 : I0 46 15 = nI len) (q16 : I0 46 16 = nI top) (h1 : len ≤ 80) (h2 : top ≤ 80) (hn : I0 46 1 = nI n0) (k : Nat) (w : Value) (I1 : Nat → Nat → Int32) (p : Nat × Int32) (F : Fr [54] I0 I1) (p2 : p.2 = -1) (hp : p.1 ≤ top) (hk : n0 + k = 8) : aE d 182 24 [.ref 46, .int (nI k), .int 1, w] [] (g, pM I1 p, J, aP1 sl 53 56) = aE d 182 24 [.ref 46, .int (nI (k + 1)), .int 0, w] [] (g, pM I1 (flt p (nI p.1)), J, aP1 sl 53 56) := by
  have f46 : I1 46 = I0 46 := F 46 (by decide)
  have f := f191_52 (d := d) (g := g) (I := I1) (J := J) (sl := sl) (rl := 56) (p := flt p (nI p.1)) (len := len) (top := top) (by rw [f46]; exact q15) (by rw [f46]; exact q16) h1 h2 (by rw [flt_1]; omega) (c := 59) (by decide)
  have hk1 : pk (sgn (I1 52) len top) (flt p (nI p.1)) = -1 := if_neg (flt_bad (by omega))
  rw [hk1, decide_eq_false (by decide)] at f
  unfold ps at f
  rw [hk1, if_neg (by decide)] at f
  rw [b182_24, if_neg (show ¬ (1 : Int32) = 0 by decide), f185, decide_eq_true p2]
  simp only [aBi]
  rw [b182_32, if_neg (show ¬ tI true = 0 by decide), pM_o _ _ (by decide) (by decide), f46, hn, nI_add, if_pos (by rw [hk]; rfl), pM_17, f186]
  simp only [aBv]
  rw [b182_54, f]
  simp only [aBi]
  rw [b182_113, nI_1]
  rfl
end R2
/-! whoever comes in -/
theorem upd_id {f : Nat → Int32} {k : Nat} {x : Int32} (e : f k = x) : upd f k x = f := by
  funext i
  by_cases h : i = k
  · subst h; rw [upd_s, e]
  · rw [upd_n _ _ h]
theorem aU_w (f : Nat → Nat → Int32) (a i : Nat) (v : Int32) : aU f a i v a = upd (f a) i v := by rw [aU_R, aR_s]
def entC (f : Nat → Int32) (n : Nat) (c : Nat → Int32) : Nat → Nat → Int32
  | 0 => f
  | j + 1 => upd (entC f n c j) (8 + (n + j)) (c j)
def entV (h : Nat → Int32) (n : Nat) (c : Nat → Int32) : Nat → Nat → Int32
  | 0 => h
  | j + 1 => upd (upd (upd (entV h n c j) (6 + (n + j)) (c j)) (14 + (n + j)) 0) (22 + (n + j)) 0
theorem okS_e1 {f h : Nat → Int32} (H : okS n q f h) (hn : n < 8) {c : Nat} (hc : c < 2) : okS (n + 1) q (upd f (8 + n) (nI c)) (upd (upd (upd h (6 + n) (nI c)) (14 + n) 0) (22 + n) 0) := by
  obtain ⟨a, b, c'⟩ := H
  have z := b.2.2.2.1 n (Nat.le_refl _) hn
  have e1 : rV (upd (upd (upd h (6 + n) (nI c)) (14 + n) 0) (22 + n) 0) = upd (rV h) (6 + n) (nI c) := by
    rw [rV_upd _ _ (by omega), rV_upd _ _ (by omega), rV_upd _ _ (by omega), upd_id (k := 22 + n) (by rw [upd_n _ _ (by omega), upd_n _ _ (by omega)]; exact z.2), upd_id (k := 14 + n) (by rw [upd_n _ _ (by omega)]; exact z.1)]
  refine ⟨?_, ?_, ?_⟩
  · rw [e1, cV_updl _ _ hn, a]
  · rw [e1]
    obtain ⟨b1, b2, b3, b4, b5⟩ := b
    refine ⟨fun c hc => by rw [upd_n _ _ (by omega)]; exact b1 c hc, fun c hc => by rw [upd_n _ _ (by omega)]; exact b2 c hc, fun i hi => ?_, fun i hi hi2 => ?_, fun j hj hj2 => by rw [upd_n _ _ (by omega)]; exact b5 j hj hj2⟩
    · show ∃ c', c' < 2 ∧ upd (rV h) (6 + n) (nI c) (6 + i) = nI c'
      by_cases e : i = n
      · subst e; exact ⟨c, hc, upd_s _ _ _⟩
      · rw [upd_n _ _ (by omega)]; exact b3 i (by omega)
    · rw [upd_n _ _ (by omega), upd_n _ _ (by omega)]; exact b4 i (by omega) hi2
  · rw [upd_n _ _ (by omega)]; exact c'
theorem okS_e {f h c1 c2 : Nat → Int32} (H : okS n q f h) : ∀ K, n + K ≤ 8 → (∀ j, j < K → ∃ c, c < 2 ∧ c1 j = nI c ∧ c2 j = nI c) → okS (n + K) q (entC f n c1 K) (entV h n c2 K)
  | 0, _, _ => H
  | K + 1, h1, h2 => by
    obtain ⟨c, hc, e1, e2⟩ := h2 K (by omega)
    have := okS_e1 (okS_e H K (by omega) (fun j hj => h2 j (by omega))) (by omega) hc
    show okS (n + K + 1) q (upd (entC f n c1 K) (8 + (n + K)) (c1 K)) (upd (upd (upd (entV h n c2 K) (6 + (n + K)) (c2 K)) (14 + (n + K)) 0) (22 + (n + K)) 0)
    rw [e1, e2]
    exact this
theorem f52 {K : Nat} (h0 : I 14 0 = nI n) (hK : n + K ≤ 8) : aF d 52 [.ref 23, .ref 14, .int (nI K)] (g, I, J, aP1 sl rd rl) = some (some none, (g, aR I 24 (entC (I 24) n (fun j => I 17 (n + j)) K), J, aP1 sl rd rl)) := by
  have lp : ∀ (M j : Nat) (w : Value), j + M = K → aE d 52 2 [.ref 23, .ref 14, .int (nI K), .int (nI j), w] [] (g, aR I 24 (entC (I 24) n (fun j => I 17 (n + j)) j), J, aP1 sl rd rl) = some (some none, (g, aR I 24 (entC (I 24) n (fun j => I 17 (n + j)) K), J, aP1 sl rd rl)) := by
    intro M
    induction M with
    | zero =>
      intro j w hj
      obtain rfl : j = K := by omega
      rw [b52_2, if_pos (Int32.le_refl _)]
    | succ M ih =>
      intro j w hj
      have i0 : aR I 24 (entC (I 24) n (fun j => I 17 (n + j)) j) 14 0 = nI n := by rw [aR_r _ _ (by decide)]; exact h0
      have i17 : aR I 24 (entC (I 24) n (fun j => I 17 (n + j)) j) 17 = I 17 := aR_r _ _ (by decide)
      rw [b52_2, i0, nI_add, if_neg (nI_ge (by omega) (by omega)), if_neg (show ¬ (8 : Int32) ≤ nI (n + j) from nI_ge (b := 8) (by omega) (by omega)), nI_clamp (by omega), if_neg (t8 (by omega)), nIp8, nI_clamp (by omega), if_neg (t32 (by omega)), i17, aU_R, aR_s, aR_u, nI_1]
      exact ih (j + 1) _ (by omega)
  show aE d 52 0 [.ref 23, .ref 14, .int (nI K), aNo, aNo] [] _ = _
  rw [b52_0]
  have := lp K 0 aNo (by omega)
  rw [show aR I 24 (entC (I 24) n (fun j => I 17 (n + j)) 0) = I from aR_id I 24] at this
  exact this
def fgt (I : Nat → Nat → Int32) : Nat → Nat → Int32 := aU (aU (aU I 29 1 0) 32 0 0) 32 1 0
theorem f53 : aF d 53 [.ref 6] (g, I, J, aP1 sl rd rl) = some (some none, (g, fgt I, J, aP1 sl rd rl)) := by
  show aE d 53 0 [.ref 6, aNo] [] _ = _
  have e54 : aF d 54 [.ref 29] (g, I, J, aP1 sl rd rl) = some (some none, (g, aU I 29 1 0, J, aP1 sl rd rl)) := b54_0 ..
  rw [b53_0, e54]
  simp only [aBv]
  rw [b53_7, b53_9, if_neg (by decide), if_neg (by decide), b53_9, if_neg (by decide), if_neg (by decide), b53_9, if_pos (by decide)]
  rfl
theorem fgt_F (I : Nat → Nat → Int32) : Fr [29, 32] I (fgt I) := by
  unfold fgt
  rw [aU_R, aU_R, aU_R]
  exact Fr_s (Fr_s (Fr_s (Fr_r _ _) _ (by decide)) _ (by decide)) _ (by decide)
theorem zK_new {a : Int32} {r31 r32 r64 r65 r66 r31' r32' r64' : Nat → Int32} {n' q' : Nat} (ht : t < 2 ^ 30) (h : zK t n q a r31 r32 r64 r65 r66) (e0 : r32' 0 = 0) (e1 : r32' 1 = 0) : zK (t + 1) n' q' (a + 1) r31' r32' r64' r65 r66 := by
  obtain ⟨c, h1, rfl, h3⟩ := h
  refine ⟨c + 1, by omega, nI_1 c, fun i hi => ?_⟩
  have z : r32' i = 0 := by
    rcases (by omega : i = 0 ∨ i = 1) with rfl | rfl
    · exact e0
    · exact e1
  obtain ⟨k, k1, k2⟩ := (h3 i hi).2.1
  refine ⟨Or.inl z, ⟨k, by omega, k2⟩, ⟨fun h => by rw [z] at h; exact absurd h (by decide), fun h => ?_⟩, fun h => by rw [z] at h; exact absurd h (by decide)⟩
  exfalso
  have := (nI_eq (by omega) (by omega)).mp (k2.symm.trans h.2)
  omega
theorem zInv_L {n' m' q' : Nat} {I' : Nat → Nat → Int32} (H : zInv t n m q I J) (h : Fr (7 :: 14 :: 15 :: 16 :: 18 :: 19 :: 20 :: 21 :: 22 :: 24 :: 29 :: 32 :: 47 :: 48 :: 49 :: 50 :: 51 :: scr) I I') (h2 : F46 (10 :: 1 :: 4 :: 6 :: 26 :: 37 :: scf) I I') (hL : I' 14 11 = I 14 11) (hT : I' 7 1 = 0) (hT2 : I' 46 10 = 0) (hD : zD n' (I' 14 0) (I' 46 1) (I' 15) (I' 16) (I' 48) (I' 49)) (hQ : zQ m' (I' 14 4) (I' 46 4) (I' 18) (I' 19) (I' 20) (I' 21) (I' 50)) (hS : zS q' (I' 14 9) (I' 46 6) (I' 22) (I' 51)) (hN : okS n' q' (I' 24) (I' 47)) (hU : zU n' q' (I' 29 1) (I' 46 26) (I' 29 2) (I' 30) (I' 58)) (hK : zK (t + 1) n' q' (I' 46 37) (I' 31) (I' 32) (I' 64) (I' 65) (I' 66)) : zInv (t + 1) n' m' q' I' J := by
  obtain ⟨a1, a2, a3, a4, a5, a6, a7, a8, a9, b1, b2⟩ := H
  obtain ⟨k, c1, c2, c3, c4, c5⟩ := a1
  refine ⟨⟨0, by decide, hT, hT2, fun i hi => by omega, by rw [h 52 (by decide)]; exact c5⟩, ?_, hD, hQ, hS, ?_, hN, hU, hK, ?_, ?_⟩
  · rw [h 12 (by decide), h2 12 (by decide)]; exact a2
  · rw [hL, h2 8 (by decide)]; exact a6
  · rw [h 33 (by decide), h2 22 (by decide), h 34 (by decide), h 55 (by decide)]; exact b1
  · rw [h 42 (by decide), h2 35 (by decide), h 43 (by decide), h 44 (by decide), h 62 (by decide), h 63 (by decide)]; exact b2
theorem c182 {Ia : Nat → Nat → Int32} {K : Nat} (a2 : Int32) (h1 : Ia 46 1 = nI n) (hK : n + K ≤ 8) : ∃ I', Fr [46, 47, 48, 49] Ia I' ∧ F46 [1, 26, 37] Ia I' ∧ I' 46 1 = nI (n + K) ∧ I' 46 26 = 0 ∧ I' 46 37 = Ia 46 37 + 1 ∧ I' 47 = entV (Ia 47) n (fun j => Ia 54 (3 * j + 2)) K ∧ (∀ i, i < n → I' 48 i = Ia 48 i ∧ I' 49 i = Ia 49 i) ∧ (∀ j, j < K → I' 48 (n + j) = Ia 54 (3 * j) ∧ I' 49 (n + j) = Ia 54 (3 * j + 1)) ∧ aE d 182 133 [.ref 46, .int (nI K), .int a2, .int 0] [] (g, Ia, J, aP1 sl rd rl) = some (some (some (.int (nI K))), (g, I', J, aP1 sl rd rl)) := by
  have lp : ∀ (M j : Nat) (I2 : Nat → Nat → Int32), j + M = K → Fr [46, 47, 48, 49] Ia I2 → F46 [1] Ia I2 → I2 46 1 = nI (n + j) → I2 47 = entV (Ia 47) n (fun j => Ia 54 (3 * j + 2)) j → (∀ i, i < n → I2 48 i = Ia 48 i ∧ I2 49 i = Ia 49 i) → (∀ i, i < j → I2 48 (n + i) = Ia 54 (3 * i) ∧ I2 49 (n + i) = Ia 54 (3 * i + 1)) → ∃ I', Fr [46, 47, 48, 49] Ia I' ∧ F46 [1] Ia I' ∧ I' 46 1 = nI (n + K) ∧ I' 47 = entV (Ia 47) n (fun j => Ia 54 (3 * j + 2)) K ∧ (∀ i, i < n → I' 48 i = Ia 48 i ∧ I' 49 i = Ia 49 i) ∧ (∀ i, i < K → I' 48 (n + i) = Ia 54 (3 * i) ∧ I' 49 (n + i) = Ia 54 (3 * i + 1)) ∧ aE d 182 133 [.ref 46, .int (nI K), .int a2, .int (nI j)] [] (g, I2, J, aP1 sl rd rl) = aBv (aF d 194 [.ref 46] (g, I', J, aP1 sl rd rl)) (fun t0 => aE d 182 242 [.ref 46, .int (nI K), .int a2, .int (nI K)] [] t0) := by
    intro M
    induction M with
    | zero =>
      intro j I2 hj q1 q2 q3 q4 q5 q6
      obtain rfl : j = K := by omega
      refine ⟨I2, q1, q2, q3, q4, q5, q6, ?_⟩
      rw [b182_133, if_pos (Int32.le_refl _)]
    | succ M ih =>
      intro j I2 hj q1 q2 q3 q4 q5 q6
      have e54 : I2 54 = Ia 54 := q1 54 (by decide)
      obtain ⟨I', z1, z2, z3, z4, z5, z6, z7⟩ := ih (j + 1) (aU (aU (aU (aU (aU (aU I2 48 (n + j) (Ia 54 (3 * j))) 49 (n + j) (Ia 54 (3 * j + 1))) 47 (6 + (n + j)) (Ia 54 (3 * j + 2))) 47 (14 + (n + j)) 0) 47 (22 + (n + j)) 0) 46 1 (nI (n + j + 1))) (by omega) (by
          simp only [aU_R]
          exact Fr_s (Fr_s (Fr_s (Fr_s (Fr_s (Fr_s q1 _ (by decide)) _ (by decide)) _ (by decide)) _ (by decide)) _ (by decide)) _ (by decide)) (fun k hk => by
          have nk : k ≠ 1 := by simpa using hk
          rw [aU_i _ _ nk]
          simp (disch := decide) only [aU_r]
          exact q2 k hk) (by rw [aU_s]; rfl) (by
          rw [aU_r _ _ (by decide), aU_w, aU_w, aU_w, aU_r _ _ (by decide), aU_r _ _ (by decide), q4]; rfl) (fun i hi => by
          simp (disch := first | decide | omega) only [aU_r, aU_i]
          exact q5 i hi) (fun i hi => by
          by_cases e : i = j
          · subst e
            simp (disch := first | decide | omega) only [aU_r, aU_s, and_self]
          · simp (disch := first | decide | omega) only [aU_r, aU_i]
            exact q6 i (by omega))
      refine ⟨I', z1, z2, z3, z4, z5, z6, ?_⟩
      rw [b182_133]
      simp (disch := omega) only [q3, e54, aBi, aBv, aBl, nI_1, nIle_t, nIle_f, nIlt_t, nIlt_f, nIeq_t, nIeq_f, nIneg, nI_clamp, nat_le_f, nat_le_t, nat_lt_f, nat_lt_t, or_self, or_false, false_or, if_true, if_false, ↓reduceIte, Int32.or_zero, Int32.add_zero, nIm2, nIm3, nIm4, nIp2, nIp4, nIp6, nIp8, nIp14, nIp16, nIp22, nIp24, nIp30, nIq2, nIq3, nIq4, hasI_0, aU_s, aU_i, aU_r, aU_u]
      exact z7
  obtain ⟨I', z1, z2, z3, z4, z5, z6, z7⟩ := lp K 0 Ia (by omega) (Fr_r _ _) (F46_r _ _) h1 rfl (fun i hi => ⟨rfl, rfl⟩) (fun i hi => by omega)
  have e194 : aF d 194 [.ref 46] (g, I', J, aP1 sl rd rl) = some (some none, (g, aU (aU I' 46 26 0) 46 37 (I' 46 37 + 1), J, aP1 sl rd rl)) := b194_0 ..
  refine ⟨aU (aU I' 46 26 0) 46 37 (I' 46 37 + 1), ?_, ?_, ?_, ?_, ?_, ?_, ?_, ?_, ?_⟩
  · rw [aU_R, aU_R]; exact Fr_s (Fr_s z1 _ (by decide)) _ (by decide)
  · intro k hk
    have n26 : k ≠ 26 := fun e => hk (by rw [e]; decide)
    have n37 : k ≠ 37 := fun e => hk (by rw [e]; decide)
    rw [aU_i _ _ n37, aU_i _ _ n26]
    exact z2 k (fun h => hk (by simp at h; rw [h]; decide))
  · rw [aU_i _ _ (by decide), aU_i _ _ (by decide)]; exact z3
  · rw [aU_i _ _ (by decide), aU_s]
  · rw [aU_s, z2 37 (by decide)]
  · rw [aU_r _ _ (by decide), aU_r _ _ (by decide)]; exact z4
  · intro i hi; rw [aU_r _ _ (by decide), aU_r _ _ (by decide), aU_r _ _ (by decide), aU_r _ _ (by decide)]; exact z5 i hi
  · intro i hi; rw [aU_r _ _ (by decide), aU_r _ _ (by decide), aU_r _ _ (by decide), aU_r _ _ (by decide)]; exact z6 i hi
  · rw [show (.int 0 : Value) = .int (nI 0) from rfl, z7, e194]
    simp only [aBv]
    rw [b182_242]
