section T00
/-! drivers: one line -/
variable {d : Nat} {g : Nat × Nat × Nat} {I : Nat → Nat → Int32} {J : Nat → Nat → Int64} {sl rd rl : Nat} {t n m q : Nat}
theorem pC_a (I : Nat → Nat → Int32) (p : Nat × Int32) {a : Nat} (h : a ≠ 9) (k : Nat) (x : Int32) : aU (pC I p) a k x = pC (aU I a k x) p := by
  unfold pC
  rw [aU_R, aU_R, aR_r _ _ h, aR_r _ _ (Ne.symm h)]
  first | exact aR_c _ _ _ h | exact (aR_c _ _ _ h).symm | exact aR_c _ _ _ (Ne.symm h) | exact (aR_c _ _ _ (Ne.symm h)).symm
theorem pM_a (I : Nat → Nat → Int32) (p : Nat × Int32) {a : Nat} (h : a ≠ 46) (k : Nat) (x : Int32) : aU (pM I p) a k x = pM (aU I a k x) p := by
  unfold pM
  rw [aU_R, aU_R, aR_r _ _ h, aR_r _ _ (Ne.symm h)]
  first | exact aR_c _ _ _ h | exact (aR_c _ _ _ h).symm | exact aR_c _ _ _ (Ne.symm h) | exact (aR_c _ _ _ (Ne.symm h)).symm
theorem t8 {k : Nat} (h : k < 8) : ¬ (nI k < 0 ∨ 8 ≤ k) := by
  rintro (q | q)
  · exact nI_nlt (a := k) (b := 0) (by omega) (by omega) q
  · omega
theorem t32 {k : Nat} (h : k < 32) : ¬ (nI k < 0 ∨ 32 ≤ k) := by
  rintro (q | q)
  · exact nI_nlt (a := k) (b := 0) (by omega) (by omega) q
  · omega
theorem t39 {k : Nat} (h : k < 39) : ¬ (nI k < 0 ∨ 39 ≤ k) := by
  rintro (q | q)
  · exact nI_nlt (a := k) (b := 0) (by omega) (by omega) q
  · omega
def lnD (sg : Nat → Int32) (p : Nat × Int32) : Nat × Int32 := (cl sg (nm sg 1 (tk sg 49 57 p).2).2).2
def vD (sg : Nat → Int32) (p : Nat × Int32) : Int32 × Int32 × Int32 := ((tk sg 49 57 p).1 - 48, (nm sg 1 (tk sg 49 57 p).2).1, (cl sg (nm sg 1 (tk sg 49 57 p).2).2).1)
theorem lnD_at {sg : Nat → Int32} {N : Nat} (hE : sgE sg N) {p : Nat × Int32} (hp : p.1 ≤ N) : (lnD sg p).1 ≤ N := by
  have t1 := (tk_at hE (lo := 49) (hi := 57) (by decide) hp).2
  have t2 := (nm_at hE 1 t1).2
  unfold lnD
  exact cl_at hE t2
section D
variable {len top : Nat} {sg : Nat → Int32}
def vcD (sg : Nat → Int32) (I : Nat → Nat → Int32) (i : Nat) (p : Nat × Int32) : Prop := I 15 i = (vD sg p).1 ∧ I 16 i = (vD sg p).2.1 ∧ I 17 i = (vD sg p).2.2
theorem f48d (hE : sgE sg top) (h1 : len ≤ 80) (h2 : top ≤ 80) (I1 : Nat → Nat → Int32) (p : Nat × Int32) (i : Nat) (hi : i < 8) (hm : I1 9 1 = nI top) (hl : I1 7 1 = nI len) (hsg : sg = sgc (I1 8) len top) (hp : p.1 ≤ top) : ∃ I2, Fr [15, 16, 17] I1 I2 ∧ (∀ k, k < i → ∀ p', vcD sg I1 k p' → vcD sg I2 k p') ∧ vcD sg I2 i p ∧ aF d 48 [.ref 9, .int 100, .ref 14, .int (nI i)] (g, pC I1 p, J, aP1 sl rd rl) = some (some none, (g, pC I2 (lnD sg p), J, aP1 sl rd rl)) := by
  have t1 := (tk_at hE (lo := 49) (hi := 57) (by decide) hp).2
  have t2 := (nm_at hE 1 t1).2
  have e36 : aF d 36 [.ref 9, .int 49, .int 57] (g, pC I1 p, J, aP1 sl rd rl) = some (some (some (.int (tk sg 49 57 p).1)), (g, pC I1 (tk sg 49 57 p).2, J, aP1 sl rd rl)) := by
    have f := f36 (d := d) (g := g) (I := I1) (J := J) (sl := sl) (rd := rd) (rl := rl) (p := p) hm hl h1 h2 (by omega) 49 57
    rw [← hsg] at f; exact f
  have e35 : ∀ v : Int32, aF d 35 [.ref 9, .int 2] (g, pC (aU I1 15 i v) (tk sg 49 57 p).2, J, aP1 sl rd rl) = some (some (some (.int (nm sg 1 (tk sg 49 57 p).2).1)), (g, pC (aU I1 15 i v) (nm sg 1 (tk sg 49 57 p).2).2, J, aP1 sl rd rl)) := by
    intro v
    have f := f35 (d := d) (g := g) (I := aU I1 15 i v) (J := J) (sl := sl) (rd := rd) (rl := rl) (p := (tk sg 49 57 p).2) (len := len) (top := top) (m := 1) (by rw [aU_r _ _ (by decide)]; exact hm) (by rw [aU_r _ _ (by decide)]; exact hl) h1 h2 t1 (by decide)
    rw [aU_r _ _ (show 8 ≠ 15 by decide), ← hsg] at f
    exact f
  have e49 : ∀ v w : Int32, aF d 49 [.ref 9] (g, pC (aU (aU I1 15 i v) 16 i w) (nm sg 1 (tk sg 49 57 p).2).2, J, aP1 sl rd rl) = some (some (some (.int (cl sg (nm sg 1 (tk sg 49 57 p).2).2).1)), (g, pC (aU (aU I1 15 i v) 16 i w) (lnD sg p), J, aP1 sl rd rl)) := by
    intro v w
    have f := f49 (d := d) (g := g) (I := aU (aU I1 15 i v) 16 i w) (J := J) (sl := sl) (rd := rd) (rl := rl) (p := (nm sg 1 (tk sg 49 57 p).2).2) (len := len) (top := top) (by rw [aU_r _ _ (by decide), aU_r _ _ (by decide)]; exact hm) (by rw [aU_r _ _ (by decide), aU_r _ _ (by decide)]; exact hl) h1 h2 (by omega)
    rw [aU_r _ _ (show 8 ≠ 16 by decide), aU_r _ _ (show 8 ≠ 15 by decide), ← hsg] at f
    exact f
  refine ⟨aU (aU (aU I1 15 i ((tk sg 49 57 p).1 - 48)) 16 i (nm sg 1 (tk sg 49 57 p).2).1) 17 i (cl sg (nm sg 1 (tk sg 49 57 p).2).2).1, ?_, ?_, ?_, ?_⟩
  · simp only [aU_R]; exact Fr_s (Fr_s (Fr_s (Fr_r _ _) _ (by decide)) _ (by decide)) _ (by decide)
  · intro k hk p' hv
    have nk : k ≠ i := by omega
    unfold vcD at *
    simp (disch := first | decide | exact nk) only [aU_r, aU_i]
    exact hv
  · unfold vcD vD
    refine ⟨?_, ?_, ?_⟩
    · rw [aU_r _ _ (by decide), aU_r _ _ (by decide), aU_s]
    · rw [aU_r _ _ (by decide), aU_s]
    · rw [aU_s]
  · show aE d 48 0 [.ref 9, .int 100, .ref 14, .int (nI i), aNo] [] _ = _
    rw [b48_0, if_neg (show ¬ nI i < 0 from nI_nlt (b := 0) (by omega) (by omega)), if_pos (show nI i < 8 from nI_lt (b := 8) (by omega) (by omega)), if_pos rfl, e36]
    simp only [aBi]
    rw [b48_30, nI_clamp (by omega), if_neg (t8 hi), pC_a _ _ (by decide), e35]
    simp only [aBi]
    rw [b48_44, nI_clamp (by omega), if_neg (t8 hi), pC_a _ _ (by decide), e49]
    simp only [aBi]
    rw [b48_54, nI_clamp (by omega), if_neg (t8 hi), pC_a _ _ (by decide)]
end D
end T00
