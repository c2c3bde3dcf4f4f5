/-! quarters: one line, both sides -/
variable {d : Nat} {g : Nat × Nat × Nat} {I : Nat → Nat → Int32} {J : Nat → Nat → Int64} {sl rd rl : Nat} {t n m q : Nat}
def cn (sg : Nat → Int32) (p : Nat × Int32) : Int32 × (Nat × Int32) := ((nm sg 1 p).1, if (nm sg 1 p).1 = 0 then flt (nm sg 1 p).2 (nI (nm sg 1 p).2.1 - 1) else (nm sg 1 p).2)
def glL (sg : Nat → Int32) : Nat → Int32 → Int32 → Nat × Int32 → Int32 × (Nat × Int32)
  | 0, k, _, p => (k, p)
  | f + 1, k, l, p => if pk sg p < l then (k, p) else if pk sg p ≤ 105 then glL sg f (k ||| (1 <<< ((pk sg p - 97) &&& 31))) (pk sg p + 1) (adv p) else (k, p)
def pst (sg : Nat → Int32) (p : Nat × Int32) : Nat × Int32 := if pk sg p < 97 then p else if pk sg p ≤ 105 then flt p (nI p.1) else p
theorem cn_1 (sg : Nat → Int32) (p : Nat × Int32) : (cn sg p).2.1 = (nm sg 1 p).2.1 := by
  unfold cn
  dsimp only
  split
  · rw [flt_1]
  · rfl
theorem cn_at {sg : Nat → Int32} {N : Nat} (hE : sgE sg N) {p : Nat × Int32} (hp : p.1 ≤ N) : (cn sg p).2.1 ≤ N := by
  rw [cn_1]; exact (nm_at hE 1 hp).2
theorem cn_f {sg : Nat → Int32} {p : Nat × Int32} (h : (cn sg p).2.2 = -1) : (nm sg 1 p).2.2 = -1 := by
  apply Classical.byContradiction; intro q
  unfold cn at h
  dsimp only at h
  split at h
  · unfold flt at h; rw [if_neg q] at h; exact q h
  · exact q h
theorem wrk_cn {sg : Nat → Int32} {N : Nat} (hE : sgE sg N) (hN : N ≤ 80) {p : Nat × Int32} (hp : p.1 ≤ N) (h : wrk p) : wrk (cn sg p).2 := by
  have w := wrk_nm (sg := sg) (p := p) (by omega) h
  have a := (nm_at hE 1 hp).2
  unfold cn
  dsimp only
  split
  · unfold flt
    by_cases q : (nm sg 1 p).2.2 = -1
    · rw [if_pos q]
      obtain ⟨_, h2, _⟩ := nm1_v (p := p) (by omega) q
      refine Or.inr ⟨(nm sg 1 p).2.1 - 1, by omega, ?_⟩
      exact pk_sub (b := 1) (by omega)
    · rw [if_neg q]; exact w
  · exact w
theorem pk105 {sg : Nat → Int32} {p : Nat × Int32} {lv : Nat} (h1 : ¬ pk sg p < nI lv) (hl : lv ≤ 106) (h2 : pk sg p ≤ 105) : ∃ c, c ≤ 105 ∧ lv ≤ c ∧ pk sg p = nI c := by
  have h0 : ¬ pk sg p < 0 := fun q => h1 (by
    have e := nI_pos (n := lv) (by omega)
    rw [int_lt] at q e ⊢
    omega)
  obtain ⟨c, hc, e⟩ := nI_of2 (M := 105) (n := 105) rfl h0 h2
  refine ⟨c, by omega, ?_, e⟩
  apply Classical.byContradiction; intro q
  rw [e] at h1
  exact h1 (nI_lt (by omega) (by omega))
theorem glL_at {sg : Nat → Int32} {N : Nat} (hE : sgE sg N) : ∀ (f lv : Nat) (k : Int32) (p : Nat × Int32), lv ≤ 106 → p.1 ≤ N → (glL sg f k (nI lv) p).2.1 ≤ N ∧ (glL sg f k (nI lv) p).2.2 = p.2 := by
  intro f
  induction f with
  | zero => intro lv k p _ hp; exact ⟨hp, rfl⟩
  | succ f ih =>
    intro lv k p hl hp
    unfold glL
    by_cases h1 : pk sg p < nI lv
    · rw [if_pos h1]; exact ⟨hp, rfl⟩
    · rw [if_neg h1]
      by_cases h2 : pk sg p ≤ 105
      · rw [if_pos h2]
        obtain ⟨c, hc, hlc, e⟩ := pk105 h1 hl h2
        have hn : ¬ pk sg p = -1 := by rw [e]; exact nIm1b (by omega)
        have := ih (c + 1) (k ||| (1 <<< ((pk sg p - 97) &&& 31))) (adv p) (by omega) (pk_at hE hn)
        rw [← nI_1, ← e] at this
        exact this
      · rw [if_neg h2]; exact ⟨hp, rfl⟩
def lnQ (sg : Nat → Int32) (p : Nat × Int32) : Nat × Int32 := (glL sg 9 0 97 (tk sg 48 57 (cl sg (cn sg p).2).2).2).2
def vQ (sg : Nat → Int32) (p : Nat × Int32) : Int32 × Int32 × Int32 × Int32 := ((cn sg p).1, (cl sg (cn sg p).2).1, (tk sg 48 57 (cl sg (cn sg p).2).2).1 - 48, (glL sg 9 0 97 (tk sg 48 57 (cl sg (cn sg p).2).2).2).1)
theorem vQ_1 (sg : Nat → Int32) (p : Nat × Int32) : (vQ sg p).1 = (cn sg p).1 := by simp only [vQ]
theorem vQ_2 (sg : Nat → Int32) (p : Nat × Int32) : (vQ sg p).2.1 = (cl sg (cn sg p).2).1 := by simp only [vQ]
theorem vQ_3 (sg : Nat → Int32) (p : Nat × Int32) : (vQ sg p).2.2.1 = (tk sg 48 57 (cl sg (cn sg p).2).2).1 - 48 := by simp only [vQ]
theorem vQ_4 (sg : Nat → Int32) (p : Nat × Int32) : (vQ sg p).2.2.2 = (glL sg 9 0 97 (tk sg 48 57 (cl sg (cn sg p).2).2).2).1 := by simp only [vQ]
theorem cn_v (sg : Nat → Int32) (p : Nat × Int32) : (cn sg p).1 = (nm sg 1 p).1 := by simp only [cn]
theorem lnQ_ats {sg : Nat → Int32} {N : Nat} (hE : sgE sg N) {p : Nat × Int32} (hp : p.1 ≤ N) : (cn sg p).2.1 ≤ N ∧ (cl sg (cn sg p).2).2.1 ≤ N ∧ (tk sg 48 57 (cl sg (cn sg p).2).2).2.1 ≤ N ∧ (lnQ sg p).1 ≤ N ∧ (lnQ sg p).2 = (tk sg 48 57 (cl sg (cn sg p).2).2).2.2 := by
  have t1 := cn_at hE hp
  have t2 := cl_at hE t1
  have t3 := (tk_at hE (lo := 48) (hi := 57) (by decide) t2).2
  have t4 := glL_at hE 9 97 0 (tk sg 48 57 (cl sg (cn sg p).2).2).2 (by decide) t3
  have e97 : nI 97 = 97 := rfl
  rw [e97] at t4
  unfold lnQ
  exact ⟨t1, t2, t3, t4.1, t4.2⟩
theorem lnQ_at {sg : Nat → Int32} {N : Nat} (hE : sgE sg N) {p : Nat × Int32} (hp : p.1 ≤ N) : (lnQ sg p).1 ≤ N := (lnQ_ats hE hp).2.2.2.1
theorem lnQ_wrk {sg : Nat → Int32} {top : Nat} (hE : sgE sg top) (h2 : top ≤ 80) {p : Nat × Int32} (hp : p.1 ≤ top) (h : wrk p) : wrk (lnQ sg p) := by
  obtain ⟨t1, t2, t3, t4, t5⟩ := lnQ_ats hE hp
  have := wrk_t (sg := sg) (lo := 48) (hi := 57) (p := (cl sg (cn sg p).2).2) (by omega) (wrk_cl (by omega) (wrk_cn hE h2 hp h))
  unfold wrk at this ⊢
  rw [t5]; exact this
theorem tk_v {sg : Nat → Int32} {p : Nat × Int32} (hp : p.1 ≤ 80) (h : (tk sg 48 57 p).2.2 = -1) : p.2 = -1 ∧ ∃ x, x ≤ 99 ∧ (tk sg 48 57 p).1 - 48 = nI x := by
  obtain ⟨e, u1, u2, u3⟩ := tk_fine hp h
  obtain ⟨x, hx, ex⟩ := digH (H := 9) u1 u2 rfl (by decide)
  exact ⟨u3, x, by omega, by rw [e]; exact ex⟩
theorem vQ_good {sg : Nat → Int32} {top : Nat} {p : Nat × Int32} (hE : sgE sg top) (h2 : top ≤ 80) (hp : p.1 ≤ top) (h : (lnQ sg p).2 = -1) : (∃ k, k ≤ 99 ∧ (vQ sg p).1 = nI k) ∧ (clR sg (cn sg p).2).1 = (vQ sg p).2.1 ∧ (∃ c, c < 2 ∧ (vQ sg p).2.1 = nI c) ∧ ∃ k, k ≤ 99 ∧ (vQ sg p).2.2.1 = nI k := by
  obtain ⟨t1, t2, t3, t4, t5⟩ := lnQ_ats hE hp
  have h' : (tk sg 48 57 (cl sg (cn sg p).2).2).2.2 = -1 := t5.symm.trans h
  obtain ⟨u3, x, hx, ex⟩ := tk_v (Nat.le_trans t2 h2) h'
  obtain ⟨a1, a2, a3⟩ := cl_v (p := (cn sg p).2) (Nat.le_trans t1 h2) u3
  obtain ⟨b1, _, b2⟩ := nm1_v (p := p) (Nat.le_trans hp h2) (cn_f a1)
  rw [vQ_1, vQ_2, vQ_3, cn_v]
  exact ⟨b2, a2, a3, x, hx, ex⟩
section C
variable {len top : Nat} {sg : Nat → Int32}
theorem f50 {p : Nat × Int32} (hm : I 9 1 = nI top) (hl : I 7 1 = nI len) (h1 : len ≤ 80) (h2 : top ≤ 80) (hp : p.1 ≤ top) (hsg : sg = sgc (I 8) len top) : aF d 50 [.ref 9] (g, pC I p, J, aP1 sl rd rl) = some (some (some (.int (cn sg p).1)), (g, pC I (cn sg p).2, J, aP1 sl rd rl)) := by
  have e35 : aF d 35 [.ref 9, .int 2] (g, pC I p, J, aP1 sl rd rl) = some (some (some (.int (nm sg 1 p).1)), (g, pC I (nm sg 1 p).2, J, aP1 sl rd rl)) := by
    have f := f35 (d := d) (g := g) (I := I) (J := J) (sl := sl) (rd := rd) (rl := rl) (p := p) (len := len) (top := top) (m := 1) hm hl h1 h2 hp (by decide)
    rw [← hsg] at f
    exact f
  show aE d 50 0 [.ref 9, aNo] [] _ = _
  rw [b50_0, e35]
  simp only [aBi]
  rw [b50_5, pC_2, f37]
  simp only [aBv]
  rw [b50_20, b50_20]
  unfold cn
  dsimp only
  split <;> rfl
theorem f51 {p : Nat × Int32} (hm : I 9 1 = nI top) (hl : I 7 1 = nI len) (h1 : len ≤ 80) (h2 : top ≤ 80) (hp : p.1 ≤ top) (hsg : sg = sgc (I 8) len top) : aF d 51 [.ref 9] (g, pC I p, J, aP1 sl rd rl) = some (some (some (.int (glL sg 9 0 97 p).1)), (g, pC I (glL sg 9 0 97 p).2, J, aP1 sl rd rl)) := by
  have hE : sgE sg top := by rw [hsg]; exact sgc_E _ _ _
  have lp : ∀ (f i lv : Nat) (k : Int32) (p : Nat × Int32) (w : Value), i + f = 9 → lv ≤ 106 → p.1 ≤ top → aE d 51 7 [.ref 9, .int k, .int (nI lv), .int (nI i), w] [] (g, pC I p, J, aP1 sl rd rl) = some (some (some (.int (glL sg f k (nI lv) p).1)), (g, pC I (glL sg f k (nI lv) p).2, J, aP1 sl rd rl)) := by
    intro f
    induction f with
    | zero =>
      intro i lv k p w hi hl2 hp
      rw [b51_7, if_pos (show (9 : Int32) ≤ nI i from nI_le (a := 9) (by omega) (by omega))]
      rfl
    | succ f ih =>
      intro i lv k p w hi hl2 hp
      have e30 := f30 (d := d) (g := g) (I := I) (J := J) (sl := sl) (rd := rd) (rl := rl) (p := p) (len := len) (top := top) hm hl h1 h2 (by omega)
      rw [← hsg] at e30
      rw [b51_7, if_neg (show ¬ (9 : Int32) ≤ nI i from nI_ge (b := 9) (by omega) (by omega)), e30]
      simp only [aBi]
      rw [b51_17]
      unfold glL
      by_cases c1 : pk sg p < nI lv
      · rw [if_pos c1, if_pos c1]
      · rw [if_neg c1, if_neg c1]
        by_cases c2 : pk sg p ≤ 105
        · rw [if_pos c2, if_pos c2, f33]
          simp only [aBv]
          obtain ⟨c, hc, hlc, e⟩ := pk105 c1 hl2 c2
          have hn : ¬ pk sg p = -1 := by rw [e]; exact nIm1b (by omega)
          have := ih (i + 1) (c + 1) (k ||| (1 <<< ((pk sg p - 97) &&& 31))) (adv p) (.int (pk sg p)) (by omega) (by omega) (pk_at hE hn)
          rw [← nI_1 c, ← e, ← nI_1 i] at this
          rw [b51_39]
          exact this
        · rw [if_neg c2, if_neg c2]
  show aE d 51 0 [.ref 9, aNo, aNo, aNo, aNo] [] _ = _
  rw [b51_0]
  have := lp 9 0 97 0 p aNo (by decide) (by decide) hp
  have e97 : nI 97 = 97 := rfl
  have e0 : nI 0 = 0 := rfl
  rw [e97, e0] at this
  exact this
def vcQ (sg : Nat → Int32) (I : Nat → Nat → Int32) (i : Nat) (p : Nat × Int32) : Prop := I 18 i = (vQ sg p).1 ∧ I 19 i = (vQ sg p).2.1 ∧ I 20 i = (vQ sg p).2.2.1 ∧ I 21 i = (vQ sg p).2.2.2
theorem vcQ_k {w : Nat} (hw : w = 1) : ∀ (I1 I2 : Nat → Nat → Int32) (i k : Nat) (p' : Nat × Int32), Ke w i I1 I2 → k < i → vcQ sg I1 k p' → vcQ sg I2 k p' := by
  intro I1 I2 i k p' h hk hv
  subst hw
  unfold vcQ at *
  rw [h 18 (by decide) k (by omega), h 19 (by decide) k (by omega), h 20 (by decide) k (by omega), h 21 (by decide) k (by omega)]
  exact hv
theorem f48q (hE : sgE sg top) (h1 : len ≤ 80) (h2 : top ≤ 80) (I1 : Nat → Nat → Int32) (p : Nat × Int32) (i : Nat) (hi : i < 8) (hm : I1 9 1 = nI top) (hl : I1 7 1 = nI len) (hsg : sg = sgc (I1 8) len top) (hp : p.1 ≤ top) : ∃ I2, Fr [18, 19, 20, 21] I1 I2 ∧ Ke 1 i I1 I2 ∧ vcQ sg I2 i p ∧ aF d 48 [.ref 9, .int 113, .ref 14, .int (nI i)] (g, pC I1 p, J, aP1 sl rd rl) = some (some none, (g, pC I2 (lnQ sg p), J, aP1 sl rd rl)) := by
  obtain ⟨t1, t2, t3, t4, t5⟩ := lnQ_ats hE hp
  have e50 : aF d 50 [.ref 9] (g, pC I1 p, J, aP1 sl rd rl) = some (some (some (.int (cn sg p).1)), (g, pC I1 (cn sg p).2, J, aP1 sl rd rl)) := f50 hm hl h1 h2 hp hsg
  have e49 : ∀ v : Int32, aF d 49 [.ref 9] (g, pC (aU I1 18 i v) (cn sg p).2, J, aP1 sl rd rl) = some (some (some (.int (cl sg (cn sg p).2).1)), (g, pC (aU I1 18 i v) (cl sg (cn sg p).2).2, J, aP1 sl rd rl)) := by
    intro v
    have f := f49 (d := d) (g := g) (I := aU I1 18 i v) (J := J) (sl := sl) (rd := rd) (rl := rl) (p := (cn sg p).2) (len := len) (top := top) (by rw [aU_r _ _ (by decide)]; exact hm) (by rw [aU_r _ _ (by decide)]; exact hl) h1 h2 (by omega)
    rw [aU_r _ _ (show 8 ≠ 18 by decide), ← hsg] at f
    exact f
  have e36 : ∀ v w : Int32, aF d 36 [.ref 9, .int 48, .int 57] (g, pC (aU (aU I1 18 i v) 19 i w) (cl sg (cn sg p).2).2, J, aP1 sl rd rl) = some (some (some (.int (tk sg 48 57 (cl sg (cn sg p).2).2).1)), (g, pC (aU (aU I1 18 i v) 19 i w) (tk sg 48 57 (cl sg (cn sg p).2).2).2, J, aP1 sl rd rl)) := by
    intro v w
    have f := f36 (d := d) (g := g) (I := aU (aU I1 18 i v) 19 i w) (J := J) (sl := sl) (rd := rd) (rl := rl) (p := (cl sg (cn sg p).2).2) (len := len) (top := top) (by rw [aU_r _ _ (by decide), aU_r _ _ (by decide)]; exact hm) (by rw [aU_r _ _ (by decide), aU_r _ _ (by decide)]; exact hl) h1 h2 (by omega) 48 57
    rw [aU_r _ _ (show 8 ≠ 19 by decide), aU_r _ _ (show 8 ≠ 18 by decide), ← hsg] at f
    exact f
  have e51 : ∀ v w z : Int32, aF d 51 [.ref 9] (g, pC (aU (aU (aU I1 18 i v) 19 i w) 20 i z) (tk sg 48 57 (cl sg (cn sg p).2).2).2, J, aP1 sl rd rl) = some (some (some (.int (vQ sg p).2.2.2)), (g, pC (aU (aU (aU I1 18 i v) 19 i w) 20 i z) (lnQ sg p), J, aP1 sl rd rl)) := by
    intro v w z
    rw [vQ_4]
    unfold lnQ
    exact f51 (by rw [aU_r _ _ (by decide), aU_r _ _ (by decide), aU_r _ _ (by decide)]; exact hm) (by rw [aU_r _ _ (by decide), aU_r _ _ (by decide), aU_r _ _ (by decide)]; exact hl) h1 h2 t3 (by rw [aU_r _ _ (by decide), aU_r _ _ (by decide), aU_r _ _ (by decide)]; exact hsg)
  refine ⟨aU (aU (aU (aU I1 18 i (cn sg p).1) 19 i (cl sg (cn sg p).2).1) 20 i ((tk sg 48 57 (cl sg (cn sg p).2).2).1 - 48)) 21 i (vQ sg p).2.2.2, ?_, ?_, ?_, ?_⟩
  · simp only [aU_R]; exact Fr_s (Fr_s (Fr_s (Fr_s (Fr_r _ _) _ (by decide)) _ (by decide)) _ (by decide)) _ (by decide)
  · intro a _ k hk
    have nk : k ≠ i := by omega
    rw [aU_k _ _ nk, aU_k _ _ nk, aU_k _ _ nk, aU_k _ _ nk]
  · unfold vcQ
    rw [vQ_1, vQ_2, vQ_3]
    refine ⟨?_, ?_, ?_, ?_⟩
    · rw [aU_r _ _ (by decide), aU_r _ _ (by decide), aU_r _ _ (by decide), aU_s]
    · rw [aU_r _ _ (by decide), aU_r _ _ (by decide), aU_s]
    · rw [aU_r _ _ (by decide), aU_s]
    · rw [aU_s]
  · show aE d 48 0 [.ref 9, .int 113, .ref 14, .int (nI i), aNo] [] _ = _
    rw [b48_0, if_neg (show ¬ nI i < 0 from nI_nlt (b := 0) (by omega) (by omega)), if_pos (show nI i < 8 from nI_lt (b := 8) (by omega) (by omega)), if_neg (by decide), if_pos rfl, e50]
    simp only [aBi]
    rw [b48_73, nI_clamp (by omega), if_neg (t8 hi), pC_a _ _ (by decide), e49]
    simp only [aBi]
    rw [b48_83, nI_clamp (by omega), if_neg (t8 hi), pC_a _ _ (by decide), e36]
    simp only [aBi]
    rw [b48_97, nI_clamp (by omega), if_neg (t8 hi), pC_a _ _ (by decide), e51]
    simp only [aBi]
    rw [b48_110, nI_clamp (by omega), if_neg (t8 hi), pC_a _ _ (by decide)]
end C
theorem gt9 : ∀ a, a < 10 → ∀ c, c < 9 → ((nI (97 + a) - 98 < nI (97 + c) - 97) ↔ a ≤ c) := by decide +kernel
theorem gn9 : ∀ c, c < 9 → nI (97 + c) - 97 = nI (97 + (c + 1)) - 98 := by decide +kernel
section R2
variable {len top n0 : Nat} {sg : Nat → Int32} {I0 : Nat → Nat → Int32}
theorem pst_1 (sg : Nat → Int32) (p : Nat × Int32) : (pst sg p).1 = p.1 := by
  unfold pst
  (repeat' split) <;> first | rfl | exact flt_1 _ _
theorem pk_ltn {row : Nat → Int32} {p : Nat × Int32} (h : ¬ pk (sgn row len top) p = -1) : p.1 < len := by
  apply Classical.byContradiction; intro q
  apply h
  unfold pk
  split
  · exact if_neg (by omega)
  · rfl
theorem rW_pst {row : Nat → Int32} {p : Nat × Int32} : rW (pst (sgn row len top) p) len = rW p len := by
  unfold pst
  by_cases h1 : pk (sgn row len top) p < 97
  · rw [if_pos h1]
  · rw [if_neg h1]
    by_cases h2 : pk (sgn row len top) p ≤ 105
    · rw [if_pos h2]
      have hn : ¬ pk (sgn row len top) p = -1 := fun e => h1 (by rw [e]; decide)
      have p2 := pk_2 hn
      have pl := pk_ltn hn
      unfold rW
      rw [flt_1, if_neg (by omega), if_neg (by omega)]
      unfold flt
      rw [if_pos p2]
      split <;> rfl
    · rw [if_neg h2]
theorem pst_59 {p : Nat × Int32} (h80 : p.1 ≤ 80) : (pk sg (pst sg p) = 59 ↔ pk sg p = 59) ∧ (pk sg p = 59 → pst sg p = p) := by
  unfold pst
  by_cases h1 : pk sg p < 97
  · rw [if_pos h1]; exact ⟨Iff.rfl, fun _ => rfl⟩
  · rw [if_neg h1]
    by_cases h2 : pk sg p ≤ 105
    · rw [if_pos h2]
      have e : pk sg (flt p (nI p.1)) = -1 := if_neg (flt_bad h80)
      have n59 : ¬ pk sg p = 59 := fun e => h1 (by rw [e]; decide)
      exact ⟨⟨fun h => by rw [e] at h; exact absurd h (by decide), fun h => absurd h n59⟩, fun h => absurd h n59⟩
    · rw [if_neg h2]; exact ⟨Iff.rfl, fun _ => rfl⟩
def vrQ (sg : Nat → Int32) (I : Nat → Nat → Int32) (k : Nat) (p : Nat × Int32) : Prop := I 54 (4 * k) = (vQ sg p).1 ∧ I 54 (4 * k + 1) = (clR sg (cn sg p).2).1 ∧ I 54 (4 * k + 2) = (vQ sg p).2.2.1 ∧ I 54 (4 * k + 3) = (vQ sg p).2.2.2
theorem vrQ_k : ∀ (I1 I2 : Nat → Nat → Int32) (k j : Nat) (p : Nat × Int32), (∀ i, i < 4 * k → I2 54 i = I1 54 i) → j < k → vrQ sg I1 j p → vrQ sg I2 j p := by
  intro I1 I2 k j p h hj hv
  unfold vrQ at *
  rw [h (4 * j) (by omega), h (4 * j + 1) (by omega), h (4 * j + 2) (by omega), h (4 * j + 3) (by omega)]
  exact hv
theorem c196 (q15 : I 46 15 = nI len) (q16 : I 46 16 = nI top) (h1 : len ≤ 80) (h2 : top ≤ 80) (hB : byR (I 52)) (hsg : sg = sgn (I 52) len top) (k : Nat) (hk : k < 8) (p : Nat × Int32) (hp : p.1 ≤ top) : ∃ X, (∀ i, i < 4 * k → X i = I 54 i) ∧ vrQ sg (aR I 54 X) k p ∧ aF d 196 [.ref 46, .int (nI (4 * k))] (g, pM I p, J, aP1 sl 53 rl) = some (some none, (g, pM (aR I 54 X) (pst sg (lnQ sg p)), J, aP1 sl 53 rl)) := by
  have hE : sgE sg top := by rw [hsg]; exact sgn_E _ _ _
  obtain ⟨t1, t2, t3, t4, t5⟩ := lnQ_ats hE hp
  have b15 : ∀ X : Nat → Int32, aR I 54 X 46 15 = nI len := fun X => by rw [aR_r _ _ (by decide)]; exact q15
  have b16 : ∀ X : Nat → Int32, aR I 54 X 46 16 = nI top := fun X => by rw [aR_r _ _ (by decide)]; exact q16
  have b52 : ∀ X : Nat → Int32, aR I 54 X 52 = I 52 := fun X => by rw [aR_r _ _ (by decide)]
  have hX : ∀ (X : Nat → Int32) (p : Nat × Int32) (i : Nat) (v : Int32), aU (pM (aR I 54 X) p) 54 i v = pM (aR I 54 (upd X i v)) p := fun X p i v => by
    rw [pM_a _ _ (by decide), aU_R, aR_s, aR_u]
  have r54 : ∀ (X : Nat → Int32) (p : Nat × Int32), pM (aR I 54 X) p 54 = X := fun X p => by rw [pM_r _ _ (by decide), aR_s]
  have g189 : aF d 189 [.ref 46, .int 2] (g, pM I p, J, aP1 sl 53 rl) = some (some (some (.int (nm sg 1 p).1)), (g, pM I (nm sg 1 p).2, J, aP1 sl 53 rl)) := by
    have f := f189_52 (d := d) (g := g) (I := I) (J := J) (sl := sl) (rl := rl) (p := p) (len := len) (top := top) (m := 1) q15 q16 h1 h2 hp hB (by decide)
    rw [← hsg] at f
    exact f
  have g187 : ∀ (X : Nat → Int32) (p : Nat × Int32), p.1 ≤ 80 → aF d 187 [.ref 46, .int 48, .int 10] (g, pM (aR I 54 X) p, J, aP1 sl 53 rl) = some (some (some (.int ((tk sg 48 57 p).1 - 48))), (g, pM (aR I 54 X) (tk sg 48 57 p).2, J, aP1 sl 53 rl)) := by
    intro X p hp
    have f := f187_52 (d := d) (g := g) (I := aR I 54 X) (J := J) (sl := sl) (rl := rl) (p := p) (len := len) (top := top) (b15 X) (b16 X) h1 h2 hp (by rw [b52]; exact hB) (lo := 48) (many := 10) (hi := 57) (by decide) (by decide) (by decide)
    rw [b52, ← hsg] at f
    exact f
  have g188 : ∀ (X : Nat → Int32) (p : Nat × Int32), p.1 ≤ 80 → p.2 = -1 → aF d 188 [.ref 46] (g, pM (aR I 54 X) p, J, aP1 sl 53 rl) = some (some (some (.int (pk sg p))), (g, pM (aR I 54 X) p, J, aP1 sl 53 rl)) := by
    intro X p hp p2
    have f := f188_52 (d := d) (g := g) (I := aR I 54 X) (J := J) (sl := sl) (rl := rl) (p := p) (len := len) (top := top) (b15 X) (b16 X) h1 h2 hp
    rw [b52, ← hsg] at f
    rw [f]
    unfold pk
    rw [if_pos p2]
  have g190 : ∀ (X : Nat → Int32) (p : Nat × Int32), p.1 ≤ 80 → aF d 190 [.ref 46] (g, pM (aR I 54 X) p, J, aP1 sl 53 rl) = some (some (some (.int (clR sg p).1)), (g, pM (aR I 54 X) (cl sg p).2, J, aP1 sl 53 rl)) := by
    intro X p hp
    have f := f190 (d := d) (g := g) (I := aR I 54 X) (J := J) (sl := sl) (rl := rl) (p := p) (len := len) (top := top) (b15 X) (b16 X) h1 h2 hp
    rw [b52, ← hsg, cl_2] at f
    exact f
  have a1 : nI (4 * k) + 1 = nI (4 * k + 1) := nI_1 _
  have a2 : nI (4 * k) + 2 = nI (4 * k + 2) := nI_add (4 * k) 2
  have a3 : nI (4 * k) + 3 = nI (4 * k + 3) := nI_add (4 * k) 3
  -- the gates
  have gl : ∀ (f a : Nat) (X : Nat → Int32) (p : Nat × Int32) (w : Value), a ≤ 9 → 9 - a ≤ f → p.1 ≤ top → aE d 196 76 [.ref 46, .int (nI (4 * k)), .int (nI (97 + a) - 98), w] [] (g, pM (aR I 54 X) p, J, aP1 sl 53 rl) = some (some none, (g, pM (aR I 54 (upd X (4 * k + 3) (glL sg f (X (4 * k + 3)) (nI (97 + a)) p).1)) (pst sg (glL sg f (X (4 * k + 3)) (nI (97 + a)) p).2), J, aP1 sl 53 rl)) := by
    intro f
    induction f with
    | zero =>
      intro a X p w ha hf hp
      have ea : a = 9 := by omega
      subst ea
      show _ = some (some none, (g, pM (aR I 54 (upd X (4 * k + 3) (X (4 * k + 3)))) (pst sg p), J, aP1 sl 53 rl))
      rw [upd_id rfl, b196_76, f185]
      simp only [aBi]
      rw [b196_80]
      by_cases p2 : p.2 = -1
      · rw [decide_eq_true p2, if_neg (by decide), g188 _ _ (by omega) p2]
        simp only [aBi]
        rw [b196_87, f181]
        simp only [aBi]
        rw [b196_94]
        unfold pst inI
        by_cases c1 : pk sg p < 97
        · rw [if_pos c1, if_pos c1, if_pos rfl]
        · rw [if_neg c1, if_neg c1]
          by_cases c2 : 105 < pk sg p
          · rw [if_pos c2, if_pos rfl, if_neg (by rw [int_le]; rw [int_lt] at c2; omega)]
          · have c3 : pk sg p ≤ 105 := by rw [int_le]; rw [int_lt] at c2; omega
            obtain ⟨c, hc, hlc, e⟩ := pk105 (lv := 97) c1 (by decide) c3
            obtain ⟨c', rfl⟩ : ∃ c', c = 97 + c' := ⟨c - 97, by omega⟩
            rw [if_neg c2, if_neg (by decide), if_pos c3, g188 _ _ (by omega) p2]
            simp only [aBi]
            rw [b196_101, e, if_neg (fun h => by have := (gt9 9 (by decide) c' (by omega)).mp h; omega), pM_17, f186]
            simp only [aBv]
            rw [b196_118, b196_76, f185, decide_eq_false (flt_bad (by omega))]
            simp only [aBi]
            rw [b196_80, if_pos tI_f]
      · have : pk sg p = -1 := if_neg p2
        unfold pst
        rw [decide_eq_false p2, if_pos tI_f, this, if_pos (by decide)]
    | succ f ih =>
      intro a X p w ha hf hp
      rw [b196_76, f185]
      simp only [aBi]
      rw [b196_80]
      by_cases p2 : p.2 = -1
      · rw [decide_eq_true p2, if_neg (by decide), g188 _ _ (by omega) p2]
        simp only [aBi]
        rw [b196_87, f181]
        simp only [aBi]
        rw [b196_94]
        unfold inI
        by_cases c1 : pk sg p < 97
        · have cl1 : pk sg p < nI (97 + a) := by
            have e := nI_le (a := 97) (b := 97 + a) (by omega) (by omega)
            have e97 : nI 97 = 97 := rfl
            rw [e97, int_le] at e
            rw [int_lt] at c1 ⊢
            omega
          have eg : glL sg (f + 1) (X (4 * k + 3)) (nI (97 + a)) p = (X (4 * k + 3), p) := if_pos cl1
          rw [eg, if_pos c1, if_pos rfl]
          unfold pst
          rw [upd_id rfl, if_pos c1]
        · rw [if_neg c1]
          by_cases c2 : 105 < pk sg p
          · have c3 : ¬ pk sg p ≤ 105 := by rw [int_le]; rw [int_lt] at c2; omega
            have cl1 : ¬ pk sg p < nI (97 + a) := by
              have e := nI_le (a := 97 + a) (b := 106) (by omega) (by omega)
              have e97 : nI 106 = 106 := rfl
              have x1 : (106 : Int32).toInt = 106 := rfl
              have x2 : (105 : Int32).toInt = 105 := rfl
              rw [e97, int_le] at e
              rw [int_lt] at c2 ⊢
              omega
            have eg : glL sg (f + 1) (X (4 * k + 3)) (nI (97 + a)) p = (X (4 * k + 3), p) := by unfold glL; rw [if_neg cl1, if_neg c3]
            rw [eg, if_pos c2, if_pos rfl]
            unfold pst
            rw [upd_id rfl, if_neg c1, if_neg c3]
          · have c3 : pk sg p ≤ 105 := by rw [int_le]; rw [int_lt] at c2; omega
            obtain ⟨c, hc, hlc, e⟩ := pk105 (lv := 97) c1 (by decide) c3
            obtain ⟨c', rfl⟩ : ∃ c', c = 97 + c' := ⟨c - 97, by omega⟩
            have hc' : c' < 9 := by omega
            have hn : ¬ pk sg p = -1 := by rw [e]; exact nIm1b (by omega)
            rw [if_neg c2, if_neg (by decide), g188 _ _ (by omega) p2]
            simp only [aBi]
            rw [b196_101]
            by_cases ca : a ≤ c'
            · have cl1 : ¬ pk sg p < nI (97 + a) := by rw [e]; exact nI_nlt (by omega) (by omega)
              have eg : glL sg (f + 1) (X (4 * k + 3)) (nI (97 + a)) p = glL sg f (X (4 * k + 3) ||| (1 <<< ((pk sg p - 97) &&& 31))) (pk sg p + 1) (adv p) := by
                show (if _ then _ else _) = _
                rw [if_neg cl1, if_pos c3]
              have e1 : pk sg p + 1 = nI (97 + (c' + 1)) := by rw [e]; exact nI_1 _
              have e2 : pk sg p - 97 = nI (97 + (c' + 1)) - 98 := by rw [e]; exact gn9 c' hc'
              have lt : nI (97 + a) - 98 < pk sg p - 97 := by rw [e]; exact (gt9 a (by omega) c' hc').mpr ca
              rw [if_pos lt, a3, nI_clamp (by omega), if_neg (t32 (by omega)), if_neg (t32 (by omega)), pM_17, nI_1, pM_u17, hX, r54, eg, e1]
              have := ih (c' + 1) (upd X (4 * k + 3) (X (4 * k + 3) ||| (1 <<< ((pk sg p - 97) &&& 31)))) (adv p) (.int (pk sg p - 97)) (by omega) (by omega) (pk_at hE hn)
              rw [upd_s, upd_u, ← e2] at this
              exact this
            · have cl1 : pk sg p < nI (97 + a) := by rw [e]; exact nI_lt (by omega) (by omega)
              have eg : glL sg (f + 1) (X (4 * k + 3)) (nI (97 + a)) p = (X (4 * k + 3), p) := if_pos cl1
              have nlt : ¬ nI (97 + a) - 98 < pk sg p - 97 := by rw [e]; exact fun h => ca ((gt9 a (by omega) c' hc').mp h)
              rw [if_neg nlt, pM_17, f186]
              simp only [aBv]
              rw [b196_118, b196_76, f185, decide_eq_false (flt_bad (by omega))]
              simp only [aBi]
              rw [b196_80, if_pos tI_f, eg]
              unfold pst
              rw [upd_id rfl, if_neg c1, if_pos c3]
      · have hk1 : pk sg p = -1 := if_neg p2
        have cl1 : pk sg p < nI (97 + a) := by
          have e := nI_pos (n := 97 + a) (by omega)
          have x1 : (-1 : Int32).toInt = -1 := rfl
          have x0 : (0 : Int32).toInt = 0 := rfl
          rw [hk1]
          rw [int_lt] at e ⊢
          omega
        have eg : glL sg (f + 1) (X (4 * k + 3)) (nI (97 + a)) p = (X (4 * k + 3), p) := if_pos cl1
        unfold pst
        rw [eg, upd_id rfl, decide_eq_false p2, if_pos tI_f, hk1, if_pos (by decide)]
  -- ahead of them
  have P0 : aF d 196 [.ref 46, .int (nI (4 * k))] (g, pM I p, J, aP1 sl 53 rl) = aE d 196 37 [.ref 46, .int (nI (4 * k)), aNo, aNo] [] (g, pM (aR I 54 (upd (I 54) (4 * k) (cn sg p).1)) (cn sg p).2, J, aP1 sl 53 rl) := by
    show aE d 196 0 [.ref 46, .int (nI (4 * k)), aNo, aNo] [] _ = _
    rw [b196_0, g189]
    simp only [aBi]
    rw [b196_10, nI_clamp (by omega), if_neg (t32 (by omega)), pM_a _ _ (by decide), aU_R, f185]
    simp only [aBi]
    rw [b196_15, nI_clamp (by omega), if_neg (t32 (by omega)), r54, upd_s, pM_17, f186]
    simp only [aBv]
    unfold cn
    dsimp only
    by_cases p2 : (nm sg 1 p).2.2 = -1
    · rw [decide_eq_true p2, if_neg (by decide)]
      split <;> rfl
    · have e : flt (nm sg 1 p).2 (nI (nm sg 1 p).2.1 - 1) = (nm sg 1 p).2 := if_neg p2
      rw [decide_eq_false p2, if_pos tI_f, e]
      split <;> rfl
  refine ⟨upd (upd (upd (upd (I 54) (4 * k) (cn sg p).1) (4 * k + 1) (clR sg (cn sg p).2).1) (4 * k + 2) ((tk sg 48 57 (cl sg (cn sg p).2).2).1 - 48)) (4 * k + 3) (vQ sg p).2.2.2, fun i hi => ?_, ?_, ?_⟩
  · rw [upd_n _ _ (by omega), upd_n _ _ (by omega), upd_n _ _ (by omega), upd_n _ _ (by omega)]
  · unfold vrQ
    rw [aR_s, vQ_1, vQ_3]
    exact ⟨by rw [upd_n _ _ (by omega), upd_n _ _ (by omega), upd_n _ _ (by omega), upd_s], by rw [upd_n _ _ (by omega), upd_n _ _ (by omega), upd_s], by rw [upd_n _ _ (by omega), upd_s], by rw [upd_s]⟩
  · rw [P0, b196_37, g190 _ _ (by omega)]
    simp only [aBi]
    rw [a1, b196_48, nI_clamp (by omega), if_neg (t32 (by omega)), hX, g187 _ _ (by omega)]
    simp only [aBi]
    rw [a2, b196_64, a3, nI_clamp (by omega), nI_clamp (by omega), if_neg (t32 (by omega)), if_neg (t32 (by omega)), hX, hX]
    have := gl 9 0 (upd (upd (upd (upd (I 54) (4 * k) (cn sg p).1) (4 * k + 1) (clR sg (cn sg p).2).1) (4 * k + 2) ((tk sg 48 57 (cl sg (cn sg p).2).2).1 - 48)) (4 * k + 3) 0) (tk sg 48 57 (cl sg (cn sg p).2).2).2 aNo (by decide) (by decide) t3
    have e97 : nI (97 + 0) = 97 := rfl
    have e98 : (97 : Int32) - 98 = -1 := by decide
    rw [upd_s, upd_u, e97, e98] at this
    rw [vQ_4]
    unfold lnQ
    exact this
theorem l195 (q15 : I0 46 15 = nI len) (q16 : I0 46 16 = nI top) (h1 : len ≤ 80) (h2 : top ≤ 80) (hB : byR (I0 52)) (hsg : sg = sgn (I0 52) len top) (hn : I0 46 4 = nI n0) (k : Nat) (w : Value) (I1 : Nat → Nat → Int32) (p : Nat × Int32) (F : Fr [54] I0 I1) (p2 : p.2 = -1) (hp : p.1 ≤ top) (hk : n0 + k < 8) : ∃ I' w' p3, Fr [54] I1 I' ∧ (∀ i, i < 4 * k → I' 54 i = I1 54 i) ∧ vrQ sg I' k p ∧ rW p3 len = rW (lnQ sg p) len ∧ p3.1 ≤ 80 ∧ aE d 195 24 [.ref 46, .int (nI k), .int 1, w] [] (g, pM I1 p, J, aP1 sl 53 56) = if pk sg (lnQ sg p) = 59 then aE d 195 24 [.ref 46, .int (nI (k + 1)), .int 1, w'] [] (g, pM I' (adv (lnQ sg p)), J, aP1 sl 53 56) else aE d 195 24 [.ref 46, .int (nI (k + 1)), .int 0, w'] [] (g, pM I' p3, J, aP1 sl 53 56) := by
  have hE : sgE sg top := by rw [hsg]; exact sgn_E _ _ _
  have t4 := lnQ_at hE hp
  have f46 : I1 46 = I0 46 := F 46 (by decide)
  have f52 : I1 52 = I0 52 := F 52 (by decide)
  obtain ⟨X, c1, c2, c3⟩ := c196 (d := d) (g := g) (I := I1) (J := J) (sl := sl) (rl := 56) (len := len) (top := top) (sg := sg) (by rw [f46]; exact q15) (by rw [f46]; exact q16) h1 h2 (by rw [f52]; exact hB) (by rw [f52]; exact hsg) k (by omega) p hp
  have n8 : ¬ nI (n0 + k) = 8 := fun e => absurd ((nI_eq (b := 8) (by omega) (by decide)).mp e) (by omega)
  have f := f191_52 (d := d) (g := g) (I := aR I1 54 X) (J := J) (sl := sl) (rl := 56) (p := pst sg (lnQ sg p)) (len := len) (top := top) (by rw [aR_r _ _ (by decide), f46]; exact q15) (by rw [aR_r _ _ (by decide), f46]; exact q16) h1 h2 (by rw [pst_1]; omega) (c := 59) (by decide)
  rw [aR_r _ _ (show 52 ≠ 54 by decide), f52, ← hsg] at f
  have e4 : (4 : Int32) * nI k = nI (4 * k) := pk_mul 4 k
  obtain ⟨s1, s2⟩ := pst_59 (sg := sg) (p := lnQ sg p) (by omega)
  refine ⟨aR I1 54 X, w, pst sg (lnQ sg p), Fr_s (Fr_r _ _) _ (by decide), fun i hi => by rw [aR_s]; exact c1 i hi, c2, by rw [hsg]; exact rW_pst, by rw [pst_1]; omega, ?_⟩
  rw [b195_24, if_neg (show ¬ (1 : Int32) = 0 by decide), f185, decide_eq_true p2]
  simp only [aBi]
  rw [b195_32, if_neg (show ¬ tI true = 0 by decide), pM_o _ _ (by decide) (by decide), f46, hn, nI_add, if_neg n8, e4, c3]
  simp only [aBv]
  rw [b195_64, f]
  simp only [aBi]
  rw [b195_73, nI_1]
  unfold ps
  by_cases h59 : pk sg (lnQ sg p) = 59
  · rw [if_pos h59, if_pos (s1.mpr h59), decide_eq_true (s1.mpr h59), s2 h59]
    rfl
  · rw [if_neg h59, if_neg (fun h => h59 (s1.mp h)), decide_eq_false (fun h => h59 (s1.mp h))]
    rfl
theorem l195f (q15 : I0 46 15 = nI len) (q16 : I0 46 16 = nI top) (h1 : len ≤ 80) (h2 : top ≤ 80) (hn : I0 46 4 = nI n0) (k : Nat) (w : Value) (I1 : Nat → Nat → Int32) (p : Nat × Int32) (F : Fr [54] I0 I1) (p2 : p.2 = -1) (hp : p.1 ≤ top) (hk : n0 + k = 8) : aE d 195 24 [.ref 46, .int (nI k), .int 1, w] [] (g, pM I1 p, J, aP1 sl 53 56) = aE d 195 24 [.ref 46, .int (nI (k + 1)), .int 0, w] [] (g, pM I1 (flt p (nI p.1)), J, aP1 sl 53 56) := by
  have f46 : I1 46 = I0 46 := F 46 (by decide)
  have f := f191_52 (d := d) (g := g) (I := I1) (J := J) (sl := sl) (rl := 56) (p := flt p (nI p.1)) (len := len) (top := top) (by rw [f46]; exact q15) (by rw [f46]; exact q16) h1 h2 (by rw [flt_1]; omega) (c := 59) (by decide)
  have hk1 : pk (sgn (I1 52) len top) (flt p (nI p.1)) = -1 := if_neg (flt_bad (by omega))
  rw [hk1, decide_eq_false (by decide)] at f
  unfold ps at f
  rw [hk1, if_neg (by decide)] at f
  rw [b195_24, if_neg (show ¬ (1 : Int32) = 0 by decide), f185, decide_eq_true p2]
  simp only [aBi]
  rw [b195_32, if_neg (show ¬ tI true = 0 by decide), pM_o _ _ (by decide) (by decide), f46, hn, nI_add, if_pos (by rw [hk]; rfl), pM_17, f186]
  simp only [aBv]
  rw [b195_54, b195_64, f]
  simp only [aBi]
  rw [b195_73, nI_1]
  rfl
end R2
