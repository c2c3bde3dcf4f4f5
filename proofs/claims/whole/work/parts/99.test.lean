section T00
/-! sets as numbers; sides shown in all quarrels: apart, calm, risky: tied -/
variable {d : Nat} {g : Nat × Nat × Nat} {I : Nat → Nat → Int32} {J : Nat → Nat → Int64} {sl rd rl : Nat} {t n m q : Nat}
theorem bt_nI {x i : Nat} (hi : i < 32) : bt (nI x) i = x.testBit i := by
  show (BitVec.ofNat 32 x).getLsbD i = _
  rw [BitVec.getLsbD_ofNat]
  simp [hi]
/-- x lies in y -/
def sub (x y : Int32) : Bool := decide ((x &&& (y ^^^ (-1))) = 0)
theorem sub_le {x y : Nat} (hx : x < 2 ^ 31) (h : sub (nI x) (nI y) = true) : x ≤ y := by
  have h : (nI x &&& (nI y ^^^ (-1))) = 0 := by simpa [sub] using h
  have e : x &&& y = x := by
    apply Nat.eq_of_testBit_eq
    intro i
    rw [Nat.testBit_and]
    by_cases hi : i < 32
    · have b := congrArg (fun z => bt z i) h
      rw [b_and, b_not _ hi, b_0, bt_nI hi, bt_nI hi] at b
      revert b
      cases x.testBit i <;> cases y.testBit i <;> simp
    · have : x.testBit i = false := Nat.testBit_lt_two_pow (Nat.lt_of_lt_of_le hx (Nat.pow_le_pow_right (by decide) (by omega)))
      rw [this, Bool.false_and]
  rw [← e]
  exact Nat.and_le_right
theorem bs_256 (p : Nat → Bool) {k : Nat} (hk : k ≤ 8) : ∃ L, L < 256 ∧ bs p k = nI L := by
  obtain ⟨L, hL, e⟩ := pk_andE (bs p k) (m := 255) 8 (by decide)
  refine ⟨L, hL, ?_⟩
  rw [← e]
  refine b_ext (fun i hi => ?_)
  rw [b_and, b_255, b_bs (by omega) hi]
  by_cases h : i < 8
  · simp [h]
  · simp [h, show ¬ i < k by omega]
theorem bs_has (p : Nat → Bool) {k i : Nat} (hk : k ≤ 8) (hi : i < k) : hasT (bs p k) (nI i) = p i := by
  rw [hasT_bt _ (by omega), b_bs (by omega) (by omega)]
  simp [hi]
theorem fo_split {α : Type} (f : Nat → α → α) : ∀ (m k i : Nat) (a : α), fo f (m + k) i a = fo f k (i + m) (fo f m i a) := by
  intro m
  induction m with
  | zero => intro k i a; rw [Nat.zero_add]; rfl
  | succ m ih => intro k i a; rw [show m + 1 + k = (m + k) + 1 by omega, fo_1, fo_1, ih, show i + 1 + m = i + (m + 1) by omega]
theorem fo_id {α : Type} {f : Nat → α → α} : ∀ (m i : Nat) (a : α), (∀ j, i ≤ j → j < i + m → ∀ a, f j a = a) → fo f m i a = a := by
  intro m
  induction m with
  | zero => intro i a _; rfl
  | succ m ih => intro i a h; rw [fo_1, h i (Nat.le_refl _) (by omega)]; exact ih (i + 1) a (fun j h1 h2 => h j (by omega) (by omega))
/-- what is done from i to M is done up to L, if behind it nothing is -/
theorem fo_cut {α : Type} {f : Nat → α → α} {M L i : Nat} (hL : L < M) (hi : i ≤ L + 1) (a : α) (h : ∀ j, L < j → j < M → ∀ a, f j a = a) : fo f (M - i) i a = fo f (L + 1 - i) i a := by
  rw [show M - i = (L + 1 - i) + (M - (L + 1)) by omega, fo_split]
  exact fo_id _ _ _ (fun j h1 h2 => h j (by omega) (by omega))
theorem jF_cut {p : Nat → Bool} : ∀ (k m j : Nat), (∀ i, j + k ≤ i → i < j + k + m → p i = false) → jF p (k + m) j = jF p k j := by
  intro k
  induction k with
  | zero =>
    intro m
    induction m with
    | zero => intro j _; rfl
    | succ m ih =>
      intro j h
      rw [show 0 + (m + 1) = (0 + m) + 1 by omega, jF_f (by rw [h j (by omega) (by omega)]; decide), ih (j + 1) (fun i h1 h2 => h i (by omega) (by omega))]
      rfl
  | succ k ih =>
    intro m j h
    rw [show k + 1 + m = (k + m) + 1 by omega]
    by_cases hp : p j = true
    · rw [jF_t hp, jF_t hp]
    · rw [jF_f hp, jF_f hp]; exact ih m (j + 1) (fun i h1 h2 => h i (by omega) (by omega))
/-! sides -/
def sd1 (ad : Nat → Int32) (lim left sides : Int32) (j : Nat) (x : (Nat → Int32) × Bool) : (Nat → Int32) × Bool :=
  if hasT left (nI j) = true then (rSide x.1 j (hasT sides (nI j)).toNat (ad (4 * j + (hasT sides (nI j)).toNat)) (ad (4 * j + 2 + (hasT sides (nI j)).toNat)), x.2 || jn (rSide x.1 j (hasT sides (nI j)).toNat (ad (4 * j + (hasT sides (nI j)).toNat)) (ad (4 * j + 2 + (hasT sides (nI j)).toNat))) lim) else x
def sdA (ad : Nat → Int32) (lim left : Int32) (q : Nat) (V : Nat → Int32) (sides : Int32) : (Nat → Int32) × Bool := fo (sd1 ad lim left sides) q 0 (V, false)
theorem rSide_s (v : Nat → Int32) {j b k : Nat} (x y : Int32) (h : k ≠ j) : rSide v j b x y (30 + k) = v (30 + k) := by
  unfold rSide adA
  rw [upd_n _ _ (by omega), upd_n _ _ (by omega), upd_n _ _ (by omega)]
theorem sd_bit (sides : Int32) (j : Nat) : ((sides >>> (nI j &&& 31)) &&& 1) = nI (hasT sides (nI j)).toNat := by
  rw [shr1, tI_n]
theorem bool1 (b : Bool) : b.toNat < 2 := by cases b <;> decide
theorem nar_tI (b : Bool) : narrow .boolean (.int (tI b)) = .int (tI b) := by cases b <;> rfl
theorem f123 {left sides : Int32} (hq : q ≤ 8) (h9 : I 14 9 = nI q) (hleft : ∀ j, j < q → hasT left (nI j) = decide (I 24 (24 + j) = -1)) : ∃ I', Fr [28] I I' ∧ cV (I' 28) = (sdA (I 22) (I 14 11) left q (cV (I 24)) sides).1 ∧ aF d 123 [.ref 6, .int sides] (g, I, J, aP1 sl rd rl) = some (some (some (.int (tI (sdA (I 22) (I 14 11) left q (cV (I 24)) sides).2))), (g, I', J, aP1 sl rd rl)) := by
  have l : ∀ (k j : Nat) (x : (Nat → Int32) × Bool) (I1 : Nat → Nat → Int32), j + k = q → Fr [28] I I1 → cV (I1 28) = x.1 → (∀ i, j ≤ i → i < q → x.1 (30 + i) = I 24 (24 + i)) → ∃ I', Fr [28] I I' ∧ cV (I' 28) = (fo (sd1 (I 22) (I 14 11) left sides) k j x).1 ∧ aE d 123 15 [.ref 6, .int sides, .int (tI x.2), .int (nI j)] [] (g, I1, J, aP1 sl rd rl) = some (some (some (.int (tI (fo (sd1 (I 22) (I 14 11) left sides) k j x).2))), (g, I', J, aP1 sl rd rl)) := by
    intro k
    induction k with
    | zero =>
      intro j x I1 hj q1 q2 q3
      obtain rfl : j = q := by omega
      refine ⟨I1, q1, q2, ?_⟩
      rw [b123_15, if_pos (by rw [q1 14 (by decide), h9]; exact Int32.le_refl _), if_pos (nar_tI _)]
      rfl
    | succ k ih =>
      intro j x I1 hj q1 q2 q3
      rw [fo_1]
      have e24 : I1 28 (24 + j) = I 24 (24 + j) := by
        rw [← cV_s (I1 28) (show j < 8 by omega), q2]; exact q3 j (Nat.le_refl _) (by omega)
      have f := f99_28 (d := d) (g := g) (I := I1) (J := J) (sl := sl) (rd := rd) (rl := rl) (n := q) (q := j) (b := (hasT sides (nI j)).toNat) (bool1 _) (by omega) hq (by rw [q1 14 (by decide)]; exact h9)
      rw [e24, q1 22 (by decide), q1 14 (by decide)] at f
      rw [b123_15, if_neg (by rw [q1 14 (by decide), h9]; exact nI_ge (by omega) (by omega)), sd_bit, f]
      have hl := hleft j (by omega)
      by_cases z : I 24 (24 + j) = -1
      · rw [if_pos z]
        simp only [aBi]
        rw [b123_43, nI_1]
        have e1 : sd1 (I 22) (I 14 11) left sides j x = (rSide x.1 j (hasT sides (nI j)).toNat (I 22 (4 * j + (hasT sides (nI j)).toNat)) (I 22 (4 * j + 2 + (hasT sides (nI j)).toNat)), x.2 || jn (rSide x.1 j (hasT sides (nI j)).toNat (I 22 (4 * j + (hasT sides (nI j)).toNat)) (I 22 (4 * j + 2 + (hasT sides (nI j)).toNat))) (I 14 11)) := by
          unfold sd1; rw [if_pos (by rw [hl]; exact decide_eq_true z)]
        have e2 : cV (cSide (I1 28) j (hasT sides (nI j)).toNat (I 22 (4 * j + (hasT sides (nI j)).toNat)) (I 22 (4 * j + 2 + (hasT sides (nI j)).toNat))) = rSide x.1 j (hasT sides (nI j)).toNat (I 22 (4 * j + (hasT sides (nI j)).toNat)) (I 22 (4 * j + 2 + (hasT sides (nI j)).toNat)) := by
          rw [cSide_v _ _ _ (by omega), q2]
        rw [← jn_cV, e2, e1]
        have r := ih (j + 1) (rSide x.1 j (hasT sides (nI j)).toNat (I 22 (4 * j + (hasT sides (nI j)).toNat)) (I 22 (4 * j + 2 + (hasT sides (nI j)).toNat)), x.2 || jn (rSide x.1 j (hasT sides (nI j)).toNat (I 22 (4 * j + (hasT sides (nI j)).toNat)) (I 22 (4 * j + 2 + (hasT sides (nI j)).toNat))) (I 14 11)) (aR I1 28 (cSide (I1 28) j (hasT sides (nI j)).toNat (I 22 (4 * j + (hasT sides (nI j)).toNat)) (I 22 (4 * j + 2 + (hasT sides (nI j)).toNat)))) (by omega) (Fr_s q1 _ (by decide)) (by rw [aR_s]; exact e2) (fun i h1 h2 => (rSide_s _ _ _ (by omega)).trans (q3 i (by omega) h2))
        generalize jn (rSide x.1 j (hasT sides (nI j)).toNat (I 22 (4 * j + (hasT sides (nI j)).toNat)) (I 22 (4 * j + 2 + (hasT sides (nI j)).toNat))) (I 14 11) = B at r ⊢
        cases B
        · rw [Bool.or_false] at r
          rw [if_neg (by decide), Bool.or_false]; exact r
        · rw [Bool.or_true] at r
          rw [if_pos (by decide), Bool.or_true]; exact r
      · rw [if_neg z]
        simp only [aBi]
        rw [b123_43, if_neg (by decide), nI_1]
        have e1 : sd1 (I 22) (I 14 11) left sides j x = x := by
          unfold sd1; rw [if_neg (by rw [hl]; simpa using z)]
        rw [e1]
        exact ih (j + 1) x I1 (by omega) q1 q2 (fun i h1 h2 => q3 i (by omega) h2)
  obtain ⟨I', h1, h2, h3⟩ := l q 0 (cV (I 24), false) (cpT I) (by omega) (cpT_F I) (cpT_V I) (fun i _ hi => cV_s _ (by omega))
  refine ⟨I', h1, h2, ?_⟩
  show aE d 123 0 [.ref 6, .int sides, aNo, aNo] [] _ = _
  rw [b123_0, f63_28]
  simp only [aBv]
  rw [b123_11]
  exact h3
theorem tI_or (a b : Bool) : tI a ||| tI b = tI (a || b) := by cases a <;> cases b <;> decide
theorem f258 {left sides lim : Int32} {ad : Nat → Int32} (hq : q ≤ 8) (h9 : I 46 6 = nI q) (hL : I 46 8 = lim) (hA : ∀ k, k < 4 * q → I 51 k = ad k) : ∃ I', Fr [60] I I' ∧ rV (I' 60) = (sdA ad lim left q (rV (I 47)) sides).1 ∧ aF d 258 [.ref 46, .int left, .int sides] (g, I, J, aP1 sl rd rl) = some (some (some (.int (tI (sdA ad lim left q (rV (I 47)) sides).2))), (g, I', J, aP1 sl rd rl)) := by
  have l : ∀ (k j : Nat) (x : (Nat → Int32) × Bool) (I1 : Nat → Nat → Int32), j + k = q → Fr [60] I I1 → rV (I1 60) = x.1 → ∃ I', Fr [60] I I' ∧ rV (I' 60) = (fo (sd1 ad lim left sides) k j x).1 ∧ aE d 258 17 [.ref 46, .int left, .int sides, .int (tI x.2), .int (nI j)] [] (g, I1, J, aP1 sl rd rl) = some (some (some (.int (tI (fo (sd1 ad lim left sides) k j x).2))), (g, I', J, aP1 sl rd rl)) := by
    intro k
    induction k with
    | zero =>
      intro j x I1 hj q1 q2
      obtain rfl : j = q := by omega
      refine ⟨I1, q1, q2, ?_⟩
      rw [b258_17, if_pos (by rw [q1 46 (by decide), h9]; exact Int32.le_refl _), if_pos (nar_tI _)]
      rfl
    | succ k ih =>
      intro j x I1 hj q1 q2
      rw [fo_1, b258_17, if_neg (by rw [q1 46 (by decide), h9]; exact nI_ge (by omega) (by omega)), f217]
      simp only [aBi]
      rw [b258_32]
      by_cases z : hasT left (nI j) = true
      · rw [z, if_neg (by decide), sd_bit, f242_60 (by omega) (bool1 _), q1 51 (by decide), hA _ (by have := bool1 (hasT sides (nI j)); omega), hA _ (by have := bool1 (hasT sides (nI j)); omega)]
        simp only [aBv]
        rw [b258_54, f228_60]
        simp only [aBi]
        rw [b258_63, nI_1, jn_r, aR_s, aR_r _ _ (show 46 ≠ 60 by decide), q1 46 (by decide), hL, tI_or]
        have e2 : rV (rSide (I1 60) j (hasT sides (nI j)).toNat (ad (4 * j + (hasT sides (nI j)).toNat)) (ad (4 * j + 2 + (hasT sides (nI j)).toNat))) = rSide x.1 j (hasT sides (nI j)).toNat (ad (4 * j + (hasT sides (nI j)).toNat)) (ad (4 * j + 2 + (hasT sides (nI j)).toNat)) := by
          rw [rSide_r _ _ _ (by omega), q2]
        rw [← jn_rV, e2]
        have e1 : sd1 ad lim left sides j x = (rSide x.1 j (hasT sides (nI j)).toNat (ad (4 * j + (hasT sides (nI j)).toNat)) (ad (4 * j + 2 + (hasT sides (nI j)).toNat)), x.2 || jn (rSide x.1 j (hasT sides (nI j)).toNat (ad (4 * j + (hasT sides (nI j)).toNat)) (ad (4 * j + 2 + (hasT sides (nI j)).toNat))) lim) := by
          unfold sd1; rw [if_pos z]
        rw [e1]
        exact ih (j + 1) (rSide x.1 j (hasT sides (nI j)).toNat (ad (4 * j + (hasT sides (nI j)).toNat)) (ad (4 * j + 2 + (hasT sides (nI j)).toNat)), x.2 || jn (rSide x.1 j (hasT sides (nI j)).toNat (ad (4 * j + (hasT sides (nI j)).toNat)) (ad (4 * j + 2 + (hasT sides (nI j)).toNat))) lim) _ (by omega) (Fr_s q1 _ (by decide)) (by rw [aR_s]; exact e2)
      · have z : hasT left (nI j) = false := by simpa using z
        rw [z, if_pos tI_f, nI_1]
        have e1 : sd1 ad lim left sides j x = x := by
          unfold sd1; rw [if_neg (by rw [z]; decide)]
        rw [e1]
        exact ih (j + 1) x I1 (by omega) q1 q2
  have f2 := f222_60 (d := d) (g := g) (I := I) (J := J) (sl := sl) (rd := rd) (rl := rl) (o := 0) (by decide)
  have f2 : aF d 222 [.ref 47, .ref 60, .int 0] (g, I, J, aP1 sl rd rl) = _ := f2
  obtain ⟨I', h1, h2, h3⟩ := l q 0 (rV (I 47), false) (aR I 60 (cpB (I 60) (I 47) 0 39)) (by omega) (Fr_s (Fr_r _ _) _ (by decide)) (by rw [aR_s]; exact rV_congr (fun i hi => by rw [cpB_in _ _ (by omega) (by omega)]; rfl))
  refine ⟨I', h1, h2, ?_⟩
  show aE d 258 0 [.ref 46, .int left, .int sides, aNo, aNo] [] _ = _
  rw [b258_0, f2]
  simp only [aBv]
  rw [b258_12]
  exact h3
/-- all that both need of the sides -/
theorem sd_get (H : zInv t n m q I J) : ∃ L, L < 256 ∧ (∀ (I1 : Nat → Nat → Int32) (J1 : Nat → Nat → Int64), I1 24 = I 24 → I1 14 = I 14 → aF d 122 [.ref 23, .ref 14] (g, I1, J1, aP1 sl rd rl) = some (some (some (.int (nI L))), (g, I1, J1, aP1 sl rd rl))) ∧ (∀ (I1 : Nat → Nat → Int32) (J1 : Nat → Nat → Int64), I1 47 = I 47 → I1 46 6 = I 46 6 → aF d 257 [.ref 46] (g, I1, J1, aP1 sl rd rl) = some (some (some (.int (nI L))), (g, I1, J1, aP1 sl rd rl))) ∧ (∀ j, j < q → hasT (nI L) (nI j) = decide (I 24 (24 + j) = -1)) := by
  obtain ⟨hq, d1, d2, -⟩ := H.2.2.2.2.1
  have hS := H.2.2.2.2.2.2.1
  obtain ⟨L, hL, e⟩ := bs_256 (fun i => decide (I 24 (24 + i) = -1)) hq
  refine ⟨L, hL, fun I1 J1 h1 h2 => ?_, fun I1 J1 h1 h2 => ?_, fun j hj => ?_⟩
  · rw [f122 (n := q) (by rw [h2]; exact d1) hq, h1, e]
  · rw [f257 (n := q) (by rw [h2]; exact d2) hq, h1, ← e]
    congr 5
    exact bs_congr (fun i hi => by rw [okS_s hS (by omega)])
  · rw [← e, bs_has _ hq hj]
theorem sub_dec (x y : Int32) : (x &&& (y ^^^ (-1))) = 0 ↔ sub x y = true := by unfold sub; simp
theorem tie_apart (H : zInv t n m q I J) : tie d 121 256 [] t g I J sl rd := by
  obtain ⟨hq, d1, d2, -⟩ := H.2.2.2.2.1
  have hS := H.2.2.2.2.2.2.1
  have hLm := H.2.2.2.2.2.1
  obtain ⟨L, hL, s1, s2, s3⟩ := sd_get (d := d) (g := g) (sl := sl) (rd := rd) (rl := 56) H
  generalize hA : sdA (I 22) (I 14 11) (nI L) q (cV (I 24)) = A
  have stepC : ∀ (s : Nat) (I1 : Nat → Nat → Int32), Fr [28] I I1 → ∃ I', Fr [28] I I' ∧ cV (I' 28) = (A (nI s)).1 ∧ aF d 123 [.ref 6, .int (nI s)] (g, I1, J, aP1 sl rd 56) = some (some (some (.int (tI (A (nI s)).2))), (g, I', J, aP1 sl rd 56)) := by
    intro s I1 q1
    obtain ⟨I', a1, a2, a3⟩ := f123 (d := d) (g := g) (I := I1) (J := J) (sl := sl) (rd := rd) (rl := 56) (q := q) (left := nI L) (sides := nI s) hq (by rw [q1 14 (by decide)]; exact d1) (fun j hj => by rw [q1 24 (by decide)]; exact s3 j hj)
    rw [q1 22 (by decide), q1 14 (by decide), q1 24 (by decide), hA] at a2 a3
    exact ⟨I', Fr_t q1 a1, a2, a3⟩
  have stepR : ∀ (Ic : Nat → Nat → Int32) (J1 : Nat → Nat → Int64), Fr [12, 28] I Ic → ∀ (s : Nat) (I1 : Nat → Nat → Int32), Fr [46, 60] Ic I1 → F46 [13] Ic I1 → ∃ I', Fr [46, 60] Ic I' ∧ F46 [13] Ic I' ∧ rV (I' 60) = (A (nI s)).1 ∧ aF d 258 [.ref 46, .int (nI L), .int (nI s)] (g, I1, J1, aP1 sl rd 56) = some (some (some (.int (tI (A (nI s)).2))), (g, I', J1, aP1 sl rd 56)) := by
    intro Ic J1 hIc s I1 q1 q2
    obtain ⟨I', a1, a2, a3⟩ := f258 (d := d) (g := g) (I := I1) (J := J1) (sl := sl) (rd := rd) (rl := 56) (q := q) (left := nI L) (sides := nI s) (lim := I 14 11) (ad := I 22) hq (by rw [q2 6 (by decide), hIc 46 (by decide)]; exact d2) (by rw [q2 8 (by decide), hIc 46 (by decide)]; exact hLm.symm) (fun k hk => by rw [q1 51 (by decide), hIc 51 (by decide)]; exact zS_e H hk)
    rw [q1 47 (by decide), hIc 47 (by decide), ← hS.1, hA] at a2 a3
    exact ⟨I', Fr_t q1 (Fr_w a1 (by decide)), fun j hj => by rw [a1 46 (by decide)]; exact q2 j hj, a2, a3⟩
  have lC : ∀ (k s : Nat) (I1 : Nat → Nat → Int32), s + k = 256 → Fr [28] I I1 → (jF (fun s => sub (nI s) (nI L) && !(A (nI s)).2) k s = none → ∃ I', Fr [28] I I' ∧ aE d 121 14 [.ref 6, .int (nI L), .int (nI s)] [] (g, I1, J, aP1 sl rd 56) = some (some (some (.int (-2))), (g, I', J, aP1 sl rd 56))) ∧ (∀ i, jF (fun s => sub (nI s) (nI L) && !(A (nI s)).2) k s = some i → ∃ I', Fr [28] I I' ∧ aE d 121 14 [.ref 6, .int (nI L), .int (nI s)] [] (g, I1, J, aP1 sl rd 56) = some (some (some (.int (nI i))), (g, aU I' 12 1 2, aU (aU J 13 0 (Int32.toInt64 ((A (nI i)).1 2))) 13 1 (Int32.toInt64 ((A (nI i)).1 3)), aP1 sl rd 56))) := by
    intro k
    induction k with
    | zero =>
      intro s I1 hs q1
      obtain rfl : s = 256 := by omega
      refine ⟨fun _ => ⟨I1, q1, ?_⟩, fun i h => by cases h⟩
      rw [b121_14, if_pos (by decide)]
    | succ k ih =>
      intro s I1 hs q1
      have n256 : ¬ 256 ≤ nI s := nI_ge (b := 256) (by omega) (by decide)
      by_cases hsub : sub (nI s) (nI L) = true
      · obtain ⟨I2, a1, a2, a3⟩ := stepC s I1 q1
        cases hB : (A (nI s)).2
        · rw [jF_t (p := fun s => sub (nI s) (nI L) && !(A (nI s)).2) (by simp only [hsub, hB]; decide)]
          refine ⟨fun h => (by cases h), fun i h => ?_⟩
          cases h
          have z0 := f73_27 (d := d) (g := g) (I := I2) (J := J) (sl := sl) (rd := rd) (rl := 56) (c := 0) (by decide)
          have z0 : aF d 73 [.ref 27, .int 0] (g, I2, J, aP1 sl rd 56) = _ := z0
          have z1 := f73_27 (d := d) (g := g) (I := I2) (J := J) (sl := sl) (rd := rd) (rl := 56) (c := 1) (by decide)
          have z1 : aF d 73 [.ref 27, .int 1] (g, I2, J, aP1 sl rd 56) = _ := z1
          refine ⟨I2, a1, ?_⟩
          rw [b121_14, if_neg n256, if_pos ((sub_dec _ _).mpr hsub), a3, hB]
          simp only [aBi]
          rw [b121_34, if_pos tI_f, z0]
          simp only [aBi]
          rw [b121_49, z1]
          simp only [aBi]
          rw [b121_58, f82]
          simp only [aBv]
          rw [b121_62, ← a2]
          rfl
        · rw [jF_f (p := fun s => sub (nI s) (nI L) && !(A (nI s)).2) (by simp only [hsub, hB]; decide)]
          rw [b121_14, if_neg n256, if_pos ((sub_dec _ _).mpr hsub), a3, hB]
          simp only [aBi]
          rw [b121_34, if_neg (by decide), nI_1]
          exact ih (s + 1) I2 (by omega) a1
      · rw [jF_f (p := fun s => sub (nI s) (nI L) && !(A (nI s)).2) (by simp only [hsub, Bool.false_and]; decide)]
        rw [b121_14, if_neg n256, if_neg (fun h => hsub ((sub_dec _ _).mp h)), nI_1]
        exact ih (s + 1) I1 (by omega) q1
  have lR : ∀ (Ic : Nat → Nat → Int32) (J1 : Nat → Nat → Int64), Fr [12, 28] I Ic → ∀ (k s : Nat) (I1 : Nat → Nat → Int32), s + k = L + 1 → Fr [46, 60] Ic I1 → F46 [13] Ic I1 → (jF (fun s => sub (nI s) (nI L) && !(A (nI s)).2) k s = none → ∃ I', Fr [46, 60] Ic I' ∧ F46 [13] Ic I' ∧ aE d 256 12 [.ref 46, .int (nI L), .int (nI s)] [] (g, I1, J1, aP1 sl rd 56) = some (some (some (.int (-2))), (g, I', J1, aP1 sl rd 56))) ∧ (∀ i, jF (fun s => sub (nI s) (nI L) && !(A (nI s)).2) k s = some i → ∃ I', Fr [46, 60] Ic I' ∧ F46 [13] Ic I' ∧ aE d 256 12 [.ref 46, .int (nI L), .int (nI s)] [] (g, I1, J1, aP1 sl rd 56) = some (some (some (.int (nI i))), (g, aU I' 46 12 2, aU (aU J1 53 0 (Int32.toInt64 ((A (nI i)).1 2))) 53 1 (Int32.toInt64 ((A (nI i)).1 3)), aP1 sl rd 56))) := by
    intro Ic J1 hIc k
    induction k with
    | zero =>
      intro s I1 hs q1 q2
      obtain rfl : s = L + 1 := by omega
      refine ⟨fun _ => ⟨I1, q1, q2, ?_⟩, fun i h => by cases h⟩
      rw [b256_12, if_pos (nI_lt (by omega) (by omega))]
    | succ k ih =>
      intro s I1 hs q1 q2
      have nL : ¬ nI L < nI s := nI_nlt (by omega) (by omega)
      by_cases hsub : sub (nI s) (nI L) = true
      · obtain ⟨I2, a1, a2, a3, a4⟩ := stepR Ic J1 hIc s I1 q1 q2
        cases hB : (A (nI s)).2
        · rw [jF_t (p := fun s => sub (nI s) (nI L) && !(A (nI s)).2) (by simp only [hsub, hB]; decide)]
          refine ⟨fun h => (by cases h), fun i h => ?_⟩
          cases h
          refine ⟨I2, a1, a2, ?_⟩
          rw [b256_12, if_neg nL, if_pos ((sub_dec _ _).mpr hsub), a4, hB]
          simp only [aBi]
          rw [b256_31, if_pos tI_f, tell0]
          simp only [aBv]
          rw [b256_53, tell1]
          simp only [aBv]
          rw [b256_64, aU_r _ _ (by decide), ← a3]
          rfl
        · rw [jF_f (p := fun s => sub (nI s) (nI L) && !(A (nI s)).2) (by simp only [hsub, hB]; decide)]
          rw [b256_12, if_neg nL, if_pos ((sub_dec _ _).mpr hsub), a4, hB]
          simp only [aBi]
          rw [b256_31, if_neg (by decide), nI_1]
          exact ih (s + 1) I2 (by omega) a1 a2
      · rw [jF_f (p := fun s => sub (nI s) (nI L) && !(A (nI s)).2) (by simp only [hsub, Bool.false_and]; decide)]
        rw [b256_12, if_neg nL, if_neg (fun h => hsub ((sub_dec _ _).mp h)), nI_1]
        exact ih (s + 1) I1 (by omega) q1 q2
  have eC : aF d 121 [.ref 6] (g, I, J, aP1 sl rd 56) = aE d 121 14 [.ref 6, .int (nI L), .int (nI 0)] [] (g, I, J, aP1 sl rd 56) := by
    show aE d 121 0 [.ref 6, aNo, aNo] [] _ = _
    rw [b121_0, s1 I J rfl rfl]
    simp only [aBi]
    rw [b121_11]
    rfl
  have eR : ∀ (Ic : Nat → Nat → Int32) (J1 : Nat → Nat → Int64), Fr [12, 28] I Ic → aF d 256 [.ref 46] (g, Ic, J1, aP1 sl rd 56) = aE d 256 12 [.ref 46, .int (nI L), .int (nI 0)] [] (g, aU Ic 46 13 0, J1, aP1 sl rd 56) := by
    intro Ic J1 h
    show aE d 256 0 [.ref 46, aNo, aNo] [] _ = _
    rw [b256_0, s2 _ J1 (by rw [aU_r _ _ (by decide), h 47 (by decide)]) (by rw [aU_i _ _ (by decide), h 46 (by decide)])]
    simp only [aBi]
    rw [b256_9]
    rfl
  obtain ⟨cN, cS⟩ := lC 256 0 I rfl (Fr_r _ _)
  have hcut : jF (fun s => sub (nI s) (nI L) && !(A (nI s)).2) 256 0 = jF (fun s => sub (nI s) (nI L) && !(A (nI s)).2) (L + 1) 0 := by
    rw [show 256 = (L + 1) + (255 - L) by omega]
    refine jF_cut _ _ _ (fun i h1 h2 => ?_)
    have : sub (nI i) (nI L) = false := by
      cases h : sub (nI i) (nI L)
      · rfl
      · have := sub_le (by omega) h; omega
    simp only [this, Bool.false_and]
  have thF : ∀ Ic : Nat → Nat → Int32, Fr [46, 60] Ic (aU Ic 46 13 0) ∧ F46 [13] Ic (aU Ic 46 13 0) := fun Ic => by
    refine ⟨?_, fun j hj => ?_⟩
    · rw [aU_R]; exact Fr_s (Fr_r _ _) _ (by decide)
    · exact aU_i _ _ (by simpa using hj)
  cases hf : jF (fun s => sub (nI s) (nI L) && !(A (nI s)).2) 256 0 with
  | none =>
    obtain ⟨I1, a1, a2⟩ := cN hf
    obtain ⟨I2, b1, b2, b3⟩ := (lR I1 J (Fr_w a1 (by decide)) (L + 1) 0 (aU I1 46 13 0) (by omega) (thF _).1 (thF _).2).1 (by rw [← hcut]; exact hf)
    exact tie_0 H (Fr_w a1 (by decide)) (Fr_w b1 (by decide)) (F46_w b2 (by decide)) (eC.trans a2) ((eR _ _ (Fr_w a1 (by decide))).trans b3)
  | some i =>
    obtain ⟨I1, a1, a2⟩ := cS i hf
    have h12 : Fr [12, 28] I (aU I1 12 1 2) := by rw [aU_R]; exact Fr_s (Fr_w a1 (by decide)) _ (by decide)
    obtain ⟨I2, b1, b2, b3⟩ := (lR (aU I1 12 1 2) (aU (aU J 13 0 (Int32.toInt64 ((A (nI i)).1 2))) 13 1 (Int32.toInt64 ((A (nI i)).1 3))) h12 (L + 1) 0 (aU (aU I1 12 1 2) 46 13 0) (by omega) (thF _).1 (thF _).2).2 i (by rw [← hcut]; exact hf)
    refine tie_R H (Fr_w h12 (by decide)) ?_ ?_ ?_ (eC.trans a2) ((eR _ _ h12).trans b3)
    · rw [aU_R I2]; exact Fr_s (Fr_w b1 (by decide)) _ (by decide)
    · intro j hj
      rw [aU_i _ _ (fun e => hj (by rw [e]; decide))]
      exact (F46_w b2 (by decide) : F46 (12 :: scf) _ I2) j hj
    · refine zR_2 ?_ (aU_s _ _ _ _) ?_ ?_
      · rw [aU_r _ _ (by decide), b1 12 (by decide), aU_s]
      · simp (disch := decide) only [aU_r, aU_i, aU_s]
      · simp (disch := decide) only [aU_r, aU_i, aU_s]
end T00
section T01
/-! calm, risky: tied -/
variable {d : Nat} {g : Nat × Nat × Nat} {I : Nat → Nat → Int32} {J : Nat → Nat → Int64} {sl rd rl : Nat} {t n m q : Nat}
theorem sdC (H : zInv t n m q I J) {L : Nat} (s3 : ∀ j, j < q → hasT (nI L) (nI j) = decide (I 24 (24 + j) = -1)) (s : Nat) {I1 : Nat → Nat → Int32} {J1 : Nat → Nat → Int64} (q1 : Fr [28] I I1) : ∃ I', Fr [28] I I' ∧ cV (I' 28) = (sdA (I 22) (I 14 11) (nI L) q (cV (I 24)) (nI s)).1 ∧ aF d 123 [.ref 6, .int (nI s)] (g, I1, J1, aP1 sl rd rl) = some (some (some (.int (tI (sdA (I 22) (I 14 11) (nI L) q (cV (I 24)) (nI s)).2))), (g, I', J1, aP1 sl rd rl)) := by
  obtain ⟨hq, d1, d2, -⟩ := H.2.2.2.2.1
  obtain ⟨I', a1, a2, a3⟩ := f123 (d := d) (g := g) (I := I1) (J := J1) (sl := sl) (rd := rd) (rl := rl) (q := q) (left := nI L) (sides := nI s) hq (by rw [q1 14 (by decide)]; exact d1) (fun j hj => by rw [q1 24 (by decide)]; exact s3 j hj)
  rw [q1 22 (by decide), q1 14 (by decide), q1 24 (by decide)] at a2 a3
  exact ⟨I', Fr_t q1 a1, a2, a3⟩
theorem sdR (H : zInv t n m q I J) {L : Nat} (s : Nat) {Ic I1 : Nat → Nat → Int32} {J1 : Nat → Nat → Int64} (hIc : Fr [12, 28] I Ic) (q1 : Fr [46, 60] Ic I1) (q2 : F46 [13] Ic I1) : ∃ I', Fr [46, 60] Ic I' ∧ F46 [13] Ic I' ∧ rV (I' 60) = (sdA (I 22) (I 14 11) (nI L) q (cV (I 24)) (nI s)).1 ∧ aF d 258 [.ref 46, .int (nI L), .int (nI s)] (g, I1, J1, aP1 sl rd rl) = some (some (some (.int (tI (sdA (I 22) (I 14 11) (nI L) q (cV (I 24)) (nI s)).2))), (g, I', J1, aP1 sl rd rl)) := by
  obtain ⟨hq, d1, d2, -⟩ := H.2.2.2.2.1
  have hS := H.2.2.2.2.2.2.1
  have hLm := H.2.2.2.2.2.1
  obtain ⟨I', a1, a2, a3⟩ := f258 (d := d) (g := g) (I := I1) (J := J1) (sl := sl) (rd := rd) (rl := rl) (q := q) (left := nI L) (sides := nI s) (lim := I 14 11) (ad := I 22) hq (by rw [q2 6 (by decide), hIc 46 (by decide)]; exact d2) (by rw [q2 8 (by decide), hIc 46 (by decide)]; exact hLm.symm) (fun k hk => by rw [q1 51 (by decide), hIc 51 (by decide)]; exact zS_e H hk)
  rw [q1 47 (by decide), hIc 47 (by decide), ← hS.1] at a2 a3
  exact ⟨I', Fr_t q1 (Fr_w a1 (by decide)), fun j hj => by rw [a1 46 (by decide)]; exact q2 j hj, a2, a3⟩
theorem thF (Ic : Nat → Nat → Int32) : Fr [46, 60] Ic (aU Ic 46 13 0) ∧ F46 [13] Ic (aU Ic 46 13 0) := by
  refine ⟨?_, fun j hj => ?_⟩
  · rw [aU_R]; exact Fr_s (Fr_r _ _) _ (by decide)
  · exact aU_i _ _ (by simpa using hj)
theorem sub_no {i L : Nat} (h1 : L < i) (h2 : i < 2 ^ 31) : sub (nI i) (nI L) = false := by
  cases h : sub (nI i) (nI L)
  · rfl
  · have := sub_le h2 h; omega
/-! risky -/
def rk1 (A : Int32 → (Nat → Int32) × Bool) (L : Nat) (s : Nat) (k : Nat) : Nat := if sub (nI s) (nI L) = true then k + (A (nI s)).2.toNat else k
theorem tie_risky (H : zInv t n m q I J) : tie d 126 260 [] t g I J sl rd := by
  obtain ⟨L, hL, s1, s2, s3⟩ := sd_get (d := d) (g := g) (sl := sl) (rd := rd) (rl := 56) H
  generalize hA : sdA (I 22) (I 14 11) (nI L) q (cV (I 24)) = A
  have lC : ∀ (k s c : Nat) (I1 : Nat → Nat → Int32), s + k = 256 → Fr [28] I I1 → ∃ I', Fr [28] I I' ∧ aE d 126 16 [.ref 6, .int (nI L), .int (nI c), .int (nI s)] [] (g, I1, J, aP1 sl rd 56) = some (some (some (.int (nI (fo (rk1 A L) k s c)))), (g, aU I' 12 1 1, aU J 13 0 (Int32.toInt64 (nI L)), aP1 sl rd 56)) := by
    intro k
    induction k with
    | zero =>
      intro s c I1 hs q1
      obtain rfl : s = 256 := by omega
      refine ⟨I1, q1, ?_⟩
      rw [b126_16, if_pos (by decide), f83']
      simp only [aBv]
      rw [b126_57]
      rfl
    | succ k ih =>
      intro s c I1 hs q1
      have n256 : ¬ 256 ≤ nI s := nI_ge (b := 256) (by omega) (by decide)
      rw [fo_1, b126_16, if_neg n256]
      unfold rk1
      by_cases hsub : sub (nI s) (nI L) = true
      · obtain ⟨I2, a1, a2, a3⟩ := sdC (d := d) (g := g) (sl := sl) (rd := rd) (rl := 56) (J1 := J) H s3 s q1
        rw [hA] at a3
        rw [if_pos ((sub_dec _ _).mpr hsub), a3, if_pos hsub]
        simp only [aBi]
        rw [b126_36]
        cases (A (nI s)).2
        · rw [if_pos tI_f, nI_1]; exact ih (s + 1) _ I2 (by omega) a1
        · rw [if_neg (by decide), nI_1, nI_1]; exact ih (s + 1) _ I2 (by omega) a1
      · rw [if_neg (fun h => hsub ((sub_dec _ _).mp h)), if_neg hsub, nI_1]
        exact ih (s + 1) _ I1 (by omega) q1
  have lR : ∀ (Ic : Nat → Nat → Int32) (J1 : Nat → Nat → Int64), Fr [12, 28] I Ic → ∀ (k s c : Nat) (I1 : Nat → Nat → Int32), s + k = L + 1 → Fr [46, 60] Ic I1 → F46 [13] Ic I1 → ∃ I', Fr [46, 60] Ic I' ∧ F46 [13] Ic I' ∧ aE d 260 14 [.ref 46, .int (nI L), .int (nI c), .int (nI s)] [] (g, I1, J1, aP1 sl rd 56) = some (some (some (.int (nI (fo (rk1 A L) k s c)))), (g, aU I' 46 12 1, aU J1 53 0 (Int32.toInt64 (nI L)), aP1 sl rd 56)) := by
    intro Ic J1 hIc k
    induction k with
    | zero =>
      intro s c I1 hs q1 q2
      obtain rfl : s = L + 1 := by omega
      refine ⟨I1, q1, q2, ?_⟩
      rw [b260_14, if_pos (nI_lt (by omega) (by omega)), tell0]
      simp only [aBv]
      rw [b260_61]
      rfl
    | succ k ih =>
      intro s c I1 hs q1 q2
      have nL : ¬ nI L < nI s := nI_nlt (by omega) (by omega)
      rw [fo_1, b260_14, if_neg nL]
      unfold rk1
      by_cases hsub : sub (nI s) (nI L) = true
      · obtain ⟨I2, a1, a2, a3, a4⟩ := sdR (d := d) (g := g) (sl := sl) (rd := rd) (rl := 56) (L := L) (J1 := J1) H s hIc q1 q2
        rw [hA] at a4
        rw [if_pos ((sub_dec _ _).mpr hsub), a4, if_pos hsub]
        simp only [aBi]
        rw [b260_34]
        cases (A (nI s)).2
        · rw [if_pos tI_f, Int32.add_zero, nI_1]; exact ih (s + 1) _ I2 (by omega) a1 a2
        · rw [if_neg (by decide), nI_1, nI_1]; exact ih (s + 1) _ I2 (by omega) a1 a2
      · rw [if_neg (fun h => hsub ((sub_dec _ _).mp h)), if_neg hsub, Int32.add_zero, nI_1]
        exact ih (s + 1) _ I1 (by omega) q1 q2
  obtain ⟨I1, a1, a2⟩ := lC 256 0 0 I rfl (Fr_r _ _)
  have h12 : Fr [12, 28] I (aU I1 12 1 1) := by rw [aU_R]; exact Fr_s (Fr_w a1 (by decide)) _ (by decide)
  obtain ⟨I2, b1, b2, b3⟩ := lR (aU I1 12 1 1) (aU J 13 0 (Int32.toInt64 (nI L))) h12 (L + 1) 0 0 (aU (aU I1 12 1 1) 46 13 0) (by omega) (thF _).1 (thF _).2
  have cut : fo (rk1 A L) 256 0 0 = fo (rk1 A L) (L + 1) 0 0 := fo_cut (M := 256) (i := 0) hL (by omega) 0 (fun j h1 h2 a => by
    unfold rk1; rw [sub_no h1 (by omega), if_neg (by decide)])
  rw [← cut] at b3
  refine tie_R H (Fr_w h12 (by decide)) ?_ ?_ ?_ (Eq.trans ?_ a2) (Eq.trans ?_ b3)
  · rw [aU_R I2]; exact Fr_s (Fr_w b1 (by decide)) _ (by decide)
  · intro j hj
    rw [aU_i _ _ (fun e => hj (by rw [e]; decide))]
    exact (F46_w b2 (by decide) : F46 (12 :: scf) _ I2) j hj
  · refine zR_1 ?_ (aU_s _ _ _ _) ?_
    · rw [aU_r _ _ (by decide), b1 12 (by decide), aU_s]
    · simp (disch := decide) only [aU_r, aU_i, aU_s]
  · show aE d 126 0 [.ref 6, aNo, aNo, aNo] [] _ = _
    rw [b126_0, s1 I J rfl rfl]
    simp only [aBi]
    rw [b126_11]
    rfl
  · show aE d 260 0 [.ref 46, aNo, aNo, aNo] [] _ = _
    rw [b260_0, s2 _ _ (by rw [aU_r _ _ (by decide), h12 47 (by decide)]) (by rw [aU_i _ _ (by decide), h12 46 (by decide)])]
    simp only [aBi]
    rw [b260_9]
    rfl
/-! calm -/
def lo2 (v : Nat → Int32) : Int32 := if v 3 < v 2 then v 3 else v 2
def hi2 (v : Nat → Int32) : Int32 := if v 2 < v 3 then v 3 else v 2
def cm1 (A : Int32 → (Nat → Int32) × Bool) (L : Nat) (s : Nat) (x : Int32 × Int32 × Int32) : Int32 × Int32 × Int32 :=
  if sub (nI s) (nI L) = true ∧ (x.1 = -1 ∨ lo2 (A (nI s)).1 < x.2.1 ∨ (lo2 (A (nI s)).1 = x.2.1 ∧ hi2 (A (nI s)).1 < x.2.2)) then (nI s, lo2 (A (nI s)).1, hi2 (A (nI s)).1) else x
theorem tie_calm (H : zInv t n m q I J) : tie d 124 259 [] t g I J sl rd := by
  obtain ⟨L, hL, s1, s2, s3⟩ := sd_get (d := d) (g := g) (sl := sl) (rd := rd) (rl := 56) H
  generalize hA : sdA (I 22) (I 14 11) (nI L) q (cV (I 24)) = A
  have lC : ∀ (k s : Nat) (x : Int32 × Int32 × Int32) (I1 : Nat → Nat → Int32) (w6 w7 : Value), s + k = 256 → Fr [28] I I1 → ∃ I', Fr [28] I I' ∧ aE d 124 22 [.ref 6, .int (nI L), .int x.1, .int x.2.1, .int x.2.2, .int (nI s), w6, w7] [] (g, I1, J, aP1 sl rd 56) = some (some (some (.int (fo (cm1 A L) k s x).1)), (g, aU I' 12 1 2, aU (aU J 13 0 (Int32.toInt64 (fo (cm1 A L) k s x).2.1)) 13 1 (Int32.toInt64 (fo (cm1 A L) k s x).2.2), aP1 sl rd 56)) := by
    intro k
    induction k with
    | zero =>
      intro s x I1 w6 w7 hs q1
      obtain rfl : s = 256 := by omega
      refine ⟨I1, q1, ?_⟩
      rw [b124_22, if_pos (by decide), f82]
      simp only [aBv]
      rw [b124_119]
      rfl
    | succ k ih =>
      intro s x I1 w6 w7 hs q1
      obtain ⟨x1, x2, x3⟩ := x
      have n256 : ¬ 256 ≤ nI s := nI_ge (b := 256) (by omega) (by decide)
      rw [fo_1, b124_22, if_neg n256]
      by_cases hsub : sub (nI s) (nI L) = true
      · obtain ⟨I2, a1, a2, a3⟩ := sdC (d := d) (g := g) (sl := sl) (rd := rd) (rl := 56) (J1 := J) H s3 s q1
        rw [hA] at a2 a3
        rw [if_pos ((sub_dec _ _).mpr hsub), a3]
        simp only [aBi]
        rw [b124_48, f79_27]
        simp only [aBi]
        rw [b124_56, f125]
        simp only [aBi]
        have e1 : (if I2 28 3 < I2 28 2 then I2 28 3 else I2 28 2) = lo2 (A (nI s)).1 := by rw [← a2]; rfl
        have e2 : (if I2 28 2 < I2 28 3 then I2 28 3 else I2 28 2) = hi2 (A (nI s)).1 := by rw [← a2]; rfl
        rw [e1, e2, b124_65]
        have yes : (x1 = -1 ∨ lo2 (A (nI s)).1 < x2 ∨ (lo2 (A (nI s)).1 = x2 ∧ hi2 (A (nI s)).1 < x3)) → cm1 A L s (x1, x2, x3) = (nI s, lo2 (A (nI s)).1, hi2 (A (nI s)).1) := fun h => if_pos ⟨hsub, h⟩
        have no : ¬ (x1 = -1 ∨ lo2 (A (nI s)).1 < x2 ∨ (lo2 (A (nI s)).1 = x2 ∧ hi2 (A (nI s)).1 < x3)) → cm1 A L s (x1, x2, x3) = (x1, x2, x3) := fun h => if_neg (fun q => h q.2)
        rw [nI_1]
        by_cases z1 : x1 = -1
        · rw [if_pos z1, yes (Or.inl z1)]
          exact ih (s + 1) (nI s, _, _) I2 _ _ (by omega) a1
        · rw [if_neg z1]
          by_cases z2 : lo2 (A (nI s)).1 < x2
          · rw [if_pos z2, yes (Or.inr (Or.inl z2))]
            exact ih (s + 1) (nI s, _, _) I2 _ _ (by omega) a1
          · rw [if_neg z2]
            by_cases z3 : lo2 (A (nI s)).1 = x2
            · rw [if_pos z3]
              by_cases z4 : x3 ≤ hi2 (A (nI s)).1
              · rw [if_pos z4, no (fun h => by
                  rcases h with h | h | h
                  · exact z1 h
                  · exact z2 h
                  · have := h.2; rw [← nle_lt] at this; exact this z4)]
                exact ih (s + 1) (x1, x2, x3) I2 _ _ (by omega) a1
              · rw [if_neg z4, yes (Or.inr (Or.inr ⟨z3, by rw [← nle_lt]; exact z4⟩))]
                exact ih (s + 1) (nI s, _, _) I2 _ _ (by omega) a1
            · rw [if_neg z3, no (fun h => by
                rcases h with h | h | h
                · exact z1 h
                · exact z2 h
                · exact z3 h.1)]
              exact ih (s + 1) (x1, x2, x3) I2 _ _ (by omega) a1
      · rw [if_neg (fun h => hsub ((sub_dec _ _).mp h)), nI_1, show cm1 A L s (x1, x2, x3) = (x1, x2, x3) from if_neg (fun h => hsub h.1)]
        exact ih (s + 1) (x1, x2, x3) I1 _ _ (by omega) q1
  have lR : ∀ (Ic : Nat → Nat → Int32) (J1 : Nat → Nat → Int64), Fr [12, 28] I Ic → ∀ (k s : Nat) (x : Int32 × Int32 × Int32) (I1 : Nat → Nat → Int32) (w6 w7 : Value), s + k = L + 1 → Fr [46, 60] Ic I1 → F46 [13] Ic I1 → ∃ I', Fr [46, 60] Ic I' ∧ F46 [13] Ic I' ∧ aE d 259 20 [.ref 46, .int (nI L), .int x.1, .int x.2.1, .int x.2.2, .int (nI s), w6, w7] [] (g, I1, J1, aP1 sl rd 56) = some (some (some (.int (fo (cm1 A L) k s x).1)), (g, aU I' 46 12 2, aU (aU J1 53 0 (Int32.toInt64 (fo (cm1 A L) k s x).2.1)) 53 1 (Int32.toInt64 (fo (cm1 A L) k s x).2.2), aP1 sl rd 56)) := by
    intro Ic J1 hIc k
    induction k with
    | zero =>
      intro s x I1 w6 w7 hs q1 q2
      obtain rfl : s = L + 1 := by omega
      refine ⟨I1, q1, q2, ?_⟩
      rw [b259_20, if_pos (nI_lt (by omega) (by omega)), tell0]
      simp only [aBv]
      rw [b259_134, tell1]
      simp only [aBv]
      rw [b259_141]
      rfl
    | succ k ih =>
      intro s x I1 w6 w7 hs q1 q2
      obtain ⟨x1, x2, x3⟩ := x
      have nL : ¬ nI L < nI s := nI_nlt (by omega) (by omega)
      rw [fo_1, b259_20, if_neg nL]
      by_cases hsub : sub (nI s) (nI L) = true
      · obtain ⟨I2, a1, a2, a3, a4⟩ := sdR (d := d) (g := g) (sl := sl) (rd := rd) (rl := 56) (L := L) (J1 := J1) H s hIc q1 q2
        rw [hA] at a3 a4
        rw [if_pos ((sub_dec _ _).mpr hsub), a4]
        simp only [aBi]
        rw [b259_45]
        have e1 : (if I2 60 3 < I2 60 2 then I2 60 3 else I2 60 2) = lo2 (A (nI s)).1 := by rw [← a3]; rfl
        have e2 : (if I2 60 2 < I2 60 3 then I2 60 3 else I2 60 2) = hi2 (A (nI s)).1 := by rw [← a3]; rfl
        rw [e1, e2]
        have yes : (x1 = -1 ∨ lo2 (A (nI s)).1 < x2 ∨ (lo2 (A (nI s)).1 = x2 ∧ hi2 (A (nI s)).1 < x3)) → cm1 A L s (x1, x2, x3) = (nI s, lo2 (A (nI s)).1, hi2 (A (nI s)).1) := fun h => if_pos ⟨hsub, h⟩
        have no : ¬ (x1 = -1 ∨ lo2 (A (nI s)).1 < x2 ∨ (lo2 (A (nI s)).1 = x2 ∧ hi2 (A (nI s)).1 < x3)) → cm1 A L s (x1, x2, x3) = (x1, x2, x3) := fun h => if_neg (fun q => h q.2)
        by_cases z1 : x1 = -1
        · rw [if_pos z1, yes (Or.inl z1), b259_107, b259_117, nI_1]
          exact ih (s + 1) (nI s, _, _) I2 _ _ (by omega) a1 a2
        · rw [if_neg z1]
          by_cases z2 : x2 < lo2 (A (nI s)).1
          · rw [if_pos z2, no (fun h => by
              rcases h with h | h | h
              · exact z1 h
              · rw [int_lt] at *; omega
              · rw [h.1] at z2; exact absurd z2 (by rw [int_lt]; omega)), b259_117, nI_1]
            exact ih (s + 1) (x1, x2, x3) I2 _ _ (by omega) a1 a2
          · rw [if_neg z2]
            by_cases z3 : lo2 (A (nI s)).1 = x2
            · rw [if_pos z3]
              by_cases z4 : hi2 (A (nI s)).1 < x3
              · rw [if_pos z4, yes (Or.inr (Or.inr ⟨z3, z4⟩)), b259_107, b259_117, nI_1]
                exact ih (s + 1) (nI s, _, _) I2 _ _ (by omega) a1 a2
              · rw [if_neg z4, no (fun h => by
                  rcases h with h | h | h
                  · exact z1 h
                  · rw [z3] at h; exact absurd h (by rw [int_lt]; omega)
                  · exact z4 h.2), b259_117, nI_1]
                exact ih (s + 1) (x1, x2, x3) I2 _ _ (by omega) a1 a2
            · have z5 : lo2 (A (nI s)).1 < x2 := by
                rw [int_lt] at *
                have : ¬ (lo2 (A (nI s)).1).toInt = x2.toInt := fun e => z3 (Int32.toInt_inj.mp e)
                omega
              rw [if_neg z3, yes (Or.inr (Or.inl z5)), b259_107, b259_117, nI_1]
              exact ih (s + 1) (nI s, _, _) I2 _ _ (by omega) a1 a2
      · rw [if_neg (fun h => hsub ((sub_dec _ _).mp h)), b259_117, nI_1, show cm1 A L s (x1, x2, x3) = (x1, x2, x3) from if_neg (fun h => hsub h.1)]
        exact ih (s + 1) (x1, x2, x3) I1 _ _ (by omega) q1 q2
  obtain ⟨I1, a1, a2⟩ := lC 256 0 (-1, 0, 0) I aNo aNo rfl (Fr_r _ _)
  have cut : fo (cm1 A L) 256 0 (-1, 0, 0) = fo (cm1 A L) (L + 1) 0 (-1, 0, 0) := fo_cut (M := 256) (i := 0) hL (by omega) _ (fun j h1 h2 a => by
    unfold cm1; rw [sub_no h1 (by omega), if_neg (fun h => absurd h.1 (by decide))])
  generalize fo (cm1 A L) 256 0 (-1, 0, 0) = X at a2 cut
  have h12 : Fr [12, 28] I (aU I1 12 1 2) := by rw [aU_R]; exact Fr_s (Fr_w a1 (by decide)) _ (by decide)
  obtain ⟨I2, b1, b2, b3⟩ := lR (aU I1 12 1 2) (aU (aU J 13 0 (Int32.toInt64 X.2.1)) 13 1 (Int32.toInt64 X.2.2)) h12 (L + 1) 0 (-1, 0, 0) (aU (aU I1 12 1 2) 46 13 0) aNo aNo (by omega) (thF _).1 (thF _).2
  rw [← cut] at b3
  refine tie_R H (Fr_w h12 (by decide)) ?_ ?_ ?_ (Eq.trans ?_ a2) (Eq.trans ?_ b3)
  · rw [aU_R I2]; exact Fr_s (Fr_w b1 (by decide)) _ (by decide)
  · intro j hj
    rw [aU_i _ _ (fun e => hj (by rw [e]; decide))]
    exact (F46_w b2 (by decide) : F46 (12 :: scf) _ I2) j hj
  · refine zR_2 ?_ (aU_s _ _ _ _) ?_ ?_
    · rw [aU_r _ _ (by decide), b1 12 (by decide), aU_s]
    · simp (disch := decide) only [aU_r, aU_i, aU_s]
    · simp (disch := decide) only [aU_r, aU_i, aU_s]
  · show aE d 124 0 [.ref 6, aNo, aNo, aNo, aNo, aNo, aNo, aNo] [] _ = _
    rw [b124_0, s1 I J rfl rfl]
    simp only [aBi]
    rw [b124_11]
    rfl
  · show aE d 259 0 [.ref 46, aNo, aNo, aNo, aNo, aNo, aNo, aNo] [] _ = _
    rw [b259_0, s2 _ _ (by rw [aU_r _ _ (by decide), h12 47 (by decide)]) (by rw [aU_i _ _ (by decide), h12 46 (by decide)])]
    simp only [aBi]
    rw [b259_9]
    rfl
end T01
