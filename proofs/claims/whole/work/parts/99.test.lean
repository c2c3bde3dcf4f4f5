section T00
/-! riots, spark, won: tied -/
variable {d : Nat} {g : Nat × Nat × Nat} {I : Nat → Nat → Int32} {J : Nat → Nat → Int64} {sl rd rl : Nat} {t n m q : Nat}
/-- one round -/
def rS1 (nd : Nat → Int32) (m : Nat) (never r : Int32) : Int32 := r ||| (bs (fun i => !decide (bc r < nd i)) m &&& (never ^^^ (-1)))
def itR (S : Int32 → Int32) : Nat → Int32 → Int32
  | 0, r => r
  | k + 1, r => if S r = r then r else itR S k (S r)
def rtA (nd : Nat → Int32) (m : Nat) (some never : Int32) : Int32 := itR (rS1 nd m never) 9 (some &&& (never ^^^ (-1)))
def cnt (r : Int32) : Nat → Nat
  | 0 => 0
  | k + 1 => cnt r k + (bt r k).toNat
theorem cnt_le (r : Int32) : ∀ k, cnt r k ≤ k
  | 0 => Nat.le_refl _
  | k + 1 => by have := cnt_le r k; have := bool1 (bt r k); unfold cnt; omega
theorem cnt_mono {r r' : Int32} (h : ∀ i, i < 32 → bt r i = true → bt r' i = true) : ∀ k, k ≤ 32 → cnt r k ≤ cnt r' k
  | 0, _ => Nat.le_refl _
  | k + 1, hk => by
    have a := cnt_mono h k (by omega)
    have b := h k (by omega)
    unfold cnt
    cases e : bt r k
    · have := bool1 (bt r' k); simp only [Bool.toNat_false]; omega
    · rw [b e]; simp only [Bool.toNat_true]; omega
theorem cnt_lt {r r' : Int32} (h : ∀ i, i < 32 → bt r i = true → bt r' i = true) {j : Nat} (h1 : bt r j = false) (h2 : bt r' j = true) : ∀ k, k ≤ 32 → j < k → cnt r k < cnt r' k
  | 0, _, hj => by omega
  | k + 1, hk, hj => by
    by_cases e : j = k
    · subst e
      have a := cnt_mono h j (by omega)
      unfold cnt
      rw [h1, h2]; simp only [Bool.toNat_false, Bool.toNat_true]; omega
    · have a := cnt_lt h h1 h2 k (by omega) (by omega)
      have b := h k (by omega)
      unfold cnt
      cases e2 : bt r k
      · simp only [Bool.toNat_false]; omega
      · rw [b e2]; simp only [Bool.toNat_true]; omega
theorem rS1_bt (nd : Nat → Int32) {m : Nat} (hm : m ≤ 8) (never r : Int32) {i : Nat} (hi : i < 32) : bt (rS1 nd m never r) i = (bt r i || ((decide (i < m) && !decide (bc r < nd i)) && !bt never i)) := by
  unfold rS1
  rw [b_or, b_and, b_bs (by omega) hi, b_not _ hi]
theorem rS1_up (nd : Nat → Int32) {m : Nat} (hm : m ≤ 8) (never r : Int32) (h : ¬ rS1 nd m never r = r) : cnt r 8 < cnt (rS1 nd m never r) 8 := by
  have mono : ∀ i, i < 32 → bt r i = true → bt (rS1 nd m never r) i = true := fun i hi hb => by rw [rS1_bt nd hm never r hi, hb, Bool.true_or]
  have ex : ∃ j, j < 8 ∧ bt r j = false ∧ bt (rS1 nd m never r) j = true := by
    apply Classical.byContradiction
    intro hn
    apply h
    refine b_ext (fun i hi => ?_)
    cases e : bt r i
    · cases e2 : bt (rS1 nd m never r) i
      · rfl
      · exfalso
        have : i < m := by
          rw [rS1_bt nd hm never r hi, e] at e2
          apply Classical.byContradiction; intro hh
          rw [decide_eq_false hh] at e2
          simp at e2
        exact hn ⟨i, by omega, e, e2⟩
    · rw [mono i hi e]
  obtain ⟨j, hj, h1, h2⟩ := ex
  exact cnt_lt mono h1 h2 8 (by decide) hj
theorem itR_fix (nd : Nat → Int32) {m : Nat} (hm : m ≤ 8) (never : Int32) : ∀ (k : Nat) (r : Int32), 8 < cnt r 8 + k → rS1 nd m never (itR (rS1 nd m never) k r) = itR (rS1 nd m never) k r := by
  intro k
  induction k with
  | zero => intro r h; have := cnt_le r 8; omega
  | succ k ih =>
    intro r h
    unfold itR
    by_cases e : rS1 nd m never r = r
    · rw [if_pos e]; exact e
    · rw [if_neg e]; have := rS1_up nd hm never r e; exact ih _ (by omega)
theorem f133 {m : Nat} (hm : m ≤ 8) (h4 : I 14 4 = nI m) (some0 never : Int32) : aF d 133 [.ref 14, .int some0, .int never] (g, I, J, aP1 sl rd rl) = some (some (some (.int (rtA (I 20) m some0 never))), (g, I, J, aP1 sl rd rl)) := by
  have l : ∀ (k j : Nat) (r : Int32) (w1 w5 : Value), j + k = 9 → aE d 133 9 [.ref 14, w1, .int never, .int r, .int (nI j), w5] [] (g, I, J, aP1 sl rd rl) = some (some (some (.int (itR (rS1 (I 20) m never) k r))), (g, I, J, aP1 sl rd rl)) := by
    intro k
    induction k with
    | zero =>
      intro j r w1 w5 hj
      obtain rfl : j = 9 := by omega
      rw [b133_9, if_pos (by decide)]
      rfl
    | succ k ih =>
      intro j r w1 w5 hj
      rw [b133_9, if_neg (show ¬ 8 < nI j from nI_nlt (a := 8) (by omega) (by decide)), f12]
      simp only [aBi]
      rw [b133_22, f134 h4 hm]
      simp only [aBi]
      rw [b133_25, nI_1]
      show (if rS1 (I 20) m never r = r then _ else aE d 133 9 [.ref 14, w1, .int never, .int (rS1 (I 20) m never r), .int (nI (j + 1)), .int (rS1 (I 20) m never r)] [] (g, I, J, aP1 sl rd rl)) = _
      unfold itR
      by_cases e : rS1 (I 20) m never r = r
      · rw [if_pos e, if_pos e]
      · rw [if_neg e, if_neg e]; exact ih (j + 1) _ _ _ (by omega)
  show aE d 133 0 [.ref 14, .int some0, .int never, aNo, aNo, aNo] [] _ = _
  rw [b133_0]
  exact l 9 0 _ _ _ rfl
theorem f265 {m : Nat} {nd : Nat → Int32} (hm : m ≤ 8) (h4 : I 46 4 = nI m) (hnd : ∀ i, i < m → I 50 (4 * i + 2) = nd i) (some0 never : Int32) (hs : ¬ (some0 &&& (never ^^^ (-1))) = -1) : aF d 265 [.ref 46, .int some0, .int never] (g, I, J, aP1 sl rd rl) = some (some (some (.int (rtA nd m some0 never))), (g, I, J, aP1 sl rd rl)) := by
  -- one round
  have inner : ∀ (r : Int32) (w1 : Value) (k j : Nat) (acc : Int32), j + k = m → (∀ i, i < 32 → bt acc i = (bt r i || ((decide (i < j) && !decide (bc r < nd i)) && !bt never i))) → aE d 265 21 [.ref 46, w1, .int never, .int acc, .int r, .int (nI j)] [] (g, I, J, aP1 sl rd rl) = aE d 265 9 [.ref 46, w1, .int never, .int (rS1 nd m never r), .int r, .int (nI m)] [] (g, I, J, aP1 sl rd rl) := by
    intro r w1 k
    induction k with
    | zero =>
      intro j acc hj hacc
      obtain rfl : j = m := by omega
      rw [b265_21, if_pos (by rw [h4]; exact Int32.le_refl _)]
      rw [show acc = rS1 nd j never r from b_ext (fun i hi => by rw [hacc i hi, rS1_bt nd hm never r hi])]
    | succ k ih =>
      intro j acc hj hacc
      have hj8 : j < 8 := by omega
      rw [b265_21, if_neg (by rw [h4]; exact nI_ge (by omega) (by omega)), f217]
      simp only [aBi]
      rw [b265_37]
      have same : ∀ x : Int32, (∀ i, i < 32 → bt x i = (bt acc i || (decide (i = j) && (!decide (bc r < nd j) && !bt never j)))) → aE d 265 21 [.ref 46, w1, .int never, .int x, .int r, .int (nI (j + 1))] [] (g, I, J, aP1 sl rd rl) = aE d 265 9 [.ref 46, w1, .int never, .int (rS1 nd m never r), .int r, .int (nI m)] [] (g, I, J, aP1 sl rd rl) := by
        intro x hx
        refine ih (j + 1) x (by omega) (fun i hi => ?_)
        rw [hx i hi, hacc i hi]
        by_cases e : i = j
        · subst e
          rw [decide_eq_false (show ¬ i < i by omega), decide_eq_true (show i < i + 1 by omega), decide_eq_true (rfl : i = i)]
          cases bt r i <;> cases decide (bc r < nd i) <;> cases bt never i <;> rfl
        · rw [decide_eq_false e, Bool.false_and, Bool.or_false, decide_eq_decide.mpr (show i < j ↔ i < j + 1 by omega)]
      have hh := hasT_bt never (show j < 32 by omega)
      by_cases z : bt never j = true
      · rw [hh, z, if_neg (by decide), Int32.or_zero, nI_1]
        exact same acc (fun i hi => by rw [z]; simp)
      · have z : bt never j = false := by simpa using z
        rw [hh, z, if_pos tI_f, f12]
        simp only [aBi]
        rw [b265_52]
        have hnj := hnd j (by omega)
        have ix : (4 * nI j + 2) = nI (4 * j + 2) := by rw [nIm4]; exact nI_add _ 2
        simp (disch := omega) only [ix, nIneg, nI_clamp, nat_le_f, or_self, if_false, hnj]
        rw [nI_1]
        -- of one who riots already nothing is asked
        by_cases b1 : bt r j = true
        · have hb : bt acc j = true := by rw [hacc j (by omega), b1, Bool.true_or]
          by_cases c1 : bc (r &&& ((1 <<< (nI j &&& 31)) ^^^ (-1))) < nd j
          · rw [if_pos c1, Int32.or_zero]
            refine ih (j + 1) acc (by omega) (fun i hi => ?_)
            by_cases e : i = j
            · subst e; rw [hb, b1, Bool.true_or]
            · rw [hacc i hi, decide_eq_decide.mpr (show i < j ↔ i < j + 1 by omega)]
          · rw [if_neg c1]
            refine ih (j + 1) _ (by omega) (fun i hi => ?_)
            rw [b_or, show (1 <<< (nI j &&& 31)) = bit j from rfl, b_bit (by omega) hi]
            by_cases e : i = j
            · subst e; rw [hb, b1, Bool.true_or, Bool.true_or]
            · rw [decide_eq_false e, Bool.or_false, hacc i hi, decide_eq_decide.mpr (show i < j ↔ i < j + 1 by omega)]
        · have b1 : bt r j = false := by simpa using b1
          have er : (r &&& ((1 <<< (nI j &&& 31)) ^^^ (-1))) = r := by
            refine b_ext (fun i hi => ?_)
            rw [b_and, b_not _ hi, show (1 <<< (nI j &&& 31)) = bit j from rfl, b_bit (by omega) hi]
            by_cases e : i = j
            · subst e; rw [b1, Bool.false_and]
            · rw [decide_eq_false e]; simp
          rw [er]
          by_cases c1 : bc r < nd j
          · rw [if_pos c1, Int32.or_zero]
            exact same acc (fun i hi => by rw [decide_eq_true c1]; simp)
          · rw [if_neg c1]
            refine same _ (fun i hi => ?_)
            rw [b_or, show (1 <<< (nI j &&& 31)) = bit j from rfl, b_bit (by omega) hi, decide_eq_false c1, z]
            simp
  have round : ∀ (r last : Int32) (w1 w5 : Value), ¬ r = last → aE d 265 9 [.ref 46, w1, .int never, .int r, .int last, w5] [] (g, I, J, aP1 sl rd rl) = aE d 265 9 [.ref 46, w1, .int never, .int (rS1 nd m never r), .int r, .int (nI m)] [] (g, I, J, aP1 sl rd rl) := by
    intro r last w1 w5 h
    rw [b265_9, if_neg h]
    exact inner r w1 m 0 r (by omega) (fun i hi => by simp)
  have l : ∀ (k : Nat) (r last : Int32) (w1 w5 : Value), ¬ r = last → rS1 nd m never (itR (rS1 nd m never) k r) = itR (rS1 nd m never) k r → aE d 265 9 [.ref 46, w1, .int never, .int r, .int last, w5] [] (g, I, J, aP1 sl rd rl) = some (some (some (.int (itR (rS1 nd m never) k r))), (g, I, J, aP1 sl rd rl)) := by
    have fixed : ∀ (r last : Int32) (w1 w5 : Value), ¬ r = last → rS1 nd m never r = r → aE d 265 9 [.ref 46, w1, .int never, .int r, .int last, w5] [] (g, I, J, aP1 sl rd rl) = some (some (some (.int (r))), (g, I, J, aP1 sl rd rl)) := by
      intro r last w1 w5 h e
      rw [round r last w1 w5 h, e, b265_9, if_pos rfl]
    intro k
    induction k with
    | zero => intro r last w1 w5 h e; exact fixed r last w1 w5 h e
    | succ k ih =>
      intro r last w1 w5 h e
      unfold itR at e ⊢
      by_cases f : rS1 nd m never r = r
      · rw [if_pos f]; exact fixed r last w1 w5 h f
      · rw [if_neg f] at e ⊢
        rw [round r last w1 w5 h]
        exact ih _ _ _ _ f e
  show aE d 265 0 [.ref 46, .int some0, .int never, aNo, aNo, aNo] [] _ = _
  rw [b265_0]
  exact l 9 _ _ _ _ hs (itR_fix nd hm never 9 _ (by omega))
/-! sets of quarters -/
theorem fN_n {m : Nat} (hm : m ≤ 8) : fN (nI m) = nI (2 ^ m - 1) := by
  rcases (by omega : m = 0 ∨ m = 1 ∨ m = 2 ∨ m = 3 ∨ m = 4 ∨ m = 5 ∨ m = 6 ∨ m = 7 ∨ m = 8) with rfl | rfl | rfl | rfl | rfl | rfl | rfl | rfl | rfl <;> decide
theorem pow8 {m : Nat} (hm : m ≤ 8) : 2 ^ m ≤ 256 := Nat.pow_le_pow_right (n := 2) (by decide) hm
theorem aq_sub {m : Nat} (hm : m ≤ 8) (c : Int32) : (c &&& (nI (2 ^ m - 1) ^^^ (-1))) = 0 ↔ ∃ k, k < 2 ^ m ∧ c = nI k := by
  have hp := pow8 hm
  constructor
  · intro h
    obtain ⟨k, hk, e⟩ := pk_andE c (m := nI (2 ^ m - 1)) m (by rw [pk_tn (by omega)])
    refine ⟨k, hk, ?_⟩
    rw [← e]
    refine b_ext (fun i hi => ?_)
    have b := congrArg (fun z => bt z i) h
    rw [b_and]
    have b2 : bt (c &&& (nI (2 ^ m - 1) ^^^ (-1))) i = bt 0 i := b
    rw [b_and, b_not _ hi, b_0] at b2
    revert b2
    cases bt c i <;> cases bt (nI (2 ^ m - 1)) i <;> simp
  · rintro ⟨k, hk, rfl⟩
    refine b_ext (fun i hi => ?_)
    rw [b_and, b_not _ hi, b_0, bt_nI hi, bt_nI hi, Nat.testBit_two_pow_sub_one]
    by_cases e : i < m
    · simp [e]
    · have : k.testBit i = false := Nat.testBit_lt_two_pow (Nat.lt_of_lt_of_le hk (Nat.pow_le_pow_right (by decide) (by omega)))
      simp [this]
theorem aq_c {m : Nat} (hm : m ≤ 8) (h4 : I 14 4 = nI m) (c : Int32) : aF d 130 [.ref 14, .int c] (g, I, J, aP1 sl rd rl) = some (some (some (.int (tI (decide (∃ k, k < 2 ^ m ∧ c = nI k))))), (g, I, J, aP1 sl rd rl)) := by
  rw [f130, h4, fN_n hm]
  congr 6
  exact decide_eq_decide.mpr (aq_sub hm c)
theorem aq_r {m : Nat} (hm : m ≤ 8) (h4 : I 46 4 = nI m) (c : Int32) : aF d 264 [.ref 46, .int c] (g, I, J, aP1 sl rd rl) = some (some (some (.int (tI (decide (∃ k, k < 2 ^ m ∧ c = nI k))))), (g, I, J, aP1 sl rd rl)) := by
  have hp := pow8 hm
  have hp1 : 0 < 2 ^ m := Nat.pow_pos (by decide)
  rw [f264, h4, fN_n hm]
  congr 5
  by_cases h : ∃ k, k < 2 ^ m ∧ c = nI k
  · rw [decide_eq_true h]
    obtain ⟨k, hk, rfl⟩ := h
    exact inI_t (nI_pos (by omega)) (nI_nlt (by omega) (by omega))
  · rw [decide_eq_false h]
    refine inI_f (Classical.byContradiction fun hn => h ?_)
    obtain ⟨k, hk, e⟩ := rngN (a := c) (b := nI (2 ^ m - 1)) rfl (by omega) hn
    exact ⟨k, by omega, e⟩
theorem zQ_e (H : zInv t n m q I J) {i : Nat} (hi : i < m) : I 50 (4 * i) = I 18 i ∧ I 50 (4 * i + 1) = I 19 i ∧ I 50 (4 * i + 2) = I 20 i ∧ I 50 (4 * i + 3) = I 21 i := by
  obtain ⟨h1, h2, h3, h4, -⟩ := H.2.2.2.1.2.2.2 i hi
  exact ⟨h1.symm, h2.symm, h3.symm, h4.symm⟩
theorem crowds (H : zInv t n m q I J) (b : Int32) : sm (fun i => hasT b (nI i)) (fun i => I 50 (4 * i)) m = sm (fun i => hasT b (nI i)) (fun i => I 18 i) m :=
  sm_congr (fun _ _ => rfl) (fun i hi => (zQ_e H hi).1)
theorem not_m1 {k : Nat} (hk : k < 2 ^ 31) (x : Int32) : ¬ (nI k &&& (x ^^^ (-1))) = -1 := by
  intro h
  have b : bt (nI k &&& (x ^^^ (-1))) 31 = bt (-1) 31 := by rw [h]
  rw [b_and, b_m1 31 (by decide), bt_nI (by decide), Nat.testBit_lt_two_pow hk, Bool.false_and] at b
  cases b
theorem Fr12 (I : Nat → Nat → Int32) (v : Int32) : Fr (12 :: scc) I (aU I 12 1 v) := by rw [aU_R]; exact Fr_s (Fr_r _ _) _ (by decide)
/-- only 'thrown' and the row -/
theorem FrT (I : Nat → Nat → Int32) (v : Int32) : Fr scm I (aU (aU I 46 13 0) 46 12 v) ∧ F46 (12 :: scf) I (aU (aU I 46 13 0) 46 12 v) := by
  refine ⟨?_, fun j hj => ?_⟩
  · rw [aU_R, aU_R]; exact Fr_s (Fr_s (Fr_r _ _) _ (by decide)) _ (by decide)
  · rw [aU_i _ _ (fun e => hj (by rw [e]; decide)), aU_i _ _ (fun e => hj (by rw [e]; decide))]
theorem tie_riots (H : zInv t n m q I J) (a : Int32) : tie d 129 263 [.int a] t g I J sl rd := by
  obtain ⟨hm, d1, d2, -⟩ := H.2.2.2.1
  by_cases hx : ∃ k, k < 2 ^ m ∧ a = nI k
  · have hx' := hx
    obtain ⟨k, hk, rfl⟩ := hx'
    have hp := pow8 hm
    have e1 : aF d 129 [.ref 6, .int (nI k)] (g, I, J, aP1 sl rd 56) = some (some (some (.int (rtA (I 20) m (nI k) 0))), (g, aU I 12 1 2, aU (aU J 13 0 (Int32.toInt64 (bc (rtA (I 20) m (nI k) 0)))) 13 1 (Int32.toInt64 (sm (fun i => hasT (rtA (I 20) m (nI k) 0) (nI i)) (fun i => I 18 i) m)), aP1 sl rd 56)) := by
      show aE d 129 0 [.ref 6, .int (nI k), aNo] [] _ = _
      rw [b129_0, aq_c hm d1, decide_eq_true hx]
      simp only [aBi]
      rw [b129_8, if_neg (by decide), f133 hm d1]
      simp only [aBi]
      rw [b129_22, f12]
      simp only [aBi]
      rw [b129_31, f135 d1 hm]
      simp only [aBi]
      rw [b129_40, f82]
      simp only [aBv]
      rw [b129_44]
    have r : ∀ a, a ≠ 12 → aU I 12 1 2 a = I a := fun a h => aU_r _ _ h
    have e2 : aF d 263 [.ref 46, .int (nI k)] (g, aU I 12 1 2, aU (aU J 13 0 (Int32.toInt64 (bc (rtA (I 20) m (nI k) 0)))) 13 1 (Int32.toInt64 (sm (fun i => hasT (rtA (I 20) m (nI k) 0) (nI i)) (fun i => I 18 i) m)), aP1 sl rd 56) = some (some (some (.int (rtA (I 20) m (nI k) 0))), (g, aU (aU (aU I 12 1 2) 46 13 0) 46 12 2, aU (aU (aU (aU J 13 0 (Int32.toInt64 (bc (rtA (I 20) m (nI k) 0)))) 13 1 (Int32.toInt64 (sm (fun i => hasT (rtA (I 20) m (nI k) 0) (nI i)) (fun i => I 18 i) m))) 53 0 (Int32.toInt64 (bc (rtA (I 20) m (nI k) 0)))) 53 1 (Int32.toInt64 (sm (fun i => hasT (rtA (I 20) m (nI k) 0) (nI i)) (fun i => I 18 i) m)), aP1 sl rd 56)) := by
      show aE d 263 0 [.ref 46, .int (nI k), aNo] [] _ = _
      have c4 : aU (aU I 12 1 2) 46 13 0 46 4 = nI m := by rw [aU_i _ _ (by decide), r 46 (by decide)]; exact d2
      rw [b263_0, aq_r hm c4, decide_eq_true hx]
      simp only [aBi]
      rw [b263_10, if_neg (by decide), f265 (nd := I 20) hm c4 (fun i hi => by rw [aU_r _ _ (by decide), r 50 (by decide)]; exact (zQ_e H hi).2.2.1) _ _ (not_m1 (by omega) 0)]
      simp only [aBi]
      rw [b263_21, f12]
      simp only [aBi]
      rw [b263_32, tell0]
      simp only [aBv]
      rw [b263_36, f216 (n := m) (by rw [aU_i _ _ (by decide)]; exact c4) hm, aU_r _ _ (by decide), aU_r _ _ (by decide), r 50 (by decide), crowds H]
      simp only [aBi]
      rw [b263_42, tell1]
      simp only [aBv]
      rw [b263_46]
    refine tie_R H (Fr12 _ _) (FrT _ _).1 (FrT _ _).2 ?_ e1 e2
    refine zR_2 ?_ (aU_s _ _ _ _) ?_ ?_
    · simp (disch := decide) only [aU_r, aU_s]
    · simp (disch := decide) only [aU_r, aU_i, aU_s]
    · simp (disch := decide) only [aU_r, aU_i, aU_s]
  · refine tie_0 (rd2 := rd) (v := -1) H (Fr_r _ _) (th_F _) (th_46 _) ?_ ?_
    · show aE d 129 0 [.ref 6, .int a, aNo] [] _ = _
      rw [b129_0, aq_c hm d1, decide_eq_false hx]
      simp only [aBi]
      rw [b129_8, if_pos tI_f]
    · show aE d 263 0 [.ref 46, .int a, aNo] [] _ = _
      rw [b263_0, aq_r hm (by rw [aU_i _ _ (by decide)]; exact d2), decide_eq_false hx]
      simp only [aBi]
      rw [b263_10, if_pos tI_f]
def sp1 (nd : Nat → Int32) (m : Nat) (s : Nat) (b : Int32) : Int32 := if ¬ bc b ≤ bc (nI s) ∧ rtA nd m (nI s) 0 = nI (2 ^ m - 1) then nI s else b
theorem tie_spark (H : zInv t n m q I J) : tie d 136 266 [] t g I J sl rd := by
  obtain ⟨hm, d1, d2, -⟩ := H.2.2.2.1
  have hp := pow8 hm
  have hp1 : 0 < 2 ^ m := Nat.pow_pos (by decide)
  have lC : ∀ (k s : Nat) (b : Int32), s + k = 2 ^ m - 1 → aE d 136 12 [.ref 6, .int (nI (2 ^ m - 1)), .int b, .int (nI s)] [] (g, I, J, aP1 sl rd 56) = some (some (some (.int (bc (fo (sp1 (I 20) m) k s b)))), (g, aU I 12 1 1, aU J 13 0 (Int32.toInt64 (fo (sp1 (I 20) m) k s b)), aP1 sl rd 56)) := by
    intro k
    induction k with
    | zero =>
      intro s b hs
      obtain rfl : s = 2 ^ m - 1 := by omega
      rw [b136_12, if_pos (Int32.le_refl _), f83']
      simp only [aBv]
      rw [b136_58, f12]
      simp only [aBi]
      rw [b136_62]
      rfl
    | succ k ih =>
      intro s b hs
      rw [fo_1, b136_12, if_neg (nI_ge (by omega) (by omega)), f12]
      simp only [aBi]
      rw [b136_21, f12]
      simp only [aBi]
      rw [b136_25, nI_1]
      by_cases z1 : bc b ≤ bc (nI s)
      · rw [if_pos z1, show sp1 (I 20) m s b = b from if_neg (fun h => h.1 z1)]
        exact ih (s + 1) b (by omega)
      · rw [if_neg z1, f133 hm d1]
        simp only [aBi]
        rw [b136_37, nI_1]
        by_cases z2 : rtA (I 20) m (nI s) 0 = nI (2 ^ m - 1)
        · rw [if_pos z2, show sp1 (I 20) m s b = nI s from if_pos ⟨z1, z2⟩]
          exact ih (s + 1) _ (by omega)
        · rw [if_neg z2, show sp1 (I 20) m s b = b from if_neg (fun h => z2 h.2)]
          exact ih (s + 1) b (by omega)
  have lR : ∀ (I1 : Nat → Nat → Int32) (J1 : Nat → Nat → Int64), I1 46 4 = nI m → (∀ i, i < m → I1 50 (4 * i + 2) = I 20 i) → ∀ (k s : Nat) (b : Int32), s + k = 2 ^ m - 1 → aE d 266 12 [.ref 46, .int b, .int (nI s)] [] (g, I1, J1, aP1 sl rd 56) = some (some (some (.int (bc (fo (sp1 (I 20) m) k s b)))), (g, aU I1 46 12 1, aU J1 53 0 (Int32.toInt64 (fo (sp1 (I 20) m) k s b)), aP1 sl rd 56)) := by
    intro I1 J1 h4 h50 k
    have f267' : aF d 267 [.ref 46] (g, I1, J1, aP1 sl rd 56) = some (some (some (.int (nI (2 ^ m - 1)))), (g, I1, J1, aP1 sl rd 56)) := by rw [f267, h4, fN_n hm]
    induction k with
    | zero =>
      intro s b hs
      obtain rfl : s = 2 ^ m - 1 := by omega
      rw [b266_12, f267']
      simp only [aBi]
      rw [b266_17, if_pos (Int32.le_refl _), tell0]
      simp only [aBv]
      rw [b266_63, f12]
      simp only [aBi]
      rw [b266_67]
      rfl
    | succ k ih =>
      intro s b hs
      rw [fo_1, b266_12, f267']
      simp only [aBi]
      rw [b266_17, if_neg (nI_ge (by omega) (by omega)), f12]
      simp only [aBi]
      rw [b266_24, f12]
      simp only [aBi]
      rw [b266_28, nI_1]
      by_cases z1 : bc b ≤ bc (nI s)
      · rw [if_pos z1, show sp1 (I 20) m s b = b from if_neg (fun h => h.1 z1)]
        exact ih (s + 1) b (by omega)
      · rw [if_neg z1, f265 (nd := I 20) hm h4 h50 _ _ (not_m1 (by omega) 0)]
        simp only [aBi]
        rw [b266_37, f267']
        simp only [aBi]
        rw [b266_41, nI_1]
        by_cases z2 : rtA (I 20) m (nI s) 0 = nI (2 ^ m - 1)
        · rw [if_pos z2, show sp1 (I 20) m s b = nI s from if_pos ⟨z1, z2⟩]
          exact ih (s + 1) _ (by omega)
        · rw [if_neg z2, show sp1 (I 20) m s b = b from if_neg (fun h => z2 h.2)]
          exact ih (s + 1) b (by omega)
  refine tie_R (J1 := aU J 13 0 (Int32.toInt64 (fo (sp1 (I 20) m) (2 ^ m - 1) 0 (nI (2 ^ m - 1))))) (J2 := aU (aU J 13 0 (Int32.toInt64 (fo (sp1 (I 20) m) (2 ^ m - 1) 0 (nI (2 ^ m - 1))))) 53 0 (Int32.toInt64 (fo (sp1 (I 20) m) (2 ^ m - 1) 0 (nI (2 ^ m - 1))))) (rd2 := rd) H (Fr12 _ _) (FrT (aU I 12 1 1) 1).1 (FrT (aU I 12 1 1) 1).2 ?_ (Eq.trans ?_ (lC (2 ^ m - 1) 0 (nI (2 ^ m - 1)) (by omega))) (Eq.trans ?_ (lR (aU (aU I 12 1 1) 46 13 0) (aU J 13 0 (Int32.toInt64 (fo (sp1 (I 20) m) (2 ^ m - 1) 0 (nI (2 ^ m - 1))))) (by rw [aU_i _ _ (by decide), aU_r _ _ (by decide)]; exact d2) (fun i hi => by rw [aU_r _ _ (by decide), aU_r _ _ (by decide)]; exact (zQ_e H hi).2.2.1) (2 ^ m - 1) 0 (nI (2 ^ m - 1)) (by omega)))
  · refine zR_1 ?_ (aU_s _ _ _ _) ?_
    · simp (disch := decide) only [aU_r, aU_s]
    · simp (disch := decide) only [aU_r, aU_i, aU_s]
  · show aE d 136 0 [.ref 6, aNo, aNo, aNo] [] _ = _
    rw [b136_0, f131, d1, fN_n hm]
    simp only [aBi]
    rw [b136_7]
    rfl
  · show aE d 266 0 [.ref 46, aNo, aNo] [] _ = _
    rw [b266_0, f267, aU_i _ _ (by decide), aU_r _ _ (by decide), d2, fN_n hm]
    simp only [aBi]
    rw [b266_9]
    rfl
def wo1 (nd : Nat → Int32) (m : Nat) (a : Int32) (N : Int32) (s : Nat) (b : Int32) : Int32 := if ¬ bc b ≤ bc (nI s) ∧ ¬ N < bc (rtA nd m a (nI s)) then nI s else b
theorem tie_won (H : zInv t n m q I J) (a c : Int32) : tie d 137 268 [.int a, .int c] t g I J sl rd := by
  obtain ⟨hm, d1, d2, -⟩ := H.2.2.2.1
  have hp := pow8 hm
  have hp1 : 0 < 2 ^ m := Nat.pow_pos (by decide)
  have d2' : aU I 46 13 0 46 4 = nI m := by rw [aU_i _ _ (by decide)]; exact d2
  by_cases hx : ∃ k, k < 2 ^ m ∧ a = nI k
  · by_cases hy : c < 0 ∨ 8 < c
    · refine tie_0 (rd2 := rd) (v := -1) H (Fr_r _ _) (th_F _) (th_46 _) ?_ ?_
      · show aE d 137 0 [.ref 6, .int a, .int c, aNo, aNo, aNo, aNo] [] _ = _
        rw [b137_0, aq_c hm d1, decide_eq_true hx]
        simp only [aBi]
        rw [b137_8, if_neg (by decide)]
        rcases hy with hy | hy
        · rw [if_pos hy]
        · rw [if_neg (c := c ≤ 8) (by rw [nle_lt]; exact hy), ite_self]
      · show aE d 268 0 [.ref 46, .int a, .int c, aNo, aNo] [] _ = _
        rw [b268_0, aq_r hm d2', decide_eq_true hx]
        simp only [aBi]
        rw [b268_10, if_neg (by decide), f181, inI_f hy]
        simp only [aBi]
        rw [b268_20, if_pos rfl]
    have hx' := hx
    obtain ⟨k0, hk0, rfl⟩ := hx'
    have lC : ∀ (k s : Nat) (b : Int32) (w6 : Value), s + k = 2 ^ m - 1 → aE d 137 37 [.ref 6, .int (nI k0), .int c, .int (nI (2 ^ m - 1)), .int b, .int (nI s), w6] [] (g, I, J, aP1 sl rd 56) = some (some (some (.int (bc (fo (wo1 (I 20) m (nI k0) c) k s b)))), (g, aU I 12 1 1, aU J 13 0 (Int32.toInt64 (fo (wo1 (I 20) m (nI k0) c) k s b)), aP1 sl rd 56)) := by
      intro k
      induction k with
      | zero =>
        intro s b w6 hs
        obtain rfl : s = 2 ^ m - 1 := by omega
        rw [b137_37, if_pos (Int32.le_refl _), f83']
        simp only [aBv]
        rw [b137_105, f12]
        simp only [aBi]
        rw [b137_110]
        rfl
      | succ k ih =>
        intro s b w6 hs
        rw [fo_1, b137_37, if_neg (nI_ge (by omega) (by omega)), f12]
        simp only [aBi]
        rw [b137_48, f12]
        simp only [aBi]
        rw [b137_53, nI_1]
        by_cases z1 : bc b ≤ bc (nI s)
        · rw [if_pos z1, show wo1 (I 20) m (nI k0) c s b = b from if_neg (fun h => h.1 z1)]
          exact ih (s + 1) b _ (by omega)
        · rw [if_neg z1, f133 hm d1]
          simp only [aBi]
          rw [b137_78, f12]
          simp only [aBi]
          rw [b137_81, nI_1]
          by_cases z2 : c < bc (rtA (I 20) m (nI k0) (nI s))
          · rw [if_pos z2, show wo1 (I 20) m (nI k0) c s b = b from if_neg (fun h => h.2 z2)]
            exact ih (s + 1) b _ (by omega)
          · rw [if_neg z2, show wo1 (I 20) m (nI k0) c s b = nI s from if_pos ⟨z1, z2⟩]
            exact ih (s + 1) _ _ (by omega)
    have lR : ∀ (I1 : Nat → Nat → Int32) (J1 : Nat → Nat → Int64), I1 46 4 = nI m → (∀ i, i < m → I1 50 (4 * i + 2) = I 20 i) → ∀ (k s : Nat) (b : Int32), s + k = 2 ^ m - 1 → aE d 268 33 [.ref 46, .int (nI k0), .int c, .int b, .int (nI s)] [] (g, I1, J1, aP1 sl rd 56) = some (some (some (.int (bc (fo (wo1 (I 20) m (nI k0) c) k s b)))), (g, aU I1 46 12 1, aU J1 53 0 (Int32.toInt64 (fo (wo1 (I 20) m (nI k0) c) k s b)), aP1 sl rd 56)) := by
      intro I1 J1 h4 h50 k
      have f267' : aF d 267 [.ref 46] (g, I1, J1, aP1 sl rd 56) = some (some (some (.int (nI (2 ^ m - 1)))), (g, I1, J1, aP1 sl rd 56)) := by rw [f267, h4, fN_n hm]
      induction k with
      | zero =>
        intro s b hs
        obtain rfl : s = 2 ^ m - 1 := by omega
        rw [b268_33, f267']
        simp only [aBi]
        rw [b268_39, if_pos (Int32.le_refl _), tell0]
        simp only [aBv]
        rw [b268_88, f12]
        simp only [aBi]
        rw [b268_92]
        rfl
      | succ k ih =>
        intro s b hs
        rw [fo_1, b268_33, f267']
        simp only [aBi]
        rw [b268_39, if_neg (nI_ge (by omega) (by omega)), f12]
        simp only [aBi]
        rw [b268_47, f12]
        simp only [aBi]
        rw [b268_51, nI_1]
        by_cases z1 : bc b ≤ bc (nI s)
        · rw [if_pos z1, show wo1 (I 20) m (nI k0) c s b = b from if_neg (fun h => h.1 z1)]
          exact ih (s + 1) b (by omega)
        · rw [if_neg z1, f265 (nd := I 20) hm h4 h50 _ _ (not_m1 (by omega) _)]
          simp only [aBi]
          rw [b268_61, f12]
          simp only [aBi]
          rw [b268_64, nI_1]
          by_cases z2 : c < bc (rtA (I 20) m (nI k0) (nI s))
          · rw [if_pos z2, show wo1 (I 20) m (nI k0) c s b = b from if_neg (fun h => h.2 z2)]
            exact ih (s + 1) b (by omega)
          · rw [if_neg z2, show wo1 (I 20) m (nI k0) c s b = nI s from if_pos ⟨z1, z2⟩]
            exact ih (s + 1) _ (by omega)
    refine tie_R (J1 := aU J 13 0 (Int32.toInt64 (fo (wo1 (I 20) m (nI k0) c) (2 ^ m - 1) 0 (nI (2 ^ m - 1))))) (J2 := aU (aU J 13 0 (Int32.toInt64 (fo (wo1 (I 20) m (nI k0) c) (2 ^ m - 1) 0 (nI (2 ^ m - 1))))) 53 0 (Int32.toInt64 (fo (wo1 (I 20) m (nI k0) c) (2 ^ m - 1) 0 (nI (2 ^ m - 1))))) (rd2 := rd) H (Fr12 _ _) (FrT (aU I 12 1 1) 1).1 (FrT (aU I 12 1 1) 1).2 ?_ (Eq.trans ?_ (lC (2 ^ m - 1) 0 (nI (2 ^ m - 1)) aNo (by omega))) (Eq.trans ?_ (lR (aU (aU I 12 1 1) 46 13 0) (aU J 13 0 (Int32.toInt64 (fo (wo1 (I 20) m (nI k0) c) (2 ^ m - 1) 0 (nI (2 ^ m - 1))))) (by rw [aU_i _ _ (by decide), aU_r _ _ (by decide)]; exact d2) (fun i hi => by rw [aU_r _ _ (by decide), aU_r _ _ (by decide)]; exact (zQ_e H hi).2.2.1) (2 ^ m - 1) 0 (nI (2 ^ m - 1)) (by omega)))
    · refine zR_1 ?_ (aU_s _ _ _ _) ?_
      · simp (disch := decide) only [aU_r, aU_s]
      · simp (disch := decide) only [aU_r, aU_i, aU_s]
    · show aE d 137 0 [.ref 6, .int (nI k0), .int c, aNo, aNo, aNo, aNo] [] _ = _
      rw [b137_0, aq_c hm d1, decide_eq_true hx]
      simp only [aBi]
      rw [b137_8, if_neg (by decide), if_neg (fun h => hy (Or.inl h)), if_pos (Classical.byContradiction fun h => hy (Or.inr (by rw [← nle_lt]; exact h))), f131, d1, fN_n hm]
      simp only [aBi]
      rw [b137_30]
      rfl
    · show aE d 268 0 [.ref 46, .int (nI k0), .int c, aNo, aNo] [] _ = _
      have c4 : aU (aU I 12 1 1) 46 13 0 46 4 = nI m := by rw [aU_i _ _ (by decide), aU_r _ _ (by decide)]; exact d2
      rw [b268_0, aq_r hm c4, decide_eq_true hx]
      simp only [aBi]
      rw [b268_10, if_neg (by decide), f181, inI_t (fun h => hy (Or.inl h)) (fun h => hy (Or.inr h))]
      simp only [aBi]
      rw [b268_20, if_neg (by decide), f267, c4, fN_n hm]
      simp only [aBi]
      rw [b268_29]
      rfl
  · refine tie_0 (rd2 := rd) (v := -1) H (Fr_r _ _) (th_F _) (th_46 _) ?_ ?_
    · show aE d 137 0 [.ref 6, .int a, .int c, aNo, aNo, aNo, aNo] [] _ = _
      rw [b137_0, aq_c hm d1, decide_eq_false hx]
      simp only [aBi]
      rw [b137_8, if_pos tI_f]
    · show aE d 268 0 [.ref 46, .int a, .int c, aNo, aNo] [] _ = _
      rw [b268_0, aq_r hm d2', decide_eq_false hx]
      simp only [aBi]
      rw [b268_10, if_pos tI_f]
end T00
