/-! lots, bent: tied -/
variable {d : Nat} {g : Nat × Nat × Nat} {I : Nat → Nat → Int32} {J : Nat → Nat → Int64} {sl rd rl : Nat} {t n m q : Nat}
theorem lN_0 : lN 0 = (0 : Int64) := rfl
theorem lN_z {a : Nat} (h : a < 2 ^ 63) : (lN a = 0) = (a = 0) := propext (by rw [← lN_0]; exact pk_lEQ h (by decide))
theorem f143 (b k : Nat) (hb : b < 2 ^ 31) (hk : k < 2 ^ 30) : aF d 143 [.int (nI b), .int (nI k)] (g, I, J, aP1 sl rd rl) = some (some (some (.long (lN (b ^ k)))), (g, I, J, aP1 sl rd rl)) := by
  have l : ∀ (c j : Nat), j + c = k → aE d 143 5 [.int (nI b), .int (nI k), .long (lN (b ^ j)), aNo, .int (nI j)] [] (g, I, J, aP1 sl rd rl) = some (some (some (.long (lN (b ^ k)))), (g, I, J, aP1 sl rd rl)) := by
    intro c
    induction c with
    | zero => intro j hj; obtain rfl : j = k := by omega
              rw [b143_5, if_pos (Int32.le_refl _)]
    | succ c ih =>
      intro j hj
      rw [b143_5, if_neg (nI_ge (by omega) (by omega)), nI_l hb, lN_mul, nI_1, ← Nat.pow_succ]
      exact ih (j + 1) (by omega)
  show aE d 143 0 [.int (nI b), .int (nI k), aNo, aNo, aNo] [] _ = _
  rw [b143_0]
  exact l k 0 (by omega)
theorem f273 (b k : Nat) (hk : k < 2 ^ 30) : aF d 273 [.long (lN b), .int (nI k)] (g, I, J, aP1 sl rd rl) = some (some (some (.long (lN (b ^ k)))), (g, I, J, aP1 sl rd rl)) := by
  have l : ∀ (c j : Nat), j + c = k → aE d 273 5 [.long (lN b), aNo, .int (nI k), .long (lN (b ^ j)), aNo, .int (nI j)] [] (g, I, J, aP1 sl rd rl) = some (some (some (.long (lN (b ^ k)))), (g, I, J, aP1 sl rd rl)) := by
    intro c
    induction c with
    | zero => intro j hj; obtain rfl : j = k := by omega
              rw [b273_5, if_pos (Int32.le_refl _)]
    | succ c ih =>
      intro j hj
      rw [b273_5, if_neg (nI_ge (by omega) (by omega)), lN_mul, nI_1, ← Nat.pow_succ]
      exact ih (j + 1) (by omega)
  show aE d 273 0 [.long (lN b), aNo, .int (nI k), aNo, aNo, aNo] [] _ = _
  rw [b273_0]
  exact l k 0 (by omega)
def wyC (n k : Nat) (i : Nat) (w : Nat) : Nat := w * (n - k + i) / i
def wyR (n : Nat) (i : Nat) (w : Nat) : Nat := w * (n - i) / (i + 1)
theorem wy_eq : ∀ n, n ≤ 12 → ∀ k, k ≤ n → fo (wyC n k) k 1 1 = fo (wyR n) k 0 1 ∧ fo (wyR n) k 0 1 ≤ 924 := by decide +kernel
theorem f142 {n k : Nat} (hn : n ≤ 12) (hk : k ≤ n) : aF d 142 [.int (nI n), .int (nI k)] (g, I, J, aP1 sl rd rl) = some (some (some (.long (lN (fo (wyC n k) k 1 1)))), (g, I, J, aP1 sl rd rl)) := by
  have l : ∀ (c i w : Nat), i + c = k + 1 → 1 ≤ i → w ≤ 12 ^ i → aE d 142 5 [.int (nI n), .int (nI k), .long (lN w), aNo, .int (nI i)] [] (g, I, J, aP1 sl rd rl) = some (some (some (.long (lN (fo (wyC n k) c i w)))), (g, I, J, aP1 sl rd rl)) := by
    intro c
    induction c with
    | zero => intro i w hi _ _; obtain rfl : i = k + 1 := by omega
              rw [b142_5, if_pos (nI_lt (by omega) (by omega))]; rfl
    | succ c ih =>
      intro i w hi h1 hw
      have p12 : 12 ^ i ≤ 12 ^ 13 := Nat.pow_le_pow_right (by decide) (by omega)
      have e12 : (12 : Nat) ^ 13 = 106993205379072 := by decide
      have hb : w * (n - k + i) ≤ 12 ^ i * 12 := Nat.mul_le_mul hw (by omega)
      have e1 : nI n - nI k + nI i = nI (n - k + i) := by rw [pk_sub hk, nI_add]
      rw [fo_1, b142_5, if_neg (nI_nlt (by omega) (by omega)), nI_l (by omega), if_neg (by rw [lN_z (by omega)]; omega), e1, nI_l (by omega), lN_mul, pk_lDiv (by omega) (by omega) (by omega), nI_1]
      refine ih (i + 1) _ (by omega) (by omega) ?_
      rw [Nat.pow_succ]
      exact Nat.le_trans (Nat.div_le_self _ _) hb
  show aE d 142 0 [.int (nI n), .int (nI k), aNo, aNo, aNo] [] _ = _
  rw [b142_0]
  exact l k 1 1 (by omega) (by decide) (by decide)
theorem half {b r : Nat} (h : 0 < r) (h2 : r < b) {k : Nat} (hb : b < 2 ^ (k + 1)) : b % r < 2 ^ k := by
  have a := Nat.mod_lt b h
  have c : b % r + r ≤ b := by
    have := Nat.div_add_mod b r
    have : 1 ≤ b / r := (Nat.le_div_iff_mul_le h).mpr (by omega)
    have : r * 1 ≤ r * (b / r) := Nat.mul_le_mul_left r this
    omega
  rw [Nat.pow_succ] at hb
  omega
theorem gcd1 (a b : Nat) : Nat.gcd a b = Nat.gcd b (a % b) := by
  rw [Nat.gcd_comm, Nat.gcd_rec, Nat.gcd_comm]
theorem gcdC : ∀ (k a b j : Nat) (w0 w1 w2 w9 w10 : Value), b < 2 ^ k → a < 2 ^ 63 → b < 2 ^ 63 → j + 2 * k + 1 ≤ 200 → aE d 145 9 [w0, w1, w2, aNo, .long (lN a), aNo, .long (lN b), aNo, .int (nI j), w9, w10] [] (g, I, J, aP1 sl rd rl) = some (some (some (.long (lN (Nat.gcd a b)))), (g, I, J, aP1 sl rd rl)) := by
  have stop : ∀ (a j : Nat) (w0 w1 w2 w9 w10 : Value), aE d 145 9 [w0, w1, w2, aNo, .long (lN a), aNo, .long (lN 0), aNo, .int (nI j), w9, w10] [] (g, I, J, aP1 sl rd rl) = some (some (some (.long (lN (Nat.gcd a 0)))), (g, I, J, aP1 sl rd rl)) := by
    intro a j w0 w1 w2 w9 w10
    rw [b145_9, Nat.gcd_zero_right, if_pos (c := lg_cmp (lN 0) 0 = 0) ((lg_cmp_eq _ _).mpr rfl), ite_self]
  have step : ∀ (a b j : Nat) (w0 w1 w2 w9 w10 : Value), 0 < b → a < 2 ^ 63 → b < 2 ^ 63 → j < 200 → aE d 145 9 [w0, w1, w2, aNo, .long (lN a), aNo, .long (lN b), aNo, .int (nI j), w9, w10] [] (g, I, J, aP1 sl rd rl) = aE d 145 9 [w0, w1, w2, aNo, .long (lN b), aNo, .long (lN (a % b)), aNo, .int (nI (j + 1)), .long (lN (a % b)), aNo] [] (g, I, J, aP1 sl rd rl) := by
    intro a b j w0 w1 w2 w9 w10 hb ha hb2 hj
    have hz : ¬ lN b = 0 := by rw [lN_z hb2]; omega
    rw [b145_9, if_neg (show ¬ 200 ≤ nI j from nI_ge (b := 200) hj (by decide)), if_neg (fun h => hz ((lg_cmp_eq _ _).mp h)), if_neg hz, pk_lRem ha hb hb2, nI_1]
  intro k
  induction k with
  | zero =>
    intro a b j w0 w1 w2 w9 w10 hb ha hb2 hj
    obtain rfl : b = 0 := by omega
    exact stop a j w0 w1 w2 w9 w10
  | succ k ih =>
    intro a b j w0 w1 w2 w9 w10 hb ha hb2 hj
    by_cases h0 : b = 0
    · subst h0; exact stop a j w0 w1 w2 w9 w10
    · have hr := Nat.mod_lt a (show 0 < b by omega)
      rw [step a b j w0 w1 w2 w9 w10 (by omega) ha hb2 (by omega), gcd1 a b]
      by_cases h1 : a % b = 0
      · rw [h1]; exact stop b (j + 1) _ _ _ _ _
      · have hr2 := half (show 0 < a % b by omega) hr hb
        have := Nat.mod_lt b (show 0 < a % b by omega)
        rw [step b (a % b) (j + 1) _ _ _ _ _ (by omega) hb2 (by omega) (by omega), gcd1 b (a % b)]
        exact ih (a % b) (b % (a % b)) (j + 1 + 1) _ _ _ _ _ hr2 (by omega) (by omega) (by omega)
theorem f145 {a b : Nat} (ha : a < 2 ^ 63) (hb : b < 2 ^ 60) : aF d 145 [.long (lN a), .long (lN b)] (g, I, J, aP1 sl rd rl) = some (some (some (.long (lN (Nat.gcd a b)))), (g, I, J, aP1 sl rd rl)) := by
  show aE d 145 0 [.long (lN a), aNo, .long (lN b), aNo, aNo, aNo, aNo, aNo, aNo, aNo, aNo] [] _ = _
  rw [b145_0]
  exact gcdC 60 a b 0 _ _ _ _ _ hb ha (Nat.lt_trans hb (by decide)) (by decide)
theorem gcdR : ∀ (k a b e : Nat), b < 2 ^ k → a < 2 ^ 63 → b < 2 ^ 63 → 2 * k + 2 ≤ e → aF e 275 [.long (lN a), .long (lN b)] (g, I, J, aP1 sl rd rl) = some (some (some (.long (lN (Nat.gcd a b)))), (g, I, J, aP1 sl rd rl)) := by
  have stop : ∀ (a e : Nat), 1 ≤ e → aF e 275 [.long (lN a), .long (lN 0)] (g, I, J, aP1 sl rd rl) = some (some (some (.long (lN (Nat.gcd a 0)))), (g, I, J, aP1 sl rd rl)) := by
    intro a e he
    obtain ⟨e, rfl⟩ : ∃ e', e = e' + 1 := ⟨e - 1, by omega⟩
    show aE (e + 1) 275 0 [.long (lN a), aNo, .long (lN 0), aNo] [] _ = _
    rw [b275_0, if_pos (show lg_cmp (lN 0) 0 = 0 from (lg_cmp_eq _ _).mpr rfl), b275_17, Nat.gcd_zero_right]
  have step : ∀ (a b e : Nat), 0 < b → a < 2 ^ 63 → b < 2 ^ 63 → ∀ x : Int64, aF e 275 [.long (lN b), .long (lN (a % b))] (g, I, J, aP1 sl rd rl) = some (some (some (.long (x))), (g, I, J, aP1 sl rd rl)) → aF (e + 1) 275 [.long (lN a), .long (lN b)] (g, I, J, aP1 sl rd rl) = some (some (some (.long (x))), (g, I, J, aP1 sl rd rl)) := by
    intro a b e hb ha hb2 x hx
    have hz : ¬ lN b = 0 := by rw [lN_z hb2]; omega
    show aE (e + 1) 275 0 [.long (lN a), aNo, .long (lN b), aNo] [] _ = _
    rw [b275_0, if_neg (fun h => hz ((lg_cmp_eq _ _).mp h)), if_neg hz, pk_lRem ha hb hb2, hx]
    simp only [aBl]
    rw [b275_17]
  intro k
  induction k with
  | zero =>
    intro a b e hb ha hb2 he
    obtain rfl : b = 0 := by omega
    exact stop a e (by omega)
  | succ k ih =>
    intro a b e hb ha hb2 he
    by_cases h0 : b = 0
    · subst h0; exact stop a e (by omega)
    · obtain ⟨e, rfl⟩ : ∃ e', e = e' + 2 := ⟨e - 2, by omega⟩
      have hr := Nat.mod_lt a (show 0 < b by omega)
      rw [gcd1 a b]
      refine step a b (e + 1) (by omega) ha hb2 _ ?_
      by_cases h1 : a % b = 0
      · rw [h1]; exact stop b (e + 1) (by omega)
      · have hr2 := half (show 0 < a % b by omega) hr hb
        have := Nat.mod_lt b (show 0 < a % b by omega)
        rw [gcd1 b (a % b)]
        exact step b (a % b) e (by omega) hb2 (by omega) _ (ih (a % b) (b % (a % b)) e hr2 (by omega) (by omega) (by omega))
theorem f144 {a b : Nat} (ha : a < 2 ^ 62) (hb : b < 2 ^ 60) (h0 : 0 < b) : aF d 144 [.ref 6, .long (lN a), .long (lN b)] (g, I, J, aP1 sl rd rl) = some (some none, (g, aU I 12 1 2, aU (aU J 13 0 (lN (a / Nat.gcd a b))) 13 1 (lN (b / Nat.gcd a b)), aP1 sl rd rl)) := by
  have hg : 0 < Nat.gcd a b := Nat.gcd_pos_of_pos_right _ h0
  have hg2 : Nat.gcd a b ≤ b := Nat.gcd_le_right _ h0
  have hz : ¬ lN (Nat.gcd a b) = 0 := by rw [lN_z (by omega)]; omega
  show aE d 144 0 [.ref 6, .long (lN a), aNo, .long (lN b), aNo, aNo, aNo] [] _ = _
  rw [b144_0, f145 (by omega) hb]
  simp only [aBl]
  rw [b144_5, if_neg (by rw [lg_cmp_le, ← lN_0, pk_lLE (by omega) (by decide)]; omega), if_neg hz, if_neg hz, f82, pk_lDiv (by omega) hg (by omega), pk_lDiv (by omega) hg (by omega)]
  simp only [aBv]
  rw [b144_29]
theorem f274 {a b : Nat} (hd : 90 ≤ d) (ha : a < 2 ^ 62) (hb : b < 2 ^ 40) (h0 : 0 < b) : aF d 274 [.ref 46, .long (lN a), .long (lN b)] (g, I, J, aP1 sl rd rl) = some (some none, (g, aU I 46 12 2, aU (aU J 53 0 (lN (a / Nat.gcd a b))) 53 1 (lN (b / Nat.gcd a b)), aP1 sl rd rl)) := by
  have hg : 0 < Nat.gcd a b := Nat.gcd_pos_of_pos_right _ h0
  have hg2 : Nat.gcd a b ≤ b := Nat.gcd_le_right _ h0
  have hz : ¬ lN (Nat.gcd a b) = 0 := by rw [lN_z (by omega)]; omega
  show aE d 274 0 [.ref 46, .long (lN a), aNo, .long (lN b), aNo, aNo, aNo] [] _ = _
  rw [b274_0, gcdR 40 a b d hb (by omega) (by omega) (by omega)]
  simp only [aBl]
  rw [b274_5, if_neg hz, tell0]
  simp only [aBv]
  rw [b274_20, if_neg hz, tell1, pk_lDiv (by omega) hg (by omega), pk_lDiv (by omega) hg (by omega)]
  simp only [aBv]
  rw [b274_28]
theorem pw10 {b k : Nat} (hb : b ≤ 10) (hk : k ≤ 12) : b ^ k ≤ 10 ^ k := Nat.pow_le_pow_left hb k
theorem e10_12 : (10 : Nat) ^ 12 = 1000000000000 := by decide
theorem pp10 {p k n : Nat} (hp : p ≤ 10) (hk : k ≤ n) (hn : n ≤ 12) : p ^ k * (10 - p) ^ (n - k) ≤ 10 ^ n := by
  have a := Nat.mul_le_mul (Nat.pow_le_pow_left hp k) (Nat.pow_le_pow_left (show 10 - p ≤ 10 by omega) (n - k))
  rw [← Nat.pow_add, show k + (n - k) = n by omega] at a
  exact a
theorem p10_le {n : Nat} (hn : n ≤ 12) : 10 ^ n ≤ 1000000000000 := by
  rw [← e10_12]; exact Nat.pow_le_pow_right (by decide) hn
theorem rng2 {a lo hi : Int32} (h : ¬ a < lo) (h2 : ¬ hi < a) (hlo : 0 ≤ lo) {M : Nat} (hM : hi = nI M) (hM2 : M < 2 ^ 31) : ∃ N, N ≤ M ∧ a = nI N := by
  refine rngN hM hM2 (fun q => ?_)
  rcases q with q | q
  · apply h; rw [int_lt] at *; rw [int_le] at hlo; omega
  · exact h2 q
theorem tie_lots (hd : 90 ≤ d) (H : zInv t n m q I J) (a b c : Int32) : tie d 141 272 [.int a, .int b, .int c] t g I J sl rd := by
  by_cases hx : (a < 1 ∨ 12 < a) ∨ (b < 0 ∨ 12 < b) ∨ (c < 0 ∨ 10 < c)
  · refine tie_0 (rd2 := rd) (v := -1) H (Fr_r _ _) (th_F _) (th_46 _) ?_ ?_
    · show aE d 141 0 [.ref 6, .int a, .int b, .int c, aNo, aNo] [] _ = _
      rw [b141_0]
      rcases hx with (h | h) | (h | h) | (h | h)
      · rw [if_pos h]
      · rw [if_pos h, ite_self]
      · rw [if_pos h, ite_self, ite_self]
      · rw [if_pos h, ite_self, ite_self, ite_self]
      · rw [if_pos h, ite_self, ite_self, ite_self, ite_self]
      · rw [if_neg (c := c ≤ 10) (by rw [nle_lt]; exact h), ite_self, ite_self, ite_self, ite_self, ite_self]
    · show aE d 272 0 [.ref 46, .int a, .int b, .int c, aNo, aNo, aNo] [] _ = _
      rw [b272_0, f181]
      simp only [aBi]
      rw [b272_12]
      by_cases h1 : a < 1 ∨ 12 < a
      · rw [inI_f h1, if_pos rfl]
      · rw [inI_t (fun h => h1 (Or.inl h)) (fun h => h1 (Or.inr h)), if_neg (by decide), f181]
        simp only [aBi]
        rw [b272_22]
        by_cases h2 : b < 0 ∨ 12 < b
        · rw [inI_f h2, if_pos rfl]
        · rw [inI_t (fun h => h2 (Or.inl h)) (fun h => h2 (Or.inr h)), if_neg (by decide), f181]
          simp only [aBi]
          rw [b272_32, inI_f (by rcases hx with h | h | h; exact absurd h h1; exact absurd h h2; exact h), if_pos rfl]
  have x1 : ¬ a < 1 := fun h => hx (Or.inl (Or.inl h))
  have x2 : ¬ 12 < a := fun h => hx (Or.inl (Or.inr h))
  have x3 : ¬ b < 0 := fun h => hx (Or.inr (Or.inl (Or.inl h)))
  have x4 : ¬ 12 < b := fun h => hx (Or.inr (Or.inl (Or.inr h)))
  have x5 : ¬ c < 0 := fun h => hx (Or.inr (Or.inr (Or.inl h)))
  have x6 : ¬ 10 < c := fun h => hx (Or.inr (Or.inr (Or.inr h)))
  obtain ⟨A, hA, rfl⟩ := rng2 x1 x2 (by decide) (M := 12) rfl (by decide)
  obtain ⟨K, hK, rfl⟩ := rng2 x3 x4 (by decide) (M := 12) rfl (by decide)
  obtain ⟨P, hP, rfl⟩ := rng2 x5 x6 (by decide) (M := 10) rfl (by decide)
  have hA0 : 0 < 10 ^ A := Nat.pow_pos (by decide)
  have hA1 := p10_le hA
  have x6' : nI P ≤ 10 := nI_le (b := 10) hP (by decide)
  have s10 : (10 : Int32) - nI P = nI (10 - P) := pk_sub (a := 10) hP
  -- the reference's count of ways
  have lR : ∀ (I1 : Nat → Nat → Int32) (J1 : Nat → Nat → Int64) (c i w : Nat), i + c = K → w ≤ 12 ^ i → (A < i → w = 0) → aE d 272 43 [.ref 46, .int (nI A), .int (nI K), .int (nI P), .long (lN w), aNo, .int (nI i)] [] (g, I1, J1, aP1 sl rd 56) = aE d 272 43 [.ref 46, .int (nI A), .int (nI K), .int (nI P), .long (lN (fo (wyR A) c i w)), aNo, .int (nI K)] [] (g, I1, J1, aP1 sl rd 56) := by
    intro I1 J1 c
    induction c with
    | zero => intro i w hi _ _; obtain rfl : i = K := by omega
              rfl
    | succ c ih =>
      intro i w hi hw hz
      have p12 : 12 ^ i ≤ 12 ^ 12 := Nat.pow_le_pow_right (by decide) (by omega)
      have e12 : (12 : Nat) ^ 12 = 8916100448256 := by decide
      have hb : w * (A - i) ≤ 12 ^ i * 12 := Nat.mul_le_mul hw (by omega)
      have hm : lN w * Int32.toInt64 (nI A - nI i) = lN (w * (A - i)) := by
        by_cases h : i ≤ A
        · rw [pk_sub h, nI_l (by omega), lN_mul]
        · rw [hz (by omega), Nat.zero_mul, lN_0, Int64.zero_mul]
      have e1 : nI i + 1 = nI (i + 1) := nI_1 i
      rw [fo_1, b272_43, if_neg (nI_ge (by omega) (by omega)), e1, nI_l (by omega), if_neg (by rw [lN_z (by omega)]; omega), hm, pk_lDiv (by omega) (by omega) (by omega)]
      refine ih (i + 1) _ (by omega) ?_ ?_
      · rw [Nat.pow_succ]; exact Nat.le_trans (Nat.div_le_self _ _) hb
      · intro h
        show w * (A - i) / (i + 1) = 0
        by_cases h2 : A = i
        · subst h2; simp
        · rw [hz (by omega)]; simp
  have R0 : ∀ (I1 : Nat → Nat → Int32) (J1 : Nat → Nat → Int64), aF d 272 [.ref 46, .int (nI A), .int (nI K), .int (nI P)] (g, I1, J1, aP1 sl rd 56) = aE d 272 43 [.ref 46, .int (nI A), .int (nI K), .int (nI P), .long (lN (fo (wyR A) K 0 1)), aNo, .int (nI K)] [] (g, aU I1 46 13 0, J1, aP1 sl rd 56) := by
    intro I1 J1
    show aE d 272 0 [.ref 46, .int (nI A), .int (nI K), .int (nI P), aNo, aNo, aNo] [] _ = _
    rw [b272_0, f181, inI_t x1 x2]
    simp only [aBi]
    rw [b272_12, if_neg (by decide), f181, inI_t x3 x4]
    simp only [aBi]
    rw [b272_22, if_neg (by decide), f181, inI_t x5 x6]
    simp only [aBi]
    rw [b272_32, if_neg (by decide)]
    exact lR _ J1 K 0 1 (by omega) (by decide) (fun h => by omega)
  have C0 : aF d 141 [.ref 6, .int (nI A), .int (nI K), .int (nI P)] (g, I, J, aP1 sl rd 56) = if nI K ≤ nI A then aBl (aF d 142 [.int (nI A), .int (nI K)] (g, I, J, aP1 sl rd 56)) (fun x0 t0 => aE d 141 47 [.ref 6, .int (nI A), .int (nI K), .int (nI P), aNo, aNo] [.long x0] t0) else aBl (aF d 143 [.int 10, .int (nI A)] (g, I, J, aP1 sl rd 56)) (fun x1 t1 => aE d 141 75 [.ref 6, .int (nI A), .int (nI K), .int (nI P), .long 0, aNo] [.long x1, .long 0, .ref 6] t1) := by
    show aE d 141 0 [.ref 6, .int (nI A), .int (nI K), .int (nI P), aNo, aNo] [] _ = _
    rw [b141_0, if_neg x1, if_neg x2, if_neg x3, if_neg x4, if_neg x5, if_pos x6']
  have p10 : aF d 143 [.int 10, .int (nI A)] (g, I, J, aP1 sl rd 56) = some (some (some (.long (lN (10 ^ A)))), (g, I, J, aP1 sl rd 56)) := f143 10 A (by decide) (by omega)
  have r10 : ∀ (I1 : Nat → Nat → Int32) (J1 : Nat → Nat → Int64), aF d 273 [.long 10, .int (nI A)] (g, I1, J1, aP1 sl rd 56) = some (some (some (.long (lN (10 ^ A)))), (g, I1, J1, aP1 sl rd 56)) := fun I1 J1 => f273 10 A (by omega)
  -- told by both
  have fin : ∀ U, aF d 141 [.ref 6, .int (nI A), .int (nI K), .int (nI P)] (g, I, J, aP1 sl rd 56) = some (some (some (.int 0)), (g, aU I 12 1 2, aU (aU J 13 0 (lN (U / Nat.gcd U (10 ^ A)))) 13 1 (lN (10 ^ A / Nat.gcd U (10 ^ A))), aP1 sl rd 56)) → (∀ (I1 : Nat → Nat → Int32) (J1 : Nat → Nat → Int64), aF d 272 [.ref 46, .int (nI A), .int (nI K), .int (nI P)] (g, I1, J1, aP1 sl rd 56) = some (some (some (.int 0)), (g, aU (aU I1 46 13 0) 46 12 2, aU (aU J1 53 0 (lN (U / Nat.gcd U (10 ^ A)))) 53 1 (lN (10 ^ A / Nat.gcd U (10 ^ A))), aP1 sl rd 56))) → tie d 141 272 [.int (nI A), .int (nI K), .int (nI P)] t g I J sl rd := by
    intro U e1 e2
    have e2' := e2 (aU I 12 1 2) (aU (aU J 13 0 (lN (U / Nat.gcd U (10 ^ A)))) 13 1 (lN (10 ^ A / Nat.gcd U (10 ^ A))))
    refine tie_R H (Fr12 _ _) (FrT (aU I 12 1 2) 2).1 (FrT (aU I 12 1 2) 2).2 ?_ e1 e2'
    refine zR_2 ?_ (aU_s _ _ _ _) ?_ ?_
    · simp (disch := decide) only [aU_r, aU_s]
    · simp (disch := decide) only [aU_r, aU_i, aU_s]
    · simp (disch := decide) only [aU_r, aU_i, aU_s]
  by_cases hKA : K ≤ A
  · obtain ⟨w1, w2⟩ := wy_eq A hA K hKA
    have hpp := pp10 hP hKA hA
    have hU : fo (wyR A) K 0 1 * (P ^ K * (10 - P) ^ (A - K)) ≤ 924 * 1000000000000 := Nat.mul_le_mul w2 (Nat.le_trans hpp hA1)
    have hU2 : fo (wyR A) K 0 1 * P ^ K * (10 - P) ^ (A - K) < 2 ^ 62 := by rw [Nat.mul_assoc]; omega
    refine fin (fo (wyR A) K 0 1 * P ^ K * (10 - P) ^ (A - K)) ?_ ?_
    · rw [C0, if_pos (nI_le hKA (by omega)), f142 hA hKA, w1]
      simp only [aBl]
      rw [b141_47, f143 P K (by omega) (by omega)]
      simp only [aBl]
      rw [b141_52, s10, pk_sub hKA, f143 (10 - P) (A - K) (by omega) (by omega), lN_mul]
      simp only [aBl]
      rw [b141_63, p10, lN_mul]
      simp only [aBl]
      rw [b141_75, f144 hU2 (by omega) hA0]
      simp only [aBv]
      rw [b141_78]
    · intro I1 J1
      rw [R0, b272_43, if_pos (Int32.le_refl _), if_pos (nI_le hKA (by omega)), nI_l (by omega), f273 P K (by omega)]
      simp only [aBl]
      rw [b272_89, s10, nI_l (by omega), pk_sub hKA, f273 (10 - P) (A - K) (by omega), lN_mul]
      simp only [aBl]
      rw [b272_101, r10, lN_mul]
      simp only [aBl]
      rw [b272_109, f274 hd hU2 (by omega) hA0]
      simp only [aBv]
      rw [b272_112]
  · have z144 := f144 (d := d) (g := g) (I := I) (J := J) (sl := sl) (rd := rd) (rl := 56) (a := 0) (b := 10 ^ A) (by decide) (by omega) hA0
    refine fin 0 ?_ ?_
    · rw [C0, if_neg (nI_ge (by omega) (by omega)), p10]
      simp only [aBl]
      rw [b141_75, show (0 : Int64) = lN 0 from rfl, z144]
      simp only [aBv]
      rw [b141_78]
    · intro I1 J1
      rw [R0, b272_43, if_pos (Int32.le_refl _), if_neg (nI_ge (by omega) (by omega)), r10]
      simp only [aBl]
      rw [b272_109, show (0 : Int64) = lN 0 from rfl, f274 hd (by decide) (by omega) hA0]
      simp only [aBv]
      rw [b272_112]
theorem tie_bent (hd : 90 ≤ d) (H : zInv t n m q I J) (a b c e : Int32) : tie d 146 276 [.int a, .int b, .int c, .int e] t g I J sl rd := by
  by_cases hx : (a < 0 ∨ 10 < a) ∨ (b < 0 ∨ 10 < b) ∨ (c < 0 ∨ 10 < c) ∨ (e < 0 ∨ c < e)
  · refine tie_0 (rd2 := rd) (v := -1) H (Fr_r _ _) (th_F _) (th_46 _) ?_ ?_
    · show aE d 146 0 [.ref 6, .int a, .int b, .int c, .int e, aNo, aNo, aNo, aNo] [] _ = _
      rw [b146_0]
      rcases hx with (h | h) | (h | h) | (h | h) | (h | h)
      · rw [if_pos h]
      · rw [if_pos h, ite_self]
      · rw [if_pos h, ite_self, ite_self]
      · rw [if_pos h, ite_self, ite_self, ite_self]
      · rw [if_pos h, ite_self, ite_self, ite_self, ite_self]
      · rw [if_pos h, ite_self, ite_self, ite_self, ite_self, ite_self]
      · rw [if_pos h, ite_self, ite_self, ite_self, ite_self, ite_self, ite_self]
      · rw [if_neg (c := e ≤ c) (by rw [nle_lt]; exact h), ite_self, ite_self, ite_self, ite_self, ite_self, ite_self, ite_self]
    · show aE d 276 0 [.ref 46, .int a, .int b, .int c, .int e, aNo, aNo, aNo, aNo] [] _ = _
      rw [b276_0, f181]
      simp only [aBi]
      rw [b276_12]
      by_cases h1 : a < 0 ∨ 10 < a
      · rw [inI_f h1, if_pos rfl]
      · rw [inI_t (fun h => h1 (Or.inl h)) (fun h => h1 (Or.inr h)), if_neg (by decide), f181]
        simp only [aBi]
        rw [b276_22]
        by_cases h2 : b < 0 ∨ 10 < b
        · rw [inI_f h2, if_pos rfl]
        · rw [inI_t (fun h => h2 (Or.inl h)) (fun h => h2 (Or.inr h)), if_neg (by decide), f181]
          simp only [aBi]
          rw [b276_32]
          by_cases h3 : c < 0 ∨ 10 < c
          · rw [inI_f h3, if_pos rfl]
          · rw [inI_t (fun h => h3 (Or.inl h)) (fun h => h3 (Or.inr h)), if_neg (by decide), f181]
            simp only [aBi]
            rw [b276_42, inI_f (by rcases hx with h | h | h | h; exact absurd h h1; exact absurd h h2; exact absurd h h3; exact h), if_pos rfl]
  have x1 : ¬ a < 0 := fun h => hx (Or.inl (Or.inl h))
  have x2 : ¬ 10 < a := fun h => hx (Or.inl (Or.inr h))
  have x3 : ¬ b < 0 := fun h => hx (Or.inr (Or.inl (Or.inl h)))
  have x4 : ¬ 10 < b := fun h => hx (Or.inr (Or.inl (Or.inr h)))
  have x5 : ¬ c < 0 := fun h => hx (Or.inr (Or.inr (Or.inl (Or.inl h))))
  have x6 : ¬ 10 < c := fun h => hx (Or.inr (Or.inr (Or.inl (Or.inr h))))
  have x7 : ¬ e < 0 := fun h => hx (Or.inr (Or.inr (Or.inr (Or.inl h))))
  have x8 : ¬ c < e := fun h => hx (Or.inr (Or.inr (Or.inr (Or.inr h))))
  obtain ⟨Q, hQ, rfl⟩ := rng2 x1 x2 (by decide) (M := 10) rfl (by decide)
  obtain ⟨P, hP, rfl⟩ := rng2 x3 x4 (by decide) (M := 10) rfl (by decide)
  obtain ⟨A, hA, rfl⟩ := rng2 x5 x6 (by decide) (M := 10) rfl (by decide)
  obtain ⟨K, hK, rfl⟩ := rng2 x7 x8 (by decide) (M := A) rfl (by omega)
  have x8' : nI K ≤ nI A := nI_le hK (by omega)
  have s10 : (10 : Int32) - nI P = nI (10 - P) := pk_sub (a := 10) hP
  have s10q : (10 : Int32) - nI Q = nI (10 - Q) := pk_sub (a := 10) hQ
  have hpp := pp10 hP hK (show A ≤ 12 by omega)
  have hA1 : 10 ^ A ≤ 10000000000 := by
    have : (10 : Nat) ^ 10 = 10000000000 := by decide
    rw [← this]; exact Nat.pow_le_pow_right (by decide) hA
  have h5 : 5 ^ A ≤ 9765625 := by
    have : (5 : Nat) ^ 10 = 9765625 := by decide
    rw [← this]; exact Nat.pow_le_pow_right (by decide) hA
  generalize hU : Q * P ^ K * (10 - P) ^ (A - K) = U
  have hU1 : U ≤ 100000000000 := by
    rw [← hU, Nat.mul_assoc]
    exact Nat.le_trans (Nat.mul_le_mul hQ (Nat.le_trans hpp hA1)) (by decide)
  generalize hV : U + (10 - Q) * 5 ^ A = V
  have hV1 : V ≤ 200000000000 := by
    rw [← hV]
    have : (10 - Q) * 5 ^ A ≤ 10 * 9765625 := Nat.mul_le_mul (by omega) h5
    omega
  have C0 : aF d 146 [.ref 6, .int (nI Q), .int (nI P), .int (nI A), .int (nI K)] (g, I, J, aP1 sl rd 56) = if lg_cmp (lN V) 0 = 0 then some (some (some (.int (-2))), (g, I, J, aP1 sl rd 56)) else aBv (aF d 144 [.ref 6, .long (lN U), .long (lN V)] (g, I, J, aP1 sl rd 56)) (fun t0 => aE d 146 100 [.ref 6, .int (nI Q), .int (nI P), .int (nI A), .int (nI K), .long (lN U), aNo, .long (lN V), aNo] [] t0) := by
    show aE d 146 0 [.ref 6, .int (nI Q), .int (nI P), .int (nI A), .int (nI K), aNo, aNo, aNo, aNo] [] _ = _
    have p5 : aF d 143 [.int 5, .int (nI A)] (g, I, J, aP1 sl rd 56) = some (some (some (.long (lN (5 ^ A)))), (g, I, J, aP1 sl rd 56)) := f143 5 A (by decide) (by omega)
    rw [b146_0, if_neg x1, if_neg x2, if_neg x3, if_neg x4, if_neg x5, if_neg x6, if_neg x7, if_pos x8', f143 P K (by omega) (by omega)]
    simp only [aBl]
    rw [b146_51, s10, pk_sub hK, f143 (10 - P) (A - K) (by omega) (by omega), nI_l (by omega), lN_mul]
    simp only [aBl]
    rw [b146_63, p5, lN_mul, hU, s10q, nI_l (by omega)]
    simp only [aBl]
    rw [b146_78, lN_mul, lN_add, hV]
  have R0 : ∀ (I1 : Nat → Nat → Int32) (J1 : Nat → Nat → Int64), aF d 276 [.ref 46, .int (nI Q), .int (nI P), .int (nI A), .int (nI K)] (g, I1, J1, aP1 sl rd 56) = if lg_cmp (lN V) 0 = 0 then some (some (some (.int (-2))), (g, aU I1 46 13 0, J1, aP1 sl rd 56)) else aBv (aF d 274 [.ref 46, .long (lN U), .long (lN V)] (g, aU I1 46 13 0, J1, aP1 sl rd 56)) (fun t0 => aE d 276 108 [.ref 46, .int (nI Q), .int (nI P), .int (nI A), .int (nI K), .long (lN U), aNo, .long (lN V), aNo] [] t0) := by
    intro I1 J1
    have p5 : aF d 273 [.long 5, .int (nI A)] (g, aU I1 46 13 0, J1, aP1 sl rd 56) = some (some (some (.long (lN (5 ^ A)))), (g, aU I1 46 13 0, J1, aP1 sl rd 56)) := f273 5 A (by omega)
    show aE d 276 0 [.ref 46, .int (nI Q), .int (nI P), .int (nI A), .int (nI K), aNo, aNo, aNo, aNo] [] _ = _
    rw [b276_0, f181, inI_t x1 x2]
    simp only [aBi]
    rw [b276_12, if_neg (by decide), f181, inI_t x3 x4]
    simp only [aBi]
    rw [b276_22, if_neg (by decide), f181, inI_t x5 x6]
    simp only [aBi]
    rw [b276_32, if_neg (by decide), f181, inI_t x7 x8]
    simp only [aBi]
    rw [b276_42, if_neg (by decide), nI_l (by omega), f273 P K (by omega)]
    simp only [aBl]
    rw [b276_56, s10, nI_l (by omega), pk_sub hK, f273 (10 - P) (A - K) (by omega), nI_l (by omega), lN_mul]
    simp only [aBl]
    rw [b276_69, p5, lN_mul, hU, s10q, nI_l (by omega)]
    simp only [aBl]
    rw [b276_86, lN_mul, lN_add, hV]
  by_cases h0 : V = 0
  · have hz : lg_cmp (lN V) 0 = 0 := by rw [h0]; exact (lg_cmp_eq _ _).mpr rfl
    exact tie_0 (rd2 := rd) (v := -2) H (Fr_r _ _) (th_F _) (th_46 _) (C0.trans (if_pos hz)) ((R0 I J).trans (if_pos hz))
  · have hz : ¬ lg_cmp (lN V) 0 = 0 := by rw [lg_cmp_eq, lN_z (by omega)]; exact h0
    rw [if_neg hz, f144 (by omega) (by omega) (by omega)] at C0
    simp only [aBv] at C0
    rw [b146_100] at C0
    have e2 := R0 (aU I 12 1 2) (aU (aU J 13 0 (lN (U / Nat.gcd U V))) 13 1 (lN (V / Nat.gcd U V)))
    rw [if_neg hz, f274 hd (by omega) (by omega) (by omega)] at e2
    simp only [aBv] at e2
    rw [b276_108] at e2
    refine tie_R H (Fr12 _ _) (FrT (aU I 12 1 2) 2).1 (FrT (aU I 12 1 2) 2).2 ?_ C0 e2
    refine zR_2 ?_ (aU_s _ _ _ _) ?_ ?_
    · simp (disch := decide) only [aU_r, aU_s]
    · simp (disch := decide) only [aU_r, aU_i, aU_s]
    · simp (disch := decide) only [aU_r, aU_i, aU_s]
