/-! bits (the first rows: from the kit, BITS.to-paste) -/
def bt (x : Int32) (i : Nat) : Bool := x.toBitVec.getLsbD i
theorem b_ext {x y : Int32} (h : ∀ i, i < 32 → bt x i = bt y i) : x = y := Int32.toBitVec_inj.mp (BitVec.eq_of_getLsbD_eq (fun i hi => h i hi))
theorem b_or (x y : Int32) (i : Nat) : bt (x ||| y) i = (bt x i || bt y i) := by unfold bt; rw [Int32.toBitVec_or, BitVec.getLsbD_or]
theorem b_and (x y : Int32) (i : Nat) : bt (x &&& y) i = (bt x i && bt y i) := by unfold bt; rw [Int32.toBitVec_and, BitVec.getLsbD_and]
theorem b_xor (x y : Int32) (i : Nat) : bt (x ^^^ y) i = (bt x i ^^ bt y i) := by unfold bt; rw [Int32.toBitVec_xor, BitVec.getLsbD_xor]
theorem b_big {x : Int32} {i : Nat} (h : 32 ≤ i) : bt x i = false := BitVec.getLsbD_of_ge _ _ h
theorem b_255 (i : Nat) : bt 255 i = decide (i < 8) := by
  rcases Nat.lt_or_ge i 32 with h | h
  · exact (by decide +kernel : ∀ i, i < 32 → bt 255 i = decide (i < 8)) i h
  · rw [b_big h, decide_eq_false (by omega)]
theorem b_65535 (i : Nat) : bt 65535 i = decide (i < 16) := by
  rcases Nat.lt_or_ge i 32 with h | h
  · exact (by decide +kernel : ∀ i, i < 32 → bt 65535 i = decide (i < 16)) i h
  · rw [b_big h, decide_eq_false (by omega)]
theorem b_m1 : ∀ i, i < 32 → bt (-1) i = true := by decide +kernel
theorem b_0 (i : Nat) : bt 0 i = false := BitVec.getLsbD_zero
theorem s_l : ∀ n, n < 32 → ((nI n &&& 31).toBitVec.smod 32).toNat = n := by decide +kernel
theorem s_u : ∀ n, n < 32 → (((nI n).toUInt32 &&& Int32.toUInt32 31).toBitVec % 32).toNat = n := by decide +kernel
theorem b_shl (n : Nat) (hn : n < 32) (x : Int32) {i : Nat} (hi : i < 32) : bt (x <<< (nI n &&& 31)) i = (decide (n ≤ i) && bt x (i - n)) := by
  unfold bt
  rw [Int32.toBitVec_shiftLeft]
  show (x.toBitVec <<< ((nI n &&& 31).toBitVec.smod 32).toNat).getLsbD i = _
  rw [s_l n hn, BitVec.getLsbD_shiftLeft]
  rcases Nat.lt_or_ge i n with h | h
  · simp [h, Nat.not_le.mpr h]
  · simp [hi, h, Nat.not_lt.mpr h]
theorem b_ushr (n : Nat) (hn : n < 32) (x : Int32) (i : Nat) : bt ((x.toUInt32 >>> ((nI n).toUInt32 &&& Int32.toUInt32 31)).toInt32) i = bt x (n + i) := by
  show (x.toUInt32 >>> ((nI n).toUInt32 &&& Int32.toUInt32 31)).toBitVec.getLsbD i = x.toUInt32.toBitVec.getLsbD (n + i)
  rw [UInt32.toBitVec_shiftRight]
  show (x.toUInt32.toBitVec >>> (((nI n).toUInt32 &&& Int32.toUInt32 31).toBitVec % 32).toNat).getLsbD i = _
  rw [s_u n hn, BitVec.getLsbD_ushiftRight]
theorem b_sshr (n : Nat) (hn : n < 32) (x : Int32) {i : Nat} (hi : i < 32) : bt (x >>> (nI n &&& 31)) i = if n + i < 32 then bt x (n + i) else bt x 31 := by
  unfold bt
  rw [Int32.toBitVec_shiftRight]
  show (x.toBitVec.sshiftRight ((nI n &&& 31).toBitVec.smod 32).toNat).getLsbD i = _
  rw [s_l n hn, BitVec.getLsbD_sshiftRight, BitVec.msb_eq_getLsbD_last]
  simp [hi]
theorem b_1 : ∀ i, i < 32 → bt 1 i = decide (i = 0) := by decide +kernel
theorem b_bit {j i : Nat} (hj : j < 32) (hi : i < 32) : bt (bit j) i = decide (i = j) := by
  unfold bit
  rw [b_shl j hj 1 hi, b_1 _ (by omega)]
  by_cases h : i = j
  · subst h; simp
  · simp only [h, decide_false, Bool.and_eq_false_iff, decide_eq_false_iff_not]; omega
theorem b_not (x : Int32) {i : Nat} (hi : i < 32) : bt (x ^^^ (-1)) i = !bt x i := by
  rw [b_xor, b_m1 i hi]; cases bt x i <;> rfl
theorem hasT_bt (x : Int32) {i : Nat} (hi : i < 32) : hasT x (nI i) = bt x i := by
  have e : ((x >>> (nI i &&& 31)) &&& 1) = if bt x i then 1 else 0 := by
    refine b_ext (fun k hk => ?_)
    rw [b_and, b_sshr i hi x hk, b_1 k hk]
    by_cases h : k = 0
    · subst h; simp only [Nat.add_zero, hi, if_true]; cases bt x i <;> simp [b_0, b_1]
    · simp only [h, decide_false, Bool.and_false]
      cases bt x i
      · exact (b_0 k).symm
      · rw [if_pos rfl, b_1 k hk]; simp [h]
  unfold hasT hasI
  rw [e]
  cases bt x i <;> decide
theorem b_eq {x y : Int32} (h : ∀ i, i < 32 → bt x i = bt y i) : x = y := b_ext h
theorem b_bs {p : Nat → Bool} {n i : Nat} (hn : n ≤ 32) (hi : i < 32) : bt (bs p n) i = (decide (i < n) && p i) := by
  have h := fo_inv (P := fun j acc => ∀ i, i < 32 → bt acc i = (decide (i < j) && p i)) (f := fun i acc => if p i then acc ||| bit i else acc) n 0 0 (fun i hi => by rw [b_0]; simp) (fun j a _ h2 hp i hi => by
    by_cases hj : p j = true
    · rw [if_pos hj, b_or, hp i hi, b_bit (by omega) hi]
      by_cases hij : i = j
      · subst hij; simp [hj]
      · simp only [hij, decide_false, Bool.or_false]
        congr 1
        exact decide_eq_decide.mpr (by omega)
    · rw [if_neg hj, hp i hi]
      by_cases hij : i = j
      · subst hij; simp [hj]
      · congr 1
        exact decide_eq_decide.mpr (by omega))
  rw [Nat.zero_add] at h
  exact h i hi
