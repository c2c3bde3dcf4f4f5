/-! rows of a state, and what is done to them -/
variable {d : Nat} {g : Nat × Nat × Nat} {I : Nat → Nat → Int32} {J : Nat → Nat → Int64} {sl rd rl : Nat}
def aR {α : Type} (f : Nat → Nat → α) (a : Nat) (r : Nat → α) : Nat → Nat → α := fun b => if b = a then r else f b
theorem aR_s {α : Type} (f : Nat → Nat → α) (a : Nat) (r : Nat → α) : aR f a r a = r := if_pos rfl
theorem aR_r {α : Type} (f : Nat → Nat → α) {a b : Nat} (r : Nat → α) (h : b ≠ a) : aR f a r b = f b := if_neg h
theorem aR_u {α : Type} (f : Nat → Nat → α) (a : Nat) (r r' : Nat → α) : aR (aR f a r) a r' = aR f a r' := by
  funext b; unfold aR; split <;> rfl
theorem aR_i {α : Type} (f : Nat → Nat → α) (a : Nat) : aR f a (f a) = f := by
  funext b; unfold aR; split
  · rename_i h; rw [h]
  · rfl
theorem aR_c {α : Type} (f : Nat → Nat → α) {a b : Nat} (r r' : Nat → α) (h : a ≠ b) : aR (aR f a r) b r' = aR (aR f b r') a r := by
  funext c; unfold aR
  by_cases h1 : c = a
  · subst h1; simp [h]
  · by_cases h2 : c = b <;> simp [h1, h2, Ne.symm h]
theorem aU_R (f : Nat → Nat → Int32) (a i : Nat) (v : Int32) : aU f a i v = aR f a (upd (f a) i v) := by
  funext b j; unfold aU aR upd
  split
  · rename_i h; rw [h]
  · rfl
theorem upd_s (f : Nat → Int32) (k : Nat) (x : Int32) : upd f k x k = x := if_pos rfl
theorem upd_n (f : Nat → Int32) {k j : Nat} (x : Int32) (h : j ≠ k) : upd f k x j = f j := if_neg h
theorem upd_u (f : Nat → Int32) (k : Nat) (x y : Int32) : upd (upd f k x) k y = upd f k y := by
  funext j; unfold upd; split <;> rfl
theorem upd_c (f : Nat → Int32) {k l : Nat} (x y : Int32) (h : k ≠ l) : upd (upd f k x) l y = upd (upd f l y) k x := by
  funext j; unfold upd
  by_cases h1 : j = k
  · subst h1; simp [h]
  · by_cases h2 : j = l <;> simp [h1, h2, Ne.symm h]
theorem nI_1m {c : Nat} (h : c < 2) : 1 - nI c = nI (1 - c) := pk_sub (a := 1) (by omega)
theorem i0add (x : Int32) : 0 + x = x := Int32.zero_add x
def mn9 (x : Int32) : Int32 := if x < 9999 then x else 9999
def cl9 (x : Int32) : Int32 := if 0 < (if x < 999 then x else 999) then (if x < 999 then x else 999) else 0
def adM (f : Nat → Int32) (c : Nat) (v : Int32) : Nat → Int32 := upd f c (mn9 (f c + v))
def adA (f : Nat → Int32) (c : Nat) (v : Int32) : Nat → Int32 := upd f (2 + c) (cl9 (f (2 + c) + v))
def cBuy (f : Nat → Int32) (c i : Nat) (p : Int32) : Nat → Int32 := upd (adM (adM f c (-p)) (1 - c) p) (8 + i) (nI c)
def cHex (f : Nat → Int32) (c i : Nat) : Nat → Int32 := upd (adM f c (-5)) 7 (f 7 ||| bit i)
def cDig (f : Nat → Int32) (c i : Nat) : Nat → Int32 := upd (adM f c (-3)) 7 (f 7 &&& (bit i ^^^ (-1)))
def cSide (f : Nat → Int32) (q b : Nat) (x y : Int32) : Nat → Int32 := upd (adA (adA f 0 x) 1 y) (24 + q) (nI b)
def rBuy (f : Nat → Int32) (c i : Nat) (p : Int32) : Nat → Int32 := upd (adM (upd f c (f c - p)) (1 - c) p) (6 + i) (nI c)
def rHex (f : Nat → Int32) (c i : Nat) : Nat → Int32 := upd (upd f c (f c - 5)) (14 + i) 1
def rDig (f : Nat → Int32) (c i : Nat) : Nat → Int32 := upd (upd f c (f c - 3)) (14 + i) 0
def rSide (f : Nat → Int32) (q b : Nat) (x y : Int32) : Nat → Int32 := adA (adA (upd f (30 + q) (nI b)) 0 x) 1 y
/-- both angers at the limit -/
def jn (f : Nat → Int32) (l : Int32) : Bool := !decide (f 2 < l) && !decide (f 3 < l)
theorem jn_c (f : Nat → Int32) (l : Int32) : (if (if f 3 < f 2 then f 3 else f 2) < l then (0 : Int32) else 1) = tI (jn f l) := by
  unfold jn tI
  simp only [Int32.lt_iff_toInt_lt]
  (repeat' split) <;> first | rfl | (simp_all; try omega)
theorem jn_r (f : Nat → Int32) (l : Int32) : (if f 2 < l then (0 : Int32) else if f 3 < l then 0 else 1) = tI (jn f l) := by
  unfold jn tI
  (repeat' split) <;> first | rfl | simp_all
theorem tIif (b : Bool) (τ : aS) : (if tI b = 0 then (some (some (some (Value.int 0)), τ) : Option aO) else some (some (some (Value.int 1)), τ)) = some (some (some (Value.int (tI b))), τ) := by cases b <;> rfl
theorem n10 : ((1 : Int32) = 0) = False := by decide
theorem isC_n {c : Nat} (h : c < 2) : isC (nI c) = 1 := by
  rcases (by omega : c = 0 ∨ c = 1) with rfl | rfl <;> rfl
theorem isC_ix (c : Int32) : (isC c = 0) ∨ ∃ k, k < 2 ∧ c = nI k := by
  unfold isC
  by_cases h0 : c = 0
  · exact Or.inr ⟨0, by decide, h0⟩
  · by_cases h1 : c = 1
    · exact Or.inr ⟨1, by decide, h1⟩
    · exact Or.inl (by rw [if_neg h0, if_neg h1])
/-- no such: below 0, or from n on -/
def noI (x : Int32) (n : Nat) : Prop := x < 0 ∨ nI n ≤ x
theorem noI_ix (x : Int32) {n : Nat} (hn : n ≤ 8) : noI x n ∨ ∃ i, i < n ∧ x = nI i := by
  rcases pk_ix x (by omega : n < 2 ^ 31) with h | h | h
  · exact Or.inl (Or.inl h)
  · exact Or.inl (Or.inr h)
  · exact Or.inr h
theorem noI_c {x : Int32} {n : Nat} (h : noI x n) : (if x < 0 then (0 : Int32) else if nI n ≤ x then 0 else 1) = 0 := by
  rcases h with h | h
  · rw [if_pos h]
  · rw [if_pos h]; split <;> rfl
theorem noI_r {x : Int32} {n : Nat} (hn : n ≤ 8) (h : noI x n) : inI x 0 (nI n - 1) = 0 := by
  unfold inI
  rcases h with h | h
  · rw [if_pos h]
  · split
    · rfl
    · rw [if_pos]
      have h2 : (nI n - 1).toInt = (n : Int) - 1 := by
        rcases (by omega : n = 0 ∨ n = 1 ∨ n = 2 ∨ n = 3 ∨ n = 4 ∨ n = 5 ∨ n = 6 ∨ n = 7 ∨ n = 8) with rfl | rfl | rfl | rfl | rfl | rfl | rfl | rfl | rfl <;> rfl
      have h3 : (nI n).toInt = (n : Int) := by
        rcases (by omega : n = 0 ∨ n = 1 ∨ n = 2 ∨ n = 3 ∨ n = 4 ∨ n = 5 ∨ n = 6 ∨ n = 7 ∨ n = 8) with rfl | rfl | rfl | rfl | rfl | rfl | rfl | rfl | rfl <;> rfl
      rw [Int32.lt_iff_toInt_lt, h2]
      rw [Int32.le_iff_toInt_le, h3] at h
      omega
theorem isI_r {i n : Nat} (hn : n ≤ 8) (h : i < n) : inI (nI i) 0 (nI n - 1) = 1 := by
  unfold inI
  rw [show nI n - 1 = nI (n - 1) from pk_sub (b := 1) (by omega)]
  rw [if_neg (by simp (disch := omega) only [nIneg, not_false_eq_true]), if_neg (by simp (disch := omega) only [nIlt_f, not_false_eq_true])]
theorem f76_24 {c : Nat} (h : c < 2) (v : Int32) : aF d 76 [.ref 23, .int (nI c), .int v] (g, I, J, aP1 sl rd rl) = some (some none, (g, aR I 24 (adM (I 24) c v), J, aP1 sl rd rl)) := by
  show aE d 76 0 [.ref 23, .int (nI c), .int v] [] _ = _
  simp (disch := omega) only [b76_0, i0add, aU_R, aBi, aBv, aBl, nI_1, nIle_t, nIle_f, nIlt_t, nIlt_f, nIeq_t, nIeq_f, nIneg, nI_clamp, nat_le_f, nat_le_t, nat_lt_f, nat_lt_t, or_self, or_false, false_or, if_true, if_false, ↓reduceIte, Int32.or_zero, Int32.add_zero, nIm2, nIm3, nIm4, nIp2, nIp4, nIp6, nIp8, nIp14, nIp16, nIp22, nIp24, nIp30, nIq2, nIq3, nIq4, hasI_0, aU_s, aU_i, aU_r, aU_u]
  rfl
theorem f77_24 {c : Nat} (h : c < 2) (v : Int32) : aF d 77 [.ref 23, .int (nI c), .int v] (g, I, J, aP1 sl rd rl) = some (some none, (g, aR I 24 (adA (I 24) c v), J, aP1 sl rd rl)) := by
  show aE d 77 0 [.ref 23, .int (nI c), .int v] [] _ = _
  simp (disch := omega) only [b77_0, i0add, aU_R, aBi, aBv, aBl, nI_1, nIle_t, nIle_f, nIlt_t, nIlt_f, nIeq_t, nIeq_f, nIneg, nI_clamp, nat_le_f, nat_le_t, nat_lt_f, nat_lt_t, or_self, or_false, false_or, if_true, if_false, ↓reduceIte, Int32.or_zero, Int32.add_zero, nIm2, nIm3, nIm4, nIp2, nIp4, nIp6, nIp8, nIp14, nIp16, nIp22, nIp24, nIp30, nIq2, nIq3, nIq4, hasI_0, aU_s, aU_i, aU_r, aU_u]
  rfl
theorem f87_24 {c i n : Nat} (hc : c < 2) (hi : i < n) (hn : n ≤ 8) (h : I 14 0 = nI n) : aF d 87 [.ref 23, .ref 14, .int (nI c), .int (nI i)] (g, I, J, aP1 sl rd rl) = if I 24 (8 + i) = nI c then some (some (some (.int (-2))), (g, I, J, aP1 sl rd rl)) else if I 16 i ≤ I 24 c then some (some (some (.int (cBuy (I 24) c i (I 16 i) c))), (g, aR I 24 (cBuy (I 24) c i (I 16 i)), J, aP1 sl rd rl)) else some (some (some (.int (-3))), (g, I, J, aP1 sl rd rl)) := by
  show aE d 87 0 [.ref 23, .ref 14, .int (nI c), .int (nI i), aNo] [] _ = _
  simp (disch := omega) only [b87_0, f75, isC_n, b87_4, f88, h, b87_12, f68_23, b87_22, f72_23, b87_42, f76_24, b87_58, nI_1m, b87_67, aU_R, aR_s, aR_u, b87_82, n10, aBi, aBv, aBl, nI_1, nIle_t, nIle_f, nIlt_t, nIlt_f, nIeq_t, nIeq_f, nIneg, nI_clamp, nat_le_f, nat_le_t, nat_lt_f, nat_lt_t, or_self, or_false, false_or, if_true, if_false, ↓reduceIte, Int32.or_zero, Int32.add_zero, nIm2, nIm3, nIm4, nIp2, nIp4, nIp6, nIp8, nIp14, nIp16, nIp22, nIp24, nIp30, nIq2, nIq3, nIq4, hasI_0, aU_s, aU_i, aU_r, aU_u]
  rfl
theorem f91_24 {c i n : Nat} (hc : c < 2) (hi : i < n) (hn : n ≤ 8) (h : I 14 0 = nI n) : aF d 91 [.ref 23, .ref 14, .int (nI c), .int (nI i)] (g, I, J, aP1 sl rd rl) = if I 24 (8 + i) = nI c then some (some (some (.int (-2))), (g, I, J, aP1 sl rd rl)) else if hasT (I 24 7) (nI i) = true then some (some (some (.int (-3))), (g, I, J, aP1 sl rd rl)) else if 5 ≤ I 24 c then some (some (some (.int (cHex (I 24) c i c))), (g, aR I 24 (cHex (I 24) c i), J, aP1 sl rd rl)) else some (some (some (.int (-4))), (g, I, J, aP1 sl rd rl)) := by
  show aE d 91 0 [.ref 23, .ref 14, .int (nI c), .int (nI i)] [] _ = _
  simp (disch := omega) only [b91_0, f75, isC_n, b91_4, f88, h, b91_12, f68_23, b91_22, f92_23, b91_34, tI_0, f72_23, b91_45, f76_24, b91_59, aU_R, aR_s, aR_u, b91_77, n10, aBi, aBv, aBl, nI_1, nIle_t, nIle_f, nIlt_t, nIlt_f, nIeq_t, nIeq_f, nIneg, nI_clamp, nat_le_f, nat_le_t, nat_lt_f, nat_lt_t, or_self, or_false, false_or, if_true, if_false, ↓reduceIte, Int32.or_zero, Int32.add_zero, nIm2, nIm3, nIm4, nIp2, nIp4, nIp6, nIp8, nIp14, nIp16, nIp22, nIp24, nIp30, nIq2, nIq3, nIq4, hasI_0, aU_s, aU_i, aU_r, aU_u]
  unfold cHex adM bit
  simp only [upd_n _ _ (show 7 ≠ c by omega)]
  cases hasT (I 24 7) (nI i) <;> rfl
theorem f76_28 {c : Nat} (h : c < 2) (v : Int32) : aF d 76 [.ref 27, .int (nI c), .int v] (g, I, J, aP1 sl rd rl) = some (some none, (g, aR I 28 (adM (I 28) c v), J, aP1 sl rd rl)) := by
  show aE d 76 0 [.ref 27, .int (nI c), .int v] [] _ = _
  simp (disch := omega) only [b76_0_2, i0add, aU_R, aBi, aBv, aBl, nI_1, nIle_t, nIle_f, nIlt_t, nIlt_f, nIeq_t, nIeq_f, nIneg, nI_clamp, nat_le_f, nat_le_t, nat_lt_f, nat_lt_t, or_self, or_false, false_or, if_true, if_false, ↓reduceIte, Int32.or_zero, Int32.add_zero, nIm2, nIm3, nIm4, nIp2, nIp4, nIp6, nIp8, nIp14, nIp16, nIp22, nIp24, nIp30, nIq2, nIq3, nIq4, hasI_0, aU_s, aU_i, aU_r, aU_u]
  rfl
theorem f77_28 {c : Nat} (h : c < 2) (v : Int32) : aF d 77 [.ref 27, .int (nI c), .int v] (g, I, J, aP1 sl rd rl) = some (some none, (g, aR I 28 (adA (I 28) c v), J, aP1 sl rd rl)) := by
  show aE d 77 0 [.ref 27, .int (nI c), .int v] [] _ = _
  simp (disch := omega) only [b77_0_2, i0add, aU_R, aBi, aBv, aBl, nI_1, nIle_t, nIle_f, nIlt_t, nIlt_f, nIeq_t, nIeq_f, nIneg, nI_clamp, nat_le_f, nat_le_t, nat_lt_f, nat_lt_t, or_self, or_false, false_or, if_true, if_false, ↓reduceIte, Int32.or_zero, Int32.add_zero, nIm2, nIm3, nIm4, nIp2, nIp4, nIp6, nIp8, nIp14, nIp16, nIp22, nIp24, nIp30, nIq2, nIq3, nIq4, hasI_0, aU_s, aU_i, aU_r, aU_u]
  rfl
theorem f87_28 {c i n : Nat} (hc : c < 2) (hi : i < n) (hn : n ≤ 8) (h : I 14 0 = nI n) : aF d 87 [.ref 27, .ref 14, .int (nI c), .int (nI i)] (g, I, J, aP1 sl rd rl) = if I 28 (8 + i) = nI c then some (some (some (.int (-2))), (g, I, J, aP1 sl rd rl)) else if I 16 i ≤ I 28 c then some (some (some (.int (cBuy (I 28) c i (I 16 i) c))), (g, aR I 28 (cBuy (I 28) c i (I 16 i)), J, aP1 sl rd rl)) else some (some (some (.int (-3))), (g, I, J, aP1 sl rd rl)) := by
  show aE d 87 0 [.ref 27, .ref 14, .int (nI c), .int (nI i), aNo] [] _ = _
  simp (disch := omega) only [b87_0_2, f75, isC_n, b87_4_2, f88, h, b87_12_2, f68_27, b87_22_2, f72_27, b87_42_2, f76_28, b87_58_2, nI_1m, b87_67_2, aU_R, aR_s, aR_u, b87_82, n10, aBi, aBv, aBl, nI_1, nIle_t, nIle_f, nIlt_t, nIlt_f, nIeq_t, nIeq_f, nIneg, nI_clamp, nat_le_f, nat_le_t, nat_lt_f, nat_lt_t, or_self, or_false, false_or, if_true, if_false, ↓reduceIte, Int32.or_zero, Int32.add_zero, nIm2, nIm3, nIm4, nIp2, nIp4, nIp6, nIp8, nIp14, nIp16, nIp22, nIp24, nIp30, nIq2, nIq3, nIq4, hasI_0, aU_s, aU_i, aU_r, aU_u]
  rfl
theorem f91_28 {c i n : Nat} (hc : c < 2) (hi : i < n) (hn : n ≤ 8) (h : I 14 0 = nI n) : aF d 91 [.ref 27, .ref 14, .int (nI c), .int (nI i)] (g, I, J, aP1 sl rd rl) = if I 28 (8 + i) = nI c then some (some (some (.int (-2))), (g, I, J, aP1 sl rd rl)) else if hasT (I 28 7) (nI i) = true then some (some (some (.int (-3))), (g, I, J, aP1 sl rd rl)) else if 5 ≤ I 28 c then some (some (some (.int (cHex (I 28) c i c))), (g, aR I 28 (cHex (I 28) c i), J, aP1 sl rd rl)) else some (some (some (.int (-4))), (g, I, J, aP1 sl rd rl)) := by
  show aE d 91 0 [.ref 27, .ref 14, .int (nI c), .int (nI i)] [] _ = _
  simp (disch := omega) only [b91_0_2, f75, isC_n, b91_4_2, f88, h, b91_12_2, f68_27, b91_22_2, f92_27, b91_34_2, tI_0, f72_27, b91_45_2, f76_28, b91_59_2, aU_R, aR_s, aR_u, b91_77, n10, aBi, aBv, aBl, nI_1, nIle_t, nIle_f, nIlt_t, nIlt_f, nIeq_t, nIeq_f, nIneg, nI_clamp, nat_le_f, nat_le_t, nat_lt_f, nat_lt_t, or_self, or_false, false_or, if_true, if_false, ↓reduceIte, Int32.or_zero, Int32.add_zero, nIm2, nIm3, nIm4, nIp2, nIp4, nIp6, nIp8, nIp14, nIp16, nIp22, nIp24, nIp30, nIq2, nIq3, nIq4, hasI_0, aU_s, aU_i, aU_r, aU_u]
  unfold cHex adM bit
  simp only [upd_n _ _ (show 7 ≠ c by omega)]
  cases hasT (I 28 7) (nI i) <;> rfl
theorem f87n_24 {c x : Int32} {n : Nat} (h : I 14 0 = nI n) (hx : isC c = 0 ∨ noI x n) : aF d 87 [.ref 23, .ref 14, .int c, .int x] (g, I, J, aP1 sl rd rl) = some (some (some (.int (-1))), (g, I, J, aP1 sl rd rl)) := by
  show aE d 87 0 [.ref 23, .ref 14, .int c, .int x, aNo] [] _ = _
  simp (disch := omega) only [b87_0, f75, b87_4, f88, h, b87_12, aBi, aBv, aBl, nI_1, nIle_t, nIle_f, nIlt_t, nIlt_f, nIeq_t, nIeq_f, nIneg, nI_clamp, nat_le_f, nat_le_t, nat_lt_f, nat_lt_t, or_self, or_false, false_or, if_true, if_false, ↓reduceIte, Int32.or_zero, Int32.add_zero, nIm2, nIm3, nIm4, nIp2, nIp4, nIp6, nIp8, nIp14, nIp16, nIp22, nIp24, nIp30, nIq2, nIq3, nIq4, hasI_0, aU_s, aU_i, aU_r, aU_u]
  rcases hx with hx | hx
  · rw [if_pos hx]
  · rw [if_pos (noI_c hx), ite_self]
theorem f91n_24 {c x : Int32} {n : Nat} (h : I 14 0 = nI n) (hx : isC c = 0 ∨ noI x n) : aF d 91 [.ref 23, .ref 14, .int c, .int x] (g, I, J, aP1 sl rd rl) = some (some (some (.int (-1))), (g, I, J, aP1 sl rd rl)) := by
  show aE d 91 0 [.ref 23, .ref 14, .int c, .int x] [] _ = _
  simp (disch := omega) only [b91_0, f75, b91_4, f88, h, b91_12, aBi, aBv, aBl, nI_1, nIle_t, nIle_f, nIlt_t, nIlt_f, nIeq_t, nIeq_f, nIneg, nI_clamp, nat_le_f, nat_le_t, nat_lt_f, nat_lt_t, or_self, or_false, false_or, if_true, if_false, ↓reduceIte, Int32.or_zero, Int32.add_zero, nIm2, nIm3, nIm4, nIp2, nIp4, nIp6, nIp8, nIp14, nIp16, nIp22, nIp24, nIp30, nIq2, nIq3, nIq4, hasI_0, aU_s, aU_i, aU_r, aU_u]
  rcases hx with hx | hx
  · rw [if_pos hx]
  · rw [if_pos (noI_c hx), ite_self]
theorem f97_24 {c : Nat} (hc : c < 2) (v : Int32) : aF d 97 [.ref 23, .int (nI c), .int v] (g, I, J, aP1 sl rd rl) = if v < 1 then some (some (some (.int (-1))), (g, I, J, aP1 sl rd rl)) else if v ≤ 99 then some (some (some (.int (adA (I 24) c (-v) (2 + c)))), (g, aR I 24 (adA (I 24) c (-v)), J, aP1 sl rd rl)) else some (some (some (.int (-1))), (g, I, J, aP1 sl rd rl)) := by
  show aE d 97 0 [.ref 23, .int (nI c), .int v] [] _ = _
  simp (disch := omega) only [b97_0, f75, isC_n, b97_4, n10, f77_24, b97_27, f73_23, aR_s, b97_32, aBi, aBv, aBl, nI_1, nIle_t, nIle_f, nIlt_t, nIlt_f, nIeq_t, nIeq_f, nIneg, nI_clamp, nat_le_f, nat_le_t, nat_lt_f, nat_lt_t, or_self, or_false, false_or, if_true, if_false, ↓reduceIte, Int32.or_zero, Int32.add_zero, nIm2, nIm3, nIm4, nIp2, nIp4, nIp6, nIp8, nIp14, nIp16, nIp22, nIp24, nIp30, nIq2, nIq3, nIq4, hasI_0, aU_s, aU_i, aU_r, aU_u]
theorem f97n_24 {c v : Int32} (hx : isC c = 0) : aF d 97 [.ref 23, .int c, .int v] (g, I, J, aP1 sl rd rl) = some (some (some (.int (-1))), (g, I, J, aP1 sl rd rl)) := by
  show aE d 97 0 [.ref 23, .int c, .int v] [] _ = _
  simp (disch := omega) only [b97_0, f75, hx, b97_4, aBi, aBv, aBl, nI_1, nIle_t, nIle_f, nIlt_t, nIlt_f, nIeq_t, nIeq_f, nIneg, nI_clamp, nat_le_f, nat_le_t, nat_lt_f, nat_lt_t, or_self, or_false, false_or, if_true, if_false, ↓reduceIte, Int32.or_zero, Int32.add_zero, nIm2, nIm3, nIm4, nIp2, nIp4, nIp6, nIp8, nIp14, nIp16, nIp22, nIp24, nIp30, nIq2, nIq3, nIq4, hasI_0, aU_s, aU_i, aU_r, aU_u]
theorem f99_24 {q b n : Nat} (hb : b < 2) (hi : q < n) (hn : n ≤ 8) (h : I 14 9 = nI n) : aF d 99 [.ref 23, .ref 14, .int (nI q), .int (nI b)] (g, I, J, aP1 sl rd rl) = if I 24 (24 + q) = -1 then some (some (some (.int (tI (jn (cSide (I 24) q b (I 22 (4 * q + b)) (I 22 (4 * q + 2 + b))) (I 14 11))))), (g, aR I 24 (cSide (I 24) q b (I 22 (4 * q + b)) (I 22 (4 * q + 2 + b))), J, aP1 sl rd rl)) else some (some (some (.int (-2))), (g, I, J, aP1 sl rd rl)) := by
  show aE d 99 0 [.ref 23, .ref 14, .int (nI q), .int (nI b)] [] _ = _
  have e0 (v : Int32) (I : Nat → Nat → Int32) : aF d 77 [.ref 23, .int 0, .int v] (g, I, J, aP1 sl rd rl) = some (some none, (g, aR I 24 (adA (I 24) 0 v), J, aP1 sl rd rl)) := f77_24 (c := 0) (by decide) v
  have e1 (v : Int32) (I : Nat → Nat → Int32) : aF d 77 [.ref 23, .int 1, .int v] (g, I, J, aP1 sl rd rl) = some (some none, (g, aR I 24 (adA (I 24) 1 v), J, aP1 sl rd rl)) := f77_24 (c := 1) (by decide) v
  simp (disch := omega) only [b99_0, f100, h, b99_5, n10, kgf1, kgt1, klt1, klf1, kmt1, kmf1, kat1, kaf1, ket1, kef1, f101_23, b99_24, nI_add, e0, e1, b99_46, aR_s, aR_u, b99_63, f78_23, aU_R, aR_r, b99_78, aBi, aBv, aBl, nI_1, nIle_t, nIle_f, nIlt_t, nIlt_f, nIeq_t, nIeq_f, nIneg, nI_clamp, nat_le_f, nat_le_t, nat_lt_f, nat_lt_t, or_self, or_false, false_or, if_true, if_false, ↓reduceIte, Int32.or_zero, Int32.add_zero, nIm2, nIm3, nIm4, nIp2, nIp4, nIp6, nIp8, nIp14, nIp16, nIp22, nIp24, nIp30, nIq2, nIq3, nIq4, hasI_0, aU_s, aU_i, aU_r, aU_u]
  have e := jn_c (cSide (I 24) q b (I 22 (4 * q + b)) (I 22 (4 * q + 2 + b))) (I 14 11)
  unfold cSide at e ⊢
  rw [e, tIif]
theorem f99n_24 {x y : Int32} {n : Nat} (h : I 14 9 = nI n) (hx : noI x n ∨ (y < 0 ∨ 1 < y)) : aF d 99 [.ref 23, .ref 14, .int x, .int y] (g, I, J, aP1 sl rd rl) = some (some (some (.int (-1))), (g, I, J, aP1 sl rd rl)) := by
  show aE d 99 0 [.ref 23, .ref 14, .int x, .int y] [] _ = _
  simp (disch := omega) only [b99_0, f100, h, b99_5, aBi, aBv, aBl, nI_1, nIle_t, nIle_f, nIlt_t, nIlt_f, nIeq_t, nIeq_f, nIneg, nI_clamp, nat_le_f, nat_le_t, nat_lt_f, nat_lt_t, or_self, or_false, false_or, if_true, if_false, ↓reduceIte, Int32.or_zero, Int32.add_zero, nIm2, nIm3, nIm4, nIp2, nIp4, nIp6, nIp8, nIp14, nIp16, nIp22, nIp24, nIp30, nIq2, nIq3, nIq4, hasI_0, aU_s, aU_i, aU_r, aU_u]
  rcases hx with hx | hx | hx
  · rw [if_pos (noI_c hx)]
  · rw [if_pos hx, ite_self]
  · rw [if_neg (c := y ≤ 1) (by simpa using hx), ite_self, ite_self]
theorem f87n_28 {c x : Int32} {n : Nat} (h : I 14 0 = nI n) (hx : isC c = 0 ∨ noI x n) : aF d 87 [.ref 27, .ref 14, .int c, .int x] (g, I, J, aP1 sl rd rl) = some (some (some (.int (-1))), (g, I, J, aP1 sl rd rl)) := by
  show aE d 87 0 [.ref 27, .ref 14, .int c, .int x, aNo] [] _ = _
  simp (disch := omega) only [b87_0_2, f75, b87_4_2, f88, h, b87_12_2, aBi, aBv, aBl, nI_1, nIle_t, nIle_f, nIlt_t, nIlt_f, nIeq_t, nIeq_f, nIneg, nI_clamp, nat_le_f, nat_le_t, nat_lt_f, nat_lt_t, or_self, or_false, false_or, if_true, if_false, ↓reduceIte, Int32.or_zero, Int32.add_zero, nIm2, nIm3, nIm4, nIp2, nIp4, nIp6, nIp8, nIp14, nIp16, nIp22, nIp24, nIp30, nIq2, nIq3, nIq4, hasI_0, aU_s, aU_i, aU_r, aU_u]
  rcases hx with hx | hx
  · rw [if_pos hx]
  · rw [if_pos (noI_c hx), ite_self]
theorem f91n_28 {c x : Int32} {n : Nat} (h : I 14 0 = nI n) (hx : isC c = 0 ∨ noI x n) : aF d 91 [.ref 27, .ref 14, .int c, .int x] (g, I, J, aP1 sl rd rl) = some (some (some (.int (-1))), (g, I, J, aP1 sl rd rl)) := by
  show aE d 91 0 [.ref 27, .ref 14, .int c, .int x] [] _ = _
  simp (disch := omega) only [b91_0_2, f75, b91_4_2, f88, h, b91_12_2, aBi, aBv, aBl, nI_1, nIle_t, nIle_f, nIlt_t, nIlt_f, nIeq_t, nIeq_f, nIneg, nI_clamp, nat_le_f, nat_le_t, nat_lt_f, nat_lt_t, or_self, or_false, false_or, if_true, if_false, ↓reduceIte, Int32.or_zero, Int32.add_zero, nIm2, nIm3, nIm4, nIp2, nIp4, nIp6, nIp8, nIp14, nIp16, nIp22, nIp24, nIp30, nIq2, nIq3, nIq4, hasI_0, aU_s, aU_i, aU_r, aU_u]
  rcases hx with hx | hx
  · rw [if_pos hx]
  · rw [if_pos (noI_c hx), ite_self]
theorem f97_28 {c : Nat} (hc : c < 2) (v : Int32) : aF d 97 [.ref 27, .int (nI c), .int v] (g, I, J, aP1 sl rd rl) = if v < 1 then some (some (some (.int (-1))), (g, I, J, aP1 sl rd rl)) else if v ≤ 99 then some (some (some (.int (adA (I 28) c (-v) (2 + c)))), (g, aR I 28 (adA (I 28) c (-v)), J, aP1 sl rd rl)) else some (some (some (.int (-1))), (g, I, J, aP1 sl rd rl)) := by
  show aE d 97 0 [.ref 27, .int (nI c), .int v] [] _ = _
  simp (disch := omega) only [b97_0_2, f75, isC_n, b97_4_2, n10, f77_28, b97_27_2, f73_27, aR_s, b97_32, aBi, aBv, aBl, nI_1, nIle_t, nIle_f, nIlt_t, nIlt_f, nIeq_t, nIeq_f, nIneg, nI_clamp, nat_le_f, nat_le_t, nat_lt_f, nat_lt_t, or_self, or_false, false_or, if_true, if_false, ↓reduceIte, Int32.or_zero, Int32.add_zero, nIm2, nIm3, nIm4, nIp2, nIp4, nIp6, nIp8, nIp14, nIp16, nIp22, nIp24, nIp30, nIq2, nIq3, nIq4, hasI_0, aU_s, aU_i, aU_r, aU_u]
theorem f97n_28 {c v : Int32} (hx : isC c = 0) : aF d 97 [.ref 27, .int c, .int v] (g, I, J, aP1 sl rd rl) = some (some (some (.int (-1))), (g, I, J, aP1 sl rd rl)) := by
  show aE d 97 0 [.ref 27, .int c, .int v] [] _ = _
  simp (disch := omega) only [b97_0_2, f75, hx, b97_4_2, aBi, aBv, aBl, nI_1, nIle_t, nIle_f, nIlt_t, nIlt_f, nIeq_t, nIeq_f, nIneg, nI_clamp, nat_le_f, nat_le_t, nat_lt_f, nat_lt_t, or_self, or_false, false_or, if_true, if_false, ↓reduceIte, Int32.or_zero, Int32.add_zero, nIm2, nIm3, nIm4, nIp2, nIp4, nIp6, nIp8, nIp14, nIp16, nIp22, nIp24, nIp30, nIq2, nIq3, nIq4, hasI_0, aU_s, aU_i, aU_r, aU_u]
theorem f99_28 {q b n : Nat} (hb : b < 2) (hi : q < n) (hn : n ≤ 8) (h : I 14 9 = nI n) : aF d 99 [.ref 27, .ref 14, .int (nI q), .int (nI b)] (g, I, J, aP1 sl rd rl) = if I 28 (24 + q) = -1 then some (some (some (.int (tI (jn (cSide (I 28) q b (I 22 (4 * q + b)) (I 22 (4 * q + 2 + b))) (I 14 11))))), (g, aR I 28 (cSide (I 28) q b (I 22 (4 * q + b)) (I 22 (4 * q + 2 + b))), J, aP1 sl rd rl)) else some (some (some (.int (-2))), (g, I, J, aP1 sl rd rl)) := by
  show aE d 99 0 [.ref 27, .ref 14, .int (nI q), .int (nI b)] [] _ = _
  have e0 (v : Int32) (I : Nat → Nat → Int32) : aF d 77 [.ref 27, .int 0, .int v] (g, I, J, aP1 sl rd rl) = some (some none, (g, aR I 28 (adA (I 28) 0 v), J, aP1 sl rd rl)) := f77_28 (c := 0) (by decide) v
  have e1 (v : Int32) (I : Nat → Nat → Int32) : aF d 77 [.ref 27, .int 1, .int v] (g, I, J, aP1 sl rd rl) = some (some none, (g, aR I 28 (adA (I 28) 1 v), J, aP1 sl rd rl)) := f77_28 (c := 1) (by decide) v
  simp (disch := omega) only [b99_0_2, f100, h, b99_5_2, n10, kgf1, kgt1, klt1, klf1, kmt1, kmf1, kat1, kaf1, ket1, kef1, f101_27, b99_24_2, nI_add, e0, e1, b99_46_2, aR_s, aR_u, b99_63_2, f78_27, aU_R, aR_r, b99_78, aBi, aBv, aBl, nI_1, nIle_t, nIle_f, nIlt_t, nIlt_f, nIeq_t, nIeq_f, nIneg, nI_clamp, nat_le_f, nat_le_t, nat_lt_f, nat_lt_t, or_self, or_false, false_or, if_true, if_false, ↓reduceIte, Int32.or_zero, Int32.add_zero, nIm2, nIm3, nIm4, nIp2, nIp4, nIp6, nIp8, nIp14, nIp16, nIp22, nIp24, nIp30, nIq2, nIq3, nIq4, hasI_0, aU_s, aU_i, aU_r, aU_u]
  have e := jn_c (cSide (I 28) q b (I 22 (4 * q + b)) (I 22 (4 * q + 2 + b))) (I 14 11)
  unfold cSide at e ⊢
  rw [e, tIif]
theorem f99n_28 {x y : Int32} {n : Nat} (h : I 14 9 = nI n) (hx : noI x n ∨ (y < 0 ∨ 1 < y)) : aF d 99 [.ref 27, .ref 14, .int x, .int y] (g, I, J, aP1 sl rd rl) = some (some (some (.int (-1))), (g, I, J, aP1 sl rd rl)) := by
  show aE d 99 0 [.ref 27, .ref 14, .int x, .int y] [] _ = _
  simp (disch := omega) only [b99_0_2, f100, h, b99_5_2, aBi, aBv, aBl, nI_1, nIle_t, nIle_f, nIlt_t, nIlt_f, nIeq_t, nIeq_f, nIneg, nI_clamp, nat_le_f, nat_le_t, nat_lt_f, nat_lt_t, or_self, or_false, false_or, if_true, if_false, ↓reduceIte, Int32.or_zero, Int32.add_zero, nIm2, nIm3, nIm4, nIp2, nIp4, nIp6, nIp8, nIp14, nIp16, nIp22, nIp24, nIp30, nIq2, nIq3, nIq4, hasI_0, aU_s, aU_i, aU_r, aU_u]
  rcases hx with hx | hx | hx
  · rw [if_pos (noI_c hx)]
  · rw [if_pos hx, ite_self]
  · rw [if_neg (c := y ≤ 1) (by simpa using hx), ite_self, ite_self]
theorem f95 {c i n : Nat} (hi : i < n) (hn : n ≤ 8) (h : I 14 0 = nI n) (hc : c < 2) (hI : I 24 (8 + i) = nI c) : aF d 95 [.ref 23, .ref 14, .int (nI i)] (g, I, J, aP1 sl rd rl) = if hasT (I 24 7) (nI i) = false then some (some (some (.int (-2))), (g, I, J, aP1 sl rd rl)) else if 3 ≤ I 24 c then some (some (some (.int (cDig (I 24) c i c))), (g, aR I 24 (cDig (I 24) c i), J, aP1 sl rd rl)) else some (some (some (.int (-3))), (g, I, J, aP1 sl rd rl)) := by
  show aE d 95 0 [.ref 23, .ref 14, .int (nI i), aNo] [] _ = _
  simp (disch := omega) only [b95_0, f88, h, b95_5, n10, f92_23, b95_15, tI_0, f68_23, hI, b95_26, f75, isC_n, b95_31, f72_23, b95_39, f76_24, b95_53, aU_R, aR_s, aR_u, b95_73, aBi, aBv, aBl, nI_1, nIle_t, nIle_f, nIlt_t, nIlt_f, nIeq_t, nIeq_f, nIneg, nI_clamp, nat_le_f, nat_le_t, nat_lt_f, nat_lt_t, or_self, or_false, false_or, if_true, if_false, ↓reduceIte, Int32.or_zero, Int32.add_zero, nIm2, nIm3, nIm4, nIp2, nIp4, nIp6, nIp8, nIp14, nIp16, nIp22, nIp24, nIp30, nIq2, nIq3, nIq4, hasI_0, aU_s, aU_i, aU_r, aU_u]
  unfold cDig adM bit
  simp only [upd_n _ _ (show 7 ≠ c by omega)]
theorem f95n {x : Int32} {n : Nat} (h : I 14 0 = nI n) (hx : noI x n) : aF d 95 [.ref 23, .ref 14, .int x] (g, I, J, aP1 sl rd rl) = some (some (some (.int (-1))), (g, I, J, aP1 sl rd rl)) := by
  show aE d 95 0 [.ref 23, .ref 14, .int x, aNo] [] _ = _
  simp (disch := omega) only [b95_0, f88, h, b95_5, aBi, aBv, aBl, nI_1, nIle_t, nIle_f, nIlt_t, nIlt_f, nIeq_t, nIeq_f, nIneg, nI_clamp, nat_le_f, nat_le_t, nat_lt_f, nat_lt_t, or_self, or_false, false_or, if_true, if_false, ↓reduceIte, Int32.or_zero, Int32.add_zero, nIm2, nIm3, nIm4, nIp2, nIp4, nIp6, nIp8, nIp14, nIp16, nIp22, nIp24, nIp30, nIq2, nIq3, nIq4, hasI_0, aU_s, aU_i, aU_r, aU_u]
  rw [if_pos (noI_c hx)]
/-! of the reference -/
theorem f226_47 {c : Nat} (h : c < 2) (v : Int32) : aF d 226 [.ref 47, .int (nI c), .int v] (g, I, J, aP1 sl rd rl) = some (some none, (g, aR I 47 (adM (I 47) c v), J, aP1 sl rd rl)) := by
  show aE d 226 0 [.ref 47, .int (nI c), .int v] [] _ = _
  simp (disch := omega) only [b226_0, aU_R, aBi, aBv, aBl, nI_1, nIle_t, nIle_f, nIlt_t, nIlt_f, nIeq_t, nIeq_f, nIneg, nI_clamp, nat_le_f, nat_le_t, nat_lt_f, nat_lt_t, or_self, or_false, false_or, if_true, if_false, ↓reduceIte, Int32.or_zero, Int32.add_zero, nIm2, nIm3, nIm4, nIp2, nIp4, nIp6, nIp8, nIp14, nIp16, nIp22, nIp24, nIp30, nIq2, nIq3, nIq4, hasI_0, aU_s, aU_i, aU_r, aU_u]
  rfl
theorem f227_47 {c : Nat} (h : c < 2) (v : Int32) : aF d 227 [.ref 47, .int (nI c), .int v] (g, I, J, aP1 sl rd rl) = some (some none, (g, aR I 47 (adA (I 47) c v), J, aP1 sl rd rl)) := by
  show aE d 227 0 [.ref 47, .int (nI c), .int v] [] _ = _
  simp (disch := omega) only [b227_0, aU_R, aBi, aBv, aBl, nI_1, nIle_t, nIle_f, nIlt_t, nIlt_f, nIeq_t, nIeq_f, nIneg, nI_clamp, nat_le_f, nat_le_t, nat_lt_f, nat_lt_t, or_self, or_false, false_or, if_true, if_false, ↓reduceIte, Int32.or_zero, Int32.add_zero, nIm2, nIm3, nIm4, nIp2, nIp4, nIp6, nIp8, nIp14, nIp16, nIp22, nIp24, nIp30, nIq2, nIq3, nIq4, hasI_0, aU_s, aU_i, aU_r, aU_u]
  rfl
theorem f231_47 {c i n : Nat} (hc : c < 2) (hi : i < n) (hn : n ≤ 8) (h : I 46 1 = nI n) : aF d 231 [.ref 46, .ref 47, .int (nI c), .int (nI i)] (g, I, J, aP1 sl rd rl) = if I 47 (6 + i) = nI c then some (some (some (.int (-2))), (g, I, J, aP1 sl rd rl)) else if I 49 i ≤ I 47 c then some (some (some (.int (0))), (g, I, J, aP1 sl rd rl)) else some (some (some (.int (-3))), (g, I, J, aP1 sl rd rl)) := by
  show aE d 231 0 [.ref 46, .ref 47, .int (nI c), .int (nI i)] [] _ = _
  simp (disch := omega) only [b231_0, f213, isC_n, b231_4, n10, f206, h, isI_r hn hi, b231_12, aBi, aBv, aBl, nI_1, nIle_t, nIle_f, nIlt_t, nIlt_f, nIeq_t, nIeq_f, nIneg, nI_clamp, nat_le_f, nat_le_t, nat_lt_f, nat_lt_t, or_self, or_false, false_or, if_true, if_false, ↓reduceIte, Int32.or_zero, Int32.add_zero, nIm2, nIm3, nIm4, nIp2, nIp4, nIp6, nIp8, nIp14, nIp16, nIp22, nIp24, nIp30, nIq2, nIq3, nIq4, hasI_0, aU_s, aU_i, aU_r, aU_u]
theorem f231n_47 {c x : Int32} {n : Nat} (hn : n ≤ 8) (h : I 46 1 = nI n) (hx : isC c = 0 ∨ noI x n) : aF d 231 [.ref 46, .ref 47, .int c, .int x] (g, I, J, aP1 sl rd rl) = some (some (some (.int (-1))), (g, I, J, aP1 sl rd rl)) := by
  show aE d 231 0 [.ref 46, .ref 47, .int c, .int x] [] _ = _
  simp (disch := omega) only [b231_0, f213, b231_4, f206, h, b231_12, aBi, aBv, aBl, nI_1, nIle_t, nIle_f, nIlt_t, nIlt_f, nIeq_t, nIeq_f, nIneg, nI_clamp, nat_le_f, nat_le_t, nat_lt_f, nat_lt_t, or_self, or_false, false_or, if_true, if_false, ↓reduceIte, Int32.or_zero, Int32.add_zero, nIm2, nIm3, nIm4, nIp2, nIp4, nIp6, nIp8, nIp14, nIp16, nIp22, nIp24, nIp30, nIq2, nIq3, nIq4, hasI_0, aU_s, aU_i, aU_r, aU_u]
  rcases hx with hx | hx
  · rw [if_pos hx]
  · rw [if_pos (noI_r hn hx), ite_self]
theorem f232_47 {c i : Nat} (hc : c < 2) (hi : i < 8) : aF d 232 [.ref 46, .ref 47, .int (nI c), .int (nI i)] (g, I, J, aP1 sl rd rl) = some (some none, (g, aR I 47 (rBuy (I 47) c i (I 49 i)), J, aP1 sl rd rl)) := by
  show aE d 232 0 [.ref 46, .ref 47, .int (nI c), .int (nI i)] [] _ = _
  simp (disch := omega) only [b232_0, nI_1m, aU_R, f226_47, aR_s, aR_u, b232_25, aBi, aBv, aBl, nI_1, nIle_t, nIle_f, nIlt_t, nIlt_f, nIeq_t, nIeq_f, nIneg, nI_clamp, nat_le_f, nat_le_t, nat_lt_f, nat_lt_t, or_self, or_false, false_or, if_true, if_false, ↓reduceIte, Int32.or_zero, Int32.add_zero, nIm2, nIm3, nIm4, nIp2, nIp4, nIp6, nIp8, nIp14, nIp16, nIp22, nIp24, nIp30, nIq2, nIq3, nIq4, hasI_0, aU_s, aU_i, aU_r, aU_u]
  rfl
theorem f235_47 {c i : Nat} (hc : c < 2) (hi : i < 8) : aF d 235 [.ref 47, .int (nI c), .int (nI i)] (g, I, J, aP1 sl rd rl) = some (some none, (g, aR I 47 (rHex (I 47) c i), J, aP1 sl rd rl)) := by
  show aE d 235 0 [.ref 47, .int (nI c), .int (nI i)] [] _ = _
  simp (disch := omega) only [b235_0, aU_R, aR_s, aR_u, aBi, aBv, aBl, nI_1, nIle_t, nIle_f, nIlt_t, nIlt_f, nIeq_t, nIeq_f, nIneg, nI_clamp, nat_le_f, nat_le_t, nat_lt_f, nat_lt_t, or_self, or_false, false_or, if_true, if_false, ↓reduceIte, Int32.or_zero, Int32.add_zero, nIm2, nIm3, nIm4, nIp2, nIp4, nIp6, nIp8, nIp14, nIp16, nIp22, nIp24, nIp30, nIq2, nIq3, nIq4, hasI_0, aU_s, aU_i, aU_r, aU_u]
  rfl
theorem f242_47 {q b : Nat} (hq : q < 8) (hb : b < 2) : aF d 242 [.ref 46, .ref 47, .int (nI q), .int (nI b)] (g, I, J, aP1 sl rd rl) = some (some none, (g, aR I 47 (rSide (I 47) q b (I 51 (4 * q + b)) (I 51 (4 * q + 2 + b))), J, aP1 sl rd rl)) := by
  show aE d 242 0 [.ref 46, .ref 47, .int (nI q), .int (nI b)] [] _ = _
  have e0 (v : Int32) (I : Nat → Nat → Int32) : aF d 227 [.ref 47, .int 0, .int v] (g, I, J, aP1 sl rd rl) = some (some none, (g, aR I 47 (adA (I 47) 0 v), J, aP1 sl rd rl)) := f227_47 (c := 0) (by decide) v
  have e1 (v : Int32) (I : Nat → Nat → Int32) : aF d 227 [.ref 47, .int 1, .int v] (g, I, J, aP1 sl rd rl) = some (some none, (g, aR I 47 (adA (I 47) 1 v), J, aP1 sl rd rl)) := f227_47 (c := 1) (by decide) v
  simp (disch := omega) only [b242_0, nI_add, aU_R, e0, b242_22, e1, aR_s, aR_u, aR_r, b242_39, aBi, aBv, aBl, nI_1, nIle_t, nIle_f, nIlt_t, nIlt_f, nIeq_t, nIeq_f, nIneg, nI_clamp, nat_le_f, nat_le_t, nat_lt_f, nat_lt_t, or_self, or_false, false_or, if_true, if_false, ↓reduceIte, Int32.or_zero, Int32.add_zero, nIm2, nIm3, nIm4, nIp2, nIp4, nIp6, nIp8, nIp14, nIp16, nIp22, nIp24, nIp30, nIq2, nIq3, nIq4, hasI_0, aU_s, aU_i, aU_r, aU_u]
  rfl
theorem f226_60 {c : Nat} (h : c < 2) (v : Int32) : aF d 226 [.ref 60, .int (nI c), .int v] (g, I, J, aP1 sl rd rl) = some (some none, (g, aR I 60 (adM (I 60) c v), J, aP1 sl rd rl)) := by
  show aE d 226 0 [.ref 60, .int (nI c), .int v] [] _ = _
  simp (disch := omega) only [b226_0_2, aU_R, aBi, aBv, aBl, nI_1, nIle_t, nIle_f, nIlt_t, nIlt_f, nIeq_t, nIeq_f, nIneg, nI_clamp, nat_le_f, nat_le_t, nat_lt_f, nat_lt_t, or_self, or_false, false_or, if_true, if_false, ↓reduceIte, Int32.or_zero, Int32.add_zero, nIm2, nIm3, nIm4, nIp2, nIp4, nIp6, nIp8, nIp14, nIp16, nIp22, nIp24, nIp30, nIq2, nIq3, nIq4, hasI_0, aU_s, aU_i, aU_r, aU_u]
  rfl
theorem f227_60 {c : Nat} (h : c < 2) (v : Int32) : aF d 227 [.ref 60, .int (nI c), .int v] (g, I, J, aP1 sl rd rl) = some (some none, (g, aR I 60 (adA (I 60) c v), J, aP1 sl rd rl)) := by
  show aE d 227 0 [.ref 60, .int (nI c), .int v] [] _ = _
  simp (disch := omega) only [b227_0_2, aU_R, aBi, aBv, aBl, nI_1, nIle_t, nIle_f, nIlt_t, nIlt_f, nIeq_t, nIeq_f, nIneg, nI_clamp, nat_le_f, nat_le_t, nat_lt_f, nat_lt_t, or_self, or_false, false_or, if_true, if_false, ↓reduceIte, Int32.or_zero, Int32.add_zero, nIm2, nIm3, nIm4, nIp2, nIp4, nIp6, nIp8, nIp14, nIp16, nIp22, nIp24, nIp30, nIq2, nIq3, nIq4, hasI_0, aU_s, aU_i, aU_r, aU_u]
  rfl
theorem f231_60 {c i n : Nat} (hc : c < 2) (hi : i < n) (hn : n ≤ 8) (h : I 46 1 = nI n) : aF d 231 [.ref 46, .ref 60, .int (nI c), .int (nI i)] (g, I, J, aP1 sl rd rl) = if I 60 (6 + i) = nI c then some (some (some (.int (-2))), (g, I, J, aP1 sl rd rl)) else if I 49 i ≤ I 60 c then some (some (some (.int (0))), (g, I, J, aP1 sl rd rl)) else some (some (some (.int (-3))), (g, I, J, aP1 sl rd rl)) := by
  show aE d 231 0 [.ref 46, .ref 60, .int (nI c), .int (nI i)] [] _ = _
  simp (disch := omega) only [b231_0_2, f213, isC_n, b231_4_2, n10, f206, h, isI_r hn hi, b231_12_2, aBi, aBv, aBl, nI_1, nIle_t, nIle_f, nIlt_t, nIlt_f, nIeq_t, nIeq_f, nIneg, nI_clamp, nat_le_f, nat_le_t, nat_lt_f, nat_lt_t, or_self, or_false, false_or, if_true, if_false, ↓reduceIte, Int32.or_zero, Int32.add_zero, nIm2, nIm3, nIm4, nIp2, nIp4, nIp6, nIp8, nIp14, nIp16, nIp22, nIp24, nIp30, nIq2, nIq3, nIq4, hasI_0, aU_s, aU_i, aU_r, aU_u]
theorem f231n_60 {c x : Int32} {n : Nat} (hn : n ≤ 8) (h : I 46 1 = nI n) (hx : isC c = 0 ∨ noI x n) : aF d 231 [.ref 46, .ref 60, .int c, .int x] (g, I, J, aP1 sl rd rl) = some (some (some (.int (-1))), (g, I, J, aP1 sl rd rl)) := by
  show aE d 231 0 [.ref 46, .ref 60, .int c, .int x] [] _ = _
  simp (disch := omega) only [b231_0_2, f213, b231_4_2, f206, h, b231_12_2, aBi, aBv, aBl, nI_1, nIle_t, nIle_f, nIlt_t, nIlt_f, nIeq_t, nIeq_f, nIneg, nI_clamp, nat_le_f, nat_le_t, nat_lt_f, nat_lt_t, or_self, or_false, false_or, if_true, if_false, ↓reduceIte, Int32.or_zero, Int32.add_zero, nIm2, nIm3, nIm4, nIp2, nIp4, nIp6, nIp8, nIp14, nIp16, nIp22, nIp24, nIp30, nIq2, nIq3, nIq4, hasI_0, aU_s, aU_i, aU_r, aU_u]
  rcases hx with hx | hx
  · rw [if_pos hx]
  · rw [if_pos (noI_r hn hx), ite_self]
theorem f232_60 {c i : Nat} (hc : c < 2) (hi : i < 8) : aF d 232 [.ref 46, .ref 60, .int (nI c), .int (nI i)] (g, I, J, aP1 sl rd rl) = some (some none, (g, aR I 60 (rBuy (I 60) c i (I 49 i)), J, aP1 sl rd rl)) := by
  show aE d 232 0 [.ref 46, .ref 60, .int (nI c), .int (nI i)] [] _ = _
  simp (disch := omega) only [b232_0_2, nI_1m, aU_R, f226_60, aR_s, aR_u, b232_25_2, aBi, aBv, aBl, nI_1, nIle_t, nIle_f, nIlt_t, nIlt_f, nIeq_t, nIeq_f, nIneg, nI_clamp, nat_le_f, nat_le_t, nat_lt_f, nat_lt_t, or_self, or_false, false_or, if_true, if_false, ↓reduceIte, Int32.or_zero, Int32.add_zero, nIm2, nIm3, nIm4, nIp2, nIp4, nIp6, nIp8, nIp14, nIp16, nIp22, nIp24, nIp30, nIq2, nIq3, nIq4, hasI_0, aU_s, aU_i, aU_r, aU_u]
  rfl
theorem f235_60 {c i : Nat} (hc : c < 2) (hi : i < 8) : aF d 235 [.ref 60, .int (nI c), .int (nI i)] (g, I, J, aP1 sl rd rl) = some (some none, (g, aR I 60 (rHex (I 60) c i), J, aP1 sl rd rl)) := by
  show aE d 235 0 [.ref 60, .int (nI c), .int (nI i)] [] _ = _
  simp (disch := omega) only [b235_0_2, aU_R, aR_s, aR_u, aBi, aBv, aBl, nI_1, nIle_t, nIle_f, nIlt_t, nIlt_f, nIeq_t, nIeq_f, nIneg, nI_clamp, nat_le_f, nat_le_t, nat_lt_f, nat_lt_t, or_self, or_false, false_or, if_true, if_false, ↓reduceIte, Int32.or_zero, Int32.add_zero, nIm2, nIm3, nIm4, nIp2, nIp4, nIp6, nIp8, nIp14, nIp16, nIp22, nIp24, nIp30, nIq2, nIq3, nIq4, hasI_0, aU_s, aU_i, aU_r, aU_u]
  rfl
theorem f242_60 {q b : Nat} (hq : q < 8) (hb : b < 2) : aF d 242 [.ref 46, .ref 60, .int (nI q), .int (nI b)] (g, I, J, aP1 sl rd rl) = some (some none, (g, aR I 60 (rSide (I 60) q b (I 51 (4 * q + b)) (I 51 (4 * q + 2 + b))), J, aP1 sl rd rl)) := by
  show aE d 242 0 [.ref 46, .ref 60, .int (nI q), .int (nI b)] [] _ = _
  have e0 (v : Int32) (I : Nat → Nat → Int32) : aF d 227 [.ref 60, .int 0, .int v] (g, I, J, aP1 sl rd rl) = some (some none, (g, aR I 60 (adA (I 60) 0 v), J, aP1 sl rd rl)) := f227_60 (c := 0) (by decide) v
  have e1 (v : Int32) (I : Nat → Nat → Int32) : aF d 227 [.ref 60, .int 1, .int v] (g, I, J, aP1 sl rd rl) = some (some none, (g, aR I 60 (adA (I 60) 1 v), J, aP1 sl rd rl)) := f227_60 (c := 1) (by decide) v
  simp (disch := omega) only [b242_0_2, nI_add, aU_R, e0, b242_22_2, e1, aR_s, aR_u, aR_r, b242_39, aBi, aBv, aBl, nI_1, nIle_t, nIle_f, nIlt_t, nIlt_f, nIeq_t, nIeq_f, nIneg, nI_clamp, nat_le_f, nat_le_t, nat_lt_f, nat_lt_t, or_self, or_false, false_or, if_true, if_false, ↓reduceIte, Int32.or_zero, Int32.add_zero, nIm2, nIm3, nIm4, nIp2, nIp4, nIp6, nIp8, nIp14, nIp16, nIp22, nIp24, nIp30, nIq2, nIq3, nIq4, hasI_0, aU_s, aU_i, aU_r, aU_u]
  rfl
theorem f234 {c i n : Nat} (hc : c < 2) (hi : i < n) (hn : n ≤ 8) (h : I 46 1 = nI n) : aF d 234 [.ref 46, .int (nI c), .int (nI i)] (g, I, J, aP1 sl rd rl) = if I 47 (6 + i) = nI c then some (some (some (.int (-2))), (g, I, J, aP1 sl rd rl)) else if I 47 (14 + i) = 1 then some (some (some (.int (-3))), (g, I, J, aP1 sl rd rl)) else if 5 ≤ I 47 c then some (some (some (.int (0))), (g, I, J, aP1 sl rd rl)) else some (some (some (.int (-4))), (g, I, J, aP1 sl rd rl)) := by
  show aE d 234 0 [.ref 46, .int (nI c), .int (nI i)] [] _ = _
  simp (disch := omega) only [b234_0, f213, isC_n, b234_4, n10, f206, h, isI_r hn hi, b234_12, aBi, aBv, aBl, nI_1, nIle_t, nIle_f, nIlt_t, nIlt_f, nIeq_t, nIeq_f, nIneg, nI_clamp, nat_le_f, nat_le_t, nat_lt_f, nat_lt_t, or_self, or_false, false_or, if_true, if_false, ↓reduceIte, Int32.or_zero, Int32.add_zero, nIm2, nIm3, nIm4, nIp2, nIp4, nIp6, nIp8, nIp14, nIp16, nIp22, nIp24, nIp30, nIq2, nIq3, nIq4, hasI_0, aU_s, aU_i, aU_r, aU_u]
theorem f234n {c x : Int32} {n : Nat} (hn : n ≤ 8) (h : I 46 1 = nI n) (hx : isC c = 0 ∨ noI x n) : aF d 234 [.ref 46, .int c, .int x] (g, I, J, aP1 sl rd rl) = some (some (some (.int (-1))), (g, I, J, aP1 sl rd rl)) := by
  show aE d 234 0 [.ref 46, .int c, .int x] [] _ = _
  simp (disch := omega) only [b234_0, f213, b234_4, f206, h, b234_12, aBi, aBv, aBl, nI_1, nIle_t, nIle_f, nIlt_t, nIlt_f, nIeq_t, nIeq_f, nIneg, nI_clamp, nat_le_f, nat_le_t, nat_lt_f, nat_lt_t, or_self, or_false, false_or, if_true, if_false, ↓reduceIte, Int32.or_zero, Int32.add_zero, nIm2, nIm3, nIm4, nIp2, nIp4, nIp6, nIp8, nIp14, nIp16, nIp22, nIp24, nIp30, nIq2, nIq3, nIq4, hasI_0, aU_s, aU_i, aU_r, aU_u]
  rcases hx with hx | hx
  · rw [if_pos hx]
  · rw [if_pos (noI_r hn hx), ite_self]
theorem f237 {c i n : Nat} (hi : i < n) (hn : n ≤ 8) (h : I 46 1 = nI n) (hc : c < 2) (hI : I 47 (6 + i) = nI c) : aF d 237 [.ref 46, .int (nI i)] (g, I, J, aP1 sl rd rl) = if I 47 (14 + i) = 0 then some (some (some (.int (-2))), (g, I, J, aP1 sl rd rl)) else if 3 ≤ I 47 c then some (some (some (.int (0))), (g, I, J, aP1 sl rd rl)) else some (some (some (.int (-3))), (g, I, J, aP1 sl rd rl)) := by
  show aE d 237 0 [.ref 46, .int (nI i)] [] _ = _
  simp (disch := omega) only [b237_0, f206, h, isI_r hn hi, b237_5, n10, hI, aBi, aBv, aBl, nI_1, nIle_t, nIle_f, nIlt_t, nIlt_f, nIeq_t, nIeq_f, nIneg, nI_clamp, nat_le_f, nat_le_t, nat_lt_f, nat_lt_t, or_self, or_false, false_or, if_true, if_false, ↓reduceIte, Int32.or_zero, Int32.add_zero, nIm2, nIm3, nIm4, nIp2, nIp4, nIp6, nIp8, nIp14, nIp16, nIp22, nIp24, nIp30, nIq2, nIq3, nIq4, hasI_0, aU_s, aU_i, aU_r, aU_u]
theorem f237n {x : Int32} {n : Nat} (hn : n ≤ 8) (h : I 46 1 = nI n) (hx : noI x n) : aF d 237 [.ref 46, .int x] (g, I, J, aP1 sl rd rl) = some (some (some (.int (-1))), (g, I, J, aP1 sl rd rl)) := by
  show aE d 237 0 [.ref 46, .int x] [] _ = _
  simp (disch := omega) only [b237_0, f206, h, b237_5, aBi, aBv, aBl, nI_1, nIle_t, nIle_f, nIlt_t, nIlt_f, nIeq_t, nIeq_f, nIneg, nI_clamp, nat_le_f, nat_le_t, nat_lt_f, nat_lt_t, or_self, or_false, false_or, if_true, if_false, ↓reduceIte, Int32.or_zero, Int32.add_zero, nIm2, nIm3, nIm4, nIp2, nIp4, nIp6, nIp8, nIp14, nIp16, nIp22, nIp24, nIp30, nIq2, nIq3, nIq4, hasI_0, aU_s, aU_i, aU_r, aU_u]
  rw [if_pos (noI_r hn hx)]
theorem f238 {c i : Nat} (hi : i < 8) (hc : c < 2) (hI : I 47 (6 + i) = nI c) : aF d 238 [.ref 46, .int (nI i)] (g, I, J, aP1 sl rd rl) = some (some none, (g, aR I 47 (rDig (I 47) c i), J, aP1 sl rd rl)) := by
  show aE d 238 0 [.ref 46, .int (nI i)] [] _ = _
  simp (disch := omega) only [b238_0, hI, aU_R, aR_s, aR_u, aBi, aBv, aBl, nI_1, nIle_t, nIle_f, nIlt_t, nIlt_f, nIeq_t, nIeq_f, nIneg, nI_clamp, nat_le_f, nat_le_t, nat_lt_f, nat_lt_t, or_self, or_false, false_or, if_true, if_false, ↓reduceIte, Int32.or_zero, Int32.add_zero, nIm2, nIm3, nIm4, nIp2, nIp4, nIp6, nIp8, nIp14, nIp16, nIp22, nIp24, nIp30, nIq2, nIq3, nIq4, hasI_0, aU_s, aU_i, aU_r, aU_u]
  rfl
theorem f241 {q b n : Nat} (hb : b < 2) (hi : q < n) (hn : n ≤ 8) (h : I 46 6 = nI n) : aF d 241 [.ref 46, .int (nI q), .int (nI b)] (g, I, J, aP1 sl rd rl) = if I 47 (30 + q) = -1 then some (some (some (.int (0))), (g, I, J, aP1 sl rd rl)) else some (some (some (.int (-2))), (g, I, J, aP1 sl rd rl)) := by
  show aE d 241 0 [.ref 46, .int (nI q), .int (nI b)] [] _ = _
  simp (disch := omega) only [b241_0, f181, h, isI_r hn hi, b241_11, n10, inI_C, isC_n, b241_20, aBi, aBv, aBl, nI_1, nIle_t, nIle_f, nIlt_t, nIlt_f, nIeq_t, nIeq_f, nIneg, nI_clamp, nat_le_f, nat_le_t, nat_lt_f, nat_lt_t, or_self, or_false, false_or, if_true, if_false, ↓reduceIte, Int32.or_zero, Int32.add_zero, nIm2, nIm3, nIm4, nIp2, nIp4, nIp6, nIp8, nIp14, nIp16, nIp22, nIp24, nIp30, nIq2, nIq3, nIq4, hasI_0, aU_s, aU_i, aU_r, aU_u]
theorem inI_b {y : Int32} (h : y < 0 ∨ 1 < y) : isC y = 0 := by
  rw [← inI_C]; unfold inI
  rcases h with h | h
  · rw [if_pos h]
  · rw [if_pos h, ite_self]
theorem f241n {x y : Int32} {n : Nat} (hn : n ≤ 8) (h : I 46 6 = nI n) (hx : noI x n ∨ (y < 0 ∨ 1 < y)) : aF d 241 [.ref 46, .int x, .int y] (g, I, J, aP1 sl rd rl) = some (some (some (.int (-1))), (g, I, J, aP1 sl rd rl)) := by
  show aE d 241 0 [.ref 46, .int x, .int y] [] _ = _
  simp (disch := omega) only [b241_0, f181, h, b241_11, inI_C, b241_20, aBi, aBv, aBl, nI_1, nIle_t, nIle_f, nIlt_t, nIlt_f, nIeq_t, nIeq_f, nIneg, nI_clamp, nat_le_f, nat_le_t, nat_lt_f, nat_lt_t, or_self, or_false, false_or, if_true, if_false, ↓reduceIte, Int32.or_zero, Int32.add_zero, nIm2, nIm3, nIm4, nIp2, nIp4, nIp6, nIp8, nIp14, nIp16, nIp22, nIp24, nIp30, nIq2, nIq3, nIq4, hasI_0, aU_s, aU_i, aU_r, aU_u]
  rcases hx with hx | hx
  · rw [if_pos (noI_r hn hx)]
  · rw [if_pos (inI_b hx), ite_self]
