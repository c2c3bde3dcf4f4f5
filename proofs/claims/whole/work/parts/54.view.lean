/-! a state of the class, seen as one of the reference -/
def cV (f : Nat → Int32) : Nat → Int32 := fun i => if i < 6 then f i else if i < 14 then f (i + 2) else if i < 22 then hasI (f 7) (nI (i - 14)) else if i < 38 then f (i - 6) else if i = 38 then f 6 else 0
def rV (f : Nat → Int32) : Nat → Int32 := fun i => if i < 39 then f i else 0
theorem cV_congr {f h : Nat → Int32} (e : ∀ i, i < 32 → f i = h i) : cV f = cV h := by
  funext i
  unfold cV
  (repeat' split) <;> first | rfl | (exact e _ (by omega)) | rw [e 7 (by omega)]
theorem rV_congr {f h : Nat → Int32} (e : ∀ i, i < 39 → f i = h i) : rV f = rV h := by
  funext i
  unfold rV
  split
  · exact e _ (by omega)
  · rfl
theorem rV_lt (f : Nat → Int32) {i : Nat} (h : i < 39) : rV f i = f i := if_pos h
theorem rV_upd (f : Nat → Int32) {k : Nat} (v : Int32) (h : k < 39) : rV (upd f k v) = upd (rV f) k v := by
  funext i; simp only [rV, upd]
  (repeat' split) <;> first | rfl | (exfalso; omega)
theorem cV_updc (f : Nat → Int32) {k : Nat} (v : Int32) (h : k < 6) : cV (upd f k v) = upd (cV f) k v := by
  funext i; simp only [cV, upd, if_true, if_false, Nat.reduceEqDiff, ↓reduceIte]
  (repeat' split) <;> first | rfl | (exfalso; omega)
theorem cV_updl (f : Nat → Int32) {k : Nat} (v : Int32) (h : k < 8) : cV (upd f (8 + k) v) = upd (cV f) (6 + k) v := by
  funext i; simp only [cV, upd, if_true, if_false, Nat.reduceEqDiff, ↓reduceIte]
  (repeat' split) <;> first | rfl | (exfalso; omega)
theorem cV_updw (f : Nat → Int32) {k : Nat} (v : Int32) (h : k < 8) : cV (upd f (16 + k) v) = upd (cV f) (22 + k) v := by
  funext i; simp only [cV, upd, if_true, if_false, Nat.reduceEqDiff, ↓reduceIte]
  (repeat' split) <;> first | rfl | (exfalso; omega)
theorem cV_upds (f : Nat → Int32) {k : Nat} (v : Int32) (h : k < 8) : cV (upd f (24 + k) v) = upd (cV f) (30 + k) v := by
  funext i; simp only [cV, upd, if_true, if_false, Nat.reduceEqDiff, ↓reduceIte]
  (repeat' split) <;> first | rfl | (exfalso; omega)
theorem cV_updr (f : Nat → Int32) (v : Int32) : cV (upd f 6 v) = upd (cV f) 38 v := by
  funext i; simp only [cV, upd, if_true, if_false, Nat.reduceEqDiff, ↓reduceIte]
  (repeat' split) <;> first | rfl | (exfalso; omega)
theorem cV_c (f : Nat → Int32) {i : Nat} (h : i < 8) (h2 : i < 6) : cV f i = f i := by
  unfold cV
  (repeat' split) <;> first | rfl | (exfalso; omega) | (congr 1; omega)
theorem cV_l (f : Nat → Int32) {i : Nat} (h : i < 8)  : cV f (6 + i) = f (8 + i) := by
  unfold cV
  (repeat' split) <;> first | rfl | (exfalso; omega) | (congr 1; omega)
theorem cV_w (f : Nat → Int32) {i : Nat} (h : i < 8)  : cV f (22 + i) = f (16 + i) := by
  unfold cV
  (repeat' split) <;> first | rfl | (exfalso; omega) | (congr 1; omega)
theorem cV_s (f : Nat → Int32) {i : Nat} (h : i < 8)  : cV f (30 + i) = f (24 + i) := by
  unfold cV
  (repeat' split) <;> first | rfl | (exfalso; omega) | (congr 1; omega)
theorem cV_r (f : Nat → Int32) : cV f 38 = f 6 := rfl
theorem cV_x (f : Nat → Int32) {i : Nat} (h : i < 8) : cV f (14 + i) = tI (hasT (f 7) (nI i)) := by
  unfold cV
  rw [if_neg (by omega), if_neg (by omega), if_pos (by omega), show 14 + i - 14 = i by omega, hasI_T]
theorem cV_updx (f : Nat → Int32) {k : Nat} (h : k < 8) (x : Int32) (b : Bool) (e : ∀ i, i < 8 → bt x i = if i = k then b else bt (f 7) i) : cV (upd f 7 x) = upd (cV f) (14 + k) (tI b) := by
  funext i; simp only [cV, upd, if_true, if_false, Nat.reduceEqDiff, ↓reduceIte]
  (repeat' split) <;> first | rfl | (exfalso; omega) | skip
  · rename_i h1 h2 h3 h4
    subst h4
    rw [hasI_T, hasT_bt _ (by omega), e _ (by omega), if_pos (by omega)]
  · rename_i h1 h2 h3 h4
    rw [hasI_T, hasI_T, hasT_bt _ (by omega), hasT_bt _ (by omega), e _ (by omega), if_neg (by omega)]
theorem cV_or (f : Nat → Int32) {k : Nat} (h : k < 8) : cV (upd f 7 (f 7 ||| bit k)) = upd (cV f) (14 + k) 1 :=
  cV_updx f h _ true (fun i hi => by
    rw [b_or, b_bit (by omega) (by omega)]
    by_cases e : i = k
    · simp [e]
    · simp [e])
theorem cV_andn (f : Nat → Int32) {k : Nat} (h : k < 8) : cV (upd f 7 (f 7 &&& (bit k ^^^ (-1)))) = upd (cV f) (14 + k) 0 :=
  cV_updx f h _ false (fun i hi => by
    rw [b_and, b_not _ (by omega), b_bit (by omega) (by omega)]
    by_cases e : i = k
    · simp [e]
    · simp [e])
theorem cV_adM (f : Nat → Int32) {c : Nat} (v : Int32) (h : c < 2) : cV (adM f c v) = adM (cV f) c v := by
  unfold adM
  rw [cV_updc f _ (by omega), cV_c f (by omega) (by omega)]
theorem cV_adA (f : Nat → Int32) {c : Nat} (v : Int32) (h : c < 2) : cV (adA f c v) = adA (cV f) c v := by
  unfold adA
  rw [cV_updc f _ (by omega), cV_c f (by omega) (by omega)]
theorem rV_adM (f : Nat → Int32) {c : Nat} (v : Int32) (h : c < 2) : rV (adM f c v) = adM (rV f) c v := by
  unfold adM
  rw [rV_upd f _ (by omega), rV_lt f (by omega)]
theorem rV_adA (f : Nat → Int32) {c : Nat} (v : Int32) (h : c < 2) : rV (adA f c v) = adA (rV f) c v := by
  unfold adA
  rw [rV_upd f _ (by omega), rV_lt f (by omega)]
theorem adM_take {f : Nat → Int32} {c m p k : Nat} (hf : f c = nI m) (hm : m ≤ 9999) (hp : p ≤ m) (hk : k = m - p) : adM f c (-(nI p)) = upd f c (nI k) := by
  unfold adM mn9
  have e : f c + -(nI p) = nI k := by
    rw [hf, ← Int32.sub_eq_add_neg, pk_sub hp, hk]
  rw [e]
  split
  · rfl
  · rename_i h
    have : k = 9999 := by
      apply Classical.byContradiction; intro h2
      exact h (nI_lt (b := 9999) (by omega) (by decide))
    rw [this]; rfl
theorem rBuy_r (f : Nat → Int32) {c i : Nat} (p : Int32) (hc : c < 2) (hi : i < 8) : rV (rBuy f c i p) = rBuy (rV f) c i p := by
  unfold rBuy
  rw [rV_upd _ _ (by omega), rV_adM _ _ (by omega), rV_upd _ _ (by omega), rV_lt f (by omega)]
theorem rHex_r (f : Nat → Int32) {c i : Nat} (hc : c < 2) (hi : i < 8) : rV (rHex f c i) = rHex (rV f) c i := by
  unfold rHex
  rw [rV_upd _ _ (by omega), rV_upd _ _ (by omega), rV_lt f (by omega)]
theorem rDig_r (f : Nat → Int32) {c i : Nat} (hc : c < 2) (hi : i < 8) : rV (rDig f c i) = rDig (rV f) c i := by
  unfold rDig
  rw [rV_upd _ _ (by omega), rV_upd _ _ (by omega), rV_lt f (by omega)]
theorem rSide_r (f : Nat → Int32) {q b : Nat} (x y : Int32) (hq : q < 8) : rV (rSide f q b x y) = rSide (rV f) q b x y := by
  unfold rSide
  rw [rV_adA _ _ (by omega), rV_adA _ _ (by omega), rV_upd _ _ (by omega)]
theorem cBuy_v {f : Nat → Int32} {c i m p : Nat} (hc : c < 2) (hi : i < 8) (hf : f c = nI m) (hm : m ≤ 9999) (hp : p ≤ m) : cV (cBuy f c i (nI p)) = rBuy (cV f) c i (nI p) := by
  unfold cBuy rBuy
  rw [cV_updl _ _ hi, cV_adM _ _ (by omega), adM_take hf hm hp rfl, cV_updc _ _ (by omega), cV_c f (by omega) (by omega), hf, pk_sub hp]
theorem cHex_v {f : Nat → Int32} {c i m : Nat} (hc : c < 2) (hi : i < 8) (hf : f c = nI m) (hm : m ≤ 9999) (hp : 5 ≤ m) : cV (cHex f c i) = rHex (cV f) c i := by
  have e : adM f c (-5) = upd f c (nI (m - 5)) := adM_take (p := 5) hf hm hp rfl
  unfold cHex rHex
  rw [e, show f 7 = upd f c (nI (m - 5)) 7 from (upd_n _ _ (by omega)).symm, cV_or _ hi, cV_updc _ _ (by omega), cV_c f (by omega) (by omega), hf]
  congr 2
  exact (pk_sub (b := 5) hp).symm
theorem cDig_v {f : Nat → Int32} {c i m : Nat} (hc : c < 2) (hi : i < 8) (hf : f c = nI m) (hm : m ≤ 9999) (hp : 3 ≤ m) : cV (cDig f c i) = rDig (cV f) c i := by
  have e : adM f c (-3) = upd f c (nI (m - 3)) := adM_take (p := 3) hf hm hp rfl
  unfold cDig rDig
  rw [e, show f 7 = upd f c (nI (m - 3)) 7 from (upd_n _ _ (by omega)).symm, cV_andn _ hi, cV_updc _ _ (by omega), cV_c f (by omega) (by omega), hf]
  congr 2
  exact (pk_sub (b := 3) hp).symm
theorem cSide_v (f : Nat → Int32) {q b : Nat} (x y : Int32) (hq : q < 8) : cV (cSide f q b x y) = rSide (cV f) q b x y := by
  unfold cSide rSide
  rw [cV_upds _ _ hq, cV_adA _ _ (by omega), cV_adA _ _ (by omega)]
  unfold adA
  simp (disch := omega) only [upd_n, upd_s]
  funext j
  unfold upd
  (repeat' split) <;> first | rfl | (exfalso; omega)
