/-! rests, count, sheet: tied -/
variable {d : Nat} {g : Nat × Nat × Nat} {I : Nat → Nat → Int32} {J : Nat → Nat → Int64} {sl rd rl : Nat} {t n m q : Nat}
def bG (w x y : Int32) : Int32 := if x < y then 0 else w - y
def gG (w x y : Int32) : Int32 := if y ≤ x then 0 else w - x
theorem f160 (w x y : Int32) : aF d 160 [.int w, .int x, .int y] (g, I, J, aP1 sl rd rl) = some (some (some (.int (bG w x y))), (g, I, J, aP1 sl rd rl)) := by
  show aE d 160 0 [.int w, .int x, .int y] [] _ = _
  rw [b160_0]; unfold bG; split <;> rfl
theorem f161 (w x y : Int32) : aF d 161 [.int w, .int x, .int y] (g, I, J, aP1 sl rd rl) = some (some (some (.int (gG w x y))), (g, I, J, aP1 sl rd rl)) := by
  show aE d 161 0 [.int w, .int x, .int y] [] _ = _
  rw [b161_0]; unfold gG; split <;> rfl
theorem f285 (w x y : Int32) : aF d 285 [.int x, .int y, .int w] (g, I, J, aP1 sl rd rl) = some (some (some (.int (bG w x y))), (g, I, J, aP1 sl rd rl)) := by
  show aE d 285 0 [.int x, .int y, .int w] [] _ = _
  rw [b285_0]; unfold bG; split <;> rfl
theorem f286 (w x y : Int32) : aF d 286 [.int x, .int y, .int w] (g, I, J, aP1 sl rd rl) = some (some (some (.int (gG w x y))), (g, I, J, aP1 sl rd rl)) := by
  show aE d 286 0 [.int x, .int y, .int w] [] _ = _
  rw [b286_0]; unfold gG; split <;> rfl
def rsP (v u x y : Int32) : Nat → Nat → Bool
  | 0, _ => true
  | k + 1, z => if bG v x y < bG v (nI z) y then false else if gG u x (nI z) ≤ gG u x y then rsP v u x y k (z + 1) else false
theorem f159 (v u x y : Int32) : aF d 159 [.int v, .int u, .int x, .int y] (g, I, J, aP1 sl rd rl) = some (some (some (.int (tI (rsP v u x y 10 0)))), (g, I, J, aP1 sl rd rl)) := by
  have l : ∀ (k z : Nat), z + k = 10 → aE d 159 3 [.int v, .int u, .int x, .int y, .int (nI z)] [] (g, I, J, aP1 sl rd rl) = some (some (some (.int (tI (rsP v u x y k z)))), (g, I, J, aP1 sl rd rl)) := by
    intro k
    induction k with
    | zero => intro z hz; obtain rfl : z = 10 := by omega
              rw [b159_3, if_pos (by decide)]; rfl
    | succ k ih =>
      intro z hz
      rw [b159_3, if_neg (show ¬ 10 ≤ nI z from nI_ge (b := 10) (by omega) (by decide)), f160]
      simp only [aBi]
      rw [b159_17, f160]
      simp only [aBi]
      rw [b159_23]
      unfold rsP
      by_cases h1 : bG v x y < bG v (nI z) y
      · rw [if_pos h1, if_pos h1]; rfl
      · rw [if_neg h1, if_neg h1, f161]
        simp only [aBi]
        rw [b159_33, f161]
        simp only [aBi]
        rw [b159_39, nI_1]
        by_cases h2 : gG u x (nI z) ≤ gG u x y
        · rw [if_pos h2, if_pos h2]; exact ih (z + 1) (by omega)
        · rw [if_neg h2, if_neg h2]; rfl
  show aE d 159 0 [.int v, .int u, .int x, .int y, aNo] [] _ = _
  rw [b159_0]
  exact l 10 0 rfl
theorem f284 (v u x y : Int32) : aF d 284 [.int x, .int y, .int v, .int u] (g, I, J, aP1 sl rd rl) = some (some (some (.int (tI (rsP v u x y 10 0)))), (g, I, J, aP1 sl rd rl)) := by
  have l : ∀ (k z : Nat), z + k = 10 → aE d 284 3 [.int x, .int y, .int v, .int u, .int (nI z)] [] (g, I, J, aP1 sl rd rl) = some (some (some (.int (tI (rsP v u x y k z)))), (g, I, J, aP1 sl rd rl)) := by
    intro k
    induction k with
    | zero => intro z hz; obtain rfl : z = 10 := by omega
              rw [b284_3, if_pos (by decide)]; rfl
    | succ k ih =>
      intro z hz
      rw [b284_3, if_neg (show ¬ 9 < nI z from nI_nlt (a := 9) (by omega) (by decide)), f285]
      simp only [aBi]
      rw [b284_17, f285]
      simp only [aBi]
      rw [b284_23]
      unfold rsP
      by_cases h1 : bG v x y < bG v (nI z) y
      · rw [if_pos h1, if_pos h1]; rfl
      · rw [if_neg h1, if_neg h1, f286]
        simp only [aBi]
        rw [b284_33, f286]
        simp only [aBi]
        rw [b284_39, nI_1]
        by_cases h2 : gG u x (nI z) ≤ gG u x y
        · rw [if_pos h2, if_pos h2]; exact ih (z + 1) (by omega)
        · rw [if_neg h2, if_neg h2]; rfl
  show aE d 284 0 [.int x, .int y, .int v, .int u, aNo] [] _ = _
  rw [b284_0]
  exact l 10 0 rfl
/-- how many at rest, the first of them -/
def re1 (v u : Int32) (x y : Nat) (z : Nat × Nat × Nat) : Nat × Nat × Nat := if rsP v u (nI x) (nI y) 10 0 = true then (if z.1 = 0 then (1, x, y) else (z.1 + 1, z.2)) else z
def re2 (v u : Int32) (x : Nat) (z : Nat × Nat × Nat) : Nat × Nat × Nat := fo (re1 v u x) 10 0 z
def mZ (a : Nat) (z : Nat × Nat × Nat) (I : Nat → Nat → Int32) (k : Nat) : Nat → Nat → Int32 := aU I a k (if z.1 = 0 then 0 else 2)
def mJ (a : Nat) (z : Nat × Nat × Nat) (J : Nat → Nat → Int64) : Nat → Nat → Int64 := if z.1 = 0 then J else aU (aU J a 0 (Int32.toInt64 (nI z.2.1))) a 1 (Int32.toInt64 (nI z.2.2))
theorem re1_le {v u : Int32} {x y : Nat} {z : Nat × Nat × Nat} : (re1 v u x y z).1 ≤ z.1 + 1 := by
  unfold re1
  split
  · split
    · show 1 ≤ z.1 + 1; omega
    · show z.1 + 1 ≤ z.1 + 1; omega
  · omega
theorem tie_rests (H : zInv t n m q I J) (v u : Int32) : tie d 158 283 [.int v, .int u] t g I J sl rd := by
  by_cases hx : (v < 0 ∨ 9 < v) ∨ (u < 0 ∨ 9 < u)
  · have g9 : ∀ w : Int32, (9 < w) = (10 ≤ w) := fun w => propext (by rw [int_lt, int_le, show (9 : Int32).toInt = 9 from rfl, show (10 : Int32).toInt = 10 from rfl]; omega)
    refine tie_0 (rd2 := rd) (v := -1) H (Fr_r _ _) (th_F _) (th_46 _) ?_ ?_
    · show aE d 158 0 [.ref 6, .int v, .int u, aNo, aNo, aNo] [] _ = _
      rw [b158_0]
      rcases hx with (h | h) | (h | h)
      · rw [if_pos h]
      · rw [if_pos (c := 10 ≤ v) (by rw [← g9]; exact h), ite_self]
      · rw [if_pos h, ite_self, ite_self]
      · rw [if_neg (c := u < 10) (by rw [g9, int_le] at h; rw [int_lt]; omega), ite_self, ite_self, ite_self]
    · show aE d 283 0 [.ref 46, .int v, .int u, aNo, aNo, aNo] [] _ = _
      rw [b283_0, f181]
      simp only [aBi]
      rw [b283_12]
      by_cases h1 : v < 0 ∨ 9 < v
      · rw [inI_f h1, if_pos rfl]
      · rw [inI_t (fun h => h1 (Or.inl h)) (fun h => h1 (Or.inr h)), if_neg (by decide), f181]
        simp only [aBi]
        rw [b283_22, inI_f (hx.resolve_left h1), if_pos rfl]
  have x1 : ¬ v < 0 := fun h => hx (Or.inl (Or.inl h))
  have x2 : ¬ 9 < v := fun h => hx (Or.inl (Or.inr h))
  have x3 : ¬ u < 0 := fun h => hx (Or.inr (Or.inl h))
  have x4 : ¬ 9 < u := fun h => hx (Or.inr (Or.inr h))
  obtain ⟨V, hV, rfl⟩ := rng2 x1 x2 (by decide) (M := 9) rfl (by decide)
  obtain ⟨U, hU, rfl⟩ := rng2 x3 x4 (by decide) (M := 9) rfl (by decide)
  have inC : ∀ (x : Nat) (k y : Nat) (z : Nat × Nat × Nat), x < 10 → y + k = 10 → z.1 ≤ 10 * x + y → aE d 158 44 [.ref 6, .int (nI V), .int (nI U), .int (nI z.1), .int (nI x), .int (nI y)] [] (g, mZ 12 z I 1, mJ 13 z J, aP1 sl rd 56) = aE d 158 34 [.ref 6, .int (nI V), .int (nI U), .int (nI (fo (re1 (nI V) (nI U) x) k y z).1), .int (nI (x + 1)), .int (nI 10)] [] (g, mZ 12 (fo (re1 (nI V) (nI U) x) k y z) I 1, mJ 13 (fo (re1 (nI V) (nI U) x) k y z) J, aP1 sl rd 56) := by
    intro x k
    induction k with
    | zero => intro y z _ hy _; obtain rfl : y = 10 := by omega
              rw [b158_44, if_pos (by decide), nI_1]; rfl
    | succ k ih =>
      intro y z hxx hy hz
      have hz' : (re1 (nI V) (nI U) x y z).1 ≤ 10 * x + (y + 1) := Nat.le_trans re1_le (by omega)
      rw [fo_1, b158_44, if_neg (show ¬ 10 ≤ nI y from nI_ge (b := 10) (by omega) (by decide)), f159]
      simp only [aBi]
      rw [b158_60]
      cases hP : rsP (nI V) (nI U) (nI x) (nI y) 10 0
      · rw [if_pos tI_f, b158_87, nI_1]
        have e : re1 (nI V) (nI U) x y z = z := by unfold re1; rw [hP, if_neg (by decide)]
        rw [e]; rw [e] at hz'
        exact ih (y + 1) z hxx (by omega) hz'
      · rw [if_neg (by decide), nI_1]
        by_cases h0 : z.1 = 0
        · have e : re1 (nI V) (nI U) x y z = (1, x, y) := by unfold re1; rw [hP, if_pos rfl, if_pos h0]
          have m1 : mZ 12 z I 1 = aU I 12 1 0 := by unfold mZ; rw [if_pos h0]
          have m2 : mJ 13 z J = J := by unfold mJ; rw [if_pos h0]
          rw [h0, if_pos (by decide), m1, m2, f82, aU_u]
          simp only [aBv]
          rw [b158_87, nI_1, e]
          rw [e] at hz'
          exact ih (y + 1) (1, x, y) hxx (by omega) hz'
        · have e : re1 (nI V) (nI U) x y z = (z.1 + 1, z.2) := by unfold re1; rw [hP, if_pos rfl, if_neg h0]
          rw [if_neg (show ¬ nI (z.1 + 1) = 1 from fun h => h0 (by have := (nI_eq (b := 1) (by omega) (by decide)).mp h; omega)), b158_87, nI_1, e]
          rw [e] at hz'
          have m1 : mZ 12 z I 1 = mZ 12 (z.1 + 1, z.2) I 1 := by unfold mZ; rw [if_neg h0, if_neg (by omega)]
          have m2 : mJ 13 z J = mJ 13 (z.1 + 1, z.2) J := by unfold mJ; rw [if_neg h0, if_neg (by omega)]
          rw [m1, m2]
          exact ih (y + 1) (z.1 + 1, z.2) hxx (by omega) hz'
  have ztop : ∀ (k y x : Nat) (z : Nat × Nat × Nat), (fo (re1 (nI V) (nI U) x) k y z).1 ≤ z.1 + k := by
    intro k
    induction k with
    | zero => intro y x z; exact Nat.le_refl _
    | succ k ih => intro y x z; rw [fo_1]; exact Nat.le_trans (ih _ _ _) (by have := @re1_le (nI V) (nI U) x y z; omega)
  have outC : ∀ (k x : Nat) (z : Nat × Nat × Nat) (w5 : Value), x + k = 10 → z.1 ≤ 10 * x → aE d 158 34 [.ref 6, .int (nI V), .int (nI U), .int (nI z.1), .int (nI x), w5] [] (g, mZ 12 z I 1, mJ 13 z J, aP1 sl rd 56) = some (some (some (.int (nI (fo (re2 (nI V) (nI U)) k x z).1))), (g, mZ 12 (fo (re2 (nI V) (nI U)) k x z) I 1, mJ 13 (fo (re2 (nI V) (nI U)) k x z) J, aP1 sl rd 56)) := by
    intro k
    induction k with
    | zero => intro x z w5 hxx _; obtain rfl : x = 10 := by omega
              rw [b158_34, if_pos (by decide)]; rfl
    | succ k ih =>
      intro x z w5 hxx hz
      have i0 := inC x 10 0 z (by omega) rfl (by omega)
      have i0 : aE d 158 44 [.ref 6, .int (nI V), .int (nI U), .int (nI z.1), .int (nI x), .int 0] [] (g, mZ 12 z I 1, mJ 13 z J, aP1 sl rd 56) = _ := i0
      rw [fo_1, b158_34, if_neg (show ¬ 10 ≤ nI x from nI_ge (b := 10) (by omega) (by decide)), i0]
      exact ih (x + 1) (re2 (nI V) (nI U) x z) _ (by omega) (Nat.le_trans (ztop 10 0 x z) (by omega))
  have inR : ∀ (I1 : Nat → Nat → Int32) (J1 : Nat → Nat → Int64) (x : Nat) (k y : Nat) (z : Nat × Nat × Nat), x < 10 → y + k = 10 → z.1 ≤ 10 * x + y → aE d 283 47 [.ref 46, .int (nI V), .int (nI U), .int (nI z.1), .int (nI x), .int (nI y)] [] (g, mZ 46 z I1 12, mJ 53 z J1, aP1 sl rd 56) = aE d 283 37 [.ref 46, .int (nI V), .int (nI U), .int (nI (fo (re1 (nI V) (nI U) x) k y z).1), .int (nI (x + 1)), .int (nI 10)] [] (g, mZ 46 (fo (re1 (nI V) (nI U) x) k y z) I1 12, mJ 53 (fo (re1 (nI V) (nI U) x) k y z) J1, aP1 sl rd 56) := by
    intro I1 J1 x k
    induction k with
    | zero => intro y z _ hy _; obtain rfl : y = 10 := by omega
              rw [b283_47, if_pos (by decide), nI_1]; rfl
    | succ k ih =>
      intro y z hxx hy hz
      have hz' : (re1 (nI V) (nI U) x y z).1 ≤ 10 * x + (y + 1) := Nat.le_trans re1_le (by omega)
      rw [fo_1, b283_47, if_neg (show ¬ 9 < nI y from nI_nlt (a := 9) (by omega) (by decide)), f284]
      simp only [aBi]
      rw [b283_63]
      cases hP : rsP (nI V) (nI U) (nI x) (nI y) 10 0
      · rw [if_pos tI_f, nI_1]
        have e : re1 (nI V) (nI U) x y z = z := by unfold re1; rw [hP, if_neg (by decide)]
        rw [e]; rw [e] at hz'
        exact ih (y + 1) z hxx (by omega) hz'
      · rw [if_neg (by decide)]
        by_cases h0 : z.1 = 0
        · have e : re1 (nI V) (nI U) x y z = (1, x, y) := by unfold re1; rw [hP, if_pos rfl, if_pos h0]
          have m1 : mZ 46 z I1 12 = aU I1 46 12 0 := by unfold mZ; rw [if_pos h0]
          have m2 : mJ 53 z J1 = J1 := by unfold mJ; rw [if_pos h0]
          rw [h0, if_pos (show nI 0 = (0 : Int32) from rfl), m1, m2, tell0]
          simp only [aBv]
          rw [b283_80, tell1]
          simp only [aBv]
          rw [b283_87, nI_1, nI_1, e]
          rw [e] at hz'
          exact ih (y + 1) (1, x, y) hxx (by omega) hz'
        · have e : re1 (nI V) (nI U) x y z = (z.1 + 1, z.2) := by unfold re1; rw [hP, if_pos rfl, if_neg h0]
          rw [if_neg (nIz (by omega) (by omega)), b283_87, nI_1, nI_1, e]
          rw [e] at hz'
          have m1 : mZ 46 z I1 12 = mZ 46 (z.1 + 1, z.2) I1 12 := by unfold mZ; rw [if_neg h0, if_neg (by omega)]
          have m2 : mJ 53 z J1 = mJ 53 (z.1 + 1, z.2) J1 := by unfold mJ; rw [if_neg h0, if_neg (by omega)]
          rw [m1, m2]
          exact ih (y + 1) (z.1 + 1, z.2) hxx (by omega) hz'
  have outR : ∀ (I1 : Nat → Nat → Int32) (J1 : Nat → Nat → Int64) (k x : Nat) (z : Nat × Nat × Nat) (w5 : Value), x + k = 10 → z.1 ≤ 10 * x → aE d 283 37 [.ref 46, .int (nI V), .int (nI U), .int (nI z.1), .int (nI x), w5] [] (g, mZ 46 z I1 12, mJ 53 z J1, aP1 sl rd 56) = some (some (some (.int (nI (fo (re2 (nI V) (nI U)) k x z).1))), (g, mZ 46 (fo (re2 (nI V) (nI U)) k x z) I1 12, mJ 53 (fo (re2 (nI V) (nI U)) k x z) J1, aP1 sl rd 56)) := by
    intro I1 J1 k
    induction k with
    | zero => intro x z w5 hxx _; obtain rfl : x = 10 := by omega
              rw [b283_37, if_pos (by decide)]; rfl
    | succ k ih =>
      intro x z w5 hxx hz
      have i0 := inR I1 J1 x 10 0 z (by omega) rfl (by omega)
      have i0 : aE d 283 47 [.ref 46, .int (nI V), .int (nI U), .int (nI z.1), .int (nI x), .int 0] [] (g, mZ 46 z I1 12, mJ 53 z J1, aP1 sl rd 56) = _ := i0
      rw [fo_1, b283_37, if_neg (show ¬ 9 < nI x from nI_nlt (a := 9) (by omega) (by decide)), i0]
      exact ih (x + 1) (re2 (nI V) (nI U) x z) _ (by omega) (Nat.le_trans (ztop 10 0 x z) (by omega))
  have e1 := outC 10 0 (0, 0, 0) aNo rfl (by decide)
  have e2 := fun I1 J1 => outR I1 J1 10 0 (0, 0, 0) aNo rfl (by decide)
  generalize fo (re2 (nI V) (nI U)) 10 0 (0, 0, 0) = Z at e1 e2
  have e3 := e2 (aU (mZ 12 Z I 1) 46 13 0) (mJ 13 Z J)
  refine tie_R H (Fr12 _ _) (FrT (mZ 12 Z I 1) _).1 (FrT (mZ 12 Z I 1) _).2 ?_ (Eq.trans ?_ e1) (Eq.trans ?_ e3)
  · show zR (aU (aU (mZ 12 Z I 1) 46 13 0) 46 12 (if Z.1 = 0 then 0 else 2) 12 1) (aU (aU (mZ 12 Z I 1) 46 13 0) 46 12 (if Z.1 = 0 then 0 else 2) 46 12) (mJ 53 Z (mJ 13 Z J) 13) (mJ 53 Z (mJ 13 Z J) 53)
    unfold mZ mJ
    by_cases h0 : Z.1 = 0
    · simp only [h0, if_true]
      refine ⟨0, by decide, ?_, ?_, fun i hi => by omega⟩
      · simp (disch := decide) only [aU_r, aU_s]; rfl
      · simp (disch := decide) only [aU_r, aU_s]; rfl
    · simp only [h0, if_false]
      refine zR_2 ?_ ?_ ?_ ?_
      · simp (disch := decide) only [aU_r, aU_s]
      · simp (disch := decide) only [aU_r, aU_s]
      · simp (disch := decide) only [aU_r, aU_i, aU_s]
      · simp (disch := decide) only [aU_r, aU_i, aU_s]
  · show aE d 158 0 [.ref 6, .int (nI V), .int (nI U), aNo, aNo, aNo] [] _ = _
    rw [b158_0, if_neg x1, if_neg (show ¬ 10 ≤ nI V from nI_ge (b := 10) (by omega) (by decide)), if_neg x3, if_pos (show nI U < 10 from nI_lt (b := 10) (by omega) (by decide)), f84]
    simp only [aBv]
    rw [b158_29]
    rfl
  · show aE d 283 0 [.ref 46, .int (nI V), .int (nI U), aNo, aNo, aNo] [] _ = _
    rw [b283_0, f181, inI_t x1 x2]
    simp only [aBi]
    rw [b283_12, if_neg (by decide), f181, inI_t x3 x4]
    simp only [aBi]
    rw [b283_22, if_neg (by decide)]
    rfl
/-! count -/
theorem f294 (H : zInv t n m q I J) {I1 : Nat → Nat → Int32} {J1 : Nat → Nat → Int64} (e1 : I1 46 1 = nI n) (e47 : I1 47 = I 47) : aF d 294 [.ref 46] (g, I1, J1, aP1 sl rd rl) = some (some (some (.int (I 24 7))), (g, I1, J1, aP1 sl rd rl)) := by
  obtain ⟨hn, -⟩ := H.2.2.1
  have hS := H.2.2.2.2.2.2.1
  have l : ∀ (k j : Nat) (acc : Int32), j + k = n → (∀ i, i < 32 → bt acc i = (decide (i < j) && bt (I 24 7) i)) → aE d 294 4 [.ref 46, .int acc, .int (nI j)] [] (g, I1, J1, aP1 sl rd rl) = some (some (some (.int (I 24 7))), (g, I1, J1, aP1 sl rd rl)) := by
    intro k
    induction k with
    | zero =>
      intro j acc hj hacc
      obtain rfl : j = n := by omega
      rw [b294_4, if_pos (by rw [e1]; exact Int32.le_refl _)]
      rw [show acc = I 24 7 from b_ext (fun i hi => by
        rw [hacc i hi]
        by_cases h : i < j
        · rw [decide_eq_true h, Bool.true_and]
        · rw [decide_eq_false h, Bool.false_and]
          by_cases h8 : i < 8
          · have a := (hS.2.1.2.2.2.1 i (by omega) h8).1
            rw [rV_lt _ (by omega), okS_x hS h8, hasT_bt _ hi] at a
            revert a
            cases bt (I 24 7) i <;> decide
          · exact (hS.2.2 i (by omega) hi).symm)]
    | succ k ih =>
      intro j acc hj hacc
      rw [b294_4, if_neg (by rw [e1]; exact nI_ge (by omega) (by omega))]
      simp (disch := omega) only [e47, aBi, aBv, aBl, nI_1, nIle_t, nIle_f, nIlt_t, nIlt_f, nIeq_t, nIeq_f, nIneg, nI_clamp, nat_le_f, nat_le_t, nat_lt_f, nat_lt_t, or_self, or_false, false_or, if_true, if_false, ↓reduceIte, Int32.or_zero, Int32.add_zero, nIm2, nIm3, nIm4, nIp2, nIp4, nIp6, nIp8, nIp14, nIp16, nIp22, nIp24, nIp30, nIq2, nIq3, nIq4, hasI_0, aU_s, aU_i, aU_r, aU_u]
      refine ih (j + 1) _ (by omega) (fun i hi => ?_)
      rw [okS_x hS (show j < 8 by omega), hasT_bt _ (by omega), b_or, hacc i hi]
      have sh : bt (tI (bt (I 24 7) j) <<< (nI j &&& 31)) i = (decide (i = j) && bt (I 24 7) j) := by
        cases bt (I 24 7) j
        · rw [show tI false = 0 from rfl, b_shl j (by omega) 0 hi, b_0]; simp
        · rw [show tI true <<< (nI j &&& 31) = bit j from rfl, b_bit (by omega) hi, Bool.and_true]
      rw [sh]
      by_cases e : i = j
      · subst e
        rw [decide_eq_false (show ¬ i < i by omega), decide_eq_true (show i < i + 1 by omega), decide_eq_true (rfl : i = i)]
        simp
      · have e2 : decide (i < j) = decide (i < j + 1) := decide_eq_decide.mpr (by omega)
        rw [decide_eq_false e, e2]; simp
  show aE d 294 0 [.ref 46, aNo, aNo] [] _ = _
  rw [b294_0]
  exact l n 0 0 (by omega) (fun i hi => by rw [b_0]; simp)
theorem tie_count (H : zInv t n m q I J) (a : Int32) : tie d 168 293 [.int a] t g I J sl rd := by
  obtain ⟨hn, n1, n2, -⟩ := H.2.2.1
  obtain ⟨hm, m1, m2, -⟩ := H.2.2.2.1
  obtain ⟨hq, q1, q2, -⟩ := H.2.2.2.2.1
  have hL := H.2.2.2.2.2.1
  have hS := H.2.2.2.2.2.2.1
  obtain ⟨k, h1, h2, h3, h4⟩ := zH_get H
  obtain ⟨u, x, u1, u2, u3, u4, u5, u6⟩ := zU_get H
  obtain ⟨r, r1, r2, r3, r4⟩ := H.2.1
  obtain ⟨l, l1, l2, l3, -⟩ := H.1
  obtain ⟨L, hLL, s1, s2, s3⟩ := sd_get (d := d) (g := g) (sl := sl) (rd := rd) (rl := 56) H
  have c46 : ∀ j, j ≠ 13 → aU I 46 13 0 46 j = I 46 j := fun j h => aU_i _ _ h
  have go : ∀ v : Int32, aE d 168 1 [.ref 6, .int a] [.int a] (g, I, J, aP1 sl rd 56) = some (some (some (.int v)), (g, I, J, aP1 sl rd 56)) → aE d 293 6 [.ref 46, .int a] [.int a] (g, aU I 46 13 0, J, aP1 sl rd 56) = some (some (some (.int v)), (g, aU I 46 13 0, J, aP1 sl rd 56)) → tie d 168 293 [.int a] t g I J sl rd := by
    intro v e1 e2
    refine tie_0 (rd2 := rd) (v := v) H (Fr_r _ _) (th_F _) (th_46 _) ?_ ?_
    · show aE d 168 0 [.ref 6, .int a] [] _ = _
      rw [b168_0]; exact e1
    · show aE d 293 0 [.ref 46, .int a] [] _ = _
      rw [b293_0]; exact e2
  rcases pk_ix a (by decide : 12 < 2 ^ 31) with ha | ha | ⟨j, hj, rfl⟩
  · have h : a.toInt < 0 ∨ 11 < a.toInt := Or.inl (by rw [int_lt] at ha; exact ha)
    exact go (-1) (by rw [s168_1 _ _ _ _ h, b168_189]) (by rw [s293_6 _ _ _ _ h, b293_154])
  · have h : a.toInt < 0 ∨ 11 < a.toInt := Or.inr (by rw [int_le] at ha; have : (nI 12).toInt = 12 := rfl; omega)
    exact go (-1) (by rw [s168_1 _ _ _ _ h, b168_189]) (by rw [s293_6 _ _ _ _ h, b293_154])
  · rcases (by omega : j = 0 ∨ j = 1 ∨ j = 2 ∨ j = 3 ∨ j = 4 ∨ j = 5 ∨ j = 6 ∨ j = 7 ∨ j = 8 ∨ j = 9 ∨ j = 10 ∨ j = 11) with rfl | rfl | rfl | rfl | rfl | rfl | rfl | rfl | rfl | rfl | rfl | rfl
    · exact go (nI n) ((b168_1_c0 ..).trans (by rw [n1])) ((b293_6_c0 ..).trans (by rw [c46 1 (by decide), n2]))
    · exact go (nI m) ((b168_1_c1 ..).trans (by rw [m1])) ((b293_6_c1 ..).trans (by rw [c46 4 (by decide), m2]))
    · exact go (nI q) ((b168_1_c2 ..).trans (by rw [q1])) ((b293_6_c2 ..).trans (by rw [c46 6 (by decide), q2]))
    · exact go (I 14 11) (b168_1_c3 ..) ((b293_6_c3 ..).trans (by rw [c46 8 (by decide), hL]))
    · exact go (I 24 6) ((b168_1_c4 ..).trans (by rw [f71_23]; simp only [aBi]; rw [b168_103])) ((b293_6_c4 ..).trans (by rw [aU_r _ _ (by decide), okS_r hS]))
    · exact go (tI (jn (I 24) (I 14 11))) ((b168_1_c5 ..).trans (by rw [f78_23, jn_c]; simp only [aBi]; rw [b168_115, tIif])) ((b293_6_c5 ..).trans (by rw [f228_47, jn_r, c46 8 (by decide), aU_r _ _ (by decide), jn_S hS, ← hL]; simp only [aBi]; rw [b293_104, tIif]))
    · exact go (I 24 7) ((b168_1_c6 ..).trans (by rw [f69_23]; simp only [aBi]; rw [b168_131])) ((b293_6_c6 ..).trans (by rw [f294 H (by rw [c46 1 (by decide)]; exact n2) (aU_r _ _ (by decide))]; simp only [aBi]; rw [b293_117]))
    · exact go (fN (nI q) &&& (nI L ^^^ (-1))) ((b168_1_c7 ..).trans (by rw [f132, q1]; simp only [aBi]; rw [b168_142, s1 I J rfl rfl]; simp only [aBi]; rw [b168_153])) ((b293_6_c7 ..).trans (by rw [s2 _ J (aU_r _ _ (by decide)) (c46 6 (by decide)), c46 6 (by decide), q2]; simp only [aBi]; rw [b293_130]; rfl))
    · exact go (nI k) ((b168_1_c8 ..).trans (by rw [h2])) ((b293_6_c8 ..).trans (by rw [c46 35 (by decide), h3]))
    · exact go (nI u) ((b168_1_c9 ..).trans (by rw [u1])) ((b293_6_c9 ..).trans (by rw [c46 26 (by decide), u5]))
    · exact go (nI r) ((b168_1_c10 ..).trans (by rw [r2])) ((b293_6_c10 ..).trans (by rw [c46 12 (by decide), r3]))
    · exact go (nI l) ((b168_1_c11 ..).trans (by rw [l2])) ((b293_6_c11 ..).trans (by rw [c46 10 (by decide), l3]))
/-! sheet -/
def c99 (x : Int32) : Int32 := if 0 < (if x < 99 then x else 99) then (if x < 99 then x else 99) else 0
theorem c99_ok (x : Int32) : ∃ p, p ≤ 99 ∧ c99 x = nI p := by
  unfold c99
  by_cases h : x < 99
  · rw [if_pos h]
    by_cases h2 : 0 < x
    · rw [if_pos h2]
      refine nI_of2 (M := 99) (n := 99) rfl (fun q => ?_) ?_
      · rw [int_lt] at *; omega
      · rw [int_le]; rw [int_lt] at h; omega
    · rw [if_neg h2]; exact ⟨0, by decide, rfl⟩
  · rw [if_neg h, if_pos (by decide)]; exact ⟨99, by decide, rfl⟩
def kd (k v : Int32) : Int32 := if k = 0 then Int8.toInt32 (Int32.toInt8 v) else if k = 1 then Int16.toInt32 (Int32.toInt16 v) else v
theorem f61 (k v : Int32) : aF d 61 [.int k, .int v] (g, I, J, aP1 sl rd rl) = some (some (some (.int (c99 (kd k v)))), (g, I, J, aP1 sl rd rl)) := by
  show aE d 61 0 [.int k, .int v, aNo] [] _ = _
  rw [b61_0]
  unfold kd
  by_cases h0 : k = 0
  · rw [if_pos h0, if_pos h0]; rfl
  · rw [if_neg h0, if_neg h0]
    by_cases h1 : k = 1
    · rw [if_pos h1, if_pos h1]; rfl
    · rw [if_neg h1, if_neg h1]; rfl
/-- the price of driver j -/
def shP (k N f s : Int32) (j : Nat) : Int32 := if k = 3 ∨ N ≤ nI j then 0 else c99 (kd k (f + nI j * s))
def pR (r pr : Nat → Int32) (j : Nat) : Nat → Int32 := fun i => if i < j then pr i else r i
theorem pR_0 (r pr : Nat → Int32) : pR r pr 0 = r := by funext i; exact if_neg (by omega)
theorem pR_1 (r pr : Nat → Int32) (j : Nat) : upd (pR r pr j) j (pr j) = pR r pr (j + 1) := by
  funext i
  unfold upd pR
  by_cases h : i = j
  · subst h; rw [if_pos rfl, if_pos (by omega)]
  · rw [if_neg h]
    by_cases h2 : i < j
    · rw [if_pos h2, if_pos (by omega)]
    · rw [if_neg h2, if_neg (by omega)]
theorem tie_sheet (H : zInv t n m q I J) (k N f s : Int32) : tie d 60 219 [.int k, .int N, .int f, .int s] t g I J sl rd := by
  obtain ⟨hn, d1, d2, d3⟩ := H.2.2.1
  by_cases hk : k < 0 ∨ 3 < k
  · refine tie_0 (rd2 := rd) (v := -1) H (Fr_r _ _) (th_F _) (th_46 _) ?_ ?_
    · show aE d 60 0 [.ref 6, .int k, .int N, .int f, .int s, aNo, aNo, aNo, aNo] [] _ = _
      rw [b60_0]
      rcases hk with h | h
      · rw [if_pos h]
      · rw [if_pos h, ite_self]
    · show aE d 219 0 [.ref 46, .int k, .int N, .int f, .int s, aNo, aNo, aNo, aNo] [] _ = _
      rw [b219_0, f181, inI_f hk]
      simp only [aBi]
      rw [b219_11, if_pos rfl, b219_20]
  have k1 : ¬ k < 0 := fun h => hk (Or.inl h)
  have k2 : ¬ 3 < k := fun h => hk (Or.inr h)
  by_cases hN : N ≤ 8
  case neg =>
    refine tie_0 (rd2 := rd) (v := -1) H (Fr_r _ _) (th_F _) (th_46 _) ?_ ?_
    · show aE d 60 0 [.ref 6, .int k, .int N, .int f, .int s, aNo, aNo, aNo, aNo] [] _ = _
      rw [b60_0, if_neg k1, if_neg k2, if_neg hN]
    · show aE d 219 0 [.ref 46, .int k, .int N, .int f, .int s, aNo, aNo, aNo, aNo] [] _ = _
      rw [b219_0, f181, inI_t k1 k2]
      simp only [aBi]
      rw [b219_11, if_neg (by decide), if_neg hN, b219_20]
  by_cases hs : ¬ 3 ≤ k ∧ ¬ 0 ≤ N
  · refine tie_0 (rd2 := rd) (v := -2) H (Fr_r _ _) (th_F _) (th_46 _) ?_ ?_
    · show aE d 60 0 [.ref 6, .int k, .int N, .int f, .int s, aNo, aNo, aNo, aNo] [] _ = _
      rw [b60_0, if_neg k1, if_neg k2, if_pos hN, if_neg hs.1, if_neg hs.2]
    · show aE d 219 0 [.ref 46, .int k, .int N, .int f, .int s, aNo, aNo, aNo, aNo] [] _ = _
      rw [b219_0, f181, inI_t k1 k2]
      simp only [aBi]
      rw [b219_11, if_neg (by decide), if_pos hN, if_neg hs.1, if_neg hs.2]
  generalize hE : (if k = 3 then (0 : Int32) else N) = E
  have C0 : aF d 60 [.ref 6, .int k, .int N, .int f, .int s] (g, I, J, aP1 sl rd 56) = aE d 60 47 [.ref 6, .int k, .int N, .int f, .int s, .int E, .int 0, .int (nI 0), aNo] [] (g, I, J, aP1 sl rd 56) := by
    show aE d 60 0 [.ref 6, .int k, .int N, .int f, .int s, aNo, aNo, aNo, aNo] [] _ = _
    have e : (if k = 3 then aE d 60 47 [.ref 6, .int k, .int N, .int f, .int s, .int 0, .int 0, .int 0, aNo] [] (g, I, J, aP1 sl rd 56) else aE d 60 47 [.ref 6, .int k, .int N, .int f, .int s, .int N, .int 0, .int 0, aNo] [] (g, I, J, aP1 sl rd 56)) = aE d 60 47 [.ref 6, .int k, .int N, .int f, .int s, .int E, .int 0, .int (nI 0), aNo] [] (g, I, J, aP1 sl rd 56) := by
      rw [← hE]
      by_cases h : k = 3
      · rw [if_pos h, if_pos h]; rfl
      · rw [if_neg h, if_neg h]; rfl
    rw [b60_0, if_neg k1, if_neg k2, if_pos hN]
    by_cases h3 : 3 ≤ k
    · rw [if_pos h3]; exact e
    · rw [if_neg h3, if_pos (Classical.byContradiction fun h => hs ⟨h3, h⟩)]; exact e
  have R0 : ∀ (I1 : Nat → Nat → Int32) (J1 : Nat → Nat → Int64), aF d 219 [.ref 46, .int k, .int N, .int f, .int s] (g, I1, J1, aP1 sl rd 56) = aE d 219 43 [.ref 46, .int k, .int N, .int f, .int s, .int 0, .int f, .int (nI 0), aNo] [] (g, aU I1 46 13 0, J1, aP1 sl rd 56) := by
    intro I1 J1
    show aE d 219 0 [.ref 46, .int k, .int N, .int f, .int s, aNo, aNo, aNo, aNo] [] _ = _
    rw [b219_0, f181, inI_t k1 k2]
    simp only [aBi]
    rw [b219_11, if_neg (by decide), if_pos hN]
    by_cases h3 : 3 ≤ k
    · rw [if_pos h3, b219_34]; rfl
    · rw [if_neg h3, if_pos (Classical.byContradiction fun h => hs ⟨h3, h⟩), b219_34]; rfl
  have hcond : ∀ j : Nat, j < 8 → ((E ≤ nI j) = (k = 3 ∨ N ≤ nI j)) := by
    intro j hj
    rw [← hE]
    by_cases h : k = 3
    · rw [if_pos h]; exact propext ⟨fun _ => Or.inl h, fun _ => nI_pos' (by omega)⟩
    · rw [if_neg h]; exact propext ⟨fun h2 => Or.inr h2, fun h2 => h2.resolve_left h⟩
  have lC : ∀ (c j : Nat) (acc : Int32) (w8 : Value), j + c = n → aE d 60 47 [.ref 6, .int k, .int N, .int f, .int s, .int E, .int acc, .int (nI j), w8] [] (g, aR I 16 (pR (I 16) (shP k N f s) j), J, aP1 sl rd 56) = some (some (some (.int (if k = 3 then -3 else fo (fun i a => a + shP k N f s i) c j acc))), (g, aR I 16 (pR (I 16) (shP k N f s) n), J, aP1 sl rd 56)) := by
    intro c
    induction c with
    | zero =>
      intro j acc w8 hj
      obtain rfl : j = n := by omega
      rw [b60_47, if_pos (by rw [aR_r _ _ (by decide), d1]; exact Int32.le_refl _)]
      by_cases h : k = 3
      · rw [if_pos h, if_pos h]
      · rw [if_neg h, if_neg h]; rfl
    | succ c ih =>
      intro j acc w8 hj
      rw [fo_1, b60_47, if_neg (by rw [aR_r _ _ (by decide), d1]; exact nI_ge (by omega) (by omega))]
      have hcj := hcond j (by omega)
      have nx : ∀ (p : Int32) (w : Value), p = shP k N f s j → aE d 60 47 [.ref 6, .int k, .int N, .int f, .int s, .int E, .int (acc + p), .int (nI (j + 1)), w] [] (g, aU (aR I 16 (pR (I 16) (shP k N f s) j)) 16 j p, J, aP1 sl rd 56) = some (some (some (.int (if k = 3 then -3 else fo (fun i a => a + shP k N f s i) c (j + 1) (acc + shP k N f s j)))), (g, aR I 16 (pR (I 16) (shP k N f s) n), J, aP1 sl rd 56)) := by
        intro p w hp
        rw [hp, aU_R, aR_s, aR_u, pR_1]
        exact ih (j + 1) _ w (by omega)
      by_cases z : E ≤ nI j
      · rw [if_pos z]
        have hp : (0 : Int32) = shP k N f s j := by unfold shP; rw [if_pos (hcj.mp z)]
        simp (disch := omega) only [nIneg, nI_clamp, nat_le_f, or_self, if_false, nI_1]
        exact nx 0 _ hp
      · rw [if_neg z, f61]
        simp only [aBi]
        rw [b60_77]
        have hp : c99 (kd k (f + nI j * s)) = shP k N f s j := by unfold shP; rw [if_neg (fun h => z (hcj.mpr h))]
        simp (disch := omega) only [nIneg, nI_clamp, nat_le_f, or_self, if_false, nI_1]
        exact nx _ _ hp
  have lR : ∀ (I1 : Nat → Nat → Int32) (J1 : Nat → Nat → Int64), I1 46 1 = nI n → ∀ (c j : Nat) (acc : Int32) (w8 : Value), j + c = n → aE d 219 43 [.ref 46, .int k, .int N, .int f, .int s, .int acc, .int (f + nI j * s), .int (nI j), w8] [] (g, aR I1 49 (pR (I1 49) (shP k N f s) j), J1, aP1 sl rd 56) = some (some (some (.int (if k = 3 then -3 else fo (fun i a => a + shP k N f s i) c j acc))), (g, aR I1 49 (pR (I1 49) (shP k N f s) n), J1, aP1 sl rd 56)) := by
    intro I1 J1 h1 c
    induction c with
    | zero =>
      intro j acc w8 hj
      obtain rfl : j = n := by omega
      rw [b219_43, if_pos (by rw [aR_r _ _ (by decide), h1]; exact Int32.le_refl _)]
      by_cases h : k = 3
      · rw [if_pos h, if_pos h, b219_147]
      · rw [if_neg h, if_neg h, b219_147]; rfl
    | succ c ih =>
      intro j acc w8 hj
      rw [fo_1, b219_43, if_neg (by rw [aR_r _ _ (by decide), h1]; exact nI_ge (by omega) (by omega))]
      have e75 : (if k = 0 then aE d 219 75 [.ref 46, .int k, .int N, .int f, .int s, .int acc, .int (f + nI j * s), .int (nI j), w8] [.int (Int8.toInt32 (Int32.toInt8 (f + nI j * s)))] (g, aR I1 49 (pR (I1 49) (shP k N f s) j), J1, aP1 sl rd 56) else if k = 1 then aE d 219 75 [.ref 46, .int k, .int N, .int f, .int s, .int acc, .int (f + nI j * s), .int (nI j), w8] [.int (Int16.toInt32 (Int32.toInt16 (f + nI j * s)))] (g, aR I1 49 (pR (I1 49) (shP k N f s) j), J1, aP1 sl rd 56) else aE d 219 75 [.ref 46, .int k, .int N, .int f, .int s, .int acc, .int (f + nI j * s), .int (nI j), w8] [.int (f + nI j * s)] (g, aR I1 49 (pR (I1 49) (shP k N f s) j), J1, aP1 sl rd 56)) = aE d 219 75 [.ref 46, .int k, .int N, .int f, .int s, .int acc, .int (f + nI j * s), .int (nI j), w8] [.int (kd k (f + nI j * s))] (g, aR I1 49 (pR (I1 49) (shP k N f s) j), J1, aP1 sl rd 56) := by
        unfold kd
        by_cases h0 : k = 0
        · rw [if_pos h0, if_pos h0]
        · rw [if_neg h0, if_neg h0]
          by_cases h1 : k = 1
          · rw [if_pos h1, if_pos h1]
          · rw [if_neg h1, if_neg h1]
      rw [e75, b219_75]
      have vs : f + nI j * s + s = f + nI (j + 1) * s := by
        rw [← nI_1, Int32.add_mul, Int32.one_mul, Int32.add_assoc]
      have nx : ∀ (p : Int32) (w : Value), p = shP k N f s j → aE d 219 109 [.ref 46, .int k, .int N, .int f, .int s, .int acc, .int (f + nI j * s), .int (nI j), w] [.int p, .int (nI j), .ref 49] (g, aR I1 49 (pR (I1 49) (shP k N f s) j), J1, aP1 sl rd 56) = some (some (some (.int (if k = 3 then -3 else fo (fun i a => a + shP k N f s i) c (j + 1) (acc + shP k N f s j)))), (g, aR I1 49 (pR (I1 49) (shP k N f s) n), J1, aP1 sl rd 56)) := by
        intro p w hp
        rw [b219_109]
        simp (disch := omega) only [nIneg, nI_clamp, nat_le_f, or_self, if_false, nI_1, aU_s]
        rw [vs, hp, aU_R, aR_s, aR_u, pR_1]
        exact ih (j + 1) _ w (by omega)
      by_cases h3 : k = 3
      · rw [if_pos h3, b219_94]
        exact nx 0 _ (by unfold shP; rw [if_pos (Or.inl h3)])
      · rw [if_neg h3]
        by_cases z : nI j < N
        · rw [if_pos z]
          exact nx _ _ (by rw [show shP k N f s j = c99 (kd k (f + nI j * s)) from if_neg (fun h => by rcases h with h | h; exact h3 h; exact absurd z (by rw [← nle_lt]; exact fun q => q h))]; rfl)
        · rw [if_neg z, b219_94]
          exact nx 0 _ (by unfold shP; rw [if_pos (Or.inr (Classical.byContradiction fun h => z (by rw [← nle_lt]; exact h)))])
  have e1 := lC n 0 0 aNo (by omega)
  rw [pR_0, aR_i] at e1
  have e2 := lR (aU (aR I 16 (pR (I 16) (shP k N f s) n)) 46 13 0) J (by rw [aU_i _ _ (by decide), aR_r _ _ (by decide)]; exact d2) n 0 0 aNo (by omega)
  rw [pR_0, aR_i, show f + nI 0 * s = f from by rw [show nI 0 = (0 : Int32) from rfl, Int32.zero_mul, Int32.add_zero]] at e2
  refine ⟨_, _, _, _, _, rd, n, m, q, C0.trans e1, (R0 _ _).trans e2, zInv_up ?_, ?_⟩
  · obtain ⟨a1, a2, a3, a4, a5, a6, a7, a8, a9, b1, b2⟩ := H
    unfold zInv
    simp (disch := decide) only [aR_r, aR_s, aU_r, aU_i]
    refine ⟨a1, a2, ⟨hn, d1, d2, fun i hi => ?_⟩, a4, a5, a6, a7, a8, a9, b1, b2⟩
    obtain ⟨z1, z2, z3, z4⟩ := d3 i hi
    have p1 : pR (I 16) (shP k N f s) n i = shP k N f s i := if_pos hi
    have p2 : pR (I 49) (shP k N f s) n i = shP k N f s i := if_pos hi
    refine ⟨z1, by rw [p1, p2], ?_, z4⟩
    rw [p1]
    unfold shP
    split
    · exact ⟨0, by decide, rfl⟩
    · exact c99_ok _
  · simp (disch := decide) only [aR_r, aU_r]
