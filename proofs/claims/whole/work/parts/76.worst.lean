/-! worst: tied -/
variable {d : Nat} {g : Nat × Nat × Nat} {I : Nat → Nat → Int32} {J : Nat → Nat → Int64} {sl rd rl : Nat} {t n m q : Nat}
/-- what side b in quarrel j adds -/
def adW (V ad : Nat → Int32) (j b : Nat) : Int32 := lo2 (rSide V j b (ad (4 * j + b)) (ad (4 * j + 2 + b))) - lo2 V
theorem lo2_rV (f : Nat → Int32) : lo2 (rV f) = if f 3 < f 2 then f 3 else f 2 := rfl
theorem lo2_n {v : Nat → Int32} {a b : Nat} (ha : a ≤ 999) (hb : b ≤ 999) (e2 : v 2 = nI a) (e3 : v 3 = nI b) : lo2 v = nI (if b < a then b else a) := by
  unfold lo2
  rw [e2, e3]
  by_cases h : b < a
  · rw [if_pos h, if_pos (nI_lt h (by omega))]
  · rw [if_neg h, if_neg (nI_nlt (by omega) (by omega))]
theorem cl9_n {a : Nat} (ha : a ≤ 2000) : cl9 (nI a) = nI (if a < 999 then a else 999) := by
  unfold cl9
  by_cases h : a < 999
  · rw [if_pos h, if_pos (show nI a < 999 from nI_lt (b := 999) h (by decide))]
    by_cases h0 : a = 0
    · subst h0; rfl
    · rw [if_pos (show 0 < nI a from nI_lt (a := 0) (by omega) (by omega))]
  · rw [if_neg h, if_neg (show ¬ nI a < 999 from nI_nlt (b := 999) (by omega) (by omega)), if_pos (by decide)]; rfl
theorem adW_n {V ad : Nat → Int32} {j b : Nat} (hV : okW n q V) (hA : ∀ k, k < 4 * q → ∃ p, p ≤ 99 ∧ ad k = nI p) (hj : j < q) (hq : q ≤ 8) (hb : b < 2) : ∃ k, k ≤ 999 ∧ adW V ad j b = nI k := by
  obtain ⟨x, hx, ex⟩ := hV.2.1 0 (by decide)
  obtain ⟨y, hy, ey⟩ := hV.2.1 1 (by decide)
  have ex : V 2 = nI x := ex
  have ey : V 3 = nI y := ey
  obtain ⟨p, hp, ep⟩ := hA (4 * j + b) (by omega)
  obtain ⟨r, hr, er⟩ := hA (4 * j + 2 + b) (by omega)
  have e2 : rSide V j b (ad (4 * j + b)) (ad (4 * j + 2 + b)) 2 = nI (if x + p < 999 then x + p else 999) := by
    unfold rSide adA
    rw [upd_n _ _ (by omega), upd_s, upd_n _ _ (by omega), show 2 + 0 = 2 from rfl, ex, ep, nI_add, cl9_n (by omega)]
  have e3 : rSide V j b (ad (4 * j + b)) (ad (4 * j + 2 + b)) 3 = nI (if y + r < 999 then y + r else 999) := by
    unfold rSide adA
    rw [show 3 = 2 + 1 from rfl, upd_s, upd_n _ _ (by omega), upd_n _ _ (by omega), show 2 + 1 = 3 from rfl, ey, er, nI_add, cl9_n (by omega)]
  unfold adW
  rw [lo2_n (v := V) hx hy ex ey, lo2_n (by split <;> omega) (by split <;> omega) e2 e3]
  have le : (if y < x then y else x) ≤ (if (if y + r < 999 then y + r else 999) < (if x + p < 999 then x + p else 999) then (if y + r < 999 then y + r else 999) else (if x + p < 999 then x + p else 999)) := by
    (repeat' split) <;> omega
  rw [pk_sub le]
  refine ⟨_, ?_, rfl⟩
  (repeat' split) <;> omega
theorem f128 (H : zInv t n m q I J) {j b : Nat} (hj : j < q) (hb : b < 2) (ho : I 24 (24 + j) = -1) {I1 : Nat → Nat → Int32} {J1 : Nat → Nat → Int64} (q1 : Fr [28] I I1) : ∃ I', Fr [28] I I' ∧ aF d 128 [.ref 6, .int (nI j), .int (nI b)] (g, I1, J1, aP1 sl rd rl) = some (some (some (.int (adW (cV (I 24)) (I 22) j b))), (g, I', J1, aP1 sl rd rl)) := by
  obtain ⟨hq, d1, d2, -⟩ := H.2.2.2.2.1
  have T28 : ∀ i, i < 32 → aR I1 28 (cpB (I1 28) (I1 24) 0 32) 28 i = I 24 i := fun i hi => by
    rw [aR_s, cpB_in _ _ (by omega) (by omega), q1 24 (by decide)]; rfl
  have T : Fr [28] I (aR I1 28 (cpB (I1 28) (I1 24) 0 32)) := Fr_s q1 _ (by decide)
  generalize hI2 : aR I1 28 (cpB (I1 28) (I1 24) 0 32) = I2 at T T28
  have f := f99_28 (d := d) (g := g) (I := I2) (J := J1) (sl := sl) (rd := rd) (rl := rl) (n := q) (q := j) (b := b) hb hj hq (by rw [T 14 (by decide)]; exact d1)
  rw [T28 (24 + j) (by omega), if_pos ho, T 22 (by decide)] at f
  refine ⟨aR I2 28 (cSide (I2 28) j b (I 22 (4 * j + b)) (I 22 (4 * j + 2 + b))), Fr_s T _ (by decide), ?_⟩
  show aE d 128 0 [.ref 6, .int (nI j), .int (nI b)] [] _ = _
  rw [b128_0, f63_28, hI2]
  simp only [aBv]
  rw [b128_11, f]
  simp only [aBi]
  rw [b128_24, f79_27]
  simp only [aBi]
  rw [b128_32, f79_23]
  simp only [aBi]
  rw [b128_39, aR_s, aR_r _ _ (show 24 ≠ 28 by decide), T 24 (by decide)]
  have e : cV (cSide (I2 28) j b (I 22 (4 * j + b)) (I 22 (4 * j + 2 + b))) = rSide (cV (I 24)) j b (I 22 (4 * j + b)) (I 22 (4 * j + 2 + b)) := by
    rw [cSide_v _ _ _ (by omega), cV_congr T28]
  unfold adW
  rw [← e]
  rfl
theorem f262 (H : zInv t n m q I J) {j b : Nat} (hj : j < q) (hb : b < 2) {Ic I1 : Nat → Nat → Int32} {J1 : Nat → Nat → Int64} (hIc : Fr [12, 28] I Ic) (q1 : Fr [46, 60] Ic I1) (q2 : F46 [12, 13] Ic I1) : ∃ I', Fr [46, 60] Ic I' ∧ I' 46 = I1 46 ∧ aF d 262 [.ref 46, .int (nI j), .int (nI b)] (g, I1, J1, aP1 sl rd rl) = some (some (some (.int (adW (cV (I 24)) (I 22) j b))), (g, I', J1, aP1 sl rd rl)) := by
  obtain ⟨hq, d1, d2, -⟩ := H.2.2.2.2.1
  have hS := H.2.2.2.2.2.2.1
  have f2 := f222_60 (d := d) (g := g) (I := I1) (J := J1) (sl := sl) (rd := rd) (rl := rl) (o := 0) (by decide)
  have f2 : aF d 222 [.ref 47, .ref 60, .int 0] (g, I1, J1, aP1 sl rd rl) = _ := f2
  have e47 : I1 47 = I 47 := by rw [q1 47 (by decide), hIc 47 (by decide)]
  have e51 : ∀ k, k < 4 * q → I1 51 k = I 22 k := fun k hk => by rw [q1 51 (by decide), hIc 51 (by decide)]; exact zS_e H hk
  refine ⟨aR (aR I1 60 (cpB (I1 60) (I1 47) 0 39)) 60 (rSide (cpB (I1 60) (I1 47) 0 39) j b (I 22 (4 * j + b)) (I 22 (4 * j + 2 + b))), Fr_s (Fr_s q1 _ (by decide)) _ (by decide), by rw [aR_r _ _ (by decide), aR_r _ _ (by decide)], ?_⟩
  show aE d 262 0 [.ref 46, .int (nI j), .int (nI b)] [] _ = _
  rw [b262_0, f2]
  simp only [aBv]
  rw [b262_12, f242_60 (by omega) hb, aR_s, aR_r _ _ (show 51 ≠ 60 by decide), e51 _ (by omega), e51 _ (by omega)]
  simp only [aBv]
  rw [b262_22]
  have e : rV (rSide (cpB (I1 60) (I1 47) 0 39) j b (I 22 (4 * j + b)) (I 22 (4 * j + 2 + b))) = rSide (cV (I 24)) j b (I 22 (4 * j + b)) (I 22 (4 * j + 2 + b)) := by
    rw [rSide_r _ _ _ (by omega), hS.1, ← e47, show rV (cpB (I1 60) (I1 47) 0 39) = rV (I1 47) from rV_congr (fun i hi => by rw [cpB_in _ _ (by omega) (by omega)]; rfl)]
  unfold adW
  rw [← e, hS.1, ← e47, aR_s, aR_r _ _ (show 47 ≠ 60 by decide), aR_r _ _ (show 47 ≠ 60 by decide), lo2_rV, lo2_rV, aR_u]
/-- the worst so far: who, how much -/
def wo (A : Nat → Nat → Nat) (op : Nat → Bool) (j : Nat) (x : Option (Nat × Nat)) : Option (Nat × Nat) :=
  if op j = true then (match x with
    | none => some (j, max (A j 0) (A j 1))
    | some (w, mo) => if mo < max (A j 0) (A j 1) then some (j, max (A j 0) (A j 1)) else some (w, mo)) else x
def woI (x : Option (Nat × Nat)) : Int32 := match x with
  | none => -1
  | some (w, _) => nI w
theorem tie_worst (H : zInv t n m q I J) : tie d 127 261 [] t g I J sl rd := by
  obtain ⟨hq, d1, d2, dA⟩ := H.2.2.2.2.1
  have hS := H.2.2.2.2.2.2.1
  obtain ⟨L, hL, s1, s2, s3⟩ := sd_get (d := d) (g := g) (sl := sl) (rd := rd) (rl := 56) H
  have hV : okW n q (cV (I 24)) := by rw [hS.1]; exact hS.2.1
  have hN : ∀ j b : Nat, ∃ k, k ≤ 999 ∧ (j < q → b < 2 → adW (cV (I 24)) (I 22) j b = nI k) := by
    intro j b
    by_cases h : j < q ∧ b < 2
    · obtain ⟨k, h1, h2⟩ := adW_n hV (fun k hk => (dA k hk).2) h.1 hq h.2
      exact ⟨k, h1, fun _ _ => h2⟩
    · exact ⟨0, by omega, fun h1 h2 => absurd ⟨h1, h2⟩ h⟩
  obtain ⟨A, hA⟩ : ∃ A : Nat → Nat → Nat, ∀ j b, A j b ≤ 999 ∧ (j < q → b < 2 → adW (cV (I 24)) (I 22) j b = nI (A j b)) := ⟨fun j b => Classical.choose (hN j b), fun j b => Classical.choose_spec (hN j b)⟩
  have okx : ∀ (x : Option (Nat × Nat)) (j : Nat), (∀ w mo, x = some (w, mo) → w < q ∧ mo ≤ 999 ∧ mo = max (A w 0) (A w 1) ∧ decide (I 24 (24 + w) = -1) = true) → j < q → ∀ w mo, wo A (fun j => decide (I 24 (24 + j) = -1)) j x = some (w, mo) → w < q ∧ mo ≤ 999 ∧ mo = max (A w 0) (A w 1) ∧ decide (I 24 (24 + w) = -1) = true := by
    intro x j hx hj w mo e
    unfold wo at e
    split at e
    · rename_i hop
      split at e
      · cases e
        exact ⟨hj, by have := (hA j 0).1; have := (hA j 1).1; omega, rfl, hop⟩
      · rename_i w' mo'
        split at e
        · cases e
          exact ⟨hj, by have := (hA j 0).1; have := (hA j 1).1; omega, rfl, hop⟩
        · exact hx w mo e
    · exact hx w mo e
  -- the class
  have lC : ∀ (k j : Nat) (x : Option (Nat × Nat)) (mo sd : Int32) (I1 : Nat → Nat → Int32) (w6 w7 : Value), j + k = q → Fr [28] I I1 → (∀ w m', x = some (w, m') → w < q ∧ m' ≤ 999 ∧ m' = max (A w 0) (A w 1) ∧ decide (I 24 (24 + w) = -1) = true) → (∀ w m', x = some (w, m') → mo = nI m' ∧ sd = if A w 0 = m' then 0 else 1) → ∃ I' mo' sd' w6' w7', Fr [28] I I' ∧ (∀ w m', fo (wo A (fun j => decide (I 24 (24 + j) = -1))) k j x = some (w, m') → mo' = nI m' ∧ sd' = if A w 0 = m' then 0 else 1) ∧ aE d 127 22 [.ref 6, .int (nI L), .int (woI x), .int mo, .int sd, .int (nI j), w6, w7] [] (g, I1, J, aP1 sl rd 56) = aE d 127 22 [.ref 6, .int (nI L), .int (woI (fo (wo A (fun j => decide (I 24 (24 + j) = -1))) k j x)), .int mo', .int sd', .int (nI q), w6', w7'] [] (g, I', J, aP1 sl rd 56) := by
    intro k
    induction k with
    | zero =>
      intro j x mo sd I1 w6 w7 hj q1 hx hms
      obtain rfl : j = q := by omega
      exact ⟨I1, mo, sd, w6, w7, q1, hms, rfl⟩
    | succ k ih =>
      intro j x mo sd I1 w6 w7 hj q1 hx hms
      have hjq : j < q := by omega
      have hl := s3 j hjq
      rw [fo_1]
      have hx' := okx x j hx hjq
      have n2 : ¬ I1 14 9 ≤ nI j := by rw [q1 14 (by decide), d1]; exact nI_ge (by omega) (by omega)
      by_cases ho : I 24 (24 + j) = -1
      · have hop : decide (I 24 (24 + j) = -1) = true := decide_eq_true ho
        obtain ⟨I2, p1, p2⟩ := f128 (d := d) (g := g) (sl := sl) (rd := rd) (rl := 56) (b := 0) (J1 := J) H hjq (by decide) ho q1
        obtain ⟨I3, p3, p4⟩ := f128 (d := d) (g := g) (sl := sl) (rd := rd) (rl := 56) (b := 1) (J1 := J) H hjq (by decide) ho p1
        rw [(hA j 0).2 hjq (by decide)] at p2
        rw [(hA j 1).2 hjq (by decide)] at p4
        have p2 : aF d 128 [.ref 6, .int (nI j), .int 0] (g, I1, J, aP1 sl rd 56) = _ := p2
        have p4 : aF d 128 [.ref 6, .int (nI j), .int 1] (g, I2, J, aP1 sl rd 56) = _ := p4
        have a0 := (hA j 0).1
        have a1 := (hA j 1).1
        -- its first side
        have one : ∃ mo1 sd1 w71 b1, aE d 127 22 [.ref 6, .int (nI L), .int (woI x), .int mo, .int sd, .int (nI j), w6, w7] [] (g, I1, J, aP1 sl rd 56) = aE d 127 37 [.ref 6, .int (nI L), .int b1, .int mo1, .int sd1, .int (nI j), .int 1, w71] [] (g, I2, J, aP1 sl rd 56) ∧ ((b1 = nI j ∧ mo1 = nI (A j 0) ∧ sd1 = 0 ∧ (∀ w m', x = some (w, m') → m' < A j 0)) ∨ (∃ w m', x = some (w, m') ∧ A j 0 ≤ m' ∧ b1 = nI w ∧ mo1 = mo ∧ sd1 = sd)) := by
          have hd : aE d 127 22 [.ref 6, .int (nI L), .int (woI x), .int mo, .int sd, .int (nI j), w6, w7] [] (g, I1, J, aP1 sl rd 56) = aE d 127 60 [.ref 6, .int (nI L), .int (woI x), .int mo, .int sd, .int (nI j), .int 0, w7] [.int (nI (A j 0))] (g, I2, J, aP1 sl rd 56) := by
            rw [b127_22, if_neg n2, b127_37, if_neg (by decide), f93, hl, hop]
            simp only [aBi]
            rw [b127_49, if_neg (by decide), p2]
            simp only [aBi]
          rw [hd, b127_60]
          cases hx0 : x with
          | none =>
            refine ⟨nI (A j 0), 0, .int (nI (A j 0)), nI j, ?_, Or.inl ⟨rfl, rfl, rfl, fun w m' h => by cases h⟩⟩
            rw [if_pos (show woI none = -1 from rfl)]
            rfl
          | some y =>
            obtain ⟨w, m'⟩ := y
            obtain ⟨u1, u2⟩ := hms w m' hx0
            obtain ⟨v1, v2, v3, v4⟩ := hx w m' hx0
            rw [if_neg (show ¬ woI (some (w, m')) = -1 from of_eq_false (nIm1 (by omega)))]
            by_cases z : A j 0 ≤ m'
            · refine ⟨mo, sd, .int (nI (A j 0)), nI w, ?_, Or.inr ⟨w, m', rfl, z, rfl, rfl, rfl⟩⟩
              rw [u1, if_pos (nI_le z (by omega))]
              rfl
            · refine ⟨nI (A j 0), 0, .int (nI (A j 0)), nI j, ?_, Or.inl ⟨rfl, rfl, rfl, fun w2 m2 h => by cases h; omega⟩⟩
              rw [u1, if_neg (nI_ge (by omega) (by omega))]
              rfl
        obtain ⟨mo1, sd1, w71, b1, e1, c1⟩ := one
        have two : ∃ mo2 sd2 w72 b2, aE d 127 37 [.ref 6, .int (nI L), .int b1, .int mo1, .int sd1, .int (nI j), .int 1, w71] [] (g, I2, J, aP1 sl rd 56) = aE d 127 22 [.ref 6, .int (nI L), .int b2, .int mo2, .int sd2, .int (nI (j + 1)), .int 2, w72] [] (g, I3, J, aP1 sl rd 56) ∧ b2 = woI (wo A (fun j => decide (I 24 (24 + j) = -1)) j x) ∧ (∀ w m', wo A (fun j => decide (I 24 (24 + j) = -1)) j x = some (w, m') → mo2 = nI m' ∧ sd2 = if A w 0 = m' then 0 else 1) := by
          have hd : aE d 127 37 [.ref 6, .int (nI L), .int b1, .int mo1, .int sd1, .int (nI j), .int 1, w71] [] (g, I2, J, aP1 sl rd 56) = aE d 127 60 [.ref 6, .int (nI L), .int b1, .int mo1, .int sd1, .int (nI j), .int 1, w71] [.int (nI (A j 1))] (g, I3, J, aP1 sl rd 56) := by
            rw [b127_37, if_neg (by decide), f93, hl, hop]
            simp only [aBi]
            rw [b127_49, if_neg (by decide), p4]
            simp only [aBi]
          have b1n : ¬ b1 = -1 := by
            rcases c1 with ⟨h, _⟩ | ⟨w, m', h, _, h2, _⟩
            · rw [h]; exact of_eq_false (nIm1 (by omega))
            · rw [h2]; have := (hx w m' h).1; exact of_eq_false (nIm1 (by omega))
          have nx : ∀ b2 mo2 sd2 w72, aE d 127 37 [.ref 6, .int (nI L), .int b2, .int mo2, .int sd2, .int (nI j), .int (1 + 1), w72] [] (g, I3, J, aP1 sl rd 56) = aE d 127 22 [.ref 6, .int (nI L), .int b2, .int mo2, .int sd2, .int (nI (j + 1)), .int 2, w72] [] (g, I3, J, aP1 sl rd 56) := by
            intro b2 mo2 sd2 w72
            rw [b127_37, if_pos (by decide), nI_1]
            rfl
          rw [hd, b127_60, if_neg b1n]
          rcases c1 with ⟨h1, h2, h3, h4⟩ | ⟨w, m', hxw, h1, h2, h3, h4⟩
          · have wx : wo A (fun j => decide (I 24 (24 + j) = -1)) j x = some (j, max (A j 0) (A j 1)) := by
              unfold wo
              rw [if_pos hop]
              cases hx0 : x with
              | none => rfl
              | some y =>
                obtain ⟨w, m'⟩ := y
                have := h4 w m' hx0
                simp only
                rw [if_pos (by omega)]
            rw [h2]
            by_cases z : A j 1 ≤ A j 0
            · refine ⟨nI (A j 0), 0, .int (nI (A j 1)), nI j, ?_, ?_, ?_⟩
              · rw [if_pos (nI_le z (by omega)), h1, h3]; exact nx _ _ _ _
              · rw [wx]; rfl
              · intro w m' e
                rw [wx] at e
                cases e
                rw [show max (A j 0) (A j 1) = A j 0 by omega, if_pos rfl]
                exact ⟨rfl, rfl⟩
            · refine ⟨nI (A j 1), 1, .int (nI (A j 1)), nI j, ?_, ?_, ?_⟩
              · rw [if_neg (nI_ge (by omega) (by omega))]; exact nx _ _ _ _
              · rw [wx]; rfl
              · intro w m' e
                rw [wx] at e
                cases e
                rw [show max (A j 0) (A j 1) = A j 1 by omega, if_neg (by omega)]
                exact ⟨rfl, rfl⟩
          · obtain ⟨u1, u2⟩ := hms w m' hxw
            obtain ⟨v1, v2, v3, v4⟩ := hx w m' hxw
            rw [h3, u1]
            by_cases z : A j 1 ≤ m'
            · have wx : wo A (fun j => decide (I 24 (24 + j) = -1)) j x = some (w, m') := by
                unfold wo
                rw [if_pos hop, hxw]
                simp only
                rw [if_neg (by omega)]
              refine ⟨nI m', sd1, .int (nI (A j 1)), nI w, ?_, ?_, ?_⟩
              · rw [if_pos (nI_le z (by omega)), h2]; exact nx _ _ _ _
              · rw [wx]; rfl
              · intro w2 m2 e
                rw [wx] at e
                cases e
                exact ⟨rfl, h4.trans u2⟩
            · have wx : wo A (fun j => decide (I 24 (24 + j) = -1)) j x = some (j, max (A j 0) (A j 1)) := by
                unfold wo
                rw [if_pos hop, hxw]
                simp only
                rw [if_pos (by omega)]
              refine ⟨nI (A j 1), 1, .int (nI (A j 1)), nI j, ?_, ?_, ?_⟩
              · rw [if_neg (nI_ge (by omega) (by omega))]; exact nx _ _ _ _
              · rw [wx]; rfl
              · intro w2 m2 e
                rw [wx] at e
                cases e
                rw [show max (A j 0) (A j 1) = A j 1 by omega, if_neg (by omega)]
                exact ⟨rfl, rfl⟩
        obtain ⟨mo2, sd2, w72, b2, e2, e3, e4⟩ := two
        rw [e1, e2, e3]
        exact ih (j + 1) _ mo2 sd2 I3 _ _ (by omega) p3 hx' e4
      · have hop : decide (I 24 (24 + j) = -1) = false := decide_eq_false ho
        have wx : wo A (fun j => decide (I 24 (24 + j) = -1)) j x = x := by
          unfold wo; rw [if_neg (show ¬ decide (I 24 (24 + j) = -1) = true from by rw [hop]; decide)]
        rw [wx, b127_22, if_neg n2, b127_37, if_neg (by decide), f93, hl, hop]
        simp only [aBi]
        rw [b127_49, if_pos tI_f, nI_1]
        exact ih (j + 1) x mo sd I1 _ _ (by omega) q1 hx hms
  -- the reference
  have lR : ∀ (Ic : Nat → Nat → Int32) (J1 : Nat → Nat → Int64), Fr [12, 28] I Ic → ∀ (k j : Nat) (x : Option (Nat × Nat)) (mo : Int32) (I1 : Nat → Nat → Int32), j + k = q → Fr [46, 60] Ic I1 → F46 [13] Ic I1 → (∀ w m', x = some (w, m') → w < q ∧ m' ≤ 999 ∧ m' = max (A w 0) (A w 1) ∧ decide (I 24 (24 + w) = -1) = true) → (∀ w m', x = some (w, m') → mo = nI m') → (x = none → mo = -1) → ∃ I' mo', Fr [46, 60] Ic I' ∧ F46 [13] Ic I' ∧ (∀ w m', fo (wo A (fun j => decide (I 24 (24 + j) = -1))) k j x = some (w, m') → mo' = nI m') ∧ aE d 261 11 [.ref 46, .int (woI x), .int mo, .int (nI j)] [] (g, I1, J1, aP1 sl rd 56) = aE d 261 11 [.ref 46, .int (woI (fo (wo A (fun j => decide (I 24 (24 + j) = -1))) k j x)), .int mo', .int (nI q)] [] (g, I', J1, aP1 sl rd 56) := by
    intro Ic J1 hIc k
    induction k with
    | zero =>
      intro j x mo I1 hj q1 q2 hx hms hm0
      obtain rfl : j = q := by omega
      exact ⟨I1, mo, q1, q2, hms, rfl⟩
    | succ k ih =>
      intro j x mo I1 hj q1 q2 hx hms hm0
      have hjq : j < q := by omega
      rw [fo_1]
      have hx' := okx x j hx hjq
      have e47 : I1 47 = I 47 := by rw [q1 47 (by decide), hIc 47 (by decide)]
      have n2 : ¬ I1 46 6 ≤ nI j := by rw [q2 6 (by decide), hIc 46 (by decide), d2]; exact nI_ge (by omega) (by omega)
      have i30 : I 47 (30 + j) = I 24 (24 + j) := (okS_s hS (by omega)).symm
      have hd : aE d 261 11 [.ref 46, .int (woI x), .int mo, .int (nI j)] [] (g, I1, J1, aP1 sl rd 56) = if I 24 (24 + j) = -1 then aBi (aF d 262 [.ref 46, .int (nI j), .int 0] (g, I1, J1, aP1 sl rd 56)) (fun x1 t1 => aE d 261 38 [.ref 46, .int (woI x), .int mo, .int (nI j)] [.int x1] t1) else aE d 261 11 [.ref 46, .int (woI x), .int mo, .int (nI (j + 1))] [] (g, I1, J1, aP1 sl rd 56) := by
        rw [b261_11, if_neg n2, nI_1]
        simp (disch := omega) only [nIp30, nIneg, nI_clamp, nat_le_f, or_self, if_false, e47, i30]
      rw [hd]
      by_cases ho : I 24 (24 + j) = -1
      · have hop : decide (I 24 (24 + j) = -1) = true := decide_eq_true ho
        have q2w : ∀ I' : Nat → Nat → Int32, F46 [13] Ic I' → F46 [12, 13] Ic I' := fun I' h => F46_w h (by decide)
        have nxt : ∀ I1' : Nat → Nat → Int32, Fr [46, 60] Ic I1' → F46 [13] Ic I1' → ∀ b, b < 2 → ∃ I', Fr [46, 60] Ic I' ∧ F46 [13] Ic I' ∧ aF d 262 [.ref 46, .int (nI j), .int (nI b)] (g, I1', J1, aP1 sl rd 56) = some (some (some (.int (nI (A j b)))), (g, I', J1, aP1 sl rd 56)) := by
          intro I1' r1 r2 b hb
          obtain ⟨I', p1, p2, p3⟩ := f262 (d := d) (g := g) (sl := sl) (rd := rd) (rl := 56) (J1 := J1) H hjq hb hIc r1 (q2w _ r2)
          rw [(hA j b).2 hjq hb] at p3
          exact ⟨I', p1, fun i hi => by rw [p2]; exact r2 i hi, p3⟩
        obtain ⟨I2, p1, p2, p3⟩ := nxt I1 q1 q2 0 (by decide)
        obtain ⟨I3, p4, p5, p6⟩ := nxt I2 p1 p2 1 (by decide)
        obtain ⟨I4, p7, p8, p9⟩ := nxt I3 p4 p5 0 (by decide)
        obtain ⟨I5, r1, r2, r3⟩ := nxt I4 p7 p8 1 (by decide)
        have p3 : aF d 262 [.ref 46, .int (nI j), .int 0] (g, I1, J1, aP1 sl rd 56) = _ := p3
        have p6 : aF d 262 [.ref 46, .int (nI j), .int 1] (g, I2, J1, aP1 sl rd 56) = _ := p6
        have p9 : aF d 262 [.ref 46, .int (nI j), .int 0] (g, I3, J1, aP1 sl rd 56) = _ := p9
        have r3 : aF d 262 [.ref 46, .int (nI j), .int 1] (g, I4, J1, aP1 sl rd 56) = _ := r3
        have a0 := (hA j 0).1
        have a1 := (hA j 1).1
        have mx : (if nI (A j 0) < nI (A j 1) then nI (A j 1) else nI (A j 0)) = nI (max (A j 0) (A j 1)) := by
          by_cases h : A j 0 < A j 1
          · rw [if_pos (nI_lt h (by omega)), show max (A j 0) (A j 1) = A j 1 by omega]
          · rw [if_neg (nI_nlt (by omega) (by omega)), show max (A j 0) (A j 1) = A j 0 by omega]
        rw [if_pos ho, p3]
        simp only [aBi]
        rw [b261_38, p6]
        simp only [aBi]
        rw [b261_44, mx, nI_1]
        have take : (mo < nI (max (A j 0) (A j 1))) → wo A (fun j => decide (I 24 (24 + j) = -1)) j x = some (j, max (A j 0) (A j 1)) := by
          intro hlt
          unfold wo
          rw [if_pos hop]
          cases hx0 : x with
          | none => rfl
          | some y =>
            obtain ⟨w, m'⟩ := y
            have u := hms w m' hx0
            have v := (hx w m' hx0).2.1
            rw [u] at hlt
            have := nI_lti hlt (by omega)
            simp only
            rw [if_pos this]
        have leave : ¬ (mo < nI (max (A j 0) (A j 1))) → wo A (fun j => decide (I 24 (24 + j) = -1)) j x = x := by
          intro hlt
          unfold wo
          rw [if_pos hop]
          cases hx0 : x with
          | none =>
            exfalso
            rw [hm0 hx0] at hlt
            apply hlt
            rw [int_lt, nI_toInt (by omega), show (-1 : Int32).toInt = -1 from rfl]
            omega
          | some y =>
            obtain ⟨w, m'⟩ := y
            have u := hms w m' hx0
            have v := (hx w m' hx0).2.1
            rw [u] at hlt
            simp only
            rw [if_neg (fun h => hlt (nI_lt h (by omega)))]
        by_cases z : mo < nI (max (A j 0) (A j 1))
        · rw [if_pos z, p9]
          simp only [aBi]
          rw [b261_62, r3]
          simp only [aBi]
          rw [b261_68, mx, nI_1, take z]
          exact ih (j + 1) (some (j, max (A j 0) (A j 1))) _ I5 (by omega) r1 r2 (by rw [← take z]; exact hx') (fun w m' h => by cases h; rfl) (fun h => by cases h)
        · rw [if_neg z, leave z]
          exact ih (j + 1) x mo I3 (by omega) p4 p5 hx hms hm0
      · have wx : wo A (fun j => decide (I 24 (24 + j) = -1)) j x = x := by
          unfold wo; rw [if_neg (show ¬ decide (I 24 (24 + j) = -1) = true from by rw [decide_eq_false ho]; decide)]
        rw [if_neg ho, wx]
        exact ih (j + 1) x mo I1 (by omega) q1 q2 hx hms hm0
  obtain ⟨I1, mo1, sd1, w6, w7, a1, a2, a3⟩ := lC q 0 none 0 0 I aNo aNo (by omega) (Fr_r _ _) (fun w m' h => by cases h) (fun w m' h => by cases h)
  have eC : aF d 127 [.ref 6] (g, I, J, aP1 sl rd 56) = aE d 127 22 [.ref 6, .int (nI L), .int (woI none), .int 0, .int 0, .int (nI 0), aNo, aNo] [] (g, I, J, aP1 sl rd 56) := by
    show aE d 127 0 [.ref 6, aNo, aNo, aNo, aNo, aNo, aNo, aNo] [] _ = _
    rw [b127_0, s1 I J rfl rfl]
    simp only [aBi]
    rw [b127_11]
    rfl
  have eR : ∀ (Ic : Nat → Nat → Int32) (J1 : Nat → Nat → Int64), aF d 261 [.ref 46] (g, Ic, J1, aP1 sl rd 56) = aE d 261 11 [.ref 46, .int (woI none), .int (-1), .int (nI 0)] [] (g, aU Ic 46 13 0, J1, aP1 sl rd 56) := by
    intro Ic J1
    show aE d 261 0 [.ref 46, aNo, aNo, aNo] [] _ = _
    rw [b261_0]
    rfl
  have lR0 := fun (Ic : Nat → Nat → Int32) (J1 : Nat → Nat → Int64) (h : Fr [12, 28] I Ic) => lR Ic J1 h q 0 none (-1) (aU Ic 46 13 0) (by omega) (thF _).1 (thF _).2 (fun w m' h => by cases h) (fun w m' h => by cases h) (fun _ => rfl)
  have okX : ∀ (k j : Nat) (x : Option (Nat × Nat)), j + k = q → (∀ w m', x = some (w, m') → w < q ∧ m' ≤ 999 ∧ m' = max (A w 0) (A w 1) ∧ decide (I 24 (24 + w) = -1) = true) → (∀ w m', fo (wo A (fun j => decide (I 24 (24 + j) = -1))) k j x = some (w, m') → w < q ∧ m' ≤ 999 ∧ m' = max (A w 0) (A w 1) ∧ decide (I 24 (24 + w) = -1) = true) := by
    intro k
    induction k with
    | zero => intro j x _ hx; exact hx
    | succ k ih => intro j x hj hx; rw [fo_1]; exact ih (j + 1) _ (by omega) (okx x j hx (by omega))
  have okF := okX q 0 none (by omega) (fun w m' h => by cases h)
  generalize fo (wo A (fun j => decide (I 24 (24 + j) = -1))) q 0 none = X at a2 a3 lR0 okF
  cases hX : X with
  | none =>
    rw [hX] at a3
    obtain ⟨I2, mo2, b1, b2, b3, b4⟩ := lR0 I1 J (Fr_w a1 (by decide))
    rw [hX] at b4
    refine tie_0 (rd2 := rd) (v := -2) H (Fr_w a1 (by decide)) (Fr_w b1 (by decide)) (F46_w b2 (by decide)) (eC.trans (a3.trans ?_)) ((eR _ _).trans (b4.trans ?_))
    · rw [b127_22, if_pos (by rw [a1 14 (by decide), d1]; exact Int32.le_refl _), if_pos (show woI none = -1 from rfl)]
    · rw [b261_11, if_pos (by rw [b2 6 (by decide), a1 46 (by decide), d2]; exact Int32.le_refl _), if_pos (show woI none = -1 from rfl)]
  | some y =>
    obtain ⟨w, m'⟩ := y
    obtain ⟨u1, u2⟩ := a2 w m' hX
    obtain ⟨v1, v2, v3, v4⟩ := okF w m' hX
    rw [hX] at a3
    have wn1 : ¬ woI (some (w, m')) = -1 := of_eq_false (nIm1 (by omega))
    have e1 : aF d 127 [.ref 6] (g, I, J, aP1 sl rd 56) = some (some (some (.int (nI w))), (g, aU I1 12 1 2, aU (aU J 13 0 (Int32.toInt64 (nI m'))) 13 1 (Int32.toInt64 (if A w 0 = m' then 0 else 1)), aP1 sl rd 56)) := by
      refine eC.trans (a3.trans ?_)
      rw [b127_22, if_pos (by rw [a1 14 (by decide), d1]; exact Int32.le_refl _), if_neg wn1, f82, u1, u2]
      simp only [aBv]
      rw [b127_115]
      rfl
    have h12 : Fr [12, 28] I (aU I1 12 1 2) := by rw [aU_R]; exact Fr_s (Fr_w a1 (by decide)) _ (by decide)
    obtain ⟨I2, mo2, b1, b2, b3, b4⟩ := lR0 (aU I1 12 1 2) (aU (aU J 13 0 (Int32.toInt64 (nI m'))) 13 1 (Int32.toInt64 (if A w 0 = m' then 0 else 1))) h12
    rw [hX] at b4
    have u3 := b3 w m' hX
    obtain ⟨I3, p1, p2, p3⟩ := f262 (d := d) (g := g) (sl := sl) (rd := rd) (rl := 56) (J1 := aU (aU (aU J 13 0 (Int32.toInt64 (nI m'))) 13 1 (Int32.toInt64 (if A w 0 = m' then 0 else 1))) 53 0 (Int32.toInt64 (nI m'))) (b := 0) (I1 := aU I2 46 12 1) H v1 (by decide) h12 (by rw [aU_R I2]; exact Fr_s b1 _ (by decide)) (fun j hj => by
      have hj' : j ≠ 12 ∧ j ≠ 13 := by simpa using hj
      rw [aU_i _ _ hj'.1]; exact b2 j (by simpa using hj'.2))
    rw [(hA w 0).2 v1 (by decide)] at p3
    have p3 : aF d 262 [.ref 46, .int (nI w), .int 0] (g, aU I2 46 12 1, aU (aU (aU J 13 0 (Int32.toInt64 (nI m'))) 13 1 (Int32.toInt64 (if A w 0 = m' then 0 else 1))) 53 0 (Int32.toInt64 (nI m')), aP1 sl rd 56) = _ := p3
    have i12 : I3 46 12 = nI 1 := by rw [p2, aU_s]; rfl
    have e2 : aF d 261 [.ref 46] (g, aU I1 12 1 2, aU (aU J 13 0 (Int32.toInt64 (nI m'))) 13 1 (Int32.toInt64 (if A w 0 = m' then 0 else 1)), aP1 sl rd 56) = some (some (some (.int (nI w))), (g, aU I3 46 12 (nI (1 + 1)), aU (aU (aU (aU J 13 0 (Int32.toInt64 (nI m'))) 13 1 (Int32.toInt64 (if A w 0 = m' then 0 else 1))) 53 0 (Int32.toInt64 (nI m'))) 53 1 (Int32.toInt64 (if A w 0 = m' then 0 else 1)), aP1 sl rd 56)) := by
      refine (eR _ _).trans (b4.trans ?_)
      rw [b261_11, if_pos (by rw [b2 6 (by decide), h12 46 (by decide), d2]; exact Int32.le_refl _), if_neg wn1, u3, tell0]
      simp only [aBv]
      rw [show woI (some (w, m')) = nI w from rfl, b261_97, p3]
      simp only [aBi]
      rw [b261_104]
      have a0 := (hA w 0).1
      by_cases z : A w 0 = m'
      · rw [if_pos (by rw [z]), if_pos z, show Int32.toInt64 0 = 0 by decide, f229 i12 (by decide)]
        simp only [aBv]
        rw [b261_116]
      · rw [if_neg (fun h => z ((nI_eq (by omega) (by omega)).mp h)), if_neg z, show Int32.toInt64 1 = 1 by decide, f229 i12 (by decide)]
        simp only [aBv]
        rw [b261_116]
    refine tie_R H (Fr_w h12 (by decide)) ?_ ?_ ?_ e1 e2
    · rw [aU_R I3]; exact Fr_s (Fr_w p1 (by decide)) _ (by decide)
    · intro j hj
      have n12 : j ≠ 12 := fun e => hj (by rw [e]; decide)
      have n13 : j ≠ 13 := fun e => hj (by rw [e]; decide)
      rw [aU_i _ _ n12, p2, aU_i _ _ n12]
      exact b2 j (by simpa using n13)
    · refine zR_2 ?_ (aU_s _ _ _ _) ?_ ?_
      · rw [aU_r _ _ (by decide), p1 12 (by decide), aU_s]
      · simp (disch := decide) only [aU_r, aU_i, aU_s]
      · simp (disch := decide) only [aU_r, aU_i, aU_s]
