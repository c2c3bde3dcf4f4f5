section T00
/-! years: tied -/
variable {d : Nat} {g : Nat × Nat × Nat} {I : Nat → Nat → Int32} {J : Nat → Nat → Int64} {sl rd rl : Nat} {t n m q : Nat}
def yn1 (s : Int32) : Int32 := s * 1103515245 + 12345
def u16 (s : Int32) : Nat := (yn1 s).toUInt32.toNat >>> 16
theorem u16_lt (s : Int32) : u16 s < 65536 := by
  unfold u16
  rw [Nat.shiftRight_eq_div_pow]
  have := (yn1 s).toUInt32.toNat_lt
  omega
theorem u16_e (s : Int32) : ((yn1 s).toUInt32 >>> (Int32.toUInt32 16 &&& Int32.toUInt32 31)).toInt32 = nI (u16 s) := by
  have h : ((yn1 s).toUInt32 >>> (Int32.toUInt32 16 &&& Int32.toUInt32 31)) = UInt32.ofNat (u16 s) := by
    apply UInt32.toNat_inj.mp
    rw [UInt32.toNat_shiftRight, UInt32.toNat_ofNat_of_lt' (Nat.lt_of_lt_of_le (u16_lt s) (by decide))]
    rfl
  rw [h]
  rfl
theorem dr_e (s : Int32) {k : Nat} (h0 : 0 < k) (hk : k < 2 ^ 31) : ((yn1 s).toUInt32 >>> (Int32.toUInt32 16 &&& Int32.toUInt32 31)).toInt32 - ((yn1 s).toUInt32 >>> (Int32.toUInt32 16 &&& Int32.toUInt32 31)).toInt32 / nI k * nI k = nI (u16 s % k) := by
  rw [u16_e]
  exact pk_rem (Nat.lt_of_lt_of_le (u16_lt s) (by decide)) h0 hk
theorem f165 {k : Nat} (h0 : 0 < k) (hk : k < 2 ^ 30) : aF d 165 [.ref 41, .int (nI k)] (g, I, J, aP1 sl rd rl) = some (some (some (.int (nI (u16 (I 41 4) % k)))), (g, aU I 41 4 (yn1 (I 41 4)), J, aP1 sl rd rl)) := by
  show aE d 165 0 [.ref 41, .int (nI k)] [] _ = _
  rw [b165_0, if_neg (show ¬ nI k ≤ 0 from nI_ge (b := k) (a := 0) h0 (by omega)), if_neg (nIz h0 (by omega))]
  rw [← dr_e (I 41 4) h0 (by omega)]
  rfl
theorem f290 {k : Nat} (h0 : 0 < k) (hk : k < 2 ^ 30) : aF d 290 [.ref 46, .int (nI k)] (g, I, J, aP1 sl rd rl) = some (some (some (.int (nI (u16 (I 46 36) % k)))), (g, aU I 46 36 (yn1 (I 46 36)), J, aP1 sl rd rl)) := by
  show aE d 290 0 [.ref 46, .int (nI k)] [] _ = _
  rw [b290_0, if_neg (nIz h0 (by omega))]
  rw [← dr_e (I 46 36) h0 (by omega)]
  rfl
def yBuy (p : Nat → Int32) (v : Nat → Int32) (c i : Nat) : Nat → Int32 := if v (6 + i) = nI c then v else if p i ≤ v c then rBuy v c i (p i) else v
def yV (st : (Nat → Int32) → Nat → Int32) (n : Nat) (p v : Nat → Int32) (s : Int32) : Nat → Int32 :=
  if u16 s % 4 < 2 then vsR st n v 1 else if u16 s % 4 = 2 then yBuy p v (u16 (yn1 s) % 2) (u16 (yn1 (yn1 s)) % n) else adA v (u16 (yn1 s) % 2) (-5)
def yD (s : Int32) : Int32 := if u16 s % 4 < 2 then yn1 s else if u16 s % 4 = 2 then yn1 (yn1 (yn1 s)) else yn1 (yn1 s)
def yB (st : (Nat → Int32) → Nat → Int32) (n : Nat) (v : Nat → Int32) (s : Int32) : Nat := if u16 s % 4 < 2 then blR st n v 1 else 0
theorem yBuy_ok {p v : Nat → Int32} {c i : Nat} (hW : okW n q v) (hn : n ≤ 8) (hc : c < 2) (hi : i < n) (hp : ∃ x, x ≤ 99 ∧ p i = nI x) : okW n q (yBuy p v c i) := by
  unfold yBuy
  by_cases h : v (6 + i) = nI c
  · rw [if_pos h]; exact hW
  · rw [if_neg h]
    by_cases h2 : p i ≤ v c
    · rw [if_pos h2]
      obtain ⟨x, hx, e⟩ := hp
      obtain ⟨m, hm, e2⟩ := hW.1 c hc
      rw [e]
      rw [e, e2] at h2
      exact okW_buy hW hi hn hc hx e2 hm (nI_lei h2 (by omega))
    · rw [if_neg h2]; exact hW
theorem yV_ok {st : (Nat → Int32) → Nat → Int32} {p v : Nat → Int32} {s : Int32} (hW : okW n q v) (hn : n ≤ 8) (h0 : 0 < n) (hp : ∀ i, i < n → ∃ x, x ≤ 99 ∧ p i = nI x) : okW n q (yV st n p v s) := by
  unfold yV
  split
  · exact vsR_ok hW hn h0 1
  · split
    · exact yBuy_ok hW hn (Nat.mod_lt _ (by decide)) (Nat.mod_lt _ h0) (hp _ (Nat.mod_lt _ h0))
    · exact okW_A hW (Nat.mod_lt _ (by decide)) _
theorem f164 {st : (Nat → Int32) → Nat → Int32} {mm : Nat} {rv : (Nat → Int32) → Int32} {p v : Nat → Int32} {s : Int32} (hR : cRule (I 34) mm rv) (hs : I 33 1 = nI mm) (h0 : I 14 0 = nI n) (hn : n ≤ 8) (hd : 0 < n) (hst : st = sts rv (I 15)) (hp : I 16 = p) (hp2 : ∀ i, i < n → ∃ x, x ≤ 99 ∧ p i = nI x) (hW : okW n q v) (hv : cV (I 28) = v) (hd2 : I 41 4 = s) : ∃ I', Fr [28, 35, 36, 41] I I' ∧ cV (I' 28) = yV st n p v s ∧ I' 41 4 = yD s ∧ aF d 164 [.ref 6] (g, I, J, aP1 sl rd rl) = some (some (some (.int (nI (yB st n v s)))), (g, I', J, aP1 sl rd rl)) := by
  subst hst hp hv hd2
  have k4 : u16 (I 41 4) % 4 < 4 := Nat.mod_lt _ (by decide)
  have c2 : ∀ s, u16 s % 2 < 2 := fun s => Nat.mod_lt _ (by decide)
  have l8 : ∀ i, i < 8 → I 28 (8 + i) = cV (I 28) (6 + i) := fun i hi => (cV_l _ hi).symm
  have mm28 : ∀ c, c < 2 → I 28 c = cV (I 28) c := fun c hc => (cV_c _ (by omega) (by omega)).symm
  have F1 : ∀ x, Fr [28, 35, 36, 41] I (aU I 41 4 x) := fun x => by rw [aU_R]; exact Fr_s (Fr_r _ _) _ (by decide)
  have F2 : ∀ x y, Fr [28, 35, 36, 41] I (aU (aU I 41 4 x) 41 4 y) := fun x y => by rw [aU_R (aU I 41 4 x)]; exact Fr_s (F1 x) _ (by decide)
  have F3 : ∀ x y z, Fr [28, 35, 36, 41] I (aU (aU (aU I 41 4 x) 41 4 y) 41 4 z) := fun x y z => by rw [aU_R (aU (aU I 41 4 x) 41 4 y)]; exact Fr_s (F2 x y) _ (by decide)
  have e4 : aF d 165 [.ref 41, .int 4] (g, I, J, aP1 sl rd rl) = _ := f165 (k := 4) (by decide) (by decide)
  have S0 : aF d 164 [.ref 6] (g, I, J, aP1 sl rd rl) = aE d 164 8 [.ref 6, aNo, aNo] [.int (nI (u16 (I 41 4) % 4))] (g, aU I 41 4 (yn1 (I 41 4)), J, aP1 sl rd rl) := by
    show aE d 164 0 [.ref 6, aNo, aNo] [] _ = _
    rw [b164_0, e4]
    rfl
  rw [S0, b164_8]
  unfold yV yD yB
  by_cases h : u16 (I 41 4) % 4 < 2
  · obtain ⟨I', f1, f2, -, -, -, -, -, f3, f4⟩ := f64t (d := d) (g := g) (I := aU I 41 4 (yn1 (I 41 4))) (J := J) (sl := sl) (rd := rd) (rl := rl) (nd := n) (m := mm) (N := 1) (rv := rv) (by rw [aU_r _ _ (by decide)]; exact hR) (by rw [aU_r _ _ (by decide)]; exact hs) (by rw [aU_r _ _ (by decide)]; exact h0) hn hd (fun i hi => by
      rw [aU_r _ _ (by decide)]
      obtain ⟨k, hk, e⟩ := hW.2.2.1 i hi
      exact ⟨k, hk, (l8 i (by omega)).trans e⟩) (by decide)
    rw [aU_r _ _ (show 15 ≠ 41 by decide), aU_r _ _ (show 28 ≠ 41 by decide)] at f2 f4
    rw [aU_s] at f3
    have f4 : aF d 64 [.ref 41, .ref 14, .ref 27, .ref 33, .int 1] (g, aU I 41 4 (yn1 (I 41 4)), J, aP1 sl rd rl) = _ := f4
    refine ⟨I', Fr_t (F1 _) f1, ?_, ?_, ?_⟩
    · rw [if_pos h]; exact f2
    · rw [if_pos h]; exact f3
    · rw [if_neg (show ¬ 2 ≤ nI (u16 (I 41 4) % 4) from nI_ge (b := 2) h (by omega)), f4, if_pos h]
      simp only [aBi]
      rw [b164_34]
  have e2 : aF d 165 [.ref 41, .int 2] (g, aU I 41 4 (yn1 (I 41 4)), J, aP1 sl rd rl) = _ := f165 (k := 2) (by decide) (by decide)
  rw [if_pos (show 2 ≤ nI (u16 (I 41 4) % 4) from nI_le (a := 2) (by omega) (by omega)), e2, if_neg h, if_neg h, if_neg h, aU_s]
  simp only [aBi]
  rw [b164_43]
  by_cases h2 : u16 (I 41 4) % 4 = 2
  · generalize hI3 : aU (aU (aU I 41 4 (yn1 (I 41 4))) 41 4 (yn1 (yn1 (I 41 4)))) 41 4 (yn1 (yn1 (yn1 (I 41 4)))) = I3
    have G3 : Fr [28, 35, 36, 41] I I3 := by rw [← hI3]; exact F3 _ _ _
    have r28 : I3 28 = I 28 := by rw [← hI3, aU_r _ _ (by decide), aU_r _ _ (by decide), aU_r _ _ (by decide)]
    have r41 : I3 41 4 = yn1 (yn1 (yn1 (I 41 4))) := by rw [← hI3, aU_s]
    have e3 : aF d 165 [.ref 41, .int (nI n)] (g, aU (aU I 41 4 (yn1 (I 41 4))) 41 4 (yn1 (yn1 (I 41 4))), J, aP1 sl rd rl) = some (some (some (.int (nI (u16 (yn1 (yn1 (I 41 4))) % n)))), (g, I3, J, aP1 sl rd rl)) := by
      rw [f165 hd (by omega), aU_s, hI3]
    have hi : u16 (yn1 (yn1 (I 41 4))) % n < n := Nat.mod_lt _ hd
    have hc := c2 (yn1 (I 41 4))
    have r14 : aU (aU I 41 4 (yn1 (I 41 4))) 41 4 (yn1 (yn1 (I 41 4))) 14 0 = nI n := by
      rw [aU_r _ _ (by decide), aU_r _ _ (by decide)]; exact h0
    rw [if_pos (show nI (u16 (I 41 4) % 4) = 2 by rw [h2]; rfl), r14, e3, if_pos h2, if_pos h2]
    simp only [aBi]
    generalize u16 (yn1 (yn1 (I 41 4))) % n = i at *
    generalize u16 (yn1 (I 41 4)) % 2 = c at *
    have f := f87_28 (d := d) (g := g) (I := I3) (J := J) (sl := sl) (rd := rd) (rl := rl) hc hi hn (by rw [G3 14 (by decide)]; exact h0)
    rw [r28, G3 16 (by decide), l8 i (by omega), mm28 c hc] at f
    rw [b164_72, f]
    unfold yBuy
    by_cases a : cV (I 28) (6 + i) = nI c
    · refine ⟨I3, G3, ?_, r41, ?_⟩
      · rw [if_pos a, r28]
      · rw [if_pos a]
        simp only [aBi]
        rw [b164_75]; rfl
    · rw [if_neg a, if_neg a]
      by_cases b : I 16 i ≤ cV (I 28) c
      · refine ⟨aR I3 28 (cBuy (I 28) c i (I 16 i)), Fr_s G3 _ (by decide), ?_, ?_, ?_⟩
        · obtain ⟨x, hx, e⟩ := hp2 i hi
          obtain ⟨m, hm, e5⟩ := hW.1 c hc
          rw [e, e5] at b
          rw [if_pos (by rw [e, e5]; exact b), aR_s, e, cBuy_v hc (by omega) ((mm28 c hc).trans e5) hm (nI_lei b (by omega))]
        · rw [aR_r _ _ (by decide)]; exact r41
        · rw [if_pos b]
          simp only [aBi]
          rw [b164_75]; rfl
      · refine ⟨I3, G3, ?_, r41, ?_⟩
        · rw [if_neg b, r28]
        · rw [if_neg b]
          simp only [aBi]
          rw [b164_75]; rfl
  · have hc := c2 (yn1 (I 41 4))
    rw [if_neg (show ¬ nI (u16 (I 41 4) % 4) = 2 from fun e => h2 ((nI_eq (b := 2) (by omega) (by decide)).mp e)), if_neg h2, if_neg h2]
    generalize u16 (yn1 (I 41 4)) % 2 = c at *
    refine ⟨aR (aU (aU I 41 4 (yn1 (I 41 4))) 41 4 (yn1 (yn1 (I 41 4)))) 28 (adA (I 28) c (-5)), Fr_s (F2 _ _) _ (by decide), ?_, ?_, ?_⟩
    · rw [aR_s, cV_adA _ _ hc]
    · rw [aR_r _ _ (by decide), aU_s]
    · rw [f97_28 hc 5, if_neg (by decide), if_pos (by decide), aU_r _ _ (by decide), aU_r _ _ (by decide)]
      simp only [aBi]
      rw [b164_88]; rfl
/-- the years one behind another -/
def yVs (st : (Nat → Int32) → Nat → Int32) (n : Nat) (p v : Nat → Int32) (s : Int32) : Nat → (Nat → Int32) × Int32
  | 0 => (v, s)
  | j + 1 => (yV st n p (yVs st n p v s j).1 (yVs st n p v s j).2, yD (yVs st n p v s j).2)
def yBs (st : (Nat → Int32) → Nat → Int32) (n : Nat) (p v : Nat → Int32) (s : Int32) : Nat → Nat
  | 0 => 0
  | j + 1 => yBs st n p v s j + yB st n (yVs st n p v s j).1 (yVs st n p v s j).2
def yJs (st : (Nat → Int32) → Nat → Int32) (n : Nat) (p v : Nat → Int32) (s : Int32) (l : Int32) : Nat → Nat
  | 0 => 0
  | j + 1 => yJs st n p v s l j + (jn (yVs st n p v s (j + 1)).1 l).toNat
theorem yVs_ok {st : (Nat → Int32) → Nat → Int32} {p v : Nat → Int32} {s : Int32} (hW : okW n q v) (hn : n ≤ 8) (h0 : 0 < n) (hp : ∀ i, i < n → ∃ x, x ≤ 99 ∧ p i = nI x) : ∀ j, okW n q (yVs st n p v s j).1
  | 0 => hW
  | j + 1 => yV_ok (yVs_ok hW hn h0 hp j) hn h0 hp
/-- a year of the reference -/
theorem y289 {st : (Nat → Int32) → Nat → Int32} {rs : Nat} {rv : (Nat → Int32) → Int32} {p v sk : Nat → Int32} {s l : Int32} (hd : 41 ≤ d) (hV : rRule (I 55) rs rv) (hB : byR (I 55)) (hC : ∀ t t' : Nat → Int32, (∀ k, k < 8 → t k = t' k) → rv t = rv t') (hs : I 46 22 = nI rs) (hN : I 46 1 = nI n) (hn : n ≤ 8) (h0 : 0 < n) (hst : st = sts rv sk) (hsk : ∀ i, i < n → I 48 i = sk i) (hp : ∀ i, i < n → I 49 i = p i) (hp2 : ∀ i, i < n → ∃ x, x ≤ 99 ∧ p i = nI x) (hW : okW n q v) (hv : rV (I 60) = v) (hd2 : I 46 36 = s) (hl : I 46 8 = l) (A2 A3 A4 A5 : Nat) (hA : A5 < A2) (hA2 : A2 ≤ 60) (w1 w6 w7 w8 : Value) : ∃ I' rd' w6' w7' w8', Fr [46, 57, 60] I I' ∧ F46 [15, 16, 17, 18, 23, 36] I I' ∧ rV (I' 60) = yV st n p v s ∧ I' 46 36 = yD s ∧ aE d 289 52 [.ref 46, w1, .int (nI A2), .int (nI A3), .int (nI A4), .int (nI A5), w6, w7, w8] [] (g, I, J, aP1 sl rd 56) = aE d 289 52 [.ref 46, w1, .int (nI A2), .int (nI (A3 + yB st n v s)), .int (nI (A4 + (jn (yV st n p v s) l).toNat)), .int (nI (A5 + 1)), w6', w7', w8'] [] (g, I', J, aP1 sl rd' 56) := by
  subst hv hd2 hl
  have k4 : u16 (I 46 36) % 4 < 4 := Nat.mod_lt _ (by decide)
  have c2 : ∀ s, u16 s % 2 < 2 := fun s => Nat.mod_lt _ (by decide)
  have mm60 : ∀ c, c < 39 → I 60 c = rV (I 60) c := fun c hc => (rV_lt _ hc).symm
  have F1 : ∀ x, Fr [46, 57, 60] I (aU I 46 36 x) := fun x => by rw [aU_R]; exact Fr_s (Fr_r _ _) _ (by decide)
  have F2 : ∀ x y, Fr [46, 57, 60] I (aU (aU I 46 36 x) 46 36 y) := fun x y => by rw [aU_R (aU I 46 36 x)]; exact Fr_s (F1 x) _ (by decide)
  have F3 : ∀ x y z, Fr [46, 57, 60] I (aU (aU (aU I 46 36 x) 46 36 y) 46 36 z) := fun x y z => by rw [aU_R (aU (aU I 46 36 x) 46 36 y)]; exact Fr_s (F2 x y) _ (by decide)
  have G1 : ∀ (I : Nat → Nat → Int32) x, F46 [15, 16, 17, 18, 23, 36] I (aU I 46 36 x) := fun I x j hj => aU_i _ _ (fun e => hj (by rw [e]; decide))
  -- the year's end
  have tail : ∀ (I1 : Nat → Nat → Int32) (rd1 : Nat) (b : Nat) (w6 w7 w8 : Value) (v' : Nat → Int32), rV (I1 60) = v' → I1 46 8 = I 46 8 → aE d 289 168 [.ref 46, w1, .int (nI A2), .int (nI b), .int (nI A4), .int (nI A5), w6, w7, w8] [] (g, I1, J, aP1 sl rd1 56) = aE d 289 52 [.ref 46, w1, .int (nI A2), .int (nI b), .int (nI (A4 + (jn v' (I 46 8)).toNat)), .int (nI (A5 + 1)), w6, w7, w8] [] (g, I1, J, aP1 sl rd1 56) := by
    intro I1 rd1 b w6 w7 w8 v' h1 h2
    rw [b289_168, f228_60, jn_r, ← jn_rV, h1, h2]
    simp only [aBi]
    rw [b289_178, nI_1, ifT _ (fun z => aE d 289 52 [.ref 46, w1, .int (nI A2), .int (nI b), .int z, .int (nI (A5 + 1)), w6, w7, w8] [] _), tI_n, nI_add]
  have e4 : aF d 290 [.ref 46, .int 4] (g, I, J, aP1 sl rd 56) = _ := f290 (k := 4) (by decide) (by decide)
  have S0 : aE d 289 52 [.ref 46, w1, .int (nI A2), .int (nI A3), .int (nI A4), .int (nI A5), w6, w7, w8] [] (g, I, J, aP1 sl rd 56) = aE d 289 63 [.ref 46, w1, .int (nI A2), .int (nI A3), .int (nI A4), .int (nI A5), w6, w7, w8] [.int (nI (u16 (I 46 36) % 4))] (g, aU I 46 36 (yn1 (I 46 36)), J, aP1 sl rd 56) := by
    rw [b289_52, if_neg (nI_ge hA (by omega)), e4]
    rfl
  rw [S0, b289_63]
  by_cases h : u16 (I 46 36) % 4 < 2
  · obtain ⟨hl, k, hk, e1, e2⟩ := vsR_1 (st := st) hW.2.2.1 hn h0 0
    have hw : wnR st n (rV (I 60)) 0 < n := wn_lt _ h0
    obtain ⟨I', rd', f1, f2, f3, f4⟩ := f224s (d := d) (g := g) (I := aU I 46 36 (yn1 (I 46 36))) (J := J) (sl := sl) (rd := rd) (nd := n) (rs := rs) (rv := rv) (sk := sk) (st := st) (v := rV (I 60)) (j := 0) hd (by rw [aU_r _ _ (by decide)]; exact hV) (by rw [aU_r _ _ (by decide)]; exact hB) hC (by rw [aU_i _ _ (by decide)]; exact hs) (by rw [aU_i _ _ (by decide)]; exact hN) hn h0 hst hW.2.2.1 (by rw [aU_r _ _ (by decide)]; exact hsk) (by rw [aU_r _ _ (by decide)]; rfl)
    have r36 : I' 46 36 = yn1 (I 46 36) := by rw [f2 36 (by decide), aU_s]
    have r8 : I' 46 8 = I 46 8 := by rw [f2 8 (by decide), aU_i _ _ (by decide)]
    have r6 : I' 60 (6 + wnR st n (rV (I 60)) 0) = nI k := by
      rw [← rV_lt (I' 60) (show 6 + wnR st n (rV (I 60)) 0 < 39 by omega), f3, (vsR_1 (st := st) hW.2.2.1 hn h0 1).1 _ (by omega)]
      exact e1
    have n2 : ¬ nI (u16 (I 46 36) % 4) = 2 := fun e => absurd ((nI_eq (b := 2) (by omega) (by decide)).mp e) (by omega)
    have n3 : ¬ nI (u16 (I 46 36) % 4) = 3 := fun e => absurd ((nI_eq (b := 3) (by omega) (by decide)).mp e) (by omega)
    refine ⟨I', rd', .int (nI (u16 (I 46 36) % 4)), w7, w8, Fr_t (F1 _) f1, ?_, ?_, ?_, ?_⟩
    · exact F46_t (G1 _ _) (fun j hj => f2 j (fun q => hj (by simp at q ⊢; omega)))
    · unfold yV; rw [if_pos h]; exact f3
    · unfold yD; rw [if_pos h]; exact r36
    · rw [if_neg (show ¬ 2 ≤ nI (u16 (I 46 36) % 4) from nI_ge (b := 2) h (by omega)), f4]
      simp only [aBi]
      rw [b289_86]
      have hI : (6 : Int32) + nI (wnR st n (rV (I 60)) 0) = nI (6 + wnR st n (rV (I 60)) 0) := nI_add 6 _
      rw [hI, nI_clamp (by omega), r6, if_neg (by
        rintro (q | q)
        · exact absurd q (by rw [show (0 : Int32) = nI 0 from rfl]; exact nI_nlt (by omega) (by omega))
        · omega), if_neg n2, if_neg n2, b289_148, b289_148, if_neg n3, if_neg n3]
      have hb : yB st n (rV (I 60)) (I 46 36) = if k = 0 then 1 else 0 := by
        unfold yB
        rw [if_pos h]
        show (if isB st n (rV (I 60)) 0 = true then 0 + 1 else 0) = _
        unfold isB
        rw [e1]
        rcases (by omega : k = 0 ∨ k = 1) with rfl | rfl <;> rfl
      have hv : yV st n p (rV (I 60)) (I 46 36) = vsR st n (rV (I 60)) 1 := by unfold yV; rw [if_pos h]
      rw [hb, hv]
      rcases (by omega : k = 0 ∨ k = 1) with rfl | rfl
      · rw [if_pos rfl, if_pos (show nI 0 = (0 : Int32) from rfl), nI_1]
        exact tail I' rd' (A3 + 1) _ _ _ _ f3 r8
      · rw [if_neg (by decide), if_neg (by decide), Int32.add_zero]
        exact tail I' rd' A3 _ _ _ _ f3 r8
  have hb : yB st n (rV (I 60)) (I 46 36) = 0 := if_neg h
  rw [if_pos (show 2 ≤ nI (u16 (I 46 36) % 4) from nI_le (a := 2) (by omega) (by omega)), hb, Nat.add_zero]
  unfold yV yD
  rw [if_neg h, if_neg h]
  have e2 : aF d 290 [.ref 46, .int 2] (g, aU I 46 36 (yn1 (I 46 36)), J, aP1 sl rd 56) = some (some (some (.int (nI (u16 (yn1 (I 46 36)) % 2)))), (g, aU (aU I 46 36 (yn1 (I 46 36))) 46 36 (yn1 (yn1 (I 46 36))), J, aP1 sl rd 56)) := by
    have := f290 (d := d) (g := g) (I := aU I 46 36 (yn1 (I 46 36))) (J := J) (sl := sl) (rd := rd) (rl := 56) (k := 2) (by decide) (by decide)
    rw [aU_s] at this
    exact this
  by_cases h2 : u16 (I 46 36) % 4 = 2
  · generalize hI3 : aU (aU (aU I 46 36 (yn1 (I 46 36))) 46 36 (yn1 (yn1 (I 46 36)))) 46 36 (yn1 (yn1 (yn1 (I 46 36)))) = I3
    have K3 : Fr [46, 57, 60] I I3 := by rw [← hI3]; exact F3 _ _ _
    have L3 : F46 [15, 16, 17, 18, 23, 36] I I3 := by rw [← hI3]; exact F46_t (F46_t (G1 _ _) (G1 _ _)) (G1 _ _)
    have r60 : I3 60 = I 60 := by rw [← hI3, aU_r _ _ (by decide), aU_r _ _ (by decide), aU_r _ _ (by decide)]
    have r36 : I3 46 36 = yn1 (yn1 (yn1 (I 46 36))) := by rw [← hI3, aU_s]
    have e3 : aF d 290 [.ref 46, .int (nI n)] (g, aU (aU I 46 36 (yn1 (I 46 36))) 46 36 (yn1 (yn1 (I 46 36))), J, aP1 sl rd 56) = some (some (some (.int (nI (u16 (yn1 (yn1 (I 46 36))) % n)))), (g, I3, J, aP1 sl rd 56)) := by
      rw [f290 h0 (by omega), aU_s, hI3]
    have hi : u16 (yn1 (yn1 (I 46 36))) % n < n := Nat.mod_lt _ h0
    have hc := c2 (yn1 (I 46 36))
    have r1 : aU (aU I 46 36 (yn1 (I 46 36))) 46 36 (yn1 (yn1 (I 46 36))) 46 1 = nI n := by
      rw [aU_i _ _ (by decide), aU_i _ _ (by decide)]; exact hN
    have a6 : nI (u16 (I 46 36) % 4) = 2 := by rw [h2]; rfl
    rw [if_pos a6, e2, if_pos h2, if_pos h2]
    simp only [aBi]
    rw [b289_109, r1, e3]
    simp only [aBi]
    rw [a6]
    generalize u16 (yn1 (yn1 (I 46 36))) % n = i at *
    generalize u16 (yn1 (I 46 36)) % 2 = c at *
    have f := f231_60 (d := d) (g := g) (I := I3) (J := J) (sl := sl) (rd := rd) (rl := 56) hc hi hn (by rw [L3 1 (by decide)]; exact hN)
    rw [r60, K3 49 (by decide), hp i hi, mm60 (6 + i) (by omega), mm60 c (by omega)] at f
    rw [b289_119, f]
    have n3 : ¬ (2 : Int32) = 3 := by decide
    unfold yBuy
    by_cases a : rV (I 60) (6 + i) = nI c
    · refine ⟨I3, rd, .int 2, .int (nI c), .int (nI i), K3, L3, ?_, r36, ?_⟩
      · rw [if_pos a, r60]
      · rw [if_pos a, if_pos a]
        simp only [aBi]
        rw [b289_133, if_neg (by decide), b289_148, if_neg n3]
        exact tail I3 rd A3 _ _ _ _ (by rw [r60]) (L3 8 (by decide))
    · rw [if_neg a, if_neg a]
      by_cases b : p i ≤ rV (I 60) c
      · have E : rV (aR I3 60 (rBuy (I 60) c i (p i)) 60) = rBuy (rV (I 60)) c i (p i) := by
          rw [aR_s, rBuy_r _ _ hc (by omega)]
        refine ⟨aR I3 60 (rBuy (I 60) c i (p i)), rd, .int 2, .int (nI c), .int (nI i), Fr_s K3 _ (by decide), ?_, ?_, ?_, ?_⟩
        · intro j hj; rw [aR_r _ _ (by decide)]; exact L3 j hj
        · rw [if_pos b]; exact E
        · rw [aR_r _ _ (by decide)]; exact r36
        · rw [if_pos b, if_pos b]
          simp only [aBi]
          rw [b289_133, if_pos rfl, f232_60 hc (by omega), r60, K3 49 (by decide), hp i hi]
          simp only [aBv]
          rw [b289_148, if_neg n3]
          exact tail _ rd A3 _ _ _ _ E (by rw [aR_r _ _ (by decide)]; exact L3 8 (by decide))
      · refine ⟨I3, rd, .int 2, .int (nI c), .int (nI i), K3, L3, ?_, r36, ?_⟩
        · rw [if_neg b, r60]
        · rw [if_neg b, if_neg b]
          simp only [aBi]
          rw [b289_133, if_neg (by decide), b289_148, if_neg n3]
          exact tail I3 rd A3 _ _ _ _ (by rw [r60]) (L3 8 (by decide))
  · have hc := c2 (yn1 (I 46 36))
    have a6 : nI (u16 (I 46 36) % 4) = 3 := by rw [show u16 (I 46 36) % 4 = 3 by omega]; rfl
    rw [if_neg (show ¬ nI (u16 (I 46 36) % 4) = 2 by rw [a6]; decide), if_neg h2, if_neg h2, a6, b289_148, if_pos rfl, e2]
    simp only [aBi]
    generalize u16 (yn1 (I 46 36)) % 2 = c at *
    generalize hI3 : aU (aU I 46 36 (yn1 (I 46 36))) 46 36 (yn1 (yn1 (I 46 36))) = I3
    have K3 : Fr [46, 57, 60] I I3 := by rw [← hI3]; exact F2 _ _
    have L3 : F46 [15, 16, 17, 18, 23, 36] I I3 := by rw [← hI3]; exact F46_t (G1 _ _) (G1 _ _)
    have r60 : I3 60 = I 60 := by rw [← hI3, aU_r _ _ (by decide), aU_r _ _ (by decide)]
    have r36 : I3 46 36 = yn1 (yn1 (I 46 36)) := by rw [← hI3, aU_s]
    have E : rV (aR I3 60 (adA (I 60) c (-5)) 60) = adA (rV (I 60)) c (-5) := by
      rw [aR_s, rV_adA _ _ hc]
    refine ⟨aR I3 60 (adA (I 60) c (-5)), rd, .int 3, w7, w8, Fr_s K3 _ (by decide), ?_, E, ?_, ?_⟩
    · intro j hj; rw [aR_r _ _ (by decide)]; exact L3 j hj
    · rw [aR_r _ _ (by decide)]; exact r36
    · rw [b289_163, f227_60 hc, r60]
      simp only [aBv]
      exact tail _ rd A3 _ _ _ _ E (by rw [aR_r _ _ (by decide)]; exact L3 8 (by decide))
theorem tie_years (hd : 41 ≤ d) (H : zInv t n m q I J) (a b : Int32) : tie d 163 289 [.int a, .int b] t g I J sl rd := by
  obtain ⟨hn, d1, d2, hD⟩ := H.2.2.1
  have hS := H.2.2.2.2.2.2.1
  have hL := H.2.2.2.2.2.1
  obtain ⟨mm, kk, rv, v1, v2, v3, v4, v5, v6⟩ := zV_get H
  have sk := zD_s H
  by_cases h0 : n = 0
  · subst h0
    refine tie_0 (rd2 := rd) (v := -2) H (Fr_r _ _) (th_F _) (th_46 _) ?_ ?_
    · show aE d 163 0 [.ref 6, .int a, .int b, aNo, aNo, aNo] [] _ = _
      rw [b163_0, if_pos (show I 14 0 = 0 from d1)]
    · show aE d 289 0 [.ref 46, .int a, .int b, aNo, aNo, aNo, aNo, aNo, aNo] [] _ = _
      rw [b289_0, if_pos (show I 46 1 = 0 from d2)]
  have n0 : 0 < n := by omega
  have nz : ¬ nI n = 0 := nIz n0 (by omega)
  by_cases hx : b < 1 ∨ 60 < b
  · refine tie_0 (rd2 := rd) (v := -1) H (Fr_r _ _) (th_F _) (th_46 _) ?_ ?_
    · show aE d 163 0 [.ref 6, .int a, .int b, aNo, aNo, aNo] [] _ = _
      rw [b163_0, d1, if_neg nz]
      rcases hx with h | h
      · rw [if_pos h]
      · rw [if_neg (c := b ≤ 60) (by rw [nle_lt]; exact h), ite_self]
    · show aE d 289 0 [.ref 46, .int a, .int b, aNo, aNo, aNo, aNo, aNo, aNo] [] _ = _
      rw [b289_0, d2, if_neg nz, f181, inI_f hx]
      simp only [aBi]
      rw [b289_22, if_pos rfl]
  have x1 : ¬ b < 1 := fun h => hx (Or.inl h)
  have x2 : ¬ 60 < b := fun h => hx (Or.inr h)
  obtain ⟨A, hA, rfl⟩ := rng2 x1 x2 (by decide) (M := 60) rfl (by decide)
  have hp2 : ∀ i, i < n → ∃ x, x ≤ 99 ∧ I 16 i = nI x := fun i hi => (zD_p H hi).2
  have hp : ∀ i, i < n → I 49 i = I 16 i := fun i hi => (zD_p H hi).1
  generalize hst : sts rv (I 15) = st
  have hW0 : okW n q (cV (I 24)) := by rw [hS.1]; exact hS.2.1
  have hW := yVs_ok (st := st) (s := a) hW0 hn n0 hp2
  generalize hy : yVs st n (I 16) (cV (I 24)) a = Y at hW
  generalize hyb : yBs st n (I 16) (cV (I 24)) a = B
  generalize hyj : yJs st n (I 16) (cV (I 24)) a (I 14 11) = W
  have Y0 : Y 0 = (cV (I 24), a) := by rw [← hy]; rfl
  have Y1 : ∀ j, Y (j + 1) = (yV st n (I 16) (Y j).1 (Y j).2, yD (Y j).2) := by rw [← hy]; intro j; rfl
  have B0 : B 0 = 0 := by rw [← hyb]; rfl
  have B1 : ∀ j, B (j + 1) = B j + yB st n (Y j).1 (Y j).2 := by rw [← hyb, ← hy]; intro j; rfl
  have W0 : W 0 = 0 := by rw [← hyj]; rfl
  have W1 : ∀ j, W (j + 1) = W j + (jn (Y (j + 1)).1 (I 14 11)).toNat := by rw [← hyj, ← hy]; intro j; rfl
  -- the class
  have lC : ∀ (M j : Nat) (I1 : Nat → Nat → Int32), j + M = A → Fr [28, 35, 36, 41] I I1 → cV (I1 28) = (Y j).1 → I1 41 4 = (Y j).2 → ∃ I', Fr [28, 35, 36, 41] I I' ∧ cV (I' 28) = (Y A).1 ∧ aE d 163 53 [.ref 6, .int a, .int (nI A), .int (nI (B j)), .int (nI (W j)), .int (nI j)] [] (g, I1, J, aP1 sl rd 56) = aE d 163 53 [.ref 6, .int a, .int (nI A), .int (nI (B A)), .int (nI (W A)), .int (nI A)] [] (g, I', J, aP1 sl rd 56) := by
    intro M
    induction M with
    | zero =>
      intro j I1 hj q1 q2 q3
      obtain rfl : j = A := by omega
      exact ⟨I1, q1, q2, rfl⟩
    | succ M ih =>
      intro j I1 hj q1 q2 q3
      obtain ⟨I2, f1, f2, f3, f4⟩ := f164 (d := d) (g := g) (I := I1) (J := J) (sl := sl) (rd := rd) (rl := 56) (st := st) (mm := mm) (rv := rv) (p := I 16) (v := (Y j).1) (s := (Y j).2) (by rw [q1 34 (by decide)]; exact v3) (by rw [q1 33 (by decide)]; exact v1) (by rw [q1 14 (by decide)]; exact d1) hn n0 (by rw [q1 15 (by decide)]; exact hst.symm) (q1 16 (by decide)) hp2 (hW j) q2 q3
      have e2 : cV (I2 28) = (Y (j + 1)).1 := by rw [Y1]; exact f2
      have e3 : I2 41 4 = (Y (j + 1)).2 := by rw [Y1]; exact f3
      have e78 : aF d 78 [.ref 27, .ref 14] (g, I2, J, aP1 sl rd 56) = some (some (some (.int (tI (jn (Y (j + 1)).1 (I 14 11))))), (g, I2, J, aP1 sl rd 56)) := by
        rw [f78_27, jn_c, ← jn_cV, e2, (Fr_t q1 f1) 14 (by decide)]
      obtain ⟨I', r1, r2, r3⟩ := ih (j + 1) I2 (by omega) (Fr_t q1 f1) e2 e3
      refine ⟨I', r1, r2, ?_⟩
      rw [b163_53, if_neg (nI_ge (by omega) (by omega)), f4]
      simp only [aBi]
      rw [b163_64, e78]
      simp only [aBi]
      rw [b163_79, nI_1, nI_add, ← B1, ifT _ (fun z => aE d 163 53 [.ref 6, .int a, .int (nI A), .int (nI (B (j + 1))), .int z, .int (nI (j + 1))] [] _), tI_n, nI_add, ← W1]
      exact r3
  have T28 : ∀ k, k < 32 → aU (cpT I) 41 4 a 28 k = I 24 k := fun k hk => by rw [aU_r _ _ (by decide)]; exact cpT_28 I hk
  obtain ⟨Ic, p1, p2, p3⟩ := lC A 0 (aU (cpT I) 41 4 a) (by omega) (by rw [aU_R]; exact Fr_s (Fr_w (cpT_F I) (by decide)) _ (by decide)) (by rw [Y0]; exact cV_congr T28) (by rw [aU_s, Y0])
  have m0 : Ic 28 0 = (Y A).1 0 := by rw [← p2]; exact (cV_c _ (by decide) (by decide)).symm
  have m1 : Ic 28 1 = (Y A).1 1 := by rw [← p2]; exact (cV_c _ (by decide) (by decide)).symm
  have a0 : aF d 72 [.ref 27, .int 0] (g, Ic, J, aP1 sl rd 56) = some (some (some (.int (Ic 28 0))), (g, Ic, J, aP1 sl rd 56)) := f72_27 (c := 0) (by decide)
  have a1 : aF d 72 [.ref 27, .int 1] (g, Ic, J, aP1 sl rd 56) = some (some (some (.int (Ic 28 1))), (g, Ic, J, aP1 sl rd 56)) := f72_27 (c := 1) (by decide)
  have e1 : aF d 163 [.ref 6, .int a, .int (nI A)] (g, I, J, aP1 sl rd 56) = some (some (some (.int (nI (B A)))), (g, aU Ic 12 1 3, aU (aU (aU J 13 0 (Int32.toInt64 ((Y A).1 0))) 13 1 (Int32.toInt64 ((Y A).1 1))) 13 2 (Int32.toInt64 (nI (W A))), aP1 sl rd 56)) := by
    show aE d 163 0 [.ref 6, .int a, .int (nI A), aNo, aNo, aNo] [] _ = _
    rw [b163_0, d1, if_neg nz, if_neg x1, if_pos (show nI A ≤ 60 from nI_le (b := 60) hA (by decide)), f63_28]
    simp only [aBv]
    rw [b163_37]
    have p3 : aE d 163 53 [.ref 6, .int a, .int (nI A), .int 0, .int 0, .int 0] [] (g, aU (aR I 28 (cpB (I 28) (I 24) 0 32)) 41 4 a, J, aP1 sl rd 56) = aE d 163 53 [.ref 6, .int a, .int (nI A), .int (nI (B A)), .int (nI (W A)), .int (nI A)] [] (g, Ic, J, aP1 sl rd 56) := by rw [B0, W0] at p3; exact p3
    rw [p3, b163_53, if_pos (Int32.le_refl _), a0]
    simp only [aBi]
    rw [b163_108, a1]
    simp only [aBi]
    rw [b163_117, f110, m0, m1]
    simp only [aBv]
    rw [b163_124]
  generalize hI1 : aU Ic 12 1 3 = I1 at e1
  generalize hJ1 : aU (aU (aU J 13 0 (Int32.toInt64 ((Y A).1 0))) 13 1 (Int32.toInt64 ((Y A).1 1))) 13 2 (Int32.toInt64 (nI (W A))) = J1 at e1
  have F1 : Fr [12, 28, 35, 36, 41] I I1 := by rw [← hI1, aU_R]; exact Fr_s (Fr_w p1 (by decide)) _ (by decide)
  -- the reference
  have lR : ∀ (M j : Nat) (I2 : Nat → Nat → Int32) (rd1 : Nat) (w6 w7 w8 : Value), j + M = A → Fr [46, 57, 60] I1 I2 → F46 scf I1 I2 → rV (I2 60) = (Y j).1 → I2 46 36 = (Y j).2 → ∃ I' rd' w6' w7' w8', Fr [46, 57, 60] I1 I' ∧ F46 scf I1 I' ∧ rV (I' 60) = (Y A).1 ∧ aE d 289 52 [.ref 46, .int a, .int (nI A), .int (nI (B j)), .int (nI (W j)), .int (nI j), w6, w7, w8] [] (g, I2, J1, aP1 sl rd1 56) = aE d 289 52 [.ref 46, .int a, .int (nI A), .int (nI (B A)), .int (nI (W A)), .int (nI A), w6', w7', w8'] [] (g, I', J1, aP1 sl rd' 56) := by
    intro M
    induction M with
    | zero =>
      intro j I2 rd1 w6 w7 w8 hj q1 q2 q3 q4
      obtain rfl : j = A := by omega
      exact ⟨I2, rd1, w6, w7, w8, q1, q2, q3, rfl⟩
    | succ M ih =>
      intro j I2 rd1 w6 w7 w8 hj q1 q2 q3 q4
      have k46 : ∀ x, x ∉ scf → I2 46 x = I 46 x := fun x hx => by rw [q2 x hx, F1 46 (by decide)]
      have kr : ∀ x, x ∉ [12, 28, 35, 36, 41, 46, 57, 60] → I2 x = I x := fun x hx => by
        rw [q1 x (fun h => hx (by simp at h ⊢; omega)), F1 x (fun h => hx (by simp at h ⊢; omega))]
      obtain ⟨I3, rd3, w6', w7', w8', f1, f2, f3, f4, f5⟩ := y289 (d := d) (g := g) (I := I2) (J := J1) (sl := sl) (rd := rd1) (st := st) (rs := kk) (rv := rv) (p := I 16) (sk := I 15) (v := (Y j).1) (s := (Y j).2) (l := I 14 11) hd (by rw [kr 55 (by decide)]; exact v4) (by rw [kr 55 (by decide)]; exact v5) v6 (by rw [k46 22 (by decide)]; exact v2) (by rw [k46 1 (by decide)]; exact d2) hn n0 hst.symm (by rw [kr 48 (by decide)]; exact sk) (by rw [kr 49 (by decide)]; exact hp) hp2 (hW j) q3 q4 (by rw [k46 8 (by decide)]; exact hL.symm) A (B j) (W j) j (by omega) hA (.int a) w6 w7 w8
      obtain ⟨I', rd', u6, u7, u8, r1, r2, r3, r4⟩ := ih (j + 1) I3 rd3 w6' w7' w8' (by omega) (Fr_t q1 f1) (F46_t q2 (F46_w f2 (by decide))) (by rw [Y1]; exact f3) (by rw [Y1]; exact f4)
      refine ⟨I', rd', u6, u7, u8, r1, r2, r3, ?_⟩
      rw [f5, ← B1]
      have w1 := W1 j
      rw [Y1 j] at w1
      rw [← w1]
      exact r4
  have T60 : ∀ k, k < 39 → (aR (aU (aU I1 46 13 0) 46 36 a) 60 (cpB (I1 60) (I1 47) 0 39)) 60 k = I 47 k := fun k hk => by
    rw [aR_s, cpB_in _ _ (by omega) (by omega), F1 47 (by decide)]; rfl
  obtain ⟨Ir, rdr, u6, u7, u8, r1, r2, r3, r4⟩ := lR A 0 (aR (aU (aU I1 46 13 0) 46 36 a) 60 (cpB (I1 60) (I1 47) 0 39)) rd aNo aNo aNo (by omega) (by rw [aU_R, aU_R]; exact Fr_s (Fr_s (Fr_s (Fr_r _ _) _ (by decide)) _ (by decide)) _ (by decide)) (fun j hj => by rw [aR_r _ _ (by decide), aU_i _ _ (fun e => hj (by rw [e]; decide)), aU_i _ _ (fun e => hj (by rw [e]; decide))]) (by rw [Y0, rV_congr T60]; exact hS.1.symm) (by rw [aR_r _ _ (by decide), aU_s, Y0])
  have o0 : Ir 60 0 = (Y A).1 0 := by rw [← r3]; exact (rV_lt _ (by decide)).symm
  have o1 : Ir 60 1 = (Y A).1 1 := by rw [← r3]; exact (rV_lt _ (by decide)).symm
  have e222 : aF d 222 [.ref 47, .ref 60, .int 0] (g, aU (aU I1 46 13 0) 46 36 a, J1, aP1 sl rd 56) = some (some none, (g, aR (aU (aU I1 46 13 0) 46 36 a) 60 (cpB (I1 60) (I1 47) 0 39), J1, aP1 sl rd 56)) := by
    have f := f222_60 (d := d) (g := g) (I := aU (aU I1 46 13 0) 46 36 a) (J := J1) (sl := sl) (rd := rd) (rl := 56) (o := 0) (by decide)
    simp (disch := decide) only [aU_r] at f
    exact f
  have e2 : aF d 289 [.ref 46, .int a, .int (nI A)] (g, I1, J1, aP1 sl rd 56) = some (some (some (.int (nI (B A)))), (g, aU Ir 46 12 3, aU (aU (aU J1 53 0 (Int32.toInt64 ((Y A).1 0))) 53 1 (Int32.toInt64 ((Y A).1 1))) 53 2 (Int32.toInt64 (nI (W A))), aP1 sl rdr 56)) := by
    show aE d 289 0 [.ref 46, .int a, .int (nI A), aNo, aNo, aNo, aNo, aNo, aNo] [] _ = _
    rw [b289_0, if_neg (by rw [F1 46 (by decide), d2]; exact nz), f181, inI_t x1 x2]
    simp only [aBi]
    rw [b289_22, if_neg (by decide), e222]
    simp only [aBv]
    rw [b289_49]
    have r4 : aE d 289 52 [.ref 46, .int a, .int (nI A), .int 0, .int 0, .int 0, aNo, aNo, aNo] [] (g, aR (aU (aU I1 46 13 0) 46 36 a) 60 (cpB (I1 60) (I1 47) 0 39), J1, aP1 sl rd 56) = aE d 289 52 [.ref 46, .int a, .int (nI A), .int (nI (B A)), .int (nI (W A)), .int (nI A), u6, u7, u8] [] (g, Ir, J1, aP1 sl rdr 56) := by rw [B0, W0] at r4; exact r4
    rw [r4, b289_52, if_pos (Int32.le_refl _), tell0, o0]
    simp only [aBv]
    rw [b289_211, tell1, aU_r _ _ (show 60 ≠ 46 by decide), o1]
    simp only [aBv]
    rw [b289_222, tell2]
    simp only [aBv]
    rw [b289_229]
  refine tie_R H (Fr_w F1 (by decide)) ?_ ?_ ?_ e1 e2
  · rw [aU_R]; exact Fr_s (Fr_w r1 (by decide)) _ (by decide)
  · intro j hj; rw [aU_i _ _ (fun e => hj (by rw [e]; decide))]; exact r2 j (fun h => hj (List.mem_cons_of_mem _ h))
  · refine zR_3 ?_ ?_ ?_ ?_ ?_
    · rw [aU_r _ _ (by decide), r1 12 (by decide), ← hI1, aU_s]
    · rw [aU_s]
    · rw [← hJ1]; simp (disch := decide) only [aU_r, aU_i, aU_s]
    · rw [← hJ1]; simp (disch := decide) only [aU_r, aU_i, aU_s]
    · rw [← hJ1]; simp (disch := decide) only [aU_r, aU_i, aU_s]
end T00
