/-! a season's act, done: both sides -/
variable {d : Nat} {g : Nat × Nat × Nat} {I : Nat → Nat → Int32} {J : Nat → Nat → Int64} {sl rd rl : Nat} {t n m q : Nat}
def actV (st : (Nat → Int32) → Nat → Int32) (n q : Nat) (pr sd : Nat → Int32) (a : Int32 × Int32 × Int32) (v : Nat → Int32) : Option (Nat → Int32) :=
  if a.1 = 98 then (if a.2.2.toNatClampNeg < n ∧ ¬ v (6 + a.2.2.toNatClampNeg) = a.2.1 ∧ pr a.2.2.toNatClampNeg ≤ v a.2.1.toNatClampNeg then some (rBuy v a.2.1.toNatClampNeg a.2.2.toNatClampNeg (pr a.2.2.toNatClampNeg)) else none)
  else if a.1 = 99 then (if a.2.2.toNatClampNeg < n ∧ ¬ v (6 + a.2.2.toNatClampNeg) = a.2.1 ∧ ¬ v (14 + a.2.2.toNatClampNeg) = 1 ∧ 5 ≤ v a.2.1.toNatClampNeg then some (rHex v a.2.1.toNatClampNeg a.2.2.toNatClampNeg) else none)
  else if a.1 = 103 then (if 0 < a.2.2.toNatClampNeg then some (adA v a.2.1.toNatClampNeg (-a.2.2)) else none)
  else if a.1 = 100 then (if a.2.1.toNatClampNeg < n ∧ ¬ v (14 + a.2.1.toNatClampNeg) = 0 ∧ 3 ≤ v (v (6 + a.2.1.toNatClampNeg)).toNatClampNeg then some (rDig v (v (6 + a.2.1.toNatClampNeg)).toNatClampNeg a.2.1.toNatClampNeg) else none)
  else if a.1 = 114 then (if n = 0 then none else some (vsR st n v a.2.1.toNatClampNeg))
  else (if a.2.1.toNatClampNeg < q ∧ v (30 + a.2.1.toNatClampNeg) = -1 then some (rSide v a.2.1.toNatClampNeg a.2.2.toNatClampNeg (sd (4 * a.2.1.toNatClampNeg + a.2.2.toNatClampNeg)) (sd (4 * a.2.1.toNatClampNeg + 2 + a.2.2.toNatClampNeg))) else none)
theorem rV_i (h : Nat → Int32) : rV (rV h) = rV h := rV_congr (fun i hi => rV_lt _ hi)
theorem vsR_n {st : (Nat → Int32) → Nat → Int32} {n : Nat} {v : Nat → Int32} (hc : clubs (fun i => v (6 + i)) n) (hn : n ≤ 8) (h0 : 0 < n) (hv : rV v = v) : ∀ j, rV (vsR st n v j) = vsR st n v j
  | 0 => hv
  | j + 1 => by
    obtain ⟨_, k, hk, _, e2⟩ := vsR_1 (st := st) hc hn h0 j
    have hw : wnR st n v j < n := wn_lt _ h0
    rw [e2, rRace_r _ (by omega) hk, vsR_n hc hn h0 hv j]
theorem adA_0 (f : Nat → Int32) (c : Nat) (x : Int32) : ∃ k, k ≤ 999 ∧ adA f c x (2 + c) = nI k := by
  unfold adA; rw [upd_s]; exact cl9_ok _
section A
variable {mm rs : Nat} {rv : (Nat → Int32) → Int32} {v : Nat → Int32} {st : (Nat → Int32) → Nat → Int32} {a : Int32 × Int32 × Int32}
theorem f104 {i : Nat} (hR : cRule (I 34) mm rv) (hs : I 33 1 = nI mm) (h0 : I 14 0 = nI n) (hn : n ≤ 8) (h9 : I 14 9 = nI q) (hq : q ≤ 8) (hst : st = sts rv (I 15)) (hp : ∀ i, i < n → ∃ x, x ≤ 99 ∧ I 16 i = nI x) (hS : okS n q (I 24) v) (hv : rV v = v) (hi : i < 30) (ha : goodA a) (e1 : I 45 (3 * i) = a.1) (e2 : I 45 (3 * i + 1) = a.2.1) (e3 : I 45 (3 * i + 2) = a.2.2) : ∃ r I', Fr [24, 35, 36, 41] I I' ∧ (0 ≤ r ↔ (actV st n q (I 16) (I 22) a v).isSome = true) ∧ okS n q (I' 24) ((actV st n q (I 16) (I 22) a v).getD v) ∧ rV ((actV st n q (I 16) (I 22) a v).getD v) = (actV st n q (I 16) (I 22) a v).getD v ∧ aF d 104 [.ref 6, .int (nI i)] (g, I, J, aP1 sl rd rl) = some (some (some (.int r)), (g, I', J, aP1 sl rd rl)) := by
  obtain ⟨s, X, Y⟩ := a
  have e1 : I 45 (3 * i) = s := e1
  have e2 : I 45 (3 * i + 1) = X := e2
  have e3 : I 45 (3 * i + 2) = Y := e3
  have E : aF d 104 [.ref 6, .int (nI i)] (g, I, J, aP1 sl rd rl) = aE d 104 46 [.ref 6, .int (nI i), .int (nI (3 * i)), .int X, .int Y] [.int s] (g, I, J, aP1 sl rd rl) := by
    show aE d 104 0 [.ref 6, .int (nI i), aNo, aNo, aNo] [] _ = _
    have m3 : (3 : Int32) * nI i = nI (3 * i) := pk_mul 3 i
    have a1 : nI (3 * i) + 1 = nI (3 * i + 1) := nI_1 _
    have a2 : nI (3 * i) + 2 = nI (3 * i + 2) := nI_add (3 * i) 2
    rw [b104_0, m3, a1, a2, nI_clamp (by omega), nI_clamp (by omega), nI_clamp (by omega), if_neg (show ¬ nI (3 * i) < 0 from nI_nlt (b := 0) (by omega) (by omega)), if_pos (show nI (3 * i + 2) < 90 from nI_lt (b := 90) (by omega) (by omega)), if_neg (t90 (by omega)), if_neg (t90 (by omega)), if_neg (t90 (by omega)), e1, e2, e3]
  rw [E]
  -- nothing done
  have no : ∀ (r : Int32), ¬ 0 ≤ r → actV st n q (I 16) (I 22) (s, X, Y) v = none → aE d 104 46 [.ref 6, .int (nI i), .int (nI (3 * i)), .int X, .int Y] [.int s] (g, I, J, aP1 sl rd rl) = some (some (some (.int (r))), (g, I, J, aP1 sl rd rl)) → ∃ r I', Fr [24, 35, 36, 41] I I' ∧ (0 ≤ r ↔ (actV st n q (I 16) (I 22) (s, X, Y) v).isSome = true) ∧ okS n q (I' 24) ((actV st n q (I 16) (I 22) (s, X, Y) v).getD v) ∧ rV ((actV st n q (I 16) (I 22) (s, X, Y) v).getD v) = (actV st n q (I 16) (I 22) (s, X, Y) v).getD v ∧ aE d 104 46 [.ref 6, .int (nI i), .int (nI (3 * i)), .int X, .int Y] [.int s] (g, I, J, aP1 sl rd rl) = some (some (some (.int r)), (g, I', J, aP1 sl rd rl)) := by
    intro r hr hN he
    rw [hN]
    exact ⟨r, I, Fr_r _ _, ⟨fun h => absurd h hr, fun h => by simp at h⟩, hS, hv, he⟩
  have yes : ∀ (r : Int32) (f w : Nat → Int32), 0 ≤ r → actV st n q (I 16) (I 22) (s, X, Y) v = some w → okS n q f w → rV w = w → aE d 104 46 [.ref 6, .int (nI i), .int (nI (3 * i)), .int X, .int Y] [.int s] (g, I, J, aP1 sl rd rl) = some (some (some (.int r)), (g, aR I 24 f, J, aP1 sl rd rl)) → ∃ r I', Fr [24, 35, 36, 41] I I' ∧ (0 ≤ r ↔ (actV st n q (I 16) (I 22) (s, X, Y) v).isSome = true) ∧ okS n q (I' 24) ((actV st n q (I 16) (I 22) (s, X, Y) v).getD v) ∧ rV ((actV st n q (I 16) (I 22) (s, X, Y) v).getD v) = (actV st n q (I 16) (I 22) (s, X, Y) v).getD v ∧ aE d 104 46 [.ref 6, .int (nI i), .int (nI (3 * i)), .int X, .int Y] [.int s] (g, I, J, aP1 sl rd rl) = some (some (some (.int r)), (g, I', J, aP1 sl rd rl)) := by
    intro r f w hr hN hf hw he
    rw [hN]
    exact ⟨r, aR I 24 f, Fr_s (Fr_r _ _) _ (by decide), ⟨fun _ => rfl, fun _ => hr⟩, by rw [aR_s]; exact hf, hw, he⟩
  have vc : ∀ c, c < 2 → I 24 c = v c := fun c hc => okS_c hS (by omega)
  have n0 : ∀ k : Nat, k < 2 ^ 31 → 0 ≤ nI k := fun k hk => nI_le (a := 0) (by omega) hk
  rcases ha with ⟨hs', ⟨x, hx, hX⟩, y, hy, hY⟩ | ⟨hs', x, hx, hX⟩ | ⟨hs', ⟨x, hx, hX⟩, y, hy, hY⟩
  · have hX : X = nI x := hX
    have hY : Y = nI y := hY
    subst hX hY
    have cx : (nI x).toNatClampNeg = x := nI_clamp (by omega)
    have cy : (nI y).toNatClampNeg = y := nI_clamp (by omega)
    rcases hs' with hs' | hs' | hs'
    · have hs' : s = 98 := hs'
      subst hs'
      have eV : actV st n q (I 16) (I 22) (98, nI x, nI y) v = (if y < n ∧ ¬ v (6 + y) = nI x ∧ I 16 y ≤ v x then some (rBuy v x y (I 16 y)) else none) := by
        unfold actV; rw [if_pos rfl, cx, cy]
      by_cases hyn : y < n
      · have f := f87_24 (d := d) (g := g) (I := I) (J := J) (sl := sl) (rd := rd) (rl := rl) hx hyn hn h0
        rw [okS_l hS (by omega), vc x hx] at f
        by_cases c1 : v (6 + y) = nI x
        · rw [if_pos c1] at f
          refine no (-2) (by decide) (by rw [eV, if_neg (fun h => h.2.1 c1)]) ?_
          rw [b104_46_c98, f]; simp only [aBi]; rw [b104_182]
        · rw [if_neg c1] at f
          by_cases c2 : I 16 y ≤ v x
          · rw [if_pos c2] at f
            obtain ⟨p, hp1, hp2⟩ := hp y hyn
            have S' : okS n q (cBuy (I 24) x y (I 16 y)) (rBuy v x y (I 16 y)) := by
              rw [hp2]; exact okS_buy hS hx hyn hn hp1 (by rw [vc x hx, ← hp2]; exact c2)
            obtain ⟨k, hk1, hk2, _⟩ := okS_m S' hx
            refine yes (cBuy (I 24) x y (I 16 y) x) _ _ (by rw [hk2]; exact n0 k (by omega)) (by rw [eV, if_pos ⟨hyn, c1, c2⟩]) S' (by rw [rBuy_r _ _ hx (by omega), hv]) ?_
            rw [b104_46_c98, f]; simp only [aBi]; rw [b104_182]
          · rw [if_neg c2] at f
            refine no (-3) (by decide) (by rw [eV, if_neg (fun h => c2 h.2.2)]) ?_
            rw [b104_46_c98, f]; simp only [aBi]; rw [b104_182]
      · refine no (-1) (by decide) (by rw [eV, if_neg (fun h => hyn h.1)]) ?_
        rw [b104_46_c98, f87n_24 (n := n) h0 (Or.inr (Or.inr (nI_le (by omega) (by omega))))]; simp only [aBi]; rw [b104_182]
    · have hs' : s = 99 := hs'
      subst hs'
      have eV : actV st n q (I 16) (I 22) (99, nI x, nI y) v = (if y < n ∧ ¬ v (6 + y) = nI x ∧ ¬ v (14 + y) = 1 ∧ 5 ≤ v x then some (rHex v x y) else none) := by
        unfold actV; rw [if_neg (show ¬ (99 : Int32) = 98 by decide), if_pos rfl, cx, cy]
      by_cases hyn : y < n
      · have f := f91_24 (d := d) (g := g) (I := I) (J := J) (sl := sl) (rd := rd) (rl := rl) hx hyn hn h0
        rw [okS_l hS (by omega)] at f
        have gx := okS_x hS (show y < 8 by omega)
        by_cases c1 : v (6 + y) = nI x
        · rw [if_pos c1] at f
          refine no (-2) (by decide) (by rw [eV, if_neg (fun h => h.2.1 c1)]) ?_
          rw [b104_46_c99, f]; simp only [aBi]; rw [b104_197]
        rw [if_neg c1] at f
        by_cases c2 : hasT (I 24 7) (nI y) = true
        · rw [if_pos c2] at f
          refine no (-3) (by decide) (by rw [eV, if_neg (fun h => h.2.2.1 (by rw [gx, c2]; rfl))]) ?_
          rw [b104_46_c99, f]; simp only [aBi]; rw [b104_197]
        rw [if_neg c2] at f
        by_cases c3 : 5 ≤ I 24 x
        · rw [if_pos c3] at f
          have S' := okS_hex hS hx hyn hn c3
          obtain ⟨k, hk1, hk2, _⟩ := okS_m S' hx
          refine yes (cHex (I 24) x y x) _ _ (by rw [hk2]; exact n0 k (by omega)) (by rw [eV, if_pos ⟨hyn, c1, by rw [gx, tI_1]; exact c2, by rw [← vc x hx]; exact c3⟩]) S' (by rw [rHex_r _ hx (by omega), hv]) ?_
          rw [b104_46_c99, f]; simp only [aBi]; rw [b104_197]
        · rw [if_neg c3] at f
          refine no (-4) (by decide) (by rw [eV, if_neg (fun h => c3 (by rw [vc x hx]; exact h.2.2.2))]) ?_
          rw [b104_46_c99, f]; simp only [aBi]; rw [b104_197]
      · refine no (-1) (by decide) (by rw [eV, if_neg (fun h => hyn h.1)]) ?_
        rw [b104_46_c99, f91n_24 (n := n) h0 (Or.inr (Or.inr (nI_le (by omega) (by omega))))]; simp only [aBi]; rw [b104_197]
    · have hs' : s = 103 := hs'
      subst hs'
      have eV : actV st n q (I 16) (I 22) (103, nI x, nI y) v = (if 0 < y then some (adA v x (-(nI y))) else none) := by
        unfold actV; rw [if_neg (show ¬ (103 : Int32) = 98 by decide), if_neg (show ¬ (103 : Int32) = 99 by decide), if_pos rfl, cx, cy]
      have f := f97_24 (d := d) (g := g) (I := I) (J := J) (sl := sl) (rd := rd) (rl := rl) hx (nI y)
      by_cases hy0 : 0 < y
      · rw [if_neg (show ¬ nI y < 1 from nI_nlt (b := 1) (by omega) (by omega)), if_pos (show nI y ≤ 99 from nI_le (b := 99) (by omega) (by omega))] at f
        obtain ⟨k, hk, e⟩ := adA_0 (I 24) x (-(nI y))
        refine yes (adA (I 24) x (-(nI y)) (2 + x)) _ _ (by rw [e]; exact n0 k (by omega)) (by rw [eV, if_pos hy0]) (okS_A hS hx _) (by rw [rV_adA _ _ hx, hv]) ?_
        rw [b104_46_c103, f]; simp only [aBi]; rw [b104_221]
      · rw [if_pos (show nI y < 1 from nI_lt (b := 1) (by omega) (by omega))] at f
        refine no (-1) (by decide) (by rw [eV, if_neg hy0]) ?_
        rw [b104_46_c103, f]; simp only [aBi]; rw [b104_221]
  · have hX : X = nI x := hX
    subst hX
    have cx : (nI x).toNatClampNeg = x := nI_clamp (by omega)
    rcases hs' with hs' | hs'
    · have hs' : s = 100 := hs'
      subst hs'
      have eV : actV st n q (I 16) (I 22) (100, nI x, Y) v = (if x < n ∧ ¬ v (14 + x) = 0 ∧ 3 ≤ v (v (6 + x)).toNatClampNeg then some (rDig v (v (6 + x)).toNatClampNeg x) else none) := by
        unfold actV; rw [if_neg (show ¬ (100 : Int32) = 98 by decide), if_neg (show ¬ (100 : Int32) = 99 by decide), if_neg (show ¬ (100 : Int32) = 103 by decide), if_pos rfl, cx]
      by_cases hxn : x < n
      · obtain ⟨c, hc, k1, k2⟩ := okS_k hS hn hxn
        have f := f95 (d := d) (g := g) (I := I) (J := J) (sl := sl) (rd := rd) (rl := rl) hxn hn h0 hc k1
        have gx := okS_x hS (show x < 8 by omega)
        rw [k2, nI_clamp (by omega)] at eV
        by_cases c2 : hasT (I 24 7) (nI x) = false
        · rw [if_pos c2] at f
          refine no (-2) (by decide) (by rw [eV, if_neg (fun h => h.2.1 (by rw [gx, c2]; rfl))]) ?_
          rw [b104_46_c100, f]; simp only [aBi]; rw [b104_210]
        rw [if_neg c2] at f
        by_cases c3 : 3 ≤ I 24 c
        · rw [if_pos c3] at f
          have S' := okS_dig hS hc hxn hn c3
          obtain ⟨k, hk1, hk2, _⟩ := okS_m S' hc
          refine yes (cDig (I 24) c x c) _ _ (by rw [hk2]; exact n0 k (by omega)) (by rw [eV, if_pos ⟨hxn, by rw [gx, show hasT (I 24 7) (nI x) = true by simpa using c2]; decide, by rw [← vc c hc]; exact c3⟩]) S' (by rw [rDig_r _ hc (by omega), hv]) ?_
          rw [b104_46_c100, f]; simp only [aBi]; rw [b104_210]
        · rw [if_neg c3] at f
          refine no (-3) (by decide) (by rw [eV, if_neg (fun h => c3 (by rw [vc c hc]; exact h.2.2))]) ?_
          rw [b104_46_c100, f]; simp only [aBi]; rw [b104_210]
      · refine no (-1) (by decide) (by rw [eV, if_neg (fun h => hxn h.1)]) ?_
        rw [b104_46_c100, f95n (n := n) h0 (Or.inr (nI_le (by omega) (by omega)))]; simp only [aBi]; rw [b104_210]
    · have hs' : s = 114 := hs'
      subst hs'
      have eV : actV st n q (I 16) (I 22) (114, nI x, Y) v = (if n = 0 then none else some (vsR st n v x)) := by
        unfold actV; rw [if_neg (show ¬ (114 : Int32) = 98 by decide), if_neg (show ¬ (114 : Int32) = 99 by decide), if_neg (show ¬ (114 : Int32) = 103 by decide), if_neg (show ¬ (114 : Int32) = 100 by decide), if_pos rfl, cx]
      by_cases hn0 : n = 0
      · refine no (-2) (by decide) (by rw [eV, if_pos hn0]) ?_
        rw [b104_46_c114, if_pos (by rw [h0, hn0]; rfl), b104_167]
      · have n0' : 0 < n := by omega
        obtain ⟨I', f1, f2, f3, -, -, -, -, -, f4⟩ := f64 (d := d) (g := g) (I := I) (J := J) (sl := sl) (rd := rd) (rl := rl) (nd := n) (m := mm) (N := x) (rv := rv) hR hs h0 hn n0' (okS_cl hS hn) (by omega)
        have b := blR_le (sts rv (I 15)) n (cV (I 24)) x
        rw [eV, if_neg hn0]
        have cw : clubs (fun i => v (6 + i)) n := okS_clr hS hn
        have eq : cV (I 24) = v := hS.1.trans hv
        refine ⟨nI (blR (sts rv (I 15)) n (cV (I 24)) x), I', f1, ⟨fun _ => rfl, fun _ => n0 _ (by omega)⟩, ?_, vsR_n cw hn n0' hv x, ?_⟩
        · show okS n q (I' 24) (vsR st n v x)
          refine ⟨?_, ?_, ?_⟩
          · rw [vsR_n cw hn n0' hv x, f2, eq, hst]
          · rw [vsR_n cw hn n0' hv x]
            exact vsR_ok (by have := hS.2.1; rw [hv] at this; exact this) hn n0' x
          · rw [f3]; exact hS.2.2
        · rw [b104_46_c114, if_neg (by rw [h0]; exact nIz n0' (by omega)), f4]
          simp only [aBi]
          rw [b104_167]
  · have hX : X = nI x := hX
    have hY : Y = nI y := hY
    have hs' : s = 115 := hs'
    subst hX hY hs'
    have cx : (nI x).toNatClampNeg = x := nI_clamp (by omega)
    have cy : (nI y).toNatClampNeg = y := nI_clamp (by omega)
    have eV : actV st n q (I 16) (I 22) (115, nI x, nI y) v = (if x < q ∧ v (30 + x) = -1 then some (rSide v x y (I 22 (4 * x + y)) (I 22 (4 * x + 2 + y))) else none) := by
      unfold actV; rw [if_neg (show ¬ (115 : Int32) = 98 by decide), if_neg (show ¬ (115 : Int32) = 99 by decide), if_neg (show ¬ (115 : Int32) = 103 by decide), if_neg (show ¬ (115 : Int32) = 100 by decide), if_neg (show ¬ (115 : Int32) = 114 by decide), cx, cy]
    by_cases hxq : x < q
    · have f := f99_24 (d := d) (g := g) (I := I) (J := J) (sl := sl) (rd := rd) (rl := rl) hy hxq hq h9
      rw [okS_s hS (by omega)] at f
      by_cases c1 : v (30 + x) = -1
      · rw [if_pos c1] at f
        refine yes (tI (jn (cSide (I 24) x y (I 22 (4 * x + y)) (I 22 (4 * x + 2 + y))) (I 14 11))) _ _ (by rw [tI_n]; exact n0 _ (by have := bool1 (jn (cSide (I 24) x y (I 22 (4 * x + y)) (I 22 (4 * x + 2 + y))) (I 14 11)); omega)) (by rw [eV, if_pos ⟨hxq, c1⟩]) (okS_side hS hxq hn hq y _ _) (by rw [rSide_r _ _ _ (by omega), hv]) ?_
        rw [b104_46_c115, f]; simp only [aBi]; rw [b104_236]
      · rw [if_neg c1] at f
        refine no (-2) (by decide) (by rw [eV, if_neg (fun h => c1 h.2)]) ?_
        rw [b104_46_c115, f]; simp only [aBi]; rw [b104_236]
    · refine no (-1) (by decide) (by rw [eV, if_neg (fun h => hxq h.1)]) ?_
      rw [b104_46_c115, f99n_24 (n := q) h9 (Or.inl (Or.inr (nI_le (by omega) (by omega))))]; simp only [aBi]; rw [b104_236]
theorem f245 {sk pr sd : Nat → Int32} (hd : 41 ≤ d) (hV : rRule (I 55) rs rv) (hB : byR (I 55)) (hC : ∀ t t' : Nat → Int32, (∀ k, k < 8 → t k = t' k) → rv t = rv t') (hs : I 46 22 = nI rs) (hN : I 46 1 = nI n) (hn : n ≤ 8) (h6 : I 46 6 = nI q) (hq : q ≤ 8) (hst : st = sts rv sk) (hsk : ∀ i, i < n → I 48 i = sk i) (hp : ∀ i, i < n → I 49 i = pr i) (hsd : ∀ k, k < 4 * q → I 51 k = sd k) (hW : okW n q v) (hv : rV (I 47) = v) (ha : goodA a) (z : Int32) (hz : ¬ a.1 = 100 → ¬ a.1 = 114 → z = a.2.2) : ∃ I' rd', Fr [46, 47, 57] I I' ∧ F46 scf I I' ∧ rV (I' 47) = (actV st n q pr sd a v).getD v ∧ aF d 245 [.ref 46, .int a.1, .int a.2.1, .int z] (g, I, J, aP1 sl rd 56) = some (some (some (.int (tI (actV st n q pr sd a v).isSome))), (g, I', J, aP1 sl rd' 56)) := by
  obtain ⟨s, X, Y⟩ := a
  have E : aF d 245 [.ref 46, .int s, .int X, .int z] (g, I, J, aP1 sl rd 56) = aE d 245 1 [.ref 46, .int s, .int X, .int z] [.int s] (g, I, J, aP1 sl rd 56) := by
    show aE d 245 0 [.ref 46, .int s, .int X, .int z] [] _ = _
    rw [b245_0]
  have hz2 : ¬ s = 100 → ¬ s = 114 → z = Y := hz
  clear hz
  show ∃ I' rd', Fr [46, 47, 57] I I' ∧ F46 scf I I' ∧ rV (I' 47) = (actV st n q pr sd (s, X, Y) v).getD v ∧ aF d 245 [.ref 46, .int s, .int X, .int z] (g, I, J, aP1 sl rd 56) = some (some (some (.int (tI (actV st n q pr sd (s, X, Y) v).isSome))), (g, I', J, aP1 sl rd' 56))
  rw [E]
  have no : actV st n q pr sd (s, X, Y) v = none → aE d 245 1 [.ref 46, .int s, .int X, .int z] [.int s] (g, I, J, aP1 sl rd 56) = some (some (some (.int 0)), (g, I, J, aP1 sl rd 56)) → ∃ I' rd', Fr [46, 47, 57] I I' ∧ F46 scf I I' ∧ rV (I' 47) = (actV st n q pr sd (s, X, Y) v).getD v ∧ aE d 245 1 [.ref 46, .int s, .int X, .int z] [.int s] (g, I, J, aP1 sl rd 56) = some (some (some (.int (tI (actV st n q pr sd (s, X, Y) v).isSome))), (g, I', J, aP1 sl rd' 56)) := by
    intro hN he
    rw [hN]
    exact ⟨I, rd, Fr_r _ _, F46_r _ _, hv, he⟩
  have yes : ∀ (f w : Nat → Int32), actV st n q pr sd (s, X, Y) v = some w → rV f = w → aE d 245 1 [.ref 46, .int s, .int X, .int z] [.int s] (g, I, J, aP1 sl rd 56) = some (some (some (.int 1)), (g, aR I 47 f, J, aP1 sl rd 56)) → ∃ I' rd', Fr [46, 47, 57] I I' ∧ F46 scf I I' ∧ rV (I' 47) = (actV st n q pr sd (s, X, Y) v).getD v ∧ aE d 245 1 [.ref 46, .int s, .int X, .int z] [.int s] (g, I, J, aP1 sl rd 56) = some (some (some (.int (tI (actV st n q pr sd (s, X, Y) v).isSome))), (g, I', J, aP1 sl rd' 56)) := by
    intro f w hN hf he
    rw [hN]
    exact ⟨aR I 47 f, rd, Fr_s (Fr_r _ _) _ (by decide), fun j _ => by rw [aR_r _ _ (by decide)], by rw [aR_s]; exact hf, he⟩
  have v47 : ∀ k, k < 39 → I 47 k = v k := fun k hk => by rw [← hv, rV_lt _ hk]
  rcases ha with ⟨hs', ⟨x, hx, hX⟩, y, hy, hY⟩ | ⟨hs', x, hx, hX⟩ | ⟨hs', ⟨x, hx, hX⟩, y, hy, hY⟩
  · have hX : X = nI x := hX
    have hY : Y = nI y := hY
    subst hX hY
    have cx : (nI x).toNatClampNeg = x := nI_clamp (by omega)
    have cy : (nI y).toNatClampNeg = y := nI_clamp (by omega)
    rcases hs' with hs' | hs' | hs'
    · have hs' : s = 98 := hs'
      subst hs'
      obtain rfl : z = nI y := hz2 (by decide) (by decide)
      have eV : actV st n q pr sd (98, nI x, nI y) v = (if y < n ∧ ¬ v (6 + y) = nI x ∧ pr y ≤ v x then some (rBuy v x y (pr y)) else none) := by
        unfold actV; rw [if_pos rfl, cx, cy]
      by_cases hyn : y < n
      · have f := f231_47 (d := d) (g := g) (I := I) (J := J) (sl := sl) (rd := rd) (rl := 56) hx hyn hn hN
        rw [v47 (6 + y) (by omega), v47 x (by omega), hp y hyn] at f
        by_cases c1 : v (6 + y) = nI x
        · rw [if_pos c1] at f
          refine no (by rw [eV, if_neg (fun h => h.2.1 c1)]) ?_
          rw [b245_1_c98, f]; simp only [aBi]; rw [b245_82, if_neg (by decide)]
        · rw [if_neg c1] at f
          by_cases c2 : pr y ≤ v x
          · rw [if_pos c2] at f
            refine yes (rBuy (I 47) x y (pr y)) _ (by rw [eV, if_pos ⟨hyn, c1, c2⟩]) (by rw [rBuy_r _ _ hx (by omega), hv]) ?_
            rw [b245_1_c98, f]; simp only [aBi]
            rw [b245_82, if_pos (by decide), f232_47 hx (by omega), hp y hyn]
            simp only [aBv]; rw [b245_97]
          · rw [if_neg c2] at f
            refine no (by rw [eV, if_neg (fun h => c2 h.2.2)]) ?_
            rw [b245_1_c98, f]; simp only [aBi]; rw [b245_82, if_neg (by decide)]
      · refine no (by rw [eV, if_neg (fun h => hyn h.1)]) ?_
        rw [b245_1_c98, f231n_47 (n := n) hn hN (Or.inr (Or.inr (nI_le (by omega) (by omega))))]; simp only [aBi]; rw [b245_82, if_neg (by decide)]
    · have hs' : s = 99 := hs'
      subst hs'
      obtain rfl : z = nI y := hz2 (by decide) (by decide)
      have eV : actV st n q pr sd (99, nI x, nI y) v = (if y < n ∧ ¬ v (6 + y) = nI x ∧ ¬ v (14 + y) = 1 ∧ 5 ≤ v x then some (rHex v x y) else none) := by
        unfold actV; rw [if_neg (show ¬ (99 : Int32) = 98 by decide), if_pos rfl, cx, cy]
      by_cases hyn : y < n
      · have f := f234 (d := d) (g := g) (I := I) (J := J) (sl := sl) (rd := rd) (rl := 56) hx hyn hn hN
        rw [v47 (6 + y) (by omega), v47 x (by omega), v47 (14 + y) (by omega)] at f
        by_cases c1 : v (6 + y) = nI x
        · rw [if_pos c1] at f
          refine no (by rw [eV, if_neg (fun h => h.2.1 c1)]) ?_
          rw [b245_1_c99, f]; simp only [aBi]; rw [b245_105, if_neg (by decide)]
        rw [if_neg c1] at f
        by_cases c2 : v (14 + y) = 1
        · rw [if_pos c2] at f
          refine no (by rw [eV, if_neg (fun h => h.2.2.1 c2)]) ?_
          rw [b245_1_c99, f]; simp only [aBi]; rw [b245_105, if_neg (by decide)]
        rw [if_neg c2] at f
        by_cases c3 : 5 ≤ v x
        · rw [if_pos c3] at f
          refine yes (rHex (I 47) x y) _ (by rw [eV, if_pos ⟨hyn, c1, c2, c3⟩]) (by rw [rHex_r _ hx (by omega), hv]) ?_
          rw [b245_1_c99, f]; simp only [aBi]
          rw [b245_105, if_pos (by decide), f235_47 hx (by omega)]
          simp only [aBv]; rw [b245_119]
        · rw [if_neg c3] at f
          refine no (by rw [eV, if_neg (fun h => c3 h.2.2.2)]) ?_
          rw [b245_1_c99, f]; simp only [aBi]; rw [b245_105, if_neg (by decide)]
      · refine no (by rw [eV, if_neg (fun h => hyn h.1)]) ?_
        rw [b245_1_c99, f234n (n := n) hn hN (Or.inr (Or.inr (nI_le (by omega) (by omega))))]; simp only [aBi]; rw [b245_105, if_neg (by decide)]
    · have hs' : s = 103 := hs'
      subst hs'
      obtain rfl : z = nI y := hz2 (by decide) (by decide)
      have eV : actV st n q pr sd (103, nI x, nI y) v = (if 0 < y then some (adA v x (-(nI y))) else none) := by
        unfold actV; rw [if_neg (show ¬ (103 : Int32) = 98 by decide), if_neg (show ¬ (103 : Int32) = 99 by decide), if_pos rfl, cx, cy]
      by_cases hy0 : 0 < y
      · refine yes (adA (I 47) x (-(nI y))) _ (by rw [eV, if_pos hy0]) (by rw [rV_adA _ _ hx, hv]) ?_
        rw [b245_1_c103, if_neg (nIz hy0 (by omega)), f227_47 hx]
        simp only [aBv]; rw [b245_154]
      · refine no (by rw [eV, if_neg hy0]) ?_
        obtain rfl : y = 0 := by omega
        rw [b245_1_c103, if_pos (show nI 0 = (0 : Int32) from rfl)]
  · have hX : X = nI x := hX
    subst hX
    have cx : (nI x).toNatClampNeg = x := nI_clamp (by omega)
    rcases hs' with hs' | hs'
    · have hs' : s = 100 := hs'
      subst hs'
      have eV : actV st n q pr sd (100, nI x, Y) v = (if x < n ∧ ¬ v (14 + x) = 0 ∧ 3 ≤ v (v (6 + x)).toNatClampNeg then some (rDig v (v (6 + x)).toNatClampNeg x) else none) := by
        unfold actV; rw [if_neg (show ¬ (100 : Int32) = 98 by decide), if_neg (show ¬ (100 : Int32) = 99 by decide), if_neg (show ¬ (100 : Int32) = 103 by decide), if_pos rfl, cx]
      by_cases hxn : x < n
      · obtain ⟨c, hc, k2⟩ := hW.2.2.1 x hxn
        have k2 : v (6 + x) = nI c := k2
        have k1 : I 47 (6 + x) = nI c := (v47 _ (by omega)).trans k2
        have f := f237 (d := d) (g := g) (I := I) (J := J) (sl := sl) (rd := rd) (rl := 56) hxn hn hN hc k1
        rw [k2, nI_clamp (by omega)] at eV
        rw [v47 (14 + x) (by omega), v47 c (by omega)] at f
        by_cases c2 : v (14 + x) = 0
        · rw [if_pos c2] at f
          refine no (by rw [eV, if_neg (fun h => h.2.1 c2)]) ?_
          rw [b245_1_c100, f]; simp only [aBi]; rw [b245_126, if_neg (by decide)]
        rw [if_neg c2] at f
        by_cases c3 : 3 ≤ v c
        · rw [if_pos c3] at f
          refine yes (rDig (I 47) c x) _ (by rw [eV, if_pos ⟨hxn, c2, c3⟩]) (by rw [rDig_r _ hc (by omega), hv]) ?_
          rw [b245_1_c100, f]; simp only [aBi]
          rw [b245_126, if_pos (by decide), f238 (by omega) hc k1]
          simp only [aBv]; rw [b245_136]
        · rw [if_neg c3] at f
          refine no (by rw [eV, if_neg (fun h => c3 h.2.2)]) ?_
          rw [b245_1_c100, f]; simp only [aBi]; rw [b245_126, if_neg (by decide)]
      · refine no (by rw [eV, if_neg (fun h => hxn h.1)]) ?_
        rw [b245_1_c100, f237n (n := n) hn hN (Or.inr (nI_le (by omega) (by omega)))]; simp only [aBi]; rw [b245_126, if_neg (by decide)]
    · have hs' : s = 114 := hs'
      subst hs'
      have eV : actV st n q pr sd (114, nI x, Y) v = (if n = 0 then none else some (vsR st n v x)) := by
        unfold actV; rw [if_neg (show ¬ (114 : Int32) = 98 by decide), if_neg (show ¬ (114 : Int32) = 99 by decide), if_neg (show ¬ (114 : Int32) = 103 by decide), if_neg (show ¬ (114 : Int32) = 100 by decide), if_pos rfl, cx]
      by_cases hn0 : n = 0
      · refine no (by rw [eV, if_pos hn0]) ?_
        rw [b245_1_c114, if_pos (by rw [hN, hn0]; rfl)]
      · have n0' : 0 < n := by omega
        obtain ⟨I', rd', f1, f2, f3, -, -, -, f4⟩ := f223 (d := d) (g := g) (I := I) (J := J) (sl := sl) (rd := rd) (nd := n) (rs := rs) (N := x) (rv := rv) (sk := sk) hd hV hB hC hs hN hn n0' (fun i hi => by
          obtain ⟨c, hc, k2⟩ := hW.2.2.1 i hi
          exact ⟨c, hc, (v47 _ (by omega)).trans k2⟩) hsk (by omega)
        rw [eV, if_neg hn0]
        refine ⟨I', rd', Fr_w f1 (by decide), F46_w f2 (by decide), ?_, ?_⟩
        · rw [f3, hv, hst]; rfl
        · rw [b245_1_c114, if_neg (by rw [hN]; exact nIz n0' (by omega)), f4]
          simp only [aBv]
          rw [b245_70]; rfl
  · have hX : X = nI x := hX
    have hY : Y = nI y := hY
    have hs' : s = 115 := hs'
    subst hX hY hs'
    obtain rfl : z = nI y := hz2 (by decide) (by decide)
    have cx : (nI x).toNatClampNeg = x := nI_clamp (by omega)
    have cy : (nI y).toNatClampNeg = y := nI_clamp (by omega)
    have eV : actV st n q pr sd (115, nI x, nI y) v = (if x < q ∧ v (30 + x) = -1 then some (rSide v x y (sd (4 * x + y)) (sd (4 * x + 2 + y))) else none) := by
      unfold actV; rw [if_neg (show ¬ (115 : Int32) = 98 by decide), if_neg (show ¬ (115 : Int32) = 99 by decide), if_neg (show ¬ (115 : Int32) = 103 by decide), if_neg (show ¬ (115 : Int32) = 100 by decide), if_neg (show ¬ (115 : Int32) = 114 by decide), cx, cy]
    have D : aE d 245 1 [.ref 46, .int 115, .int (nI x), .int (nI y)] [.int 115] (g, I, J, aP1 sl rd 56) = aE d 245 156 [.ref 46, .int 115, .int (nI x), .int (nI y)] [] (g, I, J, aP1 sl rd 56) := s245_1 d _ _ _ (by decide)
    by_cases hxq : x < q
    · have f := f241 (d := d) (g := g) (I := I) (J := J) (sl := sl) (rd := rd) (rl := 56) hy hxq hq h6
      rw [v47 (30 + x) (by omega)] at f
      by_cases c1 : v (30 + x) = -1
      · rw [if_pos c1] at f
        refine yes (rSide (I 47) x y (sd (4 * x + y)) (sd (4 * x + 2 + y))) _ (by rw [eV, if_pos ⟨hxq, c1⟩]) (by rw [rSide_r _ _ _ (by omega), hv]) ?_
        rw [D, b245_156, f]; simp only [aBi]
        rw [b245_162, if_pos (by decide), f242_47 (by omega) hy, hsd _ (by omega), hsd _ (by omega)]
        simp only [aBv]; rw [b245_177]
      · rw [if_neg c1] at f
        refine no (by rw [eV, if_neg (fun h => c1 h.2)]) ?_
        rw [D, b245_156, f]; simp only [aBi]; rw [b245_162, if_neg (by decide)]
    · refine no (by rw [eV, if_neg (fun h => hxq h.1)]) ?_
      rw [D, b245_156, f241n (n := q) hq h6 (Or.inl (Or.inr (nI_le (by omega) (by omega))))]; simp only [aBi]; rw [b245_162, if_neg (by decide)]
end A
