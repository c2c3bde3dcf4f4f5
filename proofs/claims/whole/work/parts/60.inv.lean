/-! what holds between calls -/
def Fr (S : List Nat) (I I' : Nat → Nat → Int32) : Prop := ∀ a, a ∉ S → I' a = I a
theorem Fr_r (S : List Nat) (I : Nat → Nat → Int32) : Fr S I I := fun _ _ => rfl
theorem Fr_t {S : List Nat} {I I' I'' : Nat → Nat → Int32} (h : Fr S I I') (h2 : Fr S I' I'') : Fr S I I'' := fun a ha => (h2 a ha).trans (h a ha)
theorem Fr_s {S : List Nat} {I I' : Nat → Nat → Int32} {b : Nat} (h : Fr S I I') (r : Nat → Int32) (hb : b ∈ S) : Fr S I (aR I' b r) := fun a ha => by
  rw [aR_r _ _ (show a ≠ b from fun e => ha (by rw [e]; exact hb))]; exact h a ha
theorem Fr_w {S S' : List Nat} {I I' : Nat → Nat → Int32} (h : Fr S I I') (hs : ∀ a, a ∈ S → a ∈ S') : Fr S' I I' := fun a ha => h a (fun q => ha (hs a q))
theorem nI_lei {a b : Nat} (h : nI a ≤ nI b) (ha : a < 2 ^ 31) : a ≤ b := by
  apply Classical.byContradiction; intro q; exact nI_ge (by omega) ha h
theorem nI_lti {a b : Nat} (h : nI a < nI b) (ha : a < 2 ^ 31) : a < b := by
  apply Classical.byContradiction; intro q; exact nI_nlt (by omega) ha h
/-- a state that can be: of n drivers, q quarrels -/
def okW (n q : Nat) (v : Nat → Int32) : Prop :=
  (∀ c, c < 2 → ∃ m, m ≤ 9999 ∧ v c = nI m) ∧ (∀ c, c < 2 → ∃ m, m ≤ 999 ∧ v (2 + c) = nI m) ∧ clubs (fun i => v (6 + i)) n ∧ (∀ i, n ≤ i → i < 8 → v (14 + i) = 0 ∧ v (22 + i) = 0) ∧ (∀ j, q ≤ j → j < 8 → v (30 + j) = -1)
theorem okW_upd {n q : Nat} {v : Nat → Int32} (h : okW n q v) (k : Nat) (x : Int32)
    (h1 : k < 2 → ∃ m, m ≤ 9999 ∧ x = nI m) (h2 : ∀ c, c < 2 → k = 2 + c → ∃ m, m ≤ 999 ∧ x = nI m) (h3 : ∀ i, i < n → k = 6 + i → ∃ c, c < 2 ∧ x = nI c) (h4 : ∀ i, n ≤ i → i < 8 → ¬ k = 14 + i ∧ ¬ k = 22 + i) (h5 : ∀ j, q ≤ j → j < 8 → ¬ k = 30 + j) : okW n q (upd v k x) := by
  obtain ⟨a1, a2, a3, a4, a5⟩ := h
  refine ⟨fun c hc => ?_, fun c hc => ?_, fun i hi => ?_, fun i hi hi2 => ?_, fun j hj hj2 => ?_⟩
  · by_cases e : c = k
    · subst e; rw [upd_s]; exact h1 hc
    · rw [upd_n _ _ e]; exact a1 c hc
  · by_cases e : 2 + c = k
    · rw [e, upd_s]; exact h2 c hc e.symm
    · rw [upd_n _ _ e]; exact a2 c hc
  · show ∃ c, c < 2 ∧ upd v k x (6 + i) = nI c
    by_cases e : 6 + i = k
    · rw [e, upd_s]; exact h3 i hi e.symm
    · rw [upd_n _ _ e]; exact a3 i hi
  · rw [upd_n _ _ (fun e => (h4 i hi hi2).1 e.symm), upd_n _ _ (fun e => (h4 i hi hi2).2 e.symm)]; exact a4 i hi hi2
  · rw [upd_n _ _ (fun e => h5 j hj hj2 e.symm)]; exact a5 j hj hj2
theorem cl9_ok (x : Int32) : ∃ m, m ≤ 999 ∧ cl9 x = nI m := by
  unfold cl9
  by_cases h : x < 999
  · rw [if_pos h]
    by_cases h2 : 0 < x
    · rw [if_pos h2]
      refine nI_of2 (M := 999) (n := 999) rfl (fun q => ?_) ?_
      · rw [int_lt] at *; omega
      · rw [int_le]; rw [int_lt] at h; omega
    · rw [if_neg h2]; exact ⟨0, by decide, rfl⟩
  · rw [if_neg h, if_pos (by decide)]; exact ⟨999, by decide, rfl⟩
theorem mn9_ok {m p : Nat} (hm : m ≤ 9999) (hp : p ≤ 9999) : ∃ k, k ≤ 9999 ∧ mn9 (nI m + nI p) = nI k := by
  rw [nI_add]; unfold mn9
  by_cases h : nI (m + p) < 9999
  · rw [if_pos h]; exact ⟨m + p, Nat.le_of_lt (nI_lti (b := 9999) h (by omega)), rfl⟩
  · rw [if_neg h]; exact ⟨9999, by decide, rfl⟩
theorem okW_A {n q : Nat} {v : Nat → Int32} (h : okW n q v) {c : Nat} (hc : c < 2) (x : Int32) : okW n q (adA v c x) :=
  okW_upd h (2 + c) _ (fun _ => by exfalso; omega) (fun _ _ _ => cl9_ok _) (fun _ _ _ => by exfalso; omega) (fun _ _ _ => by omega) (fun _ _ _ => by omega)
theorem okW_M {n q : Nat} {v : Nat → Int32} (h : okW n q v) {c p : Nat} (hc : c < 2) (hp : p ≤ 9999) : okW n q (adM v c (nI p)) := by
  obtain ⟨m, hm, e⟩ := h.1 c hc
  unfold adM
  rw [e]
  exact okW_upd h c _ (fun _ => mn9_ok hm hp) (fun _ _ _ => by exfalso; omega) (fun _ _ _ => by exfalso; omega) (fun _ _ _ => by omega) (fun _ _ _ => by omega)
theorem okW_c {n q : Nat} {v : Nat → Int32} (h : okW n q v) {c m : Nat} (hc : c < 2) (hm : m ≤ 9999) : okW n q (upd v c (nI m)) :=
  okW_upd h c _ (fun _ => ⟨m, hm, rfl⟩) (fun _ _ _ => by exfalso; omega) (fun _ _ _ => by exfalso; omega) (fun _ _ _ => by omega) (fun _ _ _ => by omega)
theorem okW_l {n q : Nat} {v : Nat → Int32} (h : okW n q v) {i c : Nat} (hi : i < 8) (hc : c < 2) : okW n q (upd v (6 + i) (nI c)) :=
  okW_upd h (6 + i) _ (fun _ => by exfalso; omega) (fun _ _ _ => by exfalso; omega) (fun _ _ _ => ⟨c, hc, rfl⟩) (fun _ _ _ => by omega) (fun _ _ _ => by omega)
theorem okW_x {n q : Nat} {v : Nat → Int32} (h : okW n q v) {i : Nat} (hi : i < n) (hn : n ≤ 8) (x : Int32) : okW n q (upd v (14 + i) x) :=
  okW_upd h (14 + i) _ (fun _ => by exfalso; omega) (fun _ _ _ => by exfalso; omega) (fun _ _ _ => by exfalso; omega) (fun _ _ _ => by omega) (fun _ _ _ => by omega)
theorem okW_w {n q : Nat} {v : Nat → Int32} (h : okW n q v) {i : Nat} (hi : i < n) (hn : n ≤ 8) (x : Int32) : okW n q (upd v (22 + i) x) :=
  okW_upd h (22 + i) _ (fun _ => by exfalso; omega) (fun _ _ _ => by exfalso; omega) (fun _ _ _ => by exfalso; omega) (fun _ _ _ => by omega) (fun _ _ _ => by omega)
theorem okW_s {n q : Nat} {v : Nat → Int32} (h : okW n q v) {j : Nat} (hj : j < q) (hn : n ≤ 8) (hq : q ≤ 8) (x : Int32) : okW n q (upd v (30 + j) x) :=
  okW_upd h (30 + j) _ (fun _ => by exfalso; omega) (fun _ _ _ => by exfalso; omega) (fun _ _ _ => by exfalso; omega) (fun _ _ _ => by omega) (fun _ _ _ => by omega)
theorem okW_v {n q : Nat} {v : Nat → Int32} (h : okW n q v) {c : Nat} (hc : c < 2) (hn : n ≤ 8) (x : Int32) : okW n q (upd v (4 + c) x) :=
  okW_upd h (4 + c) _ (fun _ => by exfalso; omega) (fun _ _ _ => by exfalso; omega) (fun _ _ _ => by exfalso; omega) (fun _ _ _ => by omega) (fun _ _ _ => by omega)
theorem okW_r {n q : Nat} {v : Nat → Int32} (h : okW n q v) (hn : n ≤ 8) (x : Int32) : okW n q (upd v 38 x) :=
  okW_upd h 38 _ (fun _ => by exfalso; omega) (fun _ _ _ => by exfalso; omega) (fun _ _ _ => by exfalso; omega) (fun _ _ _ => by omega) (fun _ _ _ => by omega)
theorem okW_race {n q : Nat} {v : Nat → Int32} (h : okW n q v) {i c : Nat} (hi : i < n) (hn : n ≤ 8) (hc : c < 2) : okW n q (rRace v i c) := by
  unfold rRace
  exact okW_r (okW_A (okW_A (okW_M (p := 10) (okW_v (okW_w h hi hn _) hc hn _) hc (by decide)) (by omega) _) hc _) hn _
theorem okW_buy {n q : Nat} {v : Nat → Int32} (h : okW n q v) {i c m p : Nat} (hi : i < n) (hn : n ≤ 8) (hc : c < 2) (hp : p ≤ 99) (hv : v c = nI m) (hm : m ≤ 9999) (hpm : p ≤ m) : okW n q (rBuy v c i (nI p)) := by
  unfold rBuy
  rw [hv, pk_sub hpm]
  exact okW_l (okW_M (okW_c h hc (by omega)) (by omega) (by omega)) (by omega) hc
theorem okW_hex {n q : Nat} {v : Nat → Int32} (h : okW n q v) {i c m : Nat} (hi : i < n) (hn : n ≤ 8) (hc : c < 2) (hv : v c = nI m) (hm : m ≤ 9999) (hpm : 5 ≤ m) : okW n q (rHex v c i) := by
  unfold rHex
  rw [hv, show nI m - 5 = nI (m - 5) from pk_sub (b := 5) hpm]
  exact okW_x (okW_c h hc (by omega)) hi hn _
theorem okW_dig {n q : Nat} {v : Nat → Int32} (h : okW n q v) {i c m : Nat} (hi : i < n) (hn : n ≤ 8) (hc : c < 2) (hv : v c = nI m) (hm : m ≤ 9999) (hpm : 3 ≤ m) : okW n q (rDig v c i) := by
  unfold rDig
  rw [hv, show nI m - 3 = nI (m - 3) from pk_sub (b := 3) hpm]
  exact okW_x (okW_c h hc (by omega)) hi hn _
theorem okW_side {n q : Nat} {v : Nat → Int32} (h : okW n q v) {j : Nat} (hj : j < q) (hn : n ≤ 8) (hq : q ≤ 8) (b : Nat) (x y : Int32) : okW n q (rSide v j b x y) := by
  unfold rSide
  exact okW_A (okW_A (okW_s h hj hn hq _) (by omega) _) (by omega) _
def hi8 (x : Int32) : Prop := ∀ i, 8 ≤ i → i < 32 → bt x i = false
/-- a state of the class, and the reference's -/
def okS (n q : Nat) (f h : Nat → Int32) : Prop := cV f = rV h ∧ okW n q (rV h) ∧ hi8 (f 7)
theorem okS_congr {n q : Nat} {f h f' h' : Nat → Int32} (H : okS n q f h) (e : ∀ i, i < 32 → f' i = f i) (e2 : ∀ i, i < 39 → h' i = h i) : okS n q f' h' := by
  obtain ⟨a, b, c⟩ := H
  refine ⟨?_, ?_, ?_⟩
  · rw [cV_congr e, rV_congr e2, a]
  · rw [rV_congr e2]; exact b
  · rw [e 7 (by decide)]; exact c
section OkS
variable {n q : Nat} {f h : Nat → Int32}
theorem okS_c (H : okS n q f h) {c : Nat} (hc : c < 6) : f c = h c := by
  rw [← cV_c f (by omega) hc, H.1, rV_lt _ (by omega)]
theorem okS_l (H : okS n q f h) {i : Nat} (hi : i < 8) : f (8 + i) = h (6 + i) := by
  rw [← cV_l f hi, H.1, rV_lt _ (by omega)]
theorem okS_w (H : okS n q f h) {i : Nat} (hi : i < 8) : f (16 + i) = h (22 + i) := by
  rw [← cV_w f hi, H.1, rV_lt _ (by omega)]
theorem okS_s (H : okS n q f h) {i : Nat} (hi : i < 8) : f (24 + i) = h (30 + i) := by
  rw [← cV_s f hi, H.1, rV_lt _ (by omega)]
theorem okS_x (H : okS n q f h) {i : Nat} (hi : i < 8) : h (14 + i) = tI (hasT (f 7) (nI i)) := by
  rw [← cV_x f hi, H.1, rV_lt _ (by omega)]
theorem okS_r (H : okS n q f h) : f 6 = h 38 := by
  rw [← cV_r f, H.1, rV_lt _ (by omega)]
theorem okS_m (H : okS n q f h) {c : Nat} (hc : c < 2) : ∃ m, m ≤ 9999 ∧ f c = nI m ∧ h c = nI m := by
  obtain ⟨m, h1, h2⟩ := H.2.1.1 c hc
  rw [rV_lt _ (by omega)] at h2
  exact ⟨m, h1, by rw [okS_c H (by omega)]; exact h2, h2⟩
theorem okS_a (H : okS n q f h) {c : Nat} (hc : c < 2) : ∃ m, m ≤ 999 ∧ f (2 + c) = nI m ∧ h (2 + c) = nI m := by
  obtain ⟨m, h1, h2⟩ := H.2.1.2.1 c hc
  rw [rV_lt _ (by omega)] at h2
  exact ⟨m, h1, by rw [okS_c H (by omega)]; exact h2, h2⟩
theorem okS_k (H : okS n q f h) (hn : n ≤ 8) {i : Nat} (hi : i < n) : ∃ k, k < 2 ∧ f (8 + i) = nI k ∧ h (6 + i) = nI k := by
  obtain ⟨k, h1, h2⟩ := H.2.1.2.2.1 i hi
  simp only at h2
  rw [rV_lt _ (by omega)] at h2
  exact ⟨k, h1, by rw [okS_l H (by omega)]; exact h2, h2⟩
theorem okS_cl (H : okS n q f h) (hn : n ≤ 8) : clubs (fun i => f (8 + i)) n := fun i hi => by
  obtain ⟨k, h1, h2, _⟩ := okS_k H hn hi
  exact ⟨k, h1, h2⟩
theorem okS_clr (H : okS n q f h) (hn : n ≤ 8) : clubs (fun i => h (6 + i)) n := fun i hi => by
  obtain ⟨k, h1, _, h2⟩ := okS_k H hn hi
  exact ⟨k, h1, h2⟩
theorem okS_buy (H : okS n q f h) {c i p : Nat} (hc : c < 2) (hi : i < n) (hn : n ≤ 8) (hp : p ≤ 99) (hm : nI p ≤ f c) : okS n q (cBuy f c i (nI p)) (rBuy h c i (nI p)) := by
  obtain ⟨m, m1, m2, m3⟩ := okS_m H hc
  rw [m2] at hm
  have m4 := nI_lei hm (by omega)
  refine ⟨?_, ?_, ?_⟩
  · rw [cBuy_v hc (by omega) m2 m1 m4, rBuy_r _ _ hc (by omega), H.1]
  · rw [rBuy_r _ _ hc (by omega)]
    exact okW_buy H.2.1 hi hn hc hp (by rw [rV_lt _ (by omega)]; exact m3) m1 m4
  · unfold cBuy adM
    rw [upd_n _ _ (by omega), upd_n _ _ (by omega), upd_n _ _ (by omega)]
    exact H.2.2
theorem okS_hex (H : okS n q f h) {c i : Nat} (hc : c < 2) (hi : i < n) (hn : n ≤ 8) (hm : 5 ≤ f c) : okS n q (cHex f c i) (rHex h c i) := by
  obtain ⟨m, m1, m2, m3⟩ := okS_m H hc
  rw [m2] at hm
  have m4 : 5 ≤ m := nI_lei (a := 5) hm (by omega)
  refine ⟨?_, ?_, ?_⟩
  · rw [cHex_v hc (by omega) m2 m1 m4, rHex_r _ hc (by omega), H.1]
  · rw [rHex_r _ hc (by omega)]
    exact okW_hex H.2.1 hi hn hc (by rw [rV_lt _ (by omega)]; exact m3) m1 m4
  · unfold cHex
    rw [upd_s]
    intro j h1 h2
    rw [b_or, H.2.2 j h1 h2, b_bit (by omega) h2]
    simp only [Bool.false_or, decide_eq_false_iff_not]
    omega
theorem okS_dig (H : okS n q f h) {c i : Nat} (hc : c < 2) (hi : i < n) (hn : n ≤ 8) (hm : 3 ≤ f c) : okS n q (cDig f c i) (rDig h c i) := by
  obtain ⟨m, m1, m2, m3⟩ := okS_m H hc
  rw [m2] at hm
  have m4 : 3 ≤ m := nI_lei (a := 3) hm (by omega)
  refine ⟨?_, ?_, ?_⟩
  · rw [cDig_v hc (by omega) m2 m1 m4, rDig_r _ hc (by omega), H.1]
  · rw [rDig_r _ hc (by omega)]
    exact okW_dig H.2.1 hi hn hc (by rw [rV_lt _ (by omega)]; exact m3) m1 m4
  · unfold cDig
    rw [upd_s]
    intro j h1 h2
    rw [b_and, H.2.2 j h1 h2, Bool.false_and]
theorem okS_side (H : okS n q f h) {j : Nat} (hj : j < q) (hn : n ≤ 8) (hq : q ≤ 8) (b : Nat) (x y : Int32) : okS n q (cSide f j b x y) (rSide h j b x y) := by
  refine ⟨?_, ?_, ?_⟩
  · rw [cSide_v _ _ _ (by omega), rSide_r _ _ _ (by omega), H.1]
  · rw [rSide_r _ _ _ (by omega)]
    exact okW_side H.2.1 hj hn hq b x y
  · unfold cSide adA
    rw [upd_n _ _ (by omega), upd_n _ _ (by omega), upd_n _ _ (by omega)]
    exact H.2.2
theorem okS_A (H : okS n q f h) {c : Nat} (hc : c < 2) (x : Int32) : okS n q (adA f c x) (adA h c x) := by
  refine ⟨?_, ?_, ?_⟩
  · rw [cV_adA _ _ hc, rV_adA _ _ hc, H.1]
  · rw [rV_adA _ _ hc]; exact okW_A H.2.1 hc x
  · unfold adA; rw [upd_n _ _ (by omega)]; exact H.2.2
end OkS
/-! what undo goes back to -/
def okU (n q u x : Nat) (r30 r58 : Nat → Int32) : Prop := u ≤ 12 ∧ x < 12 ∧ ∀ j, j < u → okS n q (fun i => r30 (32 * ((x + 12 - u + j) % 12) + i)) (fun i => r58 (39 * j + i))
def shR (r : Nat → Int32) : Nat → Int32 := fun k => if k < 429 then r (k + 39) else r k
def remR (r v : Nat → Int32) (u : Nat) : Nat → Int32 := if u = 12 then cpB (shR r) v 429 39 else cpB r v (39 * u) 39
def up12 (u : Nat) : Nat := if u < 12 then u + 1 else 12
theorem okU_push {n q u x : Nat} {r30 r58 f h : Nat → Int32} (H : okU n q u x r30 r58) (S : okS n q f h) : okU n q (up12 u) ((x + 1) % 12) (cpB r30 f (32 * x) 32) (remR r58 h u) := by
  obtain ⟨h1, h2, h3⟩ := H
  have new : ∀ (k o : Nat) (r : Nat → Int32), k = x → okS n q (fun i => cpB r30 f (32 * x) 32 (32 * k + i)) (fun i => cpB r h o 39 (o + i)) := fun k o r hk => okS_congr S (fun i hi => by
    subst hk
    rw [cpB_in _ _ (by omega) (by omega)]; congr 1; omega) (fun i hi => by
    rw [cpB_in _ _ (by omega) (by omega)]; congr 1; omega)
  by_cases hu : u = 12
  · subst hu
    refine ⟨by decide, by omega, fun j hj => ?_⟩
    have hj : j < 12 := hj
    show okS n q (fun i => cpB r30 f (32 * x) 32 (32 * (((x + 1) % 12 + 12 - 12 + j) % 12) + i)) (fun i => cpB (shR r58) h 429 39 (39 * j + i))
    by_cases e : j = 11
    · subst e
      exact new _ 429 _ (by omega)
    · refine okS_congr (h3 (j + 1) (by omega)) (fun i hi => ?_) (fun i hi => ?_)
      · rw [cpB_out _ _ (by omega)]; congr 1; omega
      · rw [cpB_out _ _ (by omega)]; unfold shR; rw [if_pos (by omega)]; congr 1; omega
  · refine ⟨by unfold up12; split <;> omega, by omega, fun j hj => ?_⟩
    unfold up12 at hj
    rw [if_pos (by omega)] at hj
    unfold remR up12
    rw [if_neg hu, if_pos (by omega)]
    by_cases e : j = u
    · subst e
      exact new _ (39 * j) _ (by omega)
    · refine okS_congr (h3 j (by omega)) (fun i hi => ?_) (fun i hi => ?_)
      · rw [cpB_out _ _ (by omega)]; congr 1; omega
      · rw [cpB_out _ _ (by omega)]
theorem okU_pop {n q u x : Nat} {r30 r58 : Nat → Int32} (H : okU n q (u + 1) x r30 r58) : okU n q u ((x + 11) % 12) r30 r58 ∧ okS n q (fun i => r30 (32 * ((x + 11) % 12) + i)) (fun i => r58 (39 * u + i)) := by
  obtain ⟨h1, h2, h3⟩ := H
  refine ⟨⟨by omega, by omega, fun j hj => ?_⟩, ?_⟩
  · have := h3 j (by omega)
    rw [show (x + 11) % 12 + 12 - u + j = (x + 11) % 12 + (12 - u + j) by omega]
    rw [show ((x + 11) % 12 + (12 - u + j)) % 12 = (x + 12 - (u + 1) + j) % 12 by omega]
    exact this
  · have := h3 u (by omega)
    rw [show (x + 12 - (u + 1) + u) % 12 = (x + 11) % 12 by omega] at this
    exact this
theorem okU_0 {n q n' q' u x : Nat} {r30 r58 r30' r58' : Nat → Int32} (H : okU n q u x r30 r58) : okU n' q' 0 x r30' r58' := ⟨by omega, H.2.1, fun j hj => by omega⟩
def okK (n q c : Nat) (r31 r32 r64 r65 r66 : Nat → Int32) : Prop := ∀ i, i < 2 → (r32 i = 0 ∨ r32 i = 1) ∧ (∃ k, k ≤ c ∧ r66 i = nI k) ∧ (r32 i = 1 ↔ (¬ r65 i = 0 ∧ r66 i = nI c)) ∧ (r32 i = 1 → okS n q (fun k => r31 (32 * i + k)) (fun k => r64 (39 * i + k)))
/-- the rule as the reference keeps it -/
def rRule (row : Nat → Int32) (n : Nat) (rv : (Nat → Int32) → Int32) : Prop :=
  (n = 0 ∧ ∀ t, rv t = t 0 * 10 - t 1 * 15 + (t 4 + t 2) / 3) ∨ (0 < n ∧ n ≤ 40 ∧ (pc (sgn row n 40) 300 0 0 [] (0, -1)).2.2 = -1 ∧ ∀ t S, ev t (pc (sgn row n 40) 300 0 0 [] (0, -1)).1 S = rv t :: S)
def zT (a b : Int32) (r8 r52 : Nat → Int32) : Prop := ∃ k, k ≤ 80 ∧ a = nI k ∧ b = nI k ∧ (∀ i, i < k → r8 i = r52 i &&& 255) ∧ byR r52
def zR (a b : Int32) (j13 j53 : Nat → Int64) : Prop := ∃ k, k ≤ 8 ∧ a = nI k ∧ b = nI k ∧ ∀ i, i < k → j13 i = j53 i
def zD (n : Nat) (a b : Int32) (r15 r16 r48 r49 : Nat → Int32) : Prop := n ≤ 8 ∧ a = nI n ∧ b = nI n ∧ ∀ i, i < n → r15 i = r48 i ∧ r16 i = r49 i ∧ (∃ p, p ≤ 99 ∧ r16 i = nI p) ∧ ∃ p, p ≤ 99 ∧ r15 i = nI p
def zQ (m : Nat) (a b : Int32) (r18 r19 r20 r21 r50 : Nat → Int32) : Prop := m ≤ 8 ∧ a = nI m ∧ b = nI m ∧ ∀ i, i < m → r18 i = r50 (4 * i) ∧ r19 i = r50 (4 * i + 1) ∧ r20 i = r50 (4 * i + 2) ∧ r21 i = r50 (4 * i + 3) ∧ (∃ p, p ≤ 99 ∧ r18 i = nI p) ∧ (∃ p, p < 2 ∧ r19 i = nI p) ∧ ∃ p, p ≤ 99 ∧ r20 i = nI p
def zS (q : Nat) (a b : Int32) (r22 r51 : Nat → Int32) : Prop := q ≤ 8 ∧ a = nI q ∧ b = nI q ∧ ∀ i, i < 4 * q → r22 i = r51 i ∧ ∃ p, p ≤ 99 ∧ r22 i = nI p
def zU (n q : Nat) (a b x : Int32) (r30 r58 : Nat → Int32) : Prop := ∃ u y, a = nI u ∧ b = nI u ∧ x = nI y ∧ okU n q u y r30 r58
def zK (t n q : Nat) (a : Int32) (r31 r32 r64 r65 r66 : Nat → Int32) : Prop := ∃ c, c ≤ t ∧ a = nI c ∧ okK n q c r31 r32 r64 r65 r66
def zV (a b : Int32) (r34 r55 : Nat → Int32) : Prop := ∃ m k rv, a = nI m ∧ b = nI k ∧ cRule r34 m rv ∧ rRule r55 k rv ∧ byR r55
def zH (a b : Int32) (r43 r44 r62 r63 : Nat → Int32) : Prop := ∃ k, k ≤ 12 ∧ a = nI k ∧ b = nI k ∧ ∀ i, i < k → r43 i = r62 i ∧ r44 i = r63 i ∧ (∃ p, p < 5 ∧ r43 i = nI p) ∧ (∃ p, p ≤ 99 ∧ r44 i = nI p) ∧ (r43 i = 0 → ∃ p, p < 2 ∧ r44 i = nI p)
def zInv (t n m q : Nat) (I : Nat → Nat → Int32) (J : Nat → Nat → Int64) : Prop :=
  zT (I 7 1) (I 46 10) (I 8) (I 52) ∧ zR (I 12 1) (I 46 12) (J 13) (J 53) ∧ zD n (I 14 0) (I 46 1) (I 15) (I 16) (I 48) (I 49) ∧ zQ m (I 14 4) (I 46 4) (I 18) (I 19) (I 20) (I 21) (I 50) ∧ zS q (I 14 9) (I 46 6) (I 22) (I 51) ∧ I 14 11 = I 46 8 ∧ okS n q (I 24) (I 47) ∧ zU n q (I 29 1) (I 46 26) (I 29 2) (I 30) (I 58) ∧ zK t n q (I 46 37) (I 31) (I 32) (I 64) (I 65) (I 66) ∧ zV (I 33 1) (I 46 22) (I 34) (I 55) ∧ zH (I 42 2) (I 46 35) (I 43) (I 44) (I 62) (I 63)
theorem zK_up {t n q : Nat} {a : Int32} {r31 r32 r64 r65 r66 : Nat → Int32} (h : zK t n q a r31 r32 r64 r65 r66) : zK (t + 1) n q a r31 r32 r64 r65 r66 := by
  obtain ⟨c, h1, h2⟩ := h; exact ⟨c, by omega, h2⟩
theorem zInv_up {t n m q : Nat} {I : Nat → Nat → Int32} {J : Nat → Nat → Int64} (H : zInv t n m q I J) : zInv (t + 1) n m q I J := by
  obtain ⟨a1, a2, a3, a4, a5, a6, a7, a8, a9, b1, b2⟩ := H
  exact ⟨a1, a2, a3, a4, a5, a6, a7, a8, zK_up a9, b1, b2⟩
/-- cells that tell nothing between calls; likewise of the reference's own fields -/
def scr : List Nat := [9, 10, 11, 17, 25, 26, 27, 28, 35, 36, 37, 38, 39, 40, 41, 45, 46, 54, 56, 57, 59, 60, 61]
def scf : List Nat := [13, 15, 16, 17, 18, 23, 29, 30, 31, 36]
def F46 (S : List Nat) (I I' : Nat → Nat → Int32) : Prop := ∀ j, j ∉ S → I' 46 j = I 46 j
theorem F46_t {S : List Nat} {I I' I'' : Nat → Nat → Int32} (h : F46 S I I') (h2 : F46 S I' I'') : F46 S I I'' := fun a ha => (h2 a ha).trans (h a ha)
theorem F46_f {S T : List Nat} {I I' : Nat → Nat → Int32} (h : Fr S I I') (hs : 46 ∉ S) : F46 T I I' := fun j _ => by rw [h 46 hs]
/-- nothing but such changed, and the row that is told -/
theorem zInv_R {t n m q : Nat} {I I' : Nat → Nat → Int32} {J J' : Nat → Nat → Int64} (H : zInv t n m q I J) (h : Fr (12 :: scr) I I') (h2 : F46 (12 :: scf) I I') (hR : zR (I' 12 1) (I' 46 12) (J' 13) (J' 53)) : zInv t n m q I' J' := by
  obtain ⟨a1, a2, a3, a4, a5, a6, a7, a8, a9, b1, b2⟩ := H
  unfold zInv
  have h0 : ∀ a, a ∉ _ → I' a = I a := h
  simp (disch := decide) only [h0, h2 10, h2 1, h2 4, h2 6, h2 8, h2 26, h2 37, h2 22, h2 35]
  exact ⟨a1, hR, a3, a4, a5, a6, a7, a8, a9, b1, b2⟩
theorem zInv_0 {t n m q : Nat} {I I' : Nat → Nat → Int32} {J : Nat → Nat → Int64} (H : zInv t n m q I J) (h : Fr scr I I') (h2 : F46 scf I I') : zInv t n m q I' J :=
  zInv_R H (Fr_w h (by decide)) (fun j hj => h2 j (fun q => hj (List.mem_cons_of_mem _ q))) (by rw [h 12 (by decide), h2 12 (by decide)]; exact H.2.1)
/-- .. and the state, and what undo goes back to -/
theorem zInv_N {t n m q : Nat} {I I' : Nat → Nat → Int32} {J J' : Nat → Nat → Int64} (H : zInv t n m q I J) (h : Fr (12 :: 24 :: 29 :: 30 :: 47 :: 58 :: scr) I I') (h2 : F46 (12 :: 26 :: scf) I I') (hR : zR (I' 12 1) (I' 46 12) (J' 13) (J' 53)) (hN : okS n q (I' 24) (I' 47)) (hU : zU n q (I' 29 1) (I' 46 26) (I' 29 2) (I' 30) (I' 58)) : zInv t n m q I' J' := by
  obtain ⟨a1, a2, a3, a4, a5, a6, a7, a8, a9, b1, b2⟩ := H
  unfold zInv
  have h0 : ∀ a, a ∉ _ → I' a = I a := h
  simp (disch := decide) only [h0, h2 10, h2 1, h2 4, h2 6, h2 8, h2 37, h2 22, h2 35]
  exact ⟨a1, hR, a3, a4, a5, a6, hN, hU, a9, b1, b2⟩
