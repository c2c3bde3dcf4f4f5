/-! what a run without the script comes to doesn't hang on the script -/
def nz : Value → Prop
  | .ref k => k ≠ 0
  | _ => True
theorem nz_no : nz aNo := trivial
theorem nz_i (x : Int32) : nz (.int x) := trivial
theorem nz_r {k : Nat} (h : k ≠ 0) : nz (.ref k) := h
def cz (l : List Value) : Prop := ∀ v ∈ l, nz v
theorem cz_n : cz [] := fun v h => by cases h
theorem cz_c {v : Value} {r : List Value} (h : nz v) (h2 : cz r) : cz (v :: r) := fun w hw => (List.mem_cons.mp hw).elim (fun e => e ▸ h) (fun h => h2 w h)
theorem cz_t {v : Value} {r : List Value} (h : cz (v :: r)) : cz r := fun w hw => h w (List.mem_cons_of_mem _ hw)
theorem cz_h {v : Value} {r : List Value} (h : cz (v :: r)) : nz v := h v List.mem_cons_self
theorem cz_i {r : List Value} {x : Int32} (h : cz r) : cz (.int x :: r) := cz_c trivial h
theorem cz_l {r : List Value} {x : Int64} (h : cz r) : cz (.long x :: r) := cz_c trivial h
theorem cz_g {L : List Value} {j : Nat} {v : Value} (h : cz L) (e : L[j]? = some v) : nz v := h _ (List.mem_of_getElem? e)
theorem cz_set {L : List Value} {v : Value} (h : cz L) (hv : nz v) (j : Nat) : cz (L.set j v) := fun w hw => (List.mem_or_eq_of_mem_set hw).elim (fun q => h w q) (fun q => q ▸ hv)
theorem cz_cut {L : List Value} (h : cz L) (i : Nat) : cz (aCut L i) := by
  unfold aCut
  split
  · exact h
  · split
    · exact cz_set h nz_no _
    · exact h
theorem cz_s1 {L : List Value} {v : Value} (h : cz L) (hv : nz v) (j : Nat) : cz (aSt1 L j v) := cz_set (cz_cut h j) hv j
theorem cz_s2 {L : List Value} {v : Value} (h : cz L) (hv : nz v) (j : Nat) : cz (aSt2 L j v) := cz_set (cz_set (cz_cut h j) nz_no _) hv j
theorem cz_take {l : List Value} (h : cz l) (n : Nat) : cz (l.take n).reverse := fun v hv => h v (List.mem_of_mem_take (List.mem_reverse.mp hv))
theorem cz_drop {l : List Value} (h : cz l) (n : Nat) : cz (l.drop n) := fun v hv => h v (List.mem_of_mem_drop hv)
theorem cz_slots : ∀ (as : List Value), cz as → cz (aSlots as)
  | [], h => h
  | w :: r, h => by
    have hr := cz_slots r (cz_t h)
    cases w with
    | long x => exact cz_c trivial (cz_c trivial hr)
    | _ => exact cz_c (cz_h h) hr
theorem cz_loc {as : List Value} (h : cz as) (n : Nat) : cz (aLoc n as) := by
  intro v hv
  unfold aLoc at hv
  rcases List.mem_append.mp hv with hv | hv
  · exact cz_slots as h v hv
  · rw [(List.mem_replicate.mp hv).2]; trivial
def rl (σ τ : aS) : Prop := τ.1 = σ.1 ∧ 0 < σ.1.1 ∧ (∀ a, a ≠ 0 → τ.2.1 a = σ.2.1 a) ∧ τ.2.2.1 = σ.2.2.1 ∧ (∀ a, a ≠ 0 → τ.2.2.2 a = σ.2.2.2 a) ∧ ∀ a j, a ≠ 0 → σ.2.2.2 a j ≠ 1
def ro (o o' : aO) : Prop := o'.1 = o.1 ∧ rl o.2 o'.2
theorem aU_cg {α : Type} {f f' : Nat → Nat → α} {o j : Nat} {x : α} (h : ∀ a, a ≠ 0 → f' a = f a) : ∀ a, a ≠ 0 → aU f' o j x a = aU f o j x a := by
  intro a ha
  funext i
  unfold aU
  rw [h a ha]
theorem rl_I {σ τ : aS} (h : rl σ τ) (o j : Nat) (x : Int32) : rl (aPI σ o j x) (aPI τ o j x) := ⟨h.1, h.2.1, aU_cg h.2.2.1, h.2.2.2.1, h.2.2.2.2.1, h.2.2.2.2.2⟩
theorem rl_J {σ τ : aS} (h : rl σ τ) (o j : Nat) (x : Int64) : rl (aPJ σ o j x) (aPJ τ o j x) := ⟨h.1, h.2.1, h.2.2.1, by show aU τ.2.2.1 o j x = aU σ.2.2.1 o j x; rw [h.2.2.2.1], h.2.2.2.2.1, h.2.2.2.2.2⟩
theorem rl_P {σ τ : aS} (h : rl σ τ) (o j : Nat) {x : Nat} (hx : x ≠ 0) : rl (aPP σ o j (x + 1)) (aPP τ o j (x + 1)) := ⟨h.1, h.2.1, h.2.2.1, h.2.2.2.1, aU_cg h.2.2.2.2.1, fun a i ha => by
  show aU σ.2.2.2 o j (x + 1) a i ≠ 1
  unfold aU
  split
  · split
    · omega
    · exact h.2.2.2.2.2 a i ha
  · exact h.2.2.2.2.2 a i ha⟩
theorem rl_N {σ τ : aS} (h : rl σ τ) (nm n : Nat) : rl (aNew σ nm n) (aNew τ nm n) := by
  refine ⟨?_, Nat.lt_of_lt_of_le h.2.1 (Nat.le_add_right _ _), h.2.2.1, h.2.2.2.1, h.2.2.2.2.1, h.2.2.2.2.2⟩
  show (τ.1.1 + nm, τ.1.2.1 + 1, τ.1.2.2 + n) = (σ.1.1 + nm, σ.1.2.1 + 1, σ.1.2.2 + n)
  rw [h.1]
theorem rl_C {σ τ : aS} (h : rl σ τ) {o : Nat} (ho : o ≠ 0) (i o' j n : Nat) : rl (aCp σ o i o' j n) (aCp τ o i o' j n) := by
  refine ⟨h.1, h.2.1, fun a ha => ?_, h.2.2.2.1, h.2.2.2.2.1, h.2.2.2.2.2⟩
  funext q
  show (if a = o' then (if j ≤ q ∧ q < j + n then τ.2.1 o (i + (q - j)) else τ.2.1 a q) else τ.2.1 a q) = (if a = o' then (if j ≤ q ∧ q < j + n then σ.2.1 o (i + (q - j)) else σ.2.1 a q) else σ.2.1 a q)
  rw [h.2.2.1 o ho, h.2.2.1 a ha]
theorem rl_z {σ τ : aS} (h : rl σ τ) {o : Nat} (ho : o ≠ 0) : aSz τ o = aSz σ o := by
  unfold aSz
  rw [if_neg ho, if_neg ho]
theorem rl_f {σ τ : aS} (h : rl σ τ) {o : Nat} (ho : o ≠ 0) (j : Nat) : nz (aRf (σ.2.2.2 o j)) := by
  have := h.2.2.2.2.2 o j ho
  cases hp : σ.2.2.2 o j with
  | zero => trivial
  | succ k => rw [hp] at this; show k ≠ 0; omega
theorem aRet_of {r : Nat} {v : Option Value} {rest st : List Value} (ha : aAns r v rest st) {x : Option aO} {K : List Value → aS → Option aO} {τ : aS} {o : aO} (e : x = some (some v, τ)) (k : K st τ = some o) : aRet r x rest K = some o := by
  subst e
  rcases ha with ⟨rfl, rfl, rfl⟩ | ⟨rfl, y, rfl, rfl⟩ | ⟨n0, n2, y, rfl, rfl⟩
  · exact k
  · exact k
  · unfold aRet
    split
    · exact absurd rfl n0
    · exact absurd rfl n2
    · exact k
theorem aAns_cz {r : Nat} {v : Option Value} {rest st : List Value} (ha : aAns r v rest st) (h : cz rest) : cz st := by
  rcases ha with ⟨-, -, rfl⟩ | ⟨-, y, -, rfl⟩ | ⟨-, -, y, -, rfl⟩
  · exact h
  · exact cz_l h
  · exact cz_i h
section R
variable {C C' : Nat → Nat → List Value → aS → Option aO} {K K' : Nat → List Value → List Value → aS → Option aO} {d k : Nat} {len t a b : Nat} {z : Int} {pc : Nat} {L st : List Value} {σ τ : aS} {o : aO}
def rK (K K' : Nat → List Value → List Value → aS → Option aO) : Prop := ∀ pc L st σ τ, cz L → cz st → rl σ τ → ∀ o, K pc L st σ = some o → ∃ o', K' pc L st τ = some o' ∧ ro o o'
def rC (C C' : Nat → Nat → List Value → aS → Option aO) : Prop := ∀ e k as σ τ, cz as → rl σ τ → ∀ o, C e k as σ = some o → ∃ o', C' e k as τ = some o' ∧ ro o o'
theorem aCall_rl (hK : rK K K') (hC : rC C C') (hL : cz L) (hs : cz st) (hr : rl σ τ) (h : aCall C d k a st σ (fun r τ => K (pc + 3) L r τ) = some o) : ∃ o', aCall C' d k a st τ (fun r τ => K' (pc + 3) L r τ) = some o' ∧ ro o o' := by
  obtain ⟨e, v, st', σ', h1, h2, h3, h4, h5, h6, -⟩ := aCall_use h
  obtain ⟨⟨v', τ'⟩, e1, e2, e3⟩ := hC _ _ _ _ _ (cz_take hs _) hr _ h4
  have e2 : v' = some v := e2
  subst e2
  obtain ⟨o', e4, e5⟩ := hK _ _ _ _ _ hL (aAns_cz h5 (cz_drop hs _)) e3 _ h6
  refine ⟨o', ?_, e5⟩
  unfold aCall
  rw [if_pos h1, if_pos h2, h3]
  exact aRet_of h5 e1 e4
theorem aRetH_of {r : Nat} (h0 : r ≠ 0) {v : Option Value} {rest st : List Value} (ha : aAns r v rest st) {x : Option aO} {K : List Value → aS → Option aO} {g : aS → Option aO} {τ : aS} {o : aO} (e : x = some (some v, τ)) (k : K st τ = some o) : aRetH r x rest K g = some o := by
  subst e
  rcases ha with ⟨rfl, rfl, rfl⟩ | ⟨rfl, y, rfl, rfl⟩ | ⟨n0, n2, y, rfl, rfl⟩
  · exact absurd rfl h0
  · exact k
  · unfold aRetH
    split
    · exact absurd rfl n0
    · exact absurd rfl n2
    · exact k
theorem aRetH_no {r : Nat} (h0 : r ≠ 0) {rest : List Value} {x : Option aO} {K : List Value → aS → Option aO} {g : aS → Option aO} {τ : aS} {o : aO} (e : x = some (none, τ)) (k : g τ = some o) : aRetH r x rest K g = some o := by
  subst e
  unfold aRetH
  split
  · exact absurd rfl h0
  · exact k
  · exact k
theorem aCallH_rl (hK : rK K K') (hC : rC C C') (hL : cz L) (hs : cz st) (hr : rl σ τ) {j q : Nat} (h : aCallH C d k a st σ (fun r τ => K (pc + 3) L r τ) (fun τ => K q (aSt1 L j aNo) [] τ) = some o) : ∃ o', aCallH C' d k a st τ (fun r τ => K' (pc + 3) L r τ) (fun τ => K' q (aSt1 L j aNo) [] τ) = some o' ∧ ro o o' := by
  have h0 := h
  obtain ⟨e, h1, h2, h3, hh⟩ := aCallH_use h
  unfold aCallH at h0 ⊢
  rw [if_pos h1, if_pos h2, h3] at h0
  rw [if_pos h1, if_pos h2, h3]
  have hr0 : (aMt a).2.2.2.1 ≠ 0 := by
    intro q
    dsimp only at h0
    rw [q] at h0
    cases h0
  rcases hh with ⟨v, st', σ', g1, g2, g3, -⟩ | ⟨σ', g1, g3, -⟩
  · obtain ⟨⟨v', τ'⟩, e1, e2, e3⟩ := hC _ _ _ _ _ (cz_take hs _) hr _ g1
    have e2 : v' = some v := e2
    subst e2
    obtain ⟨o', e4, e5⟩ := hK _ _ _ _ _ hL (aAns_cz g2 (cz_drop hs _)) e3 _ g3
    exact ⟨o', aRetH_of hr0 g2 e1 e4, e5⟩
  · obtain ⟨⟨v', τ'⟩, e1, e2, e3⟩ := hC _ _ _ _ _ (cz_take hs _) hr _ g1
    have e2 : v' = none := e2
    subst e2
    obtain ⟨o', e4, e5⟩ := hK _ _ _ _ _ (cz_s1 hL nz_no _) cz_n e3 _ g3
    exact ⟨o', aRetH_no hr0 e1 e4, e5⟩
theorem rr_iconst {n : _} (hK : rK K K') (hC : rC C C') (hL : cz L) (hs : cz st) (hr : rl σ τ) (h : aAct C K d k (.iconst n) len t a b z pc L st σ = some o) : ∃ o', aAct C' K' d k (.iconst n) len t a b z pc L st τ = some o' ∧ ro o o' := by
  exact hK _ _ _ _ _ hL (cz_i hs) hr _ h
theorem rr_bipush {n : _} (hK : rK K K') (hC : rC C C') (hL : cz L) (hs : cz st) (hr : rl σ τ) (h : aAct C K d k (.bipush n) len t a b z pc L st σ = some o) : ∃ o', aAct C' K' d k (.bipush n) len t a b z pc L st τ = some o' ∧ ro o o' := by
  exact hK _ _ _ _ _ hL (cz_i hs) hr _ h
theorem rr_sipush {n : _} (hK : rK K K') (hC : rC C C') (hL : cz L) (hs : cz st) (hr : rl σ τ) (h : aAct C K d k (.sipush n) len t a b z pc L st σ = some o) : ∃ o', aAct C' K' d k (.sipush n) len t a b z pc L st τ = some o' ∧ ro o o' := by
  exact hK _ _ _ _ _ hL (cz_i hs) hr _ h
theorem rr_lconst {n : _} (hK : rK K K') (hC : rC C C') (hL : cz L) (hs : cz st) (hr : rl σ τ) (h : aAct C K d k (.lconst n) len t a b z pc L st σ = some o) : ∃ o', aAct C' K' d k (.lconst n) len t a b z pc L st τ = some o' ∧ ro o o' := by
  exact hK _ _ _ _ _ hL (cz_l hs) hr _ h
theorem rr_ldc {n : _} (hK : rK K K') (hC : rC C C') (hL : cz L) (hs : cz st) (hr : rl σ τ) (ha : t = 15 → a ≠ 0) (h : aAct C K d k (.ldc n) len t a b z pc L st σ = some o) : ∃ o', aAct C' K' d k (.ldc n) len t a b z pc L st τ = some o' ∧ ro o o' := by
  unfold aAct at h ⊢
  try dsimp only at h ⊢
  split at h
  · exact hK _ _ _ _ _ hL (cz_i hs) hr _ h
  · exact hK _ _ _ _ _ hL (cz_c (nz_r (ha rfl)) hs) hr _ h
  · cases h
theorem rr_ldc_w {n : _} (hK : rK K K') (hC : rC C C') (hL : cz L) (hs : cz st) (hr : rl σ τ) (ha : t = 15 → a ≠ 0) (h : aAct C K d k (.ldc_w n) len t a b z pc L st σ = some o) : ∃ o', aAct C' K' d k (.ldc_w n) len t a b z pc L st τ = some o' ∧ ro o o' := by
  unfold aAct at h ⊢
  try dsimp only at h ⊢
  split at h
  · exact hK _ _ _ _ _ hL (cz_i hs) hr _ h
  · exact hK _ _ _ _ _ hL (cz_c (nz_r (ha rfl)) hs) hr _ h
  · cases h
theorem rr_ldc2_w {n : _} (hK : rK K K') (hC : rC C C') (hL : cz L) (hs : cz st) (hr : rl σ τ) (h : aAct C K d k (.ldc2_w n) len t a b z pc L st σ = some o) : ∃ o', aAct C' K' d k (.ldc2_w n) len t a b z pc L st τ = some o' ∧ ro o o' := by
  unfold aAct at h ⊢
  try dsimp only at h ⊢
  split at h
  · exact hK _ _ _ _ _ hL (cz_l hs) hr _ h
  · cases h
theorem rr_iload {j : _} (hK : rK K K') (hC : rC C C') (hL : cz L) (hs : cz st) (hr : rl σ τ) (h : aAct C K d k (.iload j) len t a b z pc L st σ = some o) : ∃ o', aAct C' K' d k (.iload j) len t a b z pc L st τ = some o' ∧ ro o o' := by
  unfold aAct at h ⊢
  try dsimp only at h ⊢
  cases hx : L[j]? with
  | none => rw [hx] at h; cases h
  | some v =>
    rw [hx] at h
    cases v with
    | int x => exact hK _ _ _ _ _ hL (cz_i hs) hr _ h
    | _ => cases h
theorem rr_iload_n {j : _} (hK : rK K K') (hC : rC C C') (hL : cz L) (hs : cz st) (hr : rl σ τ) (h : aAct C K d k (.iload_n j) len t a b z pc L st σ = some o) : ∃ o', aAct C' K' d k (.iload_n j) len t a b z pc L st τ = some o' ∧ ro o o' := by
  unfold aAct at h ⊢
  try dsimp only at h ⊢
  cases hx : L[(j : Nat)]? with
  | none => rw [hx] at h; cases h
  | some v =>
    rw [hx] at h
    cases v with
    | int x => exact hK _ _ _ _ _ hL (cz_i hs) hr _ h
    | _ => cases h
theorem rr_lload {j : _} (hK : rK K K') (hC : rC C C') (hL : cz L) (hs : cz st) (hr : rl σ τ) (h : aAct C K d k (.lload j) len t a b z pc L st σ = some o) : ∃ o', aAct C' K' d k (.lload j) len t a b z pc L st τ = some o' ∧ ro o o' := by
  unfold aAct at h ⊢
  try dsimp only at h ⊢
  cases hx : L[j]? with
  | none => rw [hx] at h; cases h
  | some v =>
    rw [hx] at h
    cases v with
    | long x => exact hK _ _ _ _ _ hL (cz_l hs) hr _ h
    | _ => cases h
theorem rr_lload_n {j : _} (hK : rK K K') (hC : rC C C') (hL : cz L) (hs : cz st) (hr : rl σ τ) (h : aAct C K d k (.lload_n j) len t a b z pc L st σ = some o) : ∃ o', aAct C' K' d k (.lload_n j) len t a b z pc L st τ = some o' ∧ ro o o' := by
  unfold aAct at h ⊢
  try dsimp only at h ⊢
  cases hx : L[(j : Nat)]? with
  | none => rw [hx] at h; cases h
  | some v =>
    rw [hx] at h
    cases v with
    | long x => exact hK _ _ _ _ _ hL (cz_l hs) hr _ h
    | _ => cases h
theorem rr_aload {j : _} (hK : rK K K') (hC : rC C C') (hL : cz L) (hs : cz st) (hr : rl σ τ) (h : aAct C K d k (.aload j) len t a b z pc L st σ = some o) : ∃ o', aAct C' K' d k (.aload j) len t a b z pc L st τ = some o' ∧ ro o o' := by
  unfold aAct at h ⊢
  try dsimp only at h ⊢
  cases hx : L[j]? with
  | none => rw [hx] at h; cases h
  | some v =>
    rw [hx] at h
    cases v with
    | ref x => exact hK _ _ _ _ _ hL (cz_c (cz_g hL hx) hs) hr _ h
    | _ => cases h
theorem rr_aload_n {j : _} (hK : rK K K') (hC : rC C C') (hL : cz L) (hs : cz st) (hr : rl σ τ) (h : aAct C K d k (.aload_n j) len t a b z pc L st σ = some o) : ∃ o', aAct C' K' d k (.aload_n j) len t a b z pc L st τ = some o' ∧ ro o o' := by
  unfold aAct at h ⊢
  try dsimp only at h ⊢
  cases hx : L[(j : Nat)]? with
  | none => rw [hx] at h; cases h
  | some v =>
    rw [hx] at h
    cases v with
    | ref x => exact hK _ _ _ _ _ hL (cz_c (cz_g hL hx) hs) hr _ h
    | _ => cases h
theorem rr_istore {j : _} (hK : rK K K') (hC : rC C C') (hL : cz L) (hs : cz st) (hr : rl σ τ) (h : aAct C K d k (.istore j) len t a b z pc L st σ = some o) : ∃ o', aAct C' K' d k (.istore j) len t a b z pc L st τ = some o' ∧ ro o o' := by
  unfold aAct at h ⊢
  try dsimp only at h ⊢
  split at h
  · split at h
    · rename_i hj
      rw [if_pos hj]
      exact hK _ _ _ _ _ (cz_s1 hL (cz_h hs) _) (cz_t hs) hr _ h
    · cases h
  · cases h
theorem rr_istore_n {j : _} (hK : rK K K') (hC : rC C C') (hL : cz L) (hs : cz st) (hr : rl σ τ) (h : aAct C K d k (.istore_n j) len t a b z pc L st σ = some o) : ∃ o', aAct C' K' d k (.istore_n j) len t a b z pc L st τ = some o' ∧ ro o o' := by
  unfold aAct at h ⊢
  try dsimp only at h ⊢
  split at h
  · split at h
    · rename_i hj
      rw [if_pos hj]
      exact hK _ _ _ _ _ (cz_s1 hL (cz_h hs) _) (cz_t hs) hr _ h
    · cases h
  · cases h
theorem rr_astore {j : _} (hK : rK K K') (hC : rC C C') (hL : cz L) (hs : cz st) (hr : rl σ τ) (h : aAct C K d k (.astore j) len t a b z pc L st σ = some o) : ∃ o', aAct C' K' d k (.astore j) len t a b z pc L st τ = some o' ∧ ro o o' := by
  unfold aAct at h ⊢
  try dsimp only at h ⊢
  split at h
  · split at h
    · rename_i hj
      rw [if_pos hj]
      exact hK _ _ _ _ _ (cz_s1 hL (cz_h hs) _) (cz_t hs) hr _ h
    · cases h
  · cases h
theorem rr_astore_n {j : _} (hK : rK K K') (hC : rC C C') (hL : cz L) (hs : cz st) (hr : rl σ τ) (h : aAct C K d k (.astore_n j) len t a b z pc L st σ = some o) : ∃ o', aAct C' K' d k (.astore_n j) len t a b z pc L st τ = some o' ∧ ro o o' := by
  unfold aAct at h ⊢
  try dsimp only at h ⊢
  split at h
  · split at h
    · rename_i hj
      rw [if_pos hj]
      exact hK _ _ _ _ _ (cz_s1 hL (cz_h hs) _) (cz_t hs) hr _ h
    · cases h
  · cases h
theorem rr_lstore {j : _} (hK : rK K K') (hC : rC C C') (hL : cz L) (hs : cz st) (hr : rl σ τ) (h : aAct C K d k (.lstore j) len t a b z pc L st σ = some o) : ∃ o', aAct C' K' d k (.lstore j) len t a b z pc L st τ = some o' ∧ ro o o' := by
  unfold aAct at h ⊢
  try dsimp only at h ⊢
  split at h
  · split at h
    · rename_i hj
      rw [if_pos hj]
      exact hK _ _ _ _ _ (cz_s2 hL (cz_h hs) _) (cz_t hs) hr _ h
    · cases h
  · cases h
theorem rr_lstore_n {j : _} (hK : rK K K') (hC : rC C C') (hL : cz L) (hs : cz st) (hr : rl σ τ) (h : aAct C K d k (.lstore_n j) len t a b z pc L st σ = some o) : ∃ o', aAct C' K' d k (.lstore_n j) len t a b z pc L st τ = some o' ∧ ro o o' := by
  unfold aAct at h ⊢
  try dsimp only at h ⊢
  split at h
  · split at h
    · rename_i hj
      rw [if_pos hj]
      exact hK _ _ _ _ _ (cz_s2 hL (cz_h hs) _) (cz_t hs) hr _ h
    · cases h
  · cases h
theorem rr_iinc {j : _} {n : _} (hK : rK K K') (hC : rC C C') (hL : cz L) (hs : cz st) (hr : rl σ τ) (h : aAct C K d k (.iinc j n) len t a b z pc L st σ = some o) : ∃ o', aAct C' K' d k (.iinc j n) len t a b z pc L st τ = some o' ∧ ro o o' := by
  unfold aAct at h ⊢
  try dsimp only at h ⊢
  cases hx : L[j]? with
  | none => rw [hx] at h; cases h
  | some v =>
    rw [hx] at h
    cases v with
    | int x => exact hK _ _ _ _ _ (cz_s1 hL (nz_i _) _) hs hr _ h
    | _ => cases h
theorem rr_iadd (hK : rK K K') (hC : rC C C') (hL : cz L) (hs : cz st) (hr : rl σ τ) (h : aAct C K d k .iadd len t a b z pc L st σ = some o) : ∃ o', aAct C' K' d k .iadd len t a b z pc L st τ = some o' ∧ ro o o' := by
  unfold aAct at h ⊢
  try dsimp only at h ⊢
  split at h
  · exact hK _ _ _ _ _ hL (cz_i (cz_t (cz_t hs))) hr _ h
  · cases h
theorem rr_isub (hK : rK K K') (hC : rC C C') (hL : cz L) (hs : cz st) (hr : rl σ τ) (h : aAct C K d k .isub len t a b z pc L st σ = some o) : ∃ o', aAct C' K' d k .isub len t a b z pc L st τ = some o' ∧ ro o o' := by
  unfold aAct at h ⊢
  try dsimp only at h ⊢
  split at h
  · exact hK _ _ _ _ _ hL (cz_i (cz_t (cz_t hs))) hr _ h
  · cases h
theorem rr_imul (hK : rK K K') (hC : rC C C') (hL : cz L) (hs : cz st) (hr : rl σ τ) (h : aAct C K d k .imul len t a b z pc L st σ = some o) : ∃ o', aAct C' K' d k .imul len t a b z pc L st τ = some o' ∧ ro o o' := by
  unfold aAct at h ⊢
  try dsimp only at h ⊢
  split at h
  · exact hK _ _ _ _ _ hL (cz_i (cz_t (cz_t hs))) hr _ h
  · cases h
theorem rr_iand (hK : rK K K') (hC : rC C C') (hL : cz L) (hs : cz st) (hr : rl σ τ) (h : aAct C K d k .iand len t a b z pc L st σ = some o) : ∃ o', aAct C' K' d k .iand len t a b z pc L st τ = some o' ∧ ro o o' := by
  unfold aAct at h ⊢
  try dsimp only at h ⊢
  split at h
  · exact hK _ _ _ _ _ hL (cz_i (cz_t (cz_t hs))) hr _ h
  · cases h
theorem rr_ior (hK : rK K K') (hC : rC C C') (hL : cz L) (hs : cz st) (hr : rl σ τ) (h : aAct C K d k .ior len t a b z pc L st σ = some o) : ∃ o', aAct C' K' d k .ior len t a b z pc L st τ = some o' ∧ ro o o' := by
  unfold aAct at h ⊢
  try dsimp only at h ⊢
  split at h
  · exact hK _ _ _ _ _ hL (cz_i (cz_t (cz_t hs))) hr _ h
  · cases h
theorem rr_ixor (hK : rK K K') (hC : rC C C') (hL : cz L) (hs : cz st) (hr : rl σ τ) (h : aAct C K d k .ixor len t a b z pc L st σ = some o) : ∃ o', aAct C' K' d k .ixor len t a b z pc L st τ = some o' ∧ ro o o' := by
  unfold aAct at h ⊢
  try dsimp only at h ⊢
  split at h
  · exact hK _ _ _ _ _ hL (cz_i (cz_t (cz_t hs))) hr _ h
  · cases h
theorem rr_ishl (hK : rK K K') (hC : rC C C') (hL : cz L) (hs : cz st) (hr : rl σ τ) (h : aAct C K d k .ishl len t a b z pc L st σ = some o) : ∃ o', aAct C' K' d k .ishl len t a b z pc L st τ = some o' ∧ ro o o' := by
  unfold aAct at h ⊢
  try dsimp only at h ⊢
  split at h
  · exact hK _ _ _ _ _ hL (cz_i (cz_t (cz_t hs))) hr _ h
  · cases h
theorem rr_ishr (hK : rK K K') (hC : rC C C') (hL : cz L) (hs : cz st) (hr : rl σ τ) (h : aAct C K d k .ishr len t a b z pc L st σ = some o) : ∃ o', aAct C' K' d k .ishr len t a b z pc L st τ = some o' ∧ ro o o' := by
  unfold aAct at h ⊢
  try dsimp only at h ⊢
  split at h
  · exact hK _ _ _ _ _ hL (cz_i (cz_t (cz_t hs))) hr _ h
  · cases h
theorem rr_iushr (hK : rK K K') (hC : rC C C') (hL : cz L) (hs : cz st) (hr : rl σ τ) (h : aAct C K d k .iushr len t a b z pc L st σ = some o) : ∃ o', aAct C' K' d k .iushr len t a b z pc L st τ = some o' ∧ ro o o' := by
  unfold aAct at h ⊢
  try dsimp only at h ⊢
  split at h
  · exact hK _ _ _ _ _ hL (cz_i (cz_t (cz_t hs))) hr _ h
  · cases h
theorem rr_ladd (hK : rK K K') (hC : rC C C') (hL : cz L) (hs : cz st) (hr : rl σ τ) (h : aAct C K d k .ladd len t a b z pc L st σ = some o) : ∃ o', aAct C' K' d k .ladd len t a b z pc L st τ = some o' ∧ ro o o' := by
  unfold aAct at h ⊢
  try dsimp only at h ⊢
  split at h
  · exact hK _ _ _ _ _ hL (cz_l (cz_t (cz_t hs))) hr _ h
  · cases h
theorem rr_lmul (hK : rK K K') (hC : rC C C') (hL : cz L) (hs : cz st) (hr : rl σ τ) (h : aAct C K d k .lmul len t a b z pc L st σ = some o) : ∃ o', aAct C' K' d k .lmul len t a b z pc L st τ = some o' ∧ ro o o' := by
  unfold aAct at h ⊢
  try dsimp only at h ⊢
  split at h
  · exact hK _ _ _ _ _ hL (cz_l (cz_t (cz_t hs))) hr _ h
  · cases h
theorem rr_lcmp (hK : rK K K') (hC : rC C C') (hL : cz L) (hs : cz st) (hr : rl σ τ) (h : aAct C K d k .lcmp len t a b z pc L st σ = some o) : ∃ o', aAct C' K' d k .lcmp len t a b z pc L st τ = some o' ∧ ro o o' := by
  unfold aAct at h ⊢
  try dsimp only at h ⊢
  split at h
  · exact hK _ _ _ _ _ hL (cz_i (cz_t (cz_t hs))) hr _ h
  · cases h
theorem rr_idiv (hK : rK K K') (hC : rC C C') (hL : cz L) (hs : cz st) (hr : rl σ τ) (h : aAct C K d k .idiv len t a b z pc L st σ = some o) : ∃ o', aAct C' K' d k .idiv len t a b z pc L st τ = some o' ∧ ro o o' := by
  unfold aAct at h ⊢
  try dsimp only at h ⊢
  split at h
  · split at h
    · cases h
    · rename_i hy
      rw [if_neg hy]
      exact hK _ _ _ _ _ hL (cz_i (cz_t (cz_t hs))) hr _ h
  · cases h
theorem rr_irem (hK : rK K K') (hC : rC C C') (hL : cz L) (hs : cz st) (hr : rl σ τ) (h : aAct C K d k .irem len t a b z pc L st σ = some o) : ∃ o', aAct C' K' d k .irem len t a b z pc L st τ = some o' ∧ ro o o' := by
  unfold aAct at h ⊢
  try dsimp only at h ⊢
  split at h
  · split at h
    · cases h
    · rename_i hy
      rw [if_neg hy]
      exact hK _ _ _ _ _ hL (cz_i (cz_t (cz_t hs))) hr _ h
  · cases h
theorem rr_ldiv (hK : rK K K') (hC : rC C C') (hL : cz L) (hs : cz st) (hr : rl σ τ) (h : aAct C K d k .ldiv len t a b z pc L st σ = some o) : ∃ o', aAct C' K' d k .ldiv len t a b z pc L st τ = some o' ∧ ro o o' := by
  unfold aAct at h ⊢
  try dsimp only at h ⊢
  split at h
  · split at h
    · cases h
    · rename_i hy
      rw [if_neg hy]
      exact hK _ _ _ _ _ hL (cz_l (cz_t (cz_t hs))) hr _ h
  · cases h
theorem rr_lrem (hK : rK K K') (hC : rC C C') (hL : cz L) (hs : cz st) (hr : rl σ τ) (h : aAct C K d k .lrem len t a b z pc L st σ = some o) : ∃ o', aAct C' K' d k .lrem len t a b z pc L st τ = some o' ∧ ro o o' := by
  unfold aAct at h ⊢
  try dsimp only at h ⊢
  split at h
  · split at h
    · cases h
    · rename_i hy
      rw [if_neg hy]
      exact hK _ _ _ _ _ hL (cz_l (cz_t (cz_t hs))) hr _ h
  · cases h
theorem rr_ineg (hK : rK K K') (hC : rC C C') (hL : cz L) (hs : cz st) (hr : rl σ τ) (h : aAct C K d k .ineg len t a b z pc L st σ = some o) : ∃ o', aAct C' K' d k .ineg len t a b z pc L st τ = some o' ∧ ro o o' := by
  unfold aAct at h ⊢
  try dsimp only at h ⊢
  split at h
  · exact hK _ _ _ _ _ hL (cz_i (cz_t hs)) hr _ h
  · cases h
theorem rr_l2i (hK : rK K K') (hC : rC C C') (hL : cz L) (hs : cz st) (hr : rl σ τ) (h : aAct C K d k .l2i len t a b z pc L st σ = some o) : ∃ o', aAct C' K' d k .l2i len t a b z pc L st τ = some o' ∧ ro o o' := by
  unfold aAct at h ⊢
  try dsimp only at h ⊢
  split at h
  · exact hK _ _ _ _ _ hL (cz_i (cz_t hs)) hr _ h
  · cases h
theorem rr_i2b (hK : rK K K') (hC : rC C C') (hL : cz L) (hs : cz st) (hr : rl σ τ) (h : aAct C K d k .i2b len t a b z pc L st σ = some o) : ∃ o', aAct C' K' d k .i2b len t a b z pc L st τ = some o' ∧ ro o o' := by
  unfold aAct at h ⊢
  try dsimp only at h ⊢
  split at h
  · exact hK _ _ _ _ _ hL (cz_i (cz_t hs)) hr _ h
  · cases h
theorem rr_i2s (hK : rK K K') (hC : rC C C') (hL : cz L) (hs : cz st) (hr : rl σ τ) (h : aAct C K d k .i2s len t a b z pc L st σ = some o) : ∃ o', aAct C' K' d k .i2s len t a b z pc L st τ = some o' ∧ ro o o' := by
  unfold aAct at h ⊢
  try dsimp only at h ⊢
  split at h
  · exact hK _ _ _ _ _ hL (cz_i (cz_t hs)) hr _ h
  · cases h
theorem rr_i2c (hK : rK K K') (hC : rC C C') (hL : cz L) (hs : cz st) (hr : rl σ τ) (h : aAct C K d k .i2c len t a b z pc L st σ = some o) : ∃ o', aAct C' K' d k .i2c len t a b z pc L st τ = some o' ∧ ro o o' := by
  unfold aAct at h ⊢
  try dsimp only at h ⊢
  split at h
  · exact hK _ _ _ _ _ hL (cz_i (cz_t hs)) hr _ h
  · cases h
theorem rr_i2l (hK : rK K K') (hC : rC C C') (hL : cz L) (hs : cz st) (hr : rl σ τ) (h : aAct C K d k .i2l len t a b z pc L st σ = some o) : ∃ o', aAct C' K' d k .i2l len t a b z pc L st τ = some o' ∧ ro o o' := by
  unfold aAct at h ⊢
  try dsimp only at h ⊢
  split at h
  · exact hK _ _ _ _ _ hL (cz_l (cz_t hs)) hr _ h
  · cases h
theorem rr_dup (hK : rK K K') (hC : rC C C') (hL : cz L) (hs : cz st) (hr : rl σ τ) (h : aAct C K d k .dup len t a b z pc L st σ = some o) : ∃ o', aAct C' K' d k .dup len t a b z pc L st τ = some o' ∧ ro o o' := by
  unfold aAct at h ⊢
  try dsimp only at h ⊢
  split at h
  · exact hK _ _ _ _ _ hL (cz_i hs) hr _ h
  · exact hK _ _ _ _ _ hL (cz_c (cz_h hs) hs) hr _ h
  · cases h
theorem rr_pop (hK : rK K K') (hC : rC C C') (hL : cz L) (hs : cz st) (hr : rl σ τ) (h : aAct C K d k .pop len t a b z pc L st σ = some o) : ∃ o', aAct C' K' d k .pop len t a b z pc L st τ = some o' ∧ ro o o' := by
  unfold aAct at h ⊢
  try dsimp only at h ⊢
  split at h
  · exact hK _ _ _ _ _ hL (cz_t hs) hr _ h
  · cases h
theorem rr_dup_x1 (hK : rK K K') (hC : rC C C') (hL : cz L) (hs : cz st) (hr : rl σ τ) (h : aAct C K d k .dup_x1 len t a b z pc L st σ = some o) : ∃ o', aAct C' K' d k .dup_x1 len t a b z pc L st τ = some o' ∧ ro o o' := by
  unfold aAct at h ⊢
  try dsimp only at h ⊢
  split at h
  · exact hK _ _ _ _ _ hL (cz_i (cz_c (cz_h (cz_t hs)) (cz_i (cz_t (cz_t hs))))) hr _ h
  · cases h
theorem rr_dup2 (hK : rK K K') (hC : rC C C') (hL : cz L) (hs : cz st) (hr : rl σ τ) (h : aAct C K d k .dup2 len t a b z pc L st σ = some o) : ∃ o', aAct C' K' d k .dup2 len t a b z pc L st τ = some o' ∧ ro o o' := by
  unfold aAct at h ⊢
  try dsimp only at h ⊢
  split at h
  · exact hK _ _ _ _ _ hL (cz_i (cz_c (cz_h (cz_t hs)) hs)) hr _ h
  · cases h
theorem rr_if_eq {off : _} (hK : rK K K') (hC : rC C C') (hL : cz L) (hs : cz st) (hr : rl σ τ) (h : aAct C K d k (.ifCond .eq off) len t a b z pc L st σ = some o) : ∃ o', aAct C' K' d k (.ifCond .eq off) len t a b z pc L st τ = some o' ∧ ro o o' := by
  unfold aAct at h ⊢
  try dsimp only at h ⊢
  split at h
  · try dsimp only at h ⊢
    split at h
    · rename_i hq
      rw [if_pos hq]
      exact hK _ _ _ _ _ hL (cz_t hs) hr _ h
    · rename_i hq
      rw [if_neg hq]
      exact hK _ _ _ _ _ hL (cz_t hs) hr _ h
  · cases h
theorem rr_icmp_eq {off : _} (hK : rK K K') (hC : rC C C') (hL : cz L) (hs : cz st) (hr : rl σ τ) (h : aAct C K d k (.if_icmp .eq off) len t a b z pc L st σ = some o) : ∃ o', aAct C' K' d k (.if_icmp .eq off) len t a b z pc L st τ = some o' ∧ ro o o' := by
  unfold aAct at h ⊢
  try dsimp only at h ⊢
  split at h
  · try dsimp only at h ⊢
    split at h
    · rename_i hq
      rw [if_pos hq]
      exact hK _ _ _ _ _ hL (cz_t (cz_t hs)) hr _ h
    · rename_i hq
      rw [if_neg hq]
      exact hK _ _ _ _ _ hL (cz_t (cz_t hs)) hr _ h
  · cases h
theorem rr_if_ne {off : _} (hK : rK K K') (hC : rC C C') (hL : cz L) (hs : cz st) (hr : rl σ τ) (h : aAct C K d k (.ifCond .ne off) len t a b z pc L st σ = some o) : ∃ o', aAct C' K' d k (.ifCond .ne off) len t a b z pc L st τ = some o' ∧ ro o o' := by
  unfold aAct at h ⊢
  try dsimp only at h ⊢
  split at h
  · try dsimp only at h ⊢
    split at h
    · rename_i hq
      rw [if_pos hq]
      exact hK _ _ _ _ _ hL (cz_t hs) hr _ h
    · rename_i hq
      rw [if_neg hq]
      exact hK _ _ _ _ _ hL (cz_t hs) hr _ h
  · cases h
theorem rr_icmp_ne {off : _} (hK : rK K K') (hC : rC C C') (hL : cz L) (hs : cz st) (hr : rl σ τ) (h : aAct C K d k (.if_icmp .ne off) len t a b z pc L st σ = some o) : ∃ o', aAct C' K' d k (.if_icmp .ne off) len t a b z pc L st τ = some o' ∧ ro o o' := by
  unfold aAct at h ⊢
  try dsimp only at h ⊢
  split at h
  · try dsimp only at h ⊢
    split at h
    · rename_i hq
      rw [if_pos hq]
      exact hK _ _ _ _ _ hL (cz_t (cz_t hs)) hr _ h
    · rename_i hq
      rw [if_neg hq]
      exact hK _ _ _ _ _ hL (cz_t (cz_t hs)) hr _ h
  · cases h
theorem rr_if_lt {off : _} (hK : rK K K') (hC : rC C C') (hL : cz L) (hs : cz st) (hr : rl σ τ) (h : aAct C K d k (.ifCond .lt off) len t a b z pc L st σ = some o) : ∃ o', aAct C' K' d k (.ifCond .lt off) len t a b z pc L st τ = some o' ∧ ro o o' := by
  unfold aAct at h ⊢
  try dsimp only at h ⊢
  split at h
  · try dsimp only at h ⊢
    split at h
    · rename_i hq
      rw [if_pos hq]
      exact hK _ _ _ _ _ hL (cz_t hs) hr _ h
    · rename_i hq
      rw [if_neg hq]
      exact hK _ _ _ _ _ hL (cz_t hs) hr _ h
  · cases h
theorem rr_icmp_lt {off : _} (hK : rK K K') (hC : rC C C') (hL : cz L) (hs : cz st) (hr : rl σ τ) (h : aAct C K d k (.if_icmp .lt off) len t a b z pc L st σ = some o) : ∃ o', aAct C' K' d k (.if_icmp .lt off) len t a b z pc L st τ = some o' ∧ ro o o' := by
  unfold aAct at h ⊢
  try dsimp only at h ⊢
  split at h
  · try dsimp only at h ⊢
    split at h
    · rename_i hq
      rw [if_pos hq]
      exact hK _ _ _ _ _ hL (cz_t (cz_t hs)) hr _ h
    · rename_i hq
      rw [if_neg hq]
      exact hK _ _ _ _ _ hL (cz_t (cz_t hs)) hr _ h
  · cases h
theorem rr_if_ge {off : _} (hK : rK K K') (hC : rC C C') (hL : cz L) (hs : cz st) (hr : rl σ τ) (h : aAct C K d k (.ifCond .ge off) len t a b z pc L st σ = some o) : ∃ o', aAct C' K' d k (.ifCond .ge off) len t a b z pc L st τ = some o' ∧ ro o o' := by
  unfold aAct at h ⊢
  try dsimp only at h ⊢
  split at h
  · try dsimp only at h ⊢
    split at h
    · rename_i hq
      rw [if_pos hq]
      exact hK _ _ _ _ _ hL (cz_t hs) hr _ h
    · rename_i hq
      rw [if_neg hq]
      exact hK _ _ _ _ _ hL (cz_t hs) hr _ h
  · cases h
theorem rr_icmp_ge {off : _} (hK : rK K K') (hC : rC C C') (hL : cz L) (hs : cz st) (hr : rl σ τ) (h : aAct C K d k (.if_icmp .ge off) len t a b z pc L st σ = some o) : ∃ o', aAct C' K' d k (.if_icmp .ge off) len t a b z pc L st τ = some o' ∧ ro o o' := by
  unfold aAct at h ⊢
  try dsimp only at h ⊢
  split at h
  · try dsimp only at h ⊢
    split at h
    · rename_i hq
      rw [if_pos hq]
      exact hK _ _ _ _ _ hL (cz_t (cz_t hs)) hr _ h
    · rename_i hq
      rw [if_neg hq]
      exact hK _ _ _ _ _ hL (cz_t (cz_t hs)) hr _ h
  · cases h
theorem rr_if_gt {off : _} (hK : rK K K') (hC : rC C C') (hL : cz L) (hs : cz st) (hr : rl σ τ) (h : aAct C K d k (.ifCond .gt off) len t a b z pc L st σ = some o) : ∃ o', aAct C' K' d k (.ifCond .gt off) len t a b z pc L st τ = some o' ∧ ro o o' := by
  unfold aAct at h ⊢
  try dsimp only at h ⊢
  split at h
  · try dsimp only at h ⊢
    split at h
    · rename_i hq
      rw [if_pos hq]
      exact hK _ _ _ _ _ hL (cz_t hs) hr _ h
    · rename_i hq
      rw [if_neg hq]
      exact hK _ _ _ _ _ hL (cz_t hs) hr _ h
  · cases h
theorem rr_icmp_gt {off : _} (hK : rK K K') (hC : rC C C') (hL : cz L) (hs : cz st) (hr : rl σ τ) (h : aAct C K d k (.if_icmp .gt off) len t a b z pc L st σ = some o) : ∃ o', aAct C' K' d k (.if_icmp .gt off) len t a b z pc L st τ = some o' ∧ ro o o' := by
  unfold aAct at h ⊢
  try dsimp only at h ⊢
  split at h
  · try dsimp only at h ⊢
    split at h
    · rename_i hq
      rw [if_pos hq]
      exact hK _ _ _ _ _ hL (cz_t (cz_t hs)) hr _ h
    · rename_i hq
      rw [if_neg hq]
      exact hK _ _ _ _ _ hL (cz_t (cz_t hs)) hr _ h
  · cases h
theorem rr_if_le {off : _} (hK : rK K K') (hC : rC C C') (hL : cz L) (hs : cz st) (hr : rl σ τ) (h : aAct C K d k (.ifCond .le off) len t a b z pc L st σ = some o) : ∃ o', aAct C' K' d k (.ifCond .le off) len t a b z pc L st τ = some o' ∧ ro o o' := by
  unfold aAct at h ⊢
  try dsimp only at h ⊢
  split at h
  · try dsimp only at h ⊢
    split at h
    · rename_i hq
      rw [if_pos hq]
      exact hK _ _ _ _ _ hL (cz_t hs) hr _ h
    · rename_i hq
      rw [if_neg hq]
      exact hK _ _ _ _ _ hL (cz_t hs) hr _ h
  · cases h
theorem rr_icmp_le {off : _} (hK : rK K K') (hC : rC C C') (hL : cz L) (hs : cz st) (hr : rl σ τ) (h : aAct C K d k (.if_icmp .le off) len t a b z pc L st σ = some o) : ∃ o', aAct C' K' d k (.if_icmp .le off) len t a b z pc L st τ = some o' ∧ ro o o' := by
  unfold aAct at h ⊢
  try dsimp only at h ⊢
  split at h
  · try dsimp only at h ⊢
    split at h
    · rename_i hq
      rw [if_pos hq]
      exact hK _ _ _ _ _ hL (cz_t (cz_t hs)) hr _ h
    · rename_i hq
      rw [if_neg hq]
      exact hK _ _ _ _ _ hL (cz_t (cz_t hs)) hr _ h
  · cases h
theorem rr_goto {off : _} (hK : rK K K') (hC : rC C C') (hL : cz L) (hs : cz st) (hr : rl σ τ) (h : aAct C K d k (.goto off) len t a b z pc L st σ = some o) : ∃ o', aAct C' K' d k (.goto off) len t a b z pc L st τ = some o' ∧ ro o o' := by
  exact hK _ _ _ _ _ hL hs hr _ h
theorem rr_tableswitch {df : _} {lo : _} {hi : _} {offs : _} (hK : rK K K') (hC : rC C C') (hL : cz L) (hs : cz st) (hr : rl σ τ) (h : aAct C K d k (.tableswitch df lo hi offs) len t a b z pc L st σ = some o) : ∃ o', aAct C' K' d k (.tableswitch df lo hi offs) len t a b z pc L st τ = some o' ∧ ro o o' := by
  unfold aAct at h ⊢
  try dsimp only at h ⊢
  split at h
  · split at h
    · rename_i hq
      rw [if_pos hq]
      exact hK _ _ _ _ _ hL (cz_t hs) hr _ h
    · rename_i hq
      rw [if_neg hq]
      split at h
      · rename_i hx
        try rw [hx]
        exact hK _ _ _ _ _ hL (cz_t hs) hr _ h
      · cases h
  · cases h
theorem rr_lookupswitch {df : _} {ps : _} (hK : rK K K') (hC : rC C C') (hL : cz L) (hs : cz st) (hr : rl σ τ) (h : aAct C K d k (.lookupswitch df ps) len t a b z pc L st σ = some o) : ∃ o', aAct C' K' d k (.lookupswitch df ps) len t a b z pc L st τ = some o' ∧ ro o o' := by
  unfold aAct at h ⊢
  try dsimp only at h ⊢
  split at h
  · exact hK _ _ _ _ _ hL (cz_t hs) hr _ h
  · cases h
theorem rr_getfield {n : _} (hK : rK K K') (hC : rC C C') (hL : cz L) (hs : cz st) (hr : rl σ τ) (h : aAct C K d k (.getfield n) len t a b z pc L st σ = some o) : ∃ o', aAct C' K' d k (.getfield n) len t a b z pc L st τ = some o' ∧ ro o o' := by
  unfold aAct at h ⊢
  try dsimp only at h ⊢
  split at h
  · split at h
    · split at h
      · rename_i hk
        rw [if_pos hk]
        split at h
        · rename_i hb
          rw [if_pos hb, hr.2.2.2.2.1 _ (cz_h hs)]
          exact hK _ _ _ _ _ hL (cz_c (rl_f hr (cz_h hs) _) (cz_t hs)) hr _ h
        · rename_i hb
          rw [if_neg hb, hr.2.2.1 _ (cz_h hs)]
          exact hK _ _ _ _ _ hL (cz_i (cz_t hs)) hr _ h
      · cases h
    · split at h
      · rename_i hk
        rw [if_pos hk]
        split at h
        · rename_i hb
          rw [if_pos hb]
          exact hK _ _ _ _ _ hL (cz_c (nz_r (Nat.succ_ne_zero _)) (cz_t hs)) hr _ h
        · rename_i hb
          rw [if_neg hb]
          exact hK _ _ _ _ _ hL (cz_i (cz_t hs)) hr _ h
      · cases h
    · cases h
  · cases h
theorem rr_putfield {n : _} (hK : rK K K') (hC : rC C C') (hL : cz L) (hs : cz st) (hr : rl σ τ) (h : aAct C K d k (.putfield n) len t a b z pc L st σ = some o) : ∃ o', aAct C' K' d k (.putfield n) len t a b z pc L st τ = some o' ∧ ro o o' := by
  unfold aAct at h ⊢
  try dsimp only at h ⊢
  split at h
  · split at h
    · split at h
      · rename_i hk
        rw [if_pos hk]
        split at h
        · rename_i hb
          try rw [hb]
          exact hK _ _ _ _ _ hL (cz_t (cz_t hs)) (rl_I hr _ _ _) _ h
        · rename_i hb
          try rw [hb]
          split at h
          · rename_i hx
            try dsimp only
            rw [if_pos hx]
            exact hK _ _ _ _ _ hL (cz_t (cz_t hs)) (rl_I hr _ _ _) _ h
          · cases h
        · cases h
      · cases h
    · cases h
  · split at h
    · split at h
      · rename_i hk
        rw [if_pos hk]
        split at h
        · rename_i hb
          try rw [hb]
          exact hK _ _ _ _ _ hL (cz_t (cz_t hs)) (rl_P hr _ _ (cz_h hs)) _ h
        · cases h
      · cases h
    · cases h
  · cases h
theorem rr_getstatic {n : _} (hK : rK K K') (hC : rC C C') (hL : cz L) (hs : cz st) (hr : rl σ τ) (h : aAct C K d k (.getstatic n) len t a b z pc L st σ = some o) : ∃ o', aAct C' K' d k (.getstatic n) len t a b z pc L st τ = some o' ∧ ro o o' := by
  unfold aAct at h ⊢
  try dsimp only at h ⊢
  split at h
  · exact hK _ _ _ _ _ hL (cz_i hs) hr _ h
  · exact hK _ _ _ _ _ hL (cz_c (by show (5 : Nat) ≠ 0; decide) hs) hr _ h
  · cases h
theorem rr_newarray {ty : _} (hK : rK K K') (hC : rC C C') (hL : cz L) (hs : cz st) (hr : rl σ τ) (h : aAct C K d k (.newarray ty) len t a b z pc L st σ = some o) : ∃ o', aAct C' K' d k (.newarray ty) len t a b z pc L st τ = some o' ∧ ro o o' := by
  unfold aAct at h ⊢
  try dsimp only at h ⊢
  split at h
  · split at h
    · cases h
    · rename_i hn
      rw [if_neg hn]
      rw [← hr.1] at h
      split at h
      · rename_i hk
        rw [if_pos hk]
        exact hK _ _ _ _ _ hL (cz_c (by show τ.1.1 ≠ 0; rw [hr.1]; exact Nat.ne_of_gt hr.2.1) (cz_t hs)) (rl_N hr _ _) _ h
      · cases h
  · cases h
theorem rr_new {n : _} (hK : rK K K') (hC : rC C C') (hL : cz L) (hs : cz st) (hr : rl σ τ) (h : aAct C K d k (.new n) len t a b z pc L st σ = some o) : ∃ o', aAct C' K' d k (.new n) len t a b z pc L st τ = some o' ∧ ro o o' := by
  unfold aAct at h ⊢
  try dsimp only at h ⊢
  rw [← hr.1] at h
  split at h
  · split at h
    · rename_i hk
      rw [if_pos hk]
      exact hK _ _ _ _ _ hL (cz_c (by show τ.1.1 ≠ 0; rw [hr.1]; exact Nat.ne_of_gt hr.2.1) hs) (rl_N hr _ _) _ h
    · cases h
  · cases h
    exact ⟨_, rfl, rfl, rl_N hr _ _⟩
  · cases h
theorem rr_arraylength (hK : rK K K') (hC : rC C C') (hL : cz L) (hs : cz st) (hr : rl σ τ) (h : aAct C K d k .arraylength len t a b z pc L st σ = some o) : ∃ o', aAct C' K' d k .arraylength len t a b z pc L st τ = some o' ∧ ro o o' := by
  unfold aAct at h ⊢
  try dsimp only at h ⊢
  split at h
  · split at h
    · rename_i hk
      rw [if_pos hk, rl_z hr (cz_h hs)]
      exact hK _ _ _ _ _ hL (cz_i (cz_t hs)) hr _ h
    · cases h
  · cases h
theorem rr_iaload (hK : rK K K') (hC : rC C C') (hL : cz L) (hs : cz st) (hr : rl σ τ) (h : aAct C K d k .iaload len t a b z pc L st σ = some o) : ∃ o', aAct C' K' d k .iaload len t a b z pc L st τ = some o' ∧ ro o o' := by
  unfold aAct at h ⊢
  try dsimp only at h ⊢
  split at h
  · split at h
    · rename_i hk
      rw [if_pos hk, rl_z hr (cz_h (cz_t hs))]
      split at h
      · cases h
      · rename_i hj
        rw [if_neg hj, hr.2.2.1 _ (cz_h (cz_t hs))]
        exact hK _ _ _ _ _ hL (cz_i (cz_t (cz_t hs))) hr _ h
    · cases h
  · cases h
theorem rr_baload (hK : rK K K') (hC : rC C C') (hL : cz L) (hs : cz st) (hr : rl σ τ) (h : aAct C K d k .baload len t a b z pc L st σ = some o) : ∃ o', aAct C' K' d k .baload len t a b z pc L st τ = some o' ∧ ro o o' := by
  unfold aAct at h ⊢
  try dsimp only at h ⊢
  split at h
  · split at h
    · rename_i hk
      rw [if_pos hk]
      split at h
      · cases h
      · rename_i hj
        rw [if_neg hj, hr.2.2.1 _ (cz_h (cz_t hs))]
        exact hK _ _ _ _ _ hL (cz_i (cz_t (cz_t hs))) hr _ h
    · cases h
  · cases h
theorem rr_caload (hK : rK K K') (hC : rC C C') (hL : cz L) (hs : cz st) (hr : rl σ τ) (h : aAct C K d k .caload len t a b z pc L st σ = some o) : ∃ o', aAct C' K' d k .caload len t a b z pc L st τ = some o' ∧ ro o o' := by
  unfold aAct at h ⊢
  try dsimp only at h ⊢
  split at h
  · split at h
    · rename_i hk
      rw [if_pos hk]
      split at h
      · cases h
      · rename_i hj
        rw [if_neg hj, hr.2.2.1 _ (cz_h (cz_t hs))]
        exact hK _ _ _ _ _ hL (cz_i (cz_t (cz_t hs))) hr _ h
    · cases h
  · cases h
theorem rr_laload (hK : rK K K') (hC : rC C C') (hL : cz L) (hs : cz st) (hr : rl σ τ) (h : aAct C K d k .laload len t a b z pc L st σ = some o) : ∃ o', aAct C' K' d k .laload len t a b z pc L st τ = some o' ∧ ro o o' := by
  unfold aAct at h ⊢
  try dsimp only at h ⊢
  split at h
  · split at h
    · rename_i hk
      rw [if_pos hk]
      split at h
      · cases h
      · rename_i hj
        rw [if_neg hj, hr.2.2.2.1]
        exact hK _ _ _ _ _ hL (cz_l (cz_t (cz_t hs))) hr _ h
    · cases h
  · cases h
theorem rr_iastore (hK : rK K K') (hC : rC C C') (hL : cz L) (hs : cz st) (hr : rl σ τ) (h : aAct C K d k .iastore len t a b z pc L st σ = some o) : ∃ o', aAct C' K' d k .iastore len t a b z pc L st τ = some o' ∧ ro o o' := by
  unfold aAct at h ⊢
  try dsimp only at h ⊢
  split at h
  · split at h
    · rename_i hk
      rw [if_pos hk]
      split at h
      · cases h
      · rename_i hj
        rw [if_neg hj]
        exact hK _ _ _ _ _ hL (cz_t (cz_t (cz_t hs))) (rl_I hr _ _ _) _ h
    · cases h
  · cases h
theorem rr_castore (hK : rK K K') (hC : rC C C') (hL : cz L) (hs : cz st) (hr : rl σ τ) (h : aAct C K d k .castore len t a b z pc L st σ = some o) : ∃ o', aAct C' K' d k .castore len t a b z pc L st τ = some o' ∧ ro o o' := by
  unfold aAct at h ⊢
  try dsimp only at h ⊢
  split at h
  · split at h
    · rename_i hk
      rw [if_pos hk]
      split at h
      · cases h
      · rename_i hj
        rw [if_neg hj]
        exact hK _ _ _ _ _ hL (cz_t (cz_t (cz_t hs))) (rl_I hr _ _ _) _ h
    · cases h
  · cases h
theorem rr_lastore (hK : rK K K') (hC : rC C C') (hL : cz L) (hs : cz st) (hr : rl σ τ) (h : aAct C K d k .lastore len t a b z pc L st σ = some o) : ∃ o', aAct C' K' d k .lastore len t a b z pc L st τ = some o' ∧ ro o o' := by
  unfold aAct at h ⊢
  try dsimp only at h ⊢
  split at h
  · split at h
    · rename_i hk
      rw [if_pos hk]
      split at h
      · cases h
      · rename_i hj
        rw [if_neg hj]
        exact hK _ _ _ _ _ hL (cz_t (cz_t (cz_t hs))) (rl_J hr _ _ _) _ h
    · cases h
  · cases h
theorem rr_bastore (hK : rK K K') (hC : rC C C') (hL : cz L) (hs : cz st) (hr : rl σ τ) (h : aAct C K d k .bastore len t a b z pc L st σ = some o) : ∃ o', aAct C' K' d k .bastore len t a b z pc L st τ = some o' ∧ ro o o' := by
  unfold aAct at h ⊢
  try dsimp only at h ⊢
  split at h
  · split at h
    · rename_i hk
      rw [if_pos hk]
      split at h
      · cases h
      · rename_i hj
        rw [if_neg hj]
        exact hK _ _ _ _ _ hL (cz_t (cz_t (cz_t hs))) (rl_I hr _ _ _) _ h
    · rename_i hk
      rw [if_neg hk]
      split at h
      · rename_i hk
        rw [if_pos hk]
        split at h
        · cases h
        · rename_i hj
          rw [if_neg hj]
          exact hK _ _ _ _ _ hL (cz_t (cz_t (cz_t hs))) (rl_I hr _ _ _) _ h
      · cases h
  · cases h
theorem rr_return (hK : rK K K') (hC : rC C C') (hL : cz L) (hs : cz st) (hr : rl σ τ) (h : aAct C K d k .return_ len t a b z pc L st σ = some o) : ∃ o', aAct C' K' d k .return_ len t a b z pc L st τ = some o' ∧ ro o o' := by
  unfold aAct at h ⊢
  try dsimp only at h ⊢
  split at h
  · rename_i hq
    try rw [hq]
    cases h
    exact ⟨_, rfl, rfl, hr⟩
  · cases h
theorem rr_lreturn (hK : rK K K') (hC : rC C C') (hL : cz L) (hs : cz st) (hr : rl σ τ) (h : aAct C K d k .lreturn len t a b z pc L st σ = some o) : ∃ o', aAct C' K' d k .lreturn len t a b z pc L st τ = some o' ∧ ro o o' := by
  unfold aAct at h ⊢
  try dsimp only at h ⊢
  split at h
  · rename_i hq
    try rw [hq]
    cases h
    exact ⟨_, rfl, rfl, hr⟩
  · cases h
theorem rr_ireturn (hK : rK K K') (hC : rC C C') (hL : cz L) (hs : cz st) (hr : rl σ τ) (h : aAct C K d k .ireturn len t a b z pc L st σ = some o) : ∃ o', aAct C' K' d k .ireturn len t a b z pc L st τ = some o' ∧ ro o o' := by
  unfold aAct at h ⊢
  try dsimp only at h ⊢
  split at h
  · rename_i hq
    try rw [hq]
    cases h
    exact ⟨_, rfl, rfl, hr⟩
  · rename_i hq
    try rw [hq]
    split at h
    · rename_i hx
      try dsimp only
      rw [if_pos hx]
      cases h
      exact ⟨_, rfl, rfl, hr⟩
    · cases h
  · rename_i hq
    try rw [hq]
    split at h
    · rename_i hx
      try dsimp only
      rw [if_pos hx]
      cases h
      exact ⟨_, rfl, rfl, hr⟩
    · cases h
  · rename_i hq
    try rw [hq]
    split at h
    · rename_i hx
      try dsimp only
      rw [if_pos hx]
      cases h
      exact ⟨_, rfl, rfl, hr⟩
    · cases h
  · cases h
theorem rr_invokestatic {n : _} (hK : rK K K') (hC : rC C C') (hL : cz L) (hs : cz st) (hr : rl σ τ) (h : aAct C K d k (.invokestatic n) len t a b z pc L st σ = some o) : ∃ o', aAct C' K' d k (.invokestatic n) len t a b z pc L st τ = some o' ∧ ro o o' := by
  unfold aAct at h ⊢
  try dsimp only at h ⊢
  split at h
  · exact aCall_rl hK hC hL hs hr h
  · exact aCall_rl hK hC hL hs hr h
  · try dsimp only at h ⊢
    split at h
    · split at h
      · rename_i hw
        rw [if_pos hw]
        exact hK _ _ _ _ _ hL (cz_t (cz_t (cz_t (cz_t (cz_t hs))))) (rl_C hr (cz_h (cz_t (cz_t (cz_t (cz_t hs))))) _ _ _ _) _ h
      · cases h
    · cases h
  · try dsimp only at h ⊢
    split at h
    · split at h
      · rename_i hw
        rw [if_pos hw]
        exact hK _ _ _ _ _ hL (cz_i (cz_t (cz_t hs))) hr _ h
      · cases h
    · cases h
  · try dsimp only at h ⊢
    split at h
    · split at h
      · rename_i hw
        rw [if_pos hw]
        exact hK _ _ _ _ _ hL (cz_i (cz_t (cz_t hs))) hr _ h
      · cases h
    · cases h
  · cases h
theorem rr_invokevirtual {n : _} (hK : rK K K') (hC : rC C C') (hL : cz L) (hs : cz st) (hr : rl σ τ) (h : aAct C K d k (.invokevirtual n) len t a b z pc L st σ = some o) : ∃ o', aAct C' K' d k (.invokevirtual n) len t a b z pc L st τ = some o' ∧ ro o o' := by
  unfold aAct at h ⊢
  try dsimp only at h ⊢
  split at h
  · split at h
    · rename_i hq
      rw [if_pos hq]
      exact aCall_rl hK hC hL hs hr h
    · cases h
  · split at h
    · rename_i hx
      try rw [hx]
      try dsimp only
      split at h
      · rename_i hq
        rw [if_pos hq]
        exact aCallH_rl hK hC hL hs hr h
      · cases h
    · cases h
  · cases h
theorem rr_invokespecial {n : _} (hK : rK K K') (hC : rC C C') (hL : cz L) (hs : cz st) (hr : rl σ τ) (h : aAct C K d k (.invokespecial n) len t a b z pc L st σ = some o) : ∃ o', aAct C' K' d k (.invokespecial n) len t a b z pc L st τ = some o' ∧ ro o o' := by
  unfold aAct at h ⊢
  try dsimp only at h ⊢
  split at h
  · split at h
    · rename_i hq
      rw [if_pos hq]
      exact aCall_rl hK hC hL hs hr h
    · cases h
  · split at h
    · rename_i hq
      rw [if_pos hq]
      exact aCall_rl hK hC hL hs hr h
    · cases h
  · try dsimp only at h ⊢
    split at h
    · split at h
      · rename_i hw
        rw [if_pos hw]
        exact hK _ _ _ _ _ hL (cz_t hs) hr _ h
      · cases h
    · cases h
  · cases h
theorem aAct_rl {i : Instr} (hK : rK K K') (hC : rC C C') (hL : cz L) (hs : cz st) (hr : rl σ τ) (ha : (∃ n, i = .ldc n ∨ i = .ldc_w n) → t = 15 → a ≠ 0) (h : aAct C K d k i len t a b z pc L st σ = some o) : ∃ o', aAct C' K' d k i len t a b z pc L st τ = some o' ∧ ro o o' := by
  cases i with
  | iconst n => exact rr_iconst hK hC hL hs hr h
  | bipush n => exact rr_bipush hK hC hL hs hr h
  | sipush n => exact rr_sipush hK hC hL hs hr h
  | lconst n => exact rr_lconst hK hC hL hs hr h
  | ldc n => exact rr_ldc hK hC hL hs hr (ha ⟨n, Or.inl rfl⟩) h
  | ldc_w n => exact rr_ldc_w hK hC hL hs hr (ha ⟨n, Or.inr rfl⟩) h
  | ldc2_w n => exact rr_ldc2_w hK hC hL hs hr h
  | iload n => exact rr_iload hK hC hL hs hr h
  | iload_n n => exact rr_iload_n hK hC hL hs hr h
  | lload n => exact rr_lload hK hC hL hs hr h
  | lload_n n => exact rr_lload_n hK hC hL hs hr h
  | aload n => exact rr_aload hK hC hL hs hr h
  | aload_n n => exact rr_aload_n hK hC hL hs hr h
  | istore n => exact rr_istore hK hC hL hs hr h
  | istore_n n => exact rr_istore_n hK hC hL hs hr h
  | astore n => exact rr_astore hK hC hL hs hr h
  | astore_n n => exact rr_astore_n hK hC hL hs hr h
  | lstore n => exact rr_lstore hK hC hL hs hr h
  | lstore_n n => exact rr_lstore_n hK hC hL hs hr h
  | iinc j n => exact rr_iinc hK hC hL hs hr h
  | iadd => exact rr_iadd hK hC hL hs hr h
  | isub => exact rr_isub hK hC hL hs hr h
  | imul => exact rr_imul hK hC hL hs hr h
  | iand => exact rr_iand hK hC hL hs hr h
  | ior => exact rr_ior hK hC hL hs hr h
  | ixor => exact rr_ixor hK hC hL hs hr h
  | ishl => exact rr_ishl hK hC hL hs hr h
  | ishr => exact rr_ishr hK hC hL hs hr h
  | iushr => exact rr_iushr hK hC hL hs hr h
  | ladd => exact rr_ladd hK hC hL hs hr h
  | lmul => exact rr_lmul hK hC hL hs hr h
  | lcmp => exact rr_lcmp hK hC hL hs hr h
  | idiv => exact rr_idiv hK hC hL hs hr h
  | irem => exact rr_irem hK hC hL hs hr h
  | ldiv => exact rr_ldiv hK hC hL hs hr h
  | lrem => exact rr_lrem hK hC hL hs hr h
  | ineg => exact rr_ineg hK hC hL hs hr h
  | l2i => exact rr_l2i hK hC hL hs hr h
  | i2b => exact rr_i2b hK hC hL hs hr h
  | i2s => exact rr_i2s hK hC hL hs hr h
  | i2c => exact rr_i2c hK hC hL hs hr h
  | i2l => exact rr_i2l hK hC hL hs hr h
  | dup => exact rr_dup hK hC hL hs hr h
  | pop => exact rr_pop hK hC hL hs hr h
  | dup_x1 => exact rr_dup_x1 hK hC hL hs hr h
  | dup2 => exact rr_dup2 hK hC hL hs hr h
  | goto n => exact rr_goto hK hC hL hs hr h
  | tableswitch df lo hi offs => exact rr_tableswitch hK hC hL hs hr h
  | lookupswitch df ps => exact rr_lookupswitch hK hC hL hs hr h
  | getfield n => exact rr_getfield hK hC hL hs hr h
  | putfield n => exact rr_putfield hK hC hL hs hr h
  | getstatic n => exact rr_getstatic hK hC hL hs hr h
  | newarray n => exact rr_newarray hK hC hL hs hr h
  | new n => exact rr_new hK hC hL hs hr h
  | arraylength => exact rr_arraylength hK hC hL hs hr h
  | iaload => exact rr_iaload hK hC hL hs hr h
  | baload => exact rr_baload hK hC hL hs hr h
  | caload => exact rr_caload hK hC hL hs hr h
  | laload => exact rr_laload hK hC hL hs hr h
  | iastore => exact rr_iastore hK hC hL hs hr h
  | castore => exact rr_castore hK hC hL hs hr h
  | lastore => exact rr_lastore hK hC hL hs hr h
  | bastore => exact rr_bastore hK hC hL hs hr h
  | return_ => exact rr_return hK hC hL hs hr h
  | lreturn => exact rr_lreturn hK hC hL hs hr h
  | ireturn => exact rr_ireturn hK hC hL hs hr h
  | invokestatic n => exact rr_invokestatic hK hC hL hs hr h
  | invokevirtual n => exact rr_invokevirtual hK hC hL hs hr h
  | invokespecial n => exact rr_invokespecial hK hC hL hs hr h
  | ifCond cd off =>
    cases cd with
    | eq => exact rr_if_eq hK hC hL hs hr h
    | ne => exact rr_if_ne hK hC hL hs hr h
    | lt => exact rr_if_lt hK hC hL hs hr h
    | ge => exact rr_if_ge hK hC hL hs hr h
    | gt => exact rr_if_gt hK hC hL hs hr h
    | le => exact rr_if_le hK hC hL hs hr h
  | if_icmp cd off =>
    cases cd with
    | eq => exact rr_icmp_eq hK hC hL hs hr h
    | ne => exact rr_icmp_ne hK hC hL hs hr h
    | lt => exact rr_icmp_lt hK hC hL hs hr h
    | ge => exact rr_icmp_ge hK hC hL hs hr h
    | gt => exact rr_icmp_gt hK hC hL hs hr h
    | le => exact rr_icmp_le hK hC hL hs hr h
  | _ => cases h
end R
/-- the strings' places aren't the script's -/
def aNo0 (e : aN) : Bool := match e.2.1 with
  | .ldc _ => (match e.2.2.2.1 with
    | 15 => !(Nat.beq e.2.2.2.2.1 0)
    | _ => true)
  | .ldc_w _ => (match e.2.2.2.1 with
    | 15 => !(Nat.beq e.2.2.2.2.1 0)
    | _ => true)
  | _ => true
set_option maxRecDepth 100000 in
theorem aNo0_all : aTab.all (fun r => r.all (fun m => m.1.all aNo0)) = true := by decide +kernel
theorem aNo0_k (k : Nat) : (aMt k).1.all aNo0 = true := by
  unfold aMt
  exact getD_all (p := fun m : aM => m.1.all aNo0) (d := ([], 0, 0, 0, 0)) rfl _ _ (getD_all (p := fun r : List aM => r.all (fun m => m.1.all aNo0)) (d := []) rfl _ _ aNo0_all)
theorem aNo0_at {k pc : Nat} {i : Instr} {len t a b : Nat} {z : Int} (hf : aFind (aMt k).1 pc = some (i, len, t, a, b, z)) : (∃ n, i = .ldc n ∨ i = .ldc_w n) → t = 15 → a ≠ 0 := by
  rintro ⟨n, rfl | rfl⟩ rfl
  · have h : (!(Nat.beq a 0)) = true := List.all_eq_true.mp (aNo0_k k) _ (aFind_mem hf)
    rintro rfl
    cases h
  · have h : (!(Nat.beq a 0)) = true := List.all_eq_true.mp (aNo0_k k) _ (aFind_mem hf)
    rintro rfl
    cases h
theorem aX_rl : ∀ (n d k pc : Nat) (L st : List Value) (σ τ : aS), cz L → cz st → rl σ τ → ∀ o, aX n d k pc L st σ = some o → ∃ o', aX n d k pc L st τ = some o' ∧ ro o o' := by
  intro n
  induction n with
  | zero => intro d k pc L st σ τ _ _ _ o h; cases h
  | succ n ih =>
    intro d k pc L st σ τ hL hs hr o h
    unfold aX aStep at h ⊢
    split at h
    · cases h
    · rename_i hf
      try rw [hf]
      exact aAct_rl (fun pc L st σ τ a b c o q => ih d k pc L st σ τ a b c o q) (fun e k as σ τ a c o q => ih e k 0 _ [] σ τ (cz_loc a _) cz_n c o q) hL hs hr (aNo0_at hf) h
