/-! THE INVARIANT: AM's state and the heap -/
/-- what stays the same over the law's whole run: the tables' numbers, the classes of rows by their kind, where the new cells begin, the places ahead of them, the formatter, the script, the cells that a method found -/
abbrev aEnv : Type := va_G × (Nat → ClassId) × Nat × (Nat → Nat) × Option Nat × Nat × (Nat → Int32) × List Nat
def aA (G : aEnv) : Nat → Prop := fun q => G.2.2.1 ≤ q
def aAdr (G : aEnv) (ad : List Nat) (k : Nat) : Nat := if k < 6 then G.2.2.2.1 k else ad.getD (k - 6) 0
def aUp (G : aEnv) (ad : List Nat) (v : Value) : Value := match v with
  | .ref k => if k = 5 then va_rf G.2.2.2.2.1 else .ref (aAdr G ad k)
  | v => v
abbrev aTys (G : aEnv) : List (ClassId × FieldType) := [(G.2.1 12, .byte), (G.2.1 13, .char), (G.2.1 14, .int), (G.2.1 15, .long), (G.2.1 16, .boolean)]
def aFv (G : aEnv) (ad : List Nat) (ty : FieldType) (x : Int32) (p : Nat) : Value := match ty with
  | .int => .int x
  | .boolean => .int x
  | _ => aUp G ad (aRf p)
def aEn (G : aEnv) (ad : List Nat) (σ : aS) (i : Nat) : va_E :=
  if aKd i < 12 then .inr (aKd i, (List.range (aLn i)).map (fun j => aFv G ad ((aTyF.getD (aKd i) tyX0) j) (σ.2.1 i j) (σ.2.2.2 i j)))
  else .inl (G.2.1 (aKd i), aLn i, if aKd i = 15 then .inr (.inl (σ.2.2.1 i)) else .inl (σ.2.1 i))
def aWs (G : aEnv) (ad : List Nat) (σ : aS) : va_W := ad.mapIdx (fun i a => (a, aEn G ad σ (i + 6)))
def aStd : List Int32 := [115, 42, 49, 48, 45, 99, 42, 49, 53, 43, 40, 110, 43, 105, 41, 47, 51]
def aThg : List Int32 := [115, 99, 105, 119, 110, 111, 109, 97]
def aWf (G : aEnv) (ad : List Nat) (σ : aS) : Prop := (∀ i j, 6 ≤ i → σ.2.2.2 i j ≤ σ.1.1) ∧ (∀ i j, σ.1.1 ≤ i → σ.2.1 i j = 0 ∧ σ.2.2.1 i j = 0 ∧ σ.2.2.2 i j = 0) ∧ 6 ≤ σ.1.1 ∧ σ.2.2.2 0 0 = G.2.2.2.2.2.1 ∧ (∀ j, σ.2.1 0 j = G.2.2.2.2.2.2.1 j) ∧ (∀ j, σ.2.1 3 j = aStd.getD j 0) ∧ (∀ j, σ.2.1 4 j = aThg.getD j 0) ∧ ∃ x, ad = G.2.2.2.2.2.2.2 ++ x
def aInv (G : aEnv) (ad : List Nat) (σ : aS) (H : Heap) : Prop := ad.length + 6 = σ.1.1 ∧ va_P G.1 vwCl (aWs G ad σ) H ∧ va_D (aA G) (aWs G ad σ) ∧ aWf G ad σ
def aVk (n : Nat) (v : Value) : Prop := match v with
  | .ref k => k < n
  | .double _ => False
  | _ => True
def aLr (G : aEnv) (ad : List Nat) (n : Nat) (ls : Array Slot) (L : List Value) : Prop := ls.size = L.length ∧ lv_wf ls ∧ (∀ (i : Nat) (v : Value), L[i]? = some v → v ≠ aNo → ls[i]? = some (.val (aUp G ad v))) ∧ ∀ v ∈ L, aVk n v
theorem aKd_lt {o : Nat} (h : aKd o < 20) : 6 ≤ o ∧ o < 68 := by
  have h2 : o < 68 := by
    rcases Nat.lt_or_ge o 68 with q | q
    · exact q
    · have : aKd o = 99 := by
        unfold aKd
        rw [List.getD_eq_getElem?_getD, List.getElem?_eq_none (by exact q)]
        rfl
      omega
  have h0 : ∀ i, i < 6 → 20 ≤ aKd i := by decide +kernel
  refine ⟨?_, h2⟩
  rcases Nat.lt_or_ge o 6 with q | q
  · have := h0 o q; omega
  · exact q
theorem aKd_cls : ∀ o, o < 68 → aKd o < 12 → ∃ C T, vwCl[aKd o]? = some (C, T, aLn o) := by
  have h : ∀ o, o < 68 → aKd o < 12 → (vwCl[aKd o]?).map (fun q => q.2.2) = some (aLn o) := by decide +kernel
  intro o h1 h2
  have h3 := h o h1 h2
  cases h4 : vwCl[aKd o]? with
  | none => rw [h4] at h3; cases h3
  | some q =>
    rw [h4] at h3
    obtain ⟨C, T, N⟩ := q
    simp at h3
    subst h3
    exact ⟨C, T, rfl⟩
theorem aWs_get (G : aEnv) (ad : List Nat) (σ : aS) (n : Nat) : (aWs G ad σ)[n]? = (ad[n]?).map (fun a => (a, aEn G ad σ (n + 6))) := by
  unfold aWs
  rw [List.getElem?_mapIdx]
theorem aWs_at {G : aEnv} {ad : List Nat} {σ : aS} {o : Nat} (h6 : 6 ≤ o) (hc : o < ad.length + 6) : (aWs G ad σ)[o - 6]? = some (aAdr G ad o, aEn G ad σ o) := by
  rw [aWs_get, List.getElem?_eq_getElem (by omega : o - 6 < ad.length)]
  have : aAdr G ad o = ad[o - 6] := by
    unfold aAdr
    rw [if_neg (by omega)]
    simp [List.getD_eq_getElem?_getD, List.getElem?_eq_getElem (by omega : o - 6 < ad.length)]
  simp [this, Nat.sub_add_cancel h6]
theorem aWs_set {G : aEnv} {ad : List Nat} {σ σ' : aS} {o : Nat} {e : va_E} (h6 : 6 ≤ o) (hc : o < ad.length + 6) (he : aEn G ad σ' o = e) (hne : ∀ i, 6 ≤ i → i ≠ o → aEn G ad σ' i = aEn G ad σ i) : (aWs G ad σ).set (o - 6) (aAdr G ad o, e) = aWs G ad σ' := by
  refine List.ext_getElem? fun n => ?_
  have hl : o - 6 < (aWs G ad σ).length := by
    unfold aWs
    rw [List.length_mapIdx]
    omega
  by_cases hn : o - 6 = n
  · subst hn
    rw [List.getElem?_set_self hl, aWs_at h6 hc, he]
  · rw [List.getElem?_set_ne hn, aWs_get, aWs_get]
    cases ad[n]? with
    | none => rfl
    | some a => simp [hne (n + 6) (by omega) (by omega)]
theorem aEn_same {G : aEnv} {ad : List Nat} {σ σ' : aS} {i : Nat} (h1 : σ'.2.1 i = σ.2.1 i) (h2 : σ'.2.2.1 i = σ.2.2.1 i) (h3 : σ'.2.2.2 i = σ.2.2.2 i) : aEn G ad σ' i = aEn G ad σ i := by
  unfold aEn
  rw [h1, h2, h3]
theorem aU_ne {α : Type} {f : Nat → Nat → α} {a i b : Nat} {v : α} (h : b ≠ a) : aU f a i v b = f b := by
  funext j
  simp [aU, h]
theorem aU_row {f : Nat → Nat → Int32} {a i : Nat} {v : Int32} : aU f a i v a = upd (f a) i v := by
  funext j
  simp [aU, upd]
theorem aU_rowL {f : Nat → Nat → Int64} {a i : Nat} {v : Int64} : aU f a i v a = vp_updL (f a) i v := by
  funext j
  simp [aU, vp_updL]
theorem aMap_set {n j : Nat} {f f' : Nat → Value} {v : Value} (h : f' j = v) (hn : ∀ i, i ≠ j → f' i = f i) : (List.range n).map f' = ((List.range n).map f).set j v := by
  refine List.ext_getElem? fun i => ?_
  by_cases hi : i < n
  · by_cases hj : j = i
    · subst hj
      rw [List.getElem?_set_self (by simpa using hi)]
      simp [hi, h]
    · rw [List.getElem?_set_ne hj]
      simp [hi, hn i (fun q => hj q.symm)]
  · rw [List.getElem?_eq_none (by simp; omega), List.getElem?_eq_none (by simp; omega)]
/-- an int of a row or of an object -/
theorem aWf_PI {G : aEnv} {ad : List Nat} {σ : aS} {o j : Nat} {x : Int32} (h : aWf G ad σ) (h6 : 6 ≤ o) (hc : o < σ.1.1) : aWf G ad (aPI σ o j x) := by
  obtain ⟨w1, w2, w3, w4, w5, w6, w7, w8⟩ := h
  refine ⟨w1, fun i j' hi => ?_, w3, w4, ?_, ?_, ?_, w8⟩
  · have : (aPI σ o j x).2.1 i = σ.2.1 i := aU_ne (by have : (aPI σ o j x).1.1 = σ.1.1 := rfl; omega)
    rw [this]
    exact w2 i j' hi
  all_goals
    intro j'
    show aU σ.2.1 o j x _ j' = _
    rw [aU_ne (by omega)]
    first | exact w5 j' | exact w6 j' | exact w7 j'
theorem aWf_PJ {G : aEnv} {ad : List Nat} {σ : aS} {o j : Nat} {x : Int64} (h : aWf G ad σ) (hc : o < σ.1.1) : aWf G ad (aPJ σ o j x) := by
  obtain ⟨w1, w2, w3, w4, w5, w6, w7, w8⟩ := h
  refine ⟨w1, fun i j' hi => ?_, w3, w4, w5, w6, w7, w8⟩
  have : (aPJ σ o j x).2.2.1 i = σ.2.2.1 i := aU_ne (by have : (aPJ σ o j x).1.1 = σ.1.1 := rfl; omega)
  rw [this]
  exact w2 i j' hi
theorem aWf_PP {G : aEnv} {ad : List Nat} {σ : aS} {o j x : Nat} (h : aWf G ad σ) (h6 : 6 ≤ o) (hc : o < σ.1.1) (hx : x < σ.1.1) : aWf G ad (aPP σ o j (x + 1)) := by
  obtain ⟨w1, w2, w3, w4, w5, w6, w7, w8⟩ := h
  refine ⟨fun i j' hi => ?_, fun i j' hi => ?_, w3, ?_, w5, w6, w7, w8⟩
  · show aU σ.2.2.2 o j (x + 1) i j' ≤ σ.1.1
    unfold aU
    split
    · split
      · omega
      · exact w1 i j' hi
    · exact w1 i j' hi
  · have : (aPP σ o j (x + 1)).2.2.2 i = σ.2.2.2 i := aU_ne (by have : (aPP σ o j (x + 1)).1.1 = σ.1.1 := rfl; omega)
    rw [this]
    exact w2 i j' hi
  · show aU σ.2.2.2 o j (x + 1) 0 0 = _
    rw [aU_ne (by omega)]
    exact w4
theorem aWf_Cp {G : aEnv} {ad : List Nat} {σ : aS} {o i o' j n : Nat} (h : aWf G ad σ) (h6 : 6 ≤ o') (hc : o' < σ.1.1) : aWf G ad (aCp σ o i o' j n) := by
  obtain ⟨w1, w2, w3, w4, w5, w6, w7, w8⟩ := h
  have ne : ∀ q, q ≠ o' → (aCp σ o i o' j n).2.1 q = σ.2.1 q := fun q hq => by funext j'; simp [aCp, hq]
  refine ⟨w1, fun q j' hi => ?_, w3, w4, fun j' => ?_, fun j' => ?_, fun j' => ?_, w8⟩
  · rw [ne q (by have : (aCp σ o i o' j n).1.1 = σ.1.1 := rfl; omega)]
    exact w2 q j' hi
  · rw [ne 0 (by omega)]; exact w5 j'
  · rw [ne 3 (by omega)]; exact w6 j'
  · rw [ne 4 (by omega)]; exact w7 j'
theorem aWf_New {G : aEnv} {ad : List Nat} {σ : aS} {nm n : Nat} (y : List Nat) (h : aWf G ad σ) : aWf G (ad ++ y) (aNew σ nm n) := by
  obtain ⟨w1, w2, w3, w4, w5, w6, w7, x, w8⟩ := h
  exact ⟨fun i j hi => Nat.le_trans (w1 i j hi) (Nat.le_add_right _ _), fun i j hi => w2 i j (Nat.le_trans (Nat.le_add_right _ _) hi), Nat.le_trans w3 (Nat.le_add_right _ _), w4, w5, w6, w7, x ++ y, by rw [w8, List.append_assoc]⟩
/-- the same, for a method that is called now -/
def aG0 (G : aEnv) (ad : List Nat) : aEnv := (G.1, G.2.1, G.2.2.1, G.2.2.2.1, G.2.2.2.2.1, G.2.2.2.2.2.1, G.2.2.2.2.2.2.1, ad)
theorem aInv_in {G : aEnv} {ad : List Nat} {σ : aS} {H : Heap} (h : aInv G ad σ H) : aInv (aG0 G ad) ad σ H := by
  obtain ⟨h1, h2, h3, w1, w2, w3, w4, w5, w6, w7, -⟩ := h
  exact ⟨h1, h2, h3, w1, w2, w3, w4, w5, w6, w7, [], (List.append_nil ad).symm⟩
theorem aInv_out {G : aEnv} {ad ad' : List Nat} {σ τ : aS} {H H' : Heap} (h0 : aInv G ad σ H) (h : aInv (aG0 G ad) ad' τ H') : ∃ x, ad' = ad ++ x ∧ aInv G (ad ++ x) τ H' := by
  obtain ⟨-, -, -, -, -, -, -, -, -, -, y, hy⟩ := h0
  obtain ⟨h1, h2, h3, w1, w2, w3, w4, w5, w6, w7, x, hx⟩ := h
  have hx' : ad' = ad ++ x := hx
  subst hx'
  exact ⟨x, rfl, h1, h2, h3, w1, w2, w3, w4, w5, w6, w7, y ++ x, by rw [hy, List.append_assoc]⟩
