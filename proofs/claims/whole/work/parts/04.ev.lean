/-! what a step asks of calls and of later steps -/
theorem aBi_use {o : Option aO} {f : Int32 → aS → Option aO} {r : aO} (h : aBi o f = some r) : ∃ x σ, o = some (some (some (.int x)), σ) ∧ f x σ = some r := by
  unfold aBi at h
  split at h
  · exact ⟨_, _, rfl, h⟩
  · cases h
theorem aBl_use {o : Option aO} {f : Int64 → aS → Option aO} {r : aO} (h : aBl o f = some r) : ∃ x σ, o = some (some (some (.long x)), σ) ∧ f x σ = some r := by
  unfold aBl at h
  split at h
  · exact ⟨_, _, rfl, h⟩
  · cases h
theorem aBv_use {o : Option aO} {f : aS → Option aO} {r : aO} (h : aBv o f = some r) : ∃ σ, o = some (some none, σ) ∧ f σ = some r := by
  unfold aBv at h
  split at h
  · exact ⟨_, rfl, h⟩
  · cases h
theorem aHi_use {o : Option aO} {f : Int32 → aS → Option aO} {g : aS → Option aO} {r : aO} (h : aHi o f g = some r) : (∃ x σ, o = some (some (some (.int x)), σ) ∧ f x σ = some r) ∨ ∃ σ, o = some (none, σ) ∧ g σ = some r := by
  unfold aHi at h
  split at h
  · exact Or.inl ⟨_, _, rfl, h⟩
  · exact Or.inr ⟨_, rfl, h⟩
  · cases h
theorem aHl_use {o : Option aO} {f : Int64 → aS → Option aO} {g : aS → Option aO} {r : aO} (h : aHl o f g = some r) : (∃ x σ, o = some (some (some (.long x)), σ) ∧ f x σ = some r) ∨ ∃ σ, o = some (none, σ) ∧ g σ = some r := by
  unfold aHl at h
  split at h
  · exact Or.inl ⟨_, _, rfl, h⟩
  · exact Or.inr ⟨_, rfl, h⟩
  · cases h
/-- a call's answer goes onto the stack: by its kind -/
def aAns (r : Nat) (v : Option Value) (rest st : List Value) : Prop := (r = 0 ∧ v = none ∧ st = rest) ∨ (r = 2 ∧ ∃ x, v = some (.long x) ∧ st = .long x :: rest) ∨ (r ≠ 0 ∧ r ≠ 2 ∧ ∃ x, v = some (.int x) ∧ st = .int x :: rest)
theorem aRet_use {r : Nat} {o : Option aO} {rest : List Value} {K : List Value → aS → Option aO} {q : aO} (h : aRet r o rest K = some q) : ∃ v st σ, o = some (some v, σ) ∧ aAns r v rest st ∧ K st σ = some q ∧ ∀ (o' : Option aO) (K' : List Value → aS → Option aO), o' = some (some v, σ) → K' st σ = some q → aRet r o' rest K' = some q := by
  unfold aRet at h
  split at h
  · obtain ⟨σ, h1, h2⟩ := aBv_use h
    exact ⟨_, _, _, h1, Or.inl ⟨rfl, rfl, rfl⟩, h2, fun o' K' e k => by simp [aRet, aBv, e, k]⟩
  · obtain ⟨x, σ, h1, h2⟩ := aBl_use h
    exact ⟨_, _, _, h1, Or.inr (Or.inl ⟨rfl, x, rfl, rfl⟩), h2, fun o' K' e k => by simp [aRet, aBl, e, k]⟩
  · rename_i n0 n2
    obtain ⟨x, σ, h1, h2⟩ := aBi_use h
    exact ⟨_, _, _, h1, Or.inr (Or.inr ⟨n0, n2, x, rfl, rfl⟩), h2, fun o' K' e k => by simp [aRet, aBi, e, k]⟩
theorem aRetH_use {r : Nat} {o : Option aO} {rest : List Value} {K : List Value → aS → Option aO} {g : aS → Option aO} {q : aO} (h : aRetH r o rest K g = some q) : (∃ v st σ, o = some (some v, σ) ∧ aAns r v rest st ∧ K st σ = some q ∧ ∀ (o' : Option aO) (K' : List Value → aS → Option aO) (g' : aS → Option aO), o' = some (some v, σ) → K' st σ = some q → aRetH r o' rest K' g' = some q) ∨ (r ≠ 0 ∧ ∃ σ, o = some (none, σ) ∧ g σ = some q ∧ ∀ (o' : Option aO) (K' : List Value → aS → Option aO) (g' : aS → Option aO), o' = some (none, σ) → g' σ = some q → aRetH r o' rest K' g' = some q) := by
  unfold aRetH at h
  split at h
  · cases h
  · rcases aHl_use h with ⟨x, σ, h1, h2⟩ | ⟨σ, h1, h2⟩
    · exact Or.inl ⟨_, _, _, h1, Or.inr (Or.inl ⟨rfl, x, rfl, rfl⟩), h2, fun o' K' g' e k => by simp [aRetH, aHl, e, k]⟩
    · exact Or.inr ⟨by decide, σ, h1, h2, fun o' K' g' e k => by simp [aRetH, aHl, e, k]⟩
  · rename_i n0 n2
    rcases aHi_use h with ⟨x, σ, h1, h2⟩ | ⟨σ, h1, h2⟩
    · exact Or.inl ⟨_, _, _, h1, Or.inr (Or.inr ⟨n0, n2, x, rfl, rfl⟩), h2, fun o' K' g' e k => by simp [aRetH, aHi, e, k]⟩
    · exact Or.inr ⟨n0, σ, h1, h2, fun o' K' g' e k => by simp [aRetH, aHi, e, k]⟩
section UseC
variable {C : Nat → Nat → List Value → aS → Option aO} {d k k' : Nat} {st : List Value} {σ : aS} {K : List Value → aS → Option aO} {q : aO}
theorem aCall_use (h : aCall C d k k' st σ K = some q) : ∃ e v st' τ, (aMt k').2.1 ≤ st.length ∧ (aW (st.drop (aMt k').2.1) ≤ 8 ∧ aW (st.take (aMt k').2.1) ≤ (aMt k').2.2.1) ∧ aDp d k k' = some e ∧ C e k' (st.take (aMt k').2.1).reverse σ = some (some v, τ) ∧ aAns (aMt k').2.2.2.1 v (st.drop (aMt k').2.1) st' ∧ K st' τ = some q ∧
    ∀ (C' : Nat → Nat → List Value → aS → Option aO) (K' : List Value → aS → Option aO), C' e k' (st.take (aMt k').2.1).reverse σ = some (some v, τ) → K' st' τ = some q → aCall C' d k k' st σ K' = some q := by
  unfold aCall at h
  split at h
  · rename_i h1
    split at h
    · rename_i h2
      split at h
      · cases h
      · rename_i e he
        obtain ⟨v, st', τ, g1, g2, g3, g4⟩ := aRet_use h
        exact ⟨e, v, st', τ, h1, h2, he, g1, g2, g3, fun C' K' a b => by unfold aCall; rw [if_pos h1, if_pos h2, he]; exact g4 _ _ a b⟩
    · cases h
  · cases h
theorem aCallH_use {g : aS → Option aO} (h : aCallH C d k k' st σ K g = some q) : ∃ e, (aMt k').2.1 ≤ st.length ∧ (aW (st.drop (aMt k').2.1) ≤ 8 ∧ aW (st.take (aMt k').2.1) ≤ (aMt k').2.2.1) ∧ aDp d k k' = some e ∧ ((∃ v st' τ, C e k' (st.take (aMt k').2.1).reverse σ = some (some v, τ) ∧ aAns (aMt k').2.2.2.1 v (st.drop (aMt k').2.1) st' ∧ K st' τ = some q ∧
    ∀ (C' : Nat → Nat → List Value → aS → Option aO) (K' : List Value → aS → Option aO) (g' : aS → Option aO), C' e k' (st.take (aMt k').2.1).reverse σ = some (some v, τ) → K' st' τ = some q → aCallH C' d k k' st σ K' g' = some q) ∨
    (∃ τ, C e k' (st.take (aMt k').2.1).reverse σ = some (none, τ) ∧ g τ = some q ∧
    ∀ (C' : Nat → Nat → List Value → aS → Option aO) (K' : List Value → aS → Option aO) (g' : aS → Option aO), C' e k' (st.take (aMt k').2.1).reverse σ = some (none, τ) → g' τ = some q → aCallH C' d k k' st σ K' g' = some q)) := by
  unfold aCallH at h
  split at h
  · rename_i h1
    split at h
    · rename_i h2
      split at h
      · cases h
      · rename_i e he
        refine ⟨e, h1, h2, he, ?_⟩
        rcases aRetH_use h with ⟨v, st', τ, g1, g2, g3, g4⟩ | ⟨-, τ, g1, g3, g4⟩
        · exact Or.inl ⟨v, st', τ, g1, g2, g3, fun C' K' g' a b => by unfold aCallH; rw [if_pos h1, if_pos h2, he]; exact g4 _ _ _ a b⟩
        · exact Or.inr ⟨τ, g1, g3, fun C' K' g' a b => by unfold aCallH; rw [if_pos h1, if_pos h2, he]; exact g4 _ _ _ a b⟩
    · cases h
  · cases h
end UseC
def aUse (C : Nat → Nat → List Value → aS → Option aO) (K : Nat → List Value → List Value → aS → Option aO) (F : (Nat → Nat → List Value → aS → Option aO) → (Nat → List Value → List Value → aS → Option aO) → Option aO) (o : aO) : Prop :=
  (∀ C' K', F C' K' = some o) ∨ (∃ pc' L' st' σ', K pc' L' st' σ' = some o ∧ ∀ C' K', K' pc' L' st' σ' = some o → F C' K' = some o) ∨
  (∃ e k' as τ q pc' L' st' σ', C e k' as τ = some q ∧ K pc' L' st' σ' = some o ∧ ∀ C' K', C' e k' as τ = some q → K' pc' L' st' σ' = some o → F C' K' = some o)
