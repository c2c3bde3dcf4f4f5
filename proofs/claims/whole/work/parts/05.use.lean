set_option maxHeartbeats 4000000 in
set_option maxRecDepth 100000 in
theorem aAct_use {C : Nat → Nat → List Value → aS → Option aO} {K : Nat → List Value → List Value → aS → Option aO} {d k : Nat} {i : Instr} {len t a b : Nat} {z : Int} {pc : Nat} {L st : List Value} {σ : aS} {o : aO} (h : aAct C K d k i len t a b z pc L st σ = some o) :
    aUse C K (fun C' K' => aAct C' K' d k i len t a b z pc L st σ) o := by
  have kc : ∀ {i : Instr}, (aCall C d k a st σ (fun r τ => K (pc + 3) L r τ) = some o) → (∀ C' K', aAct C' K' d k i len t a b z pc L st σ = aCall C' d k a st σ (fun r τ => K' (pc + 3) L r τ)) → aUse C K (fun C' K' => aAct C' K' d k i len t a b z pc L st σ) o := by
    intro _ h e
    obtain ⟨e', v, st', τ, -, -, -, g1, -, g3, g4⟩ := aCall_use h
    exact Or.inr (Or.inr ⟨_, _, _, _, _, _, _, _, _, g1, g3, fun C' K' a b => (e C' K').trans (g4 C' _ a b)⟩)
  unfold aAct at h
  split at h
  all_goals first
    | exact Or.inr (Or.inl ⟨_, _, _, _, h, fun C' K' h' => h'⟩)
    | (cases h; done)
    | skip
  all_goals (repeat' split at h)
  all_goals first
    | (cases h; done)
    | exact Or.inl (fun C' K' => h)
    | exact Or.inr (Or.inl ⟨_, _, _, _, h, fun C' K' h' => h'⟩)
    | exact kc h (fun _ _ => rfl)
    | (rename_i hrc; exact kc h (fun _ _ => if_pos hrc))
    | exact Or.inr (Or.inl ⟨_, _, _, _, h, fun C' K' h' => by unfold aAct; simp only [*, if_true, if_false]; exact h'⟩)
    | exact Or.inr (Or.inl ⟨_, _, _, _, h, fun C' K' h' => by unfold aAct; simp only [*, if_true, if_false, not_false_eq_true, not_true_eq_false, or_true, true_or, or_self, and_self, Nat.reduceEqDiff]⟩)
    | (rename_i j q hq hj
       rcases aCallH_use h with ⟨e, -, -, -, ⟨v, st', τ, g1, -, g3, g4⟩ | ⟨τ, g1, g3, g4⟩⟩
       · exact Or.inr (Or.inr ⟨_, _, _, _, _, _, _, _, _, g1, g3, fun C' K' a b => by unfold aAct; simp only [hq, if_pos hj]; exact g4 C' _ _ a b⟩)
       · exact Or.inr (Or.inr ⟨_, _, _, _, _, _, _, _, _, g1, g3, fun C' K' a b => by unfold aAct; simp only [hq, if_pos hj]; exact g4 C' _ _ a b⟩))
    | exact Or.inl (fun C' K' => by unfold aAct; split <;> simp_all)
/-- a step over other calls and later steps that say as much -/
theorem aStep_use {C : Nat → Nat → List Value → aS → Option aO} {K : Nat → List Value → List Value → aS → Option aO} {d k pc : Nat} {L st : List Value} {σ : aS} {o : aO} (h : aStep C K d k pc L st σ = some o) :
    aUse C K (fun C' K' => aStep C' K' d k pc L st σ) o := by
  unfold aStep at h
  split at h
  · cases h
  · rename_i i len t a b z hf
    have e : ∀ C' K', aStep C' K' d k pc L st σ = aAct C' K' d k i len t a b z pc L st σ := fun C' K' => by unfold aStep; rw [hf]
    have h1 := aAct_use h
    unfold aUse at h1 ⊢
    simpa only [e] using h1
theorem aX_up : ∀ (n d k pc : Nat) (L st : List Value) (σ : aS) (o : aO), aX n d k pc L st σ = some o → aX (n + 1) d k pc L st σ = some o := by
  intro n
  induction n with
  | zero => intro d k pc L st σ o h; cases h
  | succ n ih =>
    intro d k pc L st σ o h
    unfold aX at h ⊢
    rcases aStep_use h with h | ⟨pc', L', st', σ', h1, h2⟩ | ⟨e, k', as, τ, q, pc', L', st', σ', h0, h1, h2⟩
    · exact h _ _
    · exact h2 _ _ (ih _ _ _ _ _ _ _ h1)
    · exact h2 _ _ (ih _ _ _ _ _ _ _ h0) (ih _ _ _ _ _ _ _ h1)
theorem aX_le {n m d k pc : Nat} {L st : List Value} {σ : aS} {o : aO} (hnm : n ≤ m) (h : aX n d k pc L st σ = some o) : aX m d k pc L st σ = some o := by
  induction hnm with
  | refl => exact h
  | step _ ih => exact aX_up _ _ _ _ _ _ _ _ ih
theorem aX_one {n m d k pc : Nat} {L st : List Value} {σ : aS} {o q : aO} (h : aX n d k pc L st σ = some o) (g : aX m d k pc L st σ = some q) : o = q := by
  rcases Nat.le_total n m with e | e
  · exact Option.some.inj ((aX_le e h).symm.trans g)
  · exact Option.some.inj (h.symm.trans (aX_le e g))
/-- WHAT A METHOD COMES TO from a place of it: none where it never ends, or can't go on -/
noncomputable def aE (d k pc : Nat) (L st : List Value) (σ : aS) : Option aO := @dite (Option aO) (∃ o, ∃ n, aX n d k pc L st σ = some o) (Classical.propDecidable _) (fun h => some (Classical.choose h)) (fun _ => none)
theorem aE_of {n d k pc : Nat} {L st : List Value} {σ : aS} {o : aO} (h : aX n d k pc L st σ = some o) : aE d k pc L st σ = some o := by
  have hx : ∃ o, ∃ n, aX n d k pc L st σ = some o := ⟨o, n, h⟩
  unfold aE
  rw [dif_pos hx]
  obtain ⟨m, hm⟩ := Classical.choose_spec hx
  rw [aX_one h hm]
theorem aE_to {d k pc : Nat} {L st : List Value} {σ : aS} {o : aO} (h : aE d k pc L st σ = some o) : ∃ n, aX n d k pc L st σ = some o := by
  unfold aE at h
  split at h
  · rename_i hx
    cases h
    exact Classical.choose_spec hx
  · cases h
/-- a method from its entry -/
noncomputable def aF (d k : Nat) (as : List Value) (σ : aS) : Option aO := aE d k 0 (aLoc (aMt k).2.2.1 as) [] σ
theorem aE_eq (d k pc : Nat) (L st : List Value) (σ : aS) : aE d k pc L st σ = aStep (fun e k' as τ => aF e k' as τ) (fun pc' L' st' τ => aE d k pc' L' st' τ) d k pc L st σ := by
  have up : ∀ o, aE d k pc L st σ = some o → aStep (fun e k' as τ => aF e k' as τ) (fun pc' L' st' τ => aE d k pc' L' st' τ) d k pc L st σ = some o := by
    intro o h
    obtain ⟨n, hn⟩ := aE_to h
    cases n with
    | zero => cases hn
    | succ n =>
      unfold aX at hn
      rcases aStep_use hn with h | ⟨pc', L', st', σ', h1, h2⟩ | ⟨e, k', as, τ, q, pc', L', st', σ', h0, h1, h2⟩
      · exact h _ _
      · exact h2 _ _ (aE_of h1)
      · exact h2 _ _ (aE_of h0) (aE_of h1)
  have dn : ∀ o, aStep (fun e k' as τ => aF e k' as τ) (fun pc' L' st' τ => aE d k pc' L' st' τ) d k pc L st σ = some o → aE d k pc L st σ = some o := by
    intro o h
    rcases aStep_use h with h | ⟨pc', L', st', σ', h1, h2⟩ | ⟨e, k', as, τ, q, pc', L', st', σ', h0, h1, h2⟩
    · exact aE_of (n := 1) (h _ _)
    · obtain ⟨n, hn⟩ := aE_to h1
      exact aE_of (n := n + 1) (h2 _ _ hn)
    · obtain ⟨n, hn⟩ := aE_to h1
      obtain ⟨m, hm⟩ := aE_to h0
      exact aE_of (n := n + m + 1) (h2 _ _ (aX_le (Nat.le_add_left m n) hm) (aX_le (Nat.le_add_right n m) hn))
  cases h1 : aE d k pc L st σ with
  | some o => exact (up o h1).symm
  | none =>
    cases h2 : aStep (fun e k' as τ => aF e k' as τ) (fun pc' L' st' τ => aE d k pc' L' st' τ) d k pc L st σ with
    | none => rfl
    | some o => rw [dn o h2] at h1; cases h1
/-- so many steps of it -/
noncomputable def aG : Nat → Nat → Nat → Nat → List Value → List Value → aS → Option aO
  | 0, d, k, pc, L, st, σ => aE d k pc L st σ
  | n + 1, d, k, pc, L, st, σ => aStep (fun e k' as τ => aF e k' as τ) (fun pc' L' st' τ => aG n d k pc' L' st' τ) d k pc L st σ
theorem aG_eq : ∀ (n d k pc : Nat) (L st : List Value) (σ : aS), aE d k pc L st σ = aG n d k pc L st σ := by
  intro n
  induction n with
  | zero => intros; rfl
  | succ n ih =>
    intro d k pc L st σ
    rw [aE_eq]
    unfold aG
    congr 1
    funext pc' L' st' τ
    exact ih d k pc' L' st' τ
