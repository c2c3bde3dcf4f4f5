theorem s296_39 (d : Nat) (L r : List Value) (σ : aS) {x : Int32} (h : x.toInt < 0 ∨ 48 < x.toInt) : aE d 296 39 L (.int x :: r) σ = aE d 296 1706 L r σ :=
  (aBw lc23 lc23_ok [1706] 1 _ _ _ _ _).trans (if_pos h)
/-! what no run changes: places outside of what is laid out, the bytes of byte rows -/
def aKp (σ τ : aS) : Prop :=
  (∀ a j, ¬ (aKd a < 20 ∧ j < aLn a) → τ.2.1 a j = σ.2.1 a j ∧ τ.2.2.1 a j = σ.2.2.1 a j ∧ τ.2.2.2 a j = σ.2.2.2 a j) ∧ (∀ a, aKd a = 12 → (∀ j, vp_nar .byte (σ.2.1 a j) = σ.2.1 a j) → ∀ j, vp_nar .byte (τ.2.1 a j) = τ.2.1 a j)
theorem kp_r (σ : aS) : aKp σ σ := ⟨fun _ _ _ => ⟨rfl, rfl, rfl⟩, fun _ _ h => h⟩
theorem kp_t {σ τ υ : aS} (h1 : aKp σ τ) (h2 : aKp τ υ) : aKp σ υ :=
  ⟨fun a j h => ⟨(h2.1 a j h).1.trans (h1.1 a j h).1, (h2.1 a j h).2.1.trans (h1.1 a j h).2.1, (h2.1 a j h).2.2.trans (h1.1 a j h).2.2⟩, fun a ha h => h2.2 a ha (h1.2 a ha h)⟩
theorem kp_n (σ : aS) (nm n : Nat) : aKp σ (aNew σ nm n) := ⟨fun _ _ _ => ⟨rfl, rfl, rfl⟩, fun _ _ h => h⟩
theorem kp_I {σ : aS} {o j : Nat} {x : Int32} (hk : aKd o < 20) (hj : j < aLn o) (hb : aKd o = 12 → vp_nar .byte x = x) : aKp σ (aPI σ o j x) := by
  refine ⟨fun a i h => ⟨?_, rfl, rfl⟩, fun a ha h i => ?_⟩
  · show aU σ.2.1 o j x a i = σ.2.1 a i
    unfold aU
    split
    · rename_i e
      subst e
      split
      · rename_i e
        subst e
        exact absurd ⟨hk, hj⟩ h
      · rfl
    · rfl
  · show vp_nar .byte (aU σ.2.1 o j x a i) = aU σ.2.1 o j x a i
    unfold aU
    split
    · rename_i e
      subst e
      split
      · exact hb ha
      · exact h i
    · exact h i
theorem kp_J {σ : aS} {o j : Nat} {x : Int64} (hk : aKd o < 20) (hj : j < aLn o) : aKp σ (aPJ σ o j x) := by
  refine ⟨fun a i h => ⟨rfl, ?_, rfl⟩, fun a ha h i => h i⟩
  show aU σ.2.2.1 o j x a i = σ.2.2.1 a i
  unfold aU
  split
  · rename_i e
    subst e
    split
    · rename_i e
      subst e
      exact absurd ⟨hk, hj⟩ h
    · rfl
  · rfl
theorem kp_P {σ : aS} {o j x : Nat} (hk : aKd o < 20) (hj : j < aLn o) : aKp σ (aPP σ o j x) := by
  refine ⟨fun a i h => ⟨rfl, rfl, ?_⟩, fun a ha h i => h i⟩
  show aU σ.2.2.2 o j x a i = σ.2.2.2 a i
  unfold aU
  split
  · rename_i e
    subst e
    split
    · rename_i e
      subst e
      exact absurd ⟨hk, hj⟩ h
    · rfl
  · rfl
theorem kp_C {σ : aS} {o i o' j n : Nat} (hk : aKd o' = 14) (hj : j + n ≤ aLn o') : aKp σ (aCp σ o i o' j n) := by
  refine ⟨fun a q h => ⟨?_, rfl, rfl⟩, fun a ha h q => ?_⟩
  · show (if a = o' then _ else σ.2.1 a q) = σ.2.1 a q
    split
    · rename_i e
      subst e
      split
      · rename_i e
        exact absurd ⟨by omega, by omega⟩ h
      · rfl
    · rfl
  · show vp_nar .byte (if a = o' then _ else σ.2.1 a q) = (if a = o' then _ else σ.2.1 a q)
    rw [if_neg (by rintro rfl; omega)]
    exact h q
theorem kp_b {A : Prop} {n m : Nat} (h : ¬ (A ∨ n ≤ m)) : m < n := Nat.lt_of_not_le (fun q => h (Or.inr q))
theorem kp_v (x : Int32) : vp_nar .byte (vp_nar .byte x) = vp_nar .byte x := by
  rw [vp_nar_byte x]; exact pk_vb x
/-- a field's place is one of its object's -/
def aFl (e : aN) : Bool := match e.2.1 with
  | .putfield _ => (match e.2.2.2.1 with
    | 20 => (match vwCl[e.2.2.2.2.1]? with
      | some q => decide (e.2.2.2.2.1 < 12 ∧ e.2.2.2.2.2.1 / 8 < q.2.2)
      | none => false)
    | _ => true)
  | _ => true
set_option maxRecDepth 100000 in
theorem aFl_all : aTab.all (fun r => r.all (fun m => m.1.all aFl)) = true := by decide +kernel
theorem getD_all {α : Type} {p : α → Bool} {d : α} (hd : p d = true) : ∀ (l : List α) (n : Nat), l.all p = true → p (l.getD n d) = true
  | [], _, _ => by simpa using hd
  | x :: l, 0, h => by
    rw [List.all_cons, Bool.and_eq_true] at h
    exact h.1
  | x :: l, n + 1, h => by
    rw [List.all_cons, Bool.and_eq_true] at h
    exact getD_all hd l n h.2
theorem aFl_k (k : Nat) : (aMt k).1.all aFl = true := by
  unfold aMt
  exact getD_all (p := fun m : aM => m.1.all aFl) (d := ([], 0, 0, 0, 0)) rfl _ _ (getD_all (p := fun r : List aM => r.all (fun m => m.1.all aFl)) (d := []) rfl _ _ aFl_all)
theorem aFl_at {k pc : Nat} {i : Instr} {len t a b : Nat} {z : Int} (hf : aFind (aMt k).1 pc = some (i, len, t, a, b, z)) : ∀ ix, i = .putfield ix → t = 20 → a < 12 ∧ ∀ o, aKd o = a → b / 8 < aLn o := by
  intro ix hi ht
  subst hi
  subst ht
  have h : (match vwCl[a]? with
      | some q => decide (a < 12 ∧ b / 8 < q.2.2)
      | none => false) = true := List.all_eq_true.mp (aFl_k k) _ (aFind_mem hf)
  split at h
  · rename_i q hq
    have h := of_decide_eq_true h
    refine ⟨h.1, fun o ho => ?_⟩
    subst ho
    obtain ⟨-, h68⟩ := aKd_lt (o := o) (by omega)
    obtain ⟨C, T, e⟩ := aKd_cls o h68 h.1
    rw [e] at hq
    cases hq
    exact h.2
  · cases h
set_option maxHeartbeats 4000000 in
set_option maxRecDepth 100000 in
theorem aAct_kp {C : Nat → Nat → List Value → aS → Option aO} {K : Nat → List Value → List Value → aS → Option aO} {d k : Nat} {i : Instr} {len t a b : Nat} {z : Int} {pc : Nat} {L st : List Value} {σ : aS} {o : aO}
    (hK : ∀ pc' L' st' σ', K pc' L' st' σ' = some o → aKp σ' o.2) (hC : ∀ e k' as τ q, C e k' as τ = some q → aKp τ q.2) (hF : ∀ ix, i = .putfield ix → t = 20 → a < 12 ∧ ∀ o, aKd o = a → b / 8 < aLn o) (h : aAct C K d k i len t a b z pc L st σ = some o) : aKp σ o.2 := by
  have kc : aCall C d k a st σ (fun r τ => K (pc + 3) L r τ) = some o → aKp σ o.2 := by
    intro h
    obtain ⟨e', v, st', τ, -, -, -, g1, -, g3, -⟩ := aCall_use h
    exact kp_t (hC _ _ _ _ _ g1) (hK _ _ _ _ g3)
  unfold aAct at h
  split at h
  all_goals first
    | exact hK _ _ _ _ h
    | (cases h; done)
    | skip
  all_goals (repeat' split at h)
  all_goals first
    | (cases h; done)
    | exact hK _ _ _ _ h
    | exact kc h
    | exact kp_t (kp_n _ _ _) (hK _ _ _ _ h)
    | (cases h; exact kp_r _)
    | (cases h; exact kp_n _ _ _)
    | (refine kp_t (kp_I ?_ (kp_b (by assumption)) ?_) (hK _ _ _ _ h)
       · omega
       · first | (intro q; omega) | (intro q; exact kp_v _))
    | (refine kp_t (kp_J ?_ (kp_b (by assumption))) (hK _ _ _ _ h)
       omega)
    | (obtain ⟨f1, f2⟩ := hF _ rfl rfl
       refine kp_t (kp_I ?_ (f2 _ (by assumption)) ?_) (hK _ _ _ _ h)
       · omega
       · intro q; omega)
    | (obtain ⟨f1, f2⟩ := hF _ rfl rfl
       refine kp_t (kp_P ?_ (f2 _ (by assumption))) (hK _ _ _ _ h)
       omega)
    | (rename_i q; exact kp_t (kp_C q.2.1 q.2.2.2.2.2.2.1) (hK _ _ _ _ h))
    | (rcases aCallH_use h with ⟨e, -, -, -, ⟨v, st', τ, g1, -, g3, g4⟩ | ⟨τ, g1, g3, g4⟩⟩
       · exact kp_t (hC _ _ _ _ _ g1) (hK _ _ _ _ g3)
       · exact kp_t (hC _ _ _ _ _ g1) (hK _ _ _ _ g3))
theorem aX_kp : ∀ (n d k pc : Nat) (L st : List Value) (σ : aS) (o : aO), aX n d k pc L st σ = some o → aKp σ o.2 := by
  intro n
  induction n with
  | zero => intro d k pc L st σ o h; cases h
  | succ n ih =>
    intro d k pc L st σ o h
    unfold aX aStep at h
    split at h
    · cases h
    · rename_i hf
      exact aAct_kp (fun _ _ _ _ q => ih _ _ _ _ _ _ _ q) (fun _ _ _ _ _ q => ih _ _ _ _ _ _ _ q) (aFl_at hf) h
theorem aF_kp {d k : Nat} {as : List Value} {σ : aS} {o : aO} (h : aF d k as σ = some o) : aKp σ o.2 := by
  obtain ⟨n, hn⟩ := aE_to h
  exact aX_kp _ _ _ _ _ _ _ _ hn
