/-! loops whose memory is only known to keep something; switches, no case met -/
theorem lp {α S : Type} {X : Nat → α → S → Option aO} {f : Nat → α → α} (Q : Nat → α → S → Prop) : ∀ (m i : Nat) (a : α) (s : S), Q i a s → (∀ j a s, i ≤ j → j < i + m → Q j a s → ∃ s', Q (j + 1) (f j a) s' ∧ X j a s = X (j + 1) (f j a) s') → ∃ s', Q (i + m) (fo f m i a) s' ∧ X i a s = X (i + m) (fo f m i a) s' := by
  intro m
  induction m with
  | zero => intro i a s q e; exact ⟨s, q, rfl⟩
  | succ m ih =>
    intro i a s q e
    obtain ⟨s1, q1, h1⟩ := e i a s (Nat.le_refl i) (by omega) q
    obtain ⟨s2, q2, h2⟩ := ih (i + 1) (f i a) s1 q1 (fun j a s h1 h2 => e j a s (by omega) (by omega))
    rw [show i + (m + 1) = i + 1 + m by omega]
    exact ⟨s2, q2, h1.trans h2⟩
/-- .. that may stop -/
theorem lx {α β S : Type} {X : Nat → α → S → Option aO} {Y : β → S → Option aO} {f : Nat → α → Sum α β} (Q : Nat → α → S → Prop) (Z : β → S → Prop) : ∀ (m i : Nat) (a : α) (s : S), Q i a s → (∀ j a s, i ≤ j → j < i + m → Q j a s → match f j a with
      | .inl a' => ∃ s', Q (j + 1) a' s' ∧ X j a s = X (j + 1) a' s'
      | .inr b => ∃ s', Z b s' ∧ X j a s = Y b s') → match fx f m i a with
      | .inl a' => ∃ s', Q (i + m) a' s' ∧ X i a s = X (i + m) a' s'
      | .inr b => ∃ s', Z b s' ∧ X i a s = Y b s' := by
  intro m
  induction m with
  | zero => intro i a s q e; exact ⟨s, q, rfl⟩
  | succ m ih =>
    intro i a s q e
    have h0 := e i a s (Nat.le_refl i) (by omega) q
    unfold fx
    cases hf : f i a with
    | inl a' =>
      simp only [hf] at h0 ⊢
      obtain ⟨s1, q1, h1⟩ := h0
      have h2 := ih (i + 1) a' s1 q1 (fun j a s h1 h2 => e j a s (by omega) (by omega))
      cases hx : fx f m (i + 1) a' with
      | inl b =>
        simp only [hx] at h2 ⊢
        obtain ⟨s2, q2, h2⟩ := h2
        exact ⟨s2, by rw [show i + (m + 1) = i + 1 + m by omega]; exact q2, by rw [h1, h2, show i + (m + 1) = i + 1 + m by omega]⟩
      | inr b =>
        simp only [hx] at h2 ⊢
        obtain ⟨s2, q2, h2⟩ := h2
        exact ⟨s2, q2, h1.trans h2⟩
    | inr b =>
      simp only [hf] at h0 ⊢
      exact h0
theorem s39_1 (d : Nat) (L r : List Value) (σ : aS) {x : Int32} (h : x ≠ 42 ∧ x ≠ 43 ∧ x ≠ 45 ∧ x ≠ 47 ∧ x ≠ 60 ∧ x ≠ 61 ∧ x ≠ 62 ∧ x ≠ 256) : aE d 39 1 L (.int x :: r) σ = aE d 39 84 L r σ := by
  have e : ∀ k : Int32, x ≠ k → x.toInt ≠ k.toInt := fun k h q => h (Int32.toInt_inj.mp q)
  obtain ⟨h0, h1, h2, h3, h4, h5, h6, h7⟩ := h
  refine (aE_eq _ _ _ _ _ _).trans ?_
  have q : Op.lookupswitch.offset [(42, 79), (43, 77), (45, 77), (47, 79), (60, 75), (61, 75), (62, 75), (256, 81)] 83 x.toInt = 83 := by
    simp only [Op.lookupswitch.offset_cons, if_false, show (42 = x.toInt) = False from eq_false (fun q => e _ h0 q.symm), show (x.toInt = 42) = False from eq_false (e _ h0), show (43 = x.toInt) = False from eq_false (fun q => e _ h1 q.symm), show (x.toInt = 43) = False from eq_false (e _ h1), show (45 = x.toInt) = False from eq_false (fun q => e _ h2 q.symm), show (x.toInt = 45) = False from eq_false (e _ h2), show (47 = x.toInt) = False from eq_false (fun q => e _ h3 q.symm), show (x.toInt = 47) = False from eq_false (e _ h3), show (60 = x.toInt) = False from eq_false (fun q => e _ h4 q.symm), show (x.toInt = 60) = False from eq_false (e _ h4), show (61 = x.toInt) = False from eq_false (fun q => e _ h5 q.symm), show (x.toInt = 61) = False from eq_false (e _ h5), show (62 = x.toInt) = False from eq_false (fun q => e _ h6 q.symm), show (x.toInt = 62) = False from eq_false (e _ h6), show (256 = x.toInt) = False from eq_false (fun q => e _ h7 q.symm), show (x.toInt = 256) = False from eq_false (e _ h7)]
    rfl
  show aE d 39 (aTgt 1 (Op.lookupswitch.offset [(42, 79), (43, 77), (45, 77), (47, 79), (60, 75), (61, 75), (62, 75), (256, 81)] 83 x.toInt)) L r σ = _
  rw [q]
  rfl
theorem s74_1 (d : Nat) (L r : List Value) (σ : aS) {x : Int32} (h : x ≠ 42 ∧ x ≠ 43 ∧ x ≠ 45 ∧ x ≠ 60 ∧ x ≠ 61 ∧ x ≠ 62) : aE d 74 1 L (.int x :: r) σ = aE d 74 105 L r σ := by
  have e : ∀ k : Int32, x ≠ k → x.toInt ≠ k.toInt := fun k h q => h (Int32.toInt_inj.mp q)
  obtain ⟨h0, h1, h2, h3, h4, h5⟩ := h
  refine (aE_eq _ _ _ _ _ _).trans ?_
  have q : Op.lookupswitch.offset [(42, 100), (43, 92), (45, 96), (60, 59), (61, 81), (62, 70)] 104 x.toInt = 104 := by
    simp only [Op.lookupswitch.offset_cons, if_false, show (42 = x.toInt) = False from eq_false (fun q => e _ h0 q.symm), show (x.toInt = 42) = False from eq_false (e _ h0), show (43 = x.toInt) = False from eq_false (fun q => e _ h1 q.symm), show (x.toInt = 43) = False from eq_false (e _ h1), show (45 = x.toInt) = False from eq_false (fun q => e _ h2 q.symm), show (x.toInt = 45) = False from eq_false (e _ h2), show (60 = x.toInt) = False from eq_false (fun q => e _ h3 q.symm), show (x.toInt = 60) = False from eq_false (e _ h3), show (61 = x.toInt) = False from eq_false (fun q => e _ h4 q.symm), show (x.toInt = 61) = False from eq_false (e _ h4), show (62 = x.toInt) = False from eq_false (fun q => e _ h5 q.symm), show (x.toInt = 62) = False from eq_false (e _ h5)]
    rfl
  show aE d 74 (aTgt 1 (Op.lookupswitch.offset [(42, 100), (43, 92), (45, 96), (60, 59), (61, 81), (62, 70)] 104 x.toInt)) L r σ = _
  rw [q]
  rfl
theorem s103_45 (d : Nat) (L r : List Value) (σ : aS) {x : Int32} (h : x.toInt < 98 ∨ 115 < x.toInt) : aE d 103 45 L (.int x :: r) σ = aE d 103 233 L r σ :=
  (aE_eq _ _ _ _ _ _).trans (if_pos h)
theorem s104_46 (d : Nat) (L r : List Value) (σ : aS) {x : Int32} (h : x.toInt < 98 ∨ 115 < x.toInt) : aE d 104 46 L (.int x :: r) σ = aE d 104 237 L r σ :=
  (aE_eq _ _ _ _ _ _).trans (if_pos h)
theorem s149_1 (d : Nat) (L r : List Value) (σ : aS) {x : Int32} (h : x.toInt < 0 ∨ 4 < x.toInt) : aE d 149 1 L (.int x :: r) σ = aE d 149 47 L r σ :=
  (aE_eq _ _ _ _ _ _).trans (if_pos h)
theorem s155_1 (d : Nat) (L r : List Value) (σ : aS) {x : Int32} (h : x.toInt < 0 ∨ 3 < x.toInt) : aE d 155 1 L (.int x :: r) σ = aE d 155 108 L r σ :=
  (aE_eq _ _ _ _ _ _).trans (if_pos h)
theorem s168_1 (d : Nat) (L r : List Value) (σ : aS) {x : Int32} (h : x.toInt < 0 ∨ 11 < x.toInt) : aE d 168 1 L (.int x :: r) σ = aE d 168 189 L r σ :=
  (aE_eq _ _ _ _ _ _).trans (if_pos h)
theorem s169_20 (d : Nat) (L r : List Value) (σ : aS) {x : Int32} (h : x.toInt < 0 ∨ 4 < x.toInt) : aE d 169 20 L (.int x :: r) σ = aE d 169 111 L r σ :=
  (aE_eq _ _ _ _ _ _).trans (if_pos h)
theorem s171_24 (d : Nat) (L r : List Value) (σ : aS) {x : Int32} (h : x.toInt < 0 ∨ 3 < x.toInt) : aE d 171 24 L (.int x :: r) σ = aE d 171 96 L r σ :=
  (aE_eq _ _ _ _ _ _).trans (if_pos h)
theorem s173_16 (d : Nat) (L r : List Value) (σ : aS) {x : Int32} (h : x.toInt < 0 ∨ 5 < x.toInt) : aE d 173 16 L (.int x :: r) σ = aE d 173 121 L r σ :=
  (aE_eq _ _ _ _ _ _).trans (if_pos h)
theorem s245_1 (d : Nat) (L r : List Value) (σ : aS) {x : Int32} (h : x ≠ 98 ∧ x ≠ 99 ∧ x ≠ 100 ∧ x ≠ 103 ∧ x ≠ 114) : aE d 245 1 L (.int x :: r) σ = aE d 245 156 L r σ := by
  have e : ∀ k : Int32, x ≠ k → x.toInt ≠ k.toInt := fun k h q => h (Int32.toInt_inj.mp q)
  obtain ⟨h0, h1, h2, h3, h4⟩ := h
  refine (aE_eq _ _ _ _ _ _).trans ?_
  have q : Op.lookupswitch.offset [(98, 71), (99, 98), (100, 120), (103, 137), (114, 51)] 155 x.toInt = 155 := by
    simp only [Op.lookupswitch.offset_cons, if_false, show (98 = x.toInt) = False from eq_false (fun q => e _ h0 q.symm), show (x.toInt = 98) = False from eq_false (e _ h0), show (99 = x.toInt) = False from eq_false (fun q => e _ h1 q.symm), show (x.toInt = 99) = False from eq_false (e _ h1), show (100 = x.toInt) = False from eq_false (fun q => e _ h2 q.symm), show (x.toInt = 100) = False from eq_false (e _ h2), show (103 = x.toInt) = False from eq_false (fun q => e _ h3 q.symm), show (x.toInt = 103) = False from eq_false (e _ h3), show (114 = x.toInt) = False from eq_false (fun q => e _ h4 q.symm), show (x.toInt = 114) = False from eq_false (e _ h4)]
    rfl
  show aE d 245 (aTgt 1 (Op.lookupswitch.offset [(98, 71), (99, 98), (100, 120), (103, 137), (114, 51)] 155 x.toInt)) L r σ = _
  rw [q]
  rfl
theorem s281_1 (d : Nat) (L r : List Value) (σ : aS) {x : Int32} (h : x.toInt < 0 ∨ 3 < x.toInt) : aE d 281 1 L (.int x :: r) σ = aE d 281 107 L r σ :=
  (aE_eq _ _ _ _ _ _).trans (if_pos h)
theorem s293_6 (d : Nat) (L r : List Value) (σ : aS) {x : Int32} (h : x.toInt < 0 ∨ 11 < x.toInt) : aE d 293 6 L (.int x :: r) σ = aE d 293 154 L r σ :=
  (aE_eq _ _ _ _ _ _).trans (if_pos h)
