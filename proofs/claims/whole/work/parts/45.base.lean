/-! folds and loops; small ints -/
def fo {α : Type} (f : Nat → α → α) : Nat → Nat → α → α
  | 0, _, a => a
  | m + 1, i, a => fo f m (i + 1) (f i a)
theorem fo_congr {α : Type} {f h : Nat → α → α} : ∀ (m i : Nat) (a : α), (∀ j a, i ≤ j → j < i + m → f j a = h j a) → fo f m i a = fo h m i a := by
  intro m
  induction m with
  | zero => intro i a e; rfl
  | succ m ih =>
    intro i a e
    show fo f m (i + 1) (f i a) = fo h m (i + 1) (h i a)
    rw [e i a (Nat.le_refl i) (by omega)]
    exact ih (i + 1) _ (fun j a h1 h2 => e j a (by omega) (by omega))
theorem fo_inv {α : Type} (P : Nat → α → Prop) {f : Nat → α → α} : ∀ (m i : Nat) (a : α), P i a → (∀ j a, i ≤ j → j < i + m → P j a → P (j + 1) (f j a)) → P (i + m) (fo f m i a) := by
  intro m
  induction m with
  | zero => intro i a h e; exact h
  | succ m ih =>
    intro i a h e
    show P (i + (m + 1)) (fo f m (i + 1) (f i a))
    rw [show i + (m + 1) = i + 1 + m by omega]
    exact ih (i + 1) _ (e i a (Nat.le_refl i) (by omega) h) (fun j a h1 h2 => e j a (by omega) (by omega))
theorem fo_rel {α β : Type} (P : Nat → α → β → Prop) {f : Nat → α → α} {h : Nat → β → β} : ∀ (m i : Nat) (a : α) (b : β), P i a b → (∀ j a b, i ≤ j → j < i + m → P j a b → P (j + 1) (f j a) (h j b)) → P (i + m) (fo f m i a) (fo h m i b) := by
  intro m
  induction m with
  | zero => intro i a b h e; exact h
  | succ m ih =>
    intro i a b h0 e
    show P (i + (m + 1)) (fo f m (i + 1) (f i a)) (fo h m (i + 1) (h i b))
    rw [show i + (m + 1) = i + 1 + m by omega]
    exact ih (i + 1) _ _ (e i a b (Nat.le_refl i) (by omega) h0) (fun j a b h1 h2 => e j a b (by omega) (by omega))
/-- a loop of the machine as a fold; w: what is in locals that nobody reads -/
theorem fo_run {α W : Type} {X : Nat → α → W → Option aO} {f : Nat → α → α} : ∀ (m i : Nat) (a : α) (w : W), (∀ j a w, i ≤ j → j < i + m → ∃ w', X j a w = X (j + 1) (f j a) w') → ∃ w', X i a w = X (i + m) (fo f m i a) w' := by
  intro m
  induction m with
  | zero => intro i a w e; exact ⟨w, rfl⟩
  | succ m ih =>
    intro i a w e
    obtain ⟨w1, h1⟩ := e i a w (Nat.le_refl i) (by omega)
    obtain ⟨w2, h2⟩ := ih (i + 1) (f i a) w1 (fun j a w h1 h2 => e j a w (by omega) (by omega))
    refine ⟨w2, ?_⟩
    rw [h1, h2, show i + (m + 1) = i + 1 + m by omega]
    rfl
theorem fo_go {α : Type} {X : Nat → α → Option aO} {f : Nat → α → α} (m i : Nat) (a : α) (h : ∀ j a, i ≤ j → j < i + m → X j a = X (j + 1) (f j a)) : X i a = X (i + m) (fo f m i a) := by
  obtain ⟨_, e⟩ := fo_run (X := fun i a (_ : Unit) => X i a) (f := f) m i a () (fun j a w h1 h2 => ⟨(), h j a h1 h2⟩)
  exact e
/-- .. with something that holds at each turn -/
theorem fo_runP {α W : Type} {X : Nat → α → W → Option aO} {f : Nat → α → α} (P : Nat → α → Prop) : ∀ (m i : Nat) (a : α) (w : W), P i a → (∀ j a w, i ≤ j → j < i + m → P j a → P (j + 1) (f j a) ∧ ∃ w', X j a w = X (j + 1) (f j a) w') → P (i + m) (fo f m i a) ∧ ∃ w', X i a w = X (i + m) (fo f m i a) w' := by
  intro m
  induction m with
  | zero => intro i a w p e; exact ⟨p, w, rfl⟩
  | succ m ih =>
    intro i a w p e
    obtain ⟨p1, w1, h1⟩ := e i a w (Nat.le_refl i) (by omega) p
    obtain ⟨p2, w2, h2⟩ := ih (i + 1) (f i a) w1 p1 (fun j a w h1 h2 => e j a w (by omega) (by omega))
    rw [show i + (m + 1) = i + 1 + m by omega]
    exact ⟨p2, w2, h1.trans h2⟩
/-- a fold that may stop -/
def fx {α β : Type} (f : Nat → α → Sum α β) : Nat → Nat → α → Sum α β
  | 0, _, a => .inl a
  | m + 1, i, a => match f i a with
    | .inl a' => fx f m (i + 1) a'
    | .inr b => .inr b
theorem fx_run {α β W : Type} {X : Nat → α → W → Option aO} {Y : β → Option aO} {f : Nat → α → Sum α β} : ∀ (m i : Nat) (a : α) (w : W), (∀ j a w, i ≤ j → j < i + m → match f j a with
      | .inl a' => ∃ w', X j a w = X (j + 1) a' w'
      | .inr b => X j a w = Y b) → match fx f m i a with
      | .inl a' => ∃ w', X i a w = X (i + m) a' w'
      | .inr b => X i a w = Y b := by
  intro m
  induction m with
  | zero => intro i a w e; exact ⟨w, rfl⟩
  | succ m ih =>
    intro i a w e
    have h0 := e i a w (Nat.le_refl i) (by omega)
    unfold fx
    split at h0
    · rename_i a' ha
      obtain ⟨w1, h1⟩ := h0
      have h2 := ih (i + 1) a' w1 (fun j a w h1 h2 => e j a w (by omega) (by omega))
      split at h2
      · rename_i b hb
        obtain ⟨w2, h2⟩ := h2
        exact ⟨w2, by rw [h1, h2, show i + (m + 1) = i + 1 + m by omega]⟩
      · exact h1.trans h2
    · exact h0
theorem fx_congr {α β : Type} {f h : Nat → α → Sum α β} : ∀ (m i : Nat) (a : α), (∀ j a, i ≤ j → j < i + m → f j a = h j a) → fx f m i a = fx h m i a := by
  intro m
  induction m with
  | zero => intro i a e; rfl
  | succ m ih =>
    intro i a e
    unfold fx
    rw [e i a (Nat.le_refl i) (by omega)]
    split
    · exact ih (i + 1) _ (fun j a h1 h2 => e j a (by omega) (by omega))
    · rfl
theorem nIle_t {a b : Nat} (h : a ≤ b) (hb : b < 2 ^ 31) : (nI a ≤ nI b) = True := eq_true (nI_le h hb)
theorem nIle_f {a b : Nat} (h : b < a) (hb : a < 2 ^ 31) : (nI a ≤ nI b) = False := eq_false (nI_ge h hb)
theorem nIlt_t {a b : Nat} (h : a < b) (hb : b < 2 ^ 31) : (nI a < nI b) = True := eq_true (nI_lt h hb)
theorem nIlt_f {a b : Nat} (h : b ≤ a) (hb : a < 2 ^ 31) : (nI a < nI b) = False := eq_false (nI_nlt h hb)
theorem nIeq_t {a b : Nat} (h : a = b) : (nI a = nI b) = True := eq_true (congrArg nI h)
theorem nIeq_f {a b : Nat} (h : a ≠ b) (ha : a < 2 ^ 31) (hb : b < 2 ^ 31) : (nI a = nI b) = False := eq_false (fun e => h ((nI_eq ha hb).mp e))
theorem nIneg {a : Nat} (h : a < 2 ^ 31) : (nI a < 0) = False := eq_false (nI_pos h)
theorem nat_le_f {a b : Nat} (h : b < a) : (a ≤ b) = False := eq_false (by omega)
theorem nat_le_t {a b : Nat} (h : a ≤ b) : (a ≤ b) = True := eq_true h
theorem nat_lt_f {a b : Nat} (h : b ≤ a) : (a < b) = False := eq_false (by omega)
theorem nat_lt_t {a b : Nat} (h : a < b) : (a < b) = True := eq_true h
theorem nIm2 (a : Nat) : 2 * nI a = nI (2 * a) := pk_mul 2 a
theorem nIm3 (a : Nat) : 3 * nI a = nI (3 * a) := pk_mul 3 a
theorem nIm4 (a : Nat) : 4 * nI a = nI (4 * a) := pk_mul 4 a
theorem nIm5 (a : Nat) : 5 * nI a = nI (5 * a) := pk_mul 5 a
theorem nIm10 (a : Nat) : 10 * nI a = nI (10 * a) := pk_mul 10 a
theorem nIm32 (a : Nat) : 32 * nI a = nI (32 * a) := pk_mul 32 a
theorem nIm39 (a : Nat) : 39 * nI a = nI (39 * a) := pk_mul 39 a
theorem nIp2 (a : Nat) : 2 + nI a = nI (2 + a) := nI_add 2 a
theorem nIq2 (a : Nat) : nI a + 2 = nI (a + 2) := nI_add a 2
theorem nIp3 (a : Nat) : 3 + nI a = nI (3 + a) := nI_add 3 a
theorem nIq3 (a : Nat) : nI a + 3 = nI (a + 3) := nI_add a 3
theorem nIp4 (a : Nat) : 4 + nI a = nI (4 + a) := nI_add 4 a
theorem nIq4 (a : Nat) : nI a + 4 = nI (a + 4) := nI_add a 4
theorem nIp6 (a : Nat) : 6 + nI a = nI (6 + a) := nI_add 6 a
theorem nIq6 (a : Nat) : nI a + 6 = nI (a + 6) := nI_add a 6
theorem nIp8 (a : Nat) : 8 + nI a = nI (8 + a) := nI_add 8 a
theorem nIq8 (a : Nat) : nI a + 8 = nI (a + 8) := nI_add a 8
theorem nIp14 (a : Nat) : 14 + nI a = nI (14 + a) := nI_add 14 a
theorem nIq14 (a : Nat) : nI a + 14 = nI (a + 14) := nI_add a 14
theorem nIp16 (a : Nat) : 16 + nI a = nI (16 + a) := nI_add 16 a
theorem nIq16 (a : Nat) : nI a + 16 = nI (a + 16) := nI_add a 16
theorem nIp22 (a : Nat) : 22 + nI a = nI (22 + a) := nI_add 22 a
theorem nIq22 (a : Nat) : nI a + 22 = nI (a + 22) := nI_add a 22
theorem nIp24 (a : Nat) : 24 + nI a = nI (24 + a) := nI_add 24 a
theorem nIq24 (a : Nat) : nI a + 24 = nI (a + 24) := nI_add a 24
theorem nIp30 (a : Nat) : 30 + nI a = nI (30 + a) := nI_add 30 a
theorem nIq30 (a : Nat) : nI a + 30 = nI (a + 30) := nI_add a 30
theorem kgf1 {i : Nat} (h : i < 1) : ((1 : Int32) ≤ nI i) = False := eq_false (nI_ge (b := 1) h (by decide))
theorem kgt1 {i : Nat} (h : 1 ≤ i) (h2 : i < 2 ^ 31) : ((1 : Int32) ≤ nI i) = True := eq_true (nI_le (a := 1) h h2)
theorem klt1 {i : Nat} (h : i < 1) : (nI i < (1 : Int32)) = True := eq_true (nI_lt (b := 1) h (by decide))
theorem klf1 {i : Nat} (h : 1 ≤ i) (h2 : i < 2 ^ 31) : (nI i < (1 : Int32)) = False := eq_false (nI_nlt (b := 1) h h2)
theorem kmt1 {i : Nat} (h : 1 < i) (h2 : i < 2 ^ 31) : ((1 : Int32) < nI i) = True := eq_true (nI_lt (a := 1) h h2)
theorem kmf1 {i : Nat} (h : i ≤ 1) : ((1 : Int32) < nI i) = False := eq_false (nI_nlt (a := 1) h (by decide))
theorem kat1 {i : Nat} (h : i ≤ 1) : (nI i ≤ (1 : Int32)) = True := eq_true (nI_le (b := 1) h (by decide))
theorem kaf1 {i : Nat} (h : 1 < i) (h2 : i < 2 ^ 31) : (nI i ≤ (1 : Int32)) = False := eq_false (nI_ge (a := 1) h h2)
theorem ket1 {i : Nat} (h : i = 1) : (nI i = (1 : Int32)) = True := eq_true (congrArg nI h)
theorem kef1 {i : Nat} (h : i ≠ 1) (h2 : i < 2 ^ 31) : (nI i = (1 : Int32)) = False := eq_false (fun e => h ((nI_eq h2 (by decide)).mp e))
theorem kgf2 {i : Nat} (h : i < 2) : ((2 : Int32) ≤ nI i) = False := eq_false (nI_ge (b := 2) h (by decide))
theorem kgt2 {i : Nat} (h : 2 ≤ i) (h2 : i < 2 ^ 31) : ((2 : Int32) ≤ nI i) = True := eq_true (nI_le (a := 2) h h2)
theorem klt2 {i : Nat} (h : i < 2) : (nI i < (2 : Int32)) = True := eq_true (nI_lt (b := 2) h (by decide))
theorem klf2 {i : Nat} (h : 2 ≤ i) (h2 : i < 2 ^ 31) : (nI i < (2 : Int32)) = False := eq_false (nI_nlt (b := 2) h h2)
theorem kmt2 {i : Nat} (h : 2 < i) (h2 : i < 2 ^ 31) : ((2 : Int32) < nI i) = True := eq_true (nI_lt (a := 2) h h2)
theorem kmf2 {i : Nat} (h : i ≤ 2) : ((2 : Int32) < nI i) = False := eq_false (nI_nlt (a := 2) h (by decide))
theorem kat2 {i : Nat} (h : i ≤ 2) : (nI i ≤ (2 : Int32)) = True := eq_true (nI_le (b := 2) h (by decide))
theorem kaf2 {i : Nat} (h : 2 < i) (h2 : i < 2 ^ 31) : (nI i ≤ (2 : Int32)) = False := eq_false (nI_ge (a := 2) h h2)
theorem ket2 {i : Nat} (h : i = 2) : (nI i = (2 : Int32)) = True := eq_true (congrArg nI h)
theorem kef2 {i : Nat} (h : i ≠ 2) (h2 : i < 2 ^ 31) : (nI i = (2 : Int32)) = False := eq_false (fun e => h ((nI_eq h2 (by decide)).mp e))
theorem kgf3 {i : Nat} (h : i < 3) : ((3 : Int32) ≤ nI i) = False := eq_false (nI_ge (b := 3) h (by decide))
theorem kgt3 {i : Nat} (h : 3 ≤ i) (h2 : i < 2 ^ 31) : ((3 : Int32) ≤ nI i) = True := eq_true (nI_le (a := 3) h h2)
theorem klt3 {i : Nat} (h : i < 3) : (nI i < (3 : Int32)) = True := eq_true (nI_lt (b := 3) h (by decide))
theorem klf3 {i : Nat} (h : 3 ≤ i) (h2 : i < 2 ^ 31) : (nI i < (3 : Int32)) = False := eq_false (nI_nlt (b := 3) h h2)
theorem kmt3 {i : Nat} (h : 3 < i) (h2 : i < 2 ^ 31) : ((3 : Int32) < nI i) = True := eq_true (nI_lt (a := 3) h h2)
theorem kmf3 {i : Nat} (h : i ≤ 3) : ((3 : Int32) < nI i) = False := eq_false (nI_nlt (a := 3) h (by decide))
theorem kat3 {i : Nat} (h : i ≤ 3) : (nI i ≤ (3 : Int32)) = True := eq_true (nI_le (b := 3) h (by decide))
theorem kaf3 {i : Nat} (h : 3 < i) (h2 : i < 2 ^ 31) : (nI i ≤ (3 : Int32)) = False := eq_false (nI_ge (a := 3) h h2)
theorem ket3 {i : Nat} (h : i = 3) : (nI i = (3 : Int32)) = True := eq_true (congrArg nI h)
theorem kef3 {i : Nat} (h : i ≠ 3) (h2 : i < 2 ^ 31) : (nI i = (3 : Int32)) = False := eq_false (fun e => h ((nI_eq h2 (by decide)).mp e))
theorem kgf4 {i : Nat} (h : i < 4) : ((4 : Int32) ≤ nI i) = False := eq_false (nI_ge (b := 4) h (by decide))
theorem kgt4 {i : Nat} (h : 4 ≤ i) (h2 : i < 2 ^ 31) : ((4 : Int32) ≤ nI i) = True := eq_true (nI_le (a := 4) h h2)
theorem klt4 {i : Nat} (h : i < 4) : (nI i < (4 : Int32)) = True := eq_true (nI_lt (b := 4) h (by decide))
theorem klf4 {i : Nat} (h : 4 ≤ i) (h2 : i < 2 ^ 31) : (nI i < (4 : Int32)) = False := eq_false (nI_nlt (b := 4) h h2)
theorem kmt4 {i : Nat} (h : 4 < i) (h2 : i < 2 ^ 31) : ((4 : Int32) < nI i) = True := eq_true (nI_lt (a := 4) h h2)
theorem kmf4 {i : Nat} (h : i ≤ 4) : ((4 : Int32) < nI i) = False := eq_false (nI_nlt (a := 4) h (by decide))
theorem kat4 {i : Nat} (h : i ≤ 4) : (nI i ≤ (4 : Int32)) = True := eq_true (nI_le (b := 4) h (by decide))
theorem kaf4 {i : Nat} (h : 4 < i) (h2 : i < 2 ^ 31) : (nI i ≤ (4 : Int32)) = False := eq_false (nI_ge (a := 4) h h2)
theorem ket4 {i : Nat} (h : i = 4) : (nI i = (4 : Int32)) = True := eq_true (congrArg nI h)
theorem kef4 {i : Nat} (h : i ≠ 4) (h2 : i < 2 ^ 31) : (nI i = (4 : Int32)) = False := eq_false (fun e => h ((nI_eq h2 (by decide)).mp e))
theorem kgf5 {i : Nat} (h : i < 5) : ((5 : Int32) ≤ nI i) = False := eq_false (nI_ge (b := 5) h (by decide))
theorem kgt5 {i : Nat} (h : 5 ≤ i) (h2 : i < 2 ^ 31) : ((5 : Int32) ≤ nI i) = True := eq_true (nI_le (a := 5) h h2)
theorem klt5 {i : Nat} (h : i < 5) : (nI i < (5 : Int32)) = True := eq_true (nI_lt (b := 5) h (by decide))
theorem klf5 {i : Nat} (h : 5 ≤ i) (h2 : i < 2 ^ 31) : (nI i < (5 : Int32)) = False := eq_false (nI_nlt (b := 5) h h2)
theorem kmt5 {i : Nat} (h : 5 < i) (h2 : i < 2 ^ 31) : ((5 : Int32) < nI i) = True := eq_true (nI_lt (a := 5) h h2)
theorem kmf5 {i : Nat} (h : i ≤ 5) : ((5 : Int32) < nI i) = False := eq_false (nI_nlt (a := 5) h (by decide))
theorem kat5 {i : Nat} (h : i ≤ 5) : (nI i ≤ (5 : Int32)) = True := eq_true (nI_le (b := 5) h (by decide))
theorem kaf5 {i : Nat} (h : 5 < i) (h2 : i < 2 ^ 31) : (nI i ≤ (5 : Int32)) = False := eq_false (nI_ge (a := 5) h h2)
theorem ket5 {i : Nat} (h : i = 5) : (nI i = (5 : Int32)) = True := eq_true (congrArg nI h)
theorem kef5 {i : Nat} (h : i ≠ 5) (h2 : i < 2 ^ 31) : (nI i = (5 : Int32)) = False := eq_false (fun e => h ((nI_eq h2 (by decide)).mp e))
theorem kgf7 {i : Nat} (h : i < 7) : ((7 : Int32) ≤ nI i) = False := eq_false (nI_ge (b := 7) h (by decide))
theorem kgt7 {i : Nat} (h : 7 ≤ i) (h2 : i < 2 ^ 31) : ((7 : Int32) ≤ nI i) = True := eq_true (nI_le (a := 7) h h2)
theorem klt7 {i : Nat} (h : i < 7) : (nI i < (7 : Int32)) = True := eq_true (nI_lt (b := 7) h (by decide))
theorem klf7 {i : Nat} (h : 7 ≤ i) (h2 : i < 2 ^ 31) : (nI i < (7 : Int32)) = False := eq_false (nI_nlt (b := 7) h h2)
theorem kmt7 {i : Nat} (h : 7 < i) (h2 : i < 2 ^ 31) : ((7 : Int32) < nI i) = True := eq_true (nI_lt (a := 7) h h2)
theorem kmf7 {i : Nat} (h : i ≤ 7) : ((7 : Int32) < nI i) = False := eq_false (nI_nlt (a := 7) h (by decide))
theorem kat7 {i : Nat} (h : i ≤ 7) : (nI i ≤ (7 : Int32)) = True := eq_true (nI_le (b := 7) h (by decide))
theorem kaf7 {i : Nat} (h : 7 < i) (h2 : i < 2 ^ 31) : (nI i ≤ (7 : Int32)) = False := eq_false (nI_ge (a := 7) h h2)
theorem ket7 {i : Nat} (h : i = 7) : (nI i = (7 : Int32)) = True := eq_true (congrArg nI h)
theorem kef7 {i : Nat} (h : i ≠ 7) (h2 : i < 2 ^ 31) : (nI i = (7 : Int32)) = False := eq_false (fun e => h ((nI_eq h2 (by decide)).mp e))
theorem kgf8 {i : Nat} (h : i < 8) : ((8 : Int32) ≤ nI i) = False := eq_false (nI_ge (b := 8) h (by decide))
theorem kgt8 {i : Nat} (h : 8 ≤ i) (h2 : i < 2 ^ 31) : ((8 : Int32) ≤ nI i) = True := eq_true (nI_le (a := 8) h h2)
theorem klt8 {i : Nat} (h : i < 8) : (nI i < (8 : Int32)) = True := eq_true (nI_lt (b := 8) h (by decide))
theorem klf8 {i : Nat} (h : 8 ≤ i) (h2 : i < 2 ^ 31) : (nI i < (8 : Int32)) = False := eq_false (nI_nlt (b := 8) h h2)
theorem kmt8 {i : Nat} (h : 8 < i) (h2 : i < 2 ^ 31) : ((8 : Int32) < nI i) = True := eq_true (nI_lt (a := 8) h h2)
theorem kmf8 {i : Nat} (h : i ≤ 8) : ((8 : Int32) < nI i) = False := eq_false (nI_nlt (a := 8) h (by decide))
theorem kat8 {i : Nat} (h : i ≤ 8) : (nI i ≤ (8 : Int32)) = True := eq_true (nI_le (b := 8) h (by decide))
theorem kaf8 {i : Nat} (h : 8 < i) (h2 : i < 2 ^ 31) : (nI i ≤ (8 : Int32)) = False := eq_false (nI_ge (a := 8) h h2)
theorem ket8 {i : Nat} (h : i = 8) : (nI i = (8 : Int32)) = True := eq_true (congrArg nI h)
theorem kef8 {i : Nat} (h : i ≠ 8) (h2 : i < 2 ^ 31) : (nI i = (8 : Int32)) = False := eq_false (fun e => h ((nI_eq h2 (by decide)).mp e))
theorem kgf9 {i : Nat} (h : i < 9) : ((9 : Int32) ≤ nI i) = False := eq_false (nI_ge (b := 9) h (by decide))
theorem kgt9 {i : Nat} (h : 9 ≤ i) (h2 : i < 2 ^ 31) : ((9 : Int32) ≤ nI i) = True := eq_true (nI_le (a := 9) h h2)
theorem klt9 {i : Nat} (h : i < 9) : (nI i < (9 : Int32)) = True := eq_true (nI_lt (b := 9) h (by decide))
theorem klf9 {i : Nat} (h : 9 ≤ i) (h2 : i < 2 ^ 31) : (nI i < (9 : Int32)) = False := eq_false (nI_nlt (b := 9) h h2)
theorem kmt9 {i : Nat} (h : 9 < i) (h2 : i < 2 ^ 31) : ((9 : Int32) < nI i) = True := eq_true (nI_lt (a := 9) h h2)
theorem kmf9 {i : Nat} (h : i ≤ 9) : ((9 : Int32) < nI i) = False := eq_false (nI_nlt (a := 9) h (by decide))
theorem kat9 {i : Nat} (h : i ≤ 9) : (nI i ≤ (9 : Int32)) = True := eq_true (nI_le (b := 9) h (by decide))
theorem kaf9 {i : Nat} (h : 9 < i) (h2 : i < 2 ^ 31) : (nI i ≤ (9 : Int32)) = False := eq_false (nI_ge (a := 9) h h2)
theorem ket9 {i : Nat} (h : i = 9) : (nI i = (9 : Int32)) = True := eq_true (congrArg nI h)
theorem kef9 {i : Nat} (h : i ≠ 9) (h2 : i < 2 ^ 31) : (nI i = (9 : Int32)) = False := eq_false (fun e => h ((nI_eq h2 (by decide)).mp e))
theorem kgf10 {i : Nat} (h : i < 10) : ((10 : Int32) ≤ nI i) = False := eq_false (nI_ge (b := 10) h (by decide))
theorem kgt10 {i : Nat} (h : 10 ≤ i) (h2 : i < 2 ^ 31) : ((10 : Int32) ≤ nI i) = True := eq_true (nI_le (a := 10) h h2)
theorem klt10 {i : Nat} (h : i < 10) : (nI i < (10 : Int32)) = True := eq_true (nI_lt (b := 10) h (by decide))
theorem klf10 {i : Nat} (h : 10 ≤ i) (h2 : i < 2 ^ 31) : (nI i < (10 : Int32)) = False := eq_false (nI_nlt (b := 10) h h2)
theorem kmt10 {i : Nat} (h : 10 < i) (h2 : i < 2 ^ 31) : ((10 : Int32) < nI i) = True := eq_true (nI_lt (a := 10) h h2)
theorem kmf10 {i : Nat} (h : i ≤ 10) : ((10 : Int32) < nI i) = False := eq_false (nI_nlt (a := 10) h (by decide))
theorem kat10 {i : Nat} (h : i ≤ 10) : (nI i ≤ (10 : Int32)) = True := eq_true (nI_le (b := 10) h (by decide))
theorem kaf10 {i : Nat} (h : 10 < i) (h2 : i < 2 ^ 31) : (nI i ≤ (10 : Int32)) = False := eq_false (nI_ge (a := 10) h h2)
theorem ket10 {i : Nat} (h : i = 10) : (nI i = (10 : Int32)) = True := eq_true (congrArg nI h)
theorem kef10 {i : Nat} (h : i ≠ 10) (h2 : i < 2 ^ 31) : (nI i = (10 : Int32)) = False := eq_false (fun e => h ((nI_eq h2 (by decide)).mp e))
theorem kgf11 {i : Nat} (h : i < 11) : ((11 : Int32) ≤ nI i) = False := eq_false (nI_ge (b := 11) h (by decide))
theorem kgt11 {i : Nat} (h : 11 ≤ i) (h2 : i < 2 ^ 31) : ((11 : Int32) ≤ nI i) = True := eq_true (nI_le (a := 11) h h2)
theorem klt11 {i : Nat} (h : i < 11) : (nI i < (11 : Int32)) = True := eq_true (nI_lt (b := 11) h (by decide))
theorem klf11 {i : Nat} (h : 11 ≤ i) (h2 : i < 2 ^ 31) : (nI i < (11 : Int32)) = False := eq_false (nI_nlt (b := 11) h h2)
theorem kmt11 {i : Nat} (h : 11 < i) (h2 : i < 2 ^ 31) : ((11 : Int32) < nI i) = True := eq_true (nI_lt (a := 11) h h2)
theorem kmf11 {i : Nat} (h : i ≤ 11) : ((11 : Int32) < nI i) = False := eq_false (nI_nlt (a := 11) h (by decide))
theorem kat11 {i : Nat} (h : i ≤ 11) : (nI i ≤ (11 : Int32)) = True := eq_true (nI_le (b := 11) h (by decide))
theorem kaf11 {i : Nat} (h : 11 < i) (h2 : i < 2 ^ 31) : (nI i ≤ (11 : Int32)) = False := eq_false (nI_ge (a := 11) h h2)
theorem ket11 {i : Nat} (h : i = 11) : (nI i = (11 : Int32)) = True := eq_true (congrArg nI h)
theorem kef11 {i : Nat} (h : i ≠ 11) (h2 : i < 2 ^ 31) : (nI i = (11 : Int32)) = False := eq_false (fun e => h ((nI_eq h2 (by decide)).mp e))
theorem kgf12 {i : Nat} (h : i < 12) : ((12 : Int32) ≤ nI i) = False := eq_false (nI_ge (b := 12) h (by decide))
theorem kgt12 {i : Nat} (h : 12 ≤ i) (h2 : i < 2 ^ 31) : ((12 : Int32) ≤ nI i) = True := eq_true (nI_le (a := 12) h h2)
theorem klt12 {i : Nat} (h : i < 12) : (nI i < (12 : Int32)) = True := eq_true (nI_lt (b := 12) h (by decide))
theorem klf12 {i : Nat} (h : 12 ≤ i) (h2 : i < 2 ^ 31) : (nI i < (12 : Int32)) = False := eq_false (nI_nlt (b := 12) h h2)
theorem kmt12 {i : Nat} (h : 12 < i) (h2 : i < 2 ^ 31) : ((12 : Int32) < nI i) = True := eq_true (nI_lt (a := 12) h h2)
theorem kmf12 {i : Nat} (h : i ≤ 12) : ((12 : Int32) < nI i) = False := eq_false (nI_nlt (a := 12) h (by decide))
theorem kat12 {i : Nat} (h : i ≤ 12) : (nI i ≤ (12 : Int32)) = True := eq_true (nI_le (b := 12) h (by decide))
theorem kaf12 {i : Nat} (h : 12 < i) (h2 : i < 2 ^ 31) : (nI i ≤ (12 : Int32)) = False := eq_false (nI_ge (a := 12) h h2)
theorem ket12 {i : Nat} (h : i = 12) : (nI i = (12 : Int32)) = True := eq_true (congrArg nI h)
theorem kef12 {i : Nat} (h : i ≠ 12) (h2 : i < 2 ^ 31) : (nI i = (12 : Int32)) = False := eq_false (fun e => h ((nI_eq h2 (by decide)).mp e))
theorem kgf13 {i : Nat} (h : i < 13) : ((13 : Int32) ≤ nI i) = False := eq_false (nI_ge (b := 13) h (by decide))
theorem kgt13 {i : Nat} (h : 13 ≤ i) (h2 : i < 2 ^ 31) : ((13 : Int32) ≤ nI i) = True := eq_true (nI_le (a := 13) h h2)
theorem klt13 {i : Nat} (h : i < 13) : (nI i < (13 : Int32)) = True := eq_true (nI_lt (b := 13) h (by decide))
theorem klf13 {i : Nat} (h : 13 ≤ i) (h2 : i < 2 ^ 31) : (nI i < (13 : Int32)) = False := eq_false (nI_nlt (b := 13) h h2)
theorem kmt13 {i : Nat} (h : 13 < i) (h2 : i < 2 ^ 31) : ((13 : Int32) < nI i) = True := eq_true (nI_lt (a := 13) h h2)
theorem kmf13 {i : Nat} (h : i ≤ 13) : ((13 : Int32) < nI i) = False := eq_false (nI_nlt (a := 13) h (by decide))
theorem kat13 {i : Nat} (h : i ≤ 13) : (nI i ≤ (13 : Int32)) = True := eq_true (nI_le (b := 13) h (by decide))
theorem kaf13 {i : Nat} (h : 13 < i) (h2 : i < 2 ^ 31) : (nI i ≤ (13 : Int32)) = False := eq_false (nI_ge (a := 13) h h2)
theorem ket13 {i : Nat} (h : i = 13) : (nI i = (13 : Int32)) = True := eq_true (congrArg nI h)
theorem kef13 {i : Nat} (h : i ≠ 13) (h2 : i < 2 ^ 31) : (nI i = (13 : Int32)) = False := eq_false (fun e => h ((nI_eq h2 (by decide)).mp e))
theorem kgf20 {i : Nat} (h : i < 20) : ((20 : Int32) ≤ nI i) = False := eq_false (nI_ge (b := 20) h (by decide))
theorem kgt20 {i : Nat} (h : 20 ≤ i) (h2 : i < 2 ^ 31) : ((20 : Int32) ≤ nI i) = True := eq_true (nI_le (a := 20) h h2)
theorem klt20 {i : Nat} (h : i < 20) : (nI i < (20 : Int32)) = True := eq_true (nI_lt (b := 20) h (by decide))
theorem klf20 {i : Nat} (h : 20 ≤ i) (h2 : i < 2 ^ 31) : (nI i < (20 : Int32)) = False := eq_false (nI_nlt (b := 20) h h2)
theorem kmt20 {i : Nat} (h : 20 < i) (h2 : i < 2 ^ 31) : ((20 : Int32) < nI i) = True := eq_true (nI_lt (a := 20) h h2)
theorem kmf20 {i : Nat} (h : i ≤ 20) : ((20 : Int32) < nI i) = False := eq_false (nI_nlt (a := 20) h (by decide))
theorem kat20 {i : Nat} (h : i ≤ 20) : (nI i ≤ (20 : Int32)) = True := eq_true (nI_le (b := 20) h (by decide))
theorem kaf20 {i : Nat} (h : 20 < i) (h2 : i < 2 ^ 31) : (nI i ≤ (20 : Int32)) = False := eq_false (nI_ge (a := 20) h h2)
theorem ket20 {i : Nat} (h : i = 20) : (nI i = (20 : Int32)) = True := eq_true (congrArg nI h)
theorem kef20 {i : Nat} (h : i ≠ 20) (h2 : i < 2 ^ 31) : (nI i = (20 : Int32)) = False := eq_false (fun e => h ((nI_eq h2 (by decide)).mp e))
theorem kgf30 {i : Nat} (h : i < 30) : ((30 : Int32) ≤ nI i) = False := eq_false (nI_ge (b := 30) h (by decide))
theorem kgt30 {i : Nat} (h : 30 ≤ i) (h2 : i < 2 ^ 31) : ((30 : Int32) ≤ nI i) = True := eq_true (nI_le (a := 30) h h2)
theorem klt30 {i : Nat} (h : i < 30) : (nI i < (30 : Int32)) = True := eq_true (nI_lt (b := 30) h (by decide))
theorem klf30 {i : Nat} (h : 30 ≤ i) (h2 : i < 2 ^ 31) : (nI i < (30 : Int32)) = False := eq_false (nI_nlt (b := 30) h h2)
theorem kmt30 {i : Nat} (h : 30 < i) (h2 : i < 2 ^ 31) : ((30 : Int32) < nI i) = True := eq_true (nI_lt (a := 30) h h2)
theorem kmf30 {i : Nat} (h : i ≤ 30) : ((30 : Int32) < nI i) = False := eq_false (nI_nlt (a := 30) h (by decide))
theorem kat30 {i : Nat} (h : i ≤ 30) : (nI i ≤ (30 : Int32)) = True := eq_true (nI_le (b := 30) h (by decide))
theorem kaf30 {i : Nat} (h : 30 < i) (h2 : i < 2 ^ 31) : (nI i ≤ (30 : Int32)) = False := eq_false (nI_ge (a := 30) h h2)
theorem ket30 {i : Nat} (h : i = 30) : (nI i = (30 : Int32)) = True := eq_true (congrArg nI h)
theorem kef30 {i : Nat} (h : i ≠ 30) (h2 : i < 2 ^ 31) : (nI i = (30 : Int32)) = False := eq_false (fun e => h ((nI_eq h2 (by decide)).mp e))
theorem kgf32 {i : Nat} (h : i < 32) : ((32 : Int32) ≤ nI i) = False := eq_false (nI_ge (b := 32) h (by decide))
theorem kgt32 {i : Nat} (h : 32 ≤ i) (h2 : i < 2 ^ 31) : ((32 : Int32) ≤ nI i) = True := eq_true (nI_le (a := 32) h h2)
theorem klt32 {i : Nat} (h : i < 32) : (nI i < (32 : Int32)) = True := eq_true (nI_lt (b := 32) h (by decide))
theorem klf32 {i : Nat} (h : 32 ≤ i) (h2 : i < 2 ^ 31) : (nI i < (32 : Int32)) = False := eq_false (nI_nlt (b := 32) h h2)
theorem kmt32 {i : Nat} (h : 32 < i) (h2 : i < 2 ^ 31) : ((32 : Int32) < nI i) = True := eq_true (nI_lt (a := 32) h h2)
theorem kmf32 {i : Nat} (h : i ≤ 32) : ((32 : Int32) < nI i) = False := eq_false (nI_nlt (a := 32) h (by decide))
theorem kat32 {i : Nat} (h : i ≤ 32) : (nI i ≤ (32 : Int32)) = True := eq_true (nI_le (b := 32) h (by decide))
theorem kaf32 {i : Nat} (h : 32 < i) (h2 : i < 2 ^ 31) : (nI i ≤ (32 : Int32)) = False := eq_false (nI_ge (a := 32) h h2)
theorem ket32 {i : Nat} (h : i = 32) : (nI i = (32 : Int32)) = True := eq_true (congrArg nI h)
theorem kef32 {i : Nat} (h : i ≠ 32) (h2 : i < 2 ^ 31) : (nI i = (32 : Int32)) = False := eq_false (fun e => h ((nI_eq h2 (by decide)).mp e))
theorem kgf39 {i : Nat} (h : i < 39) : ((39 : Int32) ≤ nI i) = False := eq_false (nI_ge (b := 39) h (by decide))
theorem kgt39 {i : Nat} (h : 39 ≤ i) (h2 : i < 2 ^ 31) : ((39 : Int32) ≤ nI i) = True := eq_true (nI_le (a := 39) h h2)
theorem klt39 {i : Nat} (h : i < 39) : (nI i < (39 : Int32)) = True := eq_true (nI_lt (b := 39) h (by decide))
theorem klf39 {i : Nat} (h : 39 ≤ i) (h2 : i < 2 ^ 31) : (nI i < (39 : Int32)) = False := eq_false (nI_nlt (b := 39) h h2)
theorem kmt39 {i : Nat} (h : 39 < i) (h2 : i < 2 ^ 31) : ((39 : Int32) < nI i) = True := eq_true (nI_lt (a := 39) h h2)
theorem kmf39 {i : Nat} (h : i ≤ 39) : ((39 : Int32) < nI i) = False := eq_false (nI_nlt (a := 39) h (by decide))
theorem kat39 {i : Nat} (h : i ≤ 39) : (nI i ≤ (39 : Int32)) = True := eq_true (nI_le (b := 39) h (by decide))
theorem kaf39 {i : Nat} (h : 39 < i) (h2 : i < 2 ^ 31) : (nI i ≤ (39 : Int32)) = False := eq_false (nI_ge (a := 39) h h2)
theorem ket39 {i : Nat} (h : i = 39) : (nI i = (39 : Int32)) = True := eq_true (congrArg nI h)
theorem kef39 {i : Nat} (h : i ≠ 39) (h2 : i < 2 ^ 31) : (nI i = (39 : Int32)) = False := eq_false (fun e => h ((nI_eq h2 (by decide)).mp e))
theorem kgf40 {i : Nat} (h : i < 40) : ((40 : Int32) ≤ nI i) = False := eq_false (nI_ge (b := 40) h (by decide))
theorem kgt40 {i : Nat} (h : 40 ≤ i) (h2 : i < 2 ^ 31) : ((40 : Int32) ≤ nI i) = True := eq_true (nI_le (a := 40) h h2)
theorem klt40 {i : Nat} (h : i < 40) : (nI i < (40 : Int32)) = True := eq_true (nI_lt (b := 40) h (by decide))
theorem klf40 {i : Nat} (h : 40 ≤ i) (h2 : i < 2 ^ 31) : (nI i < (40 : Int32)) = False := eq_false (nI_nlt (b := 40) h h2)
theorem kmt40 {i : Nat} (h : 40 < i) (h2 : i < 2 ^ 31) : ((40 : Int32) < nI i) = True := eq_true (nI_lt (a := 40) h h2)
theorem kmf40 {i : Nat} (h : i ≤ 40) : ((40 : Int32) < nI i) = False := eq_false (nI_nlt (a := 40) h (by decide))
theorem kat40 {i : Nat} (h : i ≤ 40) : (nI i ≤ (40 : Int32)) = True := eq_true (nI_le (b := 40) h (by decide))
theorem kaf40 {i : Nat} (h : 40 < i) (h2 : i < 2 ^ 31) : (nI i ≤ (40 : Int32)) = False := eq_false (nI_ge (a := 40) h h2)
theorem ket40 {i : Nat} (h : i = 40) : (nI i = (40 : Int32)) = True := eq_true (congrArg nI h)
theorem kef40 {i : Nat} (h : i ≠ 40) (h2 : i < 2 ^ 31) : (nI i = (40 : Int32)) = False := eq_false (fun e => h ((nI_eq h2 (by decide)).mp e))
theorem kgf60 {i : Nat} (h : i < 60) : ((60 : Int32) ≤ nI i) = False := eq_false (nI_ge (b := 60) h (by decide))
theorem kgt60 {i : Nat} (h : 60 ≤ i) (h2 : i < 2 ^ 31) : ((60 : Int32) ≤ nI i) = True := eq_true (nI_le (a := 60) h h2)
theorem klt60 {i : Nat} (h : i < 60) : (nI i < (60 : Int32)) = True := eq_true (nI_lt (b := 60) h (by decide))
theorem klf60 {i : Nat} (h : 60 ≤ i) (h2 : i < 2 ^ 31) : (nI i < (60 : Int32)) = False := eq_false (nI_nlt (b := 60) h h2)
theorem kmt60 {i : Nat} (h : 60 < i) (h2 : i < 2 ^ 31) : ((60 : Int32) < nI i) = True := eq_true (nI_lt (a := 60) h h2)
theorem kmf60 {i : Nat} (h : i ≤ 60) : ((60 : Int32) < nI i) = False := eq_false (nI_nlt (a := 60) h (by decide))
theorem kat60 {i : Nat} (h : i ≤ 60) : (nI i ≤ (60 : Int32)) = True := eq_true (nI_le (b := 60) h (by decide))
theorem kaf60 {i : Nat} (h : 60 < i) (h2 : i < 2 ^ 31) : (nI i ≤ (60 : Int32)) = False := eq_false (nI_ge (a := 60) h h2)
theorem ket60 {i : Nat} (h : i = 60) : (nI i = (60 : Int32)) = True := eq_true (congrArg nI h)
theorem kef60 {i : Nat} (h : i ≠ 60) (h2 : i < 2 ^ 31) : (nI i = (60 : Int32)) = False := eq_false (fun e => h ((nI_eq h2 (by decide)).mp e))
theorem kgf80 {i : Nat} (h : i < 80) : ((80 : Int32) ≤ nI i) = False := eq_false (nI_ge (b := 80) h (by decide))
theorem kgt80 {i : Nat} (h : 80 ≤ i) (h2 : i < 2 ^ 31) : ((80 : Int32) ≤ nI i) = True := eq_true (nI_le (a := 80) h h2)
theorem klt80 {i : Nat} (h : i < 80) : (nI i < (80 : Int32)) = True := eq_true (nI_lt (b := 80) h (by decide))
theorem klf80 {i : Nat} (h : 80 ≤ i) (h2 : i < 2 ^ 31) : (nI i < (80 : Int32)) = False := eq_false (nI_nlt (b := 80) h h2)
theorem kmt80 {i : Nat} (h : 80 < i) (h2 : i < 2 ^ 31) : ((80 : Int32) < nI i) = True := eq_true (nI_lt (a := 80) h h2)
theorem kmf80 {i : Nat} (h : i ≤ 80) : ((80 : Int32) < nI i) = False := eq_false (nI_nlt (a := 80) h (by decide))
theorem kat80 {i : Nat} (h : i ≤ 80) : (nI i ≤ (80 : Int32)) = True := eq_true (nI_le (b := 80) h (by decide))
theorem kaf80 {i : Nat} (h : 80 < i) (h2 : i < 2 ^ 31) : (nI i ≤ (80 : Int32)) = False := eq_false (nI_ge (a := 80) h h2)
theorem ket80 {i : Nat} (h : i = 80) : (nI i = (80 : Int32)) = True := eq_true (congrArg nI h)
theorem kef80 {i : Nat} (h : i ≠ 80) (h2 : i < 2 ^ 31) : (nI i = (80 : Int32)) = False := eq_false (fun e => h ((nI_eq h2 (by decide)).mp e))
theorem kgf99 {i : Nat} (h : i < 99) : ((99 : Int32) ≤ nI i) = False := eq_false (nI_ge (b := 99) h (by decide))
theorem kgt99 {i : Nat} (h : 99 ≤ i) (h2 : i < 2 ^ 31) : ((99 : Int32) ≤ nI i) = True := eq_true (nI_le (a := 99) h h2)
theorem klt99 {i : Nat} (h : i < 99) : (nI i < (99 : Int32)) = True := eq_true (nI_lt (b := 99) h (by decide))
theorem klf99 {i : Nat} (h : 99 ≤ i) (h2 : i < 2 ^ 31) : (nI i < (99 : Int32)) = False := eq_false (nI_nlt (b := 99) h h2)
theorem kmt99 {i : Nat} (h : 99 < i) (h2 : i < 2 ^ 31) : ((99 : Int32) < nI i) = True := eq_true (nI_lt (a := 99) h h2)
theorem kmf99 {i : Nat} (h : i ≤ 99) : ((99 : Int32) < nI i) = False := eq_false (nI_nlt (a := 99) h (by decide))
theorem kat99 {i : Nat} (h : i ≤ 99) : (nI i ≤ (99 : Int32)) = True := eq_true (nI_le (b := 99) h (by decide))
theorem kaf99 {i : Nat} (h : 99 < i) (h2 : i < 2 ^ 31) : (nI i ≤ (99 : Int32)) = False := eq_false (nI_ge (a := 99) h h2)
theorem ket99 {i : Nat} (h : i = 99) : (nI i = (99 : Int32)) = True := eq_true (congrArg nI h)
theorem kef99 {i : Nat} (h : i ≠ 99) (h2 : i < 2 ^ 31) : (nI i = (99 : Int32)) = False := eq_false (fun e => h ((nI_eq h2 (by decide)).mp e))
theorem kgf200 {i : Nat} (h : i < 200) : ((200 : Int32) ≤ nI i) = False := eq_false (nI_ge (b := 200) h (by decide))
theorem kgt200 {i : Nat} (h : 200 ≤ i) (h2 : i < 2 ^ 31) : ((200 : Int32) ≤ nI i) = True := eq_true (nI_le (a := 200) h h2)
theorem klt200 {i : Nat} (h : i < 200) : (nI i < (200 : Int32)) = True := eq_true (nI_lt (b := 200) h (by decide))
theorem klf200 {i : Nat} (h : 200 ≤ i) (h2 : i < 2 ^ 31) : (nI i < (200 : Int32)) = False := eq_false (nI_nlt (b := 200) h h2)
theorem kmt200 {i : Nat} (h : 200 < i) (h2 : i < 2 ^ 31) : ((200 : Int32) < nI i) = True := eq_true (nI_lt (a := 200) h h2)
theorem kmf200 {i : Nat} (h : i ≤ 200) : ((200 : Int32) < nI i) = False := eq_false (nI_nlt (a := 200) h (by decide))
theorem kat200 {i : Nat} (h : i ≤ 200) : (nI i ≤ (200 : Int32)) = True := eq_true (nI_le (b := 200) h (by decide))
theorem kaf200 {i : Nat} (h : 200 < i) (h2 : i < 2 ^ 31) : (nI i ≤ (200 : Int32)) = False := eq_false (nI_ge (a := 200) h h2)
theorem ket200 {i : Nat} (h : i = 200) : (nI i = (200 : Int32)) = True := eq_true (congrArg nI h)
theorem kef200 {i : Nat} (h : i ≠ 200) (h2 : i < 2 ^ 31) : (nI i = (200 : Int32)) = False := eq_false (fun e => h ((nI_eq h2 (by decide)).mp e))
theorem kgf256 {i : Nat} (h : i < 256) : ((256 : Int32) ≤ nI i) = False := eq_false (nI_ge (b := 256) h (by decide))
theorem kgt256 {i : Nat} (h : 256 ≤ i) (h2 : i < 2 ^ 31) : ((256 : Int32) ≤ nI i) = True := eq_true (nI_le (a := 256) h h2)
theorem klt256 {i : Nat} (h : i < 256) : (nI i < (256 : Int32)) = True := eq_true (nI_lt (b := 256) h (by decide))
theorem klf256 {i : Nat} (h : 256 ≤ i) (h2 : i < 2 ^ 31) : (nI i < (256 : Int32)) = False := eq_false (nI_nlt (b := 256) h h2)
theorem kmt256 {i : Nat} (h : 256 < i) (h2 : i < 2 ^ 31) : ((256 : Int32) < nI i) = True := eq_true (nI_lt (a := 256) h h2)
theorem kmf256 {i : Nat} (h : i ≤ 256) : ((256 : Int32) < nI i) = False := eq_false (nI_nlt (a := 256) h (by decide))
theorem kat256 {i : Nat} (h : i ≤ 256) : (nI i ≤ (256 : Int32)) = True := eq_true (nI_le (b := 256) h (by decide))
theorem kaf256 {i : Nat} (h : 256 < i) (h2 : i < 2 ^ 31) : (nI i ≤ (256 : Int32)) = False := eq_false (nI_ge (a := 256) h h2)
theorem ket256 {i : Nat} (h : i = 256) : (nI i = (256 : Int32)) = True := eq_true (congrArg nI h)
theorem kef256 {i : Nat} (h : i ≠ 256) (h2 : i < 2 ^ 31) : (nI i = (256 : Int32)) = False := eq_false (fun e => h ((nI_eq h2 (by decide)).mp e))
theorem kgf429 {i : Nat} (h : i < 429) : ((429 : Int32) ≤ nI i) = False := eq_false (nI_ge (b := 429) h (by decide))
theorem kgt429 {i : Nat} (h : 429 ≤ i) (h2 : i < 2 ^ 31) : ((429 : Int32) ≤ nI i) = True := eq_true (nI_le (a := 429) h h2)
theorem klt429 {i : Nat} (h : i < 429) : (nI i < (429 : Int32)) = True := eq_true (nI_lt (b := 429) h (by decide))
theorem klf429 {i : Nat} (h : 429 ≤ i) (h2 : i < 2 ^ 31) : (nI i < (429 : Int32)) = False := eq_false (nI_nlt (b := 429) h h2)
theorem kmt429 {i : Nat} (h : 429 < i) (h2 : i < 2 ^ 31) : ((429 : Int32) < nI i) = True := eq_true (nI_lt (a := 429) h h2)
theorem kmf429 {i : Nat} (h : i ≤ 429) : ((429 : Int32) < nI i) = False := eq_false (nI_nlt (a := 429) h (by decide))
theorem kat429 {i : Nat} (h : i ≤ 429) : (nI i ≤ (429 : Int32)) = True := eq_true (nI_le (b := 429) h (by decide))
theorem kaf429 {i : Nat} (h : 429 < i) (h2 : i < 2 ^ 31) : (nI i ≤ (429 : Int32)) = False := eq_false (nI_ge (a := 429) h h2)
theorem ket429 {i : Nat} (h : i = 429) : (nI i = (429 : Int32)) = True := eq_true (congrArg nI h)
theorem kef429 {i : Nat} (h : i ≠ 429) (h2 : i < 2 ^ 31) : (nI i = (429 : Int32)) = False := eq_false (fun e => h ((nI_eq h2 (by decide)).mp e))
theorem kgf512 {i : Nat} (h : i < 512) : ((512 : Int32) ≤ nI i) = False := eq_false (nI_ge (b := 512) h (by decide))
theorem kgt512 {i : Nat} (h : 512 ≤ i) (h2 : i < 2 ^ 31) : ((512 : Int32) ≤ nI i) = True := eq_true (nI_le (a := 512) h h2)
theorem klt512 {i : Nat} (h : i < 512) : (nI i < (512 : Int32)) = True := eq_true (nI_lt (b := 512) h (by decide))
theorem klf512 {i : Nat} (h : 512 ≤ i) (h2 : i < 2 ^ 31) : (nI i < (512 : Int32)) = False := eq_false (nI_nlt (b := 512) h h2)
theorem kmt512 {i : Nat} (h : 512 < i) (h2 : i < 2 ^ 31) : ((512 : Int32) < nI i) = True := eq_true (nI_lt (a := 512) h h2)
theorem kmf512 {i : Nat} (h : i ≤ 512) : ((512 : Int32) < nI i) = False := eq_false (nI_nlt (a := 512) h (by decide))
theorem kat512 {i : Nat} (h : i ≤ 512) : (nI i ≤ (512 : Int32)) = True := eq_true (nI_le (b := 512) h (by decide))
theorem kaf512 {i : Nat} (h : 512 < i) (h2 : i < 2 ^ 31) : (nI i ≤ (512 : Int32)) = False := eq_false (nI_ge (a := 512) h h2)
theorem ket512 {i : Nat} (h : i = 512) : (nI i = (512 : Int32)) = True := eq_true (congrArg nI h)
theorem kef512 {i : Nat} (h : i ≠ 512) (h2 : i < 2 ^ 31) : (nI i = (512 : Int32)) = False := eq_false (fun e => h ((nI_eq h2 (by decide)).mp e))
theorem nIc {k : Nat} (x : Int32) (h : x = nI k) : x = nI k := h
/-- 1 or 0 -/
def bI (p : Prop) (_ : Decidable p) : Int32 := if p then 1 else 0
def hasI (x y : Int32) : Int32 := if ((x >>> (y &&& 31)) &&& 1) = 1 then 1 else 0
theorem hasI_01 (x y : Int32) : hasI x y = 0 ∨ hasI x y = 1 := by
  unfold hasI
  split
  · exact Or.inr rfl
  · exact Or.inl rfl
theorem nar01 {x : Int32} (h : x = 0 ∨ x = 1) : (narrow .boolean (.int x) = .int x) = True := by
  rcases h with rfl | rfl <;> exact eq_true rfl
theorem nar_has (x y : Int32) : (narrow .boolean (.int (hasI x y)) = .int (hasI x y)) = True := nar01 (hasI_01 x y)
def inI (v a b : Int32) : Int32 := if v < a then 0 else if b < v then 0 else 1
theorem inI_01 (x y z : Int32) : inI x y z = 0 ∨ inI x y z = 1 := by
  unfold inI
  repeat' split
  all_goals first | exact Or.inl rfl | exact Or.inr rfl
theorem nar_in (x y z : Int32) : (narrow .boolean (.int (inI x y z)) = .int (inI x y z)) = True := nar01 (inI_01 x y z)
/-- the bit of a set's member -/
def bit (i : Nat) : Int32 := 1 <<< (nI i &&& 31)
/-- the set of those below n of whom p holds -/
def bs (p : Nat → Bool) (n : Nat) : Int32 := fo (fun i acc => if p i then acc ||| bit i else acc) n 0 0
theorem bs_congr {p q : Nat → Bool} {n : Nat} (h : ∀ i, i < n → p i = q i) : bs p n = bs q n :=
  fo_congr n 0 0 (fun j a _ h2 => by rw [h j (by omega)])
/-- the sum of x over those below n of whom p holds -/
def sm (p : Nat → Bool) (x : Nat → Int32) (n : Nat) : Int32 := fo (fun i acc => if p i then acc + x i else acc) n 0 0
theorem sm_congr {p q : Nat → Bool} {x y : Nat → Int32} {n : Nat} (h : ∀ i, i < n → p i = q i) (h2 : ∀ i, i < n → x i = y i) : sm p x n = sm q y n :=
  fo_congr n 0 0 (fun j a _ h3 => by simp only [h j (by omega), h2 j (by omega)])
def hasT (x y : Int32) : Bool := decide (hasI x y = 1)
theorem hasI_0 (x y : Int32) : (hasI x y = 0) = (hasT x y = false) := by
  unfold hasT
  rcases hasI_01 x y with h | h <;> rw [h] <;> decide
def isC (c : Int32) : Int32 := if c = 0 then 1 else if c = 1 then 1 else 0
def tI (b : Bool) : Int32 := if b then 1 else 0
theorem tI_0 (b : Bool) : (tI b = 0) = (b = false) := by cases b <;> decide
theorem tI_01 (b : Bool) : tI b = 0 ∨ tI b = 1 := by cases b <;> decide
theorem nar_t (b : Bool) : (narrow .boolean (.int (tI b)) = .int (tI b)) = True := nar01 (tI_01 b)
theorem hasI_T (x y : Int32) : hasI x y = tI (hasT x y) := by
  unfold hasT tI
  rcases hasI_01 x y with h | h <;> rw [h] <;> decide
theorem aU_s {α : Type} (f : Nat → Nat → α) (a i : Nat) (v : α) : aU f a i v a i = v := by unfold aU; simp
theorem aU_i {α : Type} (f : Nat → Nat → α) {a i j : Nat} (v : α) (h : j ≠ i) : aU f a i v a j = f a j := by unfold aU; simp [h]
theorem aU_r {α : Type} (f : Nat → Nat → α) {a i b : Nat} (v : α) (h : b ≠ a) : aU f a i v b = f b := by funext j; unfold aU; simp [h]
theorem aU_u {α : Type} (f : Nat → Nat → α) (a i : Nat) (v w : α) : aU (aU f a i v) a i w = aU f a i w := by
  funext b j
  unfold aU
  by_cases h : b = a <;> by_cases h2 : j = i <;> simp [h, h2]
