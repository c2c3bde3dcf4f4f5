/-! blocks: a method from a place of it up to its loops, its calls, its end -/
def aPT : List (List Nat) := [[], [], [], [], [], [], [8, 10, 11, 13, 15, 24, 26, 28, 30, 32, 33, 34, 38, 42, 43, 46], [9, 0], [], [8, 0, 0, 0], [10, 12, 0, 0, 0], [], [14, 0], [], [0, 16, 17, 18, 0, 19, 20, 21, 22, 0, 23, 0], [], [], [], [], [], [], [], [], [25], [], [27], [], [29], [], [31, 0, 0], [], [], [], [35, 0, 36, 37], [], [], [], [39, 0, 40, 41], [], [], [], [0, 0, 0, 0, 0], [44, 45, 0], [], [], [], [48, 0, 49, 50, 0, 51, 0, 52, 0, 53, 0, 54, 0, 0, 0, 0, 0, 0, 0, 55, 56, 57, 0, 0, 58, 59, 0, 60, 61, 0, 0, 0, 62, 63, 64, 0, 0, 0, 65, 66, 67], [], [], [], [], [], [], [], [], [], [], [], [], [], [], [], [], [], [], [], [], []]
/-- the references behind the constructors: the script's length, the row that is read, the rule's row -/
def aP1 (sl rd rl a j : Nat) : Nat := if a = 0 then (if j = 0 then sl else 0) else if a = 46 then (if j = 14 then rd else if j = 20 then rl else (aPT.getD 46 []).getD j 0) else (aPT.getD a []).getD j 0
def aCpI (I : Nat → Nat → Int32) (a i b j n : Nat) : Nat → Nat → Int32 := fun a' i' => if a' = b then (if j ≤ i' ∧ i' < j + n then I a (i + (i' - j)) else I a' i') else I a' i'
theorem aP1_rd (sl rd rl v : Nat) : aU (aP1 sl rd rl) 46 14 v = aP1 sl v rl := by
  funext a j
  unfold aU aP1
  by_cases ha : a = 46
  · subst ha
    by_cases hj : j = 14 <;> simp [hj]
  · simp [ha]
theorem aP1_rl (sl rd rl v : Nat) : aU (aP1 sl rd rl) 46 20 v = aP1 sl rd v := by
  funext a j
  unfold aU aP1
  by_cases ha : a = 46
  · subst ha
    by_cases hj : j = 20
    · simp [hj]
    · simp [hj]
  · simp [ha]
def aIs : List Nat → Nat → Bool
  | [], _ => false
  | q :: l, pc => if Nat.beq q pc = true then true else aIs l pc
noncomputable def aGc (cs : List Nat) : Nat → Nat → Nat → Nat → List Value → List Value → aS → Option aO
  | 0, d, k, pc, L, st, σ => aE d k pc L st σ
  | n + 1, d, k, pc, L, st, σ => match aIs cs pc with
    | true => aE d k pc L st σ
    | false => aStep (fun e k' as τ => aF e k' as τ) (fun pc' L' st' τ => aGc cs n d k pc' L' st' τ) d k pc L st σ
theorem aGc_eq (cs : List Nat) : ∀ (n d k pc : Nat) (L st : List Value) (σ : aS), aGc cs n d k pc L st σ = aE d k pc L st σ := by
  intro n
  induction n with
  | zero => intros; rfl
  | succ n ih =>
    intro d k pc L st σ
    unfold aGc
    split
    · rfl
    · rw [aE_eq]
      congr 1
      funext pc' L' st' τ
      exact ih d k pc' L' st' τ
theorem aBk (cs : List Nat) (n d k pc : Nat) (L st : List Value) (σ : aS) : aE d k pc L st σ = aStep (fun e k' as τ => aF e k' as τ) (fun pc' L' st' τ => aGc cs n d k pc' L' st' τ) d k pc L st σ := by
  rw [aE_eq]
  congr 1
  funext pc' L' st' τ
  exact (aGc_eq cs n d k pc' L' st' τ).symm
