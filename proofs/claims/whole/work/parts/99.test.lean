section T00
/-! race, joins, ahead: tied -/
variable {d : Nat} {g : Nat × Nat × Nat} {I : Nat → Nat → Int32} {J : Nat → Nat → Int64} {sl rd rl : Nat} {t n m q : Nat}
theorem nI_ne0 {k : Nat} (h : 0 < k) (h2 : k < 2 ^ 31) : ¬ nI k = 0 := fun e => absurd ((nI_eq (b := 0) h2 (by decide)).mp e) (by omega)
theorem rngN {a : Int32} {M : Nat} {b : Int32} (hb : b = nI M) (hM : M < 2 ^ 31) (h : ¬ (a < 0 ∨ b < a)) : ∃ N, N ≤ M ∧ a = nI N := by
  subst hb
  exact nI_of2 (M := nI M) (nI_toInt hM) (fun q => h (Or.inl q)) (Classical.byContradiction fun q => h (Or.inr (by rw [← nle_lt]; exact q)))
end T00
