/-! one turn of the law's loop; the loop -/
variable {d : Nat} {g : Nat × Nat × Nat} {I : Nat → Nat → Int32} {J : Nat → Nat → Int64} {sl rd : Nat} {t i n m q : Nat}
theorem turn (hd : 90 ≤ d) (ht : t < 2 ^ 30) (hi : i + 5 ≤ sl) (hs : sl < 2 ^ 30) (h3 : ∀ j, j < 17 → I 3 j = aStd.getD j 0) (h4 : ∀ j, j < 8 → I 4 j = aThg.getD j 0) (h56 : byR (I 56)) (H : zInv t n m q I J) (w5 w6 w7 : Value) {c : Nat} (hc : c < 64) : lawG d (nI c) i t g I J sl rd w5 w6 w7 := by
  have hd1 : 41 ≤ d := by omega
  by_cases h48 : 48 < c
  · refine ⟨g, I, J, rd, n, m, q, w5, w6, w7, ?_, zInv_up H, kp_r _, rfl, Nat.le_succ _, Nat.le_add_right _ _⟩
    rw [s296_39 _ _ _ _ (Or.inr (by rw [nI_toInt (by omega)]; omega))]
  have cc : c = 0 ∨ c = 1 ∨ c = 2 ∨ c = 3 ∨ c = 4 ∨ c = 5 ∨ c = 6 ∨ c = 7 ∨ c = 8 ∨ c = 9 ∨ c = 10 ∨ c = 11 ∨ c = 12 ∨ c = 13 ∨ c = 14 ∨ c = 15 ∨ c = 16 ∨ c = 17 ∨ c = 18 ∨ c = 19 ∨ c = 20 ∨ c = 21 ∨ c = 22 ∨ c = 23 ∨ c = 24 ∨ c = 25 ∨ c = 26 ∨ c = 27 ∨ c = 28 ∨ c = 29 ∨ c = 30 ∨ c = 31 ∨ c = 32 ∨ c = 33 ∨ c = 34 ∨ c = 35 ∨ c = 36 ∨ c = 37 ∨ c = 38 ∨ c = 39 ∨ c = 40 ∨ c = 41 ∨ c = 42 ∨ c = 43 ∨ c = 44 ∨ c = 45 ∨ c = 46 ∨ c = 47 ∨ c = 48 := by omega
  rcases cc with rfl | rfl | rfl | rfl | rfl | rfl | rfl | rfl | rfl | rfl | rfl | rfl | rfl | rfl | rfl | rfl | rfl | rfl | rfl | rfl | rfl | rfl | rfl | rfl | rfl | rfl | rfl | rfl | rfl | rfl | rfl | rfl | rfl | rfl | rfl | rfl | rfl | rfl | rfl | rfl | rfl | rfl | rfl | rfl | rfl | rfl | rfl | rfl | rfl
  · exact cs0 hi hs (tie_sign H _) w5 w6 w7
  · exact cs1 hi hs (tie_end H _) w5 w6 w7
  · exact cs2 hi hs (tie_drivers ht H) w5 w6 w7
  · exact cs3 hi hs (tie_quarters ht H) w5 w6 w7
  · exact cs4 hi hs (tie_quarrels ht H) w5 w6 w7
  · exact cs5 hi hs (tie_rule hd1 h3 h4 H) w5 w6 w7
  · exact cs6 hi hs (tie_driver H _ _) w5 w6 w7
  · exact cs7 hi hs (tie_strength hd1 H _) w5 w6 w7
  · exact cs8 hi hs (tie_quarter H _ _) w5 w6 w7
  · exact cs9 hi hs (tie_quarrel H _ _) w5 w6 w7
  · exact cs10 hi hs (tie_club H _ _) w5 w6 w7
  · exact cs11 hi hs (tie_limit H _) w5 w6 w7
  · exact cs12 hi hs (tie_sheet H _ _ _ _) w5 w6 w7
  · exact cs13 hi hs (tie_race hd1 H _) w5 w6 w7
  · exact cs14 hi hs (tie_buy H _ _) w5 w6 w7
  · exact cs15 hi hs (tie_curse H _ _) w5 w6 w7
  · exact cs16 hi hs (tie_dig H _) w5 w6 w7
  · exact cs17 hi hs (tie_grain H _ _) w5 w6 w7
  · exact cs18 hi hs (tie_show H _ _) w5 w6 w7
  · exact cs19 hi hs (tie_season hd1 H) w5 w6 w7
  · exact cs20 hi hs (tie_undo H) w5 w6 w7
  · exact cs21 hi hs (tie_order hd1 H) w5 w6 w7
  · exact cs22 hi hs (tie_ahead hd1 H _) w5 w6 w7
  · exact cs23 hi hs (tie_joins hd1 H) w5 w6 w7
  · exact cs24 hi hs (tie_bribe hd1 H _) w5 w6 w7
  · exact cs25 hi hs (tie_lead hd1 H _) w5 w6 w7
  · exact cs26 hi hs (tie_stable H _) w5 w6 w7
  · exact cs27 hi hs (tie_apart H) w5 w6 w7
  · exact cs28 hi hs (tie_calm H) w5 w6 w7
  · exact cs29 hi hs (tie_risky H) w5 w6 w7
  · exact cs30 hi hs (tie_worst H) w5 w6 w7
  · exact cs31 hi hs (tie_riots H _) w5 w6 w7
  · exact cs32 hi hs (tie_spark H) w5 w6 w7
  · exact cs33 hi hs (tie_won H _ _) w5 w6 w7
  · exact cs34 hi hs (tie_gates H _ _) w5 w6 w7
  · exact cs35 hi hs (tie_common H _) w5 w6 w7
  · exact cs36 hi hs (tie_lots hd H _ _ _) w5 w6 w7
  · exact cs37 hi hs (tie_bent hd H _ _ _ _) w5 w6 w7
  · exact cs38 hi hs (tie_heard H _ _) w5 w6 w7
  · exact cs39 hi hs (tie_forget H) w5 w6 w7
  · exact cs40 hi hs (tie_fits H) w5 w6 w7
  · exact cs41 hi hs (tie_ask H) w5 w6 w7
  · exact cs42 hi hs (tie_rests H _ _) w5 w6 w7
  · exact cs43 hi hs (tie_law hd1 h3 h4 h56 H) w5 w6 w7
  · exact cs44 hi hs (tie_years hd1 H _ _) w5 w6 w7
  · exact cs45 hi hs (tie_keep H _) w5 w6 w7
  · exact cs46 hi hs (tie_again H _) w5 w6 w7
  · exact cs47 hi hs (tie_count H _) w5 w6 w7
  · exact cs48 hi hs (tie_row H _) w5 w6 w7
theorem fin5 {sl k : Nat} (hs : sl < 2 ^ 30) (hk : k < 2 ^ 30) : (Int32.ofNat sl - 5 < nI k) ↔ sl < k + 5 := by
  show (nI sl - nI 5 < nI k) ↔ _
  rw [int_lt, pk_sub_toInt hs (by decide), nI_toInt (by omega)]
  omega
theorem byR_of {r : Nat → Int32} (h : ∀ j, vp_nar .byte (r j) = r j) : byR r := by
  intro k hk
  have e := h k
  rw [vp_nar_byte] at e
  rw [← e] at hk ⊢
  exact by_ok _ hk
theorem loop (hd : 90 ≤ d) (hs : sl < 2 ^ 29) : ∀ (M t : Nat) (g : Nat × Nat × Nat) (I : Nat → Nat → Int32) (J : Nat → Nat → Int64) (rd n m q : Nat) (w5 w6 w7 : Value), sl ≤ 5 * t + M → 5 * t ≤ sl + 4 → (∀ j, j < 17 → I 3 j = aStd.getD j 0) → (∀ j, j < 8 → I 4 j = aThg.getD j 0) → (∀ j, vp_nar .byte (I 56 j) = I 56 j) → zInv t n m q I J → ∃ τ : aS, aE d 296 23 [.ref 0, .ref 6, .ref 46, .ref 67, .int (nI (5 * t)), w5, w6, w7] [] (g, I, J, aP1 sl rd 56) = some (some (some (.int 1)), τ) ∧ τ.1.2.1 ≤ g.2.1 + M ∧ τ.1.2.2 ≤ g.2.2 + 6 * M := by
  have e00 : ∀ rd, aP1 sl rd 56 0 0 = sl := fun _ => rfl
  intro M
  induction M with
  | zero =>
    intro t g I J rd n m q w5 w6 w7 h1 h2 _ _ _ _
    refine ⟨(g, I, J, aP1 sl rd 56), ?_, Nat.le_refl _, Nat.le_refl _⟩
    rw [b296_23, e00, if_pos ((fin5 (by omega) (by omega)).mpr (by omega))]
  | succ M ih =>
    intro t g I J rd n m q w5 w6 w7 h1 h2 h3 h4 h56 H
    by_cases he : sl < 5 * t + 5
    · refine ⟨(g, I, J, aP1 sl rd 56), ?_, Nat.le_add_right _ _, Nat.le_add_right _ _⟩
      rw [b296_23, e00, if_pos ((fin5 (by omega) (by omega)).mpr he)]
    · obtain ⟨c, hc, ec⟩ := pk_andE (I 0 (5 * t)) (m := 63) 6 (by decide)
      obtain ⟨g', I2, J2, rd2, n', m', q', u5, u6, u7, e1, z, kp, y1, y2, y3⟩ := turn (d := d) (g := g) (I := I) (J := J) (sl := sl) (rd := rd) (t := t) (i := 5 * t) hd (by omega) (by omega) (by omega) h3 h4 (byR_of h56) H w5 w6 w7 hc
      have o3 : ∀ a, 20 ≤ aKd a → I2 a = I a := fun a ha => funext fun j => (kp.1 a j (fun h => absurd h.1 (by omega))).1
      obtain ⟨τ, f1, f2, f3⟩ := ih (t + 1) g' I2 J2 rd2 n' m' q' u5 u6 u7 (by omega) (by omega) (by rw [o3 3 (by decide)]; exact h3) (by rw [o3 4 (by decide)]; exact h4) (kp.2 56 (by decide) h56) z
      refine ⟨τ, ?_, by omega, by omega⟩
      rw [b296_23, e00, if_neg (fun h => he ((fin5 (by omega) (by omega)).mp h)), if_neg (by
        rw [nI_clamp (by omega)]
        rintro (h | h)
        · exact nI_pos (by omega) h
        · omega), nI_clamp (by omega), ec, e1, b296_1706, show nI (5 * t) + 5 = nI (5 * t + 5) from nI_add _ 5]
      exact f1
