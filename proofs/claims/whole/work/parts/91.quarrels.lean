/-! quarrels: one line, both sides; what is taken over -/
variable {d : Nat} {g : Nat × Nat × Nat} {I : Nat → Nat → Int32} {J : Nat → Nat → Int64} {sl rd rl : Nat} {t n m q : Nat}
def tq (sg : Nat → Int32) : Nat → Nat × Int32 → Nat × Int32
  | 0, p => p
  | x + 1, p => (tk sg 48 57 (tq sg x p)).2
def lnS (sg : Nat → Int32) (p : Nat × Int32) : Nat × Int32 := tq sg 4 p
def vS (sg : Nat → Int32) (p : Nat × Int32) (x : Nat) : Int32 := (tk sg 48 57 (tq sg x p)).1 - 48
theorem tq_at {sg : Nat → Int32} {N : Nat} (hE : sgE sg N) {p : Nat × Int32} (hp : p.1 ≤ N) : ∀ x, (tq sg x p).1 ≤ N
  | 0 => hp
  | x + 1 => (tk_at hE (lo := 48) (hi := 57) (by decide) (tq_at hE hp x)).2
theorem lnS_at {sg : Nat → Int32} {N : Nat} (hE : sgE sg N) {p : Nat × Int32} (hp : p.1 ≤ N) : (lnS sg p).1 ≤ N := tq_at hE hp 4
theorem tq_wrk {sg : Nat → Int32} {N : Nat} (hE : sgE sg N) (hN : N ≤ 80) {p : Nat × Int32} (hp : p.1 ≤ N) (h : wrk p) : ∀ x, wrk (tq sg x p)
  | 0 => h
  | x + 1 => wrk_t (Nat.le_trans (tq_at hE hp x) hN) (tq_wrk hE hN hp h x)
theorem lnS_wrk {sg : Nat → Int32} {N : Nat} (hE : sgE sg N) (hN : N ≤ 80) {p : Nat × Int32} (hp : p.1 ≤ N) (h : wrk p) : wrk (lnS sg p) := tq_wrk hE hN hp h 4
theorem vS_good {sg : Nat → Int32} {top : Nat} {p : Nat × Int32} (hE : sgE sg top) (h2 : top ≤ 80) (hp : p.1 ≤ top) (h : (lnS sg p).2 = -1) {x : Nat} (hx : x < 4) : ∃ k, k ≤ 99 ∧ vS sg p x = nI k := by
  have back : ∀ M y, y + M = 4 → (tq sg y p).2 = -1 := by
    intro M
    induction M with
    | zero => intro y hy; obtain rfl : y = 4 := by omega
              exact h
    | succ M ih =>
      intro y hy
      exact (tk_fine (Nat.le_trans (tq_at hE hp y) h2) (ih (y + 1) (by omega))).2.2.2
  obtain ⟨e, u1, u2, u3⟩ := tk_fine (sg := sg) (lo := 48) (hi := 57) (p := tq sg x p) (Nat.le_trans (tq_at hE hp x) h2) (back (4 - (x + 1)) (x + 1) (by omega))
  obtain ⟨y, hy, ey⟩ := digH (H := 9) u1 u2 rfl (by decide)
  refine ⟨y, by omega, ?_⟩
  unfold vS
  rw [e]; exact ey
section C
variable {len top : Nat} {sg : Nat → Int32}
def vcS (sg : Nat → Int32) (I : Nat → Nat → Int32) (i : Nat) (p : Nat × Int32) : Prop := ∀ x, x < 4 → I 22 (4 * i + x) = vS sg p x
theorem vcS_k {w : Nat} (hw : w = 4) : ∀ (I1 I2 : Nat → Nat → Int32) (i k : Nat) (p' : Nat × Int32), Ke w i I1 I2 → k < i → vcS sg I1 k p' → vcS sg I2 k p' := by
  intro I1 I2 i k p' h hk hv x hx
  subst hw
  rw [h 22 (by decide) (4 * k + x) (by omega)]
  exact hv x hx
theorem f48s (hE : sgE sg top) (h1 : len ≤ 80) (h2 : top ≤ 80) (I1 : Nat → Nat → Int32) (p : Nat × Int32) (i : Nat) (hi : i < 8) (hm : I1 9 1 = nI top) (hl : I1 7 1 = nI len) (hsg : sg = sgc (I1 8) len top) (hp : p.1 ≤ top) : ∃ I2, Fr [22] I1 I2 ∧ Ke 4 i I1 I2 ∧ vcS sg I2 i p ∧ aF d 48 [.ref 9, .int 115, .ref 14, .int (nI i)] (g, pC I1 p, J, aP1 sl rd rl) = some (some none, (g, pC I2 (lnS sg p), J, aP1 sl rd rl)) := by
  have e36 : ∀ (X : Nat → Int32) (p : Nat × Int32), p.1 ≤ top → aF d 36 [.ref 9, .int 48, .int 57] (g, pC (aR I1 22 X) p, J, aP1 sl rd rl) = some (some (some (.int (tk sg 48 57 p).1)), (g, pC (aR I1 22 X) (tk sg 48 57 p).2, J, aP1 sl rd rl)) := by
    intro X p hp
    have f := f36 (d := d) (g := g) (I := aR I1 22 X) (J := J) (sl := sl) (rd := rd) (rl := rl) (p := p) (len := len) (top := top) (by rw [aR_r _ _ (by decide)]; exact hm) (by rw [aR_r _ _ (by decide)]; exact hl) h1 h2 (by omega) 48 57
    rw [aR_r _ _ (show 8 ≠ 22 by decide), ← hsg] at f
    exact f
  have e4 : (4 : Int32) * nI i = nI (4 * i) := pk_mul 4 i
  have lp : ∀ (M x : Nat) (X : Nat → Int32), x + M = 4 → (∀ k, k < 4 * i → X k = I1 22 k) → (∀ y, y < x → X (4 * i + y) = vS sg p y) → ∃ X', (∀ k, k < 4 * i → X' k = I1 22 k) ∧ (∀ y, y < 4 → X' (4 * i + y) = vS sg p y) ∧ aE d 48 117 [.ref 9, .int 115, .ref 14, .int (nI i), .int (nI x)] [] (g, pC (aR I1 22 X) (tq sg x p), J, aP1 sl rd rl) = some (some none, (g, pC (aR I1 22 X') (lnS sg p), J, aP1 sl rd rl)) := by
    intro M
    induction M with
    | zero =>
      intro x X hx q1 q2
      obtain rfl : x = 4 := by omega
      refine ⟨X, q1, q2, ?_⟩
      rw [b48_117, if_pos (by decide)]
      rfl
    | succ M ih =>
      intro x X hx q1 q2
      obtain ⟨X', z1, z2, z3⟩ := ih (x + 1) (upd X (4 * i + x) (vS sg p x)) (by omega) (fun k hk => by rw [upd_n _ _ (by omega)]; exact q1 k hk) (fun y hy => by
        by_cases e : y = x
        · subst e; exact upd_s _ _ _
        · rw [upd_n _ _ (by omega)]; exact q2 y (by omega))
      refine ⟨X', z1, z2, ?_⟩
      rw [b48_117, if_neg (show ¬ (4 : Int32) ≤ nI x from nI_ge (b := 4) (by omega) (by omega)), e36 _ _ (tq_at hE hp x)]
      simp only [aBi]
      rw [e4, nI_add, b48_141, nI_clamp (by omega), if_neg (t32 (by omega)), pC_a _ _ (by decide), aU_R, aR_s, aR_u, nI_1]
      exact z3
  obtain ⟨X, z1, z2, z3⟩ := lp 4 0 (I1 22) (by decide) (fun _ _ => rfl) (fun y hy => by omega)
  rw [aR_id] at z3
  refine ⟨aR I1 22 X, Fr_s (Fr_r _ _) _ (by decide), ?_, ?_, ?_⟩
  · intro a _ k hk
    by_cases e : a = 22
    · subst e; rw [aR_s]; exact z1 k hk
    · rw [aR_r _ _ e]
  · intro x hx; rw [aR_s]; exact z2 x hx
  · show aE d 48 0 [.ref 9, .int 115, .ref 14, .int (nI i), aNo] [] _ = _
    rw [b48_0, if_neg (show ¬ nI i < 0 from nI_nlt (b := 0) (by omega) (by omega)), if_pos (show nI i < 8 from nI_lt (b := 8) (by omega) (by omega)), if_neg (by decide), if_neg (by decide)]
    exact z3
end C
section R2
variable {len top n0 : Nat} {sg : Nat → Int32} {I0 : Nat → Nat → Int32}
def vrS (sg : Nat → Int32) (I : Nat → Nat → Int32) (k : Nat) (p : Nat × Int32) : Prop := ∀ x, x < 4 → I 54 (4 * k + x) = vS sg p x
theorem vrS_k : ∀ (I1 I2 : Nat → Nat → Int32) (k j : Nat) (p : Nat × Int32), (∀ i, i < 4 * k → I2 54 i = I1 54 i) → j < k → vrS sg I1 j p → vrS sg I2 j p := by
  intro I1 I2 k j p h hj hv x hx
  rw [h (4 * j + x) (by omega)]
  exact hv x hx
theorem l197 (q15 : I0 46 15 = nI len) (q16 : I0 46 16 = nI top) (h1 : len ≤ 80) (h2 : top ≤ 80) (hB : byR (I0 52)) (hsg : sg = sgn (I0 52) len top) (hn : I0 46 6 = nI n0) (k : Nat) (w : Value) (I1 : Nat → Nat → Int32) (p : Nat × Int32) (F : Fr [54] I0 I1) (p2 : p.2 = -1) (hp : p.1 ≤ top) (hk : n0 + k < 8) : ∃ I' w' p3, Fr [54] I1 I' ∧ (∀ i, i < 4 * k → I' 54 i = I1 54 i) ∧ vrS sg I' k p ∧ rW p3 len = rW (lnS sg p) len ∧ p3.1 ≤ 80 ∧ aE d 197 24 [.ref 46, .int (nI k), .int 1, w] [] (g, pM I1 p, J, aP1 sl 53 56) = if pk sg (lnS sg p) = 59 then aE d 197 24 [.ref 46, .int (nI (k + 1)), .int 1, w'] [] (g, pM I' (adv (lnS sg p)), J, aP1 sl 53 56) else aE d 197 24 [.ref 46, .int (nI (k + 1)), .int 0, w'] [] (g, pM I' p3, J, aP1 sl 53 56) := by
  have hE : sgE sg top := by rw [hsg]; exact sgn_E _ _ _
  have t3 := lnS_at hE hp
  have f46 : I1 46 = I0 46 := F 46 (by decide)
  have f52 : I1 52 = I0 52 := F 52 (by decide)
  have b15 : ∀ X : Nat → Int32, aR I1 54 X 46 15 = nI len := fun X => by rw [aR_r _ _ (by decide), f46]; exact q15
  have b16 : ∀ X : Nat → Int32, aR I1 54 X 46 16 = nI top := fun X => by rw [aR_r _ _ (by decide), f46]; exact q16
  have b52 : ∀ X : Nat → Int32, aR I1 54 X 52 = I0 52 := fun X => by rw [aR_r _ _ (by decide)]; exact f52
  have hX : ∀ (X : Nat → Int32) (p : Nat × Int32) (i : Nat) (v : Int32), aU (pM (aR I1 54 X) p) 54 i v = pM (aR I1 54 (upd X i v)) p := fun X p i v => by
    rw [pM_a _ _ (by decide), aU_R, aR_s, aR_u]
  have g187 : ∀ (X : Nat → Int32) (p : Nat × Int32), p.1 ≤ top → aF d 187 [.ref 46, .int 48, .int 10] (g, pM (aR I1 54 X) p, J, aP1 sl 53 56) = some (some (some (.int ((tk sg 48 57 p).1 - 48))), (g, pM (aR I1 54 X) (tk sg 48 57 p).2, J, aP1 sl 53 56)) := by
    intro X p hp
    have f := f187_52 (d := d) (g := g) (I := aR I1 54 X) (J := J) (sl := sl) (rl := 56) (p := p) (len := len) (top := top) (b15 X) (b16 X) h1 h2 (by omega) (by rw [b52]; exact hB) (lo := 48) (many := 10) (hi := 57) (by decide) (by decide) (by decide)
    rw [b52, ← hsg] at f
    exact f
  have g191 : ∀ (X : Nat → Int32) (p : Nat × Int32), p.1 ≤ 80 → aF d 191 [.ref 46, .int 59] (g, pM (aR I1 54 X) p, J, aP1 sl 53 56) = some (some (some (.int (tI (decide (pk sg p = 59))))), (g, pM (aR I1 54 X) (ps sg 59 p), J, aP1 sl 53 56)) := by
    intro X p hp
    have f := f191_52 (d := d) (g := g) (I := aR I1 54 X) (J := J) (sl := sl) (rl := 56) (p := p) (len := len) (top := top) (b15 X) (b16 X) h1 h2 hp (c := 59) (by decide)
    rw [b52, ← hsg] at f
    exact f
  have m4 : (4 : Int32) * nI k = nI (4 * k) := pk_mul 4 k
  have n8 : ¬ nI (n0 + k) = 8 := fun e => absurd ((nI_eq (b := 8) (by omega) (by decide)).mp e) (by omega)
  have lp : ∀ (M x : Nat) (X : Nat → Int32), x + M = 4 → (∀ i, i < 4 * k → X i = I1 54 i) → (∀ y, y < x → X (4 * k + y) = vS sg p y) → ∃ X', (∀ i, i < 4 * k → X' i = I1 54 i) ∧ (∀ y, y < 4 → X' (4 * k + y) = vS sg p y) ∧ aE d 197 59 [.ref 46, .int (nI k), .int 1, .int (nI x)] [] (g, pM (aR I1 54 X) (tq sg x p), J, aP1 sl 53 56) = aE d 197 59 [.ref 46, .int (nI k), .int 1, .int 4] [] (g, pM (aR I1 54 X') (lnS sg p), J, aP1 sl 53 56) := by
    intro M
    induction M with
    | zero =>
      intro x X hx q1 q2
      obtain rfl : x = 4 := by omega
      exact ⟨X, q1, q2, rfl⟩
    | succ M ih =>
      intro x X hx q1 q2
      obtain ⟨X', z1, z2, z3⟩ := ih (x + 1) (upd X (4 * k + x) (vS sg p x)) (by omega) (fun i hi => by rw [upd_n _ _ (by omega)]; exact q1 i hi) (fun y hy => by
        by_cases e : y = x
        · subst e; exact upd_s _ _ _
        · rw [upd_n _ _ (by omega)]; exact q2 y (by omega))
      refine ⟨X', z1, z2, ?_⟩
      rw [b197_59, if_neg (show ¬ (4 : Int32) ≤ nI x from nI_ge (b := 4) (by omega) (by omega)), g187 _ _ (tq_at hE hp x)]
      simp only [aBi]
      rw [m4, nI_add, b197_81, nI_clamp (by omega), if_neg (t32 (by omega)), hX, nI_1]
      exact z3
  obtain ⟨X, z1, z2, z3⟩ := lp 4 0 (I1 54) (by decide) (fun _ _ => rfl) (fun y hy => by omega)
  rw [aR_id] at z3
  have z3 : aE d 197 59 [.ref 46, .int (nI k), .int 1, .int 0] [] (g, pM I1 p, J, aP1 sl 53 56) = aE d 197 59 [.ref 46, .int (nI k), .int 1, .int 4] [] (g, pM (aR I1 54 X) (lnS sg p), J, aP1 sl 53 56) := z3
  refine ⟨aR I1 54 X, .int 4, lnS sg p, Fr_s (Fr_r _ _) _ (by decide), fun i hi => by rw [aR_s]; exact z1 i hi, fun x hx => by rw [aR_s]; exact z2 x hx, rfl, by omega, ?_⟩
  rw [b197_24, if_neg (show ¬ (1 : Int32) = 0 by decide), f185, decide_eq_true p2]
  simp only [aBi]
  rw [b197_32, if_neg (show ¬ tI true = 0 by decide), pM_o _ _ (by decide) (by decide), f46, hn, nI_add, if_neg n8, z3, b197_59, if_pos (by decide), g191 _ _ (by omega)]
  simp only [aBi]
  rw [b197_97, nI_1]
  unfold ps
  by_cases h59 : pk sg (lnS sg p) = 59
  · rw [if_pos h59, if_pos h59, decide_eq_true h59]
    rfl
  · rw [if_neg h59, if_neg h59, decide_eq_false h59]
    rfl
theorem l197f (q15 : I0 46 15 = nI len) (q16 : I0 46 16 = nI top) (h1 : len ≤ 80) (h2 : top ≤ 80) (hn : I0 46 6 = nI n0) (k : Nat) (w : Value) (I1 : Nat → Nat → Int32) (p : Nat × Int32) (F : Fr [54] I0 I1) (p2 : p.2 = -1) (hp : p.1 ≤ top) (hk : n0 + k = 8) : aE d 197 24 [.ref 46, .int (nI k), .int 1, w] [] (g, pM I1 p, J, aP1 sl 53 56) = aE d 197 24 [.ref 46, .int (nI (k + 1)), .int 0, w] [] (g, pM I1 (flt p (nI p.1)), J, aP1 sl 53 56) := by
  have f46 : I1 46 = I0 46 := F 46 (by decide)
  have f := f191_52 (d := d) (g := g) (I := I1) (J := J) (sl := sl) (rl := 56) (p := flt p (nI p.1)) (len := len) (top := top) (by rw [f46]; exact q15) (by rw [f46]; exact q16) h1 h2 (by rw [flt_1]; omega) (c := 59) (by decide)
  have hk1 : pk (sgn (I1 52) len top) (flt p (nI p.1)) = -1 := if_neg (flt_bad (by omega))
  rw [hk1, decide_eq_false (by decide)] at f
  unfold ps at f
  rw [hk1, if_neg (by decide)] at f
  rw [b197_24, if_neg (show ¬ (1 : Int32) = 0 by decide), f185, decide_eq_true p2]
  simp only [aBi]
  rw [b197_32, if_neg (show ¬ tI true = 0 by decide), pM_o _ _ (by decide) (by decide), f46, hn, nI_add, if_pos (by rw [hk]; rfl), pM_17, f186]
  simp only [aBv]
  rw [b197_54, f]
  simp only [aBi]
  rw [b197_97, nI_1]
  rfl
end R2
/-! what is taken over -/
theorem cpr {β : Type} (X : Nat → (Nat → Int32) → β) {r c : Nat → Int32} {o N : Nat} (hs : ∀ j Y, j < N → X j Y = X (j + 1) (upd Y (o + j) (c j))) : ∀ (M j : Nat) (Y : Nat → Int32), j + M = N → (∀ i, i < o → Y i = r i) → (∀ i, i < j → Y (o + i) = c i) → ∃ Y', (∀ i, i < o → Y' i = r i) ∧ (∀ i, i < N → Y' (o + i) = c i) ∧ X j Y = X N Y' := by
  intro M
  induction M with
  | zero =>
    intro j Y hj h1 h2
    obtain rfl : j = N := by omega
    exact ⟨Y, h1, h2, rfl⟩
  | succ M ih =>
    intro j Y hj h1 h2
    obtain ⟨Y', z1, z2, z3⟩ := ih (j + 1) (upd Y (o + j) (c j)) (by omega) (fun i hi => by rw [upd_n _ _ (by omega)]; exact h1 i hi) (fun i hi => by
      by_cases e : i = j
      · subst e; exact upd_s _ _ _
      · rw [upd_n _ _ (by omega)]; exact h2 i (by omega))
    exact ⟨Y', z1, z2, (hs j Y (by omega)).trans z3⟩
theorem c195 {Ia : Nat → Nat → Int32} {K : Nat} (a2 : Int32) (h1 : Ia 46 4 = nI m) (hK : m + K ≤ 8) : ∃ I', Fr [46, 50] Ia I' ∧ F46 [4, 26, 37] Ia I' ∧ I' 46 4 = nI (m + K) ∧ I' 46 26 = 0 ∧ I' 46 37 = Ia 46 37 + 1 ∧ (∀ i, i < 4 * m → I' 50 i = Ia 50 i) ∧ (∀ i, i < 4 * K → I' 50 (4 * m + i) = Ia 54 i) ∧ aE d 195 93 [.ref 46, .int (nI K), .int a2, .int 0] [] (g, Ia, J, aP1 sl rd rl) = some (some (some (.int (nI K))), (g, I', J, aP1 sl rd rl)) := by
  have e4 : (4 : Int32) * nI K = nI (4 * K) := pk_mul 4 K
  have m4 : (4 : Int32) * nI m = nI (4 * m) := pk_mul 4 m
  obtain ⟨Y, z1, z2, z3⟩ := cpr (fun j Y => aE d 195 93 [.ref 46, .int (nI K), .int a2, .int (nI j)] [] (g, aR Ia 50 Y, J, aP1 sl rd rl)) (r := Ia 50) (c := Ia 54) (o := 4 * m) (N := 4 * K) (fun j Y hj => by
    rw [b195_93, e4, if_neg (nI_ge (by omega) (by omega)), nI_clamp (by omega), if_neg (t32 (by omega)), aR_r _ _ (show 46 ≠ 50 by decide), h1, m4, nI_add, nI_clamp (by omega), if_neg (t32 (by omega)), aR_r _ _ (show 54 ≠ 50 by decide), aU_R, aR_s, aR_u, nI_1]) (4 * K) 0 (Ia 50) (by omega) (fun _ _ => rfl) (fun i hi => by omega)
  have z3 : aE d 195 93 [.ref 46, .int (nI K), .int a2, .int 0] [] (g, aR Ia 50 (Ia 50), J, aP1 sl rd rl) = aE d 195 93 [.ref 46, .int (nI K), .int a2, .int (nI (4 * K))] [] (g, aR Ia 50 Y, J, aP1 sl rd rl) := z3
  rw [aR_id] at z3
  have e194 : ∀ I' : Nat → Nat → Int32, aF d 194 [.ref 46] (g, I', J, aP1 sl rd rl) = some (some none, (g, aU (aU I' 46 26 0) 46 37 (I' 46 37 + 1), J, aP1 sl rd rl)) := fun I' => b194_0 ..
  refine ⟨aU (aU (aU (aR Ia 50 Y) 46 4 (nI (m + K))) 46 26 0) 46 37 (Ia 46 37 + 1), ?_, ?_, ?_, ?_, ?_, ?_, ?_, ?_⟩
  · simp only [aU_R]; exact Fr_s (Fr_s (Fr_s (Fr_s (Fr_r _ _) _ (by decide)) _ (by decide)) _ (by decide)) _ (by decide)
  · intro k hk
    have n4 : k ≠ 4 := fun e => hk (by rw [e]; decide)
    have n26 : k ≠ 26 := fun e => hk (by rw [e]; decide)
    have n37 : k ≠ 37 := fun e => hk (by rw [e]; decide)
    rw [aU_i _ _ n37, aU_i _ _ n26, aU_i _ _ n4, aR_r _ _ (by decide)]
  · rw [aU_i _ _ (by decide), aU_i _ _ (by decide), aU_s]
  · rw [aU_i _ _ (by decide), aU_s]
  · rw [aU_s]
  · intro i hi; rw [aU_r _ _ (by decide), aU_r _ _ (by decide), aU_r _ _ (by decide), aR_s]; exact z1 i hi
  · intro i hi; rw [aU_r _ _ (by decide), aU_r _ _ (by decide), aU_r _ _ (by decide), aR_s]; exact z2 i hi
  · rw [z3, b195_93, e4, if_pos (Int32.le_refl _), e194]
    simp only [aBv]
    rw [b195_139, aR_r _ _ (show 46 ≠ 50 by decide), h1, nI_add, aU_i _ _ (show 37 ≠ 4 by decide), aR_r _ _ (show 46 ≠ 50 by decide)]
def entS (h : Nat → Int32) (q : Nat) : Nat → Nat → Int32
  | 0 => h
  | j + 1 => upd (entS h q j) (30 + (q + j)) (-1)
theorem okS_s1 {f h : Nat → Int32} (H : okS n q f h) (hq : q < 8) : okS n (q + 1) f (upd h (30 + q) (-1)) := by
  obtain ⟨a, b, c⟩ := H
  have z := b.2.2.2.2 q (Nat.le_refl _) hq
  have e : rV (upd h (30 + q) (-1)) = rV h := by
    rw [rV_upd _ _ (by omega)]; exact upd_id z
  unfold okS
  rw [e]
  exact ⟨a, ⟨b.1, b.2.1, b.2.2.1, b.2.2.2.1, fun j hj hj2 => b.2.2.2.2 j (by omega) hj2⟩, c⟩
theorem okS_sK {f h : Nat → Int32} (H : okS n q f h) : ∀ K, q + K ≤ 8 → okS n (q + K) f (entS h q K)
  | 0, _ => H
  | K + 1, h1 => by
    have := okS_s1 (okS_sK H K (by omega)) (show q + K < 8 by omega)
    exact this
theorem c197 {Ia : Nat → Nat → Int32} {K : Nat} (a2 : Int32) (h1 : Ia 46 6 = nI q) (hK : q + K ≤ 8) : ∃ I', Fr [46, 47, 51] Ia I' ∧ F46 [6, 26, 37] Ia I' ∧ I' 46 6 = nI (q + K) ∧ I' 46 26 = 0 ∧ I' 46 37 = Ia 46 37 + 1 ∧ I' 47 = entS (Ia 47) q K ∧ (∀ i, i < 4 * q → I' 51 i = Ia 51 i) ∧ (∀ i, i < 4 * K → I' 51 (4 * q + i) = Ia 54 i) ∧ aE d 197 117 [.ref 46, .int (nI K), .int a2, .int 0] [] (g, Ia, J, aP1 sl rd rl) = some (some (some (.int (nI K))), (g, I', J, aP1 sl rd rl)) := by
  have e4 : (4 : Int32) * nI K = nI (4 * K) := pk_mul 4 K
  have m4 : (4 : Int32) * nI q = nI (4 * q) := pk_mul 4 q
  obtain ⟨Y, z1, z2, z3⟩ := cpr (fun j Y => aE d 197 117 [.ref 46, .int (nI K), .int a2, .int (nI j)] [] (g, aR Ia 51 Y, J, aP1 sl rd rl)) (r := Ia 51) (c := Ia 54) (o := 4 * q) (N := 4 * K) (fun j Y hj => by
    rw [b197_117, e4, if_neg (nI_ge (by omega) (by omega)), nI_clamp (by omega), if_neg (t32 (by omega)), aR_r _ _ (show 46 ≠ 51 by decide), h1, m4, nI_add, nI_clamp (by omega), if_neg (t32 (by omega)), aR_r _ _ (show 54 ≠ 51 by decide), aU_R, aR_s, aR_u, nI_1]) (4 * K) 0 (Ia 51) (by omega) (fun _ _ => rfl) (fun i hi => by omega)
  have z3 : aE d 197 117 [.ref 46, .int (nI K), .int a2, .int 0] [] (g, aR Ia 51 (Ia 51), J, aP1 sl rd rl) = aE d 197 117 [.ref 46, .int (nI K), .int a2, .int (nI (4 * K))] [] (g, aR Ia 51 Y, J, aP1 sl rd rl) := z3
  rw [aR_id] at z3
  have lp : ∀ (M j : Nat) (I2 : Nat → Nat → Int32), j + M = K → Fr [46, 47] (aR Ia 51 Y) I2 → F46 [6] (aR Ia 51 Y) I2 → I2 46 6 = nI (q + j) → I2 47 = entS (Ia 47) q j → ∃ I', Fr [46, 47] (aR Ia 51 Y) I' ∧ F46 [6] (aR Ia 51 Y) I' ∧ I' 46 6 = nI (q + K) ∧ I' 47 = entS (Ia 47) q K ∧ aE d 197 151 [.ref 46, .int (nI K), .int a2, .int (nI j)] [] (g, I2, J, aP1 sl rd rl) = aBv (aF d 194 [.ref 46] (g, I', J, aP1 sl rd rl)) (fun t0 => aE d 197 189 [.ref 46, .int (nI K), .int a2, .int (nI K)] [] t0) := by
    intro M
    induction M with
    | zero =>
      intro j I2 hj q1 q2 q3 q4
      obtain rfl : j = K := by omega
      refine ⟨I2, q1, q2, q3, q4, ?_⟩
      rw [b197_151, if_pos (Int32.le_refl _)]
    | succ M ih =>
      intro j I2 hj q1 q2 q3 q4
      obtain ⟨I', z1, z2, z3, z4, z5⟩ := ih (j + 1) (aU (aU I2 47 (30 + (q + j)) (-1)) 46 6 (nI (q + j + 1))) (by omega) (by
          rw [aU_R, aU_R]
          exact Fr_s (Fr_s q1 _ (by decide)) _ (by decide)) (fun k hk => by
          have nk : k ≠ 6 := by simpa using hk
          rw [aU_i _ _ nk, aU_r _ _ (by decide)]
          exact q2 k hk) (by rw [aU_s]; rfl) (by
          rw [aU_r _ _ (by decide), aU_w, q4]; rfl)
      refine ⟨I', z1, z2, z3, z4, ?_⟩
      rw [b197_151, if_neg (nI_ge (by omega) (by omega)), q3, nIp30, nI_clamp (by omega), if_neg (t39 (by omega)), nI_1, nI_1]
      exact z5
  obtain ⟨I', y1, y2, y3, y4, y5⟩ := lp K 0 (aR Ia 51 Y) (by omega) (Fr_r _ _) (F46_r _ _) (by rw [aR_r _ _ (by decide)]; exact h1) (by rw [aR_r _ _ (by decide)]; rfl)
  have y5 : aE d 197 151 [.ref 46, .int (nI K), .int a2, .int 0] [] (g, aR Ia 51 Y, J, aP1 sl rd rl) = aBv (aF d 194 [.ref 46] (g, I', J, aP1 sl rd rl)) (fun t0 => aE d 197 189 [.ref 46, .int (nI K), .int a2, .int (nI K)] [] t0) := y5
  have e194 : aF d 194 [.ref 46] (g, I', J, aP1 sl rd rl) = some (some none, (g, aU (aU I' 46 26 0) 46 37 (I' 46 37 + 1), J, aP1 sl rd rl)) := b194_0 ..
  refine ⟨aU (aU I' 46 26 0) 46 37 (I' 46 37 + 1), ?_, ?_, ?_, ?_, ?_, ?_, ?_, ?_, ?_⟩
  · rw [aU_R, aU_R]; exact Fr_s (Fr_s (Fr_t (Fr_s (Fr_r _ _) _ (by decide)) (Fr_w y1 (by decide))) _ (by decide)) _ (by decide)
  · intro k hk
    have n26 : k ≠ 26 := fun e => hk (by rw [e]; decide)
    have n37 : k ≠ 37 := fun e => hk (by rw [e]; decide)
    rw [aU_i _ _ n37, aU_i _ _ n26, y2 k (fun h => hk (by simp at h; rw [h]; decide)), aR_r _ _ (by decide)]
  · rw [aU_i _ _ (by decide), aU_i _ _ (by decide)]; exact y3
  · rw [aU_i _ _ (by decide), aU_s]
  · rw [aU_s, y2 37 (by decide), aR_r _ _ (by decide)]
  · rw [aU_r _ _ (by decide), aU_r _ _ (by decide)]; exact y4
  · intro i hi; rw [aU_r _ _ (by decide), aU_r _ _ (by decide), y1 51 (by decide), aR_s]; exact z1 i hi
  · intro i hi; rw [aU_r _ _ (by decide), aU_r _ _ (by decide), y1 51 (by decide), aR_s]; exact z2 i hi
  · rw [z3, b197_117, e4, if_pos (Int32.le_refl _), y5, e194]
    simp only [aBv]
    rw [b197_189]
