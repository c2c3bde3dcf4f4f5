/-! lines of signs: the class -/
variable {d : Nat} {g : Nat × Nat × Nat} {I : Nat → Nat → Int32} {J : Nat → Nat → Int64} {sl rd rl : Nat} {t n m q : Nat}
/-- lines: room, how many, where -/
def lnL (sg : Nat → Int32) (ln : Nat × Int32 → Nat × Int32) : Nat → Nat → Nat × Int32 → Nat × (Nat × Int32)
  | 0, k, p => (k, flt p (nI p.1))
  | r + 1, k, p => if pk sg (ln p) = 59 then lnL sg ln r (k + 1) (adv (ln p)) else (k + 1, ln p)
/-- where line j begins -/
def lnP (ln : Nat × Int32 → Nat × Int32) : Nat → Nat × Int32
  | 0 => (0, -1)
  | j + 1 => adv (ln (lnP ln j))
theorem lnL_b (sg : Nat → Int32) (ln : Nat × Int32 → Nat × Int32) : ∀ r k p, k ≤ (lnL sg ln r k p).1 ∧ (lnL sg ln r k p).1 ≤ k + r
  | 0, k, p => ⟨Nat.le_refl _, Nat.le_refl _⟩
  | r + 1, k, p => by
    have := lnL_b sg ln r (k + 1) (adv (ln p))
    unfold lnL
    split
    · exact ⟨by omega, by omega⟩
    · exact ⟨by show k ≤ k + 1; omega, by show k + 1 ≤ k + (r + 1); omega⟩
def cl (sg : Nat → Int32) (p : Nat × Int32) : Int32 × (Nat × Int32) := if pk sg p = 103 then (1, adv p) else (0, (tk sg 98 98 p).2)
theorem cl_at {sg : Nat → Int32} {N : Nat} (hE : sgE sg N) {p : Nat × Int32} (hp : p.1 ≤ N) : (cl sg p).2.1 ≤ N := by
  unfold cl
  split
  · rename_i h
    exact pk_at hE (p := p) (by rw [h]; decide)
  · exact (tk_at hE (by decide) hp).2
section C
variable {len top : Nat} {sg : Nat → Int32}
theorem f49 {p : Nat × Int32} (hm : I 9 1 = nI top) (hl : I 7 1 = nI len) (h1 : len ≤ 80) (h2 : top ≤ 80) (hp : p.1 ≤ 80) : aF d 49 [.ref 9] (g, pC I p, J, aP1 sl rd rl) = some (some (some (.int (cl (sgc (I 8) len top) p).1)), (g, pC I (cl (sgc (I 8) len top) p).2, J, aP1 sl rd rl)) := by
  show aE d 49 0 [.ref 9] [] _ = _
  rw [b49_0, f30 hm hl h1 h2 hp]
  simp only [aBi]
  rw [b49_4]
  unfold cl
  by_cases h : pk (sgc (I 8) len top) p = 103
  · rw [if_pos h, if_pos h, f33]
    simp only [aBv]
    rw [b49_13]
  · rw [if_neg h, if_neg h, f36 hm hl h1 h2 hp]
    simp only [aBi]
    rw [b49_23]
/-- rows below i, w cells each, are the same -/
def Ke (w i : Nat) (I I' : Nat → Nat → Int32) : Prop := ∀ a, a ≠ 9 → ∀ k, k < w * i → I' a k = I a k
theorem Ke_r (w i : Nat) (I : Nat → Nat → Int32) : Ke w i I I := fun _ _ _ _ => rfl
theorem Ke_t {w i : Nat} {I I' I'' : Nat → Nat → Int32} (h : Ke w i I I') (h2 : Ke w i I' I'') : Ke w i I I'' := fun a ha k hk => (h2 a ha k hk).trans (h a ha k hk)
theorem Ke_m {w i j : Nat} {I I' : Nat → Nat → Int32} (h : Ke w i I I') (hj : j ≤ i) : Ke w j I I' := fun a ha k hk => h a ha k (Nat.lt_of_lt_of_le hk (Nat.mul_le_mul_left w hj))
theorem Ke_p (w i : Nat) (I : Nat → Nat → Int32) (p : Nat × Int32) : Ke w i I (pC I p) := fun a ha k _ => by rw [pC_r _ _ ha]
/-- the class reads lines, given how it reads one -/
theorem f47 {S : List Nat} {kind : Int32} {ln : Nat × Int32 → Nat × Int32} {Vc : (Nat → Nat → Int32) → Nat → Nat × Int32 → Prop} {n0 w : Nat} (hl : I 7 1 = nI len) (h1 : len ≤ 80) (h2 : top ≤ 80) (hn0 : n0 ≤ 8) (hsg : sg = sgc (I 8) len top) (h7 : 7 ∉ S) (h8 : 8 ∉ S) (h9 : 9 ∉ S)
    (hat : ∀ p, p.1 ≤ top → (ln p).1 ≤ top)
    (h48 : ∀ (I1 : Nat → Nat → Int32) (p : Nat × Int32) (i : Nat), i < 8 → I1 9 1 = nI top → I1 7 1 = nI len → sg = sgc (I1 8) len top → p.1 ≤ top → ∃ I2, Fr S I1 I2 ∧ Ke w i I1 I2 ∧ Vc I2 i p ∧ aF d 48 [.ref 9, .int kind, .ref 14, .int (nI i)] (g, pC I1 p, J, aP1 sl rd rl) = some (some none, (g, pC I2 (ln p), J, aP1 sl rd rl)))
    (hVk : ∀ I1 I2 i k p', Ke w i I1 I2 → k < i → Vc I1 k p' → Vc I2 k p') :
    ∃ I', Fr (9 :: S) I I' ∧ Ke w n0 I I' ∧ (0 < len → ∀ j, j < (lnL sg ln (8 - n0) 0 (0, -1)).1 → n0 + j < 8 → Vc I' (n0 + j) (lnP ln j)) ∧ aF d 47 [.ref 9, .int kind, .int (nI top), .ref 14, .int (nI n0)] (g, I, J, aP1 sl rd rl) = some (some (some (.int (if len = 0 then 0 else if rW (lnL sg ln (8 - n0) 0 (0, -1)).2 len = -1 then nI (lnL sg ln (8 - n0) 0 (0, -1)).1 else -1 - rW (lnL sg ln (8 - n0) 0 (0, -1)).2 len))), (g, I', J, aP1 sl rd rl)) := by
  generalize hI0 : aU I 9 1 (nI top) = I0
  have F0 : Fr (9 :: S) I I0 := by rw [← hI0, aU_R]; exact Fr_s (Fr_r _ _) _ (List.mem_cons_self ..)
  have hm : I0 9 1 = nI top := by rw [← hI0, aU_s]
  have K0 : Ke w n0 I I0 := fun a ha k _ => by rw [← hI0, aU_r _ _ ha]
  have r7 : ∀ {I1 : Nat → Nat → Int32}, Fr S I0 I1 → I1 7 = I 7 := fun {I1} h => by rw [h 7 h7, F0 7 (by simp [h7])]
  have r8 : ∀ {I1 : Nat → Nat → Int32}, Fr S I0 I1 → I1 8 = I 8 := fun {I1} h => by rw [h 8 h8, F0 8 (by simp [h8])]
  have r9 : ∀ {I1 : Nat → Nat → Int32}, Fr S I0 I1 → I1 9 1 = nI top := fun {I1} h => by rw [h 9 h9]; exact hm
  have e29 : aF d 29 [.ref 9, .int (nI top)] (g, I, J, aP1 sl rd rl) = some (some none, (g, pC I0 (0, -1), J, aP1 sl rd rl)) := by rw [f29, hI0]
  have C0 : aF d 47 [.ref 9, .int kind, .int (nI top), .ref 14, .int (nI n0)] (g, I, J, aP1 sl rd rl) = aE d 47 12 [.ref 9, .int kind, .int (nI top), .ref 14, .int (nI n0), .int 0, .int (nI n0)] [] (g, pC I0 (0, -1), J, aP1 sl rd rl) := by
    show aE d 47 0 [.ref 9, .int kind, .int (nI top), .ref 14, .int (nI n0), aNo, aNo] [] _ = _
    rw [b47_0, e29]
    simp only [aBv]
    rw [b47_5]
  have n8 : ¬ (8 : Int32) < nI n0 := nI_nlt (a := 8) hn0 (by decide)
  by_cases hz : len = 0
  · subst hz
    obtain ⟨p', a3⟩ := f41 (d := d) (g := g) (I := I0) (J := J) (sl := sl) (rd := rd) (rl := rl) (len := 0) (p := (0, -1)) (by rw [r7 (Fr_r _ _)]; exact hl) (by decide) (by decide) 0
    have rw0 : rW (0, -1) 0 = -1 := rfl
    rw [rw0, if_pos rfl] at a3
    refine ⟨pC I0 p', ?_, Ke_t K0 (Ke_p _ _ _ _), fun h => by omega, ?_⟩
    · unfold pC; exact Fr_s F0 _ (List.mem_cons_self ..)
    · rw [C0, b47_12, if_neg n8, if_pos (by rw [pC_r _ _ (by decide), r7 (Fr_r _ _), hl]; decide), a3, if_pos rfl]
      simp only [aBi]
      rw [b47_86]
  have lp : ∀ (r k : Nat) (I1 : Nat → Nat → Int32), n0 + k + r = 8 → Fr S I0 I1 → Ke w n0 I0 I1 → (lnP ln k).1 ≤ top → (∀ j, j < k → Vc I1 (n0 + j) (lnP ln j)) → ∃ I' p', Fr S I0 I' ∧ Ke w n0 I0 I' ∧ (∀ j, j < (lnL sg ln r k (lnP ln k)).1 → n0 + j < 8 → Vc I' (n0 + j) (lnP ln j)) ∧ aE d 47 12 [.ref 9, .int kind, .int (nI top), .ref 14, .int (nI n0), .int (nI k), .int (nI (n0 + k))] [] (g, pC I1 (lnP ln k), J, aP1 sl rd rl) = some (some (some (.int (if rW (lnL sg ln r k (lnP ln k)).2 len = -1 then nI (lnL sg ln r k (lnP ln k)).1 else -1 - rW (lnL sg ln r k (lnP ln k)).2 len))), (g, pC I' p', J, aP1 sl rd rl)) := by
    intro r
    induction r with
    | zero =>
      intro k I1 hk q1 qk q2 q3
      obtain ⟨p', a3⟩ := f41 (d := d) (g := g) (I := I1) (J := J) (sl := sl) (rd := rd) (rl := rl) (len := len) (p := flt (lnP ln k) (nI (lnP ln k).1)) (by rw [r7 q1]; exact hl) h1 (by rw [flt_1]; omega) (nI k)
      refine ⟨I1, p', q1, qk, fun j hj _ => q3 j hj, ?_⟩
      have e8 : nI (n0 + k) = 8 := by rw [show n0 + k = 8 by omega]; rfl
      rw [b47_12, e8, if_neg (by decide), if_neg (by rw [pC_r _ _ (by decide), r7 q1, hl]; exact nI_ge (a := 0) (by omega) (by omega)), if_pos rfl, pC_2, f37]
      simp only [aBv]
      rw [b47_44, a3]
      simp only [aBi]
      rw [b47_86]
      rfl
    | succ r ih =>
      intro k I1 hk q1 qk q2 q3
      obtain ⟨I2, u1, u2, u3, u4⟩ := h48 I1 (lnP ln k) (n0 + k) (by omega) (r9 q1) (by rw [r7 q1]; exact hl) (by rw [r8 q1]; exact hsg) q2
      have q4 : Fr S I0 I2 := Fr_t q1 u1
      have qk2 : Ke w n0 I0 I2 := Ke_t qk (Ke_m u2 (by omega))
      have q5 : ∀ j, j < k + 1 → Vc I2 (n0 + j) (lnP ln j) := fun j hj => by
        by_cases e : j = k
        · subst e; exact u3
        · exact hVk _ _ _ _ _ u2 (by omega) (q3 j (by omega))
      have t2 := hat _ q2
      have e30 := f30 (d := d) (g := g) (I := I2) (J := J) (sl := sl) (rd := rd) (rl := rl) (p := ln (lnP ln k)) (len := len) (top := top) (r9 q4) (by rw [r7 q4]; exact hl) h1 h2 (by omega)
      rw [r8 q4, ← hsg] at e30
      have n8' : ¬ nI (n0 + k) = 8 := fun e => absurd ((nI_eq (b := 8) (by omega) (by decide)).mp e) (by omega)
      rw [b47_12, if_neg (show ¬ 8 < nI (n0 + k) from nI_nlt (a := 8) (by omega) (by decide)), if_neg (by rw [pC_r _ _ (by decide), r7 q1, hl]; exact nI_ge (a := 0) (by omega) (by omega)), if_neg n8', u4]
      simp only [aBv]
      rw [b47_55, e30]
      simp only [aBi]
      rw [b47_62, nI_1]
      by_cases h59 : pk sg (ln (lnP ln k)) = 59
      · have el : lnL sg ln (r + 1) k (lnP ln k) = lnL sg ln r (k + 1) (lnP ln (k + 1)) := if_pos h59
        have pt : (lnP ln (k + 1)).1 ≤ top := by
          have hE : sgE sg top := by rw [hsg]; exact sgc_E _ _ _
          exact pk_at hE (p := ln (lnP ln k)) (by rw [h59]; decide)
        obtain ⟨I', p', z1, zk, z2, z3⟩ := ih (k + 1) I2 (by omega) q4 qk2 pt q5
        rw [el, if_pos h59, f33]
        refine ⟨I', p', z1, zk, z2, ?_⟩
        simp only [aBv]
        rw [b47_74, nI_1]
        exact z3
      · have el : lnL sg ln (r + 1) k (lnP ln k) = (k + 1, ln (lnP ln k)) := if_neg h59
        obtain ⟨p', a3⟩ := f41 (d := d) (g := g) (I := I2) (J := J) (sl := sl) (rd := rd) (rl := rl) (len := len) (p := ln (lnP ln k)) (by rw [r7 q4]; exact hl) h1 (by omega) (nI (k + 1))
        rw [el, if_neg h59, a3]
        refine ⟨I2, p', q4, qk2, fun j hj _ => q5 j hj, ?_⟩
        simp only [aBi]
        rw [b47_86]
  obtain ⟨I', p', z1, zk, z2, z3⟩ := lp (8 - n0) 0 I0 (by omega) (Fr_r _ _) (Ke_r _ _ _) (by show 0 ≤ top; omega) (fun j hj => by omega)
  refine ⟨pC I' p', ?_, Ke_t K0 (Ke_t zk (Ke_p _ _ _ _)), fun _ j hj hj2 => hVk _ _ _ _ _ (Ke_p w (n0 + j + 1) I' p') (by omega) (z2 j hj hj2), ?_⟩
  · unfold pC
    exact Fr_s (Fr_t F0 (Fr_w z1 (fun a ha => List.mem_cons_of_mem _ ha))) _ (List.mem_cons_self ..)
  · rw [C0, if_neg hz]
    exact z3
end C
