/-! lead: tied -/
variable {d : Nat} {g : Nat × Nat × Nat} {I : Nat → Nat → Int32} {J : Nat → Nat → Int64} {sl rd rl : Nat} {t n m q : Nat}
def alG (F : Nat → Bool) : Nat → Nat → Bool
  | 0, _ => true
  | k + 1, j => F j && alG F k (j + 1)
theorem alG_id {F : Nat → Bool} : ∀ (k j : Nat), (∀ i, j ≤ i → i < j + k → F i = true) → alG F k j = true
  | 0, _, _ => rfl
  | k + 1, j, h => by
    show (F j && alG F k (j + 1)) = true
    rw [h j (by omega) (by omega), alG_id k (j + 1) (fun i h1 h2 => h i (by omega) (by omega))]; rfl
theorem alG_cut {F : Nat → Bool} : ∀ (k l j : Nat), (∀ i, j + k ≤ i → i < j + k + l → F i = true) → alG F (k + l) j = alG F k j
  | 0, l, j, h => by rw [Nat.zero_add]; exact alG_id l j (fun i h1 h2 => h i (by omega) (by omega))
  | k + 1, l, j, h => by
    rw [Nat.add_right_comm]
    show (F j && alG F (k + l) (j + 1)) = (F j && alG F k (j + 1))
    rw [alG_cut k l (j + 1) (fun i h1 h2 => h i (by omega) (by omega))]
theorem alG_no {F : Nat → Bool} : ∀ (k j i : Nat), j ≤ i → i < j + k → F i = false → alG F k j = false
  | 0, j, i, h1, h2, _ => by omega
  | k + 1, j, i, h1, h2, h => by
    show (F j && alG F k (j + 1)) = false
    by_cases e : i = j
    · subst e; rw [h]; rfl
    · rw [alG_no k (j + 1) i (by omega) (by omega) h, Bool.and_false]
def gdC (n c : Nat) (v : Nat → Int32) (S : Int32) (i : Nat) : Bool := !(bt S i) || (decide (i < n) && !decide (v (6 + i) = nI c) && !decide (v (14 + i) = 1))
def hV (v : Nat → Int32) (c : Nat) (S : Int32) : Nat → Nat → Int32
  | 0 => v
  | i + 1 => if bt S i = true then rHex (hV v c S i) c i else hV v c S i
def okL (n c m0 : Nat) (v : Nat → Int32) (W : (Nat → Int32) → Bool) (S : Int32) : Bool := alG (gdC n c v S) 8 0 && decide (5 * cnt S 8 ≤ m0) && W (hV v c S 8)
theorem cnt_k (S : Int32) : ∀ {i k : Nat}, i ≤ k → cnt S i ≤ cnt S k := by
  intro i k h
  induction k with
  | zero => obtain rfl : i = 0 := by omega
            exact Nat.le_refl _
  | succ k ih =>
    by_cases e : i = k + 1
    · subst e; exact Nat.le_refl _
    · have := ih (by omega)
      show cnt S i ≤ cnt S k + (bt S k).toNat
      omega
theorem hV_l {v : Nat → Int32} {c : Nat} {S : Int32} (hc : c < 2) : ∀ {i : Nat}, i ≤ 8 → ∀ k, k < 8 → hV v c S i (6 + k) = v (6 + k)
  | 0, _, _, _ => rfl
  | i + 1, hi, k, hk => by
    have ih := hV_l (v := v) (S := S) hc (i := i) (by omega) k hk
    unfold hV
    split
    · unfold rHex; rw [upd_n _ _ (by omega), upd_n _ _ (by omega)]; exact ih
    · exact ih
theorem hV_x {v : Nat → Int32} {c : Nat} {S : Int32} (hc : c < 2) : ∀ {i : Nat}, i ≤ 8 → ∀ k, i ≤ k → k < 8 → hV v c S i (14 + k) = v (14 + k)
  | 0, _, _, _, _ => rfl
  | i + 1, hi, k, h1, hk => by
    have ih := hV_x (v := v) (S := S) hc (i := i) (by omega) k (by omega) hk
    unfold hV
    split
    · unfold rHex; rw [upd_n _ _ (by omega), upd_n _ _ (by omega)]; exact ih
    · exact ih
theorem hV_m {v : Nat → Int32} {c m0 : Nat} {S : Int32} (hc : c < 2) (hv : v c = nI m0) : ∀ {i : Nat}, i ≤ 8 → 5 * cnt S i ≤ m0 → hV v c S i c = nI (m0 - 5 * cnt S i)
  | 0, _, _ => hv
  | i + 1, hi, h => by
    have e : cnt S (i + 1) = cnt S i + (bt S i).toNat := rfl
    have ih := hV_m (S := S) hc hv (i := i) (by omega) (by omega)
    unfold hV
    by_cases hb : bt S i = true
    · rw [if_pos hb]
      rw [hb] at e
      have e : cnt S (i + 1) = cnt S i + 1 := e
      unfold rHex
      rw [upd_n _ _ (by omega), upd_s, ih, show nI (m0 - 5 * cnt S i) - 5 = nI (m0 - 5 * cnt S i - 5) from pk_sub (b := 5) (by omega)]
      congr 1; omega
    · rw [if_neg hb]
      rw [show bt S i = false by simpa using hb] at e
      have e : cnt S (i + 1) = cnt S i := e
      rw [e]; exact ih
theorem tI_1 (b : Bool) : (tI b = 1) = (b = true) := by cases b <;> decide
/-- the class: all of S are cursed in the trial -/
theorem f115 {c m0 : Nat} {v : Nat → Int32} (h0 : I 14 0 = nI n) (hn : n ≤ 8) (hc : c < 2) (hm : m0 ≤ 9999) (hv : cV (I 24) = v) (hv2 : v c = nI m0) (S : Int32) : ∃ I', Fr [28] I I' ∧ ((alG (gdC n c v S) 8 0 && decide (5 * cnt S 8 ≤ m0)) = true → cV (I' 28) = hV v c S 8) ∧ aF d 115 [.ref 6, .int (nI c), .int S] (g, I, J, aP1 sl rd rl) = some (some (some (.int (tI (alG (gdC n c v S) 8 0 && decide (5 * cnt S 8 ≤ m0))))), (g, I', J, aP1 sl rd rl)) := by
  have l : ∀ (M i : Nat) (I1 : Nat → Nat → Int32), i + M = 8 → Fr [28] I I1 → cV (I1 28) = hV v c S i → 5 * cnt S i ≤ m0 → ∃ I', Fr [28] I I' ∧ ((alG (gdC n c v S) M i && decide (5 * cnt S 8 ≤ m0)) = true → cV (I' 28) = hV v c S 8) ∧ aE d 115 13 [.ref 6, .int (nI c), .int S, .int (nI i)] [] (g, I1, J, aP1 sl rd rl) = some (some (some (.int (tI (alG (gdC n c v S) M i && decide (5 * cnt S 8 ≤ m0))))), (g, I', J, aP1 sl rd rl)) := by
    intro M
    induction M with
    | zero =>
      intro i I1 hi q1 q2 q3
      obtain rfl : i = 8 := by omega
      refine ⟨I1, q1, fun _ => q2, ?_⟩
      rw [b115_13, if_pos (show 8 ≤ nI 8 by decide), decide_eq_true q3]
      rfl
    | succ M ih =>
      intro i I1 hi q1 q2 q3
      have eg : alG (gdC n c v S) (M + 1) i = (gdC n c v S i && alG (gdC n c v S) M (i + 1)) := rfl
      have ec : cnt S (i + 1) = cnt S i + (bt S i).toNat := rfl
      have eh : hV v c S (i + 1) = if bt S i = true then rHex (hV v c S i) c i else hV v c S i := rfl
      rw [b115_13, if_neg (show ¬ 8 ≤ nI i from nI_ge (b := 8) (by omega) (by omega)), f93, hasT_bt _ (by omega)]
      simp only [aBi]
      rw [b115_24, nI_1]
      by_cases hb : bt S i = true
      · rw [hb, if_neg (by decide)]
        rw [hb] at ec
        have ec : cnt S (i + 1) = cnt S i + 1 := ec
        have fail : ∀ (x : Int32), ¬ 0 ≤ x → (gdC n c v S i = false ∨ ¬ 5 * cnt S 8 ≤ m0) → aF d 91 [.ref 27, .ref 14, .int (nI c), .int (nI i)] (g, I1, J, aP1 sl rd rl) = some (some (some (.int x)), (g, I1, J, aP1 sl rd rl)) → ∃ I', Fr [28] I I' ∧ ((alG (gdC n c v S) (M + 1) i && decide (5 * cnt S 8 ≤ m0)) = true → cV (I' 28) = hV v c S 8) ∧ aBi (aF d 91 [.ref 27, .ref 14, .int (nI c), .int (nI i)] (g, I1, J, aP1 sl rd rl)) (fun x0 t0 => aE d 115 40 [.ref 6, .int (nI c), .int S, .int (nI i)] [.int x0] t0) = some (some (some (.int (tI (alG (gdC n c v S) (M + 1) i && decide (5 * cnt S 8 ≤ m0))))), (g, I', J, aP1 sl rd rl)) := by
          intro x hx hf e
          have z : (alG (gdC n c v S) (M + 1) i && decide (5 * cnt S 8 ≤ m0)) = false := by
            rcases hf with h | h
            · rw [eg, h]; rfl
            · rw [decide_eq_false h, Bool.and_false]
          refine ⟨I1, q1, fun h => ?_, ?_⟩
          · rw [z] at h; exact absurd h (by decide)
          · rw [e, z]
            simp only [aBi]
            rw [b115_40, if_neg hx]; rfl
        by_cases hin : i < n
        · have gl : I1 28 (8 + i) = v (6 + i) := by rw [← cV_l (I1 28) (show i < 8 by omega), q2]; exact hV_l hc (by omega) i (by omega)
          have gx : tI (hasT (I1 28 7) (nI i)) = v (14 + i) := by rw [← cV_x (I1 28) (show i < 8 by omega), q2]; exact hV_x hc (by omega) i (Nat.le_refl _) (by omega)
          have gm : I1 28 c = nI (m0 - 5 * cnt S i) := by rw [← cV_c (I1 28) (by omega) (show c < 6 by omega), q2]; exact hV_m hc hv2 (by omega) q3
          have f := f91_28 (d := d) (g := g) (I := I1) (J := J) (sl := sl) (rd := rd) (rl := rl) hc hin hn (by rw [q1 14 (by decide)]; exact h0)
          rw [gl] at f
          by_cases c1 : v (6 + i) = nI c
          · rw [if_pos c1] at f
            exact fail (-2) (by decide) (Or.inl (by unfold gdC; rw [hb, decide_eq_true c1]; simp)) f
          rw [if_neg c1] at f
          by_cases c2 : hasT (I1 28 7) (nI i) = true
          · rw [if_pos c2] at f
            rw [c2] at gx
            exact fail (-3) (by decide) (Or.inl (by unfold gdC; rw [hb, decide_eq_true (show v (14 + i) = 1 from gx.symm)]; simp)) f
          rw [if_neg c2] at f
          by_cases c3 : 5 ≤ I1 28 c
          · rw [if_pos c3] at f
            have c4 : 5 ≤ m0 - 5 * cnt S i := by rw [gm] at c3; exact nI_lei (a := 5) c3 (by omega)
            have ev : cV (cHex (I1 28) c i) = hV v c S (i + 1) := by
              rw [cHex_v hc (by omega) gm (by omega) c4, q2, eh, if_pos hb]
            have en : cHex (I1 28) c i c = nI (m0 - 5 * cnt S (i + 1)) := by
              rw [← cV_c (cHex (I1 28) c i) (by omega) (show c < 6 by omega), ev]
              exact hV_m hc hv2 (by omega) (by omega)
            have gt : gdC n c v S i = true := by
              unfold gdC
              have : ¬ v (14 + i) = 1 := by rw [← gx, tI_1]; exact c2
              rw [decide_eq_false c1, decide_eq_false this, decide_eq_true hin]; simp
            obtain ⟨I', r1, r2, r3⟩ := ih (i + 1) (aR I1 28 (cHex (I1 28) c i)) (by omega) (Fr_s q1 _ (by decide)) (by rw [aR_s]; exact ev) (by omega)
            refine ⟨I', r1, fun h => r2 (by rw [eg, gt] at h; exact h), ?_⟩
            rw [f, en]
            simp only [aBi]
            rw [b115_40, if_pos (show 0 ≤ nI (m0 - 5 * cnt S (i + 1)) from nI_le (a := 0) (by omega) (by omega)), nI_1, eg, gt, Bool.true_and]
            exact r3
          · rw [if_neg c3] at f
            refine fail (-4) (by decide) (Or.inr (fun h => c3 ?_)) f
            have := cnt_k S (show i + 1 ≤ 8 by omega)
            rw [gm]
            exact nI_le (a := 5) (by omega) (by omega)
        · refine fail (-1) (by decide) (Or.inl (by unfold gdC; rw [hb, decide_eq_false hin]; simp)) (f91n_28 (n := n) (by rw [q1 14 (by decide)]; exact h0) (Or.inr ?_))
          exact Or.inr (nI_le (by omega) (by omega))
      · have hb' : bt S i = false := by simpa using hb
        rw [hb', if_pos tI_f]
        rw [hb'] at ec
        have ec : cnt S (i + 1) = cnt S i := ec
        rw [if_neg hb] at eh
        have gt : gdC n c v S i = true := by unfold gdC; rw [hb']; rfl
        obtain ⟨I', r1, r2, r3⟩ := ih (i + 1) I1 (by omega) q1 (by rw [eh]; exact q2) (by omega)
        refine ⟨I', r1, fun h => r2 (by rw [eg, gt] at h; exact h), ?_⟩
        rw [eg, gt, Bool.true_and]
        exact r3
  have T28 : ∀ k, k < 32 → cpT I 28 k = I 24 k := fun k hk => cpT_28 I hk
  obtain ⟨I', r1, r2, r3⟩ := l 8 0 (cpT I) (by omega) (cpT_F I) (by rw [cpT_V, hv]; rfl) (by show 5 * 0 ≤ m0; omega)
  refine ⟨I', r1, r2, ?_⟩
  show aE d 115 0 [.ref 6, .int (nI c), .int S, aNo] [] _ = _
  rw [b115_0, f63_28]
  simp only [aBv]
  rw [b115_11]
  exact r3
def lBI : Option Nat → Int32
  | none => -1
  | some B => nI B
def lBC : Option Nat → Int32
  | none => 9
  | some B => nI (cnt (nI B) 8)
def skp : Option Nat → Nat → Bool
  | none, _ => false
  | some B, S => decide (cnt (nI B) 8 ≤ cnt (nI S) 8)
def ld1 (ok : Int32 → Bool) (S : Nat) (b : Option Nat) : Option Nat := if skp b S = true then b else if ok (nI S) = true then some S else b
theorem skC (b : Option Nat) (S : Nat) : (lBC b ≤ nI (cnt (nI S) 8)) ↔ skp b S = true := by
  have h := cnt_le (nI S) 8
  cases b with
  | none => exact ⟨fun q => absurd q (nI_ge (b := 9) (by omega) (by omega)), fun q => Bool.noConfusion q⟩
  | some B =>
    have h2 := cnt_le (nI B) 8
    show nI (cnt (nI B) 8) ≤ nI (cnt (nI S) 8) ↔ decide (cnt (nI B) 8 ≤ cnt (nI S) 8) = true
    rw [decide_eq_true_iff]
    exact ⟨fun q => nI_lei q (by omega), fun q => nI_le q (by omega)⟩
theorem ld_lt {ok : Int32 → Bool} : ∀ (k j : Nat) (b : Option Nat), j + k ≤ 256 → (∀ B, b = some B → B < 256) → ∀ B, fo (ld1 ok) k j b = some B → B < 256
  | 0, _, _, _, h => h
  | k + 1, j, b, hj, h => by
    rw [fo_1]
    refine ld_lt k (j + 1) _ (by omega) ?_
    intro B hB
    unfold ld1 at hB
    split at hB
    · exact h B hB
    · split at hB
      · have : j = B := by simpa using hB
        omega
      · exact h B hB
theorem nIm1b {B : Nat} (h : B < 256) : ¬ nI B = -1 := fun e => nI_nlt (a := B) (b := 0) (by omega) (by omega) (by rw [e]; decide)
theorem f114 {c m0 : Nat} {v : Nat → Int32} {W : (Nat → Int32) → Bool} (h0 : I 14 0 = nI n) (hn : n ≤ 8) (hc : c < 2) (hm : m0 ≤ 9999) (hv : cV (I 24) = v) (hv2 : v c = nI m0) (h113 : ∀ I1 : Nat → Nat → Int32, Fr [28, 35, 36] I I1 → ∀ S, cV (I1 28) = hV v c S 8 → ∃ I', Fr [35, 36] I1 I' ∧ aF d 113 [.ref 6, .ref 27, .int (nI c)] (g, I1, J, aP1 sl rd rl) = some (some (some (.int (tI (W (cV (I1 28)))))), (g, I', J, aP1 sl rd rl))) : ∃ I', Fr [28, 35, 36] I I' ∧ aF d 114 [.ref 6, .int (nI c)] (g, I, J, aP1 sl rd rl) = (match fo (ld1 (okL n c m0 v W)) 256 0 none with
    | none => some (some (some (.int (-2))), (g, I', J, aP1 sl rd rl))
    | some B => some (some (some (.int (nI (cnt (nI B) 8)))), (g, aU I' 12 1 1, aU J 13 0 (Int32.toInt64 (nI B)), aP1 sl rd rl))) := by
  have l : ∀ (M S : Nat) (b : Option Nat) (I1 : Nat → Nat → Int32) (w5 : Value), S + M = 256 → Fr [28, 35, 36] I I1 → ∃ I' w5', Fr [28, 35, 36] I I' ∧ aE d 114 17 [.ref 6, .int (nI c), .int (lBI b), .int (lBC b), .int (nI S), w5] [] (g, I1, J, aP1 sl rd rl) = aE d 114 17 [.ref 6, .int (nI c), .int (lBI (fo (ld1 (okL n c m0 v W)) M S b)), .int (lBC (fo (ld1 (okL n c m0 v W)) M S b)), .int (nI 256), w5'] [] (g, I', J, aP1 sl rd rl) := by
    intro M
    induction M with
    | zero =>
      intro S b I1 w5 hS q1
      obtain rfl : S = 256 := by omega
      exact ⟨I1, w5, q1, rfl⟩
    | succ M ih =>
      intro S b I1 w5 hS q1
      rw [fo_1, b114_17, if_neg (show ¬ 256 ≤ nI S from nI_ge (b := 256) (by omega) (by omega)), f12, bcN S (by omega)]
      simp only [aBi]
      rw [b114_30, nI_1]
      by_cases k1 : skp b S = true
      · rw [if_pos ((skC b S).mpr k1), show ld1 (okL n c m0 v W) S b = b from if_pos k1]
        exact ih (S + 1) b I1 _ (by omega) q1
      rw [if_neg (fun h => k1 ((skC b S).mp h))]
      obtain ⟨I2, f1, f2, f3⟩ := f115 (d := d) (g := g) (I := I1) (J := J) (sl := sl) (rd := rd) (rl := rl) (n := n) (c := c) (m0 := m0) (v := v) (by rw [q1 14 (by decide)]; exact h0) hn hc hm (by rw [q1 24 (by decide)]; exact hv) hv2 (nI S)
      have q2 : Fr [28, 35, 36] I I2 := Fr_t q1 (Fr_w f1 (by decide))
      rw [f3]
      simp only [aBi]
      rw [b114_45, nI_1]
      by_cases k2 : (alG (gdC n c v (nI S)) 8 0 && decide (5 * cnt (nI S) 8 ≤ m0)) = true
      · obtain ⟨I3, g1, g2⟩ := h113 I2 q2 (nI S) (f2 k2)
        rw [k2, if_neg (by decide), g2, f2 k2]
        simp only [aBi]
        rw [b114_57, nI_1]
        by_cases k3 : W (hV v c (nI S) 8) = true
        · have eo : okL n c m0 v W (nI S) = true := by unfold okL; rw [k2, k3]; rfl
          rw [k3, if_neg (by decide), show ld1 (okL n c m0 v W) S b = some S by unfold ld1; rw [if_neg k1, if_pos eo]]
          exact ih (S + 1) (some S) I3 _ (by omega) (Fr_t q2 (Fr_w g1 (by decide)))
        · have k3' : W (hV v c (nI S) 8) = false := by simpa using k3
          have eo : ¬ okL n c m0 v W (nI S) = true := by unfold okL; rw [k3', Bool.and_false]; decide
          rw [k3', if_pos tI_f, show ld1 (okL n c m0 v W) S b = b by unfold ld1; rw [if_neg k1, if_neg eo]]
          exact ih (S + 1) b I3 _ (by omega) (Fr_t q2 (Fr_w g1 (by decide)))
      · have k2' : (alG (gdC n c v (nI S)) 8 0 && decide (5 * cnt (nI S) 8 ≤ m0)) = false := by simpa using k2
        have eo : ¬ okL n c m0 v W (nI S) = true := by unfold okL; rw [k2', Bool.false_and]; decide
        rw [k2', if_pos tI_f, show ld1 (okL n c m0 v W) S b = b by unfold ld1; rw [if_neg k1, if_neg eo]]
        exact ih (S + 1) b I2 _ (by omega) q2
  obtain ⟨I', w5, r1, r2⟩ := l 256 0 none I aNo (by omega) (Fr_r _ _)
  have hb := ld_lt (ok := okL n c m0 v W) 256 0 none (by decide) (fun B h => by simp at h)
  refine ⟨I', r1, ?_⟩
  show aE d 114 0 [.ref 6, .int (nI c), aNo, aNo, aNo, aNo] [] _ = _
  have r2 : aE d 114 17 [.ref 6, .int (nI c), .int (-1), .int 9, .int 0, aNo] [] (g, I, J, aP1 sl rd rl) = _ := r2
  rw [b114_0, f75, isC_n hc]
  simp only [aBi]
  rw [b114_4, if_neg (by decide), r2, b114_17, if_pos (show 256 ≤ nI 256 by decide)]
  generalize fo (ld1 (okL n c m0 v W)) 256 0 none = b at hb
  cases b with
  | none => exact if_pos rfl
  | some B =>
    have hB := hb B rfl
    show (if nI B = -1 then _ else _) = _
    rw [if_neg (nIm1b hB), f83']
    simp only [aBv]
    rw [b114_89]
    rfl
theorem f253 {c : Nat} {v : Nat → Int32} (hN : I 46 1 = nI n) (hn : n ≤ 8) (hv : rV (I 47) = v) (S : Int32) : aF d 253 [.ref 46, .int S, .int (nI c)] (g, I, J, aP1 sl rd rl) = some (some (some (.int (tI (alG (gdC n c v S) n 0)))), (g, I, J, aP1 sl rd rl)) := by
  have l : ∀ (M i : Nat), i + M = n → aE d 253 2 [.ref 46, .int S, .int (nI c), .int (nI i)] [] (g, I, J, aP1 sl rd rl) = some (some (some (.int (tI (alG (gdC n c v S) M i)))), (g, I, J, aP1 sl rd rl)) := by
    intro M
    induction M with
    | zero =>
      intro i hi
      obtain rfl : i = n := by omega
      rw [b253_2, hN, if_pos (Int32.le_refl _)]; rfl
    | succ M ih =>
      intro i hi
      have eg : alG (gdC n c v S) (M + 1) i = (gdC n c v S i && alG (gdC n c v S) M (i + 1)) := rfl
      have hin : i < n := by omega
      have e6 : (6 : Int32) + nI i = nI (6 + i) := nI_add 6 i
      have e14 : (14 : Int32) + nI i = nI (14 + i) := nI_add 14 i
      have nn : ∀ k, k < 39 → ¬ (nI k < 0 ∨ 39 ≤ k) := fun k hk => by
        rintro (h | h)
        · exact nI_nlt (a := k) (b := 0) (by omega) (by omega) h
        · omega
      have r6 : I 47 (6 + i) = v (6 + i) := by rw [← hv, rV_lt _ (by omega)]
      have r14 : I 47 (14 + i) = v (14 + i) := by rw [← hv, rV_lt _ (by omega)]
      rw [b253_2, hN, if_neg (nI_ge hin (by omega)), f217, hasT_bt _ (by omega)]
      simp only [aBi]
      rw [b253_15, e6, e14, nI_clamp (by omega), nI_clamp (by omega), nI_1, eg, r6, r14]
      unfold gdC
      rw [decide_eq_true hin]
      by_cases hb : bt S i = true
      · rw [hb, if_neg (by decide), if_neg (nn _ (by omega)), if_neg (nn _ (by omega))]
        by_cases c1 : v (6 + i) = nI c
        · rw [if_pos c1, decide_eq_true c1]; simp; rfl
        · rw [if_neg c1, decide_eq_false c1]
          by_cases c2 : v (14 + i) = 1
          · rw [if_pos c2, decide_eq_true c2]; simp; rfl
          · rw [if_neg c2, decide_eq_false c2, ih (i + 1) (by omega)]
            simp
            rfl
      · rw [show bt S i = false by simpa using hb, if_pos tI_f, ih (i + 1) (by omega)]
        simp
        rfl
  show aE d 253 0 [.ref 46, .int S, .int (nI c), aNo] [] _ = _
  rw [b253_0]
  exact l n 0 (by omega)
theorem set_n : ∀ n, n ≤ 8 → ∀ S, S < 256 → (S < 2 ^ n ↔ ∀ i, i < 8 → n ≤ i → bt (nI S) i = false) := by decide +kernel
theorem pw_n : ∀ n, n ≤ 8 → (1 : Int32) <<< (nI n &&& 31) = nI (2 ^ n) := by decide +kernel
theorem hV_cut {v : Nat → Int32} {c : Nat} {S : Int32} {n : Nat} : ∀ l, (∀ i, n ≤ i → i < n + l → bt S i = false) → hV v c S (n + l) = hV v c S n
  | 0, _ => rfl
  | l + 1, h => by
    show (if bt S (n + l) = true then _ else hV v c S (n + l)) = _
    rw [if_neg (by rw [h (n + l) (by omega) (by omega)]; decide)]
    exact hV_cut l (fun i h1 h2 => h i h1 (by omega))
theorem f252 {rs : Nat} {rv : (Nat → Int32) → Int32} {sk v : Nat → Int32} {st : (Nat → Int32) → Nat → Int32} {c m0 : Nat} (hd : 41 ≤ d) (hV' : rRule (I 55) rs rv) (hB : byR (I 55)) (hC : ∀ t t' : Nat → Int32, (∀ k, k < 8 → t k = t' k) → rv t = rv t') (hs : I 46 22 = nI rs) (hN : I 46 1 = nI n) (hn : n ≤ 8) (h0 : 0 < n) (hst : st = sts rv sk) (hcl : clubs (fun i => v (6 + i)) n) (hsk : ∀ i, i < n → I 48 i = sk i) (hc : c < 2) (hm : m0 ≤ 9999) (hv : rV (I 47) = v) (hv2 : v c = nI m0) : ∃ I' rd', Fr [46, 57, 60] I I' ∧ F46 [13, 15, 16, 17, 18, 23] I I' ∧ aF d 252 [.ref 46, .int (nI c)] (g, I, J, aP1 sl rd 56) = (match fo (ld1 (okL n c m0 v (fun u => wv st n u (nI c)))) (2 ^ n) 0 none with
    | none => some (some (some (.int (-2))), (g, I', J, aP1 sl rd' 56))
    | some B => some (some (some (.int (nI (cnt (nI B) 8)))), (g, aU I' 46 12 1, aU J 53 0 (Int32.toInt64 (nI B)), aP1 sl rd' 56))) := by
  have p8 : 2 ^ n ≤ 256 := Nat.pow_le_pow_right (n := 2) (by decide) hn
  have l : ∀ (M S : Nat) (b : Option Nat) (I1 : Nat → Nat → Int32) (rd1 : Nat) (w4 w5 : Value), S + M = 2 ^ n → (∀ B, b = some B → B < 256) → (w4 = aNo ∨ ∃ x, w4 = .int x) → Fr [46, 57, 60] I I1 → F46 [13, 15, 16, 17, 18, 23] I I1 → ∃ I' rd' w4' w5', Fr [46, 57, 60] I I' ∧ F46 [13, 15, 16, 17, 18, 23] I I' ∧ (w4' = aNo ∨ ∃ x, w4' = .int x) ∧ aE d 252 28 [.ref 46, .int (nI c), .int (lBI b), .int (nI S), w4, w5] [] (g, I1, J, aP1 sl rd1 56) = aE d 252 28 [.ref 46, .int (nI c), .int (lBI (fo (ld1 (okL n c m0 v (fun u => wv st n u (nI c)))) M S b)), .int (nI (2 ^ n)), w4', w5'] [] (g, I', J, aP1 sl rd' 56) := by
    intro M
    induction M with
    | zero =>
      intro S b I1 rd1 w4 w5 hS hb hw q1 q2
      obtain rfl : S = 2 ^ n := by omega
      exact ⟨I1, rd1, w4, w5, q1, q2, hw, rfl⟩
    | succ M ih =>
      intro S b I1 rd1 w4 w5 hS hb hw q1 q2
      have hN1 : I1 46 1 = nI n := (q2 1 (by decide)).trans hN
      have k47 : I1 47 = I 47 := q1 47 (by decide)
      have S8 : S < 256 := by omega
      have hc39 : ¬ (nI c < 0 ∨ 39 ≤ c) := by
        rintro (h | h)
        · exact nI_nlt (a := c) (b := 0) (by omega) (by omega) h
        · omega
      have k1c : I1 47 c = nI m0 := by rw [k47, ← hv2, ← hv, rV_lt _ (by omega)]
      have c8 := cnt_le (nI S) 8
      have e5 : (5 : Int32) * nI (cnt (nI S) 8) = nI (5 * cnt (nI S) 8) := pk_mul 5 _
      have ng : ¬ (1 : Int32) <<< (I1 46 1 &&& 31) ≤ nI S := by rw [hN1, pw_n n hn]; exact nI_ge (by omega) (by omega)
      have E : aE d 252 28 [.ref 46, .int (nI c), .int (lBI b), .int (nI S), w4, w5] [] (g, I1, J, aP1 sl rd1 56) = (if (nI m0 < nI (5 * cnt (nI S) 8)) then aE d 252 28 [.ref 46, .int (nI c), .int (lBI b), .int (nI (S + 1)), .int (nI (cnt (nI S) 8)), w5] [] (g, I1, J, aP1 sl rd1 56) else (if lBI b = -1 then aBi (aF d 253 [.ref 46, .int (nI S), .int (nI c)] (g, I1, J, aP1 sl rd1 56)) (fun x0 t0 => aE d 252 77 [.ref 46, .int (nI c), .int (lBI b), .int (nI S), .int (nI (cnt (nI S) 8)), w5] [.int x0] t0) else aBi (aF d 12 [.int (lBI b)] (g, I1, J, aP1 sl rd1 56)) (fun x1 t1 => aE d 252 68 [.ref 46, .int (nI c), .int (lBI b), .int (nI S), .int (nI (cnt (nI S) 8)), w5] [.int x1, .int (nI (cnt (nI S) 8))] t1))) := by
        rcases hw with rfl | ⟨x, rfl⟩
        · rw [b252_28, if_neg ng, f12, bcN S S8]
          change aE d 252 42 [.ref 46, .int (nI c), .int (lBI b), .int (nI S), aNo, w5] [.int (nI (cnt (nI S) 8))] (g, I1, J, aP1 sl rd1 56) = _
          rw [b252_42, nI_clamp (by omega), if_neg hc39, k1c, e5, nI_1]
        · rw [b252_28_2, if_neg ng, f12, bcN S S8]
          change aE d 252 42 [.ref 46, .int (nI c), .int (lBI b), .int (nI S), .int x, w5] [.int (nI (cnt (nI S) 8))] (g, I1, J, aP1 sl rd1 56) = _
          rw [b252_42_2, nI_clamp (by omega), if_neg hc39, k1c, e5, nI_1]
      rw [E, fo_1]
      have step : ∀ (b' : Option Nat) (I2 : Nat → Nat → Int32) (rd2 : Nat) (w5 : Value), ld1 (okL n c m0 v (fun u => wv st n u (nI c))) S b = b' → Fr [46, 57, 60] I I2 → F46 [13, 15, 16, 17, 18, 23] I I2 → ∃ I' rd' w4' w5', Fr [46, 57, 60] I I' ∧ F46 [13, 15, 16, 17, 18, 23] I I' ∧ (w4' = aNo ∨ ∃ x, w4' = .int x) ∧ aE d 252 28 [.ref 46, .int (nI c), .int (lBI b'), .int (nI (S + 1)), .int (nI (cnt (nI S) 8)), w5] [] (g, I2, J, aP1 sl rd2 56) = aE d 252 28 [.ref 46, .int (nI c), .int (lBI (fo (ld1 (okL n c m0 v (fun u => wv st n u (nI c)))) M (S + 1) (ld1 (okL n c m0 v (fun u => wv st n u (nI c))) S b))), .int (nI (2 ^ n)), w4', w5'] [] (g, I', J, aP1 sl rd' 56) := by
        intro b' I2 rd2 w5 hb' g1 g2
        rw [hb']
        refine ih (S + 1) b' I2 rd2 _ w5 (by omega) ?_ (Or.inr ⟨_, rfl⟩) g1 g2
        intro B hB
        have := ld_lt (ok := okL n c m0 v (fun u => wv st n u (nI c))) 1 S b (by omega) hb B
        rw [fo_1, hb'] at this
        exact this hB
      by_cases k1 : nI m0 < nI (5 * cnt (nI S) 8)
      · rw [if_pos k1]
        have k1' := nI_lti k1 (by omega)
        have eo : ¬ okL n c m0 v (fun u => wv st n u (nI c)) (nI S) = true := by
          unfold okL; rw [decide_eq_false (show ¬ 5 * cnt (nI S) 8 ≤ m0 by omega), Bool.and_false, Bool.false_and]; decide
        exact step b I1 rd1 w5 (by unfold ld1; rw [if_neg eo, ite_self]) q1 q2
      rw [if_neg k1]
      have k1' : 5 * cnt (nI S) 8 ≤ m0 := by
        apply Classical.byContradiction; intro h; exact k1 (nI_lt (by omega) (by omega))
      have zs : ∀ i, n ≤ i → i < n + (8 - n) → bt (nI S) i = false := fun i h1 h2 => (set_n n hn S S8).mp (by omega) i (by omega) h1
      have ga : alG (gdC n c v (nI S)) 8 0 = alG (gdC n c v (nI S)) n 0 := by
        have := alG_cut (F := gdC n c v (nI S)) n (8 - n) 0 (fun i h1 h2 => by unfold gdC; rw [zs i (by omega) (by omega)]; rfl)
        rw [show n + (8 - n) = 8 by omega] at this
        exact this
      have gv : hV v c (nI S) 8 = hV v c (nI S) n := by
        have := hV_cut (v := v) (c := c) (8 - n) zs
        rw [show n + (8 - n) = 8 by omega] at this
        exact this
      -- when the set is weighed
      have main : ¬ skp b S = true → ∃ I' rd' w4' w5', Fr [46, 57, 60] I I' ∧ F46 [13, 15, 16, 17, 18, 23] I I' ∧ (w4' = aNo ∨ ∃ x, w4' = .int x) ∧ aBi (aF d 253 [.ref 46, .int (nI S), .int (nI c)] (g, I1, J, aP1 sl rd1 56)) (fun x0 t0 => aE d 252 77 [.ref 46, .int (nI c), .int (lBI b), .int (nI S), .int (nI (cnt (nI S) 8)), w5] [.int x0] t0) = aE d 252 28 [.ref 46, .int (nI c), .int (lBI (fo (ld1 (okL n c m0 v (fun u => wv st n u (nI c)))) M (S + 1) (ld1 (okL n c m0 v (fun u => wv st n u (nI c))) S b))), .int (nI (2 ^ n)), w4', w5'] [] (g, I', J, aP1 sl rd' 56) := by
        intro ks
        rw [f253 (n := n) (v := v) hN1 hn (by rw [k47]; exact hv) (nI S)]
        simp only [aBi]
        rw [b252_77, nI_1]
        by_cases k2 : alG (gdC n c v (nI S)) n 0 = true
        · rw [k2, if_neg (by decide)]
          have e222 : aF d 222 [.ref 47, .ref 60, .int 0] (g, I1, J, aP1 sl rd1 56) = some (some none, (g, aR I1 60 (cpB (I1 60) (I1 47) 0 39), J, aP1 sl rd1 56)) := f222_60 (o := 0) (by decide)
          rw [e222]
          simp only [aBv]
          rw [b252_95]
          have lp2 : ∀ (K i : Nat) (I2 : Nat → Nat → Int32), i + K = n → Fr [46, 57, 60] I I2 → F46 [13, 15, 16, 17, 18, 23] I I2 → rV (I2 60) = hV v c (nI S) i → ∃ I', Fr [46, 57, 60] I I' ∧ F46 [13, 15, 16, 17, 18, 23] I I' ∧ rV (I' 60) = hV v c (nI S) n ∧ aE d 252 98 [.ref 46, .int (nI c), .int (lBI b), .int (nI S), .int (nI (cnt (nI S) 8)), .int (nI i)] [] (g, I2, J, aP1 sl rd1 56) = aE d 252 98 [.ref 46, .int (nI c), .int (lBI b), .int (nI S), .int (nI (cnt (nI S) 8)), .int (nI n)] [] (g, I', J, aP1 sl rd1 56) := by
            intro K
            induction K with
            | zero =>
              intro i I2 hi g1 g2 g3
              obtain rfl : i = n := by omega
              exact ⟨I2, g1, g2, g3, rfl⟩
            | succ K ihK =>
              intro i I2 hi g1 g2 g3
              have eh : hV v c (nI S) (i + 1) = if bt (nI S) i = true then rHex (hV v c (nI S) i) c i else hV v c (nI S) i := rfl
              rw [b252_98, if_neg (by rw [g2 1 (by decide), hN]; exact nI_ge (by omega) (by omega)), f217, hasT_bt _ (by omega)]
              simp only [aBi]
              rw [b252_113]
              by_cases hbt : bt (nI S) i = true
              · rw [hbt, if_neg (by decide), f235_60 hc (by omega)]
                simp only [aBv]
                rw [b252_126, nI_1]
                exact ihK (i + 1) _ (by omega) (Fr_s g1 _ (by decide)) (fun j hj => by rw [aR_r _ _ (by decide)]; exact g2 j hj) (by rw [aR_s, rHex_r _ hc (by omega), g3, eh, if_pos hbt])
              · rw [show bt (nI S) i = false by simpa using hbt, if_pos tI_f, b252_126, nI_1]
                exact ihK (i + 1) I2 (by omega) g1 g2 (by rw [eh, if_neg hbt]; exact g3)
          obtain ⟨I2, g1, g2, g3, g4⟩ := lp2 n 0 (aR I1 60 (cpB (I1 60) (I1 47) 0 39)) (by omega) (Fr_s q1 _ (by decide)) (fun j hj => by rw [aR_r _ _ (by decide)]; exact q2 j hj) (by
            show rV (aR I1 60 (cpB (I1 60) (I1 47) 0 39) 60) = v
            rw [← hv]
            exact rV_congr (fun k hk => by rw [aR_s, cpB_in _ _ (by omega) (by omega), k47]; rfl))
          have g4 : aE d 252 98 [.ref 46, .int (nI c), .int (lBI b), .int (nI S), .int (nI (cnt (nI S) 8)), .int 0] [] (g, aR I1 60 (cpB (I1 60) (I1 47) 0 39), J, aP1 sl rd1 56) = aE d 252 98 [.ref 46, .int (nI c), .int (lBI b), .int (nI S), .int (nI (cnt (nI S) 8)), .int (nI n)] [] (g, I2, J, aP1 sl rd1 56) := g4
          obtain ⟨I3, rd3, s1, s2, s3⟩ := f251t (d := d) (g := g) (I := I2) (J := J) (sl := sl) (rd := rd1) (nd := n) (rs := rs) (rv := rv) (sk := sk) hd (by rw [g1 55 (by decide)]; exact hV') (by rw [g1 55 (by decide)]; exact hB) hC (by rw [g2 22 (by decide)]; exact hs) (by rw [g2 1 (by decide)]; exact hN) hn h0 (fun i hi => by
            obtain ⟨k, hk, e⟩ := hcl i hi
            refine ⟨k, hk, ?_⟩
            show I2 60 (6 + i) = nI k
            rw [← rV_lt (I2 60) (show 6 + i < 39 by omega), g3, hV_l hc hn i (by omega)]; exact e) (by rw [g1 48 (by decide)]; exact hsk) (nI c)
          rw [g3, ← gv, ← hst] at s3
          rw [g4, b252_98, if_pos (by rw [g2 1 (by decide), hN]; exact Int32.le_refl _), s3]
          simp only [aBi]
          rw [b252_141, nI_1]
          have G1 : Fr [46, 57, 60] I I3 := Fr_t g1 (Fr_w s1 (by decide))
          have G2 : F46 [13, 15, 16, 17, 18, 23] I I3 := F46_t g2 (F46_w s2 (by decide))
          by_cases k3 : wv st n (hV v c (nI S) 8) (nI c) = true
          · have eo : okL n c m0 v (fun u => wv st n u (nI c)) (nI S) = true := by unfold okL; rw [ga, k2, decide_eq_true k1']; exact k3
            rw [k3, if_neg (by decide)]
            exact step (some S) I3 rd3 _ (by unfold ld1; rw [if_neg ks, if_pos eo]) G1 G2
          · have k3' : wv st n (hV v c (nI S) 8) (nI c) = false := by simpa using k3
            have eo : ¬ okL n c m0 v (fun u => wv st n u (nI c)) (nI S) = true := by unfold okL; intro h; exact k3 ((Bool.and_eq_true_iff.mp h).2)
            rw [k3', if_pos tI_f]
            exact step b I3 rd3 _ (by unfold ld1; rw [if_neg ks, if_neg eo]) G1 G2
        · have k2' : alG (gdC n c v (nI S)) n 0 = false := by simpa using k2
          have eo : ¬ okL n c m0 v (fun u => wv st n u (nI c)) (nI S) = true := by unfold okL; rw [ga, k2', Bool.false_and, Bool.false_and]; decide
          rw [k2', if_pos tI_f]
          exact step b I1 rd1 _ (by unfold ld1; rw [if_neg ks, if_neg eo]) q1 q2
      cases b with
      | none =>
        rw [if_pos (show lBI none = -1 from rfl)]
        exact main (by intro h; exact Bool.noConfusion h)
      | some B =>
        have hB := hb B rfl
        have b8 := cnt_le (nI B) 8
        have lb : lBI (some B) = nI B := rfl
        rw [lb, if_neg (nIm1b hB), f12, bcN B hB]
        simp only [aBi]
        rw [b252_68, nI_1]
        by_cases ks : skp (some B) S = true
        · have ks' : cnt (nI B) 8 ≤ cnt (nI S) 8 := of_decide_eq_true ks
          rw [if_pos (nI_le ks' (by omega))]
          exact step (some B) I1 rd1 _ (if_pos ks) q1 q2
        · rw [if_neg (fun h => ks (decide_eq_true (nI_lei h (by omega))))]
          exact main ks
  obtain ⟨I', rd', w4, w5, r1, r2, r3, r4⟩ := l (2 ^ n) 0 none (aU I 46 13 0) rd aNo aNo (by omega) (fun B h => by simp at h) (Or.inl rfl) (by rw [aU_R]; exact Fr_s (Fr_r _ _) _ (by decide)) (fun j hj => aU_i _ _ (fun e => hj (by rw [e]; decide)))
  have hb := ld_lt (ok := okL n c m0 v (fun u => wv st n u (nI c))) (2 ^ n) 0 none (by omega) (fun B h => by simp at h)
  refine ⟨I', rd', r1, r2, ?_⟩
  show aE d 252 0 [.ref 46, .int (nI c), aNo, aNo, aNo, aNo] [] _ = _
  have r4 : aE d 252 28 [.ref 46, .int (nI c), .int (-1), .int 0, aNo, aNo] [] (g, aU I 46 13 0, J, aP1 sl rd 56) = _ := r4
  rw [b252_0, f213, isC_n hc]
  simp only [aBi]
  rw [b252_9, if_neg (by decide), if_neg (by rw [aU_i _ _ (by decide), hN]; exact nIz h0 (by omega)), r4]
  have hN1 : I' 46 1 = nI n := (r2 1 (by decide)).trans hN
  generalize fo (ld1 (okL n c m0 v (fun u => wv st n u (nI c)))) (2 ^ n) 0 none = b at hb
  have le : (1 : Int32) <<< (I' 46 1 &&& 31) ≤ nI (2 ^ n) := by rw [hN1, pw_n n hn]; exact Int32.le_refl _
  cases b with
  | none =>
    rcases r3 with rfl | ⟨x, rfl⟩
    · rw [b252_28, if_pos le, if_pos (show lBI none = -1 from rfl)]
    · rw [b252_28_2, if_pos le, if_pos (show lBI none = -1 from rfl)]
  | some B =>
    have hB := hb B rfl
    have lb : lBI (some B) = nI B := rfl
    rw [lb]
    rcases r3 with rfl | ⟨x, rfl⟩
    · rw [b252_28, if_pos le, if_neg (nIm1b hB), tell0]
      simp only [aBv]
      rw [b252_171, f12, bcN B hB]
      simp only [aBi]
      rw [b252_175]
    · rw [b252_28_2, if_pos le, if_neg (nIm1b hB), tell0]
      simp only [aBv]
      rw [b252_171_2, f12, bcN B hB]
      simp only [aBi]
      rw [b252_175_2]
theorem tie_lead (hd : 41 ≤ d) (H : zInv t n m q I J) (a : Int32) : tie d 114 252 [.int a] t g I J sl rd := by
  obtain ⟨hn, d1, d2, hD⟩ := H.2.2.1
  have hS := H.2.2.2.2.2.2.1
  obtain ⟨mm, kk, rv, v1, v2, v3, v4, v5, v6⟩ := zV_get H
  have sk := zD_s H
  rcases isC_ix a with ha | ⟨c, hc, rfl⟩
  · refine tie_0 (rd2 := rd) (v := -1) H (Fr_r _ _) (th_F _) (th_46 _) ?_ ?_
    · show aE d 114 0 [.ref 6, .int a, aNo, aNo, aNo, aNo] [] _ = _
      rw [b114_0, f75]
      simp only [aBi]
      rw [b114_4, if_pos ha]
    · show aE d 252 0 [.ref 46, .int a, aNo, aNo, aNo, aNo] [] _ = _
      rw [b252_0, f213]
      simp only [aBi]
      rw [b252_9, if_pos ha]
  obtain ⟨m0, hm, m1, m2⟩ := okS_m hS hc
  have hv2 : cV (I 24) c = nI m0 := (cV_c _ (by omega) (by omega)).trans m1
  by_cases h0 : n = 0
  · subst h0
    obtain ⟨I1, f1, f2⟩ := f114 (d := d) (g := g) (I := I) (J := J) (sl := sl) (rd := rd) (rl := 56) (n := 0) (c := c) (m0 := m0) (v := cV (I 24)) (W := fun _ => false) d1 hn hc hm rfl hv2 (fun I1 h S _ => by
      obtain ⟨x, y, e⟩ := f66t (d := d) (g := g) (I := I1) (J := J) (sl := sl) (rd := rd) (rl := 56) (nd := 0) (by rw [h 34 (by decide)]; exact v3) (by rw [h 33 (by decide)]; exact v1) (by rw [h 14 (by decide)]; exact d1) (by decide) (fun i hi => by omega) 0
      have e : aF d 66 [.ref 33, .ref 14, .ref 27, .int 0] (g, I1, J, aP1 sl rd 56) = some (some (some (.int (-1))), (g, aR (aR I1 35 x) 36 y, J, aP1 sl rd 56)) := e
      refine ⟨aR (aR I1 35 x) 36 y, Fr_s (Fr_s (Fr_r _ _) x (by decide)) y (by decide), ?_⟩
      show aE d 113 0 [.ref 6, .ref 27, .int (nI c), aNo] [] _ = _
      rw [b113_0_2, e]
      simp only [aBi]
      rw [b113_13_2, if_pos rfl]
      rfl)
    rw [fo_id 256 0 none (fun j _ _ b => by
      have eo : ¬ okL 0 c m0 (cV (I 24)) (fun _ => false) (nI j) = true := by unfold okL; rw [Bool.and_false]; decide
      unfold ld1; rw [if_neg eo, ite_self])] at f2
    refine tie_0 (rd2 := rd) (v := -2) H (Fr_w f1 (by decide)) (th_F _) (th_46 _) f2 ?_
    show aE d 252 0 [.ref 46, .int (nI c), aNo, aNo, aNo, aNo] [] _ = _
    rw [b252_0, f213, isC_n hc]
    simp only [aBi]
    rw [b252_9, if_neg (by decide), if_pos (by rw [aU_i _ _ (by decide), f1 46 (by decide), d2]; rfl)]
  have n0 : 0 < n := by omega
  have hcl : clubs (fun i => cV (I 24) (6 + i)) n := fun i hi => by rw [hS.1]; exact hS.2.1.2.2.1 i hi
  generalize hst : sts rv (I 15) = st
  obtain ⟨I1, f1, f2⟩ := f114 (d := d) (g := g) (I := I) (J := J) (sl := sl) (rd := rd) (rl := 56) (n := n) (c := c) (m0 := m0) (v := cV (I 24)) (W := fun u => wv st n u (nI c)) d1 hn hc hm rfl hv2 (fun I1 h S hS1 => by
    obtain ⟨I', r1, r2⟩ := f113t (d := d) (g := g) (I := I1) (J := J) (sl := sl) (rd := rd) (rl := 56) (mm := mm) (nd := n) (rv := rv) (by rw [h 34 (by decide)]; exact v3) (by rw [h 33 (by decide)]; exact v1) (by rw [h 14 (by decide)]; exact d1) hn n0 (fun i hi => by
      obtain ⟨k, hk, e⟩ := hcl i hi
      refine ⟨k, hk, ?_⟩
      show I1 28 (8 + i) = nI k
      rw [← cV_l (I1 28) (show i < 8 by omega), hS1, hV_l hc (by decide) i (by omega)]; exact e) (nI c)
    rw [h 15 (by decide), hst] at r2
    exact ⟨I', r1, r2⟩)
  have p8 : 2 ^ n ≤ 256 := Nat.pow_le_pow_right (n := 2) (by decide) hn
  have cut : fo (ld1 (okL n c m0 (cV (I 24)) (fun u => wv st n u (nI c)))) 256 0 none = fo (ld1 (okL n c m0 (cV (I 24)) (fun u => wv st n u (nI c)))) (2 ^ n) 0 none := by
    rw [show 256 = 2 ^ n + (256 - 2 ^ n) by omega, fo_split]
    refine fo_id _ _ _ (fun j h1 h2 b => ?_)
    have hj : ¬ ∀ i, i < 8 → n ≤ i → bt (nI j) i = false := fun h => by
      have := (set_n n hn j (by omega)).mpr h
      omega
    have eo : ¬ okL n c m0 (cV (I 24)) (fun u => wv st n u (nI c)) (nI j) = true := by
      intro h
      apply hj
      intro i hi hi2
      apply Classical.byContradiction
      intro hb
      have hg : gdC n c (cV (I 24)) (nI j) i = false := by
        unfold gdC
        rw [show bt (nI j) i = true by simpa using hb, decide_eq_false (show ¬ i < n by omega)]; rfl
      unfold okL at h
      rw [alG_no 8 0 i (by omega) (by omega) hg, Bool.false_and, Bool.false_and] at h
      exact Bool.noConfusion h
    unfold ld1; rw [if_neg eo, ite_self]
  rw [cut] at f2
  have R : ∀ (I1' : Nat → Nat → Int32) (J1 : Nat → Nat → Int64), Fr [12, 28, 35, 36] I I1' → ∃ I' rd', Fr [46, 57, 60] I1' I' ∧ F46 [13, 15, 16, 17, 18, 23] I1' I' ∧ aF d 252 [.ref 46, .int (nI c)] (g, I1', J1, aP1 sl rd 56) = (match fo (ld1 (okL n c m0 (cV (I 24)) (fun u => wv st n u (nI c)))) (2 ^ n) 0 none with
    | none => some (some (some (.int (-2))), (g, I', J1, aP1 sl rd' 56))
    | some B => some (some (some (.int (nI (cnt (nI B) 8)))), (g, aU I' 46 12 1, aU J1 53 0 (Int32.toInt64 (nI B)), aP1 sl rd' 56))) := by
    intro I1' J1 h
    exact f252 (d := d) (g := g) (I := I1') (J := J1) (sl := sl) (rd := rd) (n := n) (rs := kk) (rv := rv) (sk := I 15) (st := st) (c := c) (m0 := m0) (v := cV (I 24)) hd (by rw [h 55 (by decide)]; exact v4) (by rw [h 55 (by decide)]; exact v5) v6 (by rw [h 46 (by decide)]; exact v2) (by rw [h 46 (by decide)]; exact d2) hn n0 hst.symm hcl (by rw [h 48 (by decide)]; exact sk) hc hm (by rw [h 47 (by decide)]; exact hS.1.symm) hv2
  generalize fo (ld1 (okL n c m0 (cV (I 24)) (fun u => wv st n u (nI c)))) (2 ^ n) 0 none = b at f2 R
  cases b with
  | none =>
    obtain ⟨I2, rd2, r1, r2, r3⟩ := R I1 J (Fr_w f1 (by decide))
    exact tie_0 (rd2 := rd2) (v := -2) H (Fr_w f1 (by decide)) (Fr_w r1 (by decide)) (F46_w r2 (by decide)) f2 r3
  | some B =>
    have G : Fr [12, 28, 35, 36] I (aU I1 12 1 1) := by rw [aU_R]; exact Fr_s (Fr_w f1 (by decide)) _ (by decide)
    obtain ⟨I2, rd2, r1, r2, r3⟩ := R (aU I1 12 1 1) (aU J 13 0 (Int32.toInt64 (nI B))) G
    have f2 : aF d 114 [.ref 6, .int (nI c)] (g, I, J, aP1 sl rd 56) = some (some (some (.int (nI (cnt (nI B) 8)))), (g, aU I1 12 1 1, aU J 13 0 (Int32.toInt64 (nI B)), aP1 sl rd 56)) := f2
    have r3 : aF d 252 [.ref 46, .int (nI c)] (g, aU I1 12 1 1, aU J 13 0 (Int32.toInt64 (nI B)), aP1 sl rd 56) = some (some (some (.int (nI (cnt (nI B) 8)))), (g, aU I2 46 12 1, aU (aU J 13 0 (Int32.toInt64 (nI B))) 53 0 (Int32.toInt64 (nI B)), aP1 sl rd2 56)) := r3
    refine tie_R H (Fr_w G (by decide)) ?_ ?_ ?_ f2 r3
    · rw [aU_R I2]; exact Fr_s (Fr_w r1 (by decide)) _ (by decide)
    · intro j hj
      rw [aU_i _ _ (fun e => hj (by rw [e]; decide))]
      exact (F46_w r2 (by decide) : F46 (12 :: scf) _ _) j hj
    · refine zR_1 ?_ ?_ ?_
      · rw [aU_r _ _ (by decide), r1 12 (by decide), aU_s]
      · rw [aU_s]
      · simp (disch := decide) only [aU_r, aU_i, aU_s]
