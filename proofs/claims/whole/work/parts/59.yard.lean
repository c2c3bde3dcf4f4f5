/-! the class's way through a rule's signs makes the same code -/
def bnd (s : Int32) : Int32 := if s = 60 then 1 else if s = 62 then 1 else if s = 61 then 1 else if s = 43 then 2 else if s = 45 then 2 else if s = 42 then 3 else if s = 47 then 3 else if s = 256 then 4 else 0
def stl (b : Int32) : List Int32 → List Int32 → List Int32 × List Int32
  | c, [] => (c, [])
  | c, w :: ws => if b ≤ bnd w then stl b (c ++ [2000 + w]) ws else (c, w :: ws)
/-- at, wrong; code; waiting; depth; compared; wants a thing -/
abbrev yC := (Nat × Int32) × List Int32 × List Int32 × Nat × Int32 × Bool
def yT (sg : Nat → Int32) (p : Nat × Int32) (c w : List Int32) (e : Nat) (m : Int32) : yC :=
  if pk sg p = 45 then (adv p, c, 256 :: w, e, m, true)
  else if pk sg p = 40 ∧ e < 4 then (adv p, c, 40 :: w, e + 1, m &&& (bit (e + 1) ^^^ (-1)), true)
  else if lt8 (pk sg p) = -1 then ((nm sg 2 p).2, c ++ [(nm sg 2 p).1], w, e, m, false)
  else (adv p, c ++ [1000 + lt8 (pk sg p)], w, e, m, false)
def yG (sg : Nat → Int32) (p : Nat × Int32) (c w : List Int32) (e : Nat) (m : Int32) : yC :=
  if pk sg p = 41 ∧ 0 < e then (adv p, (stl 1 c w).1, (stl 1 c w).2.tail, e - 1, m, false)
  else if bnd (pk sg p) = 0 ∨ (bnd (pk sg p) = 1 ∧ bt m e = true) then (flt p (nI p.1), c, w, e, m, false)
  else (adv p, (stl (bnd (pk sg p)) c w).1, pk sg p :: (stl (bnd (pk sg p)) c w).2, e, if bnd (pk sg p) = 1 then m ||| bit e else m, true)
def yS (sg : Nat → Int32) (y : yC) : yC := if y.2.2.2.2.2 = true then yT sg y.1 y.2.1 y.2.2.1 y.2.2.2.1 y.2.2.2.2.1 else yG sg y.1 y.2.1 y.2.2.1 y.2.2.2.1 y.2.2.2.2.1
def yL (sg : Nat → Int32) : Nat → yC → yC
  | 0, y => y
  | n + 1, y => if pk sg y.1 = -1 then y else yL sg n (yS sg y)
/-- what is wrong in the end, all read -/
def yW (y : yC) : Int32 := if y.2.2.2.2.2 = true ∨ 0 < y.2.2.2.1 then (flt y.1 (nI y.1.1)).2 else y.1.2
def yR (sg : Nat → Int32) (y z : yC) : Prop := ∀ m, 40 - y.1.1 ≤ m → ∃ m', 40 - z.1.1 ≤ m' ∧ yL sg m y = yL sg m' z
theorem yR_t {sg : Nat → Int32} {x y z : yC} (a : yR sg x y) (b : yR sg y z) : yR sg x z := by
  intro m hm
  obtain ⟨m1, h1, e1⟩ := a m hm
  obtain ⟨m2, h2, e2⟩ := b m1 h1
  exact ⟨m2, h2, e1.trans e2⟩
theorem yR_r (sg : Nat → Int32) (y : yC) : yR sg y y := fun m h => ⟨m, h, rfl⟩
theorem yR_1 {sg : Nat → Int32} (hE : sgE sg 40) {y : yC} (h : ¬ pk sg y.1 = -1) (h2 : y.1.1 < (yS sg y).1.1) : yR sg y (yS sg y) := by
  intro m hm
  have := pk_at hE h
  obtain ⟨k, rfl⟩ : ∃ k, m = k + 1 := ⟨m - 1, by omega⟩
  refine ⟨k, by omega, ?_⟩
  show (if pk sg y.1 = -1 then y else yL sg k (yS sg y)) = _
  rw [if_neg h]
/-- it comes to be wrong at w -/
def yF (sg : Nat → Int32) (y : yC) (w : Int32) : Prop := ∀ m, 40 - y.1.1 ≤ m → yW (yL sg m y) = w
theorem yF_t {sg : Nat → Int32} {x y : yC} {w : Int32} (a : yR sg x y) (b : yF sg y w) : yF sg x w := by
  intro m hm
  obtain ⟨m1, h1, e1⟩ := a m hm
  rw [e1]
  exact b m1 h1
theorem yL_end {sg : Nat → Int32} {y : yC} (h : pk sg y.1 = -1) : ∀ m, yL sg m y = y
  | 0 => rfl
  | m + 1 => if_pos h
theorem yW_wrong {y : yC} (h : ¬ y.1.2 = -1) : yW y = y.1.2 := by
  have e : flt y.1 (nI y.1.1) = y.1 := if_neg h
  unfold yW
  rw [e]
  split <;> rfl
/-- a step that goes wrong -/
theorem yF_1 {sg : Nat → Int32} (hE : sgE sg 40) {y : yC} (h : ¬ pk sg y.1 = -1) (h2 : ¬ (yS sg y).1.2 = -1) : yF sg y (yS sg y).1.2 := by
  intro m hm
  have := pk_at hE h
  obtain ⟨k, rfl⟩ : ∃ k, m = k + 1 := ⟨m - 1, by omega⟩
  have e : yL sg (k + 1) y = yL sg k (yS sg y) := by
    show (if pk sg y.1 = -1 then y else yL sg k (yS sg y)) = _
    rw [if_neg h]
  have e2 : pk sg (yS sg y).1 = -1 := by unfold pk; rw [if_neg h2]
  rw [e, yL_end e2, yW_wrong h2]
/-- the end, too early -/
theorem yF_0 {sg : Nat → Int32} {y : yC} (h : pk sg y.1 = -1) (h2 : y.1.2 = -1) (h3 : y.2.2.2.2.2 = true ∨ 0 < y.2.2.2.1) : yF sg y (nI y.1.1) := by
  intro m hm
  rw [yL_end h]
  unfold yW flt
  rw [if_pos h3, if_pos h2]
def top (b : Int32) (w : List Int32) : Prop := ∀ x r, w = x :: r → ¬ b ≤ bnd x
theorem stl_all {b : Int32} : ∀ (pd c w : List Int32), (∀ x, x ∈ pd → b ≤ bnd x) → top b w → stl b c (pd ++ w) = (c ++ pd.map (fun x => 2000 + x), w)
  | [], c, [], _, _ => by simp [stl]
  | [], c, x :: w, _, h => by
    show (if b ≤ bnd x then _ else _) = _
    rw [if_neg (h x w rfl)]; simp
  | y :: pd, c, w, h1, h2 => by
    show (if b ≤ bnd y then stl b (c ++ [2000 + y]) (pd ++ w) else _) = _
    rw [if_pos (h1 y (List.mem_cons_self ..)), stl_all pd _ w (fun x hx => h1 x (List.mem_cons_of_mem _ hx)) h2]
    simp
/-- where a piece ends: code and what still waits -/
def yP (sg : Nat → Int32) (b : Int32) (y : yC) (p : Nat × Int32) (c w : List Int32) (e : Nat) (m : Int32) (r : List Int32 × (Nat × Int32)) : Prop :=
  (¬ r.2.2 = -1 → yF sg y r.2.2) ∧ (r.2.2 = -1 → ∃ cd pd m', yR sg y (r.2, c ++ cd, pd ++ w, e, m', false) ∧ r.1 = cd ++ pd.map (fun x => 2000 + x) ∧ (∀ x, x ∈ pd → b ≤ bnd x) ∧ (∀ i, i ≤ e → bt m' i = bt m i))
theorem lePos {a b : Int32} (h : a ≤ b) {c : Int32} (h2 : b ≤ c) : a ≤ c := by
  rw [int_le] at *; omega
theorem pair_fst {α β : Type} (a : α) (b : β) : (a, b).1 = a := rfl
/-- a thing -/
def y5 (sg : Nat → Int32) (n : Nat) : Prop := ∀ (p : Nat × Int32) (c w : List Int32) (e : Nat) (m : Int32), p.2 = -1 → p.1 ≤ 40 → 6 * (41 - p.1) + 1 ≤ n → e ≤ 4 → yP sg 4 (p, c, w, e, m, true) p c w e m (pc sg n 5 e [] p)
def y3 (sg : Nat → Int32) (n : Nat) : Prop := ∀ (p : Nat × Int32) (c w : List Int32) (e : Nat) (m : Int32), p.2 = -1 → p.1 ≤ 40 → 6 * (41 - p.1) + 2 ≤ n → e ≤ 4 → top 3 w → yP sg 3 (p, c, w, e, m, true) p c w e m (pc sg n 3 e [] p) ∧ ((pc sg n 3 e [] p).2.2 = -1 → ¬ pk sg (pc sg n 3 e [] p).2 = 42 ∧ ¬ pk sg (pc sg n 3 e [] p).2 = 47)
def y4 (sg : Nat → Int32) (n : Nat) : Prop := ∀ (p : Nat × Int32) (c w a pd : List Int32) (e : Nat) (m : Int32), p.2 = -1 → p.1 ≤ 40 → 6 * (41 - p.1) + 1 ≤ n → e ≤ 4 → top 3 w → (∀ x, x ∈ pd → 3 ≤ bnd x) → yP sg 3 (p, c ++ a, pd ++ w, e, m, false) p c w e m (pc sg n 4 e (a ++ pd.map (fun x => 2000 + x)) p) ∧ ((pc sg n 4 e (a ++ pd.map (fun x => 2000 + x)) p).2.2 = -1 → ¬ pk sg (pc sg n 4 e (a ++ pd.map (fun x => 2000 + x)) p).2 = 42 ∧ ¬ pk sg (pc sg n 4 e (a ++ pd.map (fun x => 2000 + x)) p).2 = 47)
def yN (sg : Nat → Int32) (p : Nat × Int32) : Prop := ¬ pk sg p = 42 ∧ ¬ pk sg p = 47 ∧ ¬ pk sg p = 43 ∧ ¬ pk sg p = 45
def y1 (sg : Nat → Int32) (n : Nat) : Prop := ∀ (p : Nat × Int32) (c w : List Int32) (e : Nat) (m : Int32), p.2 = -1 → p.1 ≤ 40 → 6 * (41 - p.1) + 3 ≤ n → e ≤ 4 → top 2 w → yP sg 2 (p, c, w, e, m, true) p c w e m (pc sg n 1 e [] p) ∧ ((pc sg n 1 e [] p).2.2 = -1 → yN sg (pc sg n 1 e [] p).2)
def y2 (sg : Nat → Int32) (n : Nat) : Prop := ∀ (p : Nat × Int32) (c w a pd : List Int32) (e : Nat) (m : Int32), p.2 = -1 → p.1 ≤ 40 → 6 * (41 - p.1) + 1 ≤ n → e ≤ 4 → top 2 w → (∀ x, x ∈ pd → 2 ≤ bnd x) → ¬ pk sg p = 42 → ¬ pk sg p = 47 → yP sg 2 (p, c ++ a, pd ++ w, e, m, false) p c w e m (pc sg n 2 e (a ++ pd.map (fun x => 2000 + x)) p) ∧ ((pc sg n 2 e (a ++ pd.map (fun x => 2000 + x)) p).2.2 = -1 → yN sg (pc sg n 2 e (a ++ pd.map (fun x => 2000 + x)) p).2)
/-- as yP, but the depth's own sign of a comparison may be set -/
def y0 (sg : Nat → Int32) (n : Nat) : Prop := ∀ (p : Nat × Int32) (c w : List Int32) (e : Nat) (m : Int32), p.2 = -1 → p.1 ≤ 40 → 6 * (41 - p.1) + 4 ≤ n → e ≤ 4 → top 1 w → bt m e = false →
  (¬ (pc sg n 0 e [] p).2.2 = -1 → yF sg (p, c, w, e, m, true) (pc sg n 0 e [] p).2.2) ∧ ((pc sg n 0 e [] p).2.2 = -1 → ∃ cd pd m', yR sg (p, c, w, e, m, true) ((pc sg n 0 e [] p).2, c ++ cd, pd ++ w, e, m', false) ∧ (pc sg n 0 e [] p).1 = cd ++ pd.map (fun x => 2000 + x) ∧ (∀ x, x ∈ pd → 1 ≤ bnd x) ∧ (∀ i, i < e → bt m' i = bt m i) ∧ yN sg (pc sg n 0 e [] p).2 ∧ (bt m' e = true ∨ (¬ pk sg (pc sg n 0 e [] p).2 = 60 ∧ ¬ pk sg (pc sg n 0 e [] p).2 = 62 ∧ ¬ pk sg (pc sg n 0 e [] p).2 = 61)))
theorem nm_ok {sg : Nat → Int32} {p : Nat × Int32} (h0 : p.1 ≤ 80) (hf : p.2 = -1) {N : Nat} (hE : sgE sg N) (hp : p.1 ≤ N) (h : (nm sg 2 p).2.2 = -1) : p.1 < (nm sg 2 p).2.1 := by
  by_cases q1 : pk sg p < 48 ∨ ¬ pk sg p ≤ 57
  · exfalso
    rw [nm_no h0 q1 hf] at h
    simp only at h
    unfold flt at h
    rw [if_pos hf] at h
    exact nI_m1 (by omega) h
  · have q2 : ¬ pk sg p < 48 := fun q => q1 (Or.inl q)
    have q3 : pk sg p ≤ 57 := Classical.byContradiction (fun q => q1 (Or.inr q))
    have e : tk sg 48 57 p = (pk sg p, adv p) := by unfold tk; rw [if_neg q2, if_pos q3]
    have hlt := pk_ge hE (by decide) q2
    have := nmL_at hE 2 (pk sg p - 48) (adv p) hlt
    unfold nm
    rw [e]
    exact this.1
theorem pk256 {sg : Nat → Int32} (h : ∀ a, ¬ sg a = 256) (p : Nat × Int32) : ¬ pk sg p = 256 := by
  unfold pk
  split
  · exact h _
  · decide
theorem bnd_0 {s : Int32} (h : ¬ s = 256) (h1 : ¬ s = 42) (h2 : ¬ s = 47) (h3 : ¬ s = 43) (h4 : ¬ s = 45) (h5 : ¬ s = 60 ∧ ¬ s = 62 ∧ ¬ s = 61) : bnd s = 0 := by
  unfold bnd
  rw [if_neg h5.1, if_neg h5.2.1, if_neg h5.2.2, if_neg h3, if_neg h4, if_neg h1, if_neg h2, if_neg h]
theorem top_up {a b : Int32} (h : a ≤ b) {w : List Int32} (t : top a w) : top b w := fun x r e q => t x r e (lePos h q)
theorem top_c {b s : Int32} (h : ¬ b ≤ bnd s) (w : List Int32) : top b (s :: w) := fun x r e => by
  obtain ⟨rfl, _⟩ := List.cons.inj e; exact h
theorem flt_w {p : Nat × Int32} (h : p.2 = -1) (x : Int32) : flt p x = (p.1, x) := if_pos h
theorem flt_n {p : Nat × Int32} (h : ¬ p.2 = -1) (x : Int32) : flt p x = p := if_neg h
theorem pk_wr (sg : Nat → Int32) {p : Nat × Int32} (h : ¬ p.2 = -1) : pk sg p = -1 := if_neg h
theorem s5 {sg : Nat → Int32} (hE : sgE sg 40) (h256 : ∀ a, ¬ sg a = 256) {n : Nat} (i5 : y5 sg n) (i0 : y0 sg n) : y5 sg (n + 1) := by
  intro p c w e m hf hp hn he
  rw [pc_5]
  by_cases s1 : pk sg p = 45
  · rw [if_pos s1]
    have hlt := pkv hE s1 (by decide)
    have ey : yS sg (p, c, w, e, m, true) = (adv p, c, 256 :: w, e, m, true) := by
      show yT sg p c w e m = _
      unfold yT; rw [if_pos s1]
    have e1 : yR sg (p, c, w, e, m, true) (adv p, c, 256 :: w, e, m, true) := by
      rw [← ey]; exact yR_1 hE (by show ¬ pk sg p = -1; rw [s1]; decide) (by rw [ey]; exact Nat.lt_succ_self _)
    obtain ⟨a, b⟩ := i5 (adv p) c (256 :: w) e m hf hlt (by show 6 * (41 - (p.1 + 1)) + 1 ≤ n; omega) he
    refine ⟨fun q => yF_t e1 (a q), fun q => ?_⟩
    obtain ⟨cd, pd, m', h1, h2, h3, h4⟩ := b q
    refine ⟨cd, pd ++ [256], m', yR_t e1 (by simpa using h1), ?_, ?_, h4⟩
    · simp only
      rw [h2]; simp
    · intro x hx
      rcases List.mem_append.mp hx with hx | hx
      · exact h3 x hx
      · rw [List.mem_singleton.mp hx]; decide
  · rw [if_neg s1, if_neg (fun q => q hf)]
    by_cases s2 : pk sg p = 40 ∧ e < 4
    · rw [if_pos s2]
      have hlt := pkv hE s2.1 (by decide)
      have ey : yS sg (p, c, w, e, m, true) = (adv p, c, 40 :: w, e + 1, m &&& (bit (e + 1) ^^^ (-1)), true) := by
        show yT sg p c w e m = _
        unfold yT; rw [if_neg s1, if_pos s2]
      have e1 : yR sg (p, c, w, e, m, true) (adv p, c, 40 :: w, e + 1, m &&& (bit (e + 1) ^^^ (-1)), true) := by
        rw [← ey]; exact yR_1 hE (by show ¬ pk sg p = -1; rw [s2.1]; decide) (by rw [ey]; exact Nat.lt_succ_self _)
      have hm : ∀ i, i ≤ e + 1 → bt (m &&& (bit (e + 1) ^^^ (-1))) i = (bt m i && !decide (i = e + 1)) := by
        intro i hi
        rw [b_and, b_not _ (by omega), b_bit (by omega) (by omega)]
      obtain ⟨a, b⟩ := i0 (adv p) c (40 :: w) (e + 1) (m &&& (bit (e + 1) ^^^ (-1))) hf hlt (by show 6 * (41 - (p.1 + 1)) + 4 ≤ n; omega) (by omega) (top_c (by decide) w) (by rw [hm _ (Nat.le_refl _)]; simp)
      generalize hq : pc sg n 0 (e + 1) [] (adv p) = q at *
      by_cases q1 : q.2.2 = -1
      · obtain ⟨cd, pd, m', h1, h2, h3, h4, h5, h6⟩ := b q1
        have hat := pc_at hE n 0 (e + 1) [] (adv p) hlt
        rw [hq] at hat
        by_cases s3 : pk sg q.2 = 41
        · have e2 : nd sg 41 q.2 = adv q.2 := by unfold nd; rw [if_pos s3]
          have ey2 : yS sg (q.2, c ++ cd, pd ++ 40 :: w, e + 1, m', false) = (adv q.2, c ++ q.1, w, e, m', false) := by
            show yG sg q.2 (c ++ cd) (pd ++ 40 :: w) (e + 1) m' = _
            unfold yG; rw [if_pos ⟨s3, by omega⟩, stl_all pd _ _ h3 (top_c (by decide) w), h2]
            simp
          have e3 : yR sg (q.2, c ++ cd, pd ++ 40 :: w, e + 1, m', false) (adv q.2, c ++ q.1, w, e, m', false) := by
            rw [← ey2]; exact yR_1 hE (by show ¬ pk sg q.2 = -1; rw [s3]; decide) (by rw [ey2]; exact Nat.lt_succ_self _)
          rw [e2]
          refine ⟨fun q2 => absurd q1 q2, fun _ => ⟨q.1, [], m', yR_t e1 (yR_t h1 e3), by simp, fun x hx => absurd hx (List.not_mem_nil), fun i hi => ?_⟩⟩
          rw [h4 i (by omega), hm i (by omega)]
          simp only [show ¬ i = e + 1 by omega, decide_false, Bool.not_false, Bool.and_true]
        · have e2 : nd sg 41 q.2 = (q.2.1, nI q.2.1) := by unfold nd; rw [if_neg s3, flt_w q1]
          have hw : ¬ nI q.2.1 = -1 := nI_m1 (by omega)
          rw [e2]
          refine ⟨fun _ => yF_t e1 (yF_t h1 ?_), fun q2 => absurd q2 hw⟩
          by_cases s4 : pk sg q.2 = -1
          · exact yF_0 s4 q1 (Or.inr (Nat.succ_pos _))
          · have hb : bnd (pk sg q.2) = 0 ∨ (bnd (pk sg q.2) = 1 ∧ bt m' (e + 1) = true) := by
              by_cases hc : ¬ pk sg q.2 = 60 ∧ ¬ pk sg q.2 = 62 ∧ ¬ pk sg q.2 = 61
              · exact Or.inl (bnd_0 (pk256 h256 _) h5.1 h5.2.1 h5.2.2.1 h5.2.2.2 hc)
              · refine Or.inr ⟨?_, ?_⟩
                · by_cases c1 : pk sg q.2 = 60
                  · rw [c1]; rfl
                  · by_cases c2 : pk sg q.2 = 62
                    · rw [c2]; rfl
                    · by_cases c3 : pk sg q.2 = 61
                      · rw [c3]; rfl
                      · exact absurd ⟨c1, c2, c3⟩ hc
                · rcases h6 with h6 | h6
                  · exact h6
                  · exact absurd h6 hc
            have ey2 : yS sg (q.2, c ++ cd, pd ++ 40 :: w, e + 1, m', false) = ((q.2.1, nI q.2.1), c ++ cd, pd ++ 40 :: w, e + 1, m', false) := by
              show yG sg q.2 (c ++ cd) (pd ++ 40 :: w) (e + 1) m' = _
              unfold yG; rw [if_neg (fun q => s3 q.1), if_pos hb, flt_w q1]
            have e3 := yF_1 hE (y := (q.2, c ++ cd, pd ++ 40 :: w, e + 1, m', false)) s4 (by rw [ey2]; exact hw)
            rw [ey2] at e3
            exact e3
      · have e2 : nd sg 41 q.2 = q.2 := by unfold nd; rw [pk_wr sg q1, if_neg (by decide), flt_n q1]
        rw [e2]
        exact ⟨fun _ => yF_t e1 (a q1), fun q2 => absurd q2 q1⟩
    · rw [if_neg s2]
      by_cases s3 : lt8 (pk sg p) = -1
      · rw [if_pos s3]
        by_cases s4 : pk sg p = -1
        · rw [nm_no (by omega) (Or.inl (by rw [s4]; decide)) hf, flt_w hf]
          exact ⟨fun _ => yF_0 s4 hf (Or.inl rfl), fun q => absurd q (nI_m1 (by omega))⟩
        · have ey : yS sg (p, c, w, e, m, true) = ((nm sg 2 p).2, c ++ [(nm sg 2 p).1], w, e, m, false) := by
            show yT sg p c w e m = _
            unfold yT; rw [if_neg s1, if_neg s2, if_pos s3]
          refine ⟨fun q => ?_, fun q => ⟨[(nm sg 2 p).1], [], m, ?_, by simp, fun x hx => absurd hx (List.not_mem_nil), fun i hi => rfl⟩⟩
          · have e3 := yF_1 hE (y := (p, c, w, e, m, true)) s4 (by rw [ey]; exact q)
            rw [ey] at e3
            exact e3
          · have e3 := yR_1 hE (y := (p, c, w, e, m, true)) s4 (by rw [ey]; exact nm_ok (show p.1 ≤ 80 by omega) hf hE hp q)
            rw [ey] at e3
            exact e3
      · rw [if_neg s3]
        have s4 : ¬ pk sg p = -1 := fun q => s3 (by rw [q]; decide)
        have ey : yS sg (p, c, w, e, m, true) = (adv p, c ++ [1000 + lt8 (pk sg p)], w, e, m, false) := by
          show yT sg p c w e m = _
          unfold yT; rw [if_neg s1, if_neg s2, if_neg s3]
        refine ⟨fun q => absurd hf q, fun q => ⟨[1000 + lt8 (pk sg p)], [], m, ?_, by simp, fun x hx => absurd hx (List.not_mem_nil), fun i hi => rfl⟩⟩
        have e3 := yR_1 hE (y := (p, c, w, e, m, true)) s4 (by rw [ey]; exact Nat.lt_succ_self _)
        rw [ey] at e3
        exact e3
theorem s4_s {sg : Nat → Int32} (hE : sgE sg 40) {b : Int32} {p : Nat × Int32} {c w a pd : List Int32} {e : Nat} {m : Int32} (hs : ¬ pk sg p = -1) (h41 : ¬ pk sg p = 41) (hb : bnd (pk sg p) = b) (hb0 : ¬ b = 0) (hb1 : b = 1 → bt m e = false) (ht : top b w) (hpd : ∀ x, x ∈ pd → b ≤ bnd x) : yR sg (p, c ++ a, pd ++ w, e, m, false) (adv p, c ++ (a ++ pd.map (fun x => 2000 + x)), pk sg p :: w, e, if b = 1 then m ||| bit e else m, true) := by
  have ey : yS sg (p, c ++ a, pd ++ w, e, m, false) = (adv p, c ++ (a ++ pd.map (fun x => 2000 + x)), pk sg p :: w, e, if b = 1 then m ||| bit e else m, true) := by
    show yG sg p (c ++ a) (pd ++ w) e m = _
    unfold yG
    rw [if_neg (fun q => h41 q.1), hb, if_neg (by
      rintro (q | ⟨q1, q2⟩)
      · exact hb0 q
      · rw [hb1 q1] at q2; cases q2), stl_all pd _ _ hpd ht, List.append_assoc]
  have e3 := yR_1 hE (y := (p, c ++ a, pd ++ w, e, m, false)) hs (by rw [ey]; exact Nat.lt_succ_self _)
  rw [ey] at e3
  exact e3
theorem s4 {sg : Nat → Int32} (hE : sgE sg 40) {n : Nat} (i5 : y5 sg n) (i4 : y4 sg n) : y4 sg (n + 1) := by
  intro p c w a pd e m hf hp hn he ht hpd
  rw [pc_4]
  by_cases s1 : pk sg p = 42 ∨ pk sg p = 47
  · rw [if_pos s1]
    have hs : ¬ pk sg p = -1 := by rcases s1 with q | q <;> rw [q] <;> decide
    have h41 : ¬ pk sg p = 41 := by rcases s1 with q | q <;> rw [q] <;> decide
    have hb : bnd (pk sg p) = 3 := by rcases s1 with q | q <;> rw [q] <;> rfl
    have hlt := pk_at hE hs
    have e1 := s4_s hE (c := c) (a := a) (m := m) (e := e) hs h41 hb (by decide) (fun q => absurd q (by decide)) ht hpd
    rw [if_neg (by decide)] at e1
    generalize hA : a ++ pd.map (fun x => 2000 + x) = A at *
    obtain ⟨f1, f2⟩ := i5 (adv p) (c ++ A) (pk sg p :: w) e m hf hlt (by show 6 * (41 - (p.1 + 1)) + 1 ≤ n; omega) he
    have hat := pc_at hE n 5 e [] (adv p) hlt
    generalize hq : pc sg n 5 e [] (adv p) = q at *
    have hat1 : p.1 + 1 ≤ q.2.1 := hat.1
    by_cases q1 : q.2.2 = -1
    · obtain ⟨cd, pd', m', h1, h2, h3, h4⟩ := f2 q1
      have k := i4 q.2 c w (A ++ cd) (pd' ++ [pk sg p]) e m' q1 hat.2 (by omega) he ht (by
        intro x hx
        rcases List.mem_append.mp hx with hx | hx
        · exact lePos (by decide) (h3 x hx)
        · rw [List.mem_singleton.mp hx, hb]; decide)
      have el : A ++ cd ++ (pd' ++ [pk sg p]).map (fun x => 2000 + x) = A ++ q.1 ++ [2000 + pk sg p] := by rw [h2]; simp
      rw [el] at k
      have e2 : yR sg (p, c ++ a, pd ++ w, e, m, false) (q.2, c ++ (A ++ cd), (pd' ++ [pk sg p]) ++ w, e, m', false) := yR_t e1 (by simpa using h1)
      refine ⟨⟨fun q2 => yF_t e2 (k.1.1 q2), fun q2 => ?_⟩, k.2⟩
      obtain ⟨cd2, pd2, m2, g1, g2, g3, g4⟩ := k.1.2 q2
      exact ⟨cd2, pd2, m2, yR_t e2 g1, g2, g3, fun i hi => (g4 i hi).trans (h4 i hi)⟩
    · have e2 : (pc sg n 4 e (A ++ q.1 ++ [2000 + pk sg p]) q.2).2 = q.2 := pc_wrong sg n 4 e _ q.2 q1
      unfold yP
      rw [e2]
      exact ⟨⟨fun _ => yF_t e1 (f1 q1), fun q2 => absurd q2 q1⟩, fun q2 => absurd q2 q1⟩
  · rw [if_neg s1]
    exact ⟨⟨fun q => absurd hf q, fun _ => ⟨a, pd, m, yR_r _ _, rfl, hpd, fun i hi => rfl⟩⟩, fun _ => ⟨fun q => s1 (Or.inl q), fun q => s1 (Or.inr q)⟩⟩
theorem s3 {sg : Nat → Int32} (hE : sgE sg 40) {n : Nat} (i5 : y5 sg n) (i4 : y4 sg n) : y3 sg (n + 1) := by
  intro p c w e m hf hp hn he ht
  rw [pc_3]
  obtain ⟨f1, f2⟩ := i5 p c w e m hf hp (by omega) he
  have hat := pc_at hE n 5 e [] p hp
  generalize hq : pc sg n 5 e [] p = q at *
  by_cases q1 : q.2.2 = -1
  · obtain ⟨cd, pd, m', h1, h2, h3, h4⟩ := f2 q1
    have k := i4 q.2 c w cd pd e m' q1 hat.2 (by omega) he ht (fun x hx => lePos (by decide) (h3 x hx))
    rw [← h2] at k
    refine ⟨⟨fun q2 => yF_t h1 (k.1.1 q2), fun q2 => ?_⟩, k.2⟩
    obtain ⟨cd2, pd2, m2, g1, g2, g3, g4⟩ := k.1.2 q2
    exact ⟨cd2, pd2, m2, yR_t h1 g1, g2, g3, fun i hi => (g4 i hi).trans (h4 i hi)⟩
  · have e2 : (pc sg n 4 e q.1 q.2).2 = q.2 := pc_wrong sg n 4 e _ q.2 q1
    unfold yP
    rw [e2]
    exact ⟨⟨fun _ => f1 q1, fun q2 => absurd q2 q1⟩, fun q2 => absurd q2 q1⟩
theorem s2 {sg : Nat → Int32} (hE : sgE sg 40) {n : Nat} (i5 : y3 sg n) (i4 : y2 sg n) : y2 sg (n + 1) := by
  intro p c w a pd e m hf hp hn he ht hpd n42 n47
  rw [pc_2]
  by_cases s1 : pk sg p = 43 ∨ pk sg p = 45
  · rw [if_pos s1]
    have hs : ¬ pk sg p = -1 := by rcases s1 with q | q <;> rw [q] <;> decide
    have h41 : ¬ pk sg p = 41 := by rcases s1 with q | q <;> rw [q] <;> decide
    have hb : bnd (pk sg p) = 2 := by rcases s1 with q | q <;> rw [q] <;> rfl
    have hlt := pk_at hE hs
    have e1 := s4_s hE (c := c) (a := a) (m := m) (e := e) hs h41 hb (by decide) (fun q => absurd q (by decide)) ht hpd
    rw [if_neg (by decide)] at e1
    generalize hA : a ++ pd.map (fun x => 2000 + x) = A at *
    obtain ⟨⟨f1, f2⟩, f3⟩ := i5 (adv p) (c ++ A) (pk sg p :: w) e m hf hlt (by show 6 * (41 - (p.1 + 1)) + 2 ≤ n; omega) he (top_c (by rw [hb]; decide) w)
    have hat := pc_at hE n 3 e [] (adv p) hlt
    generalize hq : pc sg n 3 e [] (adv p) = q at *
    have hat1 : p.1 + 1 ≤ q.2.1 := hat.1
    by_cases q1 : q.2.2 = -1
    · obtain ⟨cd, pd', m', h1, h2, h3, h4⟩ := f2 q1
      have k := i4 q.2 c w (A ++ cd) (pd' ++ [pk sg p]) e m' q1 hat.2 (by omega) he ht (by
        intro x hx
        rcases List.mem_append.mp hx with hx | hx
        · exact lePos (by decide) (h3 x hx)
        · rw [List.mem_singleton.mp hx, hb]; decide) (f3 q1).1 (f3 q1).2
      have el : A ++ cd ++ (pd' ++ [pk sg p]).map (fun x => 2000 + x) = A ++ q.1 ++ [2000 + pk sg p] := by rw [h2]; simp
      rw [el] at k
      have e2 : yR sg (p, c ++ a, pd ++ w, e, m, false) (q.2, c ++ (A ++ cd), (pd' ++ [pk sg p]) ++ w, e, m', false) := yR_t e1 (by simpa using h1)
      refine ⟨⟨fun q2 => yF_t e2 (k.1.1 q2), fun q2 => ?_⟩, k.2⟩
      obtain ⟨cd2, pd2, m2, g1, g2, g3, g4⟩ := k.1.2 q2
      exact ⟨cd2, pd2, m2, yR_t e2 g1, g2, g3, fun i hi => (g4 i hi).trans (h4 i hi)⟩
    · have e2 : (pc sg n 2 e (A ++ q.1 ++ [2000 + pk sg p]) q.2).2 = q.2 := pc_wrong sg n 2 e _ q.2 q1
      unfold yP
      rw [e2]
      exact ⟨⟨fun _ => yF_t e1 (f1 q1), fun q2 => absurd q2 q1⟩, fun q2 => absurd q2 q1⟩
  · rw [if_neg s1]
    exact ⟨⟨fun q => absurd hf q, fun _ => ⟨a, pd, m, yR_r _ _, rfl, hpd, fun i hi => rfl⟩⟩, fun _ => ⟨n42, n47, fun q => s1 (Or.inl q), fun q => s1 (Or.inr q)⟩⟩
theorem s1 {sg : Nat → Int32} (hE : sgE sg 40) {n : Nat} (i5 : y3 sg n) (i4 : y2 sg n) : y1 sg (n + 1) := by
  intro p c w e m hf hp hn he ht
  rw [pc_1]
  obtain ⟨⟨f1, f2⟩, f3⟩ := i5 p c w e m hf hp (by omega) he (top_up (by decide) ht)
  have hat := pc_at hE n 3 e [] p hp
  generalize hq : pc sg n 3 e [] p = q at *
  by_cases q1 : q.2.2 = -1
  · obtain ⟨cd, pd, m', h1, h2, h3, h4⟩ := f2 q1
    have k := i4 q.2 c w cd pd e m' q1 hat.2 (by omega) he ht (fun x hx => lePos (by decide) (h3 x hx)) (f3 q1).1 (f3 q1).2
    rw [← h2] at k
    refine ⟨⟨fun q2 => yF_t h1 (k.1.1 q2), fun q2 => ?_⟩, k.2⟩
    obtain ⟨cd2, pd2, m2, g1, g2, g3, g4⟩ := k.1.2 q2
    exact ⟨cd2, pd2, m2, yR_t h1 g1, g2, g3, fun i hi => (g4 i hi).trans (h4 i hi)⟩
  · have e2 : (pc sg n 2 e q.1 q.2).2 = q.2 := pc_wrong sg n 2 e _ q.2 q1
    unfold yP
    rw [e2]
    exact ⟨⟨fun _ => f1 q1, fun q2 => absurd q2 q1⟩, fun q2 => absurd q2 q1⟩
theorem s0 {sg : Nat → Int32} (hE : sgE sg 40) {n : Nat} (i1 : y1 sg n) : y0 sg (n + 1) := by
  intro p c w e m hf hp hn he ht hm
  rw [pc_0]
  obtain ⟨⟨f1, f2⟩, f3⟩ := i1 p c w e m hf hp (by omega) he (top_up (by decide) ht)
  have hat := pc_at hE n 1 e [] p hp
  generalize hr : pc sg n 1 e [] p = r at *
  by_cases q1 : r.2.2 = -1
  · obtain ⟨cd, pd, m', h1, h2, h3, h4⟩ := f2 q1
    by_cases s1 : pk sg r.2 = 60 ∨ pk sg r.2 = 62 ∨ pk sg r.2 = 61
    · rw [if_pos s1]
      have hs : ¬ pk sg r.2 = -1 := by rcases s1 with q | q | q <;> rw [q] <;> decide
      have h41 : ¬ pk sg r.2 = 41 := by rcases s1 with q | q | q <;> rw [q] <;> decide
      have hb : bnd (pk sg r.2) = 1 := by rcases s1 with q | q | q <;> rw [q] <;> rfl
      have hlt := pk_at hE hs
      have e1 := s4_s hE (c := c) (a := cd) (m := m') (e := e) hs h41 hb (by decide) (fun _ => by rw [h4 e (Nat.le_refl _)]; exact hm) ht (fun x hx => lePos (by decide) (h3 x hx))
      rw [if_pos rfl, ← h2] at e1
      obtain ⟨⟨k1, k2⟩, k3⟩ := i1 (adv r.2) (c ++ r.1) (pk sg r.2 :: w) e (m' ||| bit e) q1 hlt (by show 6 * (41 - (r.2.1 + 1)) + 3 ≤ n; omega) he (top_c (by rw [hb]; decide) w)
      generalize hq : pc sg n 1 e [] (adv r.2) = q at *
      refine ⟨fun q2 => yF_t h1 (yF_t e1 (k1 q2)), fun q2 => ?_⟩
      obtain ⟨cd2, pd2, m2, g1, g2, g3, g4⟩ := k2 q2
      refine ⟨r.1 ++ cd2, pd2 ++ [pk sg r.2], m2, yR_t h1 (yR_t e1 (by simpa using g1)), ?_, ?_, ?_, k3 q2, Or.inl ?_⟩
      · simp only
        rw [g2]; simp
      · intro x hx
        rcases List.mem_append.mp hx with hx | hx
        · exact lePos (by decide) (g3 x hx)
        · rw [List.mem_singleton.mp hx, hb]; decide
      · intro i hi
        rw [g4 i (by omega), b_or, b_bit (by omega) (by omega), h4 i (by omega)]
        simp only [show ¬ i = e by omega, decide_false, Bool.or_false]
      · rw [g4 e (Nat.le_refl _), b_or, b_bit (by omega) (by omega)]
        simp
    · rw [if_neg s1]
      exact ⟨fun q2 => absurd q1 q2, fun _ => ⟨cd, pd, m', h1, h2, fun x hx => lePos (by decide) (h3 x hx), fun i hi => h4 i (by omega), f3 q1, Or.inr ⟨fun q => s1 (Or.inl q), fun q => s1 (Or.inr (Or.inl q)), fun q => s1 (Or.inr (Or.inr q))⟩⟩⟩
  · have s1 : ¬ (pk sg r.2 = 60 ∨ pk sg r.2 = 62 ∨ pk sg r.2 = 61) := by
      rw [pk_wr sg q1]; decide
    rw [if_neg s1]
    exact ⟨fun _ => f1 q1, fun q2 => absurd q2 q1⟩
theorem yAll {sg : Nat → Int32} (hE : sgE sg 40) (h256 : ∀ a, ¬ sg a = 256) : ∀ n, y0 sg n ∧ y1 sg n ∧ y2 sg n ∧ y3 sg n ∧ y4 sg n ∧ y5 sg n := by
  intro n
  induction n with
  | zero =>
    refine ⟨?_, ?_, ?_, ?_, ?_, ?_⟩
    · intro p c w e m _ h1 h2; omega
    · intro p c w e m _ h1 h2; omega
    · intro p c w a pd e m _ h1 h2; omega
    · intro p c w e m _ h1 h2; omega
    · intro p c w a pd e m _ h1 h2; omega
    · intro p c w e m _ h1 h2; omega
  | succ n ih =>
    obtain ⟨i0, i1, i2, i3, i4, i5⟩ := ih
    exact ⟨s0 hE i1, s1 hE i3 i2, s2 hE i3 i2, s3 hE i5 i4, s4 hE i5 i4, s5 hE h256 i5 i0⟩
/-- all signs of a rule: both come to the same -/
def yE (sg : Nat → Int32) : yC := yL sg 40 ((0, -1), [], [], 0, 0, true)
theorem yard {sg : Nat → Int32} (hE : sgE sg 40) (h256 : ∀ a, ¬ sg a = 256) :
    (¬ (pc sg 300 0 0 [] (0, -1)).2.2 = -1 → yW (yE sg) = (pc sg 300 0 0 [] (0, -1)).2.2) ∧
    ((pc sg 300 0 0 [] (0, -1)).2.2 = -1 → pk sg (pc sg 300 0 0 [] (0, -1)).2 = -1 → yW (yE sg) = -1 ∧ (yE sg).1 = (pc sg 300 0 0 [] (0, -1)).2 ∧ (stl 1 (yE sg).2.1 (yE sg).2.2.1).1 = (pc sg 300 0 0 [] (0, -1)).1) ∧
    ((pc sg 300 0 0 [] (0, -1)).2.2 = -1 → ¬ pk sg (pc sg 300 0 0 [] (0, -1)).2 = -1 → yW (yE sg) = nI (pc sg 300 0 0 [] (0, -1)).2.1) := by
  obtain ⟨a, b⟩ := (yAll hE h256 300).1 (0, -1) [] [] 0 0 rfl (by decide) (by decide) (by decide) (fun x r q => by cases q) (b_0 0)
  have hat := pc_at hE 300 0 0 [] (0, -1) (by decide)
  generalize hq : pc sg 300 0 0 [] (0, -1) = q at *
  refine ⟨fun q1 => a q1 40 (by decide), fun q1 q2 => ?_, fun q1 q2 => ?_⟩
  · obtain ⟨cd, pd, m', h1, h2, h3, h4, h5, h6⟩ := b q1
    obtain ⟨m1, _, e⟩ := h1 40 (by decide)
    have e2 : yE sg = (q.2, [] ++ cd, pd ++ [], 0, m', false) := by
      unfold yE
      rw [e]
      exact yL_end q2 m1
    rw [e2]
    refine ⟨?_, rfl, ?_⟩
    · unfold yW
      simp only [Bool.false_eq_true, Nat.lt_irrefl, or_self, if_false]
      exact q1
    · simp only
      rw [stl_all pd _ [] h3 (fun x r q => by cases q), h2]
      simp
  · obtain ⟨cd, pd, m', h1, h2, h3, h4, h5, h6⟩ := b q1
    have hw : ¬ nI q.2.1 = -1 := nI_m1 (by have := hat.2; omega)
    have hb : bnd (pk sg q.2) = 0 ∨ (bnd (pk sg q.2) = 1 ∧ bt m' 0 = true) := by
      by_cases hc : ¬ pk sg q.2 = 60 ∧ ¬ pk sg q.2 = 62 ∧ ¬ pk sg q.2 = 61
      · exact Or.inl (bnd_0 (pk256 h256 _) h5.1 h5.2.1 h5.2.2.1 h5.2.2.2 hc)
      · refine Or.inr ⟨?_, ?_⟩
        · by_cases c1 : pk sg q.2 = 60
          · rw [c1]; rfl
          · by_cases c2 : pk sg q.2 = 62
            · rw [c2]; rfl
            · by_cases c3 : pk sg q.2 = 61
              · rw [c3]; rfl
              · exact absurd ⟨c1, c2, c3⟩ hc
        · rcases h6 with h6 | h6
          · exact h6
          · exact absurd h6 hc
    have ey2 : yS sg (q.2, [] ++ cd, pd ++ [], 0, m', false) = ((q.2.1, nI q.2.1), [] ++ cd, pd ++ [], 0, m', false) := by
      show yG sg q.2 ([] ++ cd) (pd ++ []) 0 m' = _
      unfold yG; rw [if_neg (fun q => absurd q.2 (by decide)), if_pos hb, flt_w q1]
    have e3 := yF_1 hE (y := (q.2, [] ++ cd, pd ++ [], 0, m', false)) q2 (by rw [ey2]; exact hw)
    rw [ey2] at e3
    exact yF_t h1 e3 40 (by decide)
