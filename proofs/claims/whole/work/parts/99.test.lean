section T00
/-! a rule as signs; its code; the reference's way through it -/
variable {d : Nat} {g : Nat × Nat × Nat} {I : Nat → Nat → Int32} {J : Nat → Nat → Int64} {sl rd rl : Nat}
def lt8 (c : Int32) : Int32 := if c = 115 then 0 else if c = 99 then 1 else if c = 105 then 2 else if c = 119 then 3 else if c = 110 then 4 else if c = 111 then 5 else if c = 109 then 6 else if c = 97 then 7 else -1
/-- tags: 0 held, 1 sum, 2 its rest, 3 product, 4 its rest, 5 thing -/
def pc (sg : Nat → Int32) : Nat → Nat → Nat → List Int32 → Nat × Int32 → List Int32 × (Nat × Int32)
  | 0, _, _, v, p => (v, p)
  | n + 1, tag, deep, v, p =>
    if tag = 0 then
      let r := pc sg n 1 deep [] p
      if pk sg r.2 = 60 ∨ pk sg r.2 = 62 ∨ pk sg r.2 = 61 then
        let q := pc sg n 1 deep [] (adv r.2)
        (r.1 ++ q.1 ++ [2000 + pk sg r.2], q.2)
      else r
    else if tag = 1 then
      let r := pc sg n 3 deep [] p
      pc sg n 2 deep r.1 r.2
    else if tag = 2 then
      if pk sg p = 43 ∨ pk sg p = 45 then
        let r := pc sg n 3 deep [] (adv p)
        pc sg n 2 deep (v ++ r.1 ++ [2000 + pk sg p]) r.2
      else (v, p)
    else if tag = 3 then
      let r := pc sg n 5 deep [] p
      pc sg n 4 deep r.1 r.2
    else if tag = 4 then
      if pk sg p = 42 ∨ pk sg p = 47 then
        let r := pc sg n 5 deep [] (adv p)
        pc sg n 4 deep (v ++ r.1 ++ [2000 + pk sg p]) r.2
      else (v, p)
    else
      if pk sg p = 45 then
        let r := pc sg n 5 deep [] (adv p)
        (r.1 ++ [2256], r.2)
      else if ¬ p.2 = -1 then ([], p)
      else if pk sg p = 40 ∧ deep < 4 then
        let r := pc sg n 0 (deep + 1) [] (adv p)
        (r.1, nd sg 41 r.2)
      else if lt8 (pk sg p) = -1 then
        let r := nm sg 2 p
        ([r.1], r.2)
      else ([1000 + lt8 (pk sg p)], adv p)
theorem pkv {sg : Nat → Int32} {n : Nat} (h : sgE sg n) {p : Nat × Int32} {c : Int32} (e : pk sg p = c) (hc : ¬ c = -1) : p.1 < n := pk_at h (by rw [e]; exact hc)
theorem pc_at {sg : Nat → Int32} {N : Nat} (h : sgE sg N) : ∀ (n tag deep : Nat) (v : List Int32) (p : Nat × Int32), p.1 ≤ N → p.1 ≤ (pc sg n tag deep v p).2.1 ∧ (pc sg n tag deep v p).2.1 ≤ N := by
  intro n
  induction n with
  | zero => intro tag deep v p hp; exact ⟨Nat.le_refl _, hp⟩
  | succ n ih =>
    intro tag deep v p hp
    have adv_ok : ∀ q : Nat × Int32, ¬ pk sg q = -1 → (adv q).1 ≤ N := fun q hq => pk_at h hq
    have two : ∀ (t1 t2 d1 d2 : Nat) (v1 v2 : List Int32) (q : Nat × Int32), q.1 ≤ N → q.1 ≤ (pc sg n t2 d2 v2 (pc sg n t1 d1 v1 q).2).2.1 ∧ (pc sg n t2 d2 v2 (pc sg n t1 d1 v1 q).2).2.1 ≤ N := by
      intro t1 t2 d1 d2 v1 v2 q hq
      have a := ih t1 d1 v1 q hq
      have b := ih t2 d2 v2 _ a.2
      exact ⟨Nat.le_trans a.1 b.1, b.2⟩
    unfold pc
    split
    · have a := ih 1 deep [] p hp
      simp only
      split
      · rename_i hq
        have hne : ¬ pk sg (pc sg n 1 deep [] p).2 = -1 := by
          rcases hq with e | e | e <;> rw [e] <;> decide
        have b := ih 1 deep [] _ (adv_ok _ hne)
        exact ⟨Nat.le_trans a.1 (Nat.le_trans (Nat.le_succ _) b.1), b.2⟩
      · exact a
    split
    · exact two _ _ _ _ _ _ _ hp
    split
    · split
      · rename_i hq
        have hne : ¬ pk sg p = -1 := by
          rcases hq with e | e <;> rw [e] <;> decide
        have b := two 3 2 deep deep [] (v ++ (pc sg n 3 deep [] (adv p)).1 ++ [2000 + pk sg p]) _ (adv_ok _ hne)
        exact ⟨Nat.le_trans (Nat.le_succ _) b.1, b.2⟩
      · exact ⟨Nat.le_refl _, hp⟩
    split
    · exact two _ _ _ _ _ _ _ hp
    split
    · split
      · rename_i hq
        have hne : ¬ pk sg p = -1 := by
          rcases hq with e | e <;> rw [e] <;> decide
        have b := two 5 4 deep deep [] (v ++ (pc sg n 5 deep [] (adv p)).1 ++ [2000 + pk sg p]) _ (adv_ok _ hne)
        exact ⟨Nat.le_trans (Nat.le_succ _) b.1, b.2⟩
      · exact ⟨Nat.le_refl _, hp⟩
    split
    · rename_i hq
      have b := ih 5 deep [] _ (adv_ok p (by rw [hq]; decide))
      exact ⟨Nat.le_trans (Nat.le_succ _) b.1, b.2⟩
    split
    · exact ⟨Nat.le_refl _, hp⟩
    split
    · rename_i hq
      have b := ih 0 (deep + 1) [] _ (adv_ok p (by rw [hq.1]; decide))
      have c := nd_at h (c := 41) (by decide) b.2
      exact ⟨Nat.le_trans (Nat.le_succ _) (Nat.le_trans b.1 c.1), c.2⟩
    split
    · exact nm_at h 2 hp
    · rename_i hq
      exact ⟨Nat.le_succ _, adv_ok p (fun e => hq (by rw [e]; decide))⟩
/-- a code, worked out -/
def ev1 (t : Nat → Int32) (one : Int32) (S : List Int32) : List Int32 :=
  if 2000 ≤ one then
    (if one = 2256 then (match S with
      | [] => []
      | a :: S' => -a :: S')
     else (match S with
      | b :: a :: S' => jt (one - 2000) a b :: S'
      | S' => S'))
  else (if one - 1000 < 0 then one else if 8 ≤ one - 1000 then one else t (one - 1000).toNatClampNeg) :: S
def ev (t : Nat → Int32) : List Int32 → List Int32 → List Int32
  | [], S => S
  | one :: c, S => ev t c (ev1 t one S)
theorem ev_app (t : Nat → Int32) : ∀ (a b : List Int32) (S : List Int32), ev t (a ++ b) S = ev t b (ev t a S)
  | [], _, _ => rfl
  | _ :: a, b, S => ev_app t a b _
theorem f204 (c : Int32) : aF d 204 [.int c] (g, I, J, aP1 sl rd rl) = some (some (some (.int (lt8 c))), (g, I, J, aP1 sl rd rl)) := by
  show aE d 204 0 [.int c] [] _ = _
  rw [b204_0]
  unfold lt8
  (repeat' split) <;> rfl
theorem lt8_ix (c : Int32) : lt8 c = -1 ∨ ∃ k, k < 8 ∧ lt8 c = nI k := by
  unfold lt8
  (repeat' split) <;> first | exact Or.inl rfl | exact Or.inr ⟨0, by decide, rfl⟩ | exact Or.inr ⟨1, by decide, rfl⟩ | exact Or.inr ⟨2, by decide, rfl⟩ | exact Or.inr ⟨3, by decide, rfl⟩ | exact Or.inr ⟨4, by decide, rfl⟩ | exact Or.inr ⟨5, by decide, rfl⟩ | exact Or.inr ⟨6, by decide, rfl⟩ | exact Or.inr ⟨7, by decide, rfl⟩
theorem lt8_dig {c : Int32} (h : ¬ c < 48) (h2 : c ≤ 57) : lt8 c = -1 := by
  unfold lt8
  have q : ∀ k : Int32, 57 < k.toInt → c ≠ k := fun k hk e => by
    rw [int_le, e] at h2
    have : (57 : Int32).toInt = 57 := rfl
    omega
  rw [if_neg (q _ (by decide)), if_neg (q _ (by decide)), if_neg (q _ (by decide)), if_neg (q _ (by decide)), if_neg (q _ (by decide)), if_neg (q _ (by decide)), if_neg (q _ (by decide)), if_neg (q _ (by decide))]
theorem ev_thing (t : Nat → Int32) {k : Nat} (h : k < 8) (S : List Int32) : ev t [1000 + nI k] S = t k :: S := by
  rcases ix8c h with rfl | rfl | rfl | rfl | rfl | rfl | rfl | rfl <;> rfl
theorem ev_sign (t : Nat → Int32) (s a b : Int32) (S : List Int32) (h : 2000 ≤ 2000 + s) (h2 : ¬ 2000 + s = 2256) : ev t [2000 + s] (b :: a :: S) = jt s a b :: S := by
  show ev1 t (2000 + s) (b :: a :: S) = _
  unfold ev1
  rw [if_pos h, if_neg h2]
  simp only
  rw [show 2000 + s - 2000 = s by rw [Int32.add_comm, Int32.add_sub_cancel]]
theorem ev_neg (t : Nat → Int32) (a : Int32) (S : List Int32) : ev t [2256] (a :: S) = -a :: S := rfl
theorem num1 : ∀ b, b < 1000 → (nI b - 1000 < 0 ∧ ¬ 2000 ≤ nI b) := by decide +kernel
theorem dig {x : Int32} (h : ¬ x < 48) (h2 : x ≤ 57) : ∃ k, k < 10 ∧ x = nI (48 + k) := by
  obtain ⟨j, hj, rfl⟩ := nI_of2 (x := x) (M := 57) (n := 57) rfl (fun q => h (by rw [int_lt] at q ⊢; have : (0 : Int32).toInt = 0 := rfl; have : (48 : Int32).toInt = 48 := rfl; omega)) h2
  refine ⟨j - 48, by omega, ?_⟩
  have : 48 ≤ j := by
    apply Classical.byContradiction; intro q
    exact h (nI_lt (b := 48) (by omega) (by decide))
  rw [show 48 + (j - 48) = j by omega]
theorem nmL_rng (sg : Nat → Int32) : ∀ (m B a : Nat) (p : Nat × Int32), a < B → ∃ b, b < B * 10 ^ m ∧ (nmL sg m (nI a) p).1 = nI b := by
  intro m
  induction m with
  | zero => intro B a p h; exact ⟨a, by omega, rfl⟩
  | succ m ih =>
    intro B a p h
    have hw : ∃ b, b < B * 10 ^ (m + 1) ∧ nI a = nI b := ⟨a, by
      have : 0 < 10 ^ (m + 1) := Nat.pow_pos (by decide)
      exact Nat.lt_of_lt_of_le h (Nat.le_mul_of_pos_right _ this), rfl⟩
    unfold nmL
    split
    · exact hw
    · rename_i h1
      split
      · rename_i h2
        obtain ⟨k, hk, e⟩ := dig h1 h2
        have e2 : nI a * 10 + pk sg p - 48 = nI (a * 10 + k) := by
          rw [e, show nI a * 10 = nI (a * 10) from pk_mul a 10, nI_add, show (48 : Int32) = nI 48 from rfl, pk_sub (by omega)]
          congr 1; omega
        rw [e2]
        obtain ⟨b, hb, q⟩ := ih (B * 10) (a * 10 + k) (adv p) (by omega)
        exact ⟨b, by rw [Nat.pow_succ, Nat.mul_comm (10 ^ m) 10, ← Nat.mul_assoc]; exact hb, q⟩
      · exact hw
theorem nm_rng (sg : Nat → Int32) (m : Nat) (p : Nat × Int32) : ∃ b, b < 10 ^ (m + 1) ∧ (nm sg m p).1 = nI b := by
  have h : ∃ a, a < 10 ∧ (tk sg 48 57 p).1 - 48 = nI a := by
    unfold tk
    split
    · exact ⟨0, by decide, by show (48 : Int32) - 48 = nI 0; decide⟩
    · rename_i h1
      split
      · rename_i h2
        obtain ⟨k, hk, e⟩ := dig h1 h2
        refine ⟨k, hk, ?_⟩
        simp only
        rw [e, show (48 : Int32) = nI 48 from rfl, pk_sub (by omega)]
        congr 1; omega
      · exact ⟨0, by decide, by show (48 : Int32) - 48 = nI 0; decide⟩
  obtain ⟨a, ha, e⟩ := h
  unfold nm
  rw [e]
  obtain ⟨b, hb, q⟩ := nmL_rng sg m 10 a (tk sg 48 57 p).2 ha
  exact ⟨b, by rw [Nat.pow_succ, Nat.mul_comm]; exact hb, q⟩
theorem ev_num (t sg : Nat → Int32) (p : Nat × Int32) (S : List Int32) : ev t [(nm sg 2 p).1] S = (nm sg 2 p).1 :: S := by
  obtain ⟨b, hb, e⟩ := nm_rng sg 2 p
  rw [e]
  have h := num1 b hb
  show ev1 t (nI b) S = _
  unfold ev1
  rw [if_neg h.2, if_pos h.1]
/-- no digit: where a number is wanted nothing moves -/
theorem nI_m1 {k : Nat} (h : k < 2 ^ 31) : ¬ nI k = -1 := fun e => by
  have q := nI_pos h
  rw [e] at q
  exact q (by decide)
theorem nm_no {sg : Nat → Int32} {p : Nat × Int32} (h0 : p.1 ≤ 80) (h : pk sg p < 48 ∨ ¬ pk sg p ≤ 57) (hp : p.2 = -1) : nm sg 2 p = (0, flt p (nI p.1)) := by
  have e : tk sg 48 57 p = (48, flt p (nI p.1)) := by
    unfold tk
    rcases h with h | h
    · rw [if_pos h]
    · rw [if_neg h, ite_self]
  unfold nm
  rw [e]
  have e2 : pk sg (flt p (nI p.1)) < 48 := by
    unfold pk flt
    rw [if_pos hp]
    simp only
    rw [if_neg (nI_m1 (by omega))]
    decide
  show nmL sg 2 (48 - 48) (flt p (nI p.1)) = _
  unfold nmL
  rw [if_pos e2]
  rfl
/-- one way through -/
def rOK (d : Nat) (g : Nat × Nat × Nat) (I : Nat → Nat → Int32) (J : Nat → Nat → Int64) (sl rd rl : Nat) (x : Option aO) (r : List Int32 × (Nat × Int32)) : Prop :=
  ∃ v, x = some (some (some (.int v)), (g, pM I r.2, J, aP1 sl rd rl)) ∧ (r.2.2 = -1 → I 46 23 ≠ 0 → ∀ S, ev (I 57) r.1 S = v :: S)
theorem pc_0 (sg : Nat → Int32) (n deep : Nat) (v : List Int32) (p : Nat × Int32) : pc sg (n + 1) 0 deep v p = if pk sg (pc sg n 1 deep [] p).2 = 60 ∨ pk sg (pc sg n 1 deep [] p).2 = 62 ∨ pk sg (pc sg n 1 deep [] p).2 = 61 then ((pc sg n 1 deep [] p).1 ++ (pc sg n 1 deep [] (adv (pc sg n 1 deep [] p).2)).1 ++ [2000 + pk sg (pc sg n 1 deep [] p).2], (pc sg n 1 deep [] (adv (pc sg n 1 deep [] p).2)).2) else pc sg n 1 deep [] p := rfl
theorem pc_1 (sg : Nat → Int32) (n deep : Nat) (v : List Int32) (p : Nat × Int32) : pc sg (n + 1) 1 deep v p = pc sg n 2 deep (pc sg n 3 deep [] p).1 (pc sg n 3 deep [] p).2 := rfl
theorem pc_2 (sg : Nat → Int32) (n deep : Nat) (v : List Int32) (p : Nat × Int32) : pc sg (n + 1) 2 deep v p = if pk sg p = 43 ∨ pk sg p = 45 then pc sg n 2 deep (v ++ (pc sg n 3 deep [] (adv p)).1 ++ [2000 + pk sg p]) (pc sg n 3 deep [] (adv p)).2 else (v, p) := rfl
theorem pc_3 (sg : Nat → Int32) (n deep : Nat) (v : List Int32) (p : Nat × Int32) : pc sg (n + 1) 3 deep v p = pc sg n 4 deep (pc sg n 5 deep [] p).1 (pc sg n 5 deep [] p).2 := rfl
theorem pc_4 (sg : Nat → Int32) (n deep : Nat) (v : List Int32) (p : Nat × Int32) : pc sg (n + 1) 4 deep v p = if pk sg p = 42 ∨ pk sg p = 47 then pc sg n 4 deep (v ++ (pc sg n 5 deep [] (adv p)).1 ++ [2000 + pk sg p]) (pc sg n 5 deep [] (adv p)).2 else (v, p) := rfl
theorem pc_5 (sg : Nat → Int32) (n deep : Nat) (v : List Int32) (p : Nat × Int32) : pc sg (n + 1) 5 deep v p = if pk sg p = 45 then ((pc sg n 5 deep [] (adv p)).1 ++ [2256], (pc sg n 5 deep [] (adv p)).2) else if ¬ p.2 = -1 then ([], p) else if pk sg p = 40 ∧ deep < 4 then ((pc sg n 0 (deep + 1) [] (adv p)).1, nd sg 41 (pc sg n 0 (deep + 1) [] (adv p)).2) else if lt8 (pk sg p) = -1 then ([(nm sg 2 p).1], (nm sg 2 p).2) else ([1000 + lt8 (pk sg p)], adv p) := rfl
theorem pk_fine {sg : Nat → Int32} {p : Nat × Int32} (h : ¬ pk sg p = -1) : p.2 = -1 := by
  unfold pk at h
  split at h
  · assumption
  · exact absurd rfl h
/-- what went wrong stays wrong -/
theorem pc_wrong (sg : Nat → Int32) : ∀ (n tag deep : Nat) (v : List Int32) (p : Nat × Int32), ¬ p.2 = -1 → (pc sg n tag deep v p).2 = p := by
  intro n
  induction n with
  | zero => intro tag deep v p hp; rfl
  | succ n ih =>
    intro tag deep v p hp
    have e : pk sg p = -1 := by unfold pk; rw [if_neg hp]
    unfold pc
    simp only [ih _ _ _ p hp, e]
    (repeat' split) <;> first | rfl | exact ih _ _ _ p hp | (rename_i h; exact absurd h (by decide)) | (exfalso; simp_all; done)
def rQ (g : Nat × Nat × Nat) (I : Nat → Nat → Int32) (J : Nat → Nat → Int64) (sl rd rl row len n tag k c : Nat) : Prop := ∀ (d deep : Nat) (p : Nat × Int32), p.1 ≤ 40 → 6 * (41 - p.1) + c ≤ n → 41 ≤ d + p.1 → deep ≤ 4 → rOK d g I J sl rd rl (aF d k [.ref 46, .int (nI deep)] (g, pM I p, J, aP1 sl rd rl)) (pc (sgn (I row) len 40) n tag deep [] p)
def rL (g : Nat × Nat × Nat) (I : Nat → Nat → Int32) (J : Nat → Nat → Int64) (sl rd rl row len n tag k c : Nat) : Prop := ∀ (d deep : Nat) (p : Nat × Int32) (a : List Int32) (v : Int32) (w3 w4 : Value), p.1 ≤ 40 → 6 * (41 - p.1) + c ≤ n → 41 ≤ d + p.1 → deep ≤ 4 → (p.2 = -1 → I 46 23 ≠ 0 → ∀ S, ev (I 57) a S = v :: S) → rOK d g I J sl rd rl (aE d k 6 [.ref 46, .int (nI deep), .int v, w3, w4] [] (g, pM I p, J, aP1 sl rd rl)) (pc (sgn (I row) len 40) n tag deep a p)
theorem tI_t : tI true = 1 := rfl
theorem tI_f : tI false = 0 := rfl
theorem n00 : ((0 : Int32) = 0) = True := eq_true rfl
theorem t5_52 {len n : Nat} (hl : I 46 15 = nI len) (ht : I 46 16 = nI 40) (h1 : len ≤ 80) (hB : byR (I 52)) (i5 : rQ g I J sl 53 rl 52 len n 5 203 1) (i0 : rQ g I J sl 53 rl 52 len n 0 200 4) : rQ g I J sl 53 rl 52 len (n + 1) 5 203 1 := by
  intro d deep p hp hn hd hdp
  obtain ⟨e, rfl⟩ : ∃ e, d = e + 1 := ⟨d - 1, by omega⟩
  have hE := sgn_E (I 52) len 40
  rw [pc_5]
  show rOK (e + 1) g I J sl 53 rl (aE (e + 1) 203 0 [.ref 46, .int (nI deep), aNo, aNo] [] (g, pM I p, J, aP1 sl 53 rl)) _
  rw [b203_0, f191_52 hl ht h1 (by omega) (by omega) (by decide)]
  simp only [aBi]
  rw [b203_6]
  generalize hsg : sgn (I 52) len 40 = sg at *
  by_cases s1 : pk sg p = 45
  · have hlt := pkv hE s1 (by decide)
    have e1 : ps sg 45 p = adv p := by unfold ps; rw [if_pos s1]
    simp only [s1, decide_true, tI_t, n10, if_false, if_true, e1]
    obtain ⟨v, e2, e3⟩ := i5 e deep (adv p) hlt (by show 6 * (41 - (p.1 + 1)) + 1 ≤ n; omega) (by show 41 ≤ e + (p.1 + 1); omega) hdp
    rw [hsg] at e2 e3
    rw [e2]
    simp only [aBi]
    rw [b203_14]
    refine ⟨-v, rfl, fun q1 q2 S => ?_⟩
    rw [ev_app, e3 q1 q2]
    rfl
  · have e1 : ps sg 45 p = p := by unfold ps; rw [if_neg s1]
    simp only [s1, decide_false, tI_f, n00, if_true, if_false, e1, f185, aBi, b203_20, tI_0]
    by_cases s2 : p.2 = -1
    · have hpk : sg p.1 = pk sg p := by unfold pk; rw [if_pos s2]
      simp only [s2, decide_true, Bool.true_eq_false, if_false, not_true_eq_false]
      rw [f188_52 hl ht h1 (by omega) (by omega), hsg, hpk]
      simp only [aBi]
      rw [b203_29]
      have rest : ∀ (a : Option aO), a = aBi (aF (e + 1) 181 [.int (pk sg p), .int 48, .int 57] (g, pM I p, J, aP1 sl 53 rl)) (fun x1 t1 => aE (e + 1) 203 75 [.ref 46, .int (nI deep), .int (pk sg p), aNo] [.int x1] t1) → rOK (e + 1) g I J sl 53 rl a (if lt8 (pk sg p) = -1 then ([(nm sg 2 p).1], (nm sg 2 p).2) else ([1000 + lt8 (pk sg p)], adv p)) := by
        rintro _ rfl
        rw [f181]
        simp only [aBi]
        rw [b203_75]
        unfold inI
        by_cases q1 : pk sg p < 48 ∨ ¬ pk sg p ≤ 57
        · have q2 : (if pk sg p < 48 then (0 : Int32) else if 57 < pk sg p then 0 else 1) = 0 := by
            rcases q1 with q | q
            · rw [if_pos q]
            · rw [if_pos (show 57 < pk sg p by rw [int_lt]; rw [int_le] at q; omega), ite_self]
          rw [q2, if_pos rfl, f204]
          simp only [aBi]
          rw [b203_88]
          by_cases q3 : lt8 (pk sg p) = -1
          · rw [if_pos q3, if_pos q3, pM_17, f186]
            simp only [aBv]
            rw [b203_100, nm_no (by omega) q1 s2]
            refine ⟨0, rfl, fun q => ?_⟩
            exfalso
            simp only at q
            unfold flt at q
            rw [if_pos s2] at q
            exact nI_m1 (by omega) q
          · rw [if_neg q3, if_neg q3, pM_17, nI_1, pM_u17, pM_o _ _ (by decide) (by decide)]
            obtain ⟨k, hk, q4⟩ : ∃ k, k < 8 ∧ lt8 (pk sg p) = nI k := by
              rcases lt8_ix (pk sg p) with q | q
              · exact absurd q q3
              · exact q
            by_cases q5 : I 46 23 = 0
            · rw [if_pos q5]
              exact ⟨0, rfl, fun _ q => absurd q5 q⟩
            · rw [if_neg q5, f204]
              simp only [aBi]
              rw [b203_127, q4]
              simp (disch := omega) only [pM_r, aBi, aBv, aBl, nI_1, nIle_t, nIle_f, nIlt_t, nIlt_f, nIeq_t, nIeq_f, nIneg, nI_clamp, nat_le_f, nat_le_t, nat_lt_f, nat_lt_t, or_self, or_false, false_or, if_true, if_false, ↓reduceIte, Int32.or_zero, Int32.add_zero, nIm2, nIm3, nIm4, nIp2, nIp4, nIp6, nIp8, nIp14, nIp16, nIp22, nIp24, nIp30, nIq2, nIq3, nIq4, hasI_0, aU_s, aU_i, aU_r, aU_u]
              refine ⟨I 57 k, rfl, fun _ _ S => ?_⟩
              rw [ev_thing _ hk]
        · have q2 : ¬ pk sg p < 48 := fun q => q1 (Or.inl q)
          have q3 : pk sg p ≤ 57 := Classical.byContradiction (fun q => q1 (Or.inr q))
          have q4 : ¬ 57 < pk sg p := by rw [int_lt]; rw [int_le] at q3; omega
          rw [if_neg q2, if_neg q4, if_neg (by decide), if_pos (lt8_dig q2 q3)]
          have q5 := f189_52 (d := e + 1) (g := g) (J := J) (sl := sl) (rl := rl) (I := I) (p := p) (len := len) (top := 40) (m := 2) hl ht h1 (by omega) hp hB (by decide)
          rw [hsg] at q5
          rw [show (3 : Int32) = nI (2 + 1) from rfl, q5]
          simp only [aBi]
          rw [b203_83]
          exact ⟨_, rfl, fun _ _ S => ev_num _ _ _ _⟩
      by_cases s3 : pk sg p = 40
      · by_cases s4 : deep < 4
        · have hlt := pkv hE s3 (by decide)
          rw [if_pos s3, if_neg (show ¬ 4 ≤ nI deep from nI_ge (b := 4) (by omega) (by decide)), if_pos ⟨s3, s4⟩, pM_17, nI_1, nI_1, pM_u17]
          obtain ⟨v, e2, e3⟩ := i0 e (deep + 1) (adv p) hlt (by show 6 * (41 - (p.1 + 1)) + 4 ≤ n; omega) (by show 41 ≤ e + (p.1 + 1); omega) (by omega)
          have hat := pc_at hE n 0 (deep + 1) [] (adv p) hlt
          rw [hsg] at e2 e3
          show rOK (e + 1) g I J sl 53 rl (aBi (aF e 200 [.ref 46, .int (nI (deep + 1))] (g, pM I (adv p), J, aP1 sl 53 rl)) _) _
          rw [e2]
          simp only [aBi]
          have q5 := f192_52 (d := e + 1) (g := g) (J := J) (sl := sl) (rl := rl) (I := I) (p := (pc sg n 0 (deep + 1) [] (adv p)).2) (len := len) (top := 40) (c := 41) hl ht h1 (by omega) (by omega) (by decide)
          rw [hsg] at q5
          rw [b203_58, q5]
          simp only [aBv]
          rw [b203_65]
          refine ⟨v, rfl, fun q1 q2 S => e3 ?_ q2 S⟩
          simp only at q1
          unfold nd at q1
          split at q1
          · exact q1
          · unfold flt at q1
            split at q1
            · assumption
            · exact q1
        · rw [if_pos s3, if_pos (show 4 ≤ nI deep from nI_le (a := 4) (by omega) (by omega)), if_neg (fun q => s4 q.2)]
          exact rest _ rfl
      · rw [if_neg s3, if_neg (fun q => s3 q.1)]
        exact rest _ rfl
    · simp only [s2, decide_false, if_true, not_false_eq_true]
      exact ⟨0, rfl, fun q => absurd q s2⟩
theorem t5_55 {len n : Nat} (hl : I 46 15 = nI len) (ht : I 46 16 = nI 40) (h1 : len ≤ 40) (hB : byR (I 55)) (i5 : rQ g I J sl 56 rl 55 len n 5 203 1) (i0 : rQ g I J sl 56 rl 55 len n 0 200 4) : rQ g I J sl 56 rl 55 len (n + 1) 5 203 1 := by
  intro d deep p hp hn hd hdp
  obtain ⟨e, rfl⟩ : ∃ e, d = e + 1 := ⟨d - 1, by omega⟩
  have hE := sgn_E (I 55) len 40
  rw [pc_5]
  show rOK (e + 1) g I J sl 56 rl (aE (e + 1) 203 0 [.ref 46, .int (nI deep), aNo, aNo] [] (g, pM I p, J, aP1 sl 56 rl)) _
  rw [b203_0, f191_55 hl ht h1 (by omega) (by omega) (by decide)]
  simp only [aBi]
  rw [b203_6]
  generalize hsg : sgn (I 55) len 40 = sg at *
  by_cases s1 : pk sg p = 45
  · have hlt := pkv hE s1 (by decide)
    have e1 : ps sg 45 p = adv p := by unfold ps; rw [if_pos s1]
    simp only [s1, decide_true, tI_t, n10, if_false, if_true, e1]
    obtain ⟨v, e2, e3⟩ := i5 e deep (adv p) hlt (by show 6 * (41 - (p.1 + 1)) + 1 ≤ n; omega) (by show 41 ≤ e + (p.1 + 1); omega) hdp
    rw [hsg] at e2 e3
    rw [e2]
    simp only [aBi]
    rw [b203_14]
    refine ⟨-v, rfl, fun q1 q2 S => ?_⟩
    rw [ev_app, e3 q1 q2]
    rfl
  · have e1 : ps sg 45 p = p := by unfold ps; rw [if_neg s1]
    simp only [s1, decide_false, tI_f, n00, if_true, if_false, e1, f185, aBi, b203_20, tI_0]
    by_cases s2 : p.2 = -1
    · have hpk : sg p.1 = pk sg p := by unfold pk; rw [if_pos s2]
      simp only [s2, decide_true, Bool.true_eq_false, if_false, not_true_eq_false]
      rw [f188_55 hl ht h1 (by omega) (by omega), hsg, hpk]
      simp only [aBi]
      rw [b203_29]
      have rest : ∀ (a : Option aO), a = aBi (aF (e + 1) 181 [.int (pk sg p), .int 48, .int 57] (g, pM I p, J, aP1 sl 56 rl)) (fun x1 t1 => aE (e + 1) 203 75 [.ref 46, .int (nI deep), .int (pk sg p), aNo] [.int x1] t1) → rOK (e + 1) g I J sl 56 rl a (if lt8 (pk sg p) = -1 then ([(nm sg 2 p).1], (nm sg 2 p).2) else ([1000 + lt8 (pk sg p)], adv p)) := by
        rintro _ rfl
        rw [f181]
        simp only [aBi]
        rw [b203_75]
        unfold inI
        by_cases q1 : pk sg p < 48 ∨ ¬ pk sg p ≤ 57
        · have q2 : (if pk sg p < 48 then (0 : Int32) else if 57 < pk sg p then 0 else 1) = 0 := by
            rcases q1 with q | q
            · rw [if_pos q]
            · rw [if_pos (show 57 < pk sg p by rw [int_lt]; rw [int_le] at q; omega), ite_self]
          rw [q2, if_pos rfl, f204]
          simp only [aBi]
          rw [b203_88]
          by_cases q3 : lt8 (pk sg p) = -1
          · rw [if_pos q3, if_pos q3, pM_17, f186]
            simp only [aBv]
            rw [b203_100, nm_no (by omega) q1 s2]
            refine ⟨0, rfl, fun q => ?_⟩
            exfalso
            simp only at q
            unfold flt at q
            rw [if_pos s2] at q
            exact nI_m1 (by omega) q
          · rw [if_neg q3, if_neg q3, pM_17, nI_1, pM_u17, pM_o _ _ (by decide) (by decide)]
            obtain ⟨k, hk, q4⟩ : ∃ k, k < 8 ∧ lt8 (pk sg p) = nI k := by
              rcases lt8_ix (pk sg p) with q | q
              · exact absurd q q3
              · exact q
            by_cases q5 : I 46 23 = 0
            · rw [if_pos q5]
              exact ⟨0, rfl, fun _ q => absurd q5 q⟩
            · rw [if_neg q5, f204]
              simp only [aBi]
              rw [b203_127, q4]
              simp (disch := omega) only [pM_r, aBi, aBv, aBl, nI_1, nIle_t, nIle_f, nIlt_t, nIlt_f, nIeq_t, nIeq_f, nIneg, nI_clamp, nat_le_f, nat_le_t, nat_lt_f, nat_lt_t, or_self, or_false, false_or, if_true, if_false, ↓reduceIte, Int32.or_zero, Int32.add_zero, nIm2, nIm3, nIm4, nIp2, nIp4, nIp6, nIp8, nIp14, nIp16, nIp22, nIp24, nIp30, nIq2, nIq3, nIq4, hasI_0, aU_s, aU_i, aU_r, aU_u]
              refine ⟨I 57 k, rfl, fun _ _ S => ?_⟩
              rw [ev_thing _ hk]
        · have q2 : ¬ pk sg p < 48 := fun q => q1 (Or.inl q)
          have q3 : pk sg p ≤ 57 := Classical.byContradiction (fun q => q1 (Or.inr q))
          have q4 : ¬ 57 < pk sg p := by rw [int_lt]; rw [int_le] at q3; omega
          rw [if_neg q2, if_neg q4, if_neg (by decide), if_pos (lt8_dig q2 q3)]
          have q5 := f189_55 (d := e + 1) (g := g) (J := J) (sl := sl) (rl := rl) (I := I) (p := p) (len := len) (top := 40) (m := 2) hl ht h1 (by omega) hp hB (by decide)
          rw [hsg] at q5
          rw [show (3 : Int32) = nI (2 + 1) from rfl, q5]
          simp only [aBi]
          rw [b203_83]
          exact ⟨_, rfl, fun _ _ S => ev_num _ _ _ _⟩
      by_cases s3 : pk sg p = 40
      · by_cases s4 : deep < 4
        · have hlt := pkv hE s3 (by decide)
          rw [if_pos s3, if_neg (show ¬ 4 ≤ nI deep from nI_ge (b := 4) (by omega) (by decide)), if_pos ⟨s3, s4⟩, pM_17, nI_1, nI_1, pM_u17]
          obtain ⟨v, e2, e3⟩ := i0 e (deep + 1) (adv p) hlt (by show 6 * (41 - (p.1 + 1)) + 4 ≤ n; omega) (by show 41 ≤ e + (p.1 + 1); omega) (by omega)
          have hat := pc_at hE n 0 (deep + 1) [] (adv p) hlt
          rw [hsg] at e2 e3
          show rOK (e + 1) g I J sl 56 rl (aBi (aF e 200 [.ref 46, .int (nI (deep + 1))] (g, pM I (adv p), J, aP1 sl 56 rl)) _) _
          rw [e2]
          simp only [aBi]
          have q5 := f192_55 (d := e + 1) (g := g) (J := J) (sl := sl) (rl := rl) (I := I) (p := (pc sg n 0 (deep + 1) [] (adv p)).2) (len := len) (top := 40) (c := 41) hl ht h1 (by omega) (by omega) (by decide)
          rw [hsg] at q5
          rw [b203_58, q5]
          simp only [aBv]
          rw [b203_65]
          refine ⟨v, rfl, fun q1 q2 S => e3 ?_ q2 S⟩
          simp only at q1
          unfold nd at q1
          split at q1
          · exact q1
          · unfold flt at q1
            split at q1
            · assumption
            · exact q1
        · rw [if_pos s3, if_pos (show 4 ≤ nI deep from nI_le (a := 4) (by omega) (by omega)), if_neg (fun q => s4 q.2)]
          exact rest _ rfl
      · rw [if_neg s3, if_neg (fun q => s3 q.1)]
        exact rest _ rfl
    · simp only [s2, decide_false, if_true, not_false_eq_true]
      exact ⟨0, rfl, fun q => absurd q s2⟩
theorem t5_56 {len n : Nat} (hl : I 46 15 = nI len) (ht : I 46 16 = nI 40) (h1 : len ≤ 40) (hB : byR (I 56)) (i5 : rQ g I J sl 57 rl 56 len n 5 203 1) (i0 : rQ g I J sl 57 rl 56 len n 0 200 4) : rQ g I J sl 57 rl 56 len (n + 1) 5 203 1 := by
  intro d deep p hp hn hd hdp
  obtain ⟨e, rfl⟩ : ∃ e, d = e + 1 := ⟨d - 1, by omega⟩
  have hE := sgn_E (I 56) len 40
  rw [pc_5]
  show rOK (e + 1) g I J sl 57 rl (aE (e + 1) 203 0 [.ref 46, .int (nI deep), aNo, aNo] [] (g, pM I p, J, aP1 sl 57 rl)) _
  rw [b203_0, f191_56 hl ht h1 (by omega) (by omega) (by decide)]
  simp only [aBi]
  rw [b203_6]
  generalize hsg : sgn (I 56) len 40 = sg at *
  by_cases s1 : pk sg p = 45
  · have hlt := pkv hE s1 (by decide)
    have e1 : ps sg 45 p = adv p := by unfold ps; rw [if_pos s1]
    simp only [s1, decide_true, tI_t, n10, if_false, if_true, e1]
    obtain ⟨v, e2, e3⟩ := i5 e deep (adv p) hlt (by show 6 * (41 - (p.1 + 1)) + 1 ≤ n; omega) (by show 41 ≤ e + (p.1 + 1); omega) hdp
    rw [hsg] at e2 e3
    rw [e2]
    simp only [aBi]
    rw [b203_14]
    refine ⟨-v, rfl, fun q1 q2 S => ?_⟩
    rw [ev_app, e3 q1 q2]
    rfl
  · have e1 : ps sg 45 p = p := by unfold ps; rw [if_neg s1]
    simp only [s1, decide_false, tI_f, n00, if_true, if_false, e1, f185, aBi, b203_20, tI_0]
    by_cases s2 : p.2 = -1
    · have hpk : sg p.1 = pk sg p := by unfold pk; rw [if_pos s2]
      simp only [s2, decide_true, Bool.true_eq_false, if_false, not_true_eq_false]
      rw [f188_56 hl ht h1 (by omega) (by omega), hsg, hpk]
      simp only [aBi]
      rw [b203_29]
      have rest : ∀ (a : Option aO), a = aBi (aF (e + 1) 181 [.int (pk sg p), .int 48, .int 57] (g, pM I p, J, aP1 sl 57 rl)) (fun x1 t1 => aE (e + 1) 203 75 [.ref 46, .int (nI deep), .int (pk sg p), aNo] [.int x1] t1) → rOK (e + 1) g I J sl 57 rl a (if lt8 (pk sg p) = -1 then ([(nm sg 2 p).1], (nm sg 2 p).2) else ([1000 + lt8 (pk sg p)], adv p)) := by
        rintro _ rfl
        rw [f181]
        simp only [aBi]
        rw [b203_75]
        unfold inI
        by_cases q1 : pk sg p < 48 ∨ ¬ pk sg p ≤ 57
        · have q2 : (if pk sg p < 48 then (0 : Int32) else if 57 < pk sg p then 0 else 1) = 0 := by
            rcases q1 with q | q
            · rw [if_pos q]
            · rw [if_pos (show 57 < pk sg p by rw [int_lt]; rw [int_le] at q; omega), ite_self]
          rw [q2, if_pos rfl, f204]
          simp only [aBi]
          rw [b203_88]
          by_cases q3 : lt8 (pk sg p) = -1
          · rw [if_pos q3, if_pos q3, pM_17, f186]
            simp only [aBv]
            rw [b203_100, nm_no (by omega) q1 s2]
            refine ⟨0, rfl, fun q => ?_⟩
            exfalso
            simp only at q
            unfold flt at q
            rw [if_pos s2] at q
            exact nI_m1 (by omega) q
          · rw [if_neg q3, if_neg q3, pM_17, nI_1, pM_u17, pM_o _ _ (by decide) (by decide)]
            obtain ⟨k, hk, q4⟩ : ∃ k, k < 8 ∧ lt8 (pk sg p) = nI k := by
              rcases lt8_ix (pk sg p) with q | q
              · exact absurd q q3
              · exact q
            by_cases q5 : I 46 23 = 0
            · rw [if_pos q5]
              exact ⟨0, rfl, fun _ q => absurd q5 q⟩
            · rw [if_neg q5, f204]
              simp only [aBi]
              rw [b203_127, q4]
              simp (disch := omega) only [pM_r, aBi, aBv, aBl, nI_1, nIle_t, nIle_f, nIlt_t, nIlt_f, nIeq_t, nIeq_f, nIneg, nI_clamp, nat_le_f, nat_le_t, nat_lt_f, nat_lt_t, or_self, or_false, false_or, if_true, if_false, ↓reduceIte, Int32.or_zero, Int32.add_zero, nIm2, nIm3, nIm4, nIp2, nIp4, nIp6, nIp8, nIp14, nIp16, nIp22, nIp24, nIp30, nIq2, nIq3, nIq4, hasI_0, aU_s, aU_i, aU_r, aU_u]
              refine ⟨I 57 k, rfl, fun _ _ S => ?_⟩
              rw [ev_thing _ hk]
        · have q2 : ¬ pk sg p < 48 := fun q => q1 (Or.inl q)
          have q3 : pk sg p ≤ 57 := Classical.byContradiction (fun q => q1 (Or.inr q))
          have q4 : ¬ 57 < pk sg p := by rw [int_lt]; rw [int_le] at q3; omega
          rw [if_neg q2, if_neg q4, if_neg (by decide), if_pos (lt8_dig q2 q3)]
          have q5 := f189_56 (d := e + 1) (g := g) (J := J) (sl := sl) (rl := rl) (I := I) (p := p) (len := len) (top := 40) (m := 2) hl ht h1 (by omega) hp hB (by decide)
          rw [hsg] at q5
          rw [show (3 : Int32) = nI (2 + 1) from rfl, q5]
          simp only [aBi]
          rw [b203_83]
          exact ⟨_, rfl, fun _ _ S => ev_num _ _ _ _⟩
      by_cases s3 : pk sg p = 40
      · by_cases s4 : deep < 4
        · have hlt := pkv hE s3 (by decide)
          rw [if_pos s3, if_neg (show ¬ 4 ≤ nI deep from nI_ge (b := 4) (by omega) (by decide)), if_pos ⟨s3, s4⟩, pM_17, nI_1, nI_1, pM_u17]
          obtain ⟨v, e2, e3⟩ := i0 e (deep + 1) (adv p) hlt (by show 6 * (41 - (p.1 + 1)) + 4 ≤ n; omega) (by show 41 ≤ e + (p.1 + 1); omega) (by omega)
          have hat := pc_at hE n 0 (deep + 1) [] (adv p) hlt
          rw [hsg] at e2 e3
          show rOK (e + 1) g I J sl 57 rl (aBi (aF e 200 [.ref 46, .int (nI (deep + 1))] (g, pM I (adv p), J, aP1 sl 57 rl)) _) _
          rw [e2]
          simp only [aBi]
          have q5 := f192_56 (d := e + 1) (g := g) (J := J) (sl := sl) (rl := rl) (I := I) (p := (pc sg n 0 (deep + 1) [] (adv p)).2) (len := len) (top := 40) (c := 41) hl ht h1 (by omega) (by omega) (by decide)
          rw [hsg] at q5
          rw [b203_58, q5]
          simp only [aBv]
          rw [b203_65]
          refine ⟨v, rfl, fun q1 q2 S => e3 ?_ q2 S⟩
          simp only at q1
          unfold nd at q1
          split at q1
          · exact q1
          · unfold flt at q1
            split at q1
            · assumption
            · exact q1
        · rw [if_pos s3, if_pos (show 4 ≤ nI deep from nI_le (a := 4) (by omega) (by omega)), if_neg (fun q => s4 q.2)]
          exact rest _ rfl
      · rw [if_neg s3, if_neg (fun q => s3 q.1)]
        exact rest _ rfl
    · simp only [s2, decide_false, if_true, not_false_eq_true]
      exact ⟨0, rfl, fun q => absurd q s2⟩
theorem jt42 (a b : Int32) : jt 42 a b = a * b := rfl
theorem jt43 (a b : Int32) : jt 43 a b = a + b := rfl
theorem jt45 (a b : Int32) : jt 45 a b = a - b := rfl
theorem jt47 (a b : Int32) : jt 47 a b = if b = 0 then 0 else a / b := rfl
theorem jt60 (a b : Int32) : jt 60 a b = if b ≤ a then 0 else 1 := rfl
theorem jt62 (a b : Int32) : jt 62 a b = if a ≤ b then 0 else 1 := rfl
theorem jt61 (a b : Int32) : jt 61 a b = if a = b then 1 else 0 := rfl
theorem evs (t : Nat → Int32) {a b : List Int32} {v w s : Int32} (S : List Int32) (ha : ev t a S = v :: S) (hb : ∀ S, ev t b S = w :: S) (h : 2000 ≤ 2000 + s) (h2 : ¬ 2000 + s = 2256) : ev t (a ++ b ++ [2000 + s]) S = jt s v w :: S := by
  rw [ev_app, ev_app, ha, hb, ev_sign _ _ _ _ _ h h2]
theorem t4_52 {len n : Nat} (hl : I 46 15 = nI len) (ht : I 46 16 = nI 40) (h1 : len ≤ 80) (i5 : rQ g I J sl 53 rl 52 len n 5 203 1) (i4 : rL g I J sl 53 rl 52 len n 4 202 1) : rL g I J sl 53 rl 52 len (n + 1) 4 202 1 := by
  intro d deep p a v w3 w4 hp hn hd hdp ha
  have hE := sgn_E (I 52) len 40
  rw [pc_4, b202_6, f185]
  simp only [aBi]
  rw [b202_10]
  generalize hsg : sgn (I 52) len 40 = sg at *
  by_cases s2 : p.2 = -1
  · have hpk : sg p.1 = pk sg p := by unfold pk; rw [if_pos s2]
    have hh := f188_52 (d := d) (g := g) (J := J) (sl := sl) (rl := rl) (I := I) (p := p) (len := len) (top := 40) hl ht h1 (by omega) (by omega)
    rw [hsg, hpk] at hh
    simp only [s2, decide_true, tI_t, n10, if_false, hh, aBi, b202_17, b202_35, b202_26, pM_17, nI_1, pM_u17]
    have go : ∀ s, pk sg p = s → ¬ s = -1 → ∀ (X : Option aO) (q : Int32 → Int32), (∀ w, aF d 203 [.ref 46, .int (nI deep)] (g, pM I (p.1 + 1, -1), J, aP1 sl 53 rl) = some (some (some (.int w)), (g, pM I (pc sg n 5 deep [] (adv p)).2, J, aP1 sl 53 rl)) → ∃ w3 w4, X = aE d 202 6 [.ref 46, .int (nI deep), .int (q w), w3, w4] [] (g, pM I (pc sg n 5 deep [] (adv p)).2, J, aP1 sl 53 rl)) → (∀ w, q w = jt s v w) → 2000 ≤ 2000 + s → ¬ 2000 + s = 2256 → rOK d g I J sl 53 rl X (pc sg n 4 deep (a ++ (pc sg n 5 deep [] (adv p)).1 ++ [2000 + s]) (pc sg n 5 deep [] (adv p)).2) := by
      intro s hs hs1 X q hX hq k1 k2
      have hlt := pkv hE hs hs1
      obtain ⟨w, e2, e3⟩ := i5 d deep (adv p) hlt (by show 6 * (41 - (p.1 + 1)) + 1 ≤ n; omega) (by show 41 ≤ d + (p.1 + 1); omega) hdp
      rw [hsg] at e2 e3
      have hat := pc_at hE n 5 deep [] (adv p) hlt
      have hat1 : p.1 + 1 ≤ (pc sg n 5 deep [] (adv p)).2.1 := hat.1
      obtain ⟨u3, u4, e4⟩ := hX w (by rw [show (p.1 + 1, (-1 : Int32)) = adv p from by unfold adv; rw [s2]]; exact e2)
      rw [e4]
      have e5 := i4 d deep (pc sg n 5 deep [] (adv p)).2 (a ++ (pc sg n 5 deep [] (adv p)).1 ++ [2000 + s]) (q w) u3 u4 hat.2 (by omega) (by omega) hdp (fun q1 q2 S => by
        rw [hq]
        exact evs _ S (ha s2 q2 S) (e3 q1 q2) k1 k2)
      rw [hsg] at e5
      exact e5
    by_cases s3 : pk sg p = 42
    · simp only [s3, if_true, true_or]
      refine go 42 s3 (by decide) _ (fun w => v * w) (fun w hw => ⟨_, _, by rw [hw]; simp only; rw [b202_61, if_neg (by decide)]⟩) (fun w => rfl) (by decide) (by decide)
    · by_cases s4 : pk sg p = 47
      · simp only [s4, if_true, or_true, show ((47 : Int32) = 42) = False from by decide, if_false]
        refine go 47 s4 (by decide) _ (fun w => if w = 0 then 0 else v / w) (fun w hw => ⟨.int 0, .int w, by rw [hw]; simp only; rw [b202_61, if_pos rfl]; by_cases hz : w = 0 <;> simp only [hz, if_true, if_false]⟩) (fun w => rfl) (by decide) (by decide)
      · simp only [s3, s4, if_false, or_self]
        exact ⟨v, rfl, fun q1 q2 S => ha q1 q2 S⟩
  · have hpk : pk sg p = -1 := by unfold pk; rw [if_neg s2]
    simp only [s2, decide_false, tI_f, n00, if_true, hpk, show ((-1 : Int32) = 42) = False from by decide, show ((-1 : Int32) = 47) = False from by decide, or_self, if_false]
    exact ⟨v, rfl, fun q => absurd q s2⟩
theorem t2_52 {len n : Nat} (hl : I 46 15 = nI len) (ht : I 46 16 = nI 40) (h1 : len ≤ 80) (i5 : rQ g I J sl 53 rl 52 len n 3 202 2) (i4 : rL g I J sl 53 rl 52 len n 2 201 1) : rL g I J sl 53 rl 52 len (n + 1) 2 201 1 := by
  intro d deep p a v w3 w4 hp hn hd hdp ha
  have hE := sgn_E (I 52) len 40
  rw [pc_2, b201_6, f185]
  simp only [aBi]
  rw [b201_10]
  generalize hsg : sgn (I 52) len 40 = sg at *
  by_cases s2 : p.2 = -1
  · have hpk : sg p.1 = pk sg p := by unfold pk; rw [if_pos s2]
    have hh := f188_52 (d := d) (g := g) (J := J) (sl := sl) (rl := rl) (I := I) (p := p) (len := len) (top := 40) hl ht h1 (by omega) (by omega)
    rw [hsg, hpk] at hh
    simp only [s2, decide_true, tI_t, n10, if_false, hh, aBi, b201_17, b201_35, b201_26, pM_17, nI_1, pM_u17]
    have go : ∀ s, pk sg p = s → ¬ s = -1 → ∀ (X : Option aO) (q : Int32 → Int32), (∀ w, aF d 202 [.ref 46, .int (nI deep)] (g, pM I (p.1 + 1, -1), J, aP1 sl 53 rl) = some (some (some (.int w)), (g, pM I (pc sg n 3 deep [] (adv p)).2, J, aP1 sl 53 rl)) → ∃ w3 w4, X = aE d 201 6 [.ref 46, .int (nI deep), .int (q w), w3, w4] [] (g, pM I (pc sg n 3 deep [] (adv p)).2, J, aP1 sl 53 rl)) → (∀ w, q w = jt s v w) → 2000 ≤ 2000 + s → ¬ 2000 + s = 2256 → rOK d g I J sl 53 rl X (pc sg n 2 deep (a ++ (pc sg n 3 deep [] (adv p)).1 ++ [2000 + s]) (pc sg n 3 deep [] (adv p)).2) := by
      intro s hs hs1 X q hX hq k1 k2
      have hlt := pkv hE hs hs1
      obtain ⟨w, e2, e3⟩ := i5 d deep (adv p) hlt (by show 6 * (41 - (p.1 + 1)) + 2 ≤ n; omega) (by show 41 ≤ d + (p.1 + 1); omega) hdp
      rw [hsg] at e2 e3
      have hat := pc_at hE n 3 deep [] (adv p) hlt
      have hat1 : p.1 + 1 ≤ (pc sg n 3 deep [] (adv p)).2.1 := hat.1
      obtain ⟨u3, u4, e4⟩ := hX w (by rw [show (p.1 + 1, (-1 : Int32)) = adv p from by unfold adv; rw [s2]]; exact e2)
      rw [e4]
      have e5 := i4 d deep (pc sg n 3 deep [] (adv p)).2 (a ++ (pc sg n 3 deep [] (adv p)).1 ++ [2000 + s]) (q w) u3 u4 hat.2 (by omega) (by omega) hdp (fun q1 q2 S => by
        rw [hq]
        exact evs _ S (ha s2 q2 S) (e3 q1 q2) k1 k2)
      rw [hsg] at e5
      exact e5
    by_cases s3 : pk sg p = 43
    · simp only [s3, if_true, true_or]
      refine go 43 s3 (by decide) _ (fun w => v + w) (fun w hw => ⟨_, _, by rw [hw]; simp only; rw [b201_61, if_neg (by decide)]⟩) (fun w => rfl) (by decide) (by decide)
    · by_cases s4 : pk sg p = 45
      · simp only [s4, if_true, or_true, show ((45 : Int32) = 43) = False from by decide, if_false]
        refine go 45 s4 (by decide) _ (fun w => v - w) (fun w hw => ⟨_, _, by rw [hw]; simp only; rw [b201_61, if_pos rfl]⟩) (fun w => rfl) (by decide) (by decide)
      · simp only [s3, s4, if_false, or_self]
        exact ⟨v, rfl, fun q1 q2 S => ha q1 q2 S⟩
  · have hpk : pk sg p = -1 := by unfold pk; rw [if_neg s2]
    simp only [s2, decide_false, tI_f, n00, if_true, hpk, show ((-1 : Int32) = 43) = False from by decide, show ((-1 : Int32) = 45) = False from by decide, or_self, if_false]
    exact ⟨v, rfl, fun q => absurd q s2⟩
theorem t3_52 {len n : Nat} (i5 : rQ g I J sl 53 rl 52 len n 5 203 1) (i4 : rL g I J sl 53 rl 52 len n 4 202 1) : rQ g I J sl 53 rl 52 len (n + 1) 3 202 2 := by
  intro d deep p hp hn hd hdp
  have hE := sgn_E (I 52) len 40
  rw [pc_3]
  show rOK d g I J sl 53 rl (aE d 202 0 [.ref 46, .int (nI deep), aNo, aNo, aNo] [] (g, pM I p, J, aP1 sl 53 rl)) _
  obtain ⟨w, e2, e3⟩ := i5 d deep p hp (by omega) hd hdp
  have hat := pc_at hE n 5 deep [] p hp
  rw [b202_0, e2]
  simp only [aBi]
  rw [b202_5]
  exact i4 d deep _ _ _ _ _ hat.2 (by omega) (by omega) hdp e3
theorem t1_52 {len n : Nat} (i5 : rQ g I J sl 53 rl 52 len n 3 202 2) (i4 : rL g I J sl 53 rl 52 len n 2 201 1) : rQ g I J sl 53 rl 52 len (n + 1) 1 201 3 := by
  intro d deep p hp hn hd hdp
  have hE := sgn_E (I 52) len 40
  rw [pc_1]
  show rOK d g I J sl 53 rl (aE d 201 0 [.ref 46, .int (nI deep), aNo, aNo, aNo] [] (g, pM I p, J, aP1 sl 53 rl)) _
  obtain ⟨w, e2, e3⟩ := i5 d deep p hp (by omega) hd hdp
  have hat := pc_at hE n 3 deep [] p hp
  rw [b201_0, e2]
  simp only [aBi]
  rw [b201_5]
  exact i4 d deep _ _ _ _ _ hat.2 (by omega) (by omega) hdp e3
theorem t0_52 {len n : Nat} (hl : I 46 15 = nI len) (ht : I 46 16 = nI 40) (h1 : len ≤ 80) (i1 : rQ g I J sl 53 rl 52 len n 1 201 3) : rQ g I J sl 53 rl 52 len (n + 1) 0 200 4 := by
  intro d deep p hp hn hd hdp
  have hE := sgn_E (I 52) len 40
  rw [pc_0]
  show rOK d g I J sl 53 rl (aE d 200 0 [.ref 46, .int (nI deep), aNo] [] (g, pM I p, J, aP1 sl 53 rl)) _
  obtain ⟨v, e2, e3⟩ := i1 d deep p hp (by omega) hd hdp
  have hat := pc_at hE n 1 deep [] p hp
  rw [b200_0, e2]
  simp only [aBi]
  rw [b200_5]
  generalize hsg : sgn (I 52) len 40 = sg at *
  generalize hr : pc sg n 1 deep [] p = r at *
  have hh (c : Int32) (hc : 0 ≤ c) := f191_52 (d := d) (g := g) (J := J) (sl := sl) (rl := rl) (I := I) (p := r.2) (len := len) (top := 40) hl ht h1 (by omega) (by omega) hc
  rw [hsg] at hh
  have two : ∀ s, pk sg r.2 = s → ¬ s = -1 → ∀ (F : Int32 → aS → Option aO) (q : Int32 → Int32), (∀ w, F w (g, pM I (pc sg n 1 deep [] (adv r.2)).2, J, aP1 sl 53 rl) = some (some (some (.int (q w))), (g, pM I (pc sg n 1 deep [] (adv r.2)).2, J, aP1 sl 53 rl))) → (∀ w, q w = jt s v w) → 2000 ≤ 2000 + s → ¬ 2000 + s = 2256 → rOK d g I J sl 53 rl (aBi (aF d 201 [.ref 46, .int (nI deep)] (g, pM I (adv r.2), J, aP1 sl 53 rl)) F) (r.1 ++ (pc sg n 1 deep [] (adv r.2)).1 ++ [2000 + s], (pc sg n 1 deep [] (adv r.2)).2) := by
    intro s hs hs1 F q hF hq k1 k2
    have hlt := pkv hE hs hs1
    obtain ⟨w, e4, e5⟩ := i1 d deep (adv r.2) hlt (by show 6 * (41 - (r.2.1 + 1)) + 3 ≤ n; omega) (by show 41 ≤ d + (r.2.1 + 1); omega) hdp
    rw [hsg] at e4 e5
    rw [e4]
    simp only [aBi]
    rw [hF]
    refine ⟨q w, rfl, fun q1 q2 S => ?_⟩
    rw [hq]
    exact evs _ S (e3 (pk_fine (by rw [hs]; exact hs1)) q2 S) (e5 q1 q2) k1 k2
  have no (c : Int32) (h : ¬ pk sg r.2 = c) : ps sg c r.2 = r.2 := by unfold ps; rw [if_neg h]
  have ye (c : Int32) (h : pk sg r.2 = c) : ps sg c r.2 = adv r.2 := by unfold ps; rw [if_pos h]
  rw [hh 60 (by decide)]
  simp only [aBi]
  rw [b200_12]
  by_cases s1 : pk sg r.2 = 60
  · rw [ye 60 s1]
    simp only [s1, decide_true, tI_t, n10, if_false, true_or, if_true]
    refine two 60 s1 (by decide) _ (fun w => if w ≤ v then 0 else 1) (fun w => ?_) (fun w => rfl) (by decide) (by decide)
    rw [b200_21]
    split <;> rfl
  · rw [no 60 s1]
    simp only [s1, decide_false, tI_f, n00, if_true, false_or]
    rw [hh 62 (by decide)]
    simp only [aBi]
    rw [b200_36]
    by_cases s2 : pk sg r.2 = 62
    · rw [ye 62 s2]
      simp only [s2, decide_true, tI_t, n10, if_false, true_or, if_true]
      refine two 62 s2 (by decide) _ (fun w => if v ≤ w then 0 else 1) (fun w => ?_) (fun w => rfl) (by decide) (by decide)
      rw [b200_45]
      split <;> rfl
    · rw [no 62 s2]
      simp only [s2, decide_false, tI_f, n00, if_true, false_or]
      rw [hh 61 (by decide)]
      simp only [aBi]
      rw [b200_60]
      by_cases s3 : pk sg r.2 = 61
      · rw [ye 61 s3]
        simp only [s3, decide_true, tI_t, n10, if_false, if_true]
        refine two 61 s3 (by decide) _ (fun w => if v = w then 1 else 0) (fun w => ?_) (fun w => rfl) (by decide) (by decide)
        rw [b200_69]
        split <;> rfl
      · rw [no 61 s3]
        simp only [s3, decide_false, tI_f, n00, if_true, if_false]
        exact ⟨v, rfl, e3⟩
theorem rAll_52 {len : Nat} (hl : I 46 15 = nI len) (ht : I 46 16 = nI 40) (h1 : len ≤ 80) (hB : byR (I 52)) : ∀ n, rQ g I J sl 53 rl 52 len n 0 200 4 ∧ rQ g I J sl 53 rl 52 len n 1 201 3 ∧ rL g I J sl 53 rl 52 len n 2 201 1 ∧ rQ g I J sl 53 rl 52 len n 3 202 2 ∧ rL g I J sl 53 rl 52 len n 4 202 1 ∧ rQ g I J sl 53 rl 52 len n 5 203 1 := by
  intro n
  induction n with
  | zero =>
    refine ⟨?_, ?_, ?_, ?_, ?_, ?_⟩ <;> intro d deep p
    · intro h1 h2; omega
    · intro h1 h2; omega
    · intro a v w3 w4 h1 h2; omega
    · intro h1 h2; omega
    · intro a v w3 w4 h1 h2; omega
    · intro h1 h2; omega
  | succ n ih =>
    obtain ⟨i0, i1, i2, i3, i4, i5⟩ := ih
    exact ⟨t0_52 hl ht h1 i1, t1_52 i3 i2, t2_52 hl ht h1 i3 i2, t3_52 i5 i4, t4_52 hl ht h1 i5 i4, t5_52 hl ht h1 hB i5 i0⟩
theorem t4_55 {len n : Nat} (hl : I 46 15 = nI len) (ht : I 46 16 = nI 40) (h1 : len ≤ 40) (i5 : rQ g I J sl 56 rl 55 len n 5 203 1) (i4 : rL g I J sl 56 rl 55 len n 4 202 1) : rL g I J sl 56 rl 55 len (n + 1) 4 202 1 := by
  intro d deep p a v w3 w4 hp hn hd hdp ha
  have hE := sgn_E (I 55) len 40
  rw [pc_4, b202_6, f185]
  simp only [aBi]
  rw [b202_10]
  generalize hsg : sgn (I 55) len 40 = sg at *
  by_cases s2 : p.2 = -1
  · have hpk : sg p.1 = pk sg p := by unfold pk; rw [if_pos s2]
    have hh := f188_55 (d := d) (g := g) (J := J) (sl := sl) (rl := rl) (I := I) (p := p) (len := len) (top := 40) hl ht h1 (by omega) (by omega)
    rw [hsg, hpk] at hh
    simp only [s2, decide_true, tI_t, n10, if_false, hh, aBi, b202_17, b202_35, b202_26, pM_17, nI_1, pM_u17]
    have go : ∀ s, pk sg p = s → ¬ s = -1 → ∀ (X : Option aO) (q : Int32 → Int32), (∀ w, aF d 203 [.ref 46, .int (nI deep)] (g, pM I (p.1 + 1, -1), J, aP1 sl 56 rl) = some (some (some (.int w)), (g, pM I (pc sg n 5 deep [] (adv p)).2, J, aP1 sl 56 rl)) → ∃ w3 w4, X = aE d 202 6 [.ref 46, .int (nI deep), .int (q w), w3, w4] [] (g, pM I (pc sg n 5 deep [] (adv p)).2, J, aP1 sl 56 rl)) → (∀ w, q w = jt s v w) → 2000 ≤ 2000 + s → ¬ 2000 + s = 2256 → rOK d g I J sl 56 rl X (pc sg n 4 deep (a ++ (pc sg n 5 deep [] (adv p)).1 ++ [2000 + s]) (pc sg n 5 deep [] (adv p)).2) := by
      intro s hs hs1 X q hX hq k1 k2
      have hlt := pkv hE hs hs1
      obtain ⟨w, e2, e3⟩ := i5 d deep (adv p) hlt (by show 6 * (41 - (p.1 + 1)) + 1 ≤ n; omega) (by show 41 ≤ d + (p.1 + 1); omega) hdp
      rw [hsg] at e2 e3
      have hat := pc_at hE n 5 deep [] (adv p) hlt
      have hat1 : p.1 + 1 ≤ (pc sg n 5 deep [] (adv p)).2.1 := hat.1
      obtain ⟨u3, u4, e4⟩ := hX w (by rw [show (p.1 + 1, (-1 : Int32)) = adv p from by unfold adv; rw [s2]]; exact e2)
      rw [e4]
      have e5 := i4 d deep (pc sg n 5 deep [] (adv p)).2 (a ++ (pc sg n 5 deep [] (adv p)).1 ++ [2000 + s]) (q w) u3 u4 hat.2 (by omega) (by omega) hdp (fun q1 q2 S => by
        rw [hq]
        exact evs _ S (ha s2 q2 S) (e3 q1 q2) k1 k2)
      rw [hsg] at e5
      exact e5
    by_cases s3 : pk sg p = 42
    · simp only [s3, if_true, true_or]
      refine go 42 s3 (by decide) _ (fun w => v * w) (fun w hw => ⟨_, _, by rw [hw]; simp only; rw [b202_61, if_neg (by decide)]⟩) (fun w => rfl) (by decide) (by decide)
    · by_cases s4 : pk sg p = 47
      · simp only [s4, if_true, or_true, show ((47 : Int32) = 42) = False from by decide, if_false]
        refine go 47 s4 (by decide) _ (fun w => if w = 0 then 0 else v / w) (fun w hw => ⟨.int 0, .int w, by rw [hw]; simp only; rw [b202_61, if_pos rfl]; by_cases hz : w = 0 <;> simp only [hz, if_true, if_false]⟩) (fun w => rfl) (by decide) (by decide)
      · simp only [s3, s4, if_false, or_self]
        exact ⟨v, rfl, fun q1 q2 S => ha q1 q2 S⟩
  · have hpk : pk sg p = -1 := by unfold pk; rw [if_neg s2]
    simp only [s2, decide_false, tI_f, n00, if_true, hpk, show ((-1 : Int32) = 42) = False from by decide, show ((-1 : Int32) = 47) = False from by decide, or_self, if_false]
    exact ⟨v, rfl, fun q => absurd q s2⟩
theorem t2_55 {len n : Nat} (hl : I 46 15 = nI len) (ht : I 46 16 = nI 40) (h1 : len ≤ 40) (i5 : rQ g I J sl 56 rl 55 len n 3 202 2) (i4 : rL g I J sl 56 rl 55 len n 2 201 1) : rL g I J sl 56 rl 55 len (n + 1) 2 201 1 := by
  intro d deep p a v w3 w4 hp hn hd hdp ha
  have hE := sgn_E (I 55) len 40
  rw [pc_2, b201_6, f185]
  simp only [aBi]
  rw [b201_10]
  generalize hsg : sgn (I 55) len 40 = sg at *
  by_cases s2 : p.2 = -1
  · have hpk : sg p.1 = pk sg p := by unfold pk; rw [if_pos s2]
    have hh := f188_55 (d := d) (g := g) (J := J) (sl := sl) (rl := rl) (I := I) (p := p) (len := len) (top := 40) hl ht h1 (by omega) (by omega)
    rw [hsg, hpk] at hh
    simp only [s2, decide_true, tI_t, n10, if_false, hh, aBi, b201_17, b201_35, b201_26, pM_17, nI_1, pM_u17]
    have go : ∀ s, pk sg p = s → ¬ s = -1 → ∀ (X : Option aO) (q : Int32 → Int32), (∀ w, aF d 202 [.ref 46, .int (nI deep)] (g, pM I (p.1 + 1, -1), J, aP1 sl 56 rl) = some (some (some (.int w)), (g, pM I (pc sg n 3 deep [] (adv p)).2, J, aP1 sl 56 rl)) → ∃ w3 w4, X = aE d 201 6 [.ref 46, .int (nI deep), .int (q w), w3, w4] [] (g, pM I (pc sg n 3 deep [] (adv p)).2, J, aP1 sl 56 rl)) → (∀ w, q w = jt s v w) → 2000 ≤ 2000 + s → ¬ 2000 + s = 2256 → rOK d g I J sl 56 rl X (pc sg n 2 deep (a ++ (pc sg n 3 deep [] (adv p)).1 ++ [2000 + s]) (pc sg n 3 deep [] (adv p)).2) := by
      intro s hs hs1 X q hX hq k1 k2
      have hlt := pkv hE hs hs1
      obtain ⟨w, e2, e3⟩ := i5 d deep (adv p) hlt (by show 6 * (41 - (p.1 + 1)) + 2 ≤ n; omega) (by show 41 ≤ d + (p.1 + 1); omega) hdp
      rw [hsg] at e2 e3
      have hat := pc_at hE n 3 deep [] (adv p) hlt
      have hat1 : p.1 + 1 ≤ (pc sg n 3 deep [] (adv p)).2.1 := hat.1
      obtain ⟨u3, u4, e4⟩ := hX w (by rw [show (p.1 + 1, (-1 : Int32)) = adv p from by unfold adv; rw [s2]]; exact e2)
      rw [e4]
      have e5 := i4 d deep (pc sg n 3 deep [] (adv p)).2 (a ++ (pc sg n 3 deep [] (adv p)).1 ++ [2000 + s]) (q w) u3 u4 hat.2 (by omega) (by omega) hdp (fun q1 q2 S => by
        rw [hq]
        exact evs _ S (ha s2 q2 S) (e3 q1 q2) k1 k2)
      rw [hsg] at e5
      exact e5
    by_cases s3 : pk sg p = 43
    · simp only [s3, if_true, true_or]
      refine go 43 s3 (by decide) _ (fun w => v + w) (fun w hw => ⟨_, _, by rw [hw]; simp only; rw [b201_61, if_neg (by decide)]⟩) (fun w => rfl) (by decide) (by decide)
    · by_cases s4 : pk sg p = 45
      · simp only [s4, if_true, or_true, show ((45 : Int32) = 43) = False from by decide, if_false]
        refine go 45 s4 (by decide) _ (fun w => v - w) (fun w hw => ⟨_, _, by rw [hw]; simp only; rw [b201_61, if_pos rfl]⟩) (fun w => rfl) (by decide) (by decide)
      · simp only [s3, s4, if_false, or_self]
        exact ⟨v, rfl, fun q1 q2 S => ha q1 q2 S⟩
  · have hpk : pk sg p = -1 := by unfold pk; rw [if_neg s2]
    simp only [s2, decide_false, tI_f, n00, if_true, hpk, show ((-1 : Int32) = 43) = False from by decide, show ((-1 : Int32) = 45) = False from by decide, or_self, if_false]
    exact ⟨v, rfl, fun q => absurd q s2⟩
theorem t3_55 {len n : Nat} (i5 : rQ g I J sl 56 rl 55 len n 5 203 1) (i4 : rL g I J sl 56 rl 55 len n 4 202 1) : rQ g I J sl 56 rl 55 len (n + 1) 3 202 2 := by
  intro d deep p hp hn hd hdp
  have hE := sgn_E (I 55) len 40
  rw [pc_3]
  show rOK d g I J sl 56 rl (aE d 202 0 [.ref 46, .int (nI deep), aNo, aNo, aNo] [] (g, pM I p, J, aP1 sl 56 rl)) _
  obtain ⟨w, e2, e3⟩ := i5 d deep p hp (by omega) hd hdp
  have hat := pc_at hE n 5 deep [] p hp
  rw [b202_0, e2]
  simp only [aBi]
  rw [b202_5]
  exact i4 d deep _ _ _ _ _ hat.2 (by omega) (by omega) hdp e3
theorem t1_55 {len n : Nat} (i5 : rQ g I J sl 56 rl 55 len n 3 202 2) (i4 : rL g I J sl 56 rl 55 len n 2 201 1) : rQ g I J sl 56 rl 55 len (n + 1) 1 201 3 := by
  intro d deep p hp hn hd hdp
  have hE := sgn_E (I 55) len 40
  rw [pc_1]
  show rOK d g I J sl 56 rl (aE d 201 0 [.ref 46, .int (nI deep), aNo, aNo, aNo] [] (g, pM I p, J, aP1 sl 56 rl)) _
  obtain ⟨w, e2, e3⟩ := i5 d deep p hp (by omega) hd hdp
  have hat := pc_at hE n 3 deep [] p hp
  rw [b201_0, e2]
  simp only [aBi]
  rw [b201_5]
  exact i4 d deep _ _ _ _ _ hat.2 (by omega) (by omega) hdp e3
theorem t0_55 {len n : Nat} (hl : I 46 15 = nI len) (ht : I 46 16 = nI 40) (h1 : len ≤ 40) (i1 : rQ g I J sl 56 rl 55 len n 1 201 3) : rQ g I J sl 56 rl 55 len (n + 1) 0 200 4 := by
  intro d deep p hp hn hd hdp
  have hE := sgn_E (I 55) len 40
  rw [pc_0]
  show rOK d g I J sl 56 rl (aE d 200 0 [.ref 46, .int (nI deep), aNo] [] (g, pM I p, J, aP1 sl 56 rl)) _
  obtain ⟨v, e2, e3⟩ := i1 d deep p hp (by omega) hd hdp
  have hat := pc_at hE n 1 deep [] p hp
  rw [b200_0, e2]
  simp only [aBi]
  rw [b200_5]
  generalize hsg : sgn (I 55) len 40 = sg at *
  generalize hr : pc sg n 1 deep [] p = r at *
  have hh (c : Int32) (hc : 0 ≤ c) := f191_55 (d := d) (g := g) (J := J) (sl := sl) (rl := rl) (I := I) (p := r.2) (len := len) (top := 40) hl ht h1 (by omega) (by omega) hc
  rw [hsg] at hh
  have two : ∀ s, pk sg r.2 = s → ¬ s = -1 → ∀ (F : Int32 → aS → Option aO) (q : Int32 → Int32), (∀ w, F w (g, pM I (pc sg n 1 deep [] (adv r.2)).2, J, aP1 sl 56 rl) = some (some (some (.int (q w))), (g, pM I (pc sg n 1 deep [] (adv r.2)).2, J, aP1 sl 56 rl))) → (∀ w, q w = jt s v w) → 2000 ≤ 2000 + s → ¬ 2000 + s = 2256 → rOK d g I J sl 56 rl (aBi (aF d 201 [.ref 46, .int (nI deep)] (g, pM I (adv r.2), J, aP1 sl 56 rl)) F) (r.1 ++ (pc sg n 1 deep [] (adv r.2)).1 ++ [2000 + s], (pc sg n 1 deep [] (adv r.2)).2) := by
    intro s hs hs1 F q hF hq k1 k2
    have hlt := pkv hE hs hs1
    obtain ⟨w, e4, e5⟩ := i1 d deep (adv r.2) hlt (by show 6 * (41 - (r.2.1 + 1)) + 3 ≤ n; omega) (by show 41 ≤ d + (r.2.1 + 1); omega) hdp
    rw [hsg] at e4 e5
    rw [e4]
    simp only [aBi]
    rw [hF]
    refine ⟨q w, rfl, fun q1 q2 S => ?_⟩
    rw [hq]
    exact evs _ S (e3 (pk_fine (by rw [hs]; exact hs1)) q2 S) (e5 q1 q2) k1 k2
  have no (c : Int32) (h : ¬ pk sg r.2 = c) : ps sg c r.2 = r.2 := by unfold ps; rw [if_neg h]
  have ye (c : Int32) (h : pk sg r.2 = c) : ps sg c r.2 = adv r.2 := by unfold ps; rw [if_pos h]
  rw [hh 60 (by decide)]
  simp only [aBi]
  rw [b200_12]
  by_cases s1 : pk sg r.2 = 60
  · rw [ye 60 s1]
    simp only [s1, decide_true, tI_t, n10, if_false, true_or, if_true]
    refine two 60 s1 (by decide) _ (fun w => if w ≤ v then 0 else 1) (fun w => ?_) (fun w => rfl) (by decide) (by decide)
    rw [b200_21]
    split <;> rfl
  · rw [no 60 s1]
    simp only [s1, decide_false, tI_f, n00, if_true, false_or]
    rw [hh 62 (by decide)]
    simp only [aBi]
    rw [b200_36]
    by_cases s2 : pk sg r.2 = 62
    · rw [ye 62 s2]
      simp only [s2, decide_true, tI_t, n10, if_false, true_or, if_true]
      refine two 62 s2 (by decide) _ (fun w => if v ≤ w then 0 else 1) (fun w => ?_) (fun w => rfl) (by decide) (by decide)
      rw [b200_45]
      split <;> rfl
    · rw [no 62 s2]
      simp only [s2, decide_false, tI_f, n00, if_true, false_or]
      rw [hh 61 (by decide)]
      simp only [aBi]
      rw [b200_60]
      by_cases s3 : pk sg r.2 = 61
      · rw [ye 61 s3]
        simp only [s3, decide_true, tI_t, n10, if_false, if_true]
        refine two 61 s3 (by decide) _ (fun w => if v = w then 1 else 0) (fun w => ?_) (fun w => rfl) (by decide) (by decide)
        rw [b200_69]
        split <;> rfl
      · rw [no 61 s3]
        simp only [s3, decide_false, tI_f, n00, if_true, if_false]
        exact ⟨v, rfl, e3⟩
theorem rAll_55 {len : Nat} (hl : I 46 15 = nI len) (ht : I 46 16 = nI 40) (h1 : len ≤ 40) (hB : byR (I 55)) : ∀ n, rQ g I J sl 56 rl 55 len n 0 200 4 ∧ rQ g I J sl 56 rl 55 len n 1 201 3 ∧ rL g I J sl 56 rl 55 len n 2 201 1 ∧ rQ g I J sl 56 rl 55 len n 3 202 2 ∧ rL g I J sl 56 rl 55 len n 4 202 1 ∧ rQ g I J sl 56 rl 55 len n 5 203 1 := by
  intro n
  induction n with
  | zero =>
    refine ⟨?_, ?_, ?_, ?_, ?_, ?_⟩ <;> intro d deep p
    · intro h1 h2; omega
    · intro h1 h2; omega
    · intro a v w3 w4 h1 h2; omega
    · intro h1 h2; omega
    · intro a v w3 w4 h1 h2; omega
    · intro h1 h2; omega
  | succ n ih =>
    obtain ⟨i0, i1, i2, i3, i4, i5⟩ := ih
    exact ⟨t0_55 hl ht h1 i1, t1_55 i3 i2, t2_55 hl ht h1 i3 i2, t3_55 i5 i4, t4_55 hl ht h1 i5 i4, t5_55 hl ht h1 hB i5 i0⟩
theorem t4_56 {len n : Nat} (hl : I 46 15 = nI len) (ht : I 46 16 = nI 40) (h1 : len ≤ 40) (i5 : rQ g I J sl 57 rl 56 len n 5 203 1) (i4 : rL g I J sl 57 rl 56 len n 4 202 1) : rL g I J sl 57 rl 56 len (n + 1) 4 202 1 := by
  intro d deep p a v w3 w4 hp hn hd hdp ha
  have hE := sgn_E (I 56) len 40
  rw [pc_4, b202_6, f185]
  simp only [aBi]
  rw [b202_10]
  generalize hsg : sgn (I 56) len 40 = sg at *
  by_cases s2 : p.2 = -1
  · have hpk : sg p.1 = pk sg p := by unfold pk; rw [if_pos s2]
    have hh := f188_56 (d := d) (g := g) (J := J) (sl := sl) (rl := rl) (I := I) (p := p) (len := len) (top := 40) hl ht h1 (by omega) (by omega)
    rw [hsg, hpk] at hh
    simp only [s2, decide_true, tI_t, n10, if_false, hh, aBi, b202_17, b202_35, b202_26, pM_17, nI_1, pM_u17]
    have go : ∀ s, pk sg p = s → ¬ s = -1 → ∀ (X : Option aO) (q : Int32 → Int32), (∀ w, aF d 203 [.ref 46, .int (nI deep)] (g, pM I (p.1 + 1, -1), J, aP1 sl 57 rl) = some (some (some (.int w)), (g, pM I (pc sg n 5 deep [] (adv p)).2, J, aP1 sl 57 rl)) → ∃ w3 w4, X = aE d 202 6 [.ref 46, .int (nI deep), .int (q w), w3, w4] [] (g, pM I (pc sg n 5 deep [] (adv p)).2, J, aP1 sl 57 rl)) → (∀ w, q w = jt s v w) → 2000 ≤ 2000 + s → ¬ 2000 + s = 2256 → rOK d g I J sl 57 rl X (pc sg n 4 deep (a ++ (pc sg n 5 deep [] (adv p)).1 ++ [2000 + s]) (pc sg n 5 deep [] (adv p)).2) := by
      intro s hs hs1 X q hX hq k1 k2
      have hlt := pkv hE hs hs1
      obtain ⟨w, e2, e3⟩ := i5 d deep (adv p) hlt (by show 6 * (41 - (p.1 + 1)) + 1 ≤ n; omega) (by show 41 ≤ d + (p.1 + 1); omega) hdp
      rw [hsg] at e2 e3
      have hat := pc_at hE n 5 deep [] (adv p) hlt
      have hat1 : p.1 + 1 ≤ (pc sg n 5 deep [] (adv p)).2.1 := hat.1
      obtain ⟨u3, u4, e4⟩ := hX w (by rw [show (p.1 + 1, (-1 : Int32)) = adv p from by unfold adv; rw [s2]]; exact e2)
      rw [e4]
      have e5 := i4 d deep (pc sg n 5 deep [] (adv p)).2 (a ++ (pc sg n 5 deep [] (adv p)).1 ++ [2000 + s]) (q w) u3 u4 hat.2 (by omega) (by omega) hdp (fun q1 q2 S => by
        rw [hq]
        exact evs _ S (ha s2 q2 S) (e3 q1 q2) k1 k2)
      rw [hsg] at e5
      exact e5
    by_cases s3 : pk sg p = 42
    · simp only [s3, if_true, true_or]
      refine go 42 s3 (by decide) _ (fun w => v * w) (fun w hw => ⟨_, _, by rw [hw]; simp only; rw [b202_61, if_neg (by decide)]⟩) (fun w => rfl) (by decide) (by decide)
    · by_cases s4 : pk sg p = 47
      · simp only [s4, if_true, or_true, show ((47 : Int32) = 42) = False from by decide, if_false]
        refine go 47 s4 (by decide) _ (fun w => if w = 0 then 0 else v / w) (fun w hw => ⟨.int 0, .int w, by rw [hw]; simp only; rw [b202_61, if_pos rfl]; by_cases hz : w = 0 <;> simp only [hz, if_true, if_false]⟩) (fun w => rfl) (by decide) (by decide)
      · simp only [s3, s4, if_false, or_self]
        exact ⟨v, rfl, fun q1 q2 S => ha q1 q2 S⟩
  · have hpk : pk sg p = -1 := by unfold pk; rw [if_neg s2]
    simp only [s2, decide_false, tI_f, n00, if_true, hpk, show ((-1 : Int32) = 42) = False from by decide, show ((-1 : Int32) = 47) = False from by decide, or_self, if_false]
    exact ⟨v, rfl, fun q => absurd q s2⟩
theorem t2_56 {len n : Nat} (hl : I 46 15 = nI len) (ht : I 46 16 = nI 40) (h1 : len ≤ 40) (i5 : rQ g I J sl 57 rl 56 len n 3 202 2) (i4 : rL g I J sl 57 rl 56 len n 2 201 1) : rL g I J sl 57 rl 56 len (n + 1) 2 201 1 := by
  intro d deep p a v w3 w4 hp hn hd hdp ha
  have hE := sgn_E (I 56) len 40
  rw [pc_2, b201_6, f185]
  simp only [aBi]
  rw [b201_10]
  generalize hsg : sgn (I 56) len 40 = sg at *
  by_cases s2 : p.2 = -1
  · have hpk : sg p.1 = pk sg p := by unfold pk; rw [if_pos s2]
    have hh := f188_56 (d := d) (g := g) (J := J) (sl := sl) (rl := rl) (I := I) (p := p) (len := len) (top := 40) hl ht h1 (by omega) (by omega)
    rw [hsg, hpk] at hh
    simp only [s2, decide_true, tI_t, n10, if_false, hh, aBi, b201_17, b201_35, b201_26, pM_17, nI_1, pM_u17]
    have go : ∀ s, pk sg p = s → ¬ s = -1 → ∀ (X : Option aO) (q : Int32 → Int32), (∀ w, aF d 202 [.ref 46, .int (nI deep)] (g, pM I (p.1 + 1, -1), J, aP1 sl 57 rl) = some (some (some (.int w)), (g, pM I (pc sg n 3 deep [] (adv p)).2, J, aP1 sl 57 rl)) → ∃ w3 w4, X = aE d 201 6 [.ref 46, .int (nI deep), .int (q w), w3, w4] [] (g, pM I (pc sg n 3 deep [] (adv p)).2, J, aP1 sl 57 rl)) → (∀ w, q w = jt s v w) → 2000 ≤ 2000 + s → ¬ 2000 + s = 2256 → rOK d g I J sl 57 rl X (pc sg n 2 deep (a ++ (pc sg n 3 deep [] (adv p)).1 ++ [2000 + s]) (pc sg n 3 deep [] (adv p)).2) := by
      intro s hs hs1 X q hX hq k1 k2
      have hlt := pkv hE hs hs1
      obtain ⟨w, e2, e3⟩ := i5 d deep (adv p) hlt (by show 6 * (41 - (p.1 + 1)) + 2 ≤ n; omega) (by show 41 ≤ d + (p.1 + 1); omega) hdp
      rw [hsg] at e2 e3
      have hat := pc_at hE n 3 deep [] (adv p) hlt
      have hat1 : p.1 + 1 ≤ (pc sg n 3 deep [] (adv p)).2.1 := hat.1
      obtain ⟨u3, u4, e4⟩ := hX w (by rw [show (p.1 + 1, (-1 : Int32)) = adv p from by unfold adv; rw [s2]]; exact e2)
      rw [e4]
      have e5 := i4 d deep (pc sg n 3 deep [] (adv p)).2 (a ++ (pc sg n 3 deep [] (adv p)).1 ++ [2000 + s]) (q w) u3 u4 hat.2 (by omega) (by omega) hdp (fun q1 q2 S => by
        rw [hq]
        exact evs _ S (ha s2 q2 S) (e3 q1 q2) k1 k2)
      rw [hsg] at e5
      exact e5
    by_cases s3 : pk sg p = 43
    · simp only [s3, if_true, true_or]
      refine go 43 s3 (by decide) _ (fun w => v + w) (fun w hw => ⟨_, _, by rw [hw]; simp only; rw [b201_61, if_neg (by decide)]⟩) (fun w => rfl) (by decide) (by decide)
    · by_cases s4 : pk sg p = 45
      · simp only [s4, if_true, or_true, show ((45 : Int32) = 43) = False from by decide, if_false]
        refine go 45 s4 (by decide) _ (fun w => v - w) (fun w hw => ⟨_, _, by rw [hw]; simp only; rw [b201_61, if_pos rfl]⟩) (fun w => rfl) (by decide) (by decide)
      · simp only [s3, s4, if_false, or_self]
        exact ⟨v, rfl, fun q1 q2 S => ha q1 q2 S⟩
  · have hpk : pk sg p = -1 := by unfold pk; rw [if_neg s2]
    simp only [s2, decide_false, tI_f, n00, if_true, hpk, show ((-1 : Int32) = 43) = False from by decide, show ((-1 : Int32) = 45) = False from by decide, or_self, if_false]
    exact ⟨v, rfl, fun q => absurd q s2⟩
theorem t3_56 {len n : Nat} (i5 : rQ g I J sl 57 rl 56 len n 5 203 1) (i4 : rL g I J sl 57 rl 56 len n 4 202 1) : rQ g I J sl 57 rl 56 len (n + 1) 3 202 2 := by
  intro d deep p hp hn hd hdp
  have hE := sgn_E (I 56) len 40
  rw [pc_3]
  show rOK d g I J sl 57 rl (aE d 202 0 [.ref 46, .int (nI deep), aNo, aNo, aNo] [] (g, pM I p, J, aP1 sl 57 rl)) _
  obtain ⟨w, e2, e3⟩ := i5 d deep p hp (by omega) hd hdp
  have hat := pc_at hE n 5 deep [] p hp
  rw [b202_0, e2]
  simp only [aBi]
  rw [b202_5]
  exact i4 d deep _ _ _ _ _ hat.2 (by omega) (by omega) hdp e3
theorem t1_56 {len n : Nat} (i5 : rQ g I J sl 57 rl 56 len n 3 202 2) (i4 : rL g I J sl 57 rl 56 len n 2 201 1) : rQ g I J sl 57 rl 56 len (n + 1) 1 201 3 := by
  intro d deep p hp hn hd hdp
  have hE := sgn_E (I 56) len 40
  rw [pc_1]
  show rOK d g I J sl 57 rl (aE d 201 0 [.ref 46, .int (nI deep), aNo, aNo, aNo] [] (g, pM I p, J, aP1 sl 57 rl)) _
  obtain ⟨w, e2, e3⟩ := i5 d deep p hp (by omega) hd hdp
  have hat := pc_at hE n 3 deep [] p hp
  rw [b201_0, e2]
  simp only [aBi]
  rw [b201_5]
  exact i4 d deep _ _ _ _ _ hat.2 (by omega) (by omega) hdp e3
theorem t0_56 {len n : Nat} (hl : I 46 15 = nI len) (ht : I 46 16 = nI 40) (h1 : len ≤ 40) (i1 : rQ g I J sl 57 rl 56 len n 1 201 3) : rQ g I J sl 57 rl 56 len (n + 1) 0 200 4 := by
  intro d deep p hp hn hd hdp
  have hE := sgn_E (I 56) len 40
  rw [pc_0]
  show rOK d g I J sl 57 rl (aE d 200 0 [.ref 46, .int (nI deep), aNo] [] (g, pM I p, J, aP1 sl 57 rl)) _
  obtain ⟨v, e2, e3⟩ := i1 d deep p hp (by omega) hd hdp
  have hat := pc_at hE n 1 deep [] p hp
  rw [b200_0, e2]
  simp only [aBi]
  rw [b200_5]
  generalize hsg : sgn (I 56) len 40 = sg at *
  generalize hr : pc sg n 1 deep [] p = r at *
  have hh (c : Int32) (hc : 0 ≤ c) := f191_56 (d := d) (g := g) (J := J) (sl := sl) (rl := rl) (I := I) (p := r.2) (len := len) (top := 40) hl ht h1 (by omega) (by omega) hc
  rw [hsg] at hh
  have two : ∀ s, pk sg r.2 = s → ¬ s = -1 → ∀ (F : Int32 → aS → Option aO) (q : Int32 → Int32), (∀ w, F w (g, pM I (pc sg n 1 deep [] (adv r.2)).2, J, aP1 sl 57 rl) = some (some (some (.int (q w))), (g, pM I (pc sg n 1 deep [] (adv r.2)).2, J, aP1 sl 57 rl))) → (∀ w, q w = jt s v w) → 2000 ≤ 2000 + s → ¬ 2000 + s = 2256 → rOK d g I J sl 57 rl (aBi (aF d 201 [.ref 46, .int (nI deep)] (g, pM I (adv r.2), J, aP1 sl 57 rl)) F) (r.1 ++ (pc sg n 1 deep [] (adv r.2)).1 ++ [2000 + s], (pc sg n 1 deep [] (adv r.2)).2) := by
    intro s hs hs1 F q hF hq k1 k2
    have hlt := pkv hE hs hs1
    obtain ⟨w, e4, e5⟩ := i1 d deep (adv r.2) hlt (by show 6 * (41 - (r.2.1 + 1)) + 3 ≤ n; omega) (by show 41 ≤ d + (r.2.1 + 1); omega) hdp
    rw [hsg] at e4 e5
    rw [e4]
    simp only [aBi]
    rw [hF]
    refine ⟨q w, rfl, fun q1 q2 S => ?_⟩
    rw [hq]
    exact evs _ S (e3 (pk_fine (by rw [hs]; exact hs1)) q2 S) (e5 q1 q2) k1 k2
  have no (c : Int32) (h : ¬ pk sg r.2 = c) : ps sg c r.2 = r.2 := by unfold ps; rw [if_neg h]
  have ye (c : Int32) (h : pk sg r.2 = c) : ps sg c r.2 = adv r.2 := by unfold ps; rw [if_pos h]
  rw [hh 60 (by decide)]
  simp only [aBi]
  rw [b200_12]
  by_cases s1 : pk sg r.2 = 60
  · rw [ye 60 s1]
    simp only [s1, decide_true, tI_t, n10, if_false, true_or, if_true]
    refine two 60 s1 (by decide) _ (fun w => if w ≤ v then 0 else 1) (fun w => ?_) (fun w => rfl) (by decide) (by decide)
    rw [b200_21]
    split <;> rfl
  · rw [no 60 s1]
    simp only [s1, decide_false, tI_f, n00, if_true, false_or]
    rw [hh 62 (by decide)]
    simp only [aBi]
    rw [b200_36]
    by_cases s2 : pk sg r.2 = 62
    · rw [ye 62 s2]
      simp only [s2, decide_true, tI_t, n10, if_false, true_or, if_true]
      refine two 62 s2 (by decide) _ (fun w => if v ≤ w then 0 else 1) (fun w => ?_) (fun w => rfl) (by decide) (by decide)
      rw [b200_45]
      split <;> rfl
    · rw [no 62 s2]
      simp only [s2, decide_false, tI_f, n00, if_true, false_or]
      rw [hh 61 (by decide)]
      simp only [aBi]
      rw [b200_60]
      by_cases s3 : pk sg r.2 = 61
      · rw [ye 61 s3]
        simp only [s3, decide_true, tI_t, n10, if_false, if_true]
        refine two 61 s3 (by decide) _ (fun w => if v = w then 1 else 0) (fun w => ?_) (fun w => rfl) (by decide) (by decide)
        rw [b200_69]
        split <;> rfl
      · rw [no 61 s3]
        simp only [s3, decide_false, tI_f, n00, if_true, if_false]
        exact ⟨v, rfl, e3⟩
theorem rAll_56 {len : Nat} (hl : I 46 15 = nI len) (ht : I 46 16 = nI 40) (h1 : len ≤ 40) (hB : byR (I 56)) : ∀ n, rQ g I J sl 57 rl 56 len n 0 200 4 ∧ rQ g I J sl 57 rl 56 len n 1 201 3 ∧ rL g I J sl 57 rl 56 len n 2 201 1 ∧ rQ g I J sl 57 rl 56 len n 3 202 2 ∧ rL g I J sl 57 rl 56 len n 4 202 1 ∧ rQ g I J sl 57 rl 56 len n 5 203 1 := by
  intro n
  induction n with
  | zero =>
    refine ⟨?_, ?_, ?_, ?_, ?_, ?_⟩ <;> intro d deep p
    · intro h1 h2; omega
    · intro h1 h2; omega
    · intro a v w3 w4 h1 h2; omega
    · intro h1 h2; omega
    · intro a v w3 w4 h1 h2; omega
    · intro h1 h2; omega
  | succ n ih =>
    obtain ⟨i0, i1, i2, i3, i4, i5⟩ := ih
    exact ⟨t0_56 hl ht h1 i1, t1_56 i3 i2, t2_56 hl ht h1 i3 i2, t3_56 i5 i4, t4_56 hl ht h1 i5 i4, t5_56 hl ht h1 hB i5 i0⟩
end T00
section T01
/-! the class's way through a rule's signs makes the same code -/
def bnd (s : Int32) : Int32 := if s = 60 then 1 else if s = 62 then 1 else if s = 61 then 1 else if s = 43 then 2 else if s = 45 then 2 else if s = 42 then 3 else if s = 47 then 3 else if s = 256 then 4 else 0
def stl (b : Int32) : List Int32 → List Int32 → List Int32 × List Int32
  | c, [] => (c, [])
  | c, w :: ws => if b ≤ bnd w then stl b (c ++ [2000 + w]) ws else (c, w :: ws)
/-- at, wrong; code; waiting; depth; compared; wants a thing -/
abbrev yC := (Nat × Int32) × List Int32 × List Int32 × Nat × Int32 × Bool
def yT (sg : Nat → Int32) (p : Nat × Int32) (c w : List Int32) (e : Nat) (m : Int32) : yC :=
  if pk sg p = 45 then (adv p, c, 256 :: w, e, m, true)
  else if pk sg p = 40 ∧ e < 4 then (adv p, c, 40 :: w, e + 1, m &&& (bit (e + 1) ^^^ (-1)), true)
  else if lt8 (pk sg p) = -1 then ((nm sg 2 p).2, c ++ [(nm sg 2 p).1], w, e, m, false)
  else (adv p, c ++ [1000 + lt8 (pk sg p)], w, e, m, false)
def yG (sg : Nat → Int32) (p : Nat × Int32) (c w : List Int32) (e : Nat) (m : Int32) : yC :=
  if pk sg p = 41 ∧ 0 < e then (adv p, (stl 1 c w).1, (stl 1 c w).2.tail, e - 1, m, false)
  else if bnd (pk sg p) = 0 ∨ (bnd (pk sg p) = 1 ∧ bt m e = true) then (flt p (nI p.1), c, w, e, m, false)
  else (adv p, (stl (bnd (pk sg p)) c w).1, pk sg p :: (stl (bnd (pk sg p)) c w).2, e, if bnd (pk sg p) = 1 then m ||| bit e else m, true)
def yS (sg : Nat → Int32) (y : yC) : yC := if y.2.2.2.2.2 = true then yT sg y.1 y.2.1 y.2.2.1 y.2.2.2.1 y.2.2.2.2.1 else yG sg y.1 y.2.1 y.2.2.1 y.2.2.2.1 y.2.2.2.2.1
def yL (sg : Nat → Int32) : Nat → yC → yC
  | 0, y => y
  | n + 1, y => if pk sg y.1 = -1 then y else yL sg n (yS sg y)
/-- what is wrong in the end, all read -/
def yW (y : yC) : Int32 := if y.2.2.2.2.2 = true ∨ 0 < y.2.2.2.1 then (flt y.1 (nI y.1.1)).2 else y.1.2
def yR (sg : Nat → Int32) (y z : yC) : Prop := ∀ m, 40 - y.1.1 ≤ m → ∃ m', 40 - z.1.1 ≤ m' ∧ yL sg m y = yL sg m' z
theorem yR_t {sg : Nat → Int32} {x y z : yC} (a : yR sg x y) (b : yR sg y z) : yR sg x z := by
  intro m hm
  obtain ⟨m1, h1, e1⟩ := a m hm
  obtain ⟨m2, h2, e2⟩ := b m1 h1
  exact ⟨m2, h2, e1.trans e2⟩
theorem yR_r (sg : Nat → Int32) (y : yC) : yR sg y y := fun m h => ⟨m, h, rfl⟩
theorem yR_1 {sg : Nat → Int32} (hE : sgE sg 40) {y : yC} (h : ¬ pk sg y.1 = -1) (h2 : y.1.1 < (yS sg y).1.1) : yR sg y (yS sg y) := by
  intro m hm
  have := pk_at hE h
  obtain ⟨k, rfl⟩ : ∃ k, m = k + 1 := ⟨m - 1, by omega⟩
  refine ⟨k, by omega, ?_⟩
  show (if pk sg y.1 = -1 then y else yL sg k (yS sg y)) = _
  rw [if_neg h]
/-- it comes to be wrong at w -/
def yF (sg : Nat → Int32) (y : yC) (w : Int32) : Prop := ∀ m, 40 - y.1.1 ≤ m → yW (yL sg m y) = w
theorem yF_t {sg : Nat → Int32} {x y : yC} {w : Int32} (a : yR sg x y) (b : yF sg y w) : yF sg x w := by
  intro m hm
  obtain ⟨m1, h1, e1⟩ := a m hm
  rw [e1]
  exact b m1 h1
theorem yL_end {sg : Nat → Int32} {y : yC} (h : pk sg y.1 = -1) : ∀ m, yL sg m y = y
  | 0 => rfl
  | m + 1 => if_pos h
theorem yW_wrong {y : yC} (h : ¬ y.1.2 = -1) : yW y = y.1.2 := by
  have e : flt y.1 (nI y.1.1) = y.1 := if_neg h
  unfold yW
  rw [e]
  split <;> rfl
/-- a step that goes wrong -/
theorem yF_1 {sg : Nat → Int32} (hE : sgE sg 40) {y : yC} (h : ¬ pk sg y.1 = -1) (h2 : ¬ (yS sg y).1.2 = -1) : yF sg y (yS sg y).1.2 := by
  intro m hm
  have := pk_at hE h
  obtain ⟨k, rfl⟩ : ∃ k, m = k + 1 := ⟨m - 1, by omega⟩
  have e : yL sg (k + 1) y = yL sg k (yS sg y) := by
    show (if pk sg y.1 = -1 then y else yL sg k (yS sg y)) = _
    rw [if_neg h]
  have e2 : pk sg (yS sg y).1 = -1 := by unfold pk; rw [if_neg h2]
  rw [e, yL_end e2, yW_wrong h2]
/-- the end, too early -/
theorem yF_0 {sg : Nat → Int32} {y : yC} (h : pk sg y.1 = -1) (h2 : y.1.2 = -1) (h3 : y.2.2.2.2.2 = true ∨ 0 < y.2.2.2.1) : yF sg y (nI y.1.1) := by
  intro m hm
  rw [yL_end h]
  unfold yW flt
  rw [if_pos h3, if_pos h2]
def top (b : Int32) (w : List Int32) : Prop := ∀ x r, w = x :: r → ¬ b ≤ bnd x
theorem stl_all {b : Int32} : ∀ (pd c w : List Int32), (∀ x, x ∈ pd → b ≤ bnd x) → top b w → stl b c (pd ++ w) = (c ++ pd.map (fun x => 2000 + x), w)
  | [], c, [], _, _ => by simp [stl]
  | [], c, x :: w, _, h => by
    show (if b ≤ bnd x then _ else _) = _
    rw [if_neg (h x w rfl)]; simp
  | y :: pd, c, w, h1, h2 => by
    show (if b ≤ bnd y then stl b (c ++ [2000 + y]) (pd ++ w) else _) = _
    rw [if_pos (h1 y (List.mem_cons_self ..)), stl_all pd _ w (fun x hx => h1 x (List.mem_cons_of_mem _ hx)) h2]
    simp
/-- where a piece ends: code and what still waits -/
def yP (sg : Nat → Int32) (b : Int32) (y : yC) (p : Nat × Int32) (c w : List Int32) (e : Nat) (m : Int32) (r : List Int32 × (Nat × Int32)) : Prop :=
  (¬ r.2.2 = -1 → yF sg y r.2.2) ∧ (r.2.2 = -1 → ∃ cd pd m', yR sg y (r.2, c ++ cd, pd ++ w, e, m', false) ∧ r.1 = cd ++ pd.map (fun x => 2000 + x) ∧ (∀ x, x ∈ pd → b ≤ bnd x) ∧ (∀ i, i ≤ e → bt m' i = bt m i))
theorem lePos {a b : Int32} (h : a ≤ b) {c : Int32} (h2 : b ≤ c) : a ≤ c := by
  rw [int_le] at *; omega
theorem pair_fst {α β : Type} (a : α) (b : β) : (a, b).1 = a := rfl
/-- a thing -/
def y5 (sg : Nat → Int32) (n : Nat) : Prop := ∀ (p : Nat × Int32) (c w : List Int32) (e : Nat) (m : Int32), p.2 = -1 → p.1 ≤ 40 → 6 * (41 - p.1) + 1 ≤ n → e ≤ 4 → yP sg 4 (p, c, w, e, m, true) p c w e m (pc sg n 5 e [] p)
def y3 (sg : Nat → Int32) (n : Nat) : Prop := ∀ (p : Nat × Int32) (c w : List Int32) (e : Nat) (m : Int32), p.2 = -1 → p.1 ≤ 40 → 6 * (41 - p.1) + 2 ≤ n → e ≤ 4 → top 3 w → yP sg 3 (p, c, w, e, m, true) p c w e m (pc sg n 3 e [] p) ∧ ((pc sg n 3 e [] p).2.2 = -1 → ¬ pk sg (pc sg n 3 e [] p).2 = 42 ∧ ¬ pk sg (pc sg n 3 e [] p).2 = 47)
def y4 (sg : Nat → Int32) (n : Nat) : Prop := ∀ (p : Nat × Int32) (c w a pd : List Int32) (e : Nat) (m : Int32), p.2 = -1 → p.1 ≤ 40 → 6 * (41 - p.1) + 1 ≤ n → e ≤ 4 → top 3 w → (∀ x, x ∈ pd → 3 ≤ bnd x) → yP sg 3 (p, c ++ a, pd ++ w, e, m, false) p c w e m (pc sg n 4 e (a ++ pd.map (fun x => 2000 + x)) p) ∧ ((pc sg n 4 e (a ++ pd.map (fun x => 2000 + x)) p).2.2 = -1 → ¬ pk sg (pc sg n 4 e (a ++ pd.map (fun x => 2000 + x)) p).2 = 42 ∧ ¬ pk sg (pc sg n 4 e (a ++ pd.map (fun x => 2000 + x)) p).2 = 47)
def yN (sg : Nat → Int32) (p : Nat × Int32) : Prop := ¬ pk sg p = 42 ∧ ¬ pk sg p = 47 ∧ ¬ pk sg p = 43 ∧ ¬ pk sg p = 45
def y1 (sg : Nat → Int32) (n : Nat) : Prop := ∀ (p : Nat × Int32) (c w : List Int32) (e : Nat) (m : Int32), p.2 = -1 → p.1 ≤ 40 → 6 * (41 - p.1) + 3 ≤ n → e ≤ 4 → top 2 w → yP sg 2 (p, c, w, e, m, true) p c w e m (pc sg n 1 e [] p) ∧ ((pc sg n 1 e [] p).2.2 = -1 → yN sg (pc sg n 1 e [] p).2)
def y2 (sg : Nat → Int32) (n : Nat) : Prop := ∀ (p : Nat × Int32) (c w a pd : List Int32) (e : Nat) (m : Int32), p.2 = -1 → p.1 ≤ 40 → 6 * (41 - p.1) + 1 ≤ n → e ≤ 4 → top 2 w → (∀ x, x ∈ pd → 2 ≤ bnd x) → ¬ pk sg p = 42 → ¬ pk sg p = 47 → yP sg 2 (p, c ++ a, pd ++ w, e, m, false) p c w e m (pc sg n 2 e (a ++ pd.map (fun x => 2000 + x)) p) ∧ ((pc sg n 2 e (a ++ pd.map (fun x => 2000 + x)) p).2.2 = -1 → yN sg (pc sg n 2 e (a ++ pd.map (fun x => 2000 + x)) p).2)
/-- as yP, but the depth's own sign of a comparison may be set -/
def y0 (sg : Nat → Int32) (n : Nat) : Prop := ∀ (p : Nat × Int32) (c w : List Int32) (e : Nat) (m : Int32), p.2 = -1 → p.1 ≤ 40 → 6 * (41 - p.1) + 4 ≤ n → e ≤ 4 → top 1 w → bt m e = false →
  (¬ (pc sg n 0 e [] p).2.2 = -1 → yF sg (p, c, w, e, m, true) (pc sg n 0 e [] p).2.2) ∧ ((pc sg n 0 e [] p).2.2 = -1 → ∃ cd pd m', yR sg (p, c, w, e, m, true) ((pc sg n 0 e [] p).2, c ++ cd, pd ++ w, e, m', false) ∧ (pc sg n 0 e [] p).1 = cd ++ pd.map (fun x => 2000 + x) ∧ (∀ x, x ∈ pd → 1 ≤ bnd x) ∧ (∀ i, i < e → bt m' i = bt m i) ∧ yN sg (pc sg n 0 e [] p).2 ∧ (bt m' e = true ∨ (¬ pk sg (pc sg n 0 e [] p).2 = 60 ∧ ¬ pk sg (pc sg n 0 e [] p).2 = 62 ∧ ¬ pk sg (pc sg n 0 e [] p).2 = 61)))
theorem nm_ok {sg : Nat → Int32} {p : Nat × Int32} (h0 : p.1 ≤ 80) (hf : p.2 = -1) {N : Nat} (hE : sgE sg N) (hp : p.1 ≤ N) (h : (nm sg 2 p).2.2 = -1) : p.1 < (nm sg 2 p).2.1 := by
  by_cases q1 : pk sg p < 48 ∨ ¬ pk sg p ≤ 57
  · exfalso
    rw [nm_no h0 q1 hf] at h
    simp only at h
    unfold flt at h
    rw [if_pos hf] at h
    exact nI_m1 (by omega) h
  · have q2 : ¬ pk sg p < 48 := fun q => q1 (Or.inl q)
    have q3 : pk sg p ≤ 57 := Classical.byContradiction (fun q => q1 (Or.inr q))
    have e : tk sg 48 57 p = (pk sg p, adv p) := by unfold tk; rw [if_neg q2, if_pos q3]
    have hlt := pk_ge hE (by decide) q2
    have := nmL_at hE 2 (pk sg p - 48) (adv p) hlt
    unfold nm
    rw [e]
    exact this.1
theorem pk256 {sg : Nat → Int32} (h : ∀ a, ¬ sg a = 256) (p : Nat × Int32) : ¬ pk sg p = 256 := by
  unfold pk
  split
  · exact h _
  · decide
theorem bnd_0 {s : Int32} (h : ¬ s = 256) (h1 : ¬ s = 42) (h2 : ¬ s = 47) (h3 : ¬ s = 43) (h4 : ¬ s = 45) (h5 : ¬ s = 60 ∧ ¬ s = 62 ∧ ¬ s = 61) : bnd s = 0 := by
  unfold bnd
  rw [if_neg h5.1, if_neg h5.2.1, if_neg h5.2.2, if_neg h3, if_neg h4, if_neg h1, if_neg h2, if_neg h]
theorem top_up {a b : Int32} (h : a ≤ b) {w : List Int32} (t : top a w) : top b w := fun x r e q => t x r e (lePos h q)
theorem top_c {b s : Int32} (h : ¬ b ≤ bnd s) (w : List Int32) : top b (s :: w) := fun x r e => by
  obtain ⟨rfl, _⟩ := List.cons.inj e; exact h
theorem flt_w {p : Nat × Int32} (h : p.2 = -1) (x : Int32) : flt p x = (p.1, x) := if_pos h
theorem flt_n {p : Nat × Int32} (h : ¬ p.2 = -1) (x : Int32) : flt p x = p := if_neg h
theorem pk_wr (sg : Nat → Int32) {p : Nat × Int32} (h : ¬ p.2 = -1) : pk sg p = -1 := if_neg h
theorem s5 {sg : Nat → Int32} (hE : sgE sg 40) (h256 : ∀ a, ¬ sg a = 256) {n : Nat} (i5 : y5 sg n) (i0 : y0 sg n) : y5 sg (n + 1) := by
  intro p c w e m hf hp hn he
  rw [pc_5]
  by_cases s1 : pk sg p = 45
  · rw [if_pos s1]
    have hlt := pkv hE s1 (by decide)
    have ey : yS sg (p, c, w, e, m, true) = (adv p, c, 256 :: w, e, m, true) := by
      show yT sg p c w e m = _
      unfold yT; rw [if_pos s1]
    have e1 : yR sg (p, c, w, e, m, true) (adv p, c, 256 :: w, e, m, true) := by
      rw [← ey]; exact yR_1 hE (by show ¬ pk sg p = -1; rw [s1]; decide) (by rw [ey]; exact Nat.lt_succ_self _)
    obtain ⟨a, b⟩ := i5 (adv p) c (256 :: w) e m hf hlt (by show 6 * (41 - (p.1 + 1)) + 1 ≤ n; omega) he
    refine ⟨fun q => yF_t e1 (a q), fun q => ?_⟩
    obtain ⟨cd, pd, m', h1, h2, h3, h4⟩ := b q
    refine ⟨cd, pd ++ [256], m', yR_t e1 (by simpa using h1), ?_, ?_, h4⟩
    · simp only
      rw [h2]; simp
    · intro x hx
      rcases List.mem_append.mp hx with hx | hx
      · exact h3 x hx
      · rw [List.mem_singleton.mp hx]; decide
  · rw [if_neg s1, if_neg (fun q => q hf)]
    by_cases s2 : pk sg p = 40 ∧ e < 4
    · rw [if_pos s2]
      have hlt := pkv hE s2.1 (by decide)
      have ey : yS sg (p, c, w, e, m, true) = (adv p, c, 40 :: w, e + 1, m &&& (bit (e + 1) ^^^ (-1)), true) := by
        show yT sg p c w e m = _
        unfold yT; rw [if_neg s1, if_pos s2]
      have e1 : yR sg (p, c, w, e, m, true) (adv p, c, 40 :: w, e + 1, m &&& (bit (e + 1) ^^^ (-1)), true) := by
        rw [← ey]; exact yR_1 hE (by show ¬ pk sg p = -1; rw [s2.1]; decide) (by rw [ey]; exact Nat.lt_succ_self _)
      have hm : ∀ i, i ≤ e + 1 → bt (m &&& (bit (e + 1) ^^^ (-1))) i = (bt m i && !decide (i = e + 1)) := by
        intro i hi
        rw [b_and, b_not _ (by omega), b_bit (by omega) (by omega)]
      obtain ⟨a, b⟩ := i0 (adv p) c (40 :: w) (e + 1) (m &&& (bit (e + 1) ^^^ (-1))) hf hlt (by show 6 * (41 - (p.1 + 1)) + 4 ≤ n; omega) (by omega) (top_c (by decide) w) (by rw [hm _ (Nat.le_refl _)]; simp)
      generalize hq : pc sg n 0 (e + 1) [] (adv p) = q at *
      by_cases q1 : q.2.2 = -1
      · obtain ⟨cd, pd, m', h1, h2, h3, h4, h5, h6⟩ := b q1
        have hat := pc_at hE n 0 (e + 1) [] (adv p) hlt
        rw [hq] at hat
        by_cases s3 : pk sg q.2 = 41
        · have e2 : nd sg 41 q.2 = adv q.2 := by unfold nd; rw [if_pos s3]
          have ey2 : yS sg (q.2, c ++ cd, pd ++ 40 :: w, e + 1, m', false) = (adv q.2, c ++ q.1, w, e, m', false) := by
            show yG sg q.2 (c ++ cd) (pd ++ 40 :: w) (e + 1) m' = _
            unfold yG; rw [if_pos ⟨s3, by omega⟩, stl_all pd _ _ h3 (top_c (by decide) w), h2]
            simp
          have e3 : yR sg (q.2, c ++ cd, pd ++ 40 :: w, e + 1, m', false) (adv q.2, c ++ q.1, w, e, m', false) := by
            rw [← ey2]; exact yR_1 hE (by show ¬ pk sg q.2 = -1; rw [s3]; decide) (by rw [ey2]; exact Nat.lt_succ_self _)
          rw [e2]
          refine ⟨fun q2 => absurd q1 q2, fun _ => ⟨q.1, [], m', yR_t e1 (yR_t h1 e3), by simp, fun x hx => absurd hx (List.not_mem_nil), fun i hi => ?_⟩⟩
          rw [h4 i (by omega), hm i (by omega)]
          simp only [show ¬ i = e + 1 by omega, decide_false, Bool.not_false, Bool.and_true]
        · have e2 : nd sg 41 q.2 = (q.2.1, nI q.2.1) := by unfold nd; rw [if_neg s3, flt_w q1]
          have hw : ¬ nI q.2.1 = -1 := nI_m1 (by omega)
          rw [e2]
          refine ⟨fun _ => yF_t e1 (yF_t h1 ?_), fun q2 => absurd q2 hw⟩
          by_cases s4 : pk sg q.2 = -1
          · exact yF_0 s4 q1 (Or.inr (Nat.succ_pos _))
          · have hb : bnd (pk sg q.2) = 0 ∨ (bnd (pk sg q.2) = 1 ∧ bt m' (e + 1) = true) := by
              by_cases hc : ¬ pk sg q.2 = 60 ∧ ¬ pk sg q.2 = 62 ∧ ¬ pk sg q.2 = 61
              · exact Or.inl (bnd_0 (pk256 h256 _) h5.1 h5.2.1 h5.2.2.1 h5.2.2.2 hc)
              · refine Or.inr ⟨?_, ?_⟩
                · by_cases c1 : pk sg q.2 = 60
                  · rw [c1]; rfl
                  · by_cases c2 : pk sg q.2 = 62
                    · rw [c2]; rfl
                    · by_cases c3 : pk sg q.2 = 61
                      · rw [c3]; rfl
                      · exact absurd ⟨c1, c2, c3⟩ hc
                · rcases h6 with h6 | h6
                  · exact h6
                  · exact absurd h6 hc
            have ey2 : yS sg (q.2, c ++ cd, pd ++ 40 :: w, e + 1, m', false) = ((q.2.1, nI q.2.1), c ++ cd, pd ++ 40 :: w, e + 1, m', false) := by
              show yG sg q.2 (c ++ cd) (pd ++ 40 :: w) (e + 1) m' = _
              unfold yG; rw [if_neg (fun q => s3 q.1), if_pos hb, flt_w q1]
            have e3 := yF_1 hE (y := (q.2, c ++ cd, pd ++ 40 :: w, e + 1, m', false)) s4 (by rw [ey2]; exact hw)
            rw [ey2] at e3
            exact e3
      · have e2 : nd sg 41 q.2 = q.2 := by unfold nd; rw [pk_wr sg q1, if_neg (by decide), flt_n q1]
        rw [e2]
        exact ⟨fun _ => yF_t e1 (a q1), fun q2 => absurd q2 q1⟩
    · rw [if_neg s2]
      by_cases s3 : lt8 (pk sg p) = -1
      · rw [if_pos s3]
        by_cases s4 : pk sg p = -1
        · rw [nm_no (by omega) (Or.inl (by rw [s4]; decide)) hf, flt_w hf]
          exact ⟨fun _ => yF_0 s4 hf (Or.inl rfl), fun q => absurd q (nI_m1 (by omega))⟩
        · have ey : yS sg (p, c, w, e, m, true) = ((nm sg 2 p).2, c ++ [(nm sg 2 p).1], w, e, m, false) := by
            show yT sg p c w e m = _
            unfold yT; rw [if_neg s1, if_neg s2, if_pos s3]
          refine ⟨fun q => ?_, fun q => ⟨[(nm sg 2 p).1], [], m, ?_, by simp, fun x hx => absurd hx (List.not_mem_nil), fun i hi => rfl⟩⟩
          · have e3 := yF_1 hE (y := (p, c, w, e, m, true)) s4 (by rw [ey]; exact q)
            rw [ey] at e3
            exact e3
          · have e3 := yR_1 hE (y := (p, c, w, e, m, true)) s4 (by rw [ey]; exact nm_ok (show p.1 ≤ 80 by omega) hf hE hp q)
            rw [ey] at e3
            exact e3
      · rw [if_neg s3]
        have s4 : ¬ pk sg p = -1 := fun q => s3 (by rw [q]; decide)
        have ey : yS sg (p, c, w, e, m, true) = (adv p, c ++ [1000 + lt8 (pk sg p)], w, e, m, false) := by
          show yT sg p c w e m = _
          unfold yT; rw [if_neg s1, if_neg s2, if_neg s3]
        refine ⟨fun q => absurd hf q, fun q => ⟨[1000 + lt8 (pk sg p)], [], m, ?_, by simp, fun x hx => absurd hx (List.not_mem_nil), fun i hi => rfl⟩⟩
        have e3 := yR_1 hE (y := (p, c, w, e, m, true)) s4 (by rw [ey]; exact Nat.lt_succ_self _)
        rw [ey] at e3
        exact e3
theorem s4_s {sg : Nat → Int32} (hE : sgE sg 40) {b : Int32} {p : Nat × Int32} {c w a pd : List Int32} {e : Nat} {m : Int32} (hs : ¬ pk sg p = -1) (h41 : ¬ pk sg p = 41) (hb : bnd (pk sg p) = b) (hb0 : ¬ b = 0) (hb1 : b = 1 → bt m e = false) (ht : top b w) (hpd : ∀ x, x ∈ pd → b ≤ bnd x) : yR sg (p, c ++ a, pd ++ w, e, m, false) (adv p, c ++ (a ++ pd.map (fun x => 2000 + x)), pk sg p :: w, e, if b = 1 then m ||| bit e else m, true) := by
  have ey : yS sg (p, c ++ a, pd ++ w, e, m, false) = (adv p, c ++ (a ++ pd.map (fun x => 2000 + x)), pk sg p :: w, e, if b = 1 then m ||| bit e else m, true) := by
    show yG sg p (c ++ a) (pd ++ w) e m = _
    unfold yG
    rw [if_neg (fun q => h41 q.1), hb, if_neg (by
      rintro (q | ⟨q1, q2⟩)
      · exact hb0 q
      · rw [hb1 q1] at q2; cases q2), stl_all pd _ _ hpd ht, List.append_assoc]
  have e3 := yR_1 hE (y := (p, c ++ a, pd ++ w, e, m, false)) hs (by rw [ey]; exact Nat.lt_succ_self _)
  rw [ey] at e3
  exact e3
theorem s4 {sg : Nat → Int32} (hE : sgE sg 40) {n : Nat} (i5 : y5 sg n) (i4 : y4 sg n) : y4 sg (n + 1) := by
  intro p c w a pd e m hf hp hn he ht hpd
  rw [pc_4]
  by_cases s1 : pk sg p = 42 ∨ pk sg p = 47
  · rw [if_pos s1]
    have hs : ¬ pk sg p = -1 := by rcases s1 with q | q <;> rw [q] <;> decide
    have h41 : ¬ pk sg p = 41 := by rcases s1 with q | q <;> rw [q] <;> decide
    have hb : bnd (pk sg p) = 3 := by rcases s1 with q | q <;> rw [q] <;> rfl
    have hlt := pk_at hE hs
    have e1 := s4_s hE (c := c) (a := a) (m := m) (e := e) hs h41 hb (by decide) (fun q => absurd q (by decide)) ht hpd
    rw [if_neg (by decide)] at e1
    generalize hA : a ++ pd.map (fun x => 2000 + x) = A at *
    obtain ⟨f1, f2⟩ := i5 (adv p) (c ++ A) (pk sg p :: w) e m hf hlt (by show 6 * (41 - (p.1 + 1)) + 1 ≤ n; omega) he
    have hat := pc_at hE n 5 e [] (adv p) hlt
    generalize hq : pc sg n 5 e [] (adv p) = q at *
    have hat1 : p.1 + 1 ≤ q.2.1 := hat.1
    by_cases q1 : q.2.2 = -1
    · obtain ⟨cd, pd', m', h1, h2, h3, h4⟩ := f2 q1
      have k := i4 q.2 c w (A ++ cd) (pd' ++ [pk sg p]) e m' q1 hat.2 (by omega) he ht (by
        intro x hx
        rcases List.mem_append.mp hx with hx | hx
        · exact lePos (by decide) (h3 x hx)
        · rw [List.mem_singleton.mp hx, hb]; decide)
      have el : A ++ cd ++ (pd' ++ [pk sg p]).map (fun x => 2000 + x) = A ++ q.1 ++ [2000 + pk sg p] := by rw [h2]; simp
      rw [el] at k
      have e2 : yR sg (p, c ++ a, pd ++ w, e, m, false) (q.2, c ++ (A ++ cd), (pd' ++ [pk sg p]) ++ w, e, m', false) := yR_t e1 (by simpa using h1)
      refine ⟨⟨fun q2 => yF_t e2 (k.1.1 q2), fun q2 => ?_⟩, k.2⟩
      obtain ⟨cd2, pd2, m2, g1, g2, g3, g4⟩ := k.1.2 q2
      exact ⟨cd2, pd2, m2, yR_t e2 g1, g2, g3, fun i hi => (g4 i hi).trans (h4 i hi)⟩
    · have e2 : (pc sg n 4 e (A ++ q.1 ++ [2000 + pk sg p]) q.2).2 = q.2 := pc_wrong sg n 4 e _ q.2 q1
      unfold yP
      rw [e2]
      exact ⟨⟨fun _ => yF_t e1 (f1 q1), fun q2 => absurd q2 q1⟩, fun q2 => absurd q2 q1⟩
  · rw [if_neg s1]
    exact ⟨⟨fun q => absurd hf q, fun _ => ⟨a, pd, m, yR_r _ _, rfl, hpd, fun i hi => rfl⟩⟩, fun _ => ⟨fun q => s1 (Or.inl q), fun q => s1 (Or.inr q)⟩⟩
theorem s3 {sg : Nat → Int32} (hE : sgE sg 40) {n : Nat} (i5 : y5 sg n) (i4 : y4 sg n) : y3 sg (n + 1) := by
  intro p c w e m hf hp hn he ht
  rw [pc_3]
  obtain ⟨f1, f2⟩ := i5 p c w e m hf hp (by omega) he
  have hat := pc_at hE n 5 e [] p hp
  generalize hq : pc sg n 5 e [] p = q at *
  by_cases q1 : q.2.2 = -1
  · obtain ⟨cd, pd, m', h1, h2, h3, h4⟩ := f2 q1
    have k := i4 q.2 c w cd pd e m' q1 hat.2 (by omega) he ht (fun x hx => lePos (by decide) (h3 x hx))
    rw [← h2] at k
    refine ⟨⟨fun q2 => yF_t h1 (k.1.1 q2), fun q2 => ?_⟩, k.2⟩
    obtain ⟨cd2, pd2, m2, g1, g2, g3, g4⟩ := k.1.2 q2
    exact ⟨cd2, pd2, m2, yR_t h1 g1, g2, g3, fun i hi => (g4 i hi).trans (h4 i hi)⟩
  · have e2 : (pc sg n 4 e q.1 q.2).2 = q.2 := pc_wrong sg n 4 e _ q.2 q1
    unfold yP
    rw [e2]
    exact ⟨⟨fun _ => f1 q1, fun q2 => absurd q2 q1⟩, fun q2 => absurd q2 q1⟩
theorem s2 {sg : Nat → Int32} (hE : sgE sg 40) {n : Nat} (i5 : y3 sg n) (i4 : y2 sg n) : y2 sg (n + 1) := by
  intro p c w a pd e m hf hp hn he ht hpd n42 n47
  rw [pc_2]
  by_cases s1 : pk sg p = 43 ∨ pk sg p = 45
  · rw [if_pos s1]
    have hs : ¬ pk sg p = -1 := by rcases s1 with q | q <;> rw [q] <;> decide
    have h41 : ¬ pk sg p = 41 := by rcases s1 with q | q <;> rw [q] <;> decide
    have hb : bnd (pk sg p) = 2 := by rcases s1 with q | q <;> rw [q] <;> rfl
    have hlt := pk_at hE hs
    have e1 := s4_s hE (c := c) (a := a) (m := m) (e := e) hs h41 hb (by decide) (fun q => absurd q (by decide)) ht hpd
    rw [if_neg (by decide)] at e1
    generalize hA : a ++ pd.map (fun x => 2000 + x) = A at *
    obtain ⟨⟨f1, f2⟩, f3⟩ := i5 (adv p) (c ++ A) (pk sg p :: w) e m hf hlt (by show 6 * (41 - (p.1 + 1)) + 2 ≤ n; omega) he (top_c (by rw [hb]; decide) w)
    have hat := pc_at hE n 3 e [] (adv p) hlt
    generalize hq : pc sg n 3 e [] (adv p) = q at *
    have hat1 : p.1 + 1 ≤ q.2.1 := hat.1
    by_cases q1 : q.2.2 = -1
    · obtain ⟨cd, pd', m', h1, h2, h3, h4⟩ := f2 q1
      have k := i4 q.2 c w (A ++ cd) (pd' ++ [pk sg p]) e m' q1 hat.2 (by omega) he ht (by
        intro x hx
        rcases List.mem_append.mp hx with hx | hx
        · exact lePos (by decide) (h3 x hx)
        · rw [List.mem_singleton.mp hx, hb]; decide) (f3 q1).1 (f3 q1).2
      have el : A ++ cd ++ (pd' ++ [pk sg p]).map (fun x => 2000 + x) = A ++ q.1 ++ [2000 + pk sg p] := by rw [h2]; simp
      rw [el] at k
      have e2 : yR sg (p, c ++ a, pd ++ w, e, m, false) (q.2, c ++ (A ++ cd), (pd' ++ [pk sg p]) ++ w, e, m', false) := yR_t e1 (by simpa using h1)
      refine ⟨⟨fun q2 => yF_t e2 (k.1.1 q2), fun q2 => ?_⟩, k.2⟩
      obtain ⟨cd2, pd2, m2, g1, g2, g3, g4⟩ := k.1.2 q2
      exact ⟨cd2, pd2, m2, yR_t e2 g1, g2, g3, fun i hi => (g4 i hi).trans (h4 i hi)⟩
    · have e2 : (pc sg n 2 e (A ++ q.1 ++ [2000 + pk sg p]) q.2).2 = q.2 := pc_wrong sg n 2 e _ q.2 q1
      unfold yP
      rw [e2]
      exact ⟨⟨fun _ => yF_t e1 (f1 q1), fun q2 => absurd q2 q1⟩, fun q2 => absurd q2 q1⟩
  · rw [if_neg s1]
    exact ⟨⟨fun q => absurd hf q, fun _ => ⟨a, pd, m, yR_r _ _, rfl, hpd, fun i hi => rfl⟩⟩, fun _ => ⟨n42, n47, fun q => s1 (Or.inl q), fun q => s1 (Or.inr q)⟩⟩
theorem s1 {sg : Nat → Int32} (hE : sgE sg 40) {n : Nat} (i5 : y3 sg n) (i4 : y2 sg n) : y1 sg (n + 1) := by
  intro p c w e m hf hp hn he ht
  rw [pc_1]
  obtain ⟨⟨f1, f2⟩, f3⟩ := i5 p c w e m hf hp (by omega) he (top_up (by decide) ht)
  have hat := pc_at hE n 3 e [] p hp
  generalize hq : pc sg n 3 e [] p = q at *
  by_cases q1 : q.2.2 = -1
  · obtain ⟨cd, pd, m', h1, h2, h3, h4⟩ := f2 q1
    have k := i4 q.2 c w cd pd e m' q1 hat.2 (by omega) he ht (fun x hx => lePos (by decide) (h3 x hx)) (f3 q1).1 (f3 q1).2
    rw [← h2] at k
    refine ⟨⟨fun q2 => yF_t h1 (k.1.1 q2), fun q2 => ?_⟩, k.2⟩
    obtain ⟨cd2, pd2, m2, g1, g2, g3, g4⟩ := k.1.2 q2
    exact ⟨cd2, pd2, m2, yR_t h1 g1, g2, g3, fun i hi => (g4 i hi).trans (h4 i hi)⟩
  · have e2 : (pc sg n 2 e q.1 q.2).2 = q.2 := pc_wrong sg n 2 e _ q.2 q1
    unfold yP
    rw [e2]
    exact ⟨⟨fun _ => f1 q1, fun q2 => absurd q2 q1⟩, fun q2 => absurd q2 q1⟩
theorem s0 {sg : Nat → Int32} (hE : sgE sg 40) {n : Nat} (i1 : y1 sg n) : y0 sg (n + 1) := by
  intro p c w e m hf hp hn he ht hm
  rw [pc_0]
  obtain ⟨⟨f1, f2⟩, f3⟩ := i1 p c w e m hf hp (by omega) he (top_up (by decide) ht)
  have hat := pc_at hE n 1 e [] p hp
  generalize hr : pc sg n 1 e [] p = r at *
  by_cases q1 : r.2.2 = -1
  · obtain ⟨cd, pd, m', h1, h2, h3, h4⟩ := f2 q1
    by_cases s1 : pk sg r.2 = 60 ∨ pk sg r.2 = 62 ∨ pk sg r.2 = 61
    · rw [if_pos s1]
      have hs : ¬ pk sg r.2 = -1 := by rcases s1 with q | q | q <;> rw [q] <;> decide
      have h41 : ¬ pk sg r.2 = 41 := by rcases s1 with q | q | q <;> rw [q] <;> decide
      have hb : bnd (pk sg r.2) = 1 := by rcases s1 with q | q | q <;> rw [q] <;> rfl
      have hlt := pk_at hE hs
      have e1 := s4_s hE (c := c) (a := cd) (m := m') (e := e) hs h41 hb (by decide) (fun _ => by rw [h4 e (Nat.le_refl _)]; exact hm) ht (fun x hx => lePos (by decide) (h3 x hx))
      rw [if_pos rfl, ← h2] at e1
      obtain ⟨⟨k1, k2⟩, k3⟩ := i1 (adv r.2) (c ++ r.1) (pk sg r.2 :: w) e (m' ||| bit e) q1 hlt (by show 6 * (41 - (r.2.1 + 1)) + 3 ≤ n; omega) he (top_c (by rw [hb]; decide) w)
      generalize hq : pc sg n 1 e [] (adv r.2) = q at *
      refine ⟨fun q2 => yF_t h1 (yF_t e1 (k1 q2)), fun q2 => ?_⟩
      obtain ⟨cd2, pd2, m2, g1, g2, g3, g4⟩ := k2 q2
      refine ⟨r.1 ++ cd2, pd2 ++ [pk sg r.2], m2, yR_t h1 (yR_t e1 (by simpa using g1)), ?_, ?_, ?_, k3 q2, Or.inl ?_⟩
      · simp only
        rw [g2]; simp
      · intro x hx
        rcases List.mem_append.mp hx with hx | hx
        · exact lePos (by decide) (g3 x hx)
        · rw [List.mem_singleton.mp hx, hb]; decide
      · intro i hi
        rw [g4 i (by omega), b_or, b_bit (by omega) (by omega), h4 i (by omega)]
        simp only [show ¬ i = e by omega, decide_false, Bool.or_false]
      · rw [g4 e (Nat.le_refl _), b_or, b_bit (by omega) (by omega)]
        simp
    · rw [if_neg s1]
      exact ⟨fun q2 => absurd q1 q2, fun _ => ⟨cd, pd, m', h1, h2, fun x hx => lePos (by decide) (h3 x hx), fun i hi => h4 i (by omega), f3 q1, Or.inr ⟨fun q => s1 (Or.inl q), fun q => s1 (Or.inr (Or.inl q)), fun q => s1 (Or.inr (Or.inr q))⟩⟩⟩
  · have s1 : ¬ (pk sg r.2 = 60 ∨ pk sg r.2 = 62 ∨ pk sg r.2 = 61) := by
      rw [pk_wr sg q1]; decide
    rw [if_neg s1]
    exact ⟨fun _ => f1 q1, fun q2 => absurd q2 q1⟩
theorem yAll {sg : Nat → Int32} (hE : sgE sg 40) (h256 : ∀ a, ¬ sg a = 256) : ∀ n, y0 sg n ∧ y1 sg n ∧ y2 sg n ∧ y3 sg n ∧ y4 sg n ∧ y5 sg n := by
  intro n
  induction n with
  | zero =>
    refine ⟨?_, ?_, ?_, ?_, ?_, ?_⟩
    · intro p c w e m _ h1 h2; omega
    · intro p c w e m _ h1 h2; omega
    · intro p c w a pd e m _ h1 h2; omega
    · intro p c w e m _ h1 h2; omega
    · intro p c w a pd e m _ h1 h2; omega
    · intro p c w e m _ h1 h2; omega
  | succ n ih =>
    obtain ⟨i0, i1, i2, i3, i4, i5⟩ := ih
    exact ⟨s0 hE i1, s1 hE i3 i2, s2 hE i3 i2, s3 hE i5 i4, s4 hE i5 i4, s5 hE h256 i5 i0⟩
/-- all signs of a rule: both come to the same -/
def yE (sg : Nat → Int32) : yC := yL sg 40 ((0, -1), [], [], 0, 0, true)
theorem yard {sg : Nat → Int32} (hE : sgE sg 40) (h256 : ∀ a, ¬ sg a = 256) :
    (¬ (pc sg 300 0 0 [] (0, -1)).2.2 = -1 → yW (yE sg) = (pc sg 300 0 0 [] (0, -1)).2.2) ∧
    ((pc sg 300 0 0 [] (0, -1)).2.2 = -1 → pk sg (pc sg 300 0 0 [] (0, -1)).2 = -1 → yW (yE sg) = -1 ∧ (yE sg).1 = (pc sg 300 0 0 [] (0, -1)).2 ∧ (stl 1 (yE sg).2.1 (yE sg).2.2.1).1 = (pc sg 300 0 0 [] (0, -1)).1) ∧
    ((pc sg 300 0 0 [] (0, -1)).2.2 = -1 → ¬ pk sg (pc sg 300 0 0 [] (0, -1)).2 = -1 → yW (yE sg) = nI (pc sg 300 0 0 [] (0, -1)).2.1) := by
  obtain ⟨a, b⟩ := (yAll hE h256 300).1 (0, -1) [] [] 0 0 rfl (by decide) (by decide) (by decide) (fun x r q => by cases q) (b_0 0)
  have hat := pc_at hE 300 0 0 [] (0, -1) (by decide)
  generalize hq : pc sg 300 0 0 [] (0, -1) = q at *
  refine ⟨fun q1 => a q1 40 (by decide), fun q1 q2 => ?_, fun q1 q2 => ?_⟩
  · obtain ⟨cd, pd, m', h1, h2, h3, h4, h5, h6⟩ := b q1
    obtain ⟨m1, _, e⟩ := h1 40 (by decide)
    have e2 : yE sg = (q.2, [] ++ cd, pd ++ [], 0, m', false) := by
      unfold yE
      rw [e]
      exact yL_end q2 m1
    rw [e2]
    refine ⟨?_, rfl, ?_⟩
    · unfold yW
      simp only [Bool.false_eq_true, Nat.lt_irrefl, or_self, if_false]
      exact q1
    · simp only
      rw [stl_all pd _ [] h3 (fun x r q => by cases q), h2]
      simp
  · obtain ⟨cd, pd, m', h1, h2, h3, h4, h5, h6⟩ := b q1
    have hw : ¬ nI q.2.1 = -1 := nI_m1 (by have := hat.2; omega)
    have hb : bnd (pk sg q.2) = 0 ∨ (bnd (pk sg q.2) = 1 ∧ bt m' 0 = true) := by
      by_cases hc : ¬ pk sg q.2 = 60 ∧ ¬ pk sg q.2 = 62 ∧ ¬ pk sg q.2 = 61
      · exact Or.inl (bnd_0 (pk256 h256 _) h5.1 h5.2.1 h5.2.2.1 h5.2.2.2 hc)
      · refine Or.inr ⟨?_, ?_⟩
        · by_cases c1 : pk sg q.2 = 60
          · rw [c1]; rfl
          · by_cases c2 : pk sg q.2 = 62
            · rw [c2]; rfl
            · by_cases c3 : pk sg q.2 = 61
              · rw [c3]; rfl
              · exact absurd ⟨c1, c2, c3⟩ hc
        · rcases h6 with h6 | h6
          · exact h6
          · exact absurd h6 hc
    have ey2 : yS sg (q.2, [] ++ cd, pd ++ [], 0, m', false) = ((q.2.1, nI q.2.1), [] ++ cd, pd ++ [], 0, m', false) := by
      show yG sg q.2 ([] ++ cd) (pd ++ []) 0 m' = _
      unfold yG; rw [if_neg (fun q => absurd q.2 (by decide)), if_pos hb, flt_w q1]
    have e3 := yF_1 hE (y := (q.2, [] ++ cd, pd ++ [], 0, m', false)) q2 (by rw [ey2]; exact hw)
    rw [ey2] at e3
    exact yF_t h1 e3 40 (by decide)
end T01
section T02
/-! what holds between calls -/
def Fr (S : List Nat) (I I' : Nat → Nat → Int32) : Prop := ∀ a, a ∉ S → I' a = I a
theorem Fr_r (S : List Nat) (I : Nat → Nat → Int32) : Fr S I I := fun _ _ => rfl
theorem Fr_t {S : List Nat} {I I' I'' : Nat → Nat → Int32} (h : Fr S I I') (h2 : Fr S I' I'') : Fr S I I'' := fun a ha => (h2 a ha).trans (h a ha)
theorem Fr_s {S : List Nat} {I I' : Nat → Nat → Int32} {b : Nat} (h : Fr S I I') (r : Nat → Int32) (hb : b ∈ S) : Fr S I (aR I' b r) := fun a ha => by
  rw [aR_r _ _ (show a ≠ b from fun e => ha (by rw [e]; exact hb))]; exact h a ha
theorem Fr_w {S S' : List Nat} {I I' : Nat → Nat → Int32} (h : Fr S I I') (hs : ∀ a, a ∈ S → a ∈ S') : Fr S' I I' := fun a ha => h a (fun q => ha (hs a q))
theorem nI_lei {a b : Nat} (h : nI a ≤ nI b) (ha : a < 2 ^ 31) : a ≤ b := by
  apply Classical.byContradiction; intro q; exact nI_ge (by omega) ha h
theorem nI_lti {a b : Nat} (h : nI a < nI b) (ha : a < 2 ^ 31) : a < b := by
  apply Classical.byContradiction; intro q; exact nI_nlt (by omega) ha h
/-- a state that can be: of n drivers, q quarrels -/
def okW (n q : Nat) (v : Nat → Int32) : Prop :=
  (∀ c, c < 2 → ∃ m, m ≤ 9999 ∧ v c = nI m) ∧ (∀ c, c < 2 → ∃ m, m ≤ 999 ∧ v (2 + c) = nI m) ∧ clubs (fun i => v (6 + i)) n ∧ (∀ i, n ≤ i → i < 8 → v (14 + i) = 0 ∧ v (22 + i) = 0) ∧ (∀ j, q ≤ j → j < 8 → v (30 + j) = -1)
theorem okW_upd {n q : Nat} {v : Nat → Int32} (h : okW n q v) (k : Nat) (x : Int32)
    (h1 : k < 2 → ∃ m, m ≤ 9999 ∧ x = nI m) (h2 : ∀ c, c < 2 → k = 2 + c → ∃ m, m ≤ 999 ∧ x = nI m) (h3 : ∀ i, i < n → k = 6 + i → ∃ c, c < 2 ∧ x = nI c) (h4 : ∀ i, n ≤ i → i < 8 → ¬ k = 14 + i ∧ ¬ k = 22 + i) (h5 : ∀ j, q ≤ j → j < 8 → ¬ k = 30 + j) : okW n q (upd v k x) := by
  obtain ⟨a1, a2, a3, a4, a5⟩ := h
  refine ⟨fun c hc => ?_, fun c hc => ?_, fun i hi => ?_, fun i hi hi2 => ?_, fun j hj hj2 => ?_⟩
  · by_cases e : c = k
    · subst e; rw [upd_s]; exact h1 hc
    · rw [upd_n _ _ e]; exact a1 c hc
  · by_cases e : 2 + c = k
    · rw [e, upd_s]; exact h2 c hc e.symm
    · rw [upd_n _ _ e]; exact a2 c hc
  · show ∃ c, c < 2 ∧ upd v k x (6 + i) = nI c
    by_cases e : 6 + i = k
    · rw [e, upd_s]; exact h3 i hi e.symm
    · rw [upd_n _ _ e]; exact a3 i hi
  · rw [upd_n _ _ (fun e => (h4 i hi hi2).1 e.symm), upd_n _ _ (fun e => (h4 i hi hi2).2 e.symm)]; exact a4 i hi hi2
  · rw [upd_n _ _ (fun e => h5 j hj hj2 e.symm)]; exact a5 j hj hj2
theorem cl9_ok (x : Int32) : ∃ m, m ≤ 999 ∧ cl9 x = nI m := by
  unfold cl9
  by_cases h : x < 999
  · rw [if_pos h]
    by_cases h2 : 0 < x
    · rw [if_pos h2]
      refine nI_of2 (M := 999) (n := 999) rfl (fun q => ?_) ?_
      · rw [int_lt] at *; omega
      · rw [int_le]; rw [int_lt] at h; omega
    · rw [if_neg h2]; exact ⟨0, by decide, rfl⟩
  · rw [if_neg h, if_pos (by decide)]; exact ⟨999, by decide, rfl⟩
theorem mn9_ok {m p : Nat} (hm : m ≤ 9999) (hp : p ≤ 9999) : ∃ k, k ≤ 9999 ∧ mn9 (nI m + nI p) = nI k := by
  rw [nI_add]; unfold mn9
  by_cases h : nI (m + p) < 9999
  · rw [if_pos h]; exact ⟨m + p, Nat.le_of_lt (nI_lti (b := 9999) h (by omega)), rfl⟩
  · rw [if_neg h]; exact ⟨9999, by decide, rfl⟩
theorem okW_A {n q : Nat} {v : Nat → Int32} (h : okW n q v) {c : Nat} (hc : c < 2) (x : Int32) : okW n q (adA v c x) :=
  okW_upd h (2 + c) _ (fun _ => by exfalso; omega) (fun _ _ _ => cl9_ok _) (fun _ _ _ => by exfalso; omega) (fun _ _ _ => by omega) (fun _ _ _ => by omega)
theorem okW_M {n q : Nat} {v : Nat → Int32} (h : okW n q v) {c p : Nat} (hc : c < 2) (hp : p ≤ 9999) : okW n q (adM v c (nI p)) := by
  obtain ⟨m, hm, e⟩ := h.1 c hc
  unfold adM
  rw [e]
  exact okW_upd h c _ (fun _ => mn9_ok hm hp) (fun _ _ _ => by exfalso; omega) (fun _ _ _ => by exfalso; omega) (fun _ _ _ => by omega) (fun _ _ _ => by omega)
theorem okW_c {n q : Nat} {v : Nat → Int32} (h : okW n q v) {c m : Nat} (hc : c < 2) (hm : m ≤ 9999) : okW n q (upd v c (nI m)) :=
  okW_upd h c _ (fun _ => ⟨m, hm, rfl⟩) (fun _ _ _ => by exfalso; omega) (fun _ _ _ => by exfalso; omega) (fun _ _ _ => by omega) (fun _ _ _ => by omega)
theorem okW_l {n q : Nat} {v : Nat → Int32} (h : okW n q v) {i c : Nat} (hi : i < 8) (hc : c < 2) : okW n q (upd v (6 + i) (nI c)) :=
  okW_upd h (6 + i) _ (fun _ => by exfalso; omega) (fun _ _ _ => by exfalso; omega) (fun _ _ _ => ⟨c, hc, rfl⟩) (fun _ _ _ => by omega) (fun _ _ _ => by omega)
theorem okW_x {n q : Nat} {v : Nat → Int32} (h : okW n q v) {i : Nat} (hi : i < n) (hn : n ≤ 8) (x : Int32) : okW n q (upd v (14 + i) x) :=
  okW_upd h (14 + i) _ (fun _ => by exfalso; omega) (fun _ _ _ => by exfalso; omega) (fun _ _ _ => by exfalso; omega) (fun _ _ _ => by omega) (fun _ _ _ => by omega)
theorem okW_w {n q : Nat} {v : Nat → Int32} (h : okW n q v) {i : Nat} (hi : i < n) (hn : n ≤ 8) (x : Int32) : okW n q (upd v (22 + i) x) :=
  okW_upd h (22 + i) _ (fun _ => by exfalso; omega) (fun _ _ _ => by exfalso; omega) (fun _ _ _ => by exfalso; omega) (fun _ _ _ => by omega) (fun _ _ _ => by omega)
theorem okW_s {n q : Nat} {v : Nat → Int32} (h : okW n q v) {j : Nat} (hj : j < q) (hn : n ≤ 8) (hq : q ≤ 8) (x : Int32) : okW n q (upd v (30 + j) x) :=
  okW_upd h (30 + j) _ (fun _ => by exfalso; omega) (fun _ _ _ => by exfalso; omega) (fun _ _ _ => by exfalso; omega) (fun _ _ _ => by omega) (fun _ _ _ => by omega)
theorem okW_v {n q : Nat} {v : Nat → Int32} (h : okW n q v) {c : Nat} (hc : c < 2) (hn : n ≤ 8) (x : Int32) : okW n q (upd v (4 + c) x) :=
  okW_upd h (4 + c) _ (fun _ => by exfalso; omega) (fun _ _ _ => by exfalso; omega) (fun _ _ _ => by exfalso; omega) (fun _ _ _ => by omega) (fun _ _ _ => by omega)
theorem okW_r {n q : Nat} {v : Nat → Int32} (h : okW n q v) (hn : n ≤ 8) (x : Int32) : okW n q (upd v 38 x) :=
  okW_upd h 38 _ (fun _ => by exfalso; omega) (fun _ _ _ => by exfalso; omega) (fun _ _ _ => by exfalso; omega) (fun _ _ _ => by omega) (fun _ _ _ => by omega)
theorem okW_race {n q : Nat} {v : Nat → Int32} (h : okW n q v) {i c : Nat} (hi : i < n) (hn : n ≤ 8) (hc : c < 2) : okW n q (rRace v i c) := by
  unfold rRace
  exact okW_r (okW_A (okW_A (okW_M (p := 10) (okW_v (okW_w h hi hn _) hc hn _) hc (by decide)) (by omega) _) hc _) hn _
theorem okW_buy {n q : Nat} {v : Nat → Int32} (h : okW n q v) {i c m p : Nat} (hi : i < n) (hn : n ≤ 8) (hc : c < 2) (hp : p ≤ 99) (hv : v c = nI m) (hm : m ≤ 9999) (hpm : p ≤ m) : okW n q (rBuy v c i (nI p)) := by
  unfold rBuy
  rw [hv, pk_sub hpm]
  exact okW_l (okW_M (okW_c h hc (by omega)) (by omega) (by omega)) (by omega) hc
theorem okW_hex {n q : Nat} {v : Nat → Int32} (h : okW n q v) {i c m : Nat} (hi : i < n) (hn : n ≤ 8) (hc : c < 2) (hv : v c = nI m) (hm : m ≤ 9999) (hpm : 5 ≤ m) : okW n q (rHex v c i) := by
  unfold rHex
  rw [hv, show nI m - 5 = nI (m - 5) from pk_sub (b := 5) hpm]
  exact okW_x (okW_c h hc (by omega)) hi hn _
theorem okW_dig {n q : Nat} {v : Nat → Int32} (h : okW n q v) {i c m : Nat} (hi : i < n) (hn : n ≤ 8) (hc : c < 2) (hv : v c = nI m) (hm : m ≤ 9999) (hpm : 3 ≤ m) : okW n q (rDig v c i) := by
  unfold rDig
  rw [hv, show nI m - 3 = nI (m - 3) from pk_sub (b := 3) hpm]
  exact okW_x (okW_c h hc (by omega)) hi hn _
theorem okW_side {n q : Nat} {v : Nat → Int32} (h : okW n q v) {j : Nat} (hj : j < q) (hn : n ≤ 8) (hq : q ≤ 8) (b : Nat) (x y : Int32) : okW n q (rSide v j b x y) := by
  unfold rSide
  exact okW_A (okW_A (okW_s h hj hn hq _) (by omega) _) (by omega) _
def hi8 (x : Int32) : Prop := ∀ i, 8 ≤ i → i < 32 → bt x i = false
/-- a state of the class, and the reference's -/
def okS (n q : Nat) (f h : Nat → Int32) : Prop := cV f = rV h ∧ okW n q (rV h) ∧ hi8 (f 7)
theorem okS_congr {n q : Nat} {f h f' h' : Nat → Int32} (H : okS n q f h) (e : ∀ i, i < 32 → f' i = f i) (e2 : ∀ i, i < 39 → h' i = h i) : okS n q f' h' := by
  obtain ⟨a, b, c⟩ := H
  refine ⟨?_, ?_, ?_⟩
  · rw [cV_congr e, rV_congr e2, a]
  · rw [rV_congr e2]; exact b
  · rw [e 7 (by decide)]; exact c
section OkS
variable {n q : Nat} {f h : Nat → Int32}
theorem okS_c (H : okS n q f h) {c : Nat} (hc : c < 6) : f c = h c := by
  rw [← cV_c f (by omega) hc, H.1, rV_lt _ (by omega)]
theorem okS_l (H : okS n q f h) {i : Nat} (hi : i < 8) : f (8 + i) = h (6 + i) := by
  rw [← cV_l f hi, H.1, rV_lt _ (by omega)]
theorem okS_w (H : okS n q f h) {i : Nat} (hi : i < 8) : f (16 + i) = h (22 + i) := by
  rw [← cV_w f hi, H.1, rV_lt _ (by omega)]
theorem okS_s (H : okS n q f h) {i : Nat} (hi : i < 8) : f (24 + i) = h (30 + i) := by
  rw [← cV_s f hi, H.1, rV_lt _ (by omega)]
theorem okS_x (H : okS n q f h) {i : Nat} (hi : i < 8) : h (14 + i) = tI (hasT (f 7) (nI i)) := by
  rw [← cV_x f hi, H.1, rV_lt _ (by omega)]
theorem okS_r (H : okS n q f h) : f 6 = h 38 := by
  rw [← cV_r f, H.1, rV_lt _ (by omega)]
theorem okS_m (H : okS n q f h) {c : Nat} (hc : c < 2) : ∃ m, m ≤ 9999 ∧ f c = nI m ∧ h c = nI m := by
  obtain ⟨m, h1, h2⟩ := H.2.1.1 c hc
  rw [rV_lt _ (by omega)] at h2
  exact ⟨m, h1, by rw [okS_c H (by omega)]; exact h2, h2⟩
theorem okS_a (H : okS n q f h) {c : Nat} (hc : c < 2) : ∃ m, m ≤ 999 ∧ f (2 + c) = nI m ∧ h (2 + c) = nI m := by
  obtain ⟨m, h1, h2⟩ := H.2.1.2.1 c hc
  rw [rV_lt _ (by omega)] at h2
  exact ⟨m, h1, by rw [okS_c H (by omega)]; exact h2, h2⟩
theorem okS_k (H : okS n q f h) (hn : n ≤ 8) {i : Nat} (hi : i < n) : ∃ k, k < 2 ∧ f (8 + i) = nI k ∧ h (6 + i) = nI k := by
  obtain ⟨k, h1, h2⟩ := H.2.1.2.2.1 i hi
  simp only at h2
  rw [rV_lt _ (by omega)] at h2
  exact ⟨k, h1, by rw [okS_l H (by omega)]; exact h2, h2⟩
theorem okS_cl (H : okS n q f h) (hn : n ≤ 8) : clubs (fun i => f (8 + i)) n := fun i hi => by
  obtain ⟨k, h1, h2, _⟩ := okS_k H hn hi
  exact ⟨k, h1, h2⟩
theorem okS_clr (H : okS n q f h) (hn : n ≤ 8) : clubs (fun i => h (6 + i)) n := fun i hi => by
  obtain ⟨k, h1, _, h2⟩ := okS_k H hn hi
  exact ⟨k, h1, h2⟩
theorem okS_buy (H : okS n q f h) {c i p : Nat} (hc : c < 2) (hi : i < n) (hn : n ≤ 8) (hp : p ≤ 99) (hm : nI p ≤ f c) : okS n q (cBuy f c i (nI p)) (rBuy h c i (nI p)) := by
  obtain ⟨m, m1, m2, m3⟩ := okS_m H hc
  rw [m2] at hm
  have m4 := nI_lei hm (by omega)
  refine ⟨?_, ?_, ?_⟩
  · rw [cBuy_v hc (by omega) m2 m1 m4, rBuy_r _ _ hc (by omega), H.1]
  · rw [rBuy_r _ _ hc (by omega)]
    exact okW_buy H.2.1 hi hn hc hp (by rw [rV_lt _ (by omega)]; exact m3) m1 m4
  · unfold cBuy adM
    rw [upd_n _ _ (by omega), upd_n _ _ (by omega), upd_n _ _ (by omega)]
    exact H.2.2
theorem okS_hex (H : okS n q f h) {c i : Nat} (hc : c < 2) (hi : i < n) (hn : n ≤ 8) (hm : 5 ≤ f c) : okS n q (cHex f c i) (rHex h c i) := by
  obtain ⟨m, m1, m2, m3⟩ := okS_m H hc
  rw [m2] at hm
  have m4 : 5 ≤ m := nI_lei (a := 5) hm (by omega)
  refine ⟨?_, ?_, ?_⟩
  · rw [cHex_v hc (by omega) m2 m1 m4, rHex_r _ hc (by omega), H.1]
  · rw [rHex_r _ hc (by omega)]
    exact okW_hex H.2.1 hi hn hc (by rw [rV_lt _ (by omega)]; exact m3) m1 m4
  · unfold cHex
    rw [upd_s]
    intro j h1 h2
    rw [b_or, H.2.2 j h1 h2, b_bit (by omega) h2]
    simp only [Bool.false_or, decide_eq_false_iff_not]
    omega
theorem okS_dig (H : okS n q f h) {c i : Nat} (hc : c < 2) (hi : i < n) (hn : n ≤ 8) (hm : 3 ≤ f c) : okS n q (cDig f c i) (rDig h c i) := by
  obtain ⟨m, m1, m2, m3⟩ := okS_m H hc
  rw [m2] at hm
  have m4 : 3 ≤ m := nI_lei (a := 3) hm (by omega)
  refine ⟨?_, ?_, ?_⟩
  · rw [cDig_v hc (by omega) m2 m1 m4, rDig_r _ hc (by omega), H.1]
  · rw [rDig_r _ hc (by omega)]
    exact okW_dig H.2.1 hi hn hc (by rw [rV_lt _ (by omega)]; exact m3) m1 m4
  · unfold cDig
    rw [upd_s]
    intro j h1 h2
    rw [b_and, H.2.2 j h1 h2, Bool.false_and]
theorem okS_side (H : okS n q f h) {j : Nat} (hj : j < q) (hn : n ≤ 8) (hq : q ≤ 8) (b : Nat) (x y : Int32) : okS n q (cSide f j b x y) (rSide h j b x y) := by
  refine ⟨?_, ?_, ?_⟩
  · rw [cSide_v _ _ _ (by omega), rSide_r _ _ _ (by omega), H.1]
  · rw [rSide_r _ _ _ (by omega)]
    exact okW_side H.2.1 hj hn hq b x y
  · unfold cSide adA
    rw [upd_n _ _ (by omega), upd_n _ _ (by omega), upd_n _ _ (by omega)]
    exact H.2.2
theorem okS_A (H : okS n q f h) {c : Nat} (hc : c < 2) (x : Int32) : okS n q (adA f c x) (adA h c x) := by
  refine ⟨?_, ?_, ?_⟩
  · rw [cV_adA _ _ hc, rV_adA _ _ hc, H.1]
  · rw [rV_adA _ _ hc]; exact okW_A H.2.1 hc x
  · unfold adA; rw [upd_n _ _ (by omega)]; exact H.2.2
end OkS
/-! what undo goes back to -/
def okU (n q u x : Nat) (r30 r58 : Nat → Int32) : Prop := u ≤ 12 ∧ x < 12 ∧ ∀ j, j < u → okS n q (fun i => r30 (32 * ((x + 12 - u + j) % 12) + i)) (fun i => r58 (39 * j + i))
def shR (r : Nat → Int32) : Nat → Int32 := fun k => if k < 429 then r (k + 39) else r k
def remR (r v : Nat → Int32) (u : Nat) : Nat → Int32 := if u = 12 then cpB (shR r) v 429 39 else cpB r v (39 * u) 39
def up12 (u : Nat) : Nat := if u < 12 then u + 1 else 12
theorem okU_push {n q u x : Nat} {r30 r58 f h : Nat → Int32} (H : okU n q u x r30 r58) (S : okS n q f h) : okU n q (up12 u) ((x + 1) % 12) (cpB r30 f (32 * x) 32) (remR r58 h u) := by
  obtain ⟨h1, h2, h3⟩ := H
  have new : ∀ (k o : Nat) (r : Nat → Int32), k = x → okS n q (fun i => cpB r30 f (32 * x) 32 (32 * k + i)) (fun i => cpB r h o 39 (o + i)) := fun k o r hk => okS_congr S (fun i hi => by
    subst hk
    rw [cpB_in _ _ (by omega) (by omega)]; congr 1; omega) (fun i hi => by
    rw [cpB_in _ _ (by omega) (by omega)]; congr 1; omega)
  by_cases hu : u = 12
  · subst hu
    refine ⟨by decide, by omega, fun j hj => ?_⟩
    have hj : j < 12 := hj
    show okS n q (fun i => cpB r30 f (32 * x) 32 (32 * (((x + 1) % 12 + 12 - 12 + j) % 12) + i)) (fun i => cpB (shR r58) h 429 39 (39 * j + i))
    by_cases e : j = 11
    · subst e
      exact new _ 429 _ (by omega)
    · refine okS_congr (h3 (j + 1) (by omega)) (fun i hi => ?_) (fun i hi => ?_)
      · rw [cpB_out _ _ (by omega)]; congr 1; omega
      · rw [cpB_out _ _ (by omega)]; unfold shR; rw [if_pos (by omega)]; congr 1; omega
  · refine ⟨by unfold up12; split <;> omega, by omega, fun j hj => ?_⟩
    unfold up12 at hj
    rw [if_pos (by omega)] at hj
    unfold remR up12
    rw [if_neg hu, if_pos (by omega)]
    by_cases e : j = u
    · subst e
      exact new _ (39 * j) _ (by omega)
    · refine okS_congr (h3 j (by omega)) (fun i hi => ?_) (fun i hi => ?_)
      · rw [cpB_out _ _ (by omega)]; congr 1; omega
      · rw [cpB_out _ _ (by omega)]
theorem okU_pop {n q u x : Nat} {r30 r58 : Nat → Int32} (H : okU n q (u + 1) x r30 r58) : okU n q u ((x + 11) % 12) r30 r58 ∧ okS n q (fun i => r30 (32 * ((x + 11) % 12) + i)) (fun i => r58 (39 * u + i)) := by
  obtain ⟨h1, h2, h3⟩ := H
  refine ⟨⟨by omega, by omega, fun j hj => ?_⟩, ?_⟩
  · have := h3 j (by omega)
    rw [show (x + 11) % 12 + 12 - u + j = (x + 11) % 12 + (12 - u + j) by omega]
    rw [show ((x + 11) % 12 + (12 - u + j)) % 12 = (x + 12 - (u + 1) + j) % 12 by omega]
    exact this
  · have := h3 u (by omega)
    rw [show (x + 12 - (u + 1) + u) % 12 = (x + 11) % 12 by omega] at this
    exact this
theorem okU_0 {n q n' q' u x : Nat} {r30 r58 r30' r58' : Nat → Int32} (H : okU n q u x r30 r58) : okU n' q' 0 x r30' r58' := ⟨by omega, H.2.1, fun j hj => by omega⟩
def okK (n q c : Nat) (r31 r32 r64 r65 r66 : Nat → Int32) : Prop := ∀ i, i < 2 → (r32 i = 0 ∨ r32 i = 1) ∧ (∃ k, k ≤ c ∧ r66 i = nI k) ∧ (r32 i = 1 ↔ (¬ r65 i = 0 ∧ r66 i = nI c)) ∧ (r32 i = 1 → okS n q (fun k => r31 (32 * i + k)) (fun k => r64 (39 * i + k)))
/-- the rule as the reference keeps it -/
def rRule (row : Nat → Int32) (n : Nat) (rv : (Nat → Int32) → Int32) : Prop :=
  (n = 0 ∧ ∀ t, rv t = t 0 * 10 - t 1 * 15 + (t 4 + t 2) / 3) ∨ (0 < n ∧ n ≤ 40 ∧ (pc (sgn row n 40) 300 0 0 [] (0, -1)).2.2 = -1 ∧ ∀ t S, ev t (pc (sgn row n 40) 300 0 0 [] (0, -1)).1 S = rv t :: S)
def zT (a b : Int32) (r8 r52 : Nat → Int32) : Prop := ∃ k, k ≤ 80 ∧ a = nI k ∧ b = nI k ∧ (∀ i, i < k → r8 i = r52 i &&& 255) ∧ byR r52
def zR (a b : Int32) (j13 j53 : Nat → Int64) : Prop := ∃ k, k ≤ 8 ∧ a = nI k ∧ b = nI k ∧ ∀ i, i < k → j13 i = j53 i
def zD (n : Nat) (a b : Int32) (r15 r16 r48 r49 : Nat → Int32) : Prop := n ≤ 8 ∧ a = nI n ∧ b = nI n ∧ ∀ i, i < n → r15 i = r48 i ∧ r16 i = r49 i ∧ (∃ p, p ≤ 99 ∧ r16 i = nI p) ∧ ∃ p, p ≤ 99 ∧ r15 i = nI p
def zQ (m : Nat) (a b : Int32) (r18 r19 r20 r21 r50 : Nat → Int32) : Prop := m ≤ 8 ∧ a = nI m ∧ b = nI m ∧ ∀ i, i < m → r18 i = r50 (4 * i) ∧ r19 i = r50 (4 * i + 1) ∧ r20 i = r50 (4 * i + 2) ∧ r21 i = r50 (4 * i + 3) ∧ (∃ p, p ≤ 99 ∧ r18 i = nI p) ∧ (∃ p, p < 2 ∧ r19 i = nI p) ∧ ∃ p, p ≤ 99 ∧ r20 i = nI p
def zS (q : Nat) (a b : Int32) (r22 r51 : Nat → Int32) : Prop := q ≤ 8 ∧ a = nI q ∧ b = nI q ∧ ∀ i, i < 4 * q → r22 i = r51 i ∧ ∃ p, p ≤ 99 ∧ r22 i = nI p
def zU (n q : Nat) (a b x : Int32) (r30 r58 : Nat → Int32) : Prop := ∃ u y, a = nI u ∧ b = nI u ∧ x = nI y ∧ okU n q u y r30 r58
def zK (t n q : Nat) (a : Int32) (r31 r32 r64 r65 r66 : Nat → Int32) : Prop := ∃ c, c ≤ t ∧ a = nI c ∧ okK n q c r31 r32 r64 r65 r66
def zV (a b : Int32) (r34 r55 : Nat → Int32) : Prop := ∃ m k rv, a = nI m ∧ b = nI k ∧ cRule r34 m rv ∧ rRule r55 k rv ∧ byR r55
def zH (a b : Int32) (r43 r44 r62 r63 : Nat → Int32) : Prop := ∃ k, k ≤ 12 ∧ a = nI k ∧ b = nI k ∧ ∀ i, i < k → r43 i = r62 i ∧ r44 i = r63 i ∧ (∃ p, p < 5 ∧ r43 i = nI p) ∧ (∃ p, p ≤ 99 ∧ r44 i = nI p) ∧ (r43 i = 0 → ∃ p, p < 2 ∧ r44 i = nI p)
def zInv (t n m q : Nat) (I : Nat → Nat → Int32) (J : Nat → Nat → Int64) : Prop :=
  zT (I 7 1) (I 46 10) (I 8) (I 52) ∧ zR (I 12 1) (I 46 12) (J 13) (J 53) ∧ zD n (I 14 0) (I 46 1) (I 15) (I 16) (I 48) (I 49) ∧ zQ m (I 14 4) (I 46 4) (I 18) (I 19) (I 20) (I 21) (I 50) ∧ zS q (I 14 9) (I 46 6) (I 22) (I 51) ∧ I 14 11 = I 46 8 ∧ okS n q (I 24) (I 47) ∧ zU n q (I 29 1) (I 46 26) (I 29 2) (I 30) (I 58) ∧ zK t n q (I 46 37) (I 31) (I 32) (I 64) (I 65) (I 66) ∧ zV (I 33 1) (I 46 22) (I 34) (I 55) ∧ zH (I 42 2) (I 46 35) (I 43) (I 44) (I 62) (I 63)
theorem zK_up {t n q : Nat} {a : Int32} {r31 r32 r64 r65 r66 : Nat → Int32} (h : zK t n q a r31 r32 r64 r65 r66) : zK (t + 1) n q a r31 r32 r64 r65 r66 := by
  obtain ⟨c, h1, h2⟩ := h; exact ⟨c, by omega, h2⟩
theorem zInv_up {t n m q : Nat} {I : Nat → Nat → Int32} {J : Nat → Nat → Int64} (H : zInv t n m q I J) : zInv (t + 1) n m q I J := by
  obtain ⟨a1, a2, a3, a4, a5, a6, a7, a8, a9, b1, b2⟩ := H
  exact ⟨a1, a2, a3, a4, a5, a6, a7, a8, zK_up a9, b1, b2⟩
/-- cells that tell nothing between calls; likewise of the reference's own fields -/
def scr : List Nat := [9, 10, 11, 17, 25, 26, 27, 28, 35, 36, 37, 38, 39, 40, 41, 45, 46, 54, 56, 57, 59, 60, 61]
def scf : List Nat := [13, 15, 16, 17, 18, 23, 29, 30, 31, 36]
def F46 (S : List Nat) (I I' : Nat → Nat → Int32) : Prop := ∀ j, j ∉ S → I' 46 j = I 46 j
theorem F46_t {S : List Nat} {I I' I'' : Nat → Nat → Int32} (h : F46 S I I') (h2 : F46 S I' I'') : F46 S I I'' := fun a ha => (h2 a ha).trans (h a ha)
theorem F46_f {S T : List Nat} {I I' : Nat → Nat → Int32} (h : Fr S I I') (hs : 46 ∉ S) : F46 T I I' := fun j _ => by rw [h 46 hs]
/-- nothing but such changed, and the row that is told -/
theorem zInv_R {t n m q : Nat} {I I' : Nat → Nat → Int32} {J J' : Nat → Nat → Int64} (H : zInv t n m q I J) (h : Fr (12 :: scr) I I') (h2 : F46 (12 :: scf) I I') (hR : zR (I' 12 1) (I' 46 12) (J' 13) (J' 53)) : zInv t n m q I' J' := by
  obtain ⟨a1, a2, a3, a4, a5, a6, a7, a8, a9, b1, b2⟩ := H
  unfold zInv
  have h0 : ∀ a, a ∉ _ → I' a = I a := h
  simp (disch := decide) only [h0, h2 10, h2 1, h2 4, h2 6, h2 8, h2 26, h2 37, h2 22, h2 35]
  exact ⟨a1, hR, a3, a4, a5, a6, a7, a8, a9, b1, b2⟩
theorem zInv_0 {t n m q : Nat} {I I' : Nat → Nat → Int32} {J : Nat → Nat → Int64} (H : zInv t n m q I J) (h : Fr scr I I') (h2 : F46 scf I I') : zInv t n m q I' J :=
  zInv_R H (Fr_w h (by decide)) (fun j hj => h2 j (fun q => hj (List.mem_cons_of_mem _ q))) (by rw [h 12 (by decide), h2 12 (by decide)]; exact H.2.1)
/-- .. and the state, and what undo goes back to -/
theorem zInv_N {t n m q : Nat} {I I' : Nat → Nat → Int32} {J J' : Nat → Nat → Int64} (H : zInv t n m q I J) (h : Fr (12 :: 24 :: 29 :: 30 :: 47 :: 58 :: scr) I I') (h2 : F46 (12 :: 26 :: scf) I I') (hR : zR (I' 12 1) (I' 46 12) (J' 13) (J' 53)) (hN : okS n q (I' 24) (I' 47)) (hU : zU n q (I' 29 1) (I' 46 26) (I' 29 2) (I' 30) (I' 58)) : zInv t n m q I' J' := by
  obtain ⟨a1, a2, a3, a4, a5, a6, a7, a8, a9, b1, b2⟩ := H
  unfold zInv
  have h0 : ∀ a, a ∉ _ → I' a = I a := h
  simp (disch := decide) only [h0, h2 10, h2 1, h2 4, h2 6, h2 8, h2 37, h2 22, h2 35]
  exact ⟨a1, hR, a3, a4, a5, a6, hN, hU, a9, b1, b2⟩
end T02
