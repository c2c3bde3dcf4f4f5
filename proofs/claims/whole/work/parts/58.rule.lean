/-! a rule as signs; its code; the reference's way through it -/
variable {d : Nat} {g : Nat × Nat × Nat} {I : Nat → Nat → Int32} {J : Nat → Nat → Int64} {sl rd rl : Nat}
def lt8 (c : Int32) : Int32 := if c = 115 then 0 else if c = 99 then 1 else if c = 105 then 2 else if c = 119 then 3 else if c = 110 then 4 else if c = 111 then 5 else if c = 109 then 6 else if c = 97 then 7 else -1
/-- tags: 0 held, 1 sum, 2 its rest, 3 product, 4 its rest, 5 thing -/
def pc (sg : Nat → Int32) : Nat → Nat → Nat → List Int32 → Nat × Int32 → List Int32 × (Nat × Int32)
  | 0, _, _, v, p => (v, p)
  | n + 1, tag, deep, v, p =>
    if tag = 0 then
      let r := pc sg n 1 deep [] p
      if pk sg r.2 = 60 ∨ pk sg r.2 = 62 ∨ pk sg r.2 = 61 then
        let q := pc sg n 1 deep [] (adv r.2)
        (r.1 ++ q.1 ++ [2000 + pk sg r.2], q.2)
      else r
    else if tag = 1 then
      let r := pc sg n 3 deep [] p
      pc sg n 2 deep r.1 r.2
    else if tag = 2 then
      if pk sg p = 43 ∨ pk sg p = 45 then
        let r := pc sg n 3 deep [] (adv p)
        pc sg n 2 deep (v ++ r.1 ++ [2000 + pk sg p]) r.2
      else (v, p)
    else if tag = 3 then
      let r := pc sg n 5 deep [] p
      pc sg n 4 deep r.1 r.2
    else if tag = 4 then
      if pk sg p = 42 ∨ pk sg p = 47 then
        let r := pc sg n 5 deep [] (adv p)
        pc sg n 4 deep (v ++ r.1 ++ [2000 + pk sg p]) r.2
      else (v, p)
    else
      if pk sg p = 45 then
        let r := pc sg n 5 deep [] (adv p)
        (r.1 ++ [2256], r.2)
      else if ¬ p.2 = -1 then ([], p)
      else if pk sg p = 40 ∧ deep < 4 then
        let r := pc sg n 0 (deep + 1) [] (adv p)
        (r.1, nd sg 41 r.2)
      else if lt8 (pk sg p) = -1 then
        let r := nm sg 2 p
        ([r.1], r.2)
      else ([1000 + lt8 (pk sg p)], adv p)
theorem pkv {sg : Nat → Int32} {n : Nat} (h : sgE sg n) {p : Nat × Int32} {c : Int32} (e : pk sg p = c) (hc : ¬ c = -1) : p.1 < n := pk_at h (by rw [e]; exact hc)
theorem pc_at {sg : Nat → Int32} {N : Nat} (h : sgE sg N) : ∀ (n tag deep : Nat) (v : List Int32) (p : Nat × Int32), p.1 ≤ N → p.1 ≤ (pc sg n tag deep v p).2.1 ∧ (pc sg n tag deep v p).2.1 ≤ N := by
  intro n
  induction n with
  | zero => intro tag deep v p hp; exact ⟨Nat.le_refl _, hp⟩
  | succ n ih =>
    intro tag deep v p hp
    have adv_ok : ∀ q : Nat × Int32, ¬ pk sg q = -1 → (adv q).1 ≤ N := fun q hq => pk_at h hq
    have two : ∀ (t1 t2 d1 d2 : Nat) (v1 v2 : List Int32) (q : Nat × Int32), q.1 ≤ N → q.1 ≤ (pc sg n t2 d2 v2 (pc sg n t1 d1 v1 q).2).2.1 ∧ (pc sg n t2 d2 v2 (pc sg n t1 d1 v1 q).2).2.1 ≤ N := by
      intro t1 t2 d1 d2 v1 v2 q hq
      have a := ih t1 d1 v1 q hq
      have b := ih t2 d2 v2 _ a.2
      exact ⟨Nat.le_trans a.1 b.1, b.2⟩
    unfold pc
    split
    · have a := ih 1 deep [] p hp
      simp only
      split
      · rename_i hq
        have hne : ¬ pk sg (pc sg n 1 deep [] p).2 = -1 := by
          rcases hq with e | e | e <;> rw [e] <;> decide
        have b := ih 1 deep [] _ (adv_ok _ hne)
        exact ⟨Nat.le_trans a.1 (Nat.le_trans (Nat.le_succ _) b.1), b.2⟩
      · exact a
    split
    · exact two _ _ _ _ _ _ _ hp
    split
    · split
      · rename_i hq
        have hne : ¬ pk sg p = -1 := by
          rcases hq with e | e <;> rw [e] <;> decide
        have b := two 3 2 deep deep [] (v ++ (pc sg n 3 deep [] (adv p)).1 ++ [2000 + pk sg p]) _ (adv_ok _ hne)
        exact ⟨Nat.le_trans (Nat.le_succ _) b.1, b.2⟩
      · exact ⟨Nat.le_refl _, hp⟩
    split
    · exact two _ _ _ _ _ _ _ hp
    split
    · split
      · rename_i hq
        have hne : ¬ pk sg p = -1 := by
          rcases hq with e | e <;> rw [e] <;> decide
        have b := two 5 4 deep deep [] (v ++ (pc sg n 5 deep [] (adv p)).1 ++ [2000 + pk sg p]) _ (adv_ok _ hne)
        exact ⟨Nat.le_trans (Nat.le_succ _) b.1, b.2⟩
      · exact ⟨Nat.le_refl _, hp⟩
    split
    · rename_i hq
      have b := ih 5 deep [] _ (adv_ok p (by rw [hq]; decide))
      exact ⟨Nat.le_trans (Nat.le_succ _) b.1, b.2⟩
    split
    · exact ⟨Nat.le_refl _, hp⟩
    split
    · rename_i hq
      have b := ih 0 (deep + 1) [] _ (adv_ok p (by rw [hq.1]; decide))
      have c := nd_at h (c := 41) (by decide) b.2
      exact ⟨Nat.le_trans (Nat.le_succ _) (Nat.le_trans b.1 c.1), c.2⟩
    split
    · exact nm_at h 2 hp
    · rename_i hq
      exact ⟨Nat.le_succ _, adv_ok p (fun e => hq (by rw [e]; decide))⟩
/-- a code, worked out -/
def ev1 (t : Nat → Int32) (one : Int32) (S : List Int32) : List Int32 :=
  if 2000 ≤ one then
    (if one = 2256 then (match S with
      | [] => []
      | a :: S' => -a :: S')
     else (match S with
      | b :: a :: S' => jt (one - 2000) a b :: S'
      | S' => S'))
  else (if one - 1000 < 0 then one else if 8 ≤ one - 1000 then one else t (one - 1000).toNatClampNeg) :: S
def ev (t : Nat → Int32) : List Int32 → List Int32 → List Int32
  | [], S => S
  | one :: c, S => ev t c (ev1 t one S)
theorem ev_app (t : Nat → Int32) : ∀ (a b : List Int32) (S : List Int32), ev t (a ++ b) S = ev t b (ev t a S)
  | [], _, _ => rfl
  | _ :: a, b, S => ev_app t a b _
theorem f204 (c : Int32) : aF d 204 [.int c] (g, I, J, aP1 sl rd rl) = some (some (some (.int (lt8 c))), (g, I, J, aP1 sl rd rl)) := by
  show aE d 204 0 [.int c] [] _ = _
  rw [b204_0]
  unfold lt8
  (repeat' split) <;> rfl
theorem lt8_ix (c : Int32) : lt8 c = -1 ∨ ∃ k, k < 8 ∧ lt8 c = nI k := by
  unfold lt8
  (repeat' split) <;> first | exact Or.inl rfl | exact Or.inr ⟨0, by decide, rfl⟩ | exact Or.inr ⟨1, by decide, rfl⟩ | exact Or.inr ⟨2, by decide, rfl⟩ | exact Or.inr ⟨3, by decide, rfl⟩ | exact Or.inr ⟨4, by decide, rfl⟩ | exact Or.inr ⟨5, by decide, rfl⟩ | exact Or.inr ⟨6, by decide, rfl⟩ | exact Or.inr ⟨7, by decide, rfl⟩
theorem lt8_dig {c : Int32} (h : ¬ c < 48) (h2 : c ≤ 57) : lt8 c = -1 := by
  unfold lt8
  have q : ∀ k : Int32, 57 < k.toInt → c ≠ k := fun k hk e => by
    rw [int_le, e] at h2
    have : (57 : Int32).toInt = 57 := rfl
    omega
  rw [if_neg (q _ (by decide)), if_neg (q _ (by decide)), if_neg (q _ (by decide)), if_neg (q _ (by decide)), if_neg (q _ (by decide)), if_neg (q _ (by decide)), if_neg (q _ (by decide)), if_neg (q _ (by decide))]
theorem ev_thing (t : Nat → Int32) {k : Nat} (h : k < 8) (S : List Int32) : ev t [1000 + nI k] S = t k :: S := by
  rcases ix8c h with rfl | rfl | rfl | rfl | rfl | rfl | rfl | rfl <;> rfl
theorem ev_sign (t : Nat → Int32) (s a b : Int32) (S : List Int32) (h : 2000 ≤ 2000 + s) (h2 : ¬ 2000 + s = 2256) : ev t [2000 + s] (b :: a :: S) = jt s a b :: S := by
  show ev1 t (2000 + s) (b :: a :: S) = _
  unfold ev1
  rw [if_pos h, if_neg h2]
  simp only
  rw [show 2000 + s - 2000 = s by rw [Int32.add_comm, Int32.add_sub_cancel]]
theorem ev_neg (t : Nat → Int32) (a : Int32) (S : List Int32) : ev t [2256] (a :: S) = -a :: S := rfl
theorem num1 : ∀ b, b < 1000 → (nI b - 1000 < 0 ∧ ¬ 2000 ≤ nI b) := by decide +kernel
theorem dig {x : Int32} (h : ¬ x < 48) (h2 : x ≤ 57) : ∃ k, k < 10 ∧ x = nI (48 + k) := by
  obtain ⟨j, hj, rfl⟩ := nI_of2 (x := x) (M := 57) (n := 57) rfl (fun q => h (by rw [int_lt] at q ⊢; have : (0 : Int32).toInt = 0 := rfl; have : (48 : Int32).toInt = 48 := rfl; omega)) h2
  refine ⟨j - 48, by omega, ?_⟩
  have : 48 ≤ j := by
    apply Classical.byContradiction; intro q
    exact h (nI_lt (b := 48) (by omega) (by decide))
  rw [show 48 + (j - 48) = j by omega]
theorem nmL_rng (sg : Nat → Int32) : ∀ (m B a : Nat) (p : Nat × Int32), a < B → ∃ b, b < B * 10 ^ m ∧ (nmL sg m (nI a) p).1 = nI b := by
  intro m
  induction m with
  | zero => intro B a p h; exact ⟨a, by omega, rfl⟩
  | succ m ih =>
    intro B a p h
    have hw : ∃ b, b < B * 10 ^ (m + 1) ∧ nI a = nI b := ⟨a, by
      have : 0 < 10 ^ (m + 1) := Nat.pow_pos (by decide)
      exact Nat.lt_of_lt_of_le h (Nat.le_mul_of_pos_right _ this), rfl⟩
    unfold nmL
    split
    · exact hw
    · rename_i h1
      split
      · rename_i h2
        obtain ⟨k, hk, e⟩ := dig h1 h2
        have e2 : nI a * 10 + pk sg p - 48 = nI (a * 10 + k) := by
          rw [e, show nI a * 10 = nI (a * 10) from pk_mul a 10, nI_add, show (48 : Int32) = nI 48 from rfl, pk_sub (by omega)]
          congr 1; omega
        rw [e2]
        obtain ⟨b, hb, q⟩ := ih (B * 10) (a * 10 + k) (adv p) (by omega)
        exact ⟨b, by rw [Nat.pow_succ, Nat.mul_comm (10 ^ m) 10, ← Nat.mul_assoc]; exact hb, q⟩
      · exact hw
theorem nm_rng (sg : Nat → Int32) (m : Nat) (p : Nat × Int32) : ∃ b, b < 10 ^ (m + 1) ∧ (nm sg m p).1 = nI b := by
  have h : ∃ a, a < 10 ∧ (tk sg 48 57 p).1 - 48 = nI a := by
    unfold tk
    split
    · exact ⟨0, by decide, by show (48 : Int32) - 48 = nI 0; decide⟩
    · rename_i h1
      split
      · rename_i h2
        obtain ⟨k, hk, e⟩ := dig h1 h2
        refine ⟨k, hk, ?_⟩
        simp only
        rw [e, show (48 : Int32) = nI 48 from rfl, pk_sub (by omega)]
        congr 1; omega
      · exact ⟨0, by decide, by show (48 : Int32) - 48 = nI 0; decide⟩
  obtain ⟨a, ha, e⟩ := h
  unfold nm
  rw [e]
  obtain ⟨b, hb, q⟩ := nmL_rng sg m 10 a (tk sg 48 57 p).2 ha
  exact ⟨b, by rw [Nat.pow_succ, Nat.mul_comm]; exact hb, q⟩
theorem ev_num (t sg : Nat → Int32) (p : Nat × Int32) (S : List Int32) : ev t [(nm sg 2 p).1] S = (nm sg 2 p).1 :: S := by
  obtain ⟨b, hb, e⟩ := nm_rng sg 2 p
  rw [e]
  have h := num1 b hb
  show ev1 t (nI b) S = _
  unfold ev1
  rw [if_neg h.2, if_pos h.1]
/-- no digit: where a number is wanted nothing moves -/
theorem nI_m1 {k : Nat} (h : k < 2 ^ 31) : ¬ nI k = -1 := fun e => by
  have q := nI_pos h
  rw [e] at q
  exact q (by decide)
theorem nm_no {sg : Nat → Int32} {p : Nat × Int32} (h0 : p.1 ≤ 80) (h : pk sg p < 48 ∨ ¬ pk sg p ≤ 57) (hp : p.2 = -1) : nm sg 2 p = (0, flt p (nI p.1)) := by
  have e : tk sg 48 57 p = (48, flt p (nI p.1)) := by
    unfold tk
    rcases h with h | h
    · rw [if_pos h]
    · rw [if_neg h, ite_self]
  unfold nm
  rw [e]
  have e2 : pk sg (flt p (nI p.1)) < 48 := by
    unfold pk flt
    rw [if_pos hp]
    simp only
    rw [if_neg (nI_m1 (by omega))]
    decide
  show nmL sg 2 (48 - 48) (flt p (nI p.1)) = _
  unfold nmL
  rw [if_pos e2]
  rfl
/-- one way through -/
def rOK (d : Nat) (g : Nat × Nat × Nat) (I : Nat → Nat → Int32) (J : Nat → Nat → Int64) (sl rd rl : Nat) (x : Option aO) (r : List Int32 × (Nat × Int32)) : Prop :=
  ∃ v, x = some (some (some (.int v)), (g, pM I r.2, J, aP1 sl rd rl)) ∧ (r.2.2 = -1 → I 46 23 ≠ 0 → ∀ S, ev (I 57) r.1 S = v :: S)
theorem pc_0 (sg : Nat → Int32) (n deep : Nat) (v : List Int32) (p : Nat × Int32) : pc sg (n + 1) 0 deep v p = if pk sg (pc sg n 1 deep [] p).2 = 60 ∨ pk sg (pc sg n 1 deep [] p).2 = 62 ∨ pk sg (pc sg n 1 deep [] p).2 = 61 then ((pc sg n 1 deep [] p).1 ++ (pc sg n 1 deep [] (adv (pc sg n 1 deep [] p).2)).1 ++ [2000 + pk sg (pc sg n 1 deep [] p).2], (pc sg n 1 deep [] (adv (pc sg n 1 deep [] p).2)).2) else pc sg n 1 deep [] p := rfl
theorem pc_1 (sg : Nat → Int32) (n deep : Nat) (v : List Int32) (p : Nat × Int32) : pc sg (n + 1) 1 deep v p = pc sg n 2 deep (pc sg n 3 deep [] p).1 (pc sg n 3 deep [] p).2 := rfl
theorem pc_2 (sg : Nat → Int32) (n deep : Nat) (v : List Int32) (p : Nat × Int32) : pc sg (n + 1) 2 deep v p = if pk sg p = 43 ∨ pk sg p = 45 then pc sg n 2 deep (v ++ (pc sg n 3 deep [] (adv p)).1 ++ [2000 + pk sg p]) (pc sg n 3 deep [] (adv p)).2 else (v, p) := rfl
theorem pc_3 (sg : Nat → Int32) (n deep : Nat) (v : List Int32) (p : Nat × Int32) : pc sg (n + 1) 3 deep v p = pc sg n 4 deep (pc sg n 5 deep [] p).1 (pc sg n 5 deep [] p).2 := rfl
theorem pc_4 (sg : Nat → Int32) (n deep : Nat) (v : List Int32) (p : Nat × Int32) : pc sg (n + 1) 4 deep v p = if pk sg p = 42 ∨ pk sg p = 47 then pc sg n 4 deep (v ++ (pc sg n 5 deep [] (adv p)).1 ++ [2000 + pk sg p]) (pc sg n 5 deep [] (adv p)).2 else (v, p) := rfl
theorem pc_5 (sg : Nat → Int32) (n deep : Nat) (v : List Int32) (p : Nat × Int32) : pc sg (n + 1) 5 deep v p = if pk sg p = 45 then ((pc sg n 5 deep [] (adv p)).1 ++ [2256], (pc sg n 5 deep [] (adv p)).2) else if ¬ p.2 = -1 then ([], p) else if pk sg p = 40 ∧ deep < 4 then ((pc sg n 0 (deep + 1) [] (adv p)).1, nd sg 41 (pc sg n 0 (deep + 1) [] (adv p)).2) else if lt8 (pk sg p) = -1 then ([(nm sg 2 p).1], (nm sg 2 p).2) else ([1000 + lt8 (pk sg p)], adv p) := rfl
theorem pk_fine {sg : Nat → Int32} {p : Nat × Int32} (h : ¬ pk sg p = -1) : p.2 = -1 := by
  unfold pk at h
  split at h
  · assumption
  · exact absurd rfl h
/-- what went wrong stays wrong -/
theorem pc_wrong (sg : Nat → Int32) : ∀ (n tag deep : Nat) (v : List Int32) (p : Nat × Int32), ¬ p.2 = -1 → (pc sg n tag deep v p).2 = p := by
  intro n
  induction n with
  | zero => intro tag deep v p hp; rfl
  | succ n ih =>
    intro tag deep v p hp
    have e : pk sg p = -1 := by unfold pk; rw [if_neg hp]
    unfold pc
    simp only [ih _ _ _ p hp, e]
    (repeat' split) <;> first | rfl | exact ih _ _ _ p hp | (rename_i h; exact absurd h (by decide)) | (exfalso; simp_all; done)
def rQ (g : Nat × Nat × Nat) (I : Nat → Nat → Int32) (J : Nat → Nat → Int64) (sl rd rl row len n tag k c : Nat) : Prop := ∀ (d deep : Nat) (p : Nat × Int32), p.1 ≤ 40 → 6 * (41 - p.1) + c ≤ n → 41 ≤ d + p.1 → deep ≤ 4 → rOK d g I J sl rd rl (aF d k [.ref 46, .int (nI deep)] (g, pM I p, J, aP1 sl rd rl)) (pc (sgn (I row) len 40) n tag deep [] p)
def rL (g : Nat × Nat × Nat) (I : Nat → Nat → Int32) (J : Nat → Nat → Int64) (sl rd rl row len n tag k c : Nat) : Prop := ∀ (d deep : Nat) (p : Nat × Int32) (a : List Int32) (v : Int32) (w3 w4 : Value), p.1 ≤ 40 → 6 * (41 - p.1) + c ≤ n → 41 ≤ d + p.1 → deep ≤ 4 → (p.2 = -1 → I 46 23 ≠ 0 → ∀ S, ev (I 57) a S = v :: S) → rOK d g I J sl rd rl (aE d k 6 [.ref 46, .int (nI deep), .int v, w3, w4] [] (g, pM I p, J, aP1 sl rd rl)) (pc (sgn (I row) len 40) n tag deep a p)
theorem tI_t : tI true = 1 := rfl
theorem tI_f : tI false = 0 := rfl
theorem n00 : ((0 : Int32) = 0) = True := eq_true rfl
theorem t5_52 {len n : Nat} (hl : I 46 15 = nI len) (ht : I 46 16 = nI 40) (h1 : len ≤ 80) (hB : byR (I 52)) (i5 : rQ g I J sl 53 rl 52 len n 5 203 1) (i0 : rQ g I J sl 53 rl 52 len n 0 200 4) : rQ g I J sl 53 rl 52 len (n + 1) 5 203 1 := by
  intro d deep p hp hn hd hdp
  obtain ⟨e, rfl⟩ : ∃ e, d = e + 1 := ⟨d - 1, by omega⟩
  have hE := sgn_E (I 52) len 40
  rw [pc_5]
  show rOK (e + 1) g I J sl 53 rl (aE (e + 1) 203 0 [.ref 46, .int (nI deep), aNo, aNo] [] (g, pM I p, J, aP1 sl 53 rl)) _
  rw [b203_0, f191_52 hl ht h1 (by omega) (by omega) (by decide)]
  simp only [aBi]
  rw [b203_6]
  generalize hsg : sgn (I 52) len 40 = sg at *
  by_cases s1 : pk sg p = 45
  · have hlt := pkv hE s1 (by decide)
    have e1 : ps sg 45 p = adv p := by unfold ps; rw [if_pos s1]
    simp only [s1, decide_true, tI_t, n10, if_false, if_true, e1]
    obtain ⟨v, e2, e3⟩ := i5 e deep (adv p) hlt (by show 6 * (41 - (p.1 + 1)) + 1 ≤ n; omega) (by show 41 ≤ e + (p.1 + 1); omega) hdp
    rw [hsg] at e2 e3
    rw [e2]
    simp only [aBi]
    rw [b203_14]
    refine ⟨-v, rfl, fun q1 q2 S => ?_⟩
    rw [ev_app, e3 q1 q2]
    rfl
  · have e1 : ps sg 45 p = p := by unfold ps; rw [if_neg s1]
    simp only [s1, decide_false, tI_f, n00, if_true, if_false, e1, f185, aBi, b203_20, tI_0]
    by_cases s2 : p.2 = -1
    · have hpk : sg p.1 = pk sg p := by unfold pk; rw [if_pos s2]
      simp only [s2, decide_true, Bool.true_eq_false, if_false, not_true_eq_false]
      rw [f188_52 hl ht h1 (by omega) (by omega), hsg, hpk]
      simp only [aBi]
      rw [b203_29]
      have rest : ∀ (a : Option aO), a = aBi (aF (e + 1) 181 [.int (pk sg p), .int 48, .int 57] (g, pM I p, J, aP1 sl 53 rl)) (fun x1 t1 => aE (e + 1) 203 75 [.ref 46, .int (nI deep), .int (pk sg p), aNo] [.int x1] t1) → rOK (e + 1) g I J sl 53 rl a (if lt8 (pk sg p) = -1 then ([(nm sg 2 p).1], (nm sg 2 p).2) else ([1000 + lt8 (pk sg p)], adv p)) := by
        rintro _ rfl
        rw [f181]
        simp only [aBi]
        rw [b203_75]
        unfold inI
        by_cases q1 : pk sg p < 48 ∨ ¬ pk sg p ≤ 57
        · have q2 : (if pk sg p < 48 then (0 : Int32) else if 57 < pk sg p then 0 else 1) = 0 := by
            rcases q1 with q | q
            · rw [if_pos q]
            · rw [if_pos (show 57 < pk sg p by rw [int_lt]; rw [int_le] at q; omega), ite_self]
          rw [q2, if_pos rfl, f204]
          simp only [aBi]
          rw [b203_88]
          by_cases q3 : lt8 (pk sg p) = -1
          · rw [if_pos q3, if_pos q3, pM_17, f186]
            simp only [aBv]
            rw [b203_100, nm_no (by omega) q1 s2]
            refine ⟨0, rfl, fun q => ?_⟩
            exfalso
            simp only at q
            unfold flt at q
            rw [if_pos s2] at q
            exact nI_m1 (by omega) q
          · rw [if_neg q3, if_neg q3, pM_17, nI_1, pM_u17, pM_o _ _ (by decide) (by decide)]
            obtain ⟨k, hk, q4⟩ : ∃ k, k < 8 ∧ lt8 (pk sg p) = nI k := by
              rcases lt8_ix (pk sg p) with q | q
              · exact absurd q q3
              · exact q
            by_cases q5 : I 46 23 = 0
            · rw [if_pos q5]
              exact ⟨0, rfl, fun _ q => absurd q5 q⟩
            · rw [if_neg q5, f204]
              simp only [aBi]
              rw [b203_127, q4]
              simp (disch := omega) only [pM_r, aBi, aBv, aBl, nI_1, nIle_t, nIle_f, nIlt_t, nIlt_f, nIeq_t, nIeq_f, nIneg, nI_clamp, nat_le_f, nat_le_t, nat_lt_f, nat_lt_t, or_self, or_false, false_or, if_true, if_false, ↓reduceIte, Int32.or_zero, Int32.add_zero, nIm2, nIm3, nIm4, nIp2, nIp4, nIp6, nIp8, nIp14, nIp16, nIp22, nIp24, nIp30, nIq2, nIq3, nIq4, hasI_0, aU_s, aU_i, aU_r, aU_u]
              refine ⟨I 57 k, rfl, fun _ _ S => ?_⟩
              rw [ev_thing _ hk]
        · have q2 : ¬ pk sg p < 48 := fun q => q1 (Or.inl q)
          have q3 : pk sg p ≤ 57 := Classical.byContradiction (fun q => q1 (Or.inr q))
          have q4 : ¬ 57 < pk sg p := by rw [int_lt]; rw [int_le] at q3; omega
          rw [if_neg q2, if_neg q4, if_neg (by decide), if_pos (lt8_dig q2 q3)]
          have q5 := f189_52 (d := e + 1) (g := g) (J := J) (sl := sl) (rl := rl) (I := I) (p := p) (len := len) (top := 40) (m := 2) hl ht h1 (by omega) hp hB (by decide)
          rw [hsg] at q5
          rw [show (3 : Int32) = nI (2 + 1) from rfl, q5]
          simp only [aBi]
          rw [b203_83]
          exact ⟨_, rfl, fun _ _ S => ev_num _ _ _ _⟩
      by_cases s3 : pk sg p = 40
      · by_cases s4 : deep < 4
        · have hlt := pkv hE s3 (by decide)
          rw [if_pos s3, if_neg (show ¬ 4 ≤ nI deep from nI_ge (b := 4) (by omega) (by decide)), if_pos ⟨s3, s4⟩, pM_17, nI_1, nI_1, pM_u17]
          obtain ⟨v, e2, e3⟩ := i0 e (deep + 1) (adv p) hlt (by show 6 * (41 - (p.1 + 1)) + 4 ≤ n; omega) (by show 41 ≤ e + (p.1 + 1); omega) (by omega)
          have hat := pc_at hE n 0 (deep + 1) [] (adv p) hlt
          rw [hsg] at e2 e3
          show rOK (e + 1) g I J sl 53 rl (aBi (aF e 200 [.ref 46, .int (nI (deep + 1))] (g, pM I (adv p), J, aP1 sl 53 rl)) _) _
          rw [e2]
          simp only [aBi]
          have q5 := f192_52 (d := e + 1) (g := g) (J := J) (sl := sl) (rl := rl) (I := I) (p := (pc sg n 0 (deep + 1) [] (adv p)).2) (len := len) (top := 40) (c := 41) hl ht h1 (by omega) (by omega) (by decide)
          rw [hsg] at q5
          rw [b203_58, q5]
          simp only [aBv]
          rw [b203_65]
          refine ⟨v, rfl, fun q1 q2 S => e3 ?_ q2 S⟩
          simp only at q1
          unfold nd at q1
          split at q1
          · exact q1
          · unfold flt at q1
            split at q1
            · assumption
            · exact q1
        · rw [if_pos s3, if_pos (show 4 ≤ nI deep from nI_le (a := 4) (by omega) (by omega)), if_neg (fun q => s4 q.2)]
          exact rest _ rfl
      · rw [if_neg s3, if_neg (fun q => s3 q.1)]
        exact rest _ rfl
    · simp only [s2, decide_false, if_true, not_false_eq_true]
      exact ⟨0, rfl, fun q => absurd q s2⟩
theorem t5_55 {len n : Nat} (hl : I 46 15 = nI len) (ht : I 46 16 = nI 40) (h1 : len ≤ 40) (hB : byR (I 55)) (i5 : rQ g I J sl 56 rl 55 len n 5 203 1) (i0 : rQ g I J sl 56 rl 55 len n 0 200 4) : rQ g I J sl 56 rl 55 len (n + 1) 5 203 1 := by
  intro d deep p hp hn hd hdp
  obtain ⟨e, rfl⟩ : ∃ e, d = e + 1 := ⟨d - 1, by omega⟩
  have hE := sgn_E (I 55) len 40
  rw [pc_5]
  show rOK (e + 1) g I J sl 56 rl (aE (e + 1) 203 0 [.ref 46, .int (nI deep), aNo, aNo] [] (g, pM I p, J, aP1 sl 56 rl)) _
  rw [b203_0, f191_55 hl ht h1 (by omega) (by omega) (by decide)]
  simp only [aBi]
  rw [b203_6]
  generalize hsg : sgn (I 55) len 40 = sg at *
  by_cases s1 : pk sg p = 45
  · have hlt := pkv hE s1 (by decide)
    have e1 : ps sg 45 p = adv p := by unfold ps; rw [if_pos s1]
    simp only [s1, decide_true, tI_t, n10, if_false, if_true, e1]
    obtain ⟨v, e2, e3⟩ := i5 e deep (adv p) hlt (by show 6 * (41 - (p.1 + 1)) + 1 ≤ n; omega) (by show 41 ≤ e + (p.1 + 1); omega) hdp
    rw [hsg] at e2 e3
    rw [e2]
    simp only [aBi]
    rw [b203_14]
    refine ⟨-v, rfl, fun q1 q2 S => ?_⟩
    rw [ev_app, e3 q1 q2]
    rfl
  · have e1 : ps sg 45 p = p := by unfold ps; rw [if_neg s1]
    simp only [s1, decide_false, tI_f, n00, if_true, if_false, e1, f185, aBi, b203_20, tI_0]
    by_cases s2 : p.2 = -1
    · have hpk : sg p.1 = pk sg p := by unfold pk; rw [if_pos s2]
      simp only [s2, decide_true, Bool.true_eq_false, if_false, not_true_eq_false]
      rw [f188_55 hl ht h1 (by omega) (by omega), hsg, hpk]
      simp only [aBi]
      rw [b203_29]
      have rest : ∀ (a : Option aO), a = aBi (aF (e + 1) 181 [.int (pk sg p), .int 48, .int 57] (g, pM I p, J, aP1 sl 56 rl)) (fun x1 t1 => aE (e + 1) 203 75 [.ref 46, .int (nI deep), .int (pk sg p), aNo] [.int x1] t1) → rOK (e + 1) g I J sl 56 rl a (if lt8 (pk sg p) = -1 then ([(nm sg 2 p).1], (nm sg 2 p).2) else ([1000 + lt8 (pk sg p)], adv p)) := by
        rintro _ rfl
        rw [f181]
        simp only [aBi]
        rw [b203_75]
        unfold inI
        by_cases q1 : pk sg p < 48 ∨ ¬ pk sg p ≤ 57
        · have q2 : (if pk sg p < 48 then (0 : Int32) else if 57 < pk sg p then 0 else 1) = 0 := by
            rcases q1 with q | q
            · rw [if_pos q]
            · rw [if_pos (show 57 < pk sg p by rw [int_lt]; rw [int_le] at q; omega), ite_self]
          rw [q2, if_pos rfl, f204]
          simp only [aBi]
          rw [b203_88]
          by_cases q3 : lt8 (pk sg p) = -1
          · rw [if_pos q3, if_pos q3, pM_17, f186]
            simp only [aBv]
            rw [b203_100, nm_no (by omega) q1 s2]
            refine ⟨0, rfl, fun q => ?_⟩
            exfalso
            simp only at q
            unfold flt at q
            rw [if_pos s2] at q
            exact nI_m1 (by omega) q
          · rw [if_neg q3, if_neg q3, pM_17, nI_1, pM_u17, pM_o _ _ (by decide) (by decide)]
            obtain ⟨k, hk, q4⟩ : ∃ k, k < 8 ∧ lt8 (pk sg p) = nI k := by
              rcases lt8_ix (pk sg p) with q | q
              · exact absurd q q3
              · exact q
            by_cases q5 : I 46 23 = 0
            · rw [if_pos q5]
              exact ⟨0, rfl, fun _ q => absurd q5 q⟩
            · rw [if_neg q5, f204]
              simp only [aBi]
              rw [b203_127, q4]
              simp (disch := omega) only [pM_r, aBi, aBv, aBl, nI_1, nIle_t, nIle_f, nIlt_t, nIlt_f, nIeq_t, nIeq_f, nIneg, nI_clamp, nat_le_f, nat_le_t, nat_lt_f, nat_lt_t, or_self, or_false, false_or, if_true, if_false, ↓reduceIte, Int32.or_zero, Int32.add_zero, nIm2, nIm3, nIm4, nIp2, nIp4, nIp6, nIp8, nIp14, nIp16, nIp22, nIp24, nIp30, nIq2, nIq3, nIq4, hasI_0, aU_s, aU_i, aU_r, aU_u]
              refine ⟨I 57 k, rfl, fun _ _ S => ?_⟩
              rw [ev_thing _ hk]
        · have q2 : ¬ pk sg p < 48 := fun q => q1 (Or.inl q)
          have q3 : pk sg p ≤ 57 := Classical.byContradiction (fun q => q1 (Or.inr q))
          have q4 : ¬ 57 < pk sg p := by rw [int_lt]; rw [int_le] at q3; omega
          rw [if_neg q2, if_neg q4, if_neg (by decide), if_pos (lt8_dig q2 q3)]
          have q5 := f189_55 (d := e + 1) (g := g) (J := J) (sl := sl) (rl := rl) (I := I) (p := p) (len := len) (top := 40) (m := 2) hl ht h1 (by omega) hp hB (by decide)
          rw [hsg] at q5
          rw [show (3 : Int32) = nI (2 + 1) from rfl, q5]
          simp only [aBi]
          rw [b203_83]
          exact ⟨_, rfl, fun _ _ S => ev_num _ _ _ _⟩
      by_cases s3 : pk sg p = 40
      · by_cases s4 : deep < 4
        · have hlt := pkv hE s3 (by decide)
          rw [if_pos s3, if_neg (show ¬ 4 ≤ nI deep from nI_ge (b := 4) (by omega) (by decide)), if_pos ⟨s3, s4⟩, pM_17, nI_1, nI_1, pM_u17]
          obtain ⟨v, e2, e3⟩ := i0 e (deep + 1) (adv p) hlt (by show 6 * (41 - (p.1 + 1)) + 4 ≤ n; omega) (by show 41 ≤ e + (p.1 + 1); omega) (by omega)
          have hat := pc_at hE n 0 (deep + 1) [] (adv p) hlt
          rw [hsg] at e2 e3
          show rOK (e + 1) g I J sl 56 rl (aBi (aF e 200 [.ref 46, .int (nI (deep + 1))] (g, pM I (adv p), J, aP1 sl 56 rl)) _) _
          rw [e2]
          simp only [aBi]
          have q5 := f192_55 (d := e + 1) (g := g) (J := J) (sl := sl) (rl := rl) (I := I) (p := (pc sg n 0 (deep + 1) [] (adv p)).2) (len := len) (top := 40) (c := 41) hl ht h1 (by omega) (by omega) (by decide)
          rw [hsg] at q5
          rw [b203_58, q5]
          simp only [aBv]
          rw [b203_65]
          refine ⟨v, rfl, fun q1 q2 S => e3 ?_ q2 S⟩
          simp only at q1
          unfold nd at q1
          split at q1
          · exact q1
          · unfold flt at q1
            split at q1
            · assumption
            · exact q1
        · rw [if_pos s3, if_pos (show 4 ≤ nI deep from nI_le (a := 4) (by omega) (by omega)), if_neg (fun q => s4 q.2)]
          exact rest _ rfl
      · rw [if_neg s3, if_neg (fun q => s3 q.1)]
        exact rest _ rfl
    · simp only [s2, decide_false, if_true, not_false_eq_true]
      exact ⟨0, rfl, fun q => absurd q s2⟩
theorem t5_56 {len n : Nat} (hl : I 46 15 = nI len) (ht : I 46 16 = nI 40) (h1 : len ≤ 40) (hB : byR (I 56)) (i5 : rQ g I J sl 57 rl 56 len n 5 203 1) (i0 : rQ g I J sl 57 rl 56 len n 0 200 4) : rQ g I J sl 57 rl 56 len (n + 1) 5 203 1 := by
  intro d deep p hp hn hd hdp
  obtain ⟨e, rfl⟩ : ∃ e, d = e + 1 := ⟨d - 1, by omega⟩
  have hE := sgn_E (I 56) len 40
  rw [pc_5]
  show rOK (e + 1) g I J sl 57 rl (aE (e + 1) 203 0 [.ref 46, .int (nI deep), aNo, aNo] [] (g, pM I p, J, aP1 sl 57 rl)) _
  rw [b203_0, f191_56 hl ht h1 (by omega) (by omega) (by decide)]
  simp only [aBi]
  rw [b203_6]
  generalize hsg : sgn (I 56) len 40 = sg at *
  by_cases s1 : pk sg p = 45
  · have hlt := pkv hE s1 (by decide)
    have e1 : ps sg 45 p = adv p := by unfold ps; rw [if_pos s1]
    simp only [s1, decide_true, tI_t, n10, if_false, if_true, e1]
    obtain ⟨v, e2, e3⟩ := i5 e deep (adv p) hlt (by show 6 * (41 - (p.1 + 1)) + 1 ≤ n; omega) (by show 41 ≤ e + (p.1 + 1); omega) hdp
    rw [hsg] at e2 e3
    rw [e2]
    simp only [aBi]
    rw [b203_14]
    refine ⟨-v, rfl, fun q1 q2 S => ?_⟩
    rw [ev_app, e3 q1 q2]
    rfl
  · have e1 : ps sg 45 p = p := by unfold ps; rw [if_neg s1]
    simp only [s1, decide_false, tI_f, n00, if_true, if_false, e1, f185, aBi, b203_20, tI_0]
    by_cases s2 : p.2 = -1
    · have hpk : sg p.1 = pk sg p := by unfold pk; rw [if_pos s2]
      simp only [s2, decide_true, Bool.true_eq_false, if_false, not_true_eq_false]
      rw [f188_56 hl ht h1 (by omega) (by omega), hsg, hpk]
      simp only [aBi]
      rw [b203_29]
      have rest : ∀ (a : Option aO), a = aBi (aF (e + 1) 181 [.int (pk sg p), .int 48, .int 57] (g, pM I p, J, aP1 sl 57 rl)) (fun x1 t1 => aE (e + 1) 203 75 [.ref 46, .int (nI deep), .int (pk sg p), aNo] [.int x1] t1) → rOK (e + 1) g I J sl 57 rl a (if lt8 (pk sg p) = -1 then ([(nm sg 2 p).1], (nm sg 2 p).2) else ([1000 + lt8 (pk sg p)], adv p)) := by
        rintro _ rfl
        rw [f181]
        simp only [aBi]
        rw [b203_75]
        unfold inI
        by_cases q1 : pk sg p < 48 ∨ ¬ pk sg p ≤ 57
        · have q2 : (if pk sg p < 48 then (0 : Int32) else if 57 < pk sg p then 0 else 1) = 0 := by
            rcases q1 with q | q
            · rw [if_pos q]
            · rw [if_pos (show 57 < pk sg p by rw [int_lt]; rw [int_le] at q; omega), ite_self]
          rw [q2, if_pos rfl, f204]
          simp only [aBi]
          rw [b203_88]
          by_cases q3 : lt8 (pk sg p) = -1
          · rw [if_pos q3, if_pos q3, pM_17, f186]
            simp only [aBv]
            rw [b203_100, nm_no (by omega) q1 s2]
            refine ⟨0, rfl, fun q => ?_⟩
            exfalso
            simp only at q
            unfold flt at q
            rw [if_pos s2] at q
            exact nI_m1 (by omega) q
          · rw [if_neg q3, if_neg q3, pM_17, nI_1, pM_u17, pM_o _ _ (by decide) (by decide)]
            obtain ⟨k, hk, q4⟩ : ∃ k, k < 8 ∧ lt8 (pk sg p) = nI k := by
              rcases lt8_ix (pk sg p) with q | q
              · exact absurd q q3
              · exact q
            by_cases q5 : I 46 23 = 0
            · rw [if_pos q5]
              exact ⟨0, rfl, fun _ q => absurd q5 q⟩
            · rw [if_neg q5, f204]
              simp only [aBi]
              rw [b203_127, q4]
              simp (disch := omega) only [pM_r, aBi, aBv, aBl, nI_1, nIle_t, nIle_f, nIlt_t, nIlt_f, nIeq_t, nIeq_f, nIneg, nI_clamp, nat_le_f, nat_le_t, nat_lt_f, nat_lt_t, or_self, or_false, false_or, if_true, if_false, ↓reduceIte, Int32.or_zero, Int32.add_zero, nIm2, nIm3, nIm4, nIp2, nIp4, nIp6, nIp8, nIp14, nIp16, nIp22, nIp24, nIp30, nIq2, nIq3, nIq4, hasI_0, aU_s, aU_i, aU_r, aU_u]
              refine ⟨I 57 k, rfl, fun _ _ S => ?_⟩
              rw [ev_thing _ hk]
        · have q2 : ¬ pk sg p < 48 := fun q => q1 (Or.inl q)
          have q3 : pk sg p ≤ 57 := Classical.byContradiction (fun q => q1 (Or.inr q))
          have q4 : ¬ 57 < pk sg p := by rw [int_lt]; rw [int_le] at q3; omega
          rw [if_neg q2, if_neg q4, if_neg (by decide), if_pos (lt8_dig q2 q3)]
          have q5 := f189_56 (d := e + 1) (g := g) (J := J) (sl := sl) (rl := rl) (I := I) (p := p) (len := len) (top := 40) (m := 2) hl ht h1 (by omega) hp hB (by decide)
          rw [hsg] at q5
          rw [show (3 : Int32) = nI (2 + 1) from rfl, q5]
          simp only [aBi]
          rw [b203_83]
          exact ⟨_, rfl, fun _ _ S => ev_num _ _ _ _⟩
      by_cases s3 : pk sg p = 40
      · by_cases s4 : deep < 4
        · have hlt := pkv hE s3 (by decide)
          rw [if_pos s3, if_neg (show ¬ 4 ≤ nI deep from nI_ge (b := 4) (by omega) (by decide)), if_pos ⟨s3, s4⟩, pM_17, nI_1, nI_1, pM_u17]
          obtain ⟨v, e2, e3⟩ := i0 e (deep + 1) (adv p) hlt (by show 6 * (41 - (p.1 + 1)) + 4 ≤ n; omega) (by show 41 ≤ e + (p.1 + 1); omega) (by omega)
          have hat := pc_at hE n 0 (deep + 1) [] (adv p) hlt
          rw [hsg] at e2 e3
          show rOK (e + 1) g I J sl 57 rl (aBi (aF e 200 [.ref 46, .int (nI (deep + 1))] (g, pM I (adv p), J, aP1 sl 57 rl)) _) _
          rw [e2]
          simp only [aBi]
          have q5 := f192_56 (d := e + 1) (g := g) (J := J) (sl := sl) (rl := rl) (I := I) (p := (pc sg n 0 (deep + 1) [] (adv p)).2) (len := len) (top := 40) (c := 41) hl ht h1 (by omega) (by omega) (by decide)
          rw [hsg] at q5
          rw [b203_58, q5]
          simp only [aBv]
          rw [b203_65]
          refine ⟨v, rfl, fun q1 q2 S => e3 ?_ q2 S⟩
          simp only at q1
          unfold nd at q1
          split at q1
          · exact q1
          · unfold flt at q1
            split at q1
            · assumption
            · exact q1
        · rw [if_pos s3, if_pos (show 4 ≤ nI deep from nI_le (a := 4) (by omega) (by omega)), if_neg (fun q => s4 q.2)]
          exact rest _ rfl
      · rw [if_neg s3, if_neg (fun q => s3 q.1)]
        exact rest _ rfl
    · simp only [s2, decide_false, if_true, not_false_eq_true]
      exact ⟨0, rfl, fun q => absurd q s2⟩
theorem jt42 (a b : Int32) : jt 42 a b = a * b := rfl
theorem jt43 (a b : Int32) : jt 43 a b = a + b := rfl
theorem jt45 (a b : Int32) : jt 45 a b = a - b := rfl
theorem jt47 (a b : Int32) : jt 47 a b = if b = 0 then 0 else a / b := rfl
theorem jt60 (a b : Int32) : jt 60 a b = if b ≤ a then 0 else 1 := rfl
theorem jt62 (a b : Int32) : jt 62 a b = if a ≤ b then 0 else 1 := rfl
theorem jt61 (a b : Int32) : jt 61 a b = if a = b then 1 else 0 := rfl
theorem evs (t : Nat → Int32) {a b : List Int32} {v w s : Int32} (S : List Int32) (ha : ev t a S = v :: S) (hb : ∀ S, ev t b S = w :: S) (h : 2000 ≤ 2000 + s) (h2 : ¬ 2000 + s = 2256) : ev t (a ++ b ++ [2000 + s]) S = jt s v w :: S := by
  rw [ev_app, ev_app, ha, hb, ev_sign _ _ _ _ _ h h2]
theorem t4_52 {len n : Nat} (hl : I 46 15 = nI len) (ht : I 46 16 = nI 40) (h1 : len ≤ 80) (i5 : rQ g I J sl 53 rl 52 len n 5 203 1) (i4 : rL g I J sl 53 rl 52 len n 4 202 1) : rL g I J sl 53 rl 52 len (n + 1) 4 202 1 := by
  intro d deep p a v w3 w4 hp hn hd hdp ha
  have hE := sgn_E (I 52) len 40
  rw [pc_4, b202_6, f185]
  simp only [aBi]
  rw [b202_10]
  generalize hsg : sgn (I 52) len 40 = sg at *
  by_cases s2 : p.2 = -1
  · have hpk : sg p.1 = pk sg p := by unfold pk; rw [if_pos s2]
    have hh := f188_52 (d := d) (g := g) (J := J) (sl := sl) (rl := rl) (I := I) (p := p) (len := len) (top := 40) hl ht h1 (by omega) (by omega)
    rw [hsg, hpk] at hh
    simp only [s2, decide_true, tI_t, n10, if_false, hh, aBi, b202_17, b202_35, b202_26, pM_17, nI_1, pM_u17]
    have go : ∀ s, pk sg p = s → ¬ s = -1 → ∀ (X : Option aO) (q : Int32 → Int32), (∀ w, aF d 203 [.ref 46, .int (nI deep)] (g, pM I (p.1 + 1, -1), J, aP1 sl 53 rl) = some (some (some (.int w)), (g, pM I (pc sg n 5 deep [] (adv p)).2, J, aP1 sl 53 rl)) → ∃ w3 w4, X = aE d 202 6 [.ref 46, .int (nI deep), .int (q w), w3, w4] [] (g, pM I (pc sg n 5 deep [] (adv p)).2, J, aP1 sl 53 rl)) → (∀ w, q w = jt s v w) → 2000 ≤ 2000 + s → ¬ 2000 + s = 2256 → rOK d g I J sl 53 rl X (pc sg n 4 deep (a ++ (pc sg n 5 deep [] (adv p)).1 ++ [2000 + s]) (pc sg n 5 deep [] (adv p)).2) := by
      intro s hs hs1 X q hX hq k1 k2
      have hlt := pkv hE hs hs1
      obtain ⟨w, e2, e3⟩ := i5 d deep (adv p) hlt (by show 6 * (41 - (p.1 + 1)) + 1 ≤ n; omega) (by show 41 ≤ d + (p.1 + 1); omega) hdp
      rw [hsg] at e2 e3
      have hat := pc_at hE n 5 deep [] (adv p) hlt
      have hat1 : p.1 + 1 ≤ (pc sg n 5 deep [] (adv p)).2.1 := hat.1
      obtain ⟨u3, u4, e4⟩ := hX w (by rw [show (p.1 + 1, (-1 : Int32)) = adv p from by unfold adv; rw [s2]]; exact e2)
      rw [e4]
      have e5 := i4 d deep (pc sg n 5 deep [] (adv p)).2 (a ++ (pc sg n 5 deep [] (adv p)).1 ++ [2000 + s]) (q w) u3 u4 hat.2 (by omega) (by omega) hdp (fun q1 q2 S => by
        rw [hq]
        exact evs _ S (ha s2 q2 S) (e3 q1 q2) k1 k2)
      rw [hsg] at e5
      exact e5
    by_cases s3 : pk sg p = 42
    · simp only [s3, if_true, true_or]
      refine go 42 s3 (by decide) _ (fun w => v * w) (fun w hw => ⟨_, _, by rw [hw]; simp only; rw [b202_61, if_neg (by decide)]⟩) (fun w => rfl) (by decide) (by decide)
    · by_cases s4 : pk sg p = 47
      · simp only [s4, if_true, or_true, show ((47 : Int32) = 42) = False from by decide, if_false]
        refine go 47 s4 (by decide) _ (fun w => if w = 0 then 0 else v / w) (fun w hw => ⟨.int 0, .int w, by rw [hw]; simp only; rw [b202_61, if_pos rfl]; by_cases hz : w = 0 <;> simp only [hz, if_true, if_false]⟩) (fun w => rfl) (by decide) (by decide)
      · simp only [s3, s4, if_false, or_self]
        exact ⟨v, rfl, fun q1 q2 S => ha q1 q2 S⟩
  · have hpk : pk sg p = -1 := by unfold pk; rw [if_neg s2]
    simp only [s2, decide_false, tI_f, n00, if_true, hpk, show ((-1 : Int32) = 42) = False from by decide, show ((-1 : Int32) = 47) = False from by decide, or_self, if_false]
    exact ⟨v, rfl, fun q => absurd q s2⟩
theorem t2_52 {len n : Nat} (hl : I 46 15 = nI len) (ht : I 46 16 = nI 40) (h1 : len ≤ 80) (i5 : rQ g I J sl 53 rl 52 len n 3 202 2) (i4 : rL g I J sl 53 rl 52 len n 2 201 1) : rL g I J sl 53 rl 52 len (n + 1) 2 201 1 := by
  intro d deep p a v w3 w4 hp hn hd hdp ha
  have hE := sgn_E (I 52) len 40
  rw [pc_2, b201_6, f185]
  simp only [aBi]
  rw [b201_10]
  generalize hsg : sgn (I 52) len 40 = sg at *
  by_cases s2 : p.2 = -1
  · have hpk : sg p.1 = pk sg p := by unfold pk; rw [if_pos s2]
    have hh := f188_52 (d := d) (g := g) (J := J) (sl := sl) (rl := rl) (I := I) (p := p) (len := len) (top := 40) hl ht h1 (by omega) (by omega)
    rw [hsg, hpk] at hh
    simp only [s2, decide_true, tI_t, n10, if_false, hh, aBi, b201_17, b201_35, b201_26, pM_17, nI_1, pM_u17]
    have go : ∀ s, pk sg p = s → ¬ s = -1 → ∀ (X : Option aO) (q : Int32 → Int32), (∀ w, aF d 202 [.ref 46, .int (nI deep)] (g, pM I (p.1 + 1, -1), J, aP1 sl 53 rl) = some (some (some (.int w)), (g, pM I (pc sg n 3 deep [] (adv p)).2, J, aP1 sl 53 rl)) → ∃ w3 w4, X = aE d 201 6 [.ref 46, .int (nI deep), .int (q w), w3, w4] [] (g, pM I (pc sg n 3 deep [] (adv p)).2, J, aP1 sl 53 rl)) → (∀ w, q w = jt s v w) → 2000 ≤ 2000 + s → ¬ 2000 + s = 2256 → rOK d g I J sl 53 rl X (pc sg n 2 deep (a ++ (pc sg n 3 deep [] (adv p)).1 ++ [2000 + s]) (pc sg n 3 deep [] (adv p)).2) := by
      intro s hs hs1 X q hX hq k1 k2
      have hlt := pkv hE hs hs1
      obtain ⟨w, e2, e3⟩ := i5 d deep (adv p) hlt (by show 6 * (41 - (p.1 + 1)) + 2 ≤ n; omega) (by show 41 ≤ d + (p.1 + 1); omega) hdp
      rw [hsg] at e2 e3
      have hat := pc_at hE n 3 deep [] (adv p) hlt
      have hat1 : p.1 + 1 ≤ (pc sg n 3 deep [] (adv p)).2.1 := hat.1
      obtain ⟨u3, u4, e4⟩ := hX w (by rw [show (p.1 + 1, (-1 : Int32)) = adv p from by unfold adv; rw [s2]]; exact e2)
      rw [e4]
      have e5 := i4 d deep (pc sg n 3 deep [] (adv p)).2 (a ++ (pc sg n 3 deep [] (adv p)).1 ++ [2000 + s]) (q w) u3 u4 hat.2 (by omega) (by omega) hdp (fun q1 q2 S => by
        rw [hq]
        exact evs _ S (ha s2 q2 S) (e3 q1 q2) k1 k2)
      rw [hsg] at e5
      exact e5
    by_cases s3 : pk sg p = 43
    · simp only [s3, if_true, true_or]
      refine go 43 s3 (by decide) _ (fun w => v + w) (fun w hw => ⟨_, _, by rw [hw]; simp only; rw [b201_61, if_neg (by decide)]⟩) (fun w => rfl) (by decide) (by decide)
    · by_cases s4 : pk sg p = 45
      · simp only [s4, if_true, or_true, show ((45 : Int32) = 43) = False from by decide, if_false]
        refine go 45 s4 (by decide) _ (fun w => v - w) (fun w hw => ⟨_, _, by rw [hw]; simp only; rw [b201_61, if_pos rfl]⟩) (fun w => rfl) (by decide) (by decide)
      · simp only [s3, s4, if_false, or_self]
        exact ⟨v, rfl, fun q1 q2 S => ha q1 q2 S⟩
  · have hpk : pk sg p = -1 := by unfold pk; rw [if_neg s2]
    simp only [s2, decide_false, tI_f, n00, if_true, hpk, show ((-1 : Int32) = 43) = False from by decide, show ((-1 : Int32) = 45) = False from by decide, or_self, if_false]
    exact ⟨v, rfl, fun q => absurd q s2⟩
theorem t3_52 {len n : Nat} (i5 : rQ g I J sl 53 rl 52 len n 5 203 1) (i4 : rL g I J sl 53 rl 52 len n 4 202 1) : rQ g I J sl 53 rl 52 len (n + 1) 3 202 2 := by
  intro d deep p hp hn hd hdp
  have hE := sgn_E (I 52) len 40
  rw [pc_3]
  show rOK d g I J sl 53 rl (aE d 202 0 [.ref 46, .int (nI deep), aNo, aNo, aNo] [] (g, pM I p, J, aP1 sl 53 rl)) _
  obtain ⟨w, e2, e3⟩ := i5 d deep p hp (by omega) hd hdp
  have hat := pc_at hE n 5 deep [] p hp
  rw [b202_0, e2]
  simp only [aBi]
  rw [b202_5]
  exact i4 d deep _ _ _ _ _ hat.2 (by omega) (by omega) hdp e3
theorem t1_52 {len n : Nat} (i5 : rQ g I J sl 53 rl 52 len n 3 202 2) (i4 : rL g I J sl 53 rl 52 len n 2 201 1) : rQ g I J sl 53 rl 52 len (n + 1) 1 201 3 := by
  intro d deep p hp hn hd hdp
  have hE := sgn_E (I 52) len 40
  rw [pc_1]
  show rOK d g I J sl 53 rl (aE d 201 0 [.ref 46, .int (nI deep), aNo, aNo, aNo] [] (g, pM I p, J, aP1 sl 53 rl)) _
  obtain ⟨w, e2, e3⟩ := i5 d deep p hp (by omega) hd hdp
  have hat := pc_at hE n 3 deep [] p hp
  rw [b201_0, e2]
  simp only [aBi]
  rw [b201_5]
  exact i4 d deep _ _ _ _ _ hat.2 (by omega) (by omega) hdp e3
theorem t0_52 {len n : Nat} (hl : I 46 15 = nI len) (ht : I 46 16 = nI 40) (h1 : len ≤ 80) (i1 : rQ g I J sl 53 rl 52 len n 1 201 3) : rQ g I J sl 53 rl 52 len (n + 1) 0 200 4 := by
  intro d deep p hp hn hd hdp
  have hE := sgn_E (I 52) len 40
  rw [pc_0]
  show rOK d g I J sl 53 rl (aE d 200 0 [.ref 46, .int (nI deep), aNo] [] (g, pM I p, J, aP1 sl 53 rl)) _
  obtain ⟨v, e2, e3⟩ := i1 d deep p hp (by omega) hd hdp
  have hat := pc_at hE n 1 deep [] p hp
  rw [b200_0, e2]
  simp only [aBi]
  rw [b200_5]
  generalize hsg : sgn (I 52) len 40 = sg at *
  generalize hr : pc sg n 1 deep [] p = r at *
  have hh (c : Int32) (hc : 0 ≤ c) := f191_52 (d := d) (g := g) (J := J) (sl := sl) (rl := rl) (I := I) (p := r.2) (len := len) (top := 40) hl ht h1 (by omega) (by omega) hc
  rw [hsg] at hh
  have two : ∀ s, pk sg r.2 = s → ¬ s = -1 → ∀ (F : Int32 → aS → Option aO) (q : Int32 → Int32), (∀ w, F w (g, pM I (pc sg n 1 deep [] (adv r.2)).2, J, aP1 sl 53 rl) = some (some (some (.int (q w))), (g, pM I (pc sg n 1 deep [] (adv r.2)).2, J, aP1 sl 53 rl))) → (∀ w, q w = jt s v w) → 2000 ≤ 2000 + s → ¬ 2000 + s = 2256 → rOK d g I J sl 53 rl (aBi (aF d 201 [.ref 46, .int (nI deep)] (g, pM I (adv r.2), J, aP1 sl 53 rl)) F) (r.1 ++ (pc sg n 1 deep [] (adv r.2)).1 ++ [2000 + s], (pc sg n 1 deep [] (adv r.2)).2) := by
    intro s hs hs1 F q hF hq k1 k2
    have hlt := pkv hE hs hs1
    obtain ⟨w, e4, e5⟩ := i1 d deep (adv r.2) hlt (by show 6 * (41 - (r.2.1 + 1)) + 3 ≤ n; omega) (by show 41 ≤ d + (r.2.1 + 1); omega) hdp
    rw [hsg] at e4 e5
    rw [e4]
    simp only [aBi]
    rw [hF]
    refine ⟨q w, rfl, fun q1 q2 S => ?_⟩
    rw [hq]
    exact evs _ S (e3 (pk_fine (by rw [hs]; exact hs1)) q2 S) (e5 q1 q2) k1 k2
  have no (c : Int32) (h : ¬ pk sg r.2 = c) : ps sg c r.2 = r.2 := by unfold ps; rw [if_neg h]
  have ye (c : Int32) (h : pk sg r.2 = c) : ps sg c r.2 = adv r.2 := by unfold ps; rw [if_pos h]
  rw [hh 60 (by decide)]
  simp only [aBi]
  rw [b200_12]
  by_cases s1 : pk sg r.2 = 60
  · rw [ye 60 s1]
    simp only [s1, decide_true, tI_t, n10, if_false, true_or, if_true]
    refine two 60 s1 (by decide) _ (fun w => if w ≤ v then 0 else 1) (fun w => ?_) (fun w => rfl) (by decide) (by decide)
    rw [b200_21]
    split <;> rfl
  · rw [no 60 s1]
    simp only [s1, decide_false, tI_f, n00, if_true, false_or]
    rw [hh 62 (by decide)]
    simp only [aBi]
    rw [b200_36]
    by_cases s2 : pk sg r.2 = 62
    · rw [ye 62 s2]
      simp only [s2, decide_true, tI_t, n10, if_false, true_or, if_true]
      refine two 62 s2 (by decide) _ (fun w => if v ≤ w then 0 else 1) (fun w => ?_) (fun w => rfl) (by decide) (by decide)
      rw [b200_45]
      split <;> rfl
    · rw [no 62 s2]
      simp only [s2, decide_false, tI_f, n00, if_true, false_or]
      rw [hh 61 (by decide)]
      simp only [aBi]
      rw [b200_60]
      by_cases s3 : pk sg r.2 = 61
      · rw [ye 61 s3]
        simp only [s3, decide_true, tI_t, n10, if_false, if_true]
        refine two 61 s3 (by decide) _ (fun w => if v = w then 1 else 0) (fun w => ?_) (fun w => rfl) (by decide) (by decide)
        rw [b200_69]
        split <;> rfl
      · rw [no 61 s3]
        simp only [s3, decide_false, tI_f, n00, if_true, if_false]
        exact ⟨v, rfl, e3⟩
theorem rAll_52 {len : Nat} (hl : I 46 15 = nI len) (ht : I 46 16 = nI 40) (h1 : len ≤ 80) (hB : byR (I 52)) : ∀ n, rQ g I J sl 53 rl 52 len n 0 200 4 ∧ rQ g I J sl 53 rl 52 len n 1 201 3 ∧ rL g I J sl 53 rl 52 len n 2 201 1 ∧ rQ g I J sl 53 rl 52 len n 3 202 2 ∧ rL g I J sl 53 rl 52 len n 4 202 1 ∧ rQ g I J sl 53 rl 52 len n 5 203 1 := by
  intro n
  induction n with
  | zero =>
    refine ⟨?_, ?_, ?_, ?_, ?_, ?_⟩ <;> intro d deep p
    · intro h1 h2; omega
    · intro h1 h2; omega
    · intro a v w3 w4 h1 h2; omega
    · intro h1 h2; omega
    · intro a v w3 w4 h1 h2; omega
    · intro h1 h2; omega
  | succ n ih =>
    obtain ⟨i0, i1, i2, i3, i4, i5⟩ := ih
    exact ⟨t0_52 hl ht h1 i1, t1_52 i3 i2, t2_52 hl ht h1 i3 i2, t3_52 i5 i4, t4_52 hl ht h1 i5 i4, t5_52 hl ht h1 hB i5 i0⟩
theorem t4_55 {len n : Nat} (hl : I 46 15 = nI len) (ht : I 46 16 = nI 40) (h1 : len ≤ 40) (i5 : rQ g I J sl 56 rl 55 len n 5 203 1) (i4 : rL g I J sl 56 rl 55 len n 4 202 1) : rL g I J sl 56 rl 55 len (n + 1) 4 202 1 := by
  intro d deep p a v w3 w4 hp hn hd hdp ha
  have hE := sgn_E (I 55) len 40
  rw [pc_4, b202_6, f185]
  simp only [aBi]
  rw [b202_10]
  generalize hsg : sgn (I 55) len 40 = sg at *
  by_cases s2 : p.2 = -1
  · have hpk : sg p.1 = pk sg p := by unfold pk; rw [if_pos s2]
    have hh := f188_55 (d := d) (g := g) (J := J) (sl := sl) (rl := rl) (I := I) (p := p) (len := len) (top := 40) hl ht h1 (by omega) (by omega)
    rw [hsg, hpk] at hh
    simp only [s2, decide_true, tI_t, n10, if_false, hh, aBi, b202_17, b202_35, b202_26, pM_17, nI_1, pM_u17]
    have go : ∀ s, pk sg p = s → ¬ s = -1 → ∀ (X : Option aO) (q : Int32 → Int32), (∀ w, aF d 203 [.ref 46, .int (nI deep)] (g, pM I (p.1 + 1, -1), J, aP1 sl 56 rl) = some (some (some (.int w)), (g, pM I (pc sg n 5 deep [] (adv p)).2, J, aP1 sl 56 rl)) → ∃ w3 w4, X = aE d 202 6 [.ref 46, .int (nI deep), .int (q w), w3, w4] [] (g, pM I (pc sg n 5 deep [] (adv p)).2, J, aP1 sl 56 rl)) → (∀ w, q w = jt s v w) → 2000 ≤ 2000 + s → ¬ 2000 + s = 2256 → rOK d g I J sl 56 rl X (pc sg n 4 deep (a ++ (pc sg n 5 deep [] (adv p)).1 ++ [2000 + s]) (pc sg n 5 deep [] (adv p)).2) := by
      intro s hs hs1 X q hX hq k1 k2
      have hlt := pkv hE hs hs1
      obtain ⟨w, e2, e3⟩ := i5 d deep (adv p) hlt (by show 6 * (41 - (p.1 + 1)) + 1 ≤ n; omega) (by show 41 ≤ d + (p.1 + 1); omega) hdp
      rw [hsg] at e2 e3
      have hat := pc_at hE n 5 deep [] (adv p) hlt
      have hat1 : p.1 + 1 ≤ (pc sg n 5 deep [] (adv p)).2.1 := hat.1
      obtain ⟨u3, u4, e4⟩ := hX w (by rw [show (p.1 + 1, (-1 : Int32)) = adv p from by unfold adv; rw [s2]]; exact e2)
      rw [e4]
      have e5 := i4 d deep (pc sg n 5 deep [] (adv p)).2 (a ++ (pc sg n 5 deep [] (adv p)).1 ++ [2000 + s]) (q w) u3 u4 hat.2 (by omega) (by omega) hdp (fun q1 q2 S => by
        rw [hq]
        exact evs _ S (ha s2 q2 S) (e3 q1 q2) k1 k2)
      rw [hsg] at e5
      exact e5
    by_cases s3 : pk sg p = 42
    · simp only [s3, if_true, true_or]
      refine go 42 s3 (by decide) _ (fun w => v * w) (fun w hw => ⟨_, _, by rw [hw]; simp only; rw [b202_61, if_neg (by decide)]⟩) (fun w => rfl) (by decide) (by decide)
    · by_cases s4 : pk sg p = 47
      · simp only [s4, if_true, or_true, show ((47 : Int32) = 42) = False from by decide, if_false]
        refine go 47 s4 (by decide) _ (fun w => if w = 0 then 0 else v / w) (fun w hw => ⟨.int 0, .int w, by rw [hw]; simp only; rw [b202_61, if_pos rfl]; by_cases hz : w = 0 <;> simp only [hz, if_true, if_false]⟩) (fun w => rfl) (by decide) (by decide)
      · simp only [s3, s4, if_false, or_self]
        exact ⟨v, rfl, fun q1 q2 S => ha q1 q2 S⟩
  · have hpk : pk sg p = -1 := by unfold pk; rw [if_neg s2]
    simp only [s2, decide_false, tI_f, n00, if_true, hpk, show ((-1 : Int32) = 42) = False from by decide, show ((-1 : Int32) = 47) = False from by decide, or_self, if_false]
    exact ⟨v, rfl, fun q => absurd q s2⟩
theorem t2_55 {len n : Nat} (hl : I 46 15 = nI len) (ht : I 46 16 = nI 40) (h1 : len ≤ 40) (i5 : rQ g I J sl 56 rl 55 len n 3 202 2) (i4 : rL g I J sl 56 rl 55 len n 2 201 1) : rL g I J sl 56 rl 55 len (n + 1) 2 201 1 := by
  intro d deep p a v w3 w4 hp hn hd hdp ha
  have hE := sgn_E (I 55) len 40
  rw [pc_2, b201_6, f185]
  simp only [aBi]
  rw [b201_10]
  generalize hsg : sgn (I 55) len 40 = sg at *
  by_cases s2 : p.2 = -1
  · have hpk : sg p.1 = pk sg p := by unfold pk; rw [if_pos s2]
    have hh := f188_55 (d := d) (g := g) (J := J) (sl := sl) (rl := rl) (I := I) (p := p) (len := len) (top := 40) hl ht h1 (by omega) (by omega)
    rw [hsg, hpk] at hh
    simp only [s2, decide_true, tI_t, n10, if_false, hh, aBi, b201_17, b201_35, b201_26, pM_17, nI_1, pM_u17]
    have go : ∀ s, pk sg p = s → ¬ s = -1 → ∀ (X : Option aO) (q : Int32 → Int32), (∀ w, aF d 202 [.ref 46, .int (nI deep)] (g, pM I (p.1 + 1, -1), J, aP1 sl 56 rl) = some (some (some (.int w)), (g, pM I (pc sg n 3 deep [] (adv p)).2, J, aP1 sl 56 rl)) → ∃ w3 w4, X = aE d 201 6 [.ref 46, .int (nI deep), .int (q w), w3, w4] [] (g, pM I (pc sg n 3 deep [] (adv p)).2, J, aP1 sl 56 rl)) → (∀ w, q w = jt s v w) → 2000 ≤ 2000 + s → ¬ 2000 + s = 2256 → rOK d g I J sl 56 rl X (pc sg n 2 deep (a ++ (pc sg n 3 deep [] (adv p)).1 ++ [2000 + s]) (pc sg n 3 deep [] (adv p)).2) := by
      intro s hs hs1 X q hX hq k1 k2
      have hlt := pkv hE hs hs1
      obtain ⟨w, e2, e3⟩ := i5 d deep (adv p) hlt (by show 6 * (41 - (p.1 + 1)) + 2 ≤ n; omega) (by show 41 ≤ d + (p.1 + 1); omega) hdp
      rw [hsg] at e2 e3
      have hat := pc_at hE n 3 deep [] (adv p) hlt
      have hat1 : p.1 + 1 ≤ (pc sg n 3 deep [] (adv p)).2.1 := hat.1
      obtain ⟨u3, u4, e4⟩ := hX w (by rw [show (p.1 + 1, (-1 : Int32)) = adv p from by unfold adv; rw [s2]]; exact e2)
      rw [e4]
      have e5 := i4 d deep (pc sg n 3 deep [] (adv p)).2 (a ++ (pc sg n 3 deep [] (adv p)).1 ++ [2000 + s]) (q w) u3 u4 hat.2 (by omega) (by omega) hdp (fun q1 q2 S => by
        rw [hq]
        exact evs _ S (ha s2 q2 S) (e3 q1 q2) k1 k2)
      rw [hsg] at e5
      exact e5
    by_cases s3 : pk sg p = 43
    · simp only [s3, if_true, true_or]
      refine go 43 s3 (by decide) _ (fun w => v + w) (fun w hw => ⟨_, _, by rw [hw]; simp only; rw [b201_61, if_neg (by decide)]⟩) (fun w => rfl) (by decide) (by decide)
    · by_cases s4 : pk sg p = 45
      · simp only [s4, if_true, or_true, show ((45 : Int32) = 43) = False from by decide, if_false]
        refine go 45 s4 (by decide) _ (fun w => v - w) (fun w hw => ⟨_, _, by rw [hw]; simp only; rw [b201_61, if_pos rfl]⟩) (fun w => rfl) (by decide) (by decide)
      · simp only [s3, s4, if_false, or_self]
        exact ⟨v, rfl, fun q1 q2 S => ha q1 q2 S⟩
  · have hpk : pk sg p = -1 := by unfold pk; rw [if_neg s2]
    simp only [s2, decide_false, tI_f, n00, if_true, hpk, show ((-1 : Int32) = 43) = False from by decide, show ((-1 : Int32) = 45) = False from by decide, or_self, if_false]
    exact ⟨v, rfl, fun q => absurd q s2⟩
theorem t3_55 {len n : Nat} (i5 : rQ g I J sl 56 rl 55 len n 5 203 1) (i4 : rL g I J sl 56 rl 55 len n 4 202 1) : rQ g I J sl 56 rl 55 len (n + 1) 3 202 2 := by
  intro d deep p hp hn hd hdp
  have hE := sgn_E (I 55) len 40
  rw [pc_3]
  show rOK d g I J sl 56 rl (aE d 202 0 [.ref 46, .int (nI deep), aNo, aNo, aNo] [] (g, pM I p, J, aP1 sl 56 rl)) _
  obtain ⟨w, e2, e3⟩ := i5 d deep p hp (by omega) hd hdp
  have hat := pc_at hE n 5 deep [] p hp
  rw [b202_0, e2]
  simp only [aBi]
  rw [b202_5]
  exact i4 d deep _ _ _ _ _ hat.2 (by omega) (by omega) hdp e3
theorem t1_55 {len n : Nat} (i5 : rQ g I J sl 56 rl 55 len n 3 202 2) (i4 : rL g I J sl 56 rl 55 len n 2 201 1) : rQ g I J sl 56 rl 55 len (n + 1) 1 201 3 := by
  intro d deep p hp hn hd hdp
  have hE := sgn_E (I 55) len 40
  rw [pc_1]
  show rOK d g I J sl 56 rl (aE d 201 0 [.ref 46, .int (nI deep), aNo, aNo, aNo] [] (g, pM I p, J, aP1 sl 56 rl)) _
  obtain ⟨w, e2, e3⟩ := i5 d deep p hp (by omega) hd hdp
  have hat := pc_at hE n 3 deep [] p hp
  rw [b201_0, e2]
  simp only [aBi]
  rw [b201_5]
  exact i4 d deep _ _ _ _ _ hat.2 (by omega) (by omega) hdp e3
theorem t0_55 {len n : Nat} (hl : I 46 15 = nI len) (ht : I 46 16 = nI 40) (h1 : len ≤ 40) (i1 : rQ g I J sl 56 rl 55 len n 1 201 3) : rQ g I J sl 56 rl 55 len (n + 1) 0 200 4 := by
  intro d deep p hp hn hd hdp
  have hE := sgn_E (I 55) len 40
  rw [pc_0]
  show rOK d g I J sl 56 rl (aE d 200 0 [.ref 46, .int (nI deep), aNo] [] (g, pM I p, J, aP1 sl 56 rl)) _
  obtain ⟨v, e2, e3⟩ := i1 d deep p hp (by omega) hd hdp
  have hat := pc_at hE n 1 deep [] p hp
  rw [b200_0, e2]
  simp only [aBi]
  rw [b200_5]
  generalize hsg : sgn (I 55) len 40 = sg at *
  generalize hr : pc sg n 1 deep [] p = r at *
  have hh (c : Int32) (hc : 0 ≤ c) := f191_55 (d := d) (g := g) (J := J) (sl := sl) (rl := rl) (I := I) (p := r.2) (len := len) (top := 40) hl ht h1 (by omega) (by omega) hc
  rw [hsg] at hh
  have two : ∀ s, pk sg r.2 = s → ¬ s = -1 → ∀ (F : Int32 → aS → Option aO) (q : Int32 → Int32), (∀ w, F w (g, pM I (pc sg n 1 deep [] (adv r.2)).2, J, aP1 sl 56 rl) = some (some (some (.int (q w))), (g, pM I (pc sg n 1 deep [] (adv r.2)).2, J, aP1 sl 56 rl))) → (∀ w, q w = jt s v w) → 2000 ≤ 2000 + s → ¬ 2000 + s = 2256 → rOK d g I J sl 56 rl (aBi (aF d 201 [.ref 46, .int (nI deep)] (g, pM I (adv r.2), J, aP1 sl 56 rl)) F) (r.1 ++ (pc sg n 1 deep [] (adv r.2)).1 ++ [2000 + s], (pc sg n 1 deep [] (adv r.2)).2) := by
    intro s hs hs1 F q hF hq k1 k2
    have hlt := pkv hE hs hs1
    obtain ⟨w, e4, e5⟩ := i1 d deep (adv r.2) hlt (by show 6 * (41 - (r.2.1 + 1)) + 3 ≤ n; omega) (by show 41 ≤ d + (r.2.1 + 1); omega) hdp
    rw [hsg] at e4 e5
    rw [e4]
    simp only [aBi]
    rw [hF]
    refine ⟨q w, rfl, fun q1 q2 S => ?_⟩
    rw [hq]
    exact evs _ S (e3 (pk_fine (by rw [hs]; exact hs1)) q2 S) (e5 q1 q2) k1 k2
  have no (c : Int32) (h : ¬ pk sg r.2 = c) : ps sg c r.2 = r.2 := by unfold ps; rw [if_neg h]
  have ye (c : Int32) (h : pk sg r.2 = c) : ps sg c r.2 = adv r.2 := by unfold ps; rw [if_pos h]
  rw [hh 60 (by decide)]
  simp only [aBi]
  rw [b200_12]
  by_cases s1 : pk sg r.2 = 60
  · rw [ye 60 s1]
    simp only [s1, decide_true, tI_t, n10, if_false, true_or, if_true]
    refine two 60 s1 (by decide) _ (fun w => if w ≤ v then 0 else 1) (fun w => ?_) (fun w => rfl) (by decide) (by decide)
    rw [b200_21]
    split <;> rfl
  · rw [no 60 s1]
    simp only [s1, decide_false, tI_f, n00, if_true, false_or]
    rw [hh 62 (by decide)]
    simp only [aBi]
    rw [b200_36]
    by_cases s2 : pk sg r.2 = 62
    · rw [ye 62 s2]
      simp only [s2, decide_true, tI_t, n10, if_false, true_or, if_true]
      refine two 62 s2 (by decide) _ (fun w => if v ≤ w then 0 else 1) (fun w => ?_) (fun w => rfl) (by decide) (by decide)
      rw [b200_45]
      split <;> rfl
    · rw [no 62 s2]
      simp only [s2, decide_false, tI_f, n00, if_true, false_or]
      rw [hh 61 (by decide)]
      simp only [aBi]
      rw [b200_60]
      by_cases s3 : pk sg r.2 = 61
      · rw [ye 61 s3]
        simp only [s3, decide_true, tI_t, n10, if_false, if_true]
        refine two 61 s3 (by decide) _ (fun w => if v = w then 1 else 0) (fun w => ?_) (fun w => rfl) (by decide) (by decide)
        rw [b200_69]
        split <;> rfl
      · rw [no 61 s3]
        simp only [s3, decide_false, tI_f, n00, if_true, if_false]
        exact ⟨v, rfl, e3⟩
theorem rAll_55 {len : Nat} (hl : I 46 15 = nI len) (ht : I 46 16 = nI 40) (h1 : len ≤ 40) (hB : byR (I 55)) : ∀ n, rQ g I J sl 56 rl 55 len n 0 200 4 ∧ rQ g I J sl 56 rl 55 len n 1 201 3 ∧ rL g I J sl 56 rl 55 len n 2 201 1 ∧ rQ g I J sl 56 rl 55 len n 3 202 2 ∧ rL g I J sl 56 rl 55 len n 4 202 1 ∧ rQ g I J sl 56 rl 55 len n 5 203 1 := by
  intro n
  induction n with
  | zero =>
    refine ⟨?_, ?_, ?_, ?_, ?_, ?_⟩ <;> intro d deep p
    · intro h1 h2; omega
    · intro h1 h2; omega
    · intro a v w3 w4 h1 h2; omega
    · intro h1 h2; omega
    · intro a v w3 w4 h1 h2; omega
    · intro h1 h2; omega
  | succ n ih =>
    obtain ⟨i0, i1, i2, i3, i4, i5⟩ := ih
    exact ⟨t0_55 hl ht h1 i1, t1_55 i3 i2, t2_55 hl ht h1 i3 i2, t3_55 i5 i4, t4_55 hl ht h1 i5 i4, t5_55 hl ht h1 hB i5 i0⟩
theorem t4_56 {len n : Nat} (hl : I 46 15 = nI len) (ht : I 46 16 = nI 40) (h1 : len ≤ 40) (i5 : rQ g I J sl 57 rl 56 len n 5 203 1) (i4 : rL g I J sl 57 rl 56 len n 4 202 1) : rL g I J sl 57 rl 56 len (n + 1) 4 202 1 := by
  intro d deep p a v w3 w4 hp hn hd hdp ha
  have hE := sgn_E (I 56) len 40
  rw [pc_4, b202_6, f185]
  simp only [aBi]
  rw [b202_10]
  generalize hsg : sgn (I 56) len 40 = sg at *
  by_cases s2 : p.2 = -1
  · have hpk : sg p.1 = pk sg p := by unfold pk; rw [if_pos s2]
    have hh := f188_56 (d := d) (g := g) (J := J) (sl := sl) (rl := rl) (I := I) (p := p) (len := len) (top := 40) hl ht h1 (by omega) (by omega)
    rw [hsg, hpk] at hh
    simp only [s2, decide_true, tI_t, n10, if_false, hh, aBi, b202_17, b202_35, b202_26, pM_17, nI_1, pM_u17]
    have go : ∀ s, pk sg p = s → ¬ s = -1 → ∀ (X : Option aO) (q : Int32 → Int32), (∀ w, aF d 203 [.ref 46, .int (nI deep)] (g, pM I (p.1 + 1, -1), J, aP1 sl 57 rl) = some (some (some (.int w)), (g, pM I (pc sg n 5 deep [] (adv p)).2, J, aP1 sl 57 rl)) → ∃ w3 w4, X = aE d 202 6 [.ref 46, .int (nI deep), .int (q w), w3, w4] [] (g, pM I (pc sg n 5 deep [] (adv p)).2, J, aP1 sl 57 rl)) → (∀ w, q w = jt s v w) → 2000 ≤ 2000 + s → ¬ 2000 + s = 2256 → rOK d g I J sl 57 rl X (pc sg n 4 deep (a ++ (pc sg n 5 deep [] (adv p)).1 ++ [2000 + s]) (pc sg n 5 deep [] (adv p)).2) := by
      intro s hs hs1 X q hX hq k1 k2
      have hlt := pkv hE hs hs1
      obtain ⟨w, e2, e3⟩ := i5 d deep (adv p) hlt (by show 6 * (41 - (p.1 + 1)) + 1 ≤ n; omega) (by show 41 ≤ d + (p.1 + 1); omega) hdp
      rw [hsg] at e2 e3
      have hat := pc_at hE n 5 deep [] (adv p) hlt
      have hat1 : p.1 + 1 ≤ (pc sg n 5 deep [] (adv p)).2.1 := hat.1
      obtain ⟨u3, u4, e4⟩ := hX w (by rw [show (p.1 + 1, (-1 : Int32)) = adv p from by unfold adv; rw [s2]]; exact e2)
      rw [e4]
      have e5 := i4 d deep (pc sg n 5 deep [] (adv p)).2 (a ++ (pc sg n 5 deep [] (adv p)).1 ++ [2000 + s]) (q w) u3 u4 hat.2 (by omega) (by omega) hdp (fun q1 q2 S => by
        rw [hq]
        exact evs _ S (ha s2 q2 S) (e3 q1 q2) k1 k2)
      rw [hsg] at e5
      exact e5
    by_cases s3 : pk sg p = 42
    · simp only [s3, if_true, true_or]
      refine go 42 s3 (by decide) _ (fun w => v * w) (fun w hw => ⟨_, _, by rw [hw]; simp only; rw [b202_61, if_neg (by decide)]⟩) (fun w => rfl) (by decide) (by decide)
    · by_cases s4 : pk sg p = 47
      · simp only [s4, if_true, or_true, show ((47 : Int32) = 42) = False from by decide, if_false]
        refine go 47 s4 (by decide) _ (fun w => if w = 0 then 0 else v / w) (fun w hw => ⟨.int 0, .int w, by rw [hw]; simp only; rw [b202_61, if_pos rfl]; by_cases hz : w = 0 <;> simp only [hz, if_true, if_false]⟩) (fun w => rfl) (by decide) (by decide)
      · simp only [s3, s4, if_false, or_self]
        exact ⟨v, rfl, fun q1 q2 S => ha q1 q2 S⟩
  · have hpk : pk sg p = -1 := by unfold pk; rw [if_neg s2]
    simp only [s2, decide_false, tI_f, n00, if_true, hpk, show ((-1 : Int32) = 42) = False from by decide, show ((-1 : Int32) = 47) = False from by decide, or_self, if_false]
    exact ⟨v, rfl, fun q => absurd q s2⟩
theorem t2_56 {len n : Nat} (hl : I 46 15 = nI len) (ht : I 46 16 = nI 40) (h1 : len ≤ 40) (i5 : rQ g I J sl 57 rl 56 len n 3 202 2) (i4 : rL g I J sl 57 rl 56 len n 2 201 1) : rL g I J sl 57 rl 56 len (n + 1) 2 201 1 := by
  intro d deep p a v w3 w4 hp hn hd hdp ha
  have hE := sgn_E (I 56) len 40
  rw [pc_2, b201_6, f185]
  simp only [aBi]
  rw [b201_10]
  generalize hsg : sgn (I 56) len 40 = sg at *
  by_cases s2 : p.2 = -1
  · have hpk : sg p.1 = pk sg p := by unfold pk; rw [if_pos s2]
    have hh := f188_56 (d := d) (g := g) (J := J) (sl := sl) (rl := rl) (I := I) (p := p) (len := len) (top := 40) hl ht h1 (by omega) (by omega)
    rw [hsg, hpk] at hh
    simp only [s2, decide_true, tI_t, n10, if_false, hh, aBi, b201_17, b201_35, b201_26, pM_17, nI_1, pM_u17]
    have go : ∀ s, pk sg p = s → ¬ s = -1 → ∀ (X : Option aO) (q : Int32 → Int32), (∀ w, aF d 202 [.ref 46, .int (nI deep)] (g, pM I (p.1 + 1, -1), J, aP1 sl 57 rl) = some (some (some (.int w)), (g, pM I (pc sg n 3 deep [] (adv p)).2, J, aP1 sl 57 rl)) → ∃ w3 w4, X = aE d 201 6 [.ref 46, .int (nI deep), .int (q w), w3, w4] [] (g, pM I (pc sg n 3 deep [] (adv p)).2, J, aP1 sl 57 rl)) → (∀ w, q w = jt s v w) → 2000 ≤ 2000 + s → ¬ 2000 + s = 2256 → rOK d g I J sl 57 rl X (pc sg n 2 deep (a ++ (pc sg n 3 deep [] (adv p)).1 ++ [2000 + s]) (pc sg n 3 deep [] (adv p)).2) := by
      intro s hs hs1 X q hX hq k1 k2
      have hlt := pkv hE hs hs1
      obtain ⟨w, e2, e3⟩ := i5 d deep (adv p) hlt (by show 6 * (41 - (p.1 + 1)) + 2 ≤ n; omega) (by show 41 ≤ d + (p.1 + 1); omega) hdp
      rw [hsg] at e2 e3
      have hat := pc_at hE n 3 deep [] (adv p) hlt
      have hat1 : p.1 + 1 ≤ (pc sg n 3 deep [] (adv p)).2.1 := hat.1
      obtain ⟨u3, u4, e4⟩ := hX w (by rw [show (p.1 + 1, (-1 : Int32)) = adv p from by unfold adv; rw [s2]]; exact e2)
      rw [e4]
      have e5 := i4 d deep (pc sg n 3 deep [] (adv p)).2 (a ++ (pc sg n 3 deep [] (adv p)).1 ++ [2000 + s]) (q w) u3 u4 hat.2 (by omega) (by omega) hdp (fun q1 q2 S => by
        rw [hq]
        exact evs _ S (ha s2 q2 S) (e3 q1 q2) k1 k2)
      rw [hsg] at e5
      exact e5
    by_cases s3 : pk sg p = 43
    · simp only [s3, if_true, true_or]
      refine go 43 s3 (by decide) _ (fun w => v + w) (fun w hw => ⟨_, _, by rw [hw]; simp only; rw [b201_61, if_neg (by decide)]⟩) (fun w => rfl) (by decide) (by decide)
    · by_cases s4 : pk sg p = 45
      · simp only [s4, if_true, or_true, show ((45 : Int32) = 43) = False from by decide, if_false]
        refine go 45 s4 (by decide) _ (fun w => v - w) (fun w hw => ⟨_, _, by rw [hw]; simp only; rw [b201_61, if_pos rfl]⟩) (fun w => rfl) (by decide) (by decide)
      · simp only [s3, s4, if_false, or_self]
        exact ⟨v, rfl, fun q1 q2 S => ha q1 q2 S⟩
  · have hpk : pk sg p = -1 := by unfold pk; rw [if_neg s2]
    simp only [s2, decide_false, tI_f, n00, if_true, hpk, show ((-1 : Int32) = 43) = False from by decide, show ((-1 : Int32) = 45) = False from by decide, or_self, if_false]
    exact ⟨v, rfl, fun q => absurd q s2⟩
theorem t3_56 {len n : Nat} (i5 : rQ g I J sl 57 rl 56 len n 5 203 1) (i4 : rL g I J sl 57 rl 56 len n 4 202 1) : rQ g I J sl 57 rl 56 len (n + 1) 3 202 2 := by
  intro d deep p hp hn hd hdp
  have hE := sgn_E (I 56) len 40
  rw [pc_3]
  show rOK d g I J sl 57 rl (aE d 202 0 [.ref 46, .int (nI deep), aNo, aNo, aNo] [] (g, pM I p, J, aP1 sl 57 rl)) _
  obtain ⟨w, e2, e3⟩ := i5 d deep p hp (by omega) hd hdp
  have hat := pc_at hE n 5 deep [] p hp
  rw [b202_0, e2]
  simp only [aBi]
  rw [b202_5]
  exact i4 d deep _ _ _ _ _ hat.2 (by omega) (by omega) hdp e3
theorem t1_56 {len n : Nat} (i5 : rQ g I J sl 57 rl 56 len n 3 202 2) (i4 : rL g I J sl 57 rl 56 len n 2 201 1) : rQ g I J sl 57 rl 56 len (n + 1) 1 201 3 := by
  intro d deep p hp hn hd hdp
  have hE := sgn_E (I 56) len 40
  rw [pc_1]
  show rOK d g I J sl 57 rl (aE d 201 0 [.ref 46, .int (nI deep), aNo, aNo, aNo] [] (g, pM I p, J, aP1 sl 57 rl)) _
  obtain ⟨w, e2, e3⟩ := i5 d deep p hp (by omega) hd hdp
  have hat := pc_at hE n 3 deep [] p hp
  rw [b201_0, e2]
  simp only [aBi]
  rw [b201_5]
  exact i4 d deep _ _ _ _ _ hat.2 (by omega) (by omega) hdp e3
theorem t0_56 {len n : Nat} (hl : I 46 15 = nI len) (ht : I 46 16 = nI 40) (h1 : len ≤ 40) (i1 : rQ g I J sl 57 rl 56 len n 1 201 3) : rQ g I J sl 57 rl 56 len (n + 1) 0 200 4 := by
  intro d deep p hp hn hd hdp
  have hE := sgn_E (I 56) len 40
  rw [pc_0]
  show rOK d g I J sl 57 rl (aE d 200 0 [.ref 46, .int (nI deep), aNo] [] (g, pM I p, J, aP1 sl 57 rl)) _
  obtain ⟨v, e2, e3⟩ := i1 d deep p hp (by omega) hd hdp
  have hat := pc_at hE n 1 deep [] p hp
  rw [b200_0, e2]
  simp only [aBi]
  rw [b200_5]
  generalize hsg : sgn (I 56) len 40 = sg at *
  generalize hr : pc sg n 1 deep [] p = r at *
  have hh (c : Int32) (hc : 0 ≤ c) := f191_56 (d := d) (g := g) (J := J) (sl := sl) (rl := rl) (I := I) (p := r.2) (len := len) (top := 40) hl ht h1 (by omega) (by omega) hc
  rw [hsg] at hh
  have two : ∀ s, pk sg r.2 = s → ¬ s = -1 → ∀ (F : Int32 → aS → Option aO) (q : Int32 → Int32), (∀ w, F w (g, pM I (pc sg n 1 deep [] (adv r.2)).2, J, aP1 sl 57 rl) = some (some (some (.int (q w))), (g, pM I (pc sg n 1 deep [] (adv r.2)).2, J, aP1 sl 57 rl))) → (∀ w, q w = jt s v w) → 2000 ≤ 2000 + s → ¬ 2000 + s = 2256 → rOK d g I J sl 57 rl (aBi (aF d 201 [.ref 46, .int (nI deep)] (g, pM I (adv r.2), J, aP1 sl 57 rl)) F) (r.1 ++ (pc sg n 1 deep [] (adv r.2)).1 ++ [2000 + s], (pc sg n 1 deep [] (adv r.2)).2) := by
    intro s hs hs1 F q hF hq k1 k2
    have hlt := pkv hE hs hs1
    obtain ⟨w, e4, e5⟩ := i1 d deep (adv r.2) hlt (by show 6 * (41 - (r.2.1 + 1)) + 3 ≤ n; omega) (by show 41 ≤ d + (r.2.1 + 1); omega) hdp
    rw [hsg] at e4 e5
    rw [e4]
    simp only [aBi]
    rw [hF]
    refine ⟨q w, rfl, fun q1 q2 S => ?_⟩
    rw [hq]
    exact evs _ S (e3 (pk_fine (by rw [hs]; exact hs1)) q2 S) (e5 q1 q2) k1 k2
  have no (c : Int32) (h : ¬ pk sg r.2 = c) : ps sg c r.2 = r.2 := by unfold ps; rw [if_neg h]
  have ye (c : Int32) (h : pk sg r.2 = c) : ps sg c r.2 = adv r.2 := by unfold ps; rw [if_pos h]
  rw [hh 60 (by decide)]
  simp only [aBi]
  rw [b200_12]
  by_cases s1 : pk sg r.2 = 60
  · rw [ye 60 s1]
    simp only [s1, decide_true, tI_t, n10, if_false, true_or, if_true]
    refine two 60 s1 (by decide) _ (fun w => if w ≤ v then 0 else 1) (fun w => ?_) (fun w => rfl) (by decide) (by decide)
    rw [b200_21]
    split <;> rfl
  · rw [no 60 s1]
    simp only [s1, decide_false, tI_f, n00, if_true, false_or]
    rw [hh 62 (by decide)]
    simp only [aBi]
    rw [b200_36]
    by_cases s2 : pk sg r.2 = 62
    · rw [ye 62 s2]
      simp only [s2, decide_true, tI_t, n10, if_false, true_or, if_true]
      refine two 62 s2 (by decide) _ (fun w => if v ≤ w then 0 else 1) (fun w => ?_) (fun w => rfl) (by decide) (by decide)
      rw [b200_45]
      split <;> rfl
    · rw [no 62 s2]
      simp only [s2, decide_false, tI_f, n00, if_true, false_or]
      rw [hh 61 (by decide)]
      simp only [aBi]
      rw [b200_60]
      by_cases s3 : pk sg r.2 = 61
      · rw [ye 61 s3]
        simp only [s3, decide_true, tI_t, n10, if_false, if_true]
        refine two 61 s3 (by decide) _ (fun w => if v = w then 1 else 0) (fun w => ?_) (fun w => rfl) (by decide) (by decide)
        rw [b200_69]
        split <;> rfl
      · rw [no 61 s3]
        simp only [s3, decide_false, tI_f, n00, if_true, if_false]
        exact ⟨v, rfl, e3⟩
theorem rAll_56 {len : Nat} (hl : I 46 15 = nI len) (ht : I 46 16 = nI 40) (h1 : len ≤ 40) (hB : byR (I 56)) : ∀ n, rQ g I J sl 57 rl 56 len n 0 200 4 ∧ rQ g I J sl 57 rl 56 len n 1 201 3 ∧ rL g I J sl 57 rl 56 len n 2 201 1 ∧ rQ g I J sl 57 rl 56 len n 3 202 2 ∧ rL g I J sl 57 rl 56 len n 4 202 1 ∧ rQ g I J sl 57 rl 56 len n 5 203 1 := by
  intro n
  induction n with
  | zero =>
    refine ⟨?_, ?_, ?_, ?_, ?_, ?_⟩ <;> intro d deep p
    · intro h1 h2; omega
    · intro h1 h2; omega
    · intro a v w3 w4 h1 h2; omega
    · intro h1 h2; omega
    · intro a v w3 w4 h1 h2; omega
    · intro h1 h2; omega
  | succ n ih =>
    obtain ⟨i0, i1, i2, i3, i4, i5⟩ := ih
    exact ⟨t0_56 hl ht h1 i1, t1_56 i3 i2, t2_56 hl ht h1 i3 i2, t3_56 i5 i4, t4_56 hl ht h1 i5 i4, t5_56 hl ht h1 hB i5 i0⟩
