/-! THE START: what the law finds, as the invariant wants it -/
theorem st_arr {args : Array Value} {s : State} {ty : FieldType} (h : (Cond.arrayClass ty).before args s = true) (hty : ∀ C, ty ≠ .object C) : ∃ cA : ClassId, ArrOfT s cA ty ∧ va_RA s cA ty := by
  obtain ⟨c, k, comp, h1, h2, h3⟩ := Cond.arrayClass_spec h
  refine ⟨c, fun n z => ⟨fun k h => (by cases h), k, h2, comp, h3⟩, ?_⟩
  cases ty with
  | object C => exact absurd rfl (hty C)
  | _ => exact h1
def stM (w : Cond) : Bool := lw_tbl.any (fun v => decide (v = w))
theorem stM_in {w : Cond} (h : stM w = true) : w ∈ lw_tbl := by
  obtain ⟨v, h1, h2⟩ := List.any_eq_true.mp h
  rw [← of_decide_eq_true h2]
  exact h1
set_option maxRecDepth 100000 in
theorem st_ins : vwCl.all (fun q => stM (.instantiable q.1 q.2.2)) = true := by decide +kernel
theorem st_cls {args : Array Value} {s : State} (hts : ∀ w ∈ lw_tbl, w.before args s = true) : ∃ D : va_G, ∀ (c : Nat) (q : vw_C), vwCl[c]? = some q → u_Kn s q.1 q.2.1 q.2.2 (D.1 c) (D.2 c) := by
  have h : ∀ c : Nat, ∃ d : ClassId × (Nat → Nat), ∀ q : vw_C, vwCl[c]? = some q → u_Kn s q.1 q.2.1 q.2.2 d.1 d.2 := by
    intro c
    cases hq : vwCl[c]? with
    | none => exact ⟨((0 : Nat), fun _ => 0), fun q h => by cases h⟩
    | some q =>
      obtain ⟨C, T, N⟩ := q
      obtain ⟨cC, iS, hK⟩ := u_known (C := C) (T := T) (N := N) (n := N) hts (aCl hq).1 (hts (.instantiable C N) (stM_in (List.all_eq_true.mp st_ins _ (List.mem_of_getElem? hq))))
      exact ⟨(cC, iS), fun q h => by cases h; exact hK⟩
  obtain ⟨d, hd⟩ := Classical.axiomOfChoice h
  exact ⟨(fun c => (d c).1, fun c => (d c).2), fun c q hq => hd c q hq⟩
set_option maxRecDepth 100000 in
theorem st_w : [Cond.arrayClass .byte, .arrayClass .char, .arrayClass .int, .arrayClass .long, .arrayClass .boolean, .laysStatic "java/lang/String" "COMPACT_STRINGS" "Z", .initialized "java/lang/String", .laysStatic "jdk/internal/util/Preconditions" "SIOOBE_FORMATTER" "Ljava/util/function/BiFunction;", .initialized "jdk/internal/util/Preconditions", .laysStatic Bundle.tN "UNASSIGNED_STACK" Bundle.steD, .laysStatic Bundle.tN "SUPPRESSED_SENTINEL" Bundle.listD, .initialized Bundle.tN, .stringRef "BluesAndGreens$Rule" 15 "sciwnoma", .stringRef "BluesAndGreens" 429 "s*10-c*15+(n+i)/3", .stringRef "BluesAndGreens$RuleReader" 65 "sciwnoma"].all stM = true := by decide +kernel
theorem st_in {w : Cond} (h : w ∈ [Cond.arrayClass .byte, .arrayClass .char, .arrayClass .int, .arrayClass .long, .arrayClass .boolean, .laysStatic "java/lang/String" "COMPACT_STRINGS" "Z", .initialized "java/lang/String", .laysStatic "jdk/internal/util/Preconditions" "SIOOBE_FORMATTER" "Ljava/util/function/BiFunction;", .initialized "jdk/internal/util/Preconditions", .laysStatic Bundle.tN "UNASSIGNED_STACK" Bundle.steD, .laysStatic Bundle.tN "SUPPRESSED_SENTINEL" Bundle.listD, .initialized Bundle.tN, .stringRef "BluesAndGreens$Rule" 15 "sciwnoma", .stringRef "BluesAndGreens" 429 "s*10-c*15+(n+i)/3", .stringRef "BluesAndGreens$RuleReader" 65 "sciwnoma"]) : w ∈ lw_tbl := stM_in (List.all_eq_true.mp st_w w h)
set_option maxRecDepth 100000 in
theorem st_bn : aBn.all stM = true := by decide +kernel
set_option maxRecDepth 100000 in
theorem st_nl : aNLk.all (fun q => stM (.methodLinkNest (aOw q.1) q.2.1 (aNm q.2.2.1).1 "BluesAndGreens")) = true := by decide +kernel
def stF : List Cond := flatC (Jvm.Cond.and given_1 narrow_1)
def stG (w : Cond) : Bool := stF.any (fun v => decide (v = w))
theorem stG_in {w : Cond} (h : stG w = true) : w ∈ flatC (Jvm.Cond.and given_1 narrow_1) := by
  obtain ⟨v, h1, h2⟩ := List.any_eq_true.mp h
  rw [← of_decide_eq_true h2]
  exact h1
def stS (tm : Term) (bs : List Int32) : List Cond := [.exactly tm "java/lang/String", .eq (.field tm "java/lang/String" "coder" "B") (.int 0), .arrayOf (.field tm "java/lang/String" "value" "[B") .byte, .eq (.length (.field tm "java/lang/String" "value" "[B")) (.int (Int32.ofNat bs.length))]
def stE (tm : Term) (bs : List Int32) (j : Nat) : Cond := .eq (.elem (.field tm "java/lang/String" "value" "[B") (.int (Int32.ofNat j))) (.int (bs.getD j 0))
def stA (tm : Term) (bs : List Int32) : Bool := (stS tm bs).all stG && (List.range bs.length).all (fun j => stG (stE tm bs j))
abbrev tmS : Term := .string "BluesAndGreens" 429
abbrev tmT : Term := .string "BluesAndGreens$Rule" 15
set_option maxRecDepth 100000 in
theorem stA_S : stA tmS aStd = true := by decide +kernel
set_option maxRecDepth 100000 in
theorem stA_T : stA tmT aThg = true := by decide +kernel
theorem st_str {args : Array Value} {s : State} {A : Nat → Prop} {tm : Term} {bs : List Int32} (hgv : (Jvm.Cond.and given_1 narrow_1).before args s = true) (h : stA tm bs = true) (hb : bs.length < 2 ^ 31) (hA : ∀ a : Nat, a < s.heap.size → ¬ A a) :
    ∃ k v : Nat, (va_O "java/lang/String" k A s s.heap ∧ va_OF "java/lang/String" "coder" "B" (.int 0) k A s s.heap ∧ va_OF "java/lang/String" "value" "[B" (.ref v) k A s s.heap ∧ va_T .byte v bs.length (fun j => .int (bs.getD j 0)) A s s.heap) ∧ tm.eval args s none [] s = some (.ref k) := by
  have hs := flat_of_before _ hgv
  unfold stA at h
  obtain ⟨h1, h2⟩ := (Bool.and_eq_true _ _).mp h
  have h1 : ∀ w ∈ stS tm bs, w.before args s = true := fun w hw => hs w (stG_in (List.all_eq_true.mp h1 w hw))
  have h2 : ∀ j, j < bs.length → (stE tm bs j).before args s = true := fun j hj => hs _ (stG_in (List.all_eq_true.mp h2 j (List.mem_range.mpr hj)))
  obtain ⟨aK, aV, ⟨hS, -⟩, he⟩ := vk_Sof (N := 1) (tm := fun _ => tm) (len := [bs.length]) (byt := [bs]) (A := A) (args := args) (s := s)
    (fun i hi => by obtain rfl : i = 0 := by omega
                    exact hb)
    (fun i hi => h1 _ (by simp [stS])) (fun i hi => h1 _ (by simp [stS])) (fun i hi => h1 _ (by simp [stS]))
    (fun i hi => by obtain rfl : i = 0 := by omega
                    exact h1 _ (by simp [stS]))
    (fun i hi j hj => by obtain rfl : i = 0 := by omega
                         exact h2 j hj)
    (fun i j hi hj hij => absurd (show i = j by omega) hij) hA
  exact ⟨aK 0, aV 0, hS 0 (by decide), he 0 (by decide)⟩
set_option maxRecDepth 100000 in
theorem stG_w : [Cond.eq (.static "java/lang/String" "COMPACT_STRINGS" "Z") (.int 1), .isRef (.static "jdk/internal/util/Preconditions" "SIOOBE_FORMATTER" "Ljava/util/function/BiFunction;"), .isRef (.static Bundle.tN "UNASSIGNED_STACK" Bundle.steD), .isRef (.static Bundle.tN "SUPPRESSED_SENTINEL" Bundle.listD), .eq (.string "BluesAndGreens$Rule" 15) (.string "BluesAndGreens$RuleReader" 65)].all stG = true := by decide +kernel
theorem aOw_5 : aOw 5 = "BluesAndGreens$Rule" ∧ aOw 6 = "BluesAndGreens$RuleReader" ∧ aOw 10 = "BluesAndGreens" := by decide +kernel
/-- the start, whole -/
theorem st_all {s : State} {b L : Nat} {xs : Nat → Int32} (hts : ∀ w ∈ lw_tbl, w.before #[Value.ref b] s = true) (hX : va_X b L xs s s.heap) (hbl : b < s.heap.size) (hgv : (Jvm.Cond.and given_1 narrow_1).before #[Value.ref b] s = true) :
    ∃ G : aEnv, G.2.2.1 = s.heap.size ∧ G.2.2.2.1 0 = b ∧ G.2.2.2.2.2 = (L, xs, []) ∧ aBs G s s.heap ∧ aBx G s s.heap := by
  have hs := flat_of_before _ hgv
  have hgw : ∀ w ∈ [Cond.eq (.static "java/lang/String" "COMPACT_STRINGS" "Z") (.int 1), .isRef (.static "jdk/internal/util/Preconditions" "SIOOBE_FORMATTER" "Ljava/util/function/BiFunction;"), .isRef (.static Bundle.tN "UNASSIGNED_STACK" Bundle.steD), .isRef (.static Bundle.tN "SUPPRESSED_SENTINEL" Bundle.listD), .eq (.string "BluesAndGreens$Rule" 15) (.string "BluesAndGreens$RuleReader" 65)], w.before #[Value.ref b] s = true := fun w hw => hs w (stG_in (List.all_eq_true.mp stG_w w hw))
  obtain ⟨D, hD⟩ := st_cls hts
  obtain ⟨cB, hB1, hB2⟩ := st_arr (hts (.arrayClass .byte) (st_in (by simp))) (fun C h => by cases h)
  obtain ⟨cC, hC1, hC2⟩ := st_arr (hts (.arrayClass .char) (st_in (by simp))) (fun C h => by cases h)
  obtain ⟨cI, hI1, hI2⟩ := st_arr (hts (.arrayClass .int) (st_in (by simp))) (fun C h => by cases h)
  obtain ⟨cJ, hJ1, hJ2⟩ := st_arr (hts (.arrayClass .long) (st_in (by simp))) (fun C h => by cases h)
  obtain ⟨cZ, hZ1, hZ2⟩ := st_arr (hts (.arrayClass .boolean) (st_in (by simp))) (fun C h => by cases h)
  have hA : ∀ a : Nat, a < s.heap.size → ¬ (fun q : Nat => s.heap.size ≤ q) a := fun a h => Nat.not_le.mpr h
  obtain ⟨k1, v1, ⟨o1, o2, o3, o4⟩, e1⟩ := st_str (A := fun q : Nat => s.heap.size ≤ q) hgv stA_S (by decide) hA
  obtain ⟨k2, v2, ⟨p1, p2, p3, p4⟩, e2⟩ := st_str (A := fun q : Nat => s.heap.size ≤ q) hgv stA_T (by decide) hA
  have e3 := va_eqR (hgw (.eq (.string "BluesAndGreens$Rule" 15) (.string "BluesAndGreens$RuleReader" 65)) (by simp)) e2
  have z1 : va_Z "java/lang/String" "COMPACT_STRINGS" "Z" (.int 1) (fun q : Nat => s.heap.size ≤ q) s s.heap := va_Zof (hts _ (st_in (by simp))) (hts (.initialized "java/lang/String") (st_in (by simp))) (va_eqt (hgw (.eq (.static "java/lang/String" "COMPACT_STRINGS" "Z") (.int 1)) (by simp))) hA
  obtain ⟨fm, z2⟩ : ∃ fm : Option Nat, va_Z "jdk/internal/util/Preconditions" "SIOOBE_FORMATTER" "Ljava/util/function/BiFunction;" (va_rf fm) (fun q : Nat => s.heap.size ≤ q) s s.heap := by
    rcases va_Zqof (A := fun q : Nat => s.heap.size ≤ q) (hts (.laysStatic "jdk/internal/util/Preconditions" "SIOOBE_FORMATTER" "Ljava/util/function/BiFunction;") (st_in (by simp))) (hts (.initialized "jdk/internal/util/Preconditions") (st_in (by simp))) (hgw (.isRef (.static "jdk/internal/util/Preconditions" "SIOOBE_FORMATTER" "Ljava/util/function/BiFunction;")) (by simp)) hA with h | ⟨t, h⟩
    · exact ⟨none, h⟩
    · exact ⟨some t, h⟩
  have x1 : vx_Zq Bundle.tN "UNASSIGNED_STACK" Bundle.steD (fun q : Nat => s.heap.size ≤ q) s s.heap := vx_Zqof (hts _ (st_in (by simp))) (hts (.initialized Bundle.tN) (st_in (by simp))) (hgw (.isRef (.static Bundle.tN "UNASSIGNED_STACK" Bundle.steD)) (by simp)) hA
  have x2 : vx_Zq Bundle.tN "SUPPRESSED_SENTINEL" Bundle.listD (fun q : Nat => s.heap.size ≤ q) s s.heap := vx_Zqof (hts _ (st_in (by simp))) (hts (.initialized Bundle.tN) (st_in (by simp))) (hgw (.isRef (.static Bundle.tN "SUPPRESSED_SENTINEL" Bundle.listD)) (by simp)) hA
  refine ⟨(D, fun k => if k = 12 then cB else if k = 13 then cC else if k = 14 then cI else if k = 15 then cJ else cZ, s.heap.size, fun k => if k = 0 then b else if k = 1 then k1 else if k = 2 then k2 else if k = 3 then v1 else v2, fm, L, xs, []), rfl, rfl, rfl, ⟨⟨hD, ?_⟩, ⟨hX, Nat.not_le.mpr hbl⟩, ⟨o1, o3, o2, o4⟩, ⟨p1, p3, p2, p4⟩, z1, z2, ?_, ?_, trivial⟩, ⟨x1, x2, ?_⟩⟩
  · intro k q hq
    match k, hq with
    | 0, hq => cases hq; exact ⟨hB1, hB2⟩
    | 1, hq => cases hq; exact ⟨hC1, hC2⟩
    | 2, hq => cases hq; exact ⟨hI1, hI2⟩
    | 3, hq => cases hq; exact ⟨hJ1, hJ2⟩
    | 4, hq => cases hq; exact ⟨hZ1, hZ2⟩
    | k + 5, hq => simp at hq
  · intro q hq
    obtain ⟨a5, a6, a10⟩ := aOw_5
    unfold aKS at hq
    simp only [List.mem_cons, List.not_mem_nil, or_false] at hq
    rcases hq with rfl | rfl | rfl
    · rw [a5]
      exact ⟨"sciwnoma", vk_R.of (A := #[Value.ref b]) (hts _ (st_in (by simp))) e2⟩
    · rw [a6]
      exact ⟨"sciwnoma", vk_R.of (A := #[Value.ref b]) (hts _ (st_in (by simp))) e3⟩
    · rw [a10]
      exact ⟨"s*10-c*15+(n+i)/3", vk_R.of (A := #[Value.ref b]) (hts _ (st_in (by simp))) e1⟩
  · intro q hq
    exact va_Nw.of rfl (hts _ (stM_in (List.all_eq_true.mp st_nl q hq)))
  · intro w hw
    exact va_Nw.of (List.all_eq_true.mp aBn_ot w hw) (hts _ (stM_in (List.all_eq_true.mp st_bn w hw)))
/-- AM's first state stands for it -/
theorem st_inv {G : aEnv} {H : Heap} {L : Nat} {xs : Nat → Int32} (h : G.2.2.2.2.2 = (L, xs, [])) : aInv G [] (sX xs L) H := by
  have h1 : G.2.2.2.2.2.1 = L := by rw [h]
  have h2 : G.2.2.2.2.2.2.1 = xs := by rw [h]
  have h3 : G.2.2.2.2.2.2.2 = [] := by rw [h]
  refine ⟨rfl, fun k q hq => by simp [aWs] at hq, ⟨fun i j p q hq => by simp [aWs] at hq, fun k q hq => by simp [aWs] at hq⟩, ?_, ?_, Nat.le_refl _, ?_, ?_, ?_, ?_, ?_⟩
  · intro i j hi
    show (if i = 0 then (if j = 0 then L else 0) else 0) ≤ 6
    rw [if_neg (by omega)]
    omega
  · intro i j hi
    have hi : 6 ≤ i := hi
    refine ⟨?_, rfl, ?_⟩
    · show (if i = 0 then xs j else I0c i j) = 0
      rw [if_neg (by omega)]
      unfold I0c
      rw [if_neg (by omega), if_neg (by omega)]
    · show (if i = 0 then (if j = 0 then L else 0) else 0) = 0
      rw [if_neg (by omega)]
  · exact h1.symm
  · intro j
    rw [h2]
    rfl
  · intro j
    rfl
  · intro j
    rfl
  · rw [h3]
    exact ⟨[], rfl⟩
