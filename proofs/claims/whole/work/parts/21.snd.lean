/-! THE MACHINE DOES WHAT AM SAYS -/
def aVs (n : Nat) (st : List Value) : Prop := ∀ v ∈ st, aVk n v
theorem aVs.t {n : Nat} {v : Value} {st : List Value} (h : aVs n (v :: st)) : aVs n st := fun w hw => h w (List.mem_cons_of_mem _ hw)
theorem aVs.h {n : Nat} {v : Value} {st : List Value} (h : aVs n (v :: st)) : aVk n v := h v List.mem_cons_self
theorem aVs.c {n : Nat} {v : Value} {st : List Value} (hv : aVk n v) (h : aVs n st) : aVs n (v :: st) := fun w hw => (List.mem_cons.mp hw).elim (fun e => e ▸ hv) (h w)
/-- what a throw needs of the start -/
def aBt (G : aEnv) (U : State) (H : Heap) : Prop := True
theorem aBt.go {G : aEnv} {s U : State} {H H' : Heap} (_ : s.WarmedH U.vm) (_ : ∀ q : Nat, q < H.size → ¬ aA G q → H'[q]? = H[q]?) (_ : aBt G s H) : aBt G U H' := trivial
def aStrings (G : aEnv) (i : Nat) (n : Nat) (bs : List Int32) (U : State) (H : Heap) : Prop :=
  va_O "java/lang/String" (G.2.2.2.1 i) (aA G) U H ∧ va_OF "java/lang/String" "value" "[B" (.ref (G.2.2.2.1 (i + 2))) (G.2.2.2.1 i) (aA G) U H ∧ va_OF "java/lang/String" "coder" "B" (.int 0) (G.2.2.2.1 i) (aA G) U H ∧ va_T .byte (G.2.2.2.1 (i + 2)) n (fun j => .int (bs.getD j 0)) (aA G) U H
/-- what every state of the run keeps of the start -/
def aBs (G : aEnv) (U : State) (H : Heap) : Prop :=
  va_K G.1 vwCl (aTys G) U ∧ (va_X (G.2.2.2.1 0) G.2.2.2.2.2.1 G.2.2.2.2.2.2.1 U H ∧ ¬ aA G (G.2.2.2.1 0)) ∧ aStrings G 1 17 aStd U H ∧ aStrings G 2 8 aThg U H ∧
  va_Z "java/lang/String" "COMPACT_STRINGS" "Z" (.int 1) (aA G) U H ∧ va_Z "jdk/internal/util/Preconditions" "SIOOBE_FORMATTER" "Ljava/util/function/BiFunction;" (va_rf G.2.2.2.2.1) (aA G) U H ∧
  (∀ q ∈ aKS, ∃ tx, vk_R (aOw q.1) q.2.1 tx (G.2.2.2.1 q.2.2) U) ∧ (∀ q ∈ aNLk, va_Nw (.methodLinkNest (aOw q.1) q.2.1 (aNm q.2.2.1).1 "BluesAndGreens") U) ∧ aBt G U H
theorem aStrings.go {G : aEnv} {i n : Nat} {bs : List Int32} {s U : State} {H H' : Heap} (hW : s.vm.Alike U.vm) (hk : ∀ q : Nat, q < H.size → ¬ aA G q → H'[q]? = H[q]?) (h : aStrings G i n bs s H) : aStrings G i n bs U H' := by
  obtain ⟨h1, h2, h3, h4⟩ := h
  exact ⟨(h1.moved hW).kept hk, (h2.moved hW).kept hk, (h3.moved hW).kept hk, (h4.moved hW).kept hk⟩
theorem aBs.go {G : aEnv} {s U : State} {H H' : Heap} (hW : s.WarmedH U.vm) (hk : ∀ q : Nat, q < H.size → ¬ aA G q → H'[q]? = H[q]?) (h : aBs G s H) : aBs G U H' := by
  obtain ⟨h1, ⟨h2, h2'⟩, h3, h4, h5, h6, h7, h8, h9⟩ := h
  have hb : G.2.2.2.1 0 < H.size := by
    obtain ⟨scr, q, -⟩ := h2
    exact (Array.getElem?_eq_some_iff.mp q).1
  refine ⟨va_K.moved hW.alike h1, ⟨(h2.moved hW.alike).kept (hk _ hb h2'), h2'⟩, h3.go hW.alike hk, h4.go hW.alike hk, (h5.moved hW.alike).kept hk, (h6.moved hW.alike).kept hk, fun q hq => ?_, fun q hq => va_Nw.warmM hW (h8 q hq), h9.go hW hk⟩
  obtain ⟨tx, z⟩ := h7 q hq
  exact ⟨tx, vk_R.warm hW z⟩
abbrev aRm (d k mc ms : Nat) : Room := { frames := (aMt k).2.2.2.2 + 16 * d + 8, cells := mc, slots := ms, locals := 41 * ((aMt k).2.2.2.2 + 16 * d + 8) }
/-- a callee's start and end -/
abbrev aPre (G : aEnv) (ad : List Nat) (σ : aS) : State → Prop := fun U => aInv G ad σ U.heap ∧ aBs G U U.heap ∧ G.2.2.1 ≤ U.heap.size
def aPost (G : aEnv) (ad : List Nat) (v : Option Value) (τ : aS) : Array Value → State → Outcome → State → Prop := fun _ st oc t => ∃ x : List Nat, oc = .returned (v.map (aUp G (ad ++ x))) ∧ aInv G (ad ++ x) τ t.heap ∧ va_F (aA G) st t
/-- a callee of AM that returned, at the machine -/
def aMet (l : Launch) (G : aEnv) (d k : Nat) (as : List Value) (σ : aS) (v : Option Value) (τ : aS) : Prop :=
  (σ.1.2.1 ≤ τ.1.2.1 ∧ σ.1.2.2 ≤ τ.1.2.2) ∧ (∀ w, v = some w → aVk τ.1.1 w) ∧ ∀ ad : List Nat, ad.length + 6 = σ.1.1 → aVs σ.1.1 as → Met l (aNm k).1 (aCd k :: aTb) (aRm d k (τ.1.2.1 - σ.1.2.1) (τ.1.2.2 - σ.1.2.2)) (va_Pc (as.map (aUp G ad)) (aPre G ad σ)) (aPost G ad v τ) (τ.1.2.1 - σ.1.2.1) (τ.1.2.2 - σ.1.2.2) (aA G)
/-- from here on the machine comes to its end -/
def aGo (p : Program) (l : Launch) (e : Env) (R : Room) (s : State) (m : MethodId) (args : Array Value) (below : List Frame) (meth : Method) (c : Code) (Q : State → Prop) (G : aEnv) (k : Nat) (g0 : Nat × Nat) (pc : Nat) (L st : List Value) (σ : aS) : Prop :=
  ∀ (ad : List Nat) (H : Heap) (locs : List Loc) (ls : Array Slot), aInv G ad σ H → va_S (aA G) s.heap H locs → aLr G ad σ.1.1 ls L → aVs σ.1.1 st → g0.1 ≤ σ.1.2.1 → g0.2 ≤ σ.1.2.2 → L.length = (aMt k).2.2.1 →
    W p l e R s m args below meth c H locs (σ.1.2.1 - g0.1) (σ.1.2.2 - g0.2) Q (F0 m pc ls (st.map (aUp G ad)))
def aKok (p : Program) (l : Launch) (e : Env) (R : Room) (s : State) (m : MethodId) (args : Array Value) (below : List Frame) (meth : Method) (c : Code) (Q : State → Prop) (G : aEnv) (k : Nat) (g0 : Nat × Nat) (K : Nat → List Value → List Value → aS → Option aO) (o : aO) : Prop :=
  ∀ pc' L' st' σ', K pc' L' st' σ' = some o → aGo p l e R s m args below meth c Q G k g0 pc' L' st' σ' ∧ σ'.1.2.1 ≤ o.2.1.2.1 ∧ σ'.1.2.2 ≤ o.2.1.2.2
/-- the frame that runs: its code, its words, what is kept of the start, its room -/
def aFx (p : Program) (R : Room) (s : State) (m : MethodId) (args : Array Value) (meth : Method) (c : Code) (G : aEnv) (d k : Nat) (g0 : Nat × Nat) (o : aO) : Prop :=
  p.tables.exec = Jvm.exec ∧ c.code = (aNm k).2.1 ∧ c.maxLocals = (aMt k).2.2.1 ∧ s.vm.findClass (aOw (aOn k)) = some m.cls ∧ (∀ w ∈ aTb, w.before args s = true) ∧ aBs G s s.heap ∧ G.2.2.1 ≤ s.heap.size ∧ meth.name = (aNm k).1.name ∧
  (aMt k).2.2.2.2 + 16 * d + 8 ≤ R.frames ∧ 41 * ((aMt k).2.2.2.2 + 16 * d + 8) ≤ R.locals ∧ o.2.1.2.1 ≤ g0.1 + R.cells ∧ o.2.1.2.2 ≤ g0.2 + R.slots
section Snd0
variable {G : aEnv} {ad : List Nat}
theorem aUp_at (k : Nat) : aUp G ad (.ref k) = if k = 5 then va_rf G.2.2.2.2.1 else .ref (aAdr G ad k) := rfl
theorem aUp_appr (x : List Nat) (k : Nat) (hk : k < ad.length + 6) : aUp G (ad ++ x) (.ref k) = aUp G ad (.ref k) := by
  rw [aUp_at, aUp_at]
  unfold aAdr
  by_cases h5 : k = 5
  · simp [h5]
  · by_cases h6 : k < 6
    · simp [h5, h6]
    · have : k - 6 < ad.length := by omega
      simp [h5, h6, List.getD_eq_getElem?_getD, List.getElem?_append_left this]
theorem aUp_app {v : Value} (x : List Nat) (h : aVk (ad.length + 6) v) : aUp G (ad ++ x) v = aUp G ad v := by
  cases v with
  | ref k => exact aUp_appr x k h
  | _ => rfl
theorem aUp_lo {k : Nat} (h : k < 5) : aUp G ad (.ref k) = .ref (G.2.2.2.1 k) := by
  rw [aUp_at, if_neg (by omega)]
  unfold aAdr
  rw [if_pos (by omega)]
theorem aUp_hi {k : Nat} (h : 6 ≤ k) : aUp G ad (.ref k) = .ref (aAdr G ad k) := by
  rw [aUp_at, if_neg (by omega)]
theorem aUp_map {n : Nat} {st : List Value} (x : List Nat) (hn : ad.length + 6 = n) (h : aVs n st) : st.map (aUp G (ad ++ x)) = st.map (aUp G ad) := by
  refine List.map_congr_left fun v hv => aUp_app x ?_
  rw [hn]
  exact h v hv
theorem aVk_le {n n' : Nat} {v : Value} (h : n ≤ n') (hv : aVk n v) : aVk n' v := by
  cases v with
  | ref k => exact Nat.lt_of_lt_of_le hv h
  | _ => exact hv
theorem aLr_app {n n' : Nat} {ls : Array Slot} {L : List Value} (x : List Nat) (hn : ad.length + 6 = n) (hle : n ≤ n') (h : aLr G ad n ls L) : aLr G (ad ++ x) n' ls L := by
  obtain ⟨h1, h2, h3, h4⟩ := h
  refine ⟨h1, h2, fun i v hi hv => ?_, fun v hv => aVk_le hle (h4 v hv)⟩
  rw [aUp_app x (by rw [hn]; exact h4 v (List.mem_of_getElem? hi))]
  exact h3 i v hi hv
/-- the listed locals, as the kit's rows want them -/
def aLl (G : aEnv) (ad : List Nat) (L : List Value) : List (Nat × Value) := (List.range L.length).filterMap (fun i => match L[i]? with
  | some v => if v = aNo then none else some (i, aUp G ad v)
  | none => none)
theorem aLl_mem {L : List Value} {q : Nat × Value} : q ∈ aLl G ad L ↔ ∃ v, L[q.1]? = some v ∧ v ≠ aNo ∧ q.2 = aUp G ad v := by
  unfold aLl
  rw [List.mem_filterMap]
  constructor
  · rintro ⟨i, -, hi⟩
    split at hi
    · rename_i v hv
      split at hi
      · cases hi
      · rename_i hne
        cases hi
        exact ⟨v, hv, hne, rfl⟩
    · cases hi
  · rintro ⟨v, h1, h2, h3⟩
    have : q.1 < L.length := (List.getElem?_eq_some_iff.mp h1).1
    refine ⟨q.1, List.mem_range.mpr this, ?_⟩
    rw [h1]
    simp only [if_neg h2]
    rw [← h3]
theorem aLr.has {n : Nat} {ls : Array Slot} {L : List Value} (h : aLr G ad n ls L) : lv_has ls L.length (aLl G ad L) := by
  obtain ⟨h1, h2, h3, -⟩ := h
  refine ⟨h1, h2, fun q hq => ?_⟩
  obtain ⟨v, g1, g2, g3⟩ := aLl_mem.mp hq
  rw [g3]
  exact h3 q.1 v g1 g2
theorem aCut_len (L : List Value) (i : Nat) : (aCut L i).length = L.length := by
  unfold aCut
  split
  · rfl
  · split <;> simp
theorem aCut_get {n : Nat} {L : List Value} {i j : Nat} {v : Value} (hd : ∀ v ∈ L, aVk n v) (h : (aCut L i)[j]? = some v) (hv : v ≠ aNo) : L[j]? = some v ∧ ¬ (j + 1 = i ∧ v.category = 2) := by
  unfold aCut at h
  split at h
  · exact ⟨h, by omega⟩
  · rename_i i'
    split at h
    · rename_i x hx
      by_cases hj : i' = j
      · subst hj
        rw [List.getElem?_set_self (List.getElem?_eq_some_iff.mp hx).1] at h
        cases h
        exact absurd rfl hv
      · rw [List.getElem?_set_ne hj] at h
        exact ⟨h, by omega⟩
    · rename_i hno
      refine ⟨h, fun q => ?_⟩
      have : j = i' := by omega
      subst this
      cases v with
      | long x => exact hno x h
      | double x => exact hd _ (List.mem_of_getElem? h)
      | _ => simp [Value.category] at q
theorem aCut_mem {n : Nat} {L : List Value} {i : Nat} (hd : ∀ v ∈ L, aVk n v) : ∀ v ∈ aCut L i, aVk n v := by
  intro v hv
  unfold aCut at hv
  split at hv
  · exact hd v hv
  · split at hv
    · rcases List.mem_or_eq_of_mem_set hv with h | h
      · exact hd v h
      · subst h; trivial
    · exact hd v hv
theorem aUp_cat (v : Value) : (aUp G ad v).category = v.category := by
  cases v with
  | ref k =>
    unfold aUp
    by_cases h : k = 5
    · simp only [h, if_true]
      cases G.2.2.2.2.1 <;> rfl
    · simp only [h, if_false]; rfl
  | _ => rfl
theorem aSt1_len (L : List Value) (i : Nat) (v : Value) : (aSt1 L i v).length = L.length := by unfold aSt1; rw [List.length_set, aCut_len]
theorem aSt2_len (L : List Value) (i : Nat) (v : Value) : (aSt2 L i v).length = L.length := by unfold aSt2; rw [List.length_set, List.length_set, aCut_len]
theorem aSt1_mem {n : Nat} {L : List Value} {i : Nat} {v : Value} (hd : ∀ v ∈ L, aVk n v) (hv : aVk n v) : ∀ w ∈ aSt1 L i v, aVk n w := by
  intro w hw
  rcases List.mem_or_eq_of_mem_set hw with h | h
  · exact aCut_mem hd w h
  · subst h; exact hv
theorem aSt2_mem {n : Nat} {L : List Value} {i : Nat} {v : Value} (hd : ∀ v ∈ L, aVk n v) (hv : aVk n v) : ∀ w ∈ aSt2 L i v, aVk n w := by
  intro w hw
  rcases List.mem_or_eq_of_mem_set hw with h | h
  · rcases List.mem_or_eq_of_mem_set h with h | h
    · exact aCut_mem hd w h
    · subst h; trivial
  · subst h; exact hv
/-- a local is filled: what AM keeps of it (aNo: nothing) -/
theorem aLr_st1 {n i : Nat} {ls ls' : Array Slot} {L : List Value} {v u : Value} (h : aLr G ad n ls L) (hi : i < L.length) (hv : aVk n v) (hu : v ≠ aNo → u = aUp G ad v) (hl : lv_has ls' L.length ((i, u) :: (aLl G ad L).filter (fun q => !(q.1 == i) && !(q.1 + 1 == i && q.2.category == 2)))) : aLr G ad n ls' (aSt1 L i v) := by
  refine ⟨hl.1.trans (aSt1_len L i v).symm, hl.2.1, fun j w hj hw => ?_, aSt1_mem h.2.2.2 hv⟩
  unfold aSt1 at hj
  by_cases hji : i = j
  · subst hji
    rw [List.getElem?_set_self (by rw [aCut_len]; exact hi)] at hj
    cases hj
    have h1 := hl.2.2 (i, u) List.mem_cons_self
    rw [hu hw] at h1
    exact h1
  · rw [List.getElem?_set_ne hji] at hj
    obtain ⟨g1, g2⟩ := aCut_get h.2.2.2 hj hw
    refine hl.2.2 (j, aUp G ad w) (List.mem_cons_of_mem _ (List.mem_filter.mpr ⟨aLl_mem.mpr ⟨w, g1, hw, rfl⟩, ?_⟩))
    simp only [aUp_cat]
    by_cases hc : j + 1 = i
    · have : ¬ w.category = 2 := fun q => g2 ⟨hc, q⟩
      simp [this, hji, Ne.symm hji]
    · simp [hc, Ne.symm hji]
theorem aLr_st2 {n i : Nat} {ls ls' : Array Slot} {L : List Value} {v : Value} (h : aLr G ad n ls L) (hi : i + 1 < L.length) (hv : aVk n v) (hl : lv_has ls' L.length ((i, aUp G ad v) :: (aLl G ad L).filter (fun q => !(q.1 == i) && (!(q.1 == i + 1) && !(q.1 + 1 == i && q.2.category == 2))))) : aLr G ad n ls' (aSt2 L i v) := by
  refine ⟨hl.1.trans (aSt2_len L i v).symm, hl.2.1, fun j w hj hw => ?_, aSt2_mem h.2.2.2 hv⟩
  unfold aSt2 at hj
  by_cases hji : i = j
  · subst hji
    rw [List.getElem?_set_self (by rw [List.length_set, aCut_len]; omega)] at hj
    cases hj
    exact hl.2.2 (i, aUp G ad v) List.mem_cons_self
  · rw [List.getElem?_set_ne hji] at hj
    by_cases hj2 : i + 1 = j
    · subst hj2
      rw [List.getElem?_set_self (by rw [aCut_len]; exact hi)] at hj
      cases hj
      exact absurd rfl hw
    · rw [List.getElem?_set_ne hj2] at hj
      obtain ⟨g1, g2⟩ := aCut_get h.2.2.2 hj hw
      refine hl.2.2 (j, aUp G ad w) (List.mem_cons_of_mem _ (List.mem_filter.mpr ⟨aLl_mem.mpr ⟨w, g1, hw, rfl⟩, ?_⟩))
      simp only [aUp_cat]
      by_cases hc : j + 1 = i
      · have : ¬ w.category = 2 := fun q => g2 ⟨hc, q⟩
        simp [this, Ne.symm hji, Ne.symm hj2]
      · simp [hc, Ne.symm hji, Ne.symm hj2]
theorem aLr.at {n i : Nat} {ls : Array Slot} {L : List Value} {v : Value} (h : aLr G ad n ls L) (hi : L[i]? = some v) (hv : v ≠ aNo) : ls[i]? = some (.val (aUp G ad v)) := h.2.2.1 i v hi hv
end Snd0

section Snd1
variable {p : Program} {l : Launch} {e : Env} {R : Room} {s : State} {m : MethodId} {args : Array Value} {below : List Frame} {meth : Method} {c : Code} {Q : State → Prop} {G : aEnv} {d k : Nat} {g0 : Nat × Nat} {C : Nat → Nat → List Value → aS → Option aO} {K : Nat → List Value → List Value → aS → Option aO} {o : aO} {len t a b : Nat} {z : Int} {pc : Nat} {L st : List Value} {σ : aS}

theorem as_iconst {n : Int} (X : aFx p R s m args meth c G d k g0 o) (hK : aKok p l e R s m args below meth c Q G k g0 K o) (hd : decode (aNm k).2.1 pc = .ok (.iconst n, len)) (hl : aIl k pc (.iconst n) len t a b z = true) (h : aAct C K d k (.iconst n) len t a b z pc L st σ = some o) : aGo p l e R s m args below meth c Q G k g0 pc L st σ := by
  intro ad H locs ls hI hS hL hv g1 g2 hn
  obtain rfl : len = 1 := Nat.eq_of_beq_eq_true hl
  simp only [aAct] at h
  refine lv_iconst X.1 X.2.1 hd rfl ?_
  exact (hK _ _ _ _ h).1 ad H locs ls hI hS hL (aVs.c trivial hv) g1 g2 hn
theorem as_bipush {n : Int} (X : aFx p R s m args meth c G d k g0 o) (hK : aKok p l e R s m args below meth c Q G k g0 K o) (hd : decode (aNm k).2.1 pc = .ok (.bipush n, len)) (hl : aIl k pc (.bipush n) len t a b z = true) (h : aAct C K d k (.bipush n) len t a b z pc L st σ = some o) : aGo p l e R s m args below meth c Q G k g0 pc L st σ := by
  intro ad H locs ls hI hS hL hv g1 g2 hn
  obtain rfl : len = 2 := Nat.eq_of_beq_eq_true hl
  simp only [aAct] at h
  refine lv_bipush X.1 X.2.1 hd rfl ?_
  exact (hK _ _ _ _ h).1 ad H locs ls hI hS hL (aVs.c trivial hv) g1 g2 hn
theorem as_sipush {n : Int} (X : aFx p R s m args meth c G d k g0 o) (hK : aKok p l e R s m args below meth c Q G k g0 K o) (hd : decode (aNm k).2.1 pc = .ok (.sipush n, len)) (hl : aIl k pc (.sipush n) len t a b z = true) (h : aAct C K d k (.sipush n) len t a b z pc L st σ = some o) : aGo p l e R s m args below meth c Q G k g0 pc L st σ := by
  intro ad H locs ls hI hS hL hv g1 g2 hn
  obtain rfl : len = 3 := Nat.eq_of_beq_eq_true hl
  simp only [aAct] at h
  refine lv_sipush X.1 X.2.1 hd rfl ?_
  exact (hK _ _ _ _ h).1 ad H locs ls hI hS hL (aVs.c trivial hv) g1 g2 hn
theorem as_lconst {n : Fin 2} (X : aFx p R s m args meth c G d k g0 o) (hK : aKok p l e R s m args below meth c Q G k g0 K o) (hd : decode (aNm k).2.1 pc = .ok (.lconst n, len)) (hl : aIl k pc (.lconst n) len t a b z = true) (h : aAct C K d k (.lconst n) len t a b z pc L st σ = some o) : aGo p l e R s m args below meth c Q G k g0 pc L st σ := by
  intro ad H locs ls hI hS hL hv g1 g2 hn
  obtain rfl : len = 1 := Nat.eq_of_beq_eq_true hl
  simp only [aAct] at h
  refine lv_lconst X.1 X.2.1 hd rfl ?_
  exact (hK _ _ _ _ h).1 ad H locs ls hI hS hL (aVs.c trivial hv) g1 g2 hn
theorem as_iload_n {j : Fin 4} (X : aFx p R s m args meth c G d k g0 o) (hK : aKok p l e R s m args below meth c Q G k g0 K o) (hd : decode (aNm k).2.1 pc = .ok (.iload_n j, len)) (hl : aIl k pc (.iload_n j) len t a b z = true) (h : aAct C K d k (.iload_n j) len t a b z pc L st σ = some o) : aGo p l e R s m args below meth c Q G k g0 pc L st σ := by
  intro ad H locs ls hI hS hL hv g1 g2 hn
  obtain rfl : len = 1 := Nat.eq_of_beq_eq_true hl
  simp only [aAct] at h
  split at h
  · rename_i x hx
    refine lv_iload_n X.1 X.2.1 hd rfl (hL.at hx (fun q => by cases q)) ?_
    exact (hK _ _ _ _ h).1 ad H locs ls hI hS hL (aVs.c trivial hv) g1 g2 hn
  · cases h
theorem as_iload {j : Nat} (X : aFx p R s m args meth c G d k g0 o) (hK : aKok p l e R s m args below meth c Q G k g0 K o) (hd : decode (aNm k).2.1 pc = .ok (.iload j, len)) (hl : aIl k pc (.iload j) len t a b z = true) (h : aAct C K d k (.iload j) len t a b z pc L st σ = some o) : aGo p l e R s m args below meth c Q G k g0 pc L st σ := by
  intro ad H locs ls hI hS hL hv g1 g2 hn
  obtain rfl : len = 2 := Nat.eq_of_beq_eq_true hl
  simp only [aAct] at h
  split at h
  · rename_i x hx
    refine lv_iload X.1 X.2.1 hd (hL.at hx (fun q => by cases q)) ?_
    exact (hK _ _ _ _ h).1 ad H locs ls hI hS hL (aVs.c trivial hv) g1 g2 hn
  · cases h
theorem as_lload_n {j : Fin 4} (X : aFx p R s m args meth c G d k g0 o) (hK : aKok p l e R s m args below meth c Q G k g0 K o) (hd : decode (aNm k).2.1 pc = .ok (.lload_n j, len)) (hl : aIl k pc (.lload_n j) len t a b z = true) (h : aAct C K d k (.lload_n j) len t a b z pc L st σ = some o) : aGo p l e R s m args below meth c Q G k g0 pc L st σ := by
  intro ad H locs ls hI hS hL hv g1 g2 hn
  obtain rfl : len = 1 := Nat.eq_of_beq_eq_true hl
  simp only [aAct] at h
  split at h
  · rename_i x hx
    refine lv_lload_n X.1 X.2.1 hd rfl (hL.at hx (fun q => by cases q)) ?_
    exact (hK _ _ _ _ h).1 ad H locs ls hI hS hL (aVs.c trivial hv) g1 g2 hn
  · cases h
theorem as_lload {j : Nat} (X : aFx p R s m args meth c G d k g0 o) (hK : aKok p l e R s m args below meth c Q G k g0 K o) (hd : decode (aNm k).2.1 pc = .ok (.lload j, len)) (hl : aIl k pc (.lload j) len t a b z = true) (h : aAct C K d k (.lload j) len t a b z pc L st σ = some o) : aGo p l e R s m args below meth c Q G k g0 pc L st σ := by
  intro ad H locs ls hI hS hL hv g1 g2 hn
  obtain rfl : len = 2 := Nat.eq_of_beq_eq_true hl
  simp only [aAct] at h
  split at h
  · rename_i x hx
    refine lv_lload X.1 X.2.1 hd (hL.at hx (fun q => by cases q)) ?_
    exact (hK _ _ _ _ h).1 ad H locs ls hI hS hL (aVs.c trivial hv) g1 g2 hn
  · cases h
theorem as_aload_n {j : Fin 4} (X : aFx p R s m args meth c G d k g0 o) (hK : aKok p l e R s m args below meth c Q G k g0 K o) (hd : decode (aNm k).2.1 pc = .ok (.aload_n j, len)) (hl : aIl k pc (.aload_n j) len t a b z = true) (h : aAct C K d k (.aload_n j) len t a b z pc L st σ = some o) : aGo p l e R s m args below meth c Q G k g0 pc L st σ := by
  intro ad H locs ls hI hS hL hv g1 g2 hn
  obtain rfl : len = 1 := Nat.eq_of_beq_eq_true hl
  simp only [aAct] at h
  split at h
  · rename_i x hx
    have hx2 := hL.at hx (fun q => by cases q)
    have hvx : aVk σ.1.1 (.ref x) := hL.2.2.2 _ (List.mem_of_getElem? hx)
    have kk := (hK _ _ _ _ h).1 ad H locs ls hI hS hL (aVs.c hvx hv) g1 g2 hn
    by_cases h5 : x = 5
    · have e5 : aUp G ad (.ref x) = va_rf G.2.2.2.2.1 := by rw [aUp_at, if_pos h5]
      rw [List.map_cons] at kk
      rw [e5] at kk hx2
      cases hf : G.2.2.2.2.1 with
      | none => rw [hf] at kk hx2; exact lv_aload_nN X.1 X.2.1 hd rfl hx2 kk
      | some q => rw [hf] at kk hx2; exact lv_aload_n X.1 X.2.1 hd rfl hx2 kk
    · have e5 : aUp G ad (.ref x) = .ref (aAdr G ad x) := by rw [aUp_at, if_neg h5]
      rw [List.map_cons] at kk
      rw [e5] at kk hx2
      exact lv_aload_n X.1 X.2.1 hd rfl hx2 kk
  · cases h
theorem as_aload {j : Nat} (X : aFx p R s m args meth c G d k g0 o) (hK : aKok p l e R s m args below meth c Q G k g0 K o) (hd : decode (aNm k).2.1 pc = .ok (.aload j, len)) (hl : aIl k pc (.aload j) len t a b z = true) (h : aAct C K d k (.aload j) len t a b z pc L st σ = some o) : aGo p l e R s m args below meth c Q G k g0 pc L st σ := by
  intro ad H locs ls hI hS hL hv g1 g2 hn
  obtain rfl : len = 2 := Nat.eq_of_beq_eq_true hl
  simp only [aAct] at h
  split at h
  · rename_i x hx
    have hx2 := hL.at hx (fun q => by cases q)
    have hvx : aVk σ.1.1 (.ref x) := hL.2.2.2 _ (List.mem_of_getElem? hx)
    have kk := (hK _ _ _ _ h).1 ad H locs ls hI hS hL (aVs.c hvx hv) g1 g2 hn
    by_cases h5 : x = 5
    · have e5 : aUp G ad (.ref x) = va_rf G.2.2.2.2.1 := by rw [aUp_at, if_pos h5]
      rw [List.map_cons] at kk
      rw [e5] at kk hx2
      cases hf : G.2.2.2.2.1 with
      | none => rw [hf] at kk hx2; exact lv_aloadN X.1 X.2.1 hd hx2 kk
      | some q => rw [hf] at kk hx2; exact lv_aload X.1 X.2.1 hd hx2 kk
    · have e5 : aUp G ad (.ref x) = .ref (aAdr G ad x) := by rw [aUp_at, if_neg h5]
      rw [List.map_cons] at kk
      rw [e5] at kk hx2
      exact lv_aload X.1 X.2.1 hd hx2 kk
  · cases h
theorem as_istore_n {j : Fin 4} (X : aFx p R s m args meth c G d k g0 o) (hK : aKok p l e R s m args below meth c Q G k g0 K o) (hd : decode (aNm k).2.1 pc = .ok (.istore_n j, len)) (hl : aIl k pc (.istore_n j) len t a b z = true) (h : aAct C K d k (.istore_n j) len t a b z pc L st σ = some o) : aGo p l e R s m args below meth c Q G k g0 pc L st σ := by
  intro ad H locs ls hI hS hL hv g1 g2 hn
  obtain rfl : len = 1 := Nat.eq_of_beq_eq_true hl
  simp only [aAct] at h
  split at h
  · rename_i x r
    split at h
    · rename_i hj
      exact lv_istore_n X.1 X.2.1 hd rfl hL.has hj rfl (fun ls' hl' => (hK _ _ _ _ h).1 ad H locs ls' hI hS (aLr_st1 hL hj trivial (fun _ => rfl) hl') hv.t g1 g2 (by rw [aSt1_len]; exact hn))
    · cases h
  · cases h
theorem as_istore {j : Nat} (X : aFx p R s m args meth c G d k g0 o) (hK : aKok p l e R s m args below meth c Q G k g0 K o) (hd : decode (aNm k).2.1 pc = .ok (.istore j, len)) (hl : aIl k pc (.istore j) len t a b z = true) (h : aAct C K d k (.istore j) len t a b z pc L st σ = some o) : aGo p l e R s m args below meth c Q G k g0 pc L st σ := by
  intro ad H locs ls hI hS hL hv g1 g2 hn
  obtain rfl : len = 2 := Nat.eq_of_beq_eq_true hl
  simp only [aAct] at h
  split at h
  · rename_i x r
    split at h
    · rename_i hj
      exact lv_istore X.1 X.2.1 hd hL.has hj rfl (fun ls' hl' => (hK _ _ _ _ h).1 ad H locs ls' hI hS (aLr_st1 hL hj trivial (fun _ => rfl) hl') hv.t g1 g2 (by rw [aSt1_len]; exact hn))
    · cases h
  · cases h
theorem as_lstore_n {j : Fin 4} (X : aFx p R s m args meth c G d k g0 o) (hK : aKok p l e R s m args below meth c Q G k g0 K o) (hd : decode (aNm k).2.1 pc = .ok (.lstore_n j, len)) (hl : aIl k pc (.lstore_n j) len t a b z = true) (h : aAct C K d k (.lstore_n j) len t a b z pc L st σ = some o) : aGo p l e R s m args below meth c Q G k g0 pc L st σ := by
  intro ad H locs ls hI hS hL hv g1 g2 hn
  obtain rfl : len = 1 := Nat.eq_of_beq_eq_true hl
  simp only [aAct] at h
  split at h
  · rename_i x r
    split at h
    · rename_i hj
      exact lv_lstore_n X.1 X.2.1 hd rfl hL.has hj rfl (fun ls' hl' => (hK _ _ _ _ h).1 ad H locs ls' hI hS (aLr_st2 (v := .long x) hL hj trivial hl') hv.t g1 g2 (by rw [aSt2_len]; exact hn))
    · cases h
  · cases h
theorem as_lstore {j : Nat} (X : aFx p R s m args meth c G d k g0 o) (hK : aKok p l e R s m args below meth c Q G k g0 K o) (hd : decode (aNm k).2.1 pc = .ok (.lstore j, len)) (hl : aIl k pc (.lstore j) len t a b z = true) (h : aAct C K d k (.lstore j) len t a b z pc L st σ = some o) : aGo p l e R s m args below meth c Q G k g0 pc L st σ := by
  intro ad H locs ls hI hS hL hv g1 g2 hn
  obtain rfl : len = 2 := Nat.eq_of_beq_eq_true hl
  simp only [aAct] at h
  split at h
  · rename_i x r
    split at h
    · rename_i hj
      exact lv_lstore X.1 X.2.1 hd hL.has hj rfl (fun ls' hl' => (hK _ _ _ _ h).1 ad H locs ls' hI hS (aLr_st2 (v := .long x) hL hj trivial hl') hv.t g1 g2 (by rw [aSt2_len]; exact hn))
    · cases h
  · cases h
theorem as_astore_n {j : Fin 4} (X : aFx p R s m args meth c G d k g0 o) (hK : aKok p l e R s m args below meth c Q G k g0 K o) (hd : decode (aNm k).2.1 pc = .ok (.astore_n j, len)) (hl : aIl k pc (.astore_n j) len t a b z = true) (h : aAct C K d k (.astore_n j) len t a b z pc L st σ = some o) : aGo p l e R s m args below meth c Q G k g0 pc L st σ := by
  intro ad H locs ls hI hS hL hv g1 g2 hn
  obtain rfl : len = 1 := Nat.eq_of_beq_eq_true hl
  simp only [aAct] at h
  split at h
  · rename_i x r
    split at h
    · rename_i hj
      have kk : ∀ u, u = aUp G ad (.ref x) → ∀ ls', lv_has ls' L.length (((j : Nat), u) :: (aLl G ad L).filter (fun q => !(q.1 == (j : Nat)) && !(q.1 + 1 == (j : Nat) && q.2.category == 2))) → W p l e R s m args below meth c H locs (σ.1.2.1 - g0.1) (σ.1.2.2 - g0.2) Q (F0 m (pc + 1) ls' (r.map (aUp G ad))) :=
        fun u hu ls' hl' => (hK _ _ _ _ h).1 ad H locs ls' hI hS (aLr_st1 hL hj hv.h (fun _ => hu) hl') hv.t g1 g2 (by rw [aSt1_len]; exact hn)
      rw [List.map_cons]
      by_cases h5 : x = 5
      · have e5 : aUp G ad (.ref x) = va_rf G.2.2.2.2.1 := by rw [aUp_at, if_pos h5]
        rw [e5] at kk ⊢
        cases hf : G.2.2.2.2.1 with
        | none => rw [hf] at kk; exact lv_astore_nN X.1 X.2.1 hd rfl hL.has hj rfl (kk _ rfl)
        | some q => rw [hf] at kk; exact lv_astore_n X.1 X.2.1 hd rfl hL.has hj rfl (kk _ rfl)
      · have e5 : aUp G ad (.ref x) = .ref (aAdr G ad x) := by rw [aUp_at, if_neg h5]
        rw [e5] at kk ⊢
        exact lv_astore_n X.1 X.2.1 hd rfl hL.has hj rfl (kk _ rfl)
    · cases h
  · cases h
theorem as_astore {j : Nat} (X : aFx p R s m args meth c G d k g0 o) (hK : aKok p l e R s m args below meth c Q G k g0 K o) (hd : decode (aNm k).2.1 pc = .ok (.astore j, len)) (hl : aIl k pc (.astore j) len t a b z = true) (h : aAct C K d k (.astore j) len t a b z pc L st σ = some o) : aGo p l e R s m args below meth c Q G k g0 pc L st σ := by
  intro ad H locs ls hI hS hL hv g1 g2 hn
  obtain rfl : len = 2 := Nat.eq_of_beq_eq_true hl
  simp only [aAct] at h
  split at h
  · rename_i x r
    split at h
    · rename_i hj
      have kk : ∀ u, u = aUp G ad (.ref x) → ∀ ls', lv_has ls' L.length ((j, u) :: (aLl G ad L).filter (fun q => !(q.1 == j) && !(q.1 + 1 == j && q.2.category == 2))) → W p l e R s m args below meth c H locs (σ.1.2.1 - g0.1) (σ.1.2.2 - g0.2) Q (F0 m (pc + 2) ls' (r.map (aUp G ad))) :=
        fun u hu ls' hl' => (hK _ _ _ _ h).1 ad H locs ls' hI hS (aLr_st1 hL hj hv.h (fun _ => hu) hl') hv.t g1 g2 (by rw [aSt1_len]; exact hn)
      rw [List.map_cons]
      by_cases h5 : x = 5
      · have e5 : aUp G ad (.ref x) = va_rf G.2.2.2.2.1 := by rw [aUp_at, if_pos h5]
        rw [e5] at kk ⊢
        cases hf : G.2.2.2.2.1 with
        | none => rw [hf] at kk; exact lv_astoreN X.1 X.2.1 hd hL.has hj rfl (kk _ rfl)
        | some q => rw [hf] at kk; exact lv_astore X.1 X.2.1 hd hL.has hj rfl (kk _ rfl)
      · have e5 : aUp G ad (.ref x) = .ref (aAdr G ad x) := by rw [aUp_at, if_neg h5]
        rw [e5] at kk ⊢
        exact lv_astore X.1 X.2.1 hd hL.has hj rfl (kk _ rfl)
    · cases h
  · cases h
theorem as_iinc {j : Nat} {n : Int} (X : aFx p R s m args meth c G d k g0 o) (hK : aKok p l e R s m args below meth c Q G k g0 K o) (hd : decode (aNm k).2.1 pc = .ok (.iinc j n, len)) (hl : aIl k pc (.iinc j n) len t a b z = true) (h : aAct C K d k (.iinc j n) len t a b z pc L st σ = some o) : aGo p l e R s m args below meth c Q G k g0 pc L st σ := by
  intro ad H locs ls hI hS hL hv g1 g2 hn
  obtain rfl : len = 3 := Nat.eq_of_beq_eq_true hl
  simp only [aAct] at h
  split at h
  · rename_i x hx
    have hj : j < L.length := (List.getElem?_eq_some_iff.mp hx).1
    obtain ⟨q, hq⟩ := List.getElem?_of_mem (aLl_mem (G := G) (ad := ad) (q := (j, .int x)).mpr ⟨_, hx, (fun q => by cases q), rfl⟩)
    exact lv_iinc X.1 X.2.1 hd hL.has hq rfl hj rfl (fun ls' hl' => (hK _ _ _ _ h).1 ad H locs ls' hI hS (aLr_st1 hL hj trivial (fun _ => rfl) hl') hv g1 g2 (by rw [aSt1_len]; exact hn))
  · cases h
theorem as_iadd  (X : aFx p R s m args meth c G d k g0 o) (hK : aKok p l e R s m args below meth c Q G k g0 K o) (hd : decode (aNm k).2.1 pc = .ok (.iadd, len)) (hl : aIl k pc (.iadd) len t a b z = true) (h : aAct C K d k (.iadd) len t a b z pc L st σ = some o) : aGo p l e R s m args below meth c Q G k g0 pc L st σ := by
  intro ad H locs ls hI hS hL hv g1 g2 hn
  obtain rfl : len = 1 := Nat.eq_of_beq_eq_true hl
  simp only [aAct] at h
  split at h
  · rename_i y x r
    refine lv_iadd X.1 X.2.1 hd ?_
    exact (hK _ _ _ _ h).1 ad H locs ls hI hS hL (aVs.c trivial hv.t.t) g1 g2 hn
  · cases h
theorem as_isub  (X : aFx p R s m args meth c G d k g0 o) (hK : aKok p l e R s m args below meth c Q G k g0 K o) (hd : decode (aNm k).2.1 pc = .ok (.isub, len)) (hl : aIl k pc (.isub) len t a b z = true) (h : aAct C K d k (.isub) len t a b z pc L st σ = some o) : aGo p l e R s m args below meth c Q G k g0 pc L st σ := by
  intro ad H locs ls hI hS hL hv g1 g2 hn
  obtain rfl : len = 1 := Nat.eq_of_beq_eq_true hl
  simp only [aAct] at h
  split at h
  · rename_i y x r
    refine lv_isub X.1 X.2.1 hd ?_
    exact (hK _ _ _ _ h).1 ad H locs ls hI hS hL (aVs.c trivial hv.t.t) g1 g2 hn
  · cases h
theorem as_imul  (X : aFx p R s m args meth c G d k g0 o) (hK : aKok p l e R s m args below meth c Q G k g0 K o) (hd : decode (aNm k).2.1 pc = .ok (.imul, len)) (hl : aIl k pc (.imul) len t a b z = true) (h : aAct C K d k (.imul) len t a b z pc L st σ = some o) : aGo p l e R s m args below meth c Q G k g0 pc L st σ := by
  intro ad H locs ls hI hS hL hv g1 g2 hn
  obtain rfl : len = 1 := Nat.eq_of_beq_eq_true hl
  simp only [aAct] at h
  split at h
  · rename_i y x r
    refine lv_imul X.1 X.2.1 hd ?_
    exact (hK _ _ _ _ h).1 ad H locs ls hI hS hL (aVs.c trivial hv.t.t) g1 g2 hn
  · cases h
theorem as_iand  (X : aFx p R s m args meth c G d k g0 o) (hK : aKok p l e R s m args below meth c Q G k g0 K o) (hd : decode (aNm k).2.1 pc = .ok (.iand, len)) (hl : aIl k pc (.iand) len t a b z = true) (h : aAct C K d k (.iand) len t a b z pc L st σ = some o) : aGo p l e R s m args below meth c Q G k g0 pc L st σ := by
  intro ad H locs ls hI hS hL hv g1 g2 hn
  obtain rfl : len = 1 := Nat.eq_of_beq_eq_true hl
  simp only [aAct] at h
  split at h
  · rename_i y x r
    refine lv_iand X.1 X.2.1 hd ?_
    exact (hK _ _ _ _ h).1 ad H locs ls hI hS hL (aVs.c trivial hv.t.t) g1 g2 hn
  · cases h
theorem as_ior  (X : aFx p R s m args meth c G d k g0 o) (hK : aKok p l e R s m args below meth c Q G k g0 K o) (hd : decode (aNm k).2.1 pc = .ok (.ior, len)) (hl : aIl k pc (.ior) len t a b z = true) (h : aAct C K d k (.ior) len t a b z pc L st σ = some o) : aGo p l e R s m args below meth c Q G k g0 pc L st σ := by
  intro ad H locs ls hI hS hL hv g1 g2 hn
  obtain rfl : len = 1 := Nat.eq_of_beq_eq_true hl
  simp only [aAct] at h
  split at h
  · rename_i y x r
    refine lv_ior X.1 X.2.1 hd ?_
    exact (hK _ _ _ _ h).1 ad H locs ls hI hS hL (aVs.c trivial hv.t.t) g1 g2 hn
  · cases h
theorem as_ixor  (X : aFx p R s m args meth c G d k g0 o) (hK : aKok p l e R s m args below meth c Q G k g0 K o) (hd : decode (aNm k).2.1 pc = .ok (.ixor, len)) (hl : aIl k pc (.ixor) len t a b z = true) (h : aAct C K d k (.ixor) len t a b z pc L st σ = some o) : aGo p l e R s m args below meth c Q G k g0 pc L st σ := by
  intro ad H locs ls hI hS hL hv g1 g2 hn
  obtain rfl : len = 1 := Nat.eq_of_beq_eq_true hl
  simp only [aAct] at h
  split at h
  · rename_i y x r
    refine lv_ixor X.1 X.2.1 hd ?_
    exact (hK _ _ _ _ h).1 ad H locs ls hI hS hL (aVs.c trivial hv.t.t) g1 g2 hn
  · cases h
theorem as_ishl  (X : aFx p R s m args meth c G d k g0 o) (hK : aKok p l e R s m args below meth c Q G k g0 K o) (hd : decode (aNm k).2.1 pc = .ok (.ishl, len)) (hl : aIl k pc (.ishl) len t a b z = true) (h : aAct C K d k (.ishl) len t a b z pc L st σ = some o) : aGo p l e R s m args below meth c Q G k g0 pc L st σ := by
  intro ad H locs ls hI hS hL hv g1 g2 hn
  obtain rfl : len = 1 := Nat.eq_of_beq_eq_true hl
  simp only [aAct] at h
  split at h
  · rename_i y x r
    refine lv_ishl X.1 X.2.1 hd ?_
    exact (hK _ _ _ _ h).1 ad H locs ls hI hS hL (aVs.c trivial hv.t.t) g1 g2 hn
  · cases h
theorem as_ishr  (X : aFx p R s m args meth c G d k g0 o) (hK : aKok p l e R s m args below meth c Q G k g0 K o) (hd : decode (aNm k).2.1 pc = .ok (.ishr, len)) (hl : aIl k pc (.ishr) len t a b z = true) (h : aAct C K d k (.ishr) len t a b z pc L st σ = some o) : aGo p l e R s m args below meth c Q G k g0 pc L st σ := by
  intro ad H locs ls hI hS hL hv g1 g2 hn
  obtain rfl : len = 1 := Nat.eq_of_beq_eq_true hl
  simp only [aAct] at h
  split at h
  · rename_i y x r
    refine lv_ishr X.1 X.2.1 hd ?_
    exact (hK _ _ _ _ h).1 ad H locs ls hI hS hL (aVs.c trivial hv.t.t) g1 g2 hn
  · cases h
theorem as_iushr  (X : aFx p R s m args meth c G d k g0 o) (hK : aKok p l e R s m args below meth c Q G k g0 K o) (hd : decode (aNm k).2.1 pc = .ok (.iushr, len)) (hl : aIl k pc (.iushr) len t a b z = true) (h : aAct C K d k (.iushr) len t a b z pc L st σ = some o) : aGo p l e R s m args below meth c Q G k g0 pc L st σ := by
  intro ad H locs ls hI hS hL hv g1 g2 hn
  obtain rfl : len = 1 := Nat.eq_of_beq_eq_true hl
  simp only [aAct] at h
  split at h
  · rename_i y x r
    refine lv_iushr X.1 X.2.1 hd rfl ?_
    exact (hK _ _ _ _ h).1 ad H locs ls hI hS hL (aVs.c trivial hv.t.t) g1 g2 hn
  · cases h
theorem as_idiv  (X : aFx p R s m args meth c G d k g0 o) (hK : aKok p l e R s m args below meth c Q G k g0 K o) (hd : decode (aNm k).2.1 pc = .ok (.idiv, len)) (hl : aIl k pc (.idiv) len t a b z = true) (h : aAct C K d k (.idiv) len t a b z pc L st σ = some o) : aGo p l e R s m args below meth c Q G k g0 pc L st σ := by
  intro ad H locs ls hI hS hL hv g1 g2 hn
  obtain rfl : len = 1 := Nat.eq_of_beq_eq_true hl
  simp only [aAct] at h
  split at h
  · rename_i y x r
    split at h
    · cases h
    · rename_i hne
      refine lv_idiv X.1 X.2.1 hd hne ?_
      exact (hK _ _ _ _ h).1 ad H locs ls hI hS hL (aVs.c trivial hv.t.t) g1 g2 hn
  · cases h
theorem as_irem  (X : aFx p R s m args meth c G d k g0 o) (hK : aKok p l e R s m args below meth c Q G k g0 K o) (hd : decode (aNm k).2.1 pc = .ok (.irem, len)) (hl : aIl k pc (.irem) len t a b z = true) (h : aAct C K d k (.irem) len t a b z pc L st σ = some o) : aGo p l e R s m args below meth c Q G k g0 pc L st σ := by
  intro ad H locs ls hI hS hL hv g1 g2 hn
  obtain rfl : len = 1 := Nat.eq_of_beq_eq_true hl
  simp only [aAct] at h
  split at h
  · rename_i y x r
    split at h
    · cases h
    · rename_i hne
      refine lv_irem X.1 X.2.1 hd hne ?_
      exact (hK _ _ _ _ h).1 ad H locs ls hI hS hL (aVs.c trivial hv.t.t) g1 g2 hn
  · cases h
theorem as_ldiv  (X : aFx p R s m args meth c G d k g0 o) (hK : aKok p l e R s m args below meth c Q G k g0 K o) (hd : decode (aNm k).2.1 pc = .ok (.ldiv, len)) (hl : aIl k pc (.ldiv) len t a b z = true) (h : aAct C K d k (.ldiv) len t a b z pc L st σ = some o) : aGo p l e R s m args below meth c Q G k g0 pc L st σ := by
  intro ad H locs ls hI hS hL hv g1 g2 hn
  obtain rfl : len = 1 := Nat.eq_of_beq_eq_true hl
  simp only [aAct] at h
  split at h
  · rename_i y x r
    split at h
    · cases h
    · rename_i hne
      refine lv_ldiv X.1 X.2.1 hd hne ?_
      exact (hK _ _ _ _ h).1 ad H locs ls hI hS hL (aVs.c trivial hv.t.t) g1 g2 hn
  · cases h
theorem as_lrem  (X : aFx p R s m args meth c G d k g0 o) (hK : aKok p l e R s m args below meth c Q G k g0 K o) (hd : decode (aNm k).2.1 pc = .ok (.lrem, len)) (hl : aIl k pc (.lrem) len t a b z = true) (h : aAct C K d k (.lrem) len t a b z pc L st σ = some o) : aGo p l e R s m args below meth c Q G k g0 pc L st σ := by
  intro ad H locs ls hI hS hL hv g1 g2 hn
  obtain rfl : len = 1 := Nat.eq_of_beq_eq_true hl
  simp only [aAct] at h
  split at h
  · rename_i y x r
    split at h
    · cases h
    · rename_i hne
      refine lv_lrem X.1 X.2.1 hd hne ?_
      exact (hK _ _ _ _ h).1 ad H locs ls hI hS hL (aVs.c trivial hv.t.t) g1 g2 hn
  · cases h
theorem as_ladd  (X : aFx p R s m args meth c G d k g0 o) (hK : aKok p l e R s m args below meth c Q G k g0 K o) (hd : decode (aNm k).2.1 pc = .ok (.ladd, len)) (hl : aIl k pc (.ladd) len t a b z = true) (h : aAct C K d k (.ladd) len t a b z pc L st σ = some o) : aGo p l e R s m args below meth c Q G k g0 pc L st σ := by
  intro ad H locs ls hI hS hL hv g1 g2 hn
  obtain rfl : len = 1 := Nat.eq_of_beq_eq_true hl
  simp only [aAct] at h
  split at h
  · rename_i y x r
    refine lv_ladd X.1 X.2.1 hd ?_
    exact (hK _ _ _ _ h).1 ad H locs ls hI hS hL (aVs.c trivial hv.t.t) g1 g2 hn
  · cases h
theorem as_lmul  (X : aFx p R s m args meth c G d k g0 o) (hK : aKok p l e R s m args below meth c Q G k g0 K o) (hd : decode (aNm k).2.1 pc = .ok (.lmul, len)) (hl : aIl k pc (.lmul) len t a b z = true) (h : aAct C K d k (.lmul) len t a b z pc L st σ = some o) : aGo p l e R s m args below meth c Q G k g0 pc L st σ := by
  intro ad H locs ls hI hS hL hv g1 g2 hn
  obtain rfl : len = 1 := Nat.eq_of_beq_eq_true hl
  simp only [aAct] at h
  split at h
  · rename_i y x r
    refine lv_lmul X.1 X.2.1 hd ?_
    exact (hK _ _ _ _ h).1 ad H locs ls hI hS hL (aVs.c trivial hv.t.t) g1 g2 hn
  · cases h
theorem as_lcmp  (X : aFx p R s m args meth c G d k g0 o) (hK : aKok p l e R s m args below meth c Q G k g0 K o) (hd : decode (aNm k).2.1 pc = .ok (.lcmp, len)) (hl : aIl k pc (.lcmp) len t a b z = true) (h : aAct C K d k (.lcmp) len t a b z pc L st σ = some o) : aGo p l e R s m args below meth c Q G k g0 pc L st σ := by
  intro ad H locs ls hI hS hL hv g1 g2 hn
  obtain rfl : len = 1 := Nat.eq_of_beq_eq_true hl
  simp only [aAct] at h
  split at h
  · rename_i y x r
    refine W.lcmp X.1 X.2.1 hd ?_
    exact (hK _ _ _ _ h).1 ad H locs ls hI hS hL (aVs.c trivial hv.t.t) g1 g2 hn
  · cases h
theorem as_ineg  (X : aFx p R s m args meth c G d k g0 o) (hK : aKok p l e R s m args below meth c Q G k g0 K o) (hd : decode (aNm k).2.1 pc = .ok (.ineg, len)) (hl : aIl k pc (.ineg) len t a b z = true) (h : aAct C K d k (.ineg) len t a b z pc L st σ = some o) : aGo p l e R s m args below meth c Q G k g0 pc L st σ := by
  intro ad H locs ls hI hS hL hv g1 g2 hn
  obtain rfl : len = 1 := Nat.eq_of_beq_eq_true hl
  simp only [aAct] at h
  split at h
  · rename_i x r
    refine lv_ineg X.1 X.2.1 hd ?_
    exact (hK _ _ _ _ h).1 ad H locs ls hI hS hL (aVs.c trivial hv.t) g1 g2 hn
  · cases h
theorem as_i2l  (X : aFx p R s m args meth c G d k g0 o) (hK : aKok p l e R s m args below meth c Q G k g0 K o) (hd : decode (aNm k).2.1 pc = .ok (.i2l, len)) (hl : aIl k pc (.i2l) len t a b z = true) (h : aAct C K d k (.i2l) len t a b z pc L st σ = some o) : aGo p l e R s m args below meth c Q G k g0 pc L st σ := by
  intro ad H locs ls hI hS hL hv g1 g2 hn
  obtain rfl : len = 1 := Nat.eq_of_beq_eq_true hl
  simp only [aAct] at h
  split at h
  · rename_i x r
    refine lv_i2l X.1 X.2.1 hd rfl ?_
    exact (hK _ _ _ _ h).1 ad H locs ls hI hS hL (aVs.c trivial hv.t) g1 g2 hn
  · cases h
theorem as_l2i  (X : aFx p R s m args meth c G d k g0 o) (hK : aKok p l e R s m args below meth c Q G k g0 K o) (hd : decode (aNm k).2.1 pc = .ok (.l2i, len)) (hl : aIl k pc (.l2i) len t a b z = true) (h : aAct C K d k (.l2i) len t a b z pc L st σ = some o) : aGo p l e R s m args below meth c Q G k g0 pc L st σ := by
  intro ad H locs ls hI hS hL hv g1 g2 hn
  obtain rfl : len = 1 := Nat.eq_of_beq_eq_true hl
  simp only [aAct] at h
  split at h
  · rename_i x r
    refine lv_l2i X.1 X.2.1 hd rfl ?_
    exact (hK _ _ _ _ h).1 ad H locs ls hI hS hL (aVs.c trivial hv.t) g1 g2 hn
  · cases h
theorem as_i2b  (X : aFx p R s m args meth c G d k g0 o) (hK : aKok p l e R s m args below meth c Q G k g0 K o) (hd : decode (aNm k).2.1 pc = .ok (.i2b, len)) (hl : aIl k pc (.i2b) len t a b z = true) (h : aAct C K d k (.i2b) len t a b z pc L st σ = some o) : aGo p l e R s m args below meth c Q G k g0 pc L st σ := by
  intro ad H locs ls hI hS hL hv g1 g2 hn
  obtain rfl : len = 1 := Nat.eq_of_beq_eq_true hl
  simp only [aAct] at h
  split at h
  · rename_i x r
    refine lv_i2b X.1 X.2.1 hd rfl ?_
    exact (hK _ _ _ _ h).1 ad H locs ls hI hS hL (aVs.c trivial hv.t) g1 g2 hn
  · cases h
theorem as_i2s  (X : aFx p R s m args meth c G d k g0 o) (hK : aKok p l e R s m args below meth c Q G k g0 K o) (hd : decode (aNm k).2.1 pc = .ok (.i2s, len)) (hl : aIl k pc (.i2s) len t a b z = true) (h : aAct C K d k (.i2s) len t a b z pc L st σ = some o) : aGo p l e R s m args below meth c Q G k g0 pc L st σ := by
  intro ad H locs ls hI hS hL hv g1 g2 hn
  obtain rfl : len = 1 := Nat.eq_of_beq_eq_true hl
  simp only [aAct] at h
  split at h
  · rename_i x r
    refine lv_i2s X.1 X.2.1 hd rfl ?_
    exact (hK _ _ _ _ h).1 ad H locs ls hI hS hL (aVs.c trivial hv.t) g1 g2 hn
  · cases h
theorem as_i2c  (X : aFx p R s m args meth c G d k g0 o) (hK : aKok p l e R s m args below meth c Q G k g0 K o) (hd : decode (aNm k).2.1 pc = .ok (.i2c, len)) (hl : aIl k pc (.i2c) len t a b z = true) (h : aAct C K d k (.i2c) len t a b z pc L st σ = some o) : aGo p l e R s m args below meth c Q G k g0 pc L st σ := by
  intro ad H locs ls hI hS hL hv g1 g2 hn
  obtain rfl : len = 1 := Nat.eq_of_beq_eq_true hl
  simp only [aAct] at h
  split at h
  · rename_i x r
    refine lv_i2c X.1 X.2.1 hd rfl ?_
    exact (hK _ _ _ _ h).1 ad H locs ls hI hS hL (aVs.c trivial hv.t) g1 g2 hn
  · cases h
theorem as_dup  (X : aFx p R s m args meth c G d k g0 o) (hK : aKok p l e R s m args below meth c Q G k g0 K o) (hd : decode (aNm k).2.1 pc = .ok (.dup, len)) (hl : aIl k pc (.dup) len t a b z = true) (h : aAct C K d k (.dup) len t a b z pc L st σ = some o) : aGo p l e R s m args below meth c Q G k g0 pc L st σ := by
  intro ad H locs ls hI hS hL hv g1 g2 hn
  obtain rfl : len = 1 := Nat.eq_of_beq_eq_true hl
  simp only [aAct] at h
  split at h
  · rename_i x r
    refine lv_dup X.1 X.2.1 hd rfl ?_
    exact (hK _ _ _ _ h).1 ad H locs ls hI hS hL (aVs.c trivial hv) g1 g2 hn
  · rename_i x r
    refine lv_dup X.1 X.2.1 hd (aUp_cat _) ?_
    exact (hK _ _ _ _ h).1 ad H locs ls hI hS hL (aVs.c hv.h hv) g1 g2 hn
  · cases h
theorem as_pop  (X : aFx p R s m args meth c G d k g0 o) (hK : aKok p l e R s m args below meth c Q G k g0 K o) (hd : decode (aNm k).2.1 pc = .ok (.pop, len)) (hl : aIl k pc (.pop) len t a b z = true) (h : aAct C K d k (.pop) len t a b z pc L st σ = some o) : aGo p l e R s m args below meth c Q G k g0 pc L st σ := by
  intro ad H locs ls hI hS hL hv g1 g2 hn
  obtain rfl : len = 1 := Nat.eq_of_beq_eq_true hl
  simp only [aAct] at h
  split at h
  · rename_i x r
    refine lv_pop X.1 X.2.1 hd rfl ?_
    exact (hK _ _ _ _ h).1 ad H locs ls hI hS hL hv.t g1 g2 hn
  · cases h
theorem as_dup_x1  (X : aFx p R s m args meth c G d k g0 o) (hK : aKok p l e R s m args below meth c Q G k g0 K o) (hd : decode (aNm k).2.1 pc = .ok (.dup_x1, len)) (hl : aIl k pc (.dup_x1) len t a b z = true) (h : aAct C K d k (.dup_x1) len t a b z pc L st σ = some o) : aGo p l e R s m args below meth c Q G k g0 pc L st σ := by
  intro ad H locs ls hI hS hL hv g1 g2 hn
  obtain rfl : len = 1 := Nat.eq_of_beq_eq_true hl
  simp only [aAct] at h
  split at h
  · rename_i x y r
    refine lv_dup_x1 X.1 X.2.1 hd rfl (aUp_cat _) ?_
    exact (hK _ _ _ _ h).1 ad H locs ls hI hS hL (aVs.c trivial (aVs.c hv.t.h (aVs.c trivial hv.t.t))) g1 g2 hn
  · cases h
theorem as_dup2  (X : aFx p R s m args meth c G d k g0 o) (hK : aKok p l e R s m args below meth c Q G k g0 K o) (hd : decode (aNm k).2.1 pc = .ok (.dup2, len)) (hl : aIl k pc (.dup2) len t a b z = true) (h : aAct C K d k (.dup2) len t a b z pc L st σ = some o) : aGo p l e R s m args below meth c Q G k g0 pc L st σ := by
  intro ad H locs ls hI hS hL hv g1 g2 hn
  obtain rfl : len = 1 := Nat.eq_of_beq_eq_true hl
  simp only [aAct] at h
  split at h
  · rename_i x y r
    refine lv_dup2_11 X.1 X.2.1 hd rfl (aUp_cat _) ?_
    exact (hK _ _ _ _ h).1 ad H locs ls hI hS hL (aVs.c trivial (aVs.c hv.t.h hv)) g1 g2 hn
  · cases h
theorem as_goto {off : Int} (X : aFx p R s m args meth c G d k g0 o) (hK : aKok p l e R s m args below meth c Q G k g0 K o) (hd : decode (aNm k).2.1 pc = .ok (.goto off, len)) (hl : aIl k pc (.goto off) len t a b z = true) (h : aAct C K d k (.goto off) len t a b z pc L st σ = some o) : aGo p l e R s m args below meth c Q G k g0 pc L st σ := by
  intro ad H locs ls hI hS hL hv g1 g2 hn
  rw [aIl, Bool.and_eq_true] at hl
  obtain ⟨hl0, hlj⟩ := hl
  obtain rfl : len = 3 := Nat.eq_of_beq_eq_true hl0
  have ht : ∀ off : Int, aJp pc off = true → (pc : Int) + off = ((aTgt pc off : Nat) : Int) := fun off q => (Int.toNat_of_nonneg (of_decide_eq_true q)).symm
  simp only [aAct] at h
  refine lv_goto X.1 X.2.1 hd (ht _ hlj) ?_
  exact (hK _ _ _ _ h).1 ad H locs ls hI hS hL hv g1 g2 hn
theorem as_if_eq {off : Int} (X : aFx p R s m args meth c G d k g0 o) (hK : aKok p l e R s m args below meth c Q G k g0 K o) (hd : decode (aNm k).2.1 pc = .ok (.ifCond .eq off, len)) (hl : aIl k pc (.ifCond .eq off) len t a b z = true) (h : aAct C K d k (.ifCond .eq off) len t a b z pc L st σ = some o) : aGo p l e R s m args below meth c Q G k g0 pc L st σ := by
  intro ad H locs ls hI hS hL hv g1 g2 hn
  rw [aIl, Bool.and_eq_true] at hl
  obtain ⟨hl0, hlj⟩ := hl
  obtain rfl : len = 3 := Nat.eq_of_beq_eq_true hl0
  have ht : ∀ off : Int, aJp pc off = true → (pc : Int) + off = ((aTgt pc off : Nat) : Int) := fun off q => (Int.toNat_of_nonneg (of_decide_eq_true q)).symm
  simp only [aAct] at h
  split at h
  · rename_i x r
    split at h
    · rename_i hc
      exact lv_if_eq X.1 X.2.1 hd (ht _ hlj) (fun _ => (hK _ _ _ _ h).1 ad H locs ls hI hS hL hv.t g1 g2 hn) (fun q => absurd hc q)
    · rename_i hc
      exact lv_if_eq X.1 X.2.1 hd (ht _ hlj) (fun q => absurd q hc) (fun _ => (hK _ _ _ _ h).1 ad H locs ls hI hS hL hv.t g1 g2 hn)
  · cases h
theorem as_if_ne {off : Int} (X : aFx p R s m args meth c G d k g0 o) (hK : aKok p l e R s m args below meth c Q G k g0 K o) (hd : decode (aNm k).2.1 pc = .ok (.ifCond .ne off, len)) (hl : aIl k pc (.ifCond .ne off) len t a b z = true) (h : aAct C K d k (.ifCond .ne off) len t a b z pc L st σ = some o) : aGo p l e R s m args below meth c Q G k g0 pc L st σ := by
  intro ad H locs ls hI hS hL hv g1 g2 hn
  rw [aIl, Bool.and_eq_true] at hl
  obtain ⟨hl0, hlj⟩ := hl
  obtain rfl : len = 3 := Nat.eq_of_beq_eq_true hl0
  have ht : ∀ off : Int, aJp pc off = true → (pc : Int) + off = ((aTgt pc off : Nat) : Int) := fun off q => (Int.toNat_of_nonneg (of_decide_eq_true q)).symm
  simp only [aAct] at h
  split at h
  · rename_i x r
    split at h
    · rename_i hc
      exact lv_if_ne X.1 X.2.1 hd (ht _ hlj) (fun q => absurd hc q) (fun _ => (hK _ _ _ _ h).1 ad H locs ls hI hS hL hv.t g1 g2 hn)
    · rename_i hc
      exact lv_if_ne X.1 X.2.1 hd (ht _ hlj) (fun _ => (hK _ _ _ _ h).1 ad H locs ls hI hS hL hv.t g1 g2 hn) (fun q => absurd q hc)
  · cases h
theorem as_if_lt {off : Int} (X : aFx p R s m args meth c G d k g0 o) (hK : aKok p l e R s m args below meth c Q G k g0 K o) (hd : decode (aNm k).2.1 pc = .ok (.ifCond .lt off, len)) (hl : aIl k pc (.ifCond .lt off) len t a b z = true) (h : aAct C K d k (.ifCond .lt off) len t a b z pc L st σ = some o) : aGo p l e R s m args below meth c Q G k g0 pc L st σ := by
  intro ad H locs ls hI hS hL hv g1 g2 hn
  rw [aIl, Bool.and_eq_true] at hl
  obtain ⟨hl0, hlj⟩ := hl
  obtain rfl : len = 3 := Nat.eq_of_beq_eq_true hl0
  have ht : ∀ off : Int, aJp pc off = true → (pc : Int) + off = ((aTgt pc off : Nat) : Int) := fun off q => (Int.toNat_of_nonneg (of_decide_eq_true q)).symm
  simp only [aAct] at h
  split at h
  · rename_i x r
    split at h
    · rename_i hc
      exact lv_if_lt X.1 X.2.1 hd (ht _ hlj) (fun _ => (hK _ _ _ _ h).1 ad H locs ls hI hS hL hv.t g1 g2 hn) (fun q => absurd hc q)
    · rename_i hc
      exact lv_if_lt X.1 X.2.1 hd (ht _ hlj) (fun q => absurd q hc) (fun _ => (hK _ _ _ _ h).1 ad H locs ls hI hS hL hv.t g1 g2 hn)
  · cases h
theorem as_if_ge {off : Int} (X : aFx p R s m args meth c G d k g0 o) (hK : aKok p l e R s m args below meth c Q G k g0 K o) (hd : decode (aNm k).2.1 pc = .ok (.ifCond .ge off, len)) (hl : aIl k pc (.ifCond .ge off) len t a b z = true) (h : aAct C K d k (.ifCond .ge off) len t a b z pc L st σ = some o) : aGo p l e R s m args below meth c Q G k g0 pc L st σ := by
  intro ad H locs ls hI hS hL hv g1 g2 hn
  rw [aIl, Bool.and_eq_true] at hl
  obtain ⟨hl0, hlj⟩ := hl
  obtain rfl : len = 3 := Nat.eq_of_beq_eq_true hl0
  have ht : ∀ off : Int, aJp pc off = true → (pc : Int) + off = ((aTgt pc off : Nat) : Int) := fun off q => (Int.toNat_of_nonneg (of_decide_eq_true q)).symm
  simp only [aAct] at h
  split at h
  · rename_i x r
    split at h
    · rename_i hc
      exact lv_if_ge X.1 X.2.1 hd (ht _ hlj) (fun _ => (hK _ _ _ _ h).1 ad H locs ls hI hS hL hv.t g1 g2 hn) (fun q => absurd hc q)
    · rename_i hc
      exact lv_if_ge X.1 X.2.1 hd (ht _ hlj) (fun q => absurd q hc) (fun _ => (hK _ _ _ _ h).1 ad H locs ls hI hS hL hv.t g1 g2 hn)
  · cases h
theorem as_if_gt {off : Int} (X : aFx p R s m args meth c G d k g0 o) (hK : aKok p l e R s m args below meth c Q G k g0 K o) (hd : decode (aNm k).2.1 pc = .ok (.ifCond .gt off, len)) (hl : aIl k pc (.ifCond .gt off) len t a b z = true) (h : aAct C K d k (.ifCond .gt off) len t a b z pc L st σ = some o) : aGo p l e R s m args below meth c Q G k g0 pc L st σ := by
  intro ad H locs ls hI hS hL hv g1 g2 hn
  rw [aIl, Bool.and_eq_true] at hl
  obtain ⟨hl0, hlj⟩ := hl
  obtain rfl : len = 3 := Nat.eq_of_beq_eq_true hl0
  have ht : ∀ off : Int, aJp pc off = true → (pc : Int) + off = ((aTgt pc off : Nat) : Int) := fun off q => (Int.toNat_of_nonneg (of_decide_eq_true q)).symm
  simp only [aAct] at h
  split at h
  · rename_i x r
    split at h
    · rename_i hc
      exact lv_if_gt X.1 X.2.1 hd (ht _ hlj) (fun _ => (hK _ _ _ _ h).1 ad H locs ls hI hS hL hv.t g1 g2 hn) (fun q => absurd hc q)
    · rename_i hc
      exact lv_if_gt X.1 X.2.1 hd (ht _ hlj) (fun q => absurd q hc) (fun _ => (hK _ _ _ _ h).1 ad H locs ls hI hS hL hv.t g1 g2 hn)
  · cases h
theorem as_if_le {off : Int} (X : aFx p R s m args meth c G d k g0 o) (hK : aKok p l e R s m args below meth c Q G k g0 K o) (hd : decode (aNm k).2.1 pc = .ok (.ifCond .le off, len)) (hl : aIl k pc (.ifCond .le off) len t a b z = true) (h : aAct C K d k (.ifCond .le off) len t a b z pc L st σ = some o) : aGo p l e R s m args below meth c Q G k g0 pc L st σ := by
  intro ad H locs ls hI hS hL hv g1 g2 hn
  rw [aIl, Bool.and_eq_true] at hl
  obtain ⟨hl0, hlj⟩ := hl
  obtain rfl : len = 3 := Nat.eq_of_beq_eq_true hl0
  have ht : ∀ off : Int, aJp pc off = true → (pc : Int) + off = ((aTgt pc off : Nat) : Int) := fun off q => (Int.toNat_of_nonneg (of_decide_eq_true q)).symm
  simp only [aAct] at h
  split at h
  · rename_i x r
    split at h
    · rename_i hc
      exact lv_if_le X.1 X.2.1 hd (ht _ hlj) (fun _ => (hK _ _ _ _ h).1 ad H locs ls hI hS hL hv.t g1 g2 hn) (fun q => absurd hc q)
    · rename_i hc
      exact lv_if_le X.1 X.2.1 hd (ht _ hlj) (fun q => absurd q hc) (fun _ => (hK _ _ _ _ h).1 ad H locs ls hI hS hL hv.t g1 g2 hn)
  · cases h
theorem as_icmp_eq {off : Int} (X : aFx p R s m args meth c G d k g0 o) (hK : aKok p l e R s m args below meth c Q G k g0 K o) (hd : decode (aNm k).2.1 pc = .ok (.if_icmp .eq off, len)) (hl : aIl k pc (.if_icmp .eq off) len t a b z = true) (h : aAct C K d k (.if_icmp .eq off) len t a b z pc L st σ = some o) : aGo p l e R s m args below meth c Q G k g0 pc L st σ := by
  intro ad H locs ls hI hS hL hv g1 g2 hn
  rw [aIl, Bool.and_eq_true] at hl
  obtain ⟨hl0, hlj⟩ := hl
  obtain rfl : len = 3 := Nat.eq_of_beq_eq_true hl0
  have ht : ∀ off : Int, aJp pc off = true → (pc : Int) + off = ((aTgt pc off : Nat) : Int) := fun off q => (Int.toNat_of_nonneg (of_decide_eq_true q)).symm
  simp only [aAct] at h
  split at h
  · rename_i y x r
    split at h
    · rename_i hc
      exact lv_icmp_eq X.1 X.2.1 hd (ht _ hlj) (fun _ => (hK _ _ _ _ h).1 ad H locs ls hI hS hL hv.t.t g1 g2 hn) (fun q => absurd hc q)
    · rename_i hc
      exact lv_icmp_eq X.1 X.2.1 hd (ht _ hlj) (fun q => absurd q hc) (fun _ => (hK _ _ _ _ h).1 ad H locs ls hI hS hL hv.t.t g1 g2 hn)
  · cases h
theorem as_icmp_ne {off : Int} (X : aFx p R s m args meth c G d k g0 o) (hK : aKok p l e R s m args below meth c Q G k g0 K o) (hd : decode (aNm k).2.1 pc = .ok (.if_icmp .ne off, len)) (hl : aIl k pc (.if_icmp .ne off) len t a b z = true) (h : aAct C K d k (.if_icmp .ne off) len t a b z pc L st σ = some o) : aGo p l e R s m args below meth c Q G k g0 pc L st σ := by
  intro ad H locs ls hI hS hL hv g1 g2 hn
  rw [aIl, Bool.and_eq_true] at hl
  obtain ⟨hl0, hlj⟩ := hl
  obtain rfl : len = 3 := Nat.eq_of_beq_eq_true hl0
  have ht : ∀ off : Int, aJp pc off = true → (pc : Int) + off = ((aTgt pc off : Nat) : Int) := fun off q => (Int.toNat_of_nonneg (of_decide_eq_true q)).symm
  simp only [aAct] at h
  split at h
  · rename_i y x r
    split at h
    · rename_i hc
      exact lv_icmp_ne X.1 X.2.1 hd (ht _ hlj) (fun q => absurd hc q) (fun _ => (hK _ _ _ _ h).1 ad H locs ls hI hS hL hv.t.t g1 g2 hn)
    · rename_i hc
      exact lv_icmp_ne X.1 X.2.1 hd (ht _ hlj) (fun _ => (hK _ _ _ _ h).1 ad H locs ls hI hS hL hv.t.t g1 g2 hn) (fun q => absurd q hc)
  · cases h
theorem as_icmp_lt {off : Int} (X : aFx p R s m args meth c G d k g0 o) (hK : aKok p l e R s m args below meth c Q G k g0 K o) (hd : decode (aNm k).2.1 pc = .ok (.if_icmp .lt off, len)) (hl : aIl k pc (.if_icmp .lt off) len t a b z = true) (h : aAct C K d k (.if_icmp .lt off) len t a b z pc L st σ = some o) : aGo p l e R s m args below meth c Q G k g0 pc L st σ := by
  intro ad H locs ls hI hS hL hv g1 g2 hn
  rw [aIl, Bool.and_eq_true] at hl
  obtain ⟨hl0, hlj⟩ := hl
  obtain rfl : len = 3 := Nat.eq_of_beq_eq_true hl0
  have ht : ∀ off : Int, aJp pc off = true → (pc : Int) + off = ((aTgt pc off : Nat) : Int) := fun off q => (Int.toNat_of_nonneg (of_decide_eq_true q)).symm
  simp only [aAct] at h
  split at h
  · rename_i y x r
    split at h
    · rename_i hc
      exact lv_icmp_lt X.1 X.2.1 hd (ht _ hlj) (fun _ => (hK _ _ _ _ h).1 ad H locs ls hI hS hL hv.t.t g1 g2 hn) (fun q => absurd hc q)
    · rename_i hc
      exact lv_icmp_lt X.1 X.2.1 hd (ht _ hlj) (fun q => absurd q hc) (fun _ => (hK _ _ _ _ h).1 ad H locs ls hI hS hL hv.t.t g1 g2 hn)
  · cases h
theorem as_icmp_ge {off : Int} (X : aFx p R s m args meth c G d k g0 o) (hK : aKok p l e R s m args below meth c Q G k g0 K o) (hd : decode (aNm k).2.1 pc = .ok (.if_icmp .ge off, len)) (hl : aIl k pc (.if_icmp .ge off) len t a b z = true) (h : aAct C K d k (.if_icmp .ge off) len t a b z pc L st σ = some o) : aGo p l e R s m args below meth c Q G k g0 pc L st σ := by
  intro ad H locs ls hI hS hL hv g1 g2 hn
  rw [aIl, Bool.and_eq_true] at hl
  obtain ⟨hl0, hlj⟩ := hl
  obtain rfl : len = 3 := Nat.eq_of_beq_eq_true hl0
  have ht : ∀ off : Int, aJp pc off = true → (pc : Int) + off = ((aTgt pc off : Nat) : Int) := fun off q => (Int.toNat_of_nonneg (of_decide_eq_true q)).symm
  simp only [aAct] at h
  split at h
  · rename_i y x r
    split at h
    · rename_i hc
      exact lv_icmp_ge X.1 X.2.1 hd (ht _ hlj) (fun _ => (hK _ _ _ _ h).1 ad H locs ls hI hS hL hv.t.t g1 g2 hn) (fun q => absurd hc q)
    · rename_i hc
      exact lv_icmp_ge X.1 X.2.1 hd (ht _ hlj) (fun q => absurd q hc) (fun _ => (hK _ _ _ _ h).1 ad H locs ls hI hS hL hv.t.t g1 g2 hn)
  · cases h
theorem as_icmp_gt {off : Int} (X : aFx p R s m args meth c G d k g0 o) (hK : aKok p l e R s m args below meth c Q G k g0 K o) (hd : decode (aNm k).2.1 pc = .ok (.if_icmp .gt off, len)) (hl : aIl k pc (.if_icmp .gt off) len t a b z = true) (h : aAct C K d k (.if_icmp .gt off) len t a b z pc L st σ = some o) : aGo p l e R s m args below meth c Q G k g0 pc L st σ := by
  intro ad H locs ls hI hS hL hv g1 g2 hn
  rw [aIl, Bool.and_eq_true] at hl
  obtain ⟨hl0, hlj⟩ := hl
  obtain rfl : len = 3 := Nat.eq_of_beq_eq_true hl0
  have ht : ∀ off : Int, aJp pc off = true → (pc : Int) + off = ((aTgt pc off : Nat) : Int) := fun off q => (Int.toNat_of_nonneg (of_decide_eq_true q)).symm
  simp only [aAct] at h
  split at h
  · rename_i y x r
    split at h
    · rename_i hc
      exact lv_icmp_gt X.1 X.2.1 hd (ht _ hlj) (fun _ => (hK _ _ _ _ h).1 ad H locs ls hI hS hL hv.t.t g1 g2 hn) (fun q => absurd hc q)
    · rename_i hc
      exact lv_icmp_gt X.1 X.2.1 hd (ht _ hlj) (fun q => absurd q hc) (fun _ => (hK _ _ _ _ h).1 ad H locs ls hI hS hL hv.t.t g1 g2 hn)
  · cases h
theorem as_icmp_le {off : Int} (X : aFx p R s m args meth c G d k g0 o) (hK : aKok p l e R s m args below meth c Q G k g0 K o) (hd : decode (aNm k).2.1 pc = .ok (.if_icmp .le off, len)) (hl : aIl k pc (.if_icmp .le off) len t a b z = true) (h : aAct C K d k (.if_icmp .le off) len t a b z pc L st σ = some o) : aGo p l e R s m args below meth c Q G k g0 pc L st σ := by
  intro ad H locs ls hI hS hL hv g1 g2 hn
  rw [aIl, Bool.and_eq_true] at hl
  obtain ⟨hl0, hlj⟩ := hl
  obtain rfl : len = 3 := Nat.eq_of_beq_eq_true hl0
  have ht : ∀ off : Int, aJp pc off = true → (pc : Int) + off = ((aTgt pc off : Nat) : Int) := fun off q => (Int.toNat_of_nonneg (of_decide_eq_true q)).symm
  simp only [aAct] at h
  split at h
  · rename_i y x r
    split at h
    · rename_i hc
      exact lv_icmp_le X.1 X.2.1 hd (ht _ hlj) (fun _ => (hK _ _ _ _ h).1 ad H locs ls hI hS hL hv.t.t g1 g2 hn) (fun q => absurd hc q)
    · rename_i hc
      exact lv_icmp_le X.1 X.2.1 hd (ht _ hlj) (fun q => absurd q hc) (fun _ => (hK _ _ _ _ h).1 ad H locs ls hI hS hL hv.t.t g1 g2 hn)
  · cases h
theorem as_tableswitch {df lo hi : Int} {offs : Array Int} (X : aFx p R s m args meth c G d k g0 o) (hK : aKok p l e R s m args below meth c Q G k g0 K o) (hd : decode (aNm k).2.1 pc = .ok (.tableswitch df lo hi offs, len)) (hl : aIl k pc (.tableswitch df lo hi offs) len t a b z = true) (h : aAct C K d k (.tableswitch df lo hi offs) len t a b z pc L st σ = some o) : aGo p l e R s m args below meth c Q G k g0 pc L st σ := by
  intro ad H locs ls hI hS hL hv g1 g2 hn
  rw [aIl, Bool.and_eq_true] at hl
  obtain ⟨hl0, hlj⟩ := hl
  have ht : ∀ off : Int, aJp pc off = true → (pc : Int) + off = ((aTgt pc off : Nat) : Int) := fun off q => (Int.toNat_of_nonneg (of_decide_eq_true q)).symm
  simp only [aAct] at h
  split at h
  · rename_i x r
    split at h
    · rename_i hc
      exact lv_tableOut X.1 X.2.1 hd hc (ht _ hl0) ((hK _ _ _ _ h).1 ad H locs ls hI hS hL hv.t g1 g2 hn)
    · rename_i hc
      split at h
      · rename_i off ho
        exact lv_tableIn X.1 X.2.1 hd (fun q => hc (Or.inl q)) (fun q => hc (Or.inr q)) (by rw [← Array.getElem?_toList]; exact ho) (ht _ (List.all_eq_true.mp hlj _ (List.mem_of_getElem? ho))) ((hK _ _ _ _ h).1 ad H locs ls hI hS hL hv.t g1 g2 hn)
      · cases h
  · cases h
theorem aOff {pc : Nat} {df : Int} (hd : aJp pc df = true) (x : Int) : ∀ ps : List (Int × Int), ps.all (fun q => aJp pc q.2) = true → aJp pc (Op.lookupswitch.offset ps df x) = true
  | [], _ => hd
  | (a, b) :: r, h => by
    rw [List.all_cons, Bool.and_eq_true] at h
    rw [Op.lookupswitch.offset_cons]
    split
    · exact h.1
    · exact aOff hd x r h.2
theorem as_lookupswitch {df : Int} {ps : Array (Int × Int)} (X : aFx p R s m args meth c G d k g0 o) (hK : aKok p l e R s m args below meth c Q G k g0 K o) (hd : decode (aNm k).2.1 pc = .ok (.lookupswitch df ps, len)) (hl : aIl k pc (.lookupswitch df ps) len t a b z = true) (h : aAct C K d k (.lookupswitch df ps) len t a b z pc L st σ = some o) : aGo p l e R s m args below meth c Q G k g0 pc L st σ := by
  intro ad H locs ls hI hS hL hv g1 g2 hn
  rw [aIl, Bool.and_eq_true, Bool.and_eq_true] at hl
  obtain ⟨⟨hl0, hlj⟩, hl2⟩ := hl
  have ht : ∀ off : Int, aJp pc off = true → (pc : Int) + off = ((aTgt pc off : Nat) : Int) := fun off q => (Int.toNat_of_nonneg (of_decide_eq_true q)).symm
  simp only [aAct] at h
  split at h
  · rename_i x r
    exact lv_lookup X.1 X.2.1 hd hl2 rfl (ht _ (aOff hl0 _ _ hlj)) ((hK _ _ _ _ h).1 ad H locs ls hI hS hL hv.t g1 g2 hn)
  · cases h
end Snd1
