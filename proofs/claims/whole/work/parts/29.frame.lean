/-! counters only grow; answers are ints or longs -/
def aLe (σ : aS) (o : aO) : Prop := (σ.1.2.1 ≤ o.2.1.2.1 ∧ σ.1.2.2 ≤ o.2.1.2.2) ∧ ∀ w, o.1 = some (some w) → (∃ x, w = .int x) ∨ ∃ x, w = .long x
set_option maxHeartbeats 4000000 in
set_option maxRecDepth 100000 in
theorem aAct_le {C : Nat → Nat → List Value → aS → Option aO} {K : Nat → List Value → List Value → aS → Option aO} {d k : Nat} {i : Instr} {len t a b : Nat} {z : Int} {pc : Nat} {L st : List Value} {σ : aS} {o : aO}
    (hK : ∀ pc' L' st' σ', K pc' L' st' σ' = some o → aLe σ' o) (hC : ∀ e k' as τ q, C e k' as τ = some q → aLe τ q) (h : aAct C K d k i len t a b z pc L st σ = some o) : aLe σ o := by
  have kc : aCall C d k a st σ (fun r τ => K (pc + 3) L r τ) = some o → aLe σ o := by
    intro h
    obtain ⟨e', v, st', τ, -, -, -, g1, -, g3, -⟩ := aCall_use h
    have h1 := (hC _ _ _ _ _ g1).1
    have h2 := hK _ _ _ _ g3
    exact ⟨⟨Nat.le_trans h1.1 h2.1.1, Nat.le_trans h1.2 h2.1.2⟩, h2.2⟩
  have kn : ∀ {n : Nat} {L' st' : List Value} {pc' : Nat}, K pc' L' st' (aNew σ 1 n) = some o → aLe σ o := by
    intro n L' st' pc' h
    have h2 := hK _ _ _ _ h
    exact ⟨⟨Nat.le_trans (Nat.le_add_right _ _) h2.1.1, Nat.le_trans (Nat.le_add_right _ _) h2.1.2⟩, h2.2⟩
  have ks : ∀ {σ' : aS} {L' st' : List Value} {pc' : Nat}, K pc' L' st' σ' = some o → σ'.1 = σ.1 → aLe σ o := by
    intro σ' L' st' pc' h e
    have h2 := hK _ _ _ _ h
    unfold aLe at h2 ⊢
    rw [e] at h2
    exact h2
  have ke0 : aLe σ (some none, σ) := ⟨⟨Nat.le_refl _, Nat.le_refl _⟩, fun w hw => by cases hw⟩
  have ke1 : ∀ x : Int32, aLe σ (some (some (.int x)), σ) := fun x => ⟨⟨Nat.le_refl _, Nat.le_refl _⟩, fun w hw => by cases hw; exact Or.inl ⟨_, rfl⟩⟩
  have ke2 : ∀ x : Int64, aLe σ (some (some (.long x)), σ) := fun x => ⟨⟨Nat.le_refl _, Nat.le_refl _⟩, fun w hw => by cases hw; exact Or.inr ⟨_, rfl⟩⟩
  have ket : aLe σ (none, aNew σ 0 6) := ⟨⟨Nat.le_add_right _ _, Nat.le_add_right _ _⟩, fun w hw => by cases hw⟩
  unfold aAct at h
  split at h
  all_goals first
    | exact hK _ _ _ _ h
    | (cases h; done)
    | skip
  all_goals (repeat' split at h)
  all_goals first
    | (cases h; done)
    | exact hK _ _ _ _ h
    | exact kc h
    | exact kn h
    | exact ks h rfl
    | (cases h; exact ke1 _)
    | (cases h; exact ke2 _)
    | (cases h; exact ke0)
    | (cases h; exact ket)
    | (rcases aCallH_use h with ⟨e, -, -, -, ⟨v, st', τ, g1, -, g3, g4⟩ | ⟨τ, g1, g3, g4⟩⟩
       · have h1 := (hC _ _ _ _ _ g1).1
         have h2 := hK _ _ _ _ g3
         exact ⟨⟨Nat.le_trans h1.1 h2.1.1, Nat.le_trans h1.2 h2.1.2⟩, h2.2⟩
       · have h1 := (hC _ _ _ _ _ g1).1
         have h2 := hK _ _ _ _ g3
         exact ⟨⟨Nat.le_trans h1.1 h2.1.1, Nat.le_trans h1.2 h2.1.2⟩, h2.2⟩)
theorem aX_grow : ∀ (n d k pc : Nat) (L st : List Value) (σ : aS) (o : aO), aX n d k pc L st σ = some o → aLe σ o := by
  intro n
  induction n with
  | zero => intro d k pc L st σ o h; cases h
  | succ n ih =>
    intro d k pc L st σ o h
    unfold aX aStep at h
    split at h
    · cases h
    · exact aAct_le (fun _ _ _ _ q => ih _ _ _ _ _ _ _ q) (fun _ _ _ _ _ q => ih _ _ _ _ _ _ _ q) h
/-- every frame of a method of the tables -/
def aFr (n : Nat) : Prop := ∀ (d k g pc : Nat) (L st : List Value) (σ : aS) (o : aO), aX n d k pc L st σ = some o → aPl k g = true → o.1 ≠ none →
  ∀ (p : Program) (l : Launch) (e : Env) (R : Room) (s : State) (m : MethodId) (args : Array Value) (below : List Frame) (meth : Method) (c : Code) (Q : State → Prop) (G : aEnv) (g0 : Nat × Nat),
    aFx p R s m args meth c G d k g0 o → aEnd p l e R s m args below meth c Q G k g0 o → aGo p l e R s m args below meth c Q G k g0 pc L st σ
theorem aSlots_len (as : List Value) (h : ∀ v ∈ as, ∀ x, v ≠ .double x) : (aSlots as).length = aW as := by
  induction as with
  | nil => rfl
  | cons v r ih =>
    have ih := ih (fun w hw => h w (List.mem_cons_of_mem _ hw))
    have hv := h v List.mem_cons_self
    unfold aW at ih ⊢
    rw [List.map_cons, List.sum_cons]
    cases v with
    | long x => simp [aSlots, Value.category, ih]; omega
    | double x => exact absurd rfl (hv x)
    | _ => simp [aSlots, Value.category, ih]; omega
theorem aSlots_get {G : aEnv} {ad : List Nat} : ∀ (as : List Value) (i j : Nat) (v : Value), (∀ v ∈ as, ∀ x, v ≠ .double x) → (aSlots as)[j]? = some v → v ≠ aNo → (i + j, aUp G ad v) ∈ lv_args i (as.map (aUp G ad))
  | [], i, j, v, _, h, _ => by cases h
  | w :: r, i, j, v, hd, h, hv => by
    have hw := hd w List.mem_cons_self
    have hr : ∀ v ∈ r, ∀ x, v ≠ .double x := fun u hu => hd u (List.mem_cons_of_mem _ hu)
    rw [List.map_cons]
    unfold lv_args
    rw [aUp_cat]
    by_cases hl : w.category = 2
    · obtain ⟨x, rfl⟩ : ∃ x, w = .long x := by
        cases w with
        | long x => exact ⟨x, rfl⟩
        | double x => exact absurd rfl (hw x)
        | _ => cases hl
      rw [if_pos hl]
      match j, h with
      | 0, h => cases h; exact List.mem_cons_self
      | 1, h => cases h; exact absurd rfl hv
      | j + 2, h =>
        have := aSlots_get (G := G) (ad := ad) r (i + 2) j v hr h hv
        rw [show i + (j + 2) = i + 2 + j by omega]
        exact List.mem_cons_of_mem _ this
    · rw [if_neg hl]
      have e : aSlots (w :: r) = w :: aSlots r := by
        cases w with
        | long x => exact absurd rfl hl
        | _ => rfl
      rw [e] at h
      match j, h with
      | 0, h => cases h; exact List.mem_cons_self
      | j + 1, h =>
        have := aSlots_get (G := G) (ad := ad) r (i + 1) j v hr h hv
        rw [show i + (j + 1) = i + 1 + j by omega]
        exact List.mem_cons_of_mem _ this
theorem aSlots_mem {n : Nat} : ∀ (as : List Value), aVs n as → ∀ v ∈ aSlots as, aVk n v
  | [], _, v, h => by cases h
  | w :: r, hd, v, h => by
    have hr := aSlots_mem r hd.t
    cases w with
    | long x =>
      rcases List.mem_cons.mp h with rfl | h
      · trivial
      · rcases List.mem_cons.mp h with rfl | h
        · trivial
        · exact hr v h
    | _ =>
      rcases List.mem_cons.mp h with rfl | h
      · exact hd.h
      · exact hr v h
theorem aLr_entry {G : aEnv} {ad : List Nat} {n N : Nat} {as : List Value} (hv : aVs n as) (hw : aW as ≤ N) : aLr G ad n ((lg_sl (as.map (aUp G ad)) ++ List.replicate (N - (lg_sl (as.map (aUp G ad))).length) Slot.unset).toArray) (aLoc N as) ∧ (aLoc N as).length = N := by
  have hd : ∀ v ∈ as, ∀ x, v ≠ .double x := fun v h x q => by
    have := hv v h
    rw [q] at this
    exact this
  have hl := aSlots_len as hd
  have hsl : (lg_sl (as.map (aUp G ad))).length = aW as := by
    rw [← aW_map (G := G) (ad := ad) as]
    generalize as.map (aUp G ad) = vs
    unfold lg_sl
    induction vs with
    | nil => rfl
    | cons v r ih =>
      rw [List.flatMap_cons, List.length_append, ih, List.map_cons, List.sum_cons]
      rcases lv_cat v with h | h <;> simp [h]
  have hlen : (aLoc N as).length = N := by
    unfold aLoc
    rw [List.length_append, List.length_replicate, hl]
    omega
  have hh := lv_entry (as.map (aUp G ad)) (n := N) (by rw [hsl]; exact hw)
  refine ⟨⟨hh.1.trans hlen.symm, hh.2.1, fun i v hi hne => ?_, fun v h => ?_⟩, hlen⟩
  · unfold aLoc at hi
    by_cases hlt : i < (aSlots as).length
    · rw [List.getElem?_append_left hlt] at hi
      have h1 := aSlots_get (G := G) (ad := ad) as 0 i v hd hi hne
      rw [Nat.zero_add] at h1
      exact hh.2.2 _ h1
    · rw [List.getElem?_append_right (by omega)] at hi
      have := List.mem_of_getElem? hi
      rw [List.mem_replicate] at this
      exact absurd this.2 hne
  · unfold aLoc at h
    rcases List.mem_append.mp h with h | h
    · exact aSlots_mem as hv v h
    · rw [(List.mem_replicate.mp h).2]
      trivial
theorem aRk_0 {r : Option FieldType} (h : aRk r = 0) : r = none := by
  cases r with
  | none => rfl
  | some ty => cases ty <;> cases h
theorem aRk_s {r : Option FieldType} {n : Nat} (hn : n = 1 ∨ n = 2 ∨ n = 3 ∨ n = 4 ∨ n = 5) (h : aRk r = n) : (n = 1 ∧ r = some .int) ∨ (n = 2 ∧ r = some .long) ∨ (n = 3 ∧ r = some .boolean) ∨ (n = 4 ∧ r = some .char) ∨ (n = 5 ∧ r = some .byte) := by
  cases r with
  | none => simp [aRk] at h; omega
  | some ty => cases ty <;> simp [aRk] at h <;> subst h <;> simp at hn ⊢
/-- a method by its contract, out of its frames -/
theorem aMet_of {n : Nat} (IH : aFr n) {l : Launch} {G : aEnv} {d k g : Nat} {as : List Value} {σ τ : aS} {v : Option Value} (h : aX n d k 0 (aLoc (aMt k).2.2.1 as) [] σ = some (some v, τ)) (hp : aPl k g = true) (hw : aW as ≤ (aMt k).2.2.1) : aMet l G d k as σ v τ := by
  obtain ⟨⟨le1, le2⟩, hvv⟩ := aX_grow _ _ _ _ _ _ _ _ h
  refine ⟨⟨le1, le2⟩, fun w hw => ?_, fun ad had hvs => ?_⟩
  · rcases hvv w (by rw [hw]) with ⟨x, rfl⟩ | ⟨x, rfl⟩ <;> trivial
  · obtain ⟨w1, w2, wk, wl, wr, wpl, wm, wv⟩ := aKn_of hp
    refine Met.ofW (cc := (aNm k).2.1) (maxL := (aMt k).2.2.1) (ret := (aNm k).2.2) wpl rfl ?_
    intro p e s m args below meth c s₁ B hml hPc
    obtain ⟨rfl, hI, hB, hn0⟩ := hPc
    have hlocks := B.notSynchronized
    have hts := atoms_spec (ws := aCd k :: aTb) B.pre
    have hown : s.vm.findClass (aOw (aOn k)) = some m.cls := by
      obtain ⟨p1, p2, p3, p4, hq⟩ := aPl_get hp
      rw [← aOn_ok k (aM_lt _ hq)]
      exact findClass_of_methodNamed B.named
    have X : aFx p (headSpec (aCd k :: aTb) (aRm d k (τ.1.2.1 - σ.1.2.1) (τ.1.2.2 - σ.1.2.2))).room s m (as.map (aUp G ad)).toArray meth c (aG0 G ad) d k (σ.1.2.1, σ.1.2.2) (some v, τ) :=
      ⟨B.exec, B.bytes, hml, hown, fun w hw => hts w (List.mem_cons_of_mem _ hw), hB, hn0, (name_of_methodNamed B.named B.method).1, Nat.le_refl _, Nat.le_refl _, by show τ.1.2.1 ≤ σ.1.2.1 + (τ.1.2.1 - σ.1.2.1); omega, by show τ.1.2.2 ≤ σ.1.2.2 + (τ.1.2.2 - σ.1.2.2); omega⟩
    have hE : aEnd p l e (headSpec (aCd k :: aTb) (aRm d k (τ.1.2.1 - σ.1.2.1) (τ.1.2.2 - σ.1.2.2))).room s m (as.map (aUp G ad)).toArray below meth c (MQ below (aPost G ad v τ) (as.map (aUp G ad)).toArray s (τ.1.2.1 - σ.1.2.1) (τ.1.2.2 - σ.1.2.2) (aA G)) (aG0 G ad) k (σ.1.2.1, σ.1.2.2) (some v, τ) := by
      intro pc i v' ad' H locs ls hd hlast hov hI' hS'
      cases hov
      have hq : ∀ t : State, t.heap = H → aPost G ad v τ (as.map (aUp G ad)).toArray s (.returned (v.map (aUp G ad'))) t := by
        intro t ht
        obtain ⟨x, hx, hI2⟩ := aInv_out hI hI'
        subst hx
        exact ⟨x, rfl, by rw [ht]; exact hI2, hS'.F ht⟩
      have hf : ∀ q ∈ locs, aA G q.base := hS'.2.2
      rcases hlast with ⟨rfl, hr, rfl⟩ | ⟨rfl, hr, x, rfl⟩ | ⟨rfl, x, rfl, hr⟩
      · exact W.vret B.exec B.bytes (by rw [B.returns]; exact aRk_0 (wk.trans hr)) (fun t ht _ => hq t ht) hf hd hlocks
      · rcases aRk_s (Or.inr (Or.inl hr)) wk with ⟨q, -⟩ | ⟨-, q⟩ | ⟨q, -⟩ | ⟨q, -⟩ | ⟨q, -⟩ <;> first | omega | skip
        exact W.lret B.exec B.bytes (by rw [B.returns]; exact q) (fun t ht _ => hq t ht) hf hd hlocks
      · rcases hr with hr | ⟨hr, hx⟩ | ⟨hr, hx⟩ | ⟨hr, hx⟩
        · rcases aRk_s (Or.inl hr) wk with ⟨-, q⟩ | ⟨q, -⟩ | ⟨q, -⟩ | ⟨q, -⟩ | ⟨q, -⟩ <;> first | omega | skip
          exact W.iret B.exec B.bytes (by rw [B.returns]; exact q) (fun t ht _ => hq t ht) hf hd hlocks
        · rcases aRk_s (Or.inr (Or.inr (Or.inl hr))) wk with ⟨q, -⟩ | ⟨q, -⟩ | ⟨-, q⟩ | ⟨q, -⟩ | ⟨q, -⟩ <;> first | omega | skip
          exact W.zret B.exec B.bytes (by rw [B.returns]; exact q) hx (fun t ht _ => hq t ht) hf hd hlocks
        · rcases aRk_s (Or.inr (Or.inr (Or.inr (Or.inl hr)))) wk with ⟨q, -⟩ | ⟨q, -⟩ | ⟨q, -⟩ | ⟨-, q⟩ | ⟨q, -⟩ <;> first | omega | skip
          exact W.zret B.exec B.bytes (by rw [B.returns]; exact q) hx (fun t ht _ => hq t ht) hf hd hlocks
        · rcases aRk_s (Or.inr (Or.inr (Or.inr (Or.inr hr)))) wk with ⟨q, -⟩ | ⟨q, -⟩ | ⟨q, -⟩ | ⟨q, -⟩ | ⟨-, q⟩ <;> first | omega | skip
          exact W.zret B.exec B.bytes (by rw [B.returns]; exact q) hx (fun t ht _ => hq t ht) hf hd hlocks
    have hgo := IH d k g 0 _ [] σ _ h hp (by intro q; cases q) p l e _ s m _ below meth c _ (aG0 G ad) (σ.1.2.1, σ.1.2.2) X hE
    obtain ⟨hLr, hLl⟩ := aLr_entry (G := aG0 G ad) (ad := ad) hvs hw
    have := hgo ad s.heap [] _ (aInv_in hI) va_S.rf hLr (fun v hv => by cases hv) (Nat.le_refl _) (Nat.le_refl _) hLl
    rw [lg_entry_eq]
    simp only [Nat.sub_self] at this
    exact this
theorem aFr_all : ∀ n, aFr n := by
  intro n
  induction n with
  | zero => intro d k g pc L st σ o h; cases h
  | succ n ih =>
    intro d k g pc L st σ o h hp ho p l e R s m args below meth c Q G g0 X hE
    unfold aX aStep at h
    split at h
    · cases h
    · rename_i i len t a b z hf
      obtain ⟨hd, hl, hm⟩ := aInstr hp hf
      refine aAct_snd X ?_ ?_ hE ho hd hl hm h
      · intro pc' L' st' σ' hk
        have hle := aX_grow _ _ _ _ _ _ _ _ hk
        exact ⟨ih d k g pc' L' st' σ' o hk hp ho p l e R s m args below meth c Q G g0 X hE, hle.1.1, hle.1.2⟩
      · intro e' k' as τ0 v τ g' hc hp' _ hw
        exact aMet_of ih hc hp' hw
/-- WHAT A METHOD COMES TO at the abstract machine, it does at the machine -/
theorem aMet_all {l : Launch} {G : aEnv} {d k g : Nat} {as : List Value} {σ τ : aS} {v : Option Value} (h : aF d k as σ = some (some v, τ)) (hp : aPl k g = true) (hw : aW as ≤ (aMt k).2.2.1) : aMet l G d k as σ v τ := by
  obtain ⟨n, hn⟩ := aE_to h
  exact aMet_of (aFr_all n) hn hp hw
