/-! calls -/
def aPl (k g : Nat) : Bool := aML.any (fun q => Nat.beq q.1 k && Nat.beq q.2.1 g)
theorem aGd {ws : List Cond} {w : Cond} (h : GoodIn lw_tbl ws) (hw : w ∈ ws) : w ∈ aTb := by
  obtain ⟨h1, h2⟩ := h w hw
  refine List.mem_filter.mpr ⟨h1, ?_⟩
  rcases h2 with h2 | ⟨ty, rfl⟩
  · cases w <;> first | exact h2 | rfl
  · rfl
theorem aGi {ws : List Cond} (h : ∀ w ∈ ws, w ∈ aTb) : GoodIn aTb ws := fun w hw => ⟨h w hw, good_of_word (List.mem_filter.mp (h w hw)).2⟩
theorem aMC_in : ∀ q ∈ aML, aCd q.1 ∈ aTb := by
  intro q h
  unfold aML at h
  simp only [List.mem_append] at h
  rcases h with h | h | h | h | h | h | h | h
  · exact aGd aMC0 (List.mem_map.mpr ⟨q, h, rfl⟩)
  · exact aGd aMC1 (List.mem_map.mpr ⟨q, h, rfl⟩)
  · exact aGd aMC2 (List.mem_map.mpr ⟨q, h, rfl⟩)
  · exact aGd aMC3 (List.mem_map.mpr ⟨q, h, rfl⟩)
  · exact aGd aMC4 (List.mem_map.mpr ⟨q, h, rfl⟩)
  · exact aGd aMC5 (List.mem_map.mpr ⟨q, h, rfl⟩)
  · exact aGd aMC6 (List.mem_map.mpr ⟨q, h, rfl⟩)
  · exact aGd aMC7 (List.mem_map.mpr ⟨q, h, rfl⟩)
/-- what is known of a method that is called: its words, its parameters, its kind of answer -/
def aKn (k : Nat) : Prop := aCd k ∈ aTb ∧ Cond.initialized (aNm k).1.cls ∈ aTb ∧ aRk (aNm k).2.2 = (aMt k).2.2.2.1 ∧ (aMt k).2.2.1 ≤ 11 ∧ (aMt k).2.2.2.2 ≤ 14 ∧ plainName (aNm k).1.cls = true ∧ (aNm k).1.cls ≠ "java/lang/invoke/MethodHandle" ∧ (aNm k).1.cls ≠ "java/lang/invoke/VarHandle"
theorem aPl_get {k g : Nat} (h : aPl k g = true) : ∃ p1 p2 p3 p4, (k, g, p1, p2, p3, p4) ∈ aML := by
  unfold aPl at h
  obtain ⟨⟨k1, g1, p1, p2, p3, p4⟩, h1, h2⟩ := List.any_eq_true.mp h
  rw [Bool.and_eq_true] at h2
  cases Nat.eq_of_beq_eq_true h2.1
  cases Nat.eq_of_beq_eq_true h2.2
  exact ⟨p1, p2, p3, p4, h1⟩
theorem aKn_of {k g : Nat} (h : aPl k g = true) : aKn k := by
  obtain ⟨p1, p2, p3, p4, hq⟩ := aPl_get h
  have hk := aML_ok _ hq
  unfold aMk at hk
  dsimp only at hk
  rw [Bool.and_eq_true, Bool.and_eq_true] at hk
  obtain ⟨⟨h1, h2⟩, -⟩ := hk
  unfold aMs at h1
  simp only [Bool.and_eq_true, decide_eq_true_eq] at h1
  obtain ⟨⟨⟨⟨⟨a1, a2⟩, a3⟩, a4⟩, a5⟩, a6⟩ := h1
  exact ⟨aMC_in _ hq, aWd_in h2, a1, a2, a3, a4, a5, a6⟩
theorem aPl0 {k : Nat} (h : aPl k 0 = true) : Cond.static (aNm k).1 ∈ aTb ∧ (parseMethodDescriptor (aNm k).1.desc).map (fun d => d.parameters.length) = some (aMt k).2.1 := by
  obtain ⟨p1, p2, p3, p4, hq⟩ := aPl_get h
  have hk := aML_ok _ hq
  unfold aMk at hk
  dsimp only at hk
  rw [Bool.and_eq_true] at hk
  obtain ⟨h2, h3⟩ := (Bool.and_eq_true _ _).mp hk.2
  exact ⟨aWd_in h2, of_decide_eq_true h3⟩
theorem aPl1 {k : Nat} (h : aPl k 1 = true) : Cond.instanceMethod (aNm k).1 ∈ aTb ∧ Cond.selects (aNm k).1.cls (aNm k).1 (aNm k).1 ∈ aTb ∧ ∃ n, (aMt k).2.1 = n + 1 ∧ (parseMethodDescriptor (aNm k).1.desc).map (fun d => d.parameters.length) = some n := by
  obtain ⟨p1, p2, p3, p4, hq⟩ := aPl_get h
  have hk := aML_ok _ hq
  unfold aMk at hk
  dsimp only at hk
  rw [Bool.and_eq_true] at hk
  have h2 := hk.2
  simp only [Bool.and_eq_true, decide_eq_true_eq] at h2
  obtain ⟨⟨⟨b1, b2⟩, b3⟩, -⟩ := h2
  refine ⟨aWd_in b1, aWd_in b2, ?_⟩
  cases hp : parseMethodDescriptor (aNm k).1.desc with
  | none => rw [hp] at b3; cases b3
  | some sg =>
    rw [hp] at b3
    exact ⟨sg.parameters.length, (Option.some.inj b3).symm, rfl⟩
theorem aPl2 {k : Nat} (h : aPl k 2 = true) : Cond.instanceMethod (aNm k).1 ∈ aTb ∧ (aNm k).1.name = "<init>" ∧ (aNm k).2.2 = none ∧ ∃ n, (aMt k).2.1 = n + 1 ∧ (parseMethodDescriptor (aNm k).1.desc).map (fun d => d.parameters.length) = some n := by
  obtain ⟨p1, p2, p3, p4, hq⟩ := aPl_get h
  have hk := aML_ok _ hq
  unfold aMk at hk
  dsimp only at hk
  rw [Bool.and_eq_true] at hk
  have h2 := hk.2
  simp only [Bool.and_eq_true, decide_eq_true_eq] at h2
  obtain ⟨⟨⟨b1, b2⟩, b4⟩, b3⟩ := h2
  refine ⟨aWd_in b1, b2, b4, ?_⟩
  cases hp : parseMethodDescriptor (aNm k).1.desc with
  | none => rw [hp] at b3; cases b3
  | some sg =>
    rw [hp] at b3
    exact ⟨sg.parameters.length, (Option.some.inj b3).symm, rfl⟩
theorem aDp_room {d k k' e : Nat} (h : aDp d k k' = some e) (hr : (aMt k').2.2.2.2 ≤ 14) : (aMt k').2.2.2.2 + 16 * e + 8 + 1 ≤ (aMt k).2.2.2.2 + 16 * d + 8 := by
  unfold aDp at h
  split at h
  · cases h; omega
  · split at h
    · cases h
    · cases h; omega
theorem aW_rev {st : List Value} {n : Nat} (h : aW st ≤ n) : aW st.reverse ≤ n := by
  unfold aW at h ⊢
  rw [List.map_reverse, List.sum_reverse]
  exact h
theorem aLrm {f f' r n : Nat} (h1 : f + 1 ≤ f') (h2 : 41 * f' ≤ r) (h3 : n ≤ 11) : 8 + (n + 11) + 41 * f ≤ r := by omega
theorem aStk {G : aEnv} {ad : List Nat} (st : List Value) (n : Nat) : st.map (aUp G ad) = (((st.take n).reverse).map (aUp G ad)).reverse ++ (st.drop n).map (aUp G ad) := by
  rw [List.map_reverse, List.reverse_reverse, ← List.map_append, List.take_append_drop]
theorem aTake {st : List Value} {n : Nat} {w : Value} (h : st[n]? = some w) : (st.take (n + 1)).reverse = w :: (st.take n).reverse := by
  rw [List.take_add_one, h]
  simp
theorem aRc_get {st : List Value} {n kd : Nat} (h : aRc st (n + 1) kd = true) : ∃ ob : Nat, st[n]? = some (.ref ob) ∧ aKd ob = kd := by
  unfold aRc at h
  rw [Nat.add_sub_cancel] at h
  split at h
  · rename_i ob ho
    exact ⟨ob, ho, Nat.eq_of_beq_eq_true h⟩
  · cases h
theorem aBlind {G : aEnv} {ad : List Nat} {σ : aS} (av : List Value) : FrameBlind (va_Pc av (aPre G ad σ)) := by
  rintro a U g mk ⟨h1, h2, h3, h4⟩
  exact ⟨h1, h2, h3.go (State.WarmedH.refl U) (fun _ _ _ => rfl), h4⟩
section Snd2
variable {p : Program} {l : Launch} {e : Env} {R : Room} {s : State} {m : MethodId} {args : Array Value} {below : List Frame} {meth : Method} {c : Code} {Q : State → Prop} {G : aEnv} {d k : Nat} {g0 : Nat × Nat} {C : Nat → Nat → List Value → aS → Option aO} {K : Nat → List Value → List Value → aS → Option aO} {o : aO} {len t a b : Nat} {z : Int} {pc : Nat} {L st : List Value} {σ : aS}
/-- behind a call that returned -/
theorem aCall_go (hK : aKok p l e R s m args below meth c Q G k g0 K o) {ad : List Nat} {H : Heap} {locs : List Loc} {ls : Array Slot} {st0 rest st' : List Value} {v : Option Value} {τ : aS} {a0 : Array Value} {r mc ms : Nat} (hI : aInv G ad σ H) (hS : va_S (aA G) s.heap H locs) (hL : aLr G ad σ.1.1 ls L) (hvr : aVs σ.1.1 rest) (g1 : g0.1 ≤ σ.1.2.1) (g2 : g0.2 ≤ σ.1.2.2) (hn : L.length = (aMt k).2.2.1)
    (le1 : σ.1.2.1 ≤ τ.1.2.1) (le2 : σ.1.2.2 ≤ τ.1.2.2) (hvv : ∀ w, v = some w → aVk τ.1.1 w) (emc : mc = τ.1.2.1 - σ.1.2.1) (ems : ms = τ.1.2.2 - σ.1.2.2)
    (hr : va_Run p l e R s m args below meth c H locs (σ.1.2.1 - g0.1) (σ.1.2.2 - g0.2) mc ms (F0 m pc ls st0) (rest.map (aUp G ad)) (aPost G ad v τ a0) (aA G)) (hans : aAns r v rest st') (h : K (pc + 3) L st' τ = some o) : W p l e R s m args below meth c H locs (σ.1.2.1 - g0.1) (σ.1.2.2 - g0.2) Q (F0 m pc ls st0) := by
  intro T hT X
  obtain ⟨v9, st₀, t, T', L9, h0, X', hL9, e1, e2, ⟨x, hv9, hI9, hz, hk⟩, hst⟩ := hr T hT X
  cases hv9
  rw [h0] at hz hk
  have hcnt : σ.1.1 ≤ τ.1.1 := by
    have q1 := hI.1
    have q2 := hI9.1
    rw [List.length_append] at q2
    omega
  have hS9 : va_S (aA G) s.heap t.heap (locs ++ L9) := by
    refine ⟨Nat.le_trans hS.1 hz, fun q q1 q2 => ?_, fun q hq => ?_⟩
    · rw [hk q (Nat.lt_of_lt_of_le q1 hS.1) q2]
      exact hS.2.1 q q1 q2
    · rcases List.mem_append.mp hq with q1 | q1
      · exact hS.2.2 q q1
      · exact hL9 q q1
  have hvr9 : aVs τ.1.1 rest := fun w hw => aVk_le hcnt (hvr w hw)
  have hvs : aVs τ.1.1 st' := by
    rcases hans with ⟨-, -, rfl⟩ | ⟨-, y, -, rfl⟩ | ⟨-, -, y, -, rfl⟩
    · exact hvr9
    · exact aVs.c trivial hvr9
    · exact aVs.c trivial hvr9
  have hst9 : st'.map (aUp G (ad ++ x)) = (v.map (aUp G (ad ++ x))).toList ++ rest.map (aUp G ad) := by
    rw [← aUp_map x hI.1 hvr]
    rcases hans with ⟨-, rfl, rfl⟩ | ⟨-, y, rfl, rfl⟩ | ⟨-, -, y, rfl, rfl⟩ <;> rfl
  have kk := (hK _ _ _ _ h).1 (ad ++ x) t.heap (locs ++ L9) ls hI9 hS9 (aLr_app x hI.1 hcnt hL) hvs (Nat.le_trans g1 le1) (Nat.le_trans g2 le2) hn
  rw [hst9] at kk
  obtain ⟨t2, a1, b1⟩ := kk T' e1 (by
    have q1 : τ.1.2.1 - g0.1 = σ.1.2.1 - g0.1 + mc := by omega
    have q2 : τ.1.2.2 - g0.2 = σ.1.2.2 - g0.2 + ms := by omega
    rw [q1, q2]
    exact X')
  exact ⟨t2, hst t2 a1, b1⟩
theorem aPreU (X : aFx p R s m args meth c G d k g0 o) {ad : List Nat} {H : Heap} {locs : List Loc} (hI : aInv G ad σ H) (hS : va_S (aA G) s.heap H locs) (av : List Value) : ∀ U : State, U.heap = H → s.WarmedH U.vm → va_Pc av (aPre G ad σ) av.toArray U := by
  intro U hU hW
  refine ⟨rfl, by rw [hU]; exact hI, ?_, ?_⟩
  · refine X.2.2.2.2.2.1.go hW (fun q q1 q2 => ?_)
    rw [hU]
    exact hS.2.1 q q1 q2
  · rw [hU]
    exact Nat.le_trans X.2.2.2.2.2.2.1 hS.1
/-- calls that AM says return, do so at the machine -/
def aCok (l : Launch) (G : aEnv) (C : Nat → Nat → List Value → aS → Option aO) : Prop := ∀ e k' as τ0 v τ g, C e k' as τ0 = some (some v, τ) → aPl k' g = true → as.length = (aMt k').2.1 → aW as ≤ (aMt k').2.2.1 → aMet l G e k' as τ0 v τ
theorem aVs_take {n : Nat} {st : List Value} (j : Nat) (h : aVs n st) : aVs n ((st.take j).reverse) := fun v hv => h v (List.mem_of_mem_take (List.mem_reverse.mp hv))
theorem aVs_drop {n : Nat} {st : List Value} (j : Nat) (h : aVs n st) : aVs n (st.drop j) := fun v hv => h v (List.mem_of_mem_drop hv)

theorem as_static {ix : Nat} (X : aFx p R s m args meth c G d k g0 o) (hK : aKok p l e R s m args below meth c Q G k g0 K o) (hC : aCok l G C) (hp : aPl a 0 = true) (hd : decode (aNm k).2.1 pc = .ok (.invokestatic ix, 3)) (hlk : aInM aMLk (aOn k) ix a = true) (h : aCall C d k a st σ (fun r τ => K (pc + 3) L r τ) = some o) : aGo p l e R s m args below meth c Q G k g0 pc L st σ := by
  intro ad H locs ls hI hS hL hv g1 g2 hn
  obtain ⟨e', v, st', τ, h1, ⟨h2, h3⟩, hdp, hC0, hans, hKK, -⟩ := aCall_use h
  obtain ⟨w1, w2, -, wl, wr, -, wm, wv⟩ := aKn_of hp
  obtain ⟨ws, wp⟩ := aPl0 hp
  obtain ⟨⟨le1, le2⟩, hvv, hM⟩ := hC e' a _ σ v τ 0 hC0 hp (by simp [h1]) (aW_rev h3)
  have hM := hM ad hI.1 (aVs_take _ hv)
  have hk1 := (hK _ _ _ _ hKK).2
  have r1 := X.2.2.2.2.2.2.2.2.2.2.1
  have r2 := X.2.2.2.2.2.2.2.2.2.2.2
  have hfr := X.2.2.2.2.2.2.2.2.1
  have hlo := X.2.2.2.2.2.2.2.2.2.1
  have hrm := aDp_room hdp wr
  refine aCall_go hK hI hS hL (aVs_drop _ hv) g1 g2 hn le1 le2 hvv rfl rfl (va_runS (Ts := aTb) ⟨X.1, X.2.1, X.2.2.1, X.2.2.2.1, X.2.2.2.2.1⟩ hM (va_cwS (aMt a).2.1 X.2.2.2.2.1 (aGi ?_) rfl rfl rfl ⟨wm, wv, wp⟩ ⟨?_, ?_⟩) ⟨aBlind _, aPreU X hI hS _⟩ rfl (by simp [h1]) (by show ls.size = _; rw [hL.1, hn]) (aStk st _) (lv_room (by rw [aW_map]; exact h2)) hd ⟨by omega, by omega⟩) hans hKK
  · intro w hw
    unfold va_wsS at hw
    simp only [List.cons_append, List.nil_append, List.mem_cons] at hw
    rcases hw with rfl | rfl | rfl | rfl | hw
    · exact aInM_w hlk
    · exact ws
    · exact w2
    · exact w1
    · exact hw
  · exact Nat.le_trans hrm hfr
  · exact aLrm hrm hlo wl
theorem as_virtual {ix : Nat} (X : aFx p R s m args meth c G d k g0 o) (hK : aKok p l e R s m args below meth c Q G k g0 K o) (hC : aCok l G C) (hp : aPl a 1 = true) (hd : decode (aNm k).2.1 pc = .ok (.invokevirtual ix, 3)) (hlk : aInM aMLk (aOn k) ix a = true) (hkc : aKc b (aNm a).1.cls = true) (hrc : aRc st (aMt a).2.1 b = true) (h : aCall C d k a st σ (fun r τ => K (pc + 3) L r τ) = some o) : aGo p l e R s m args below meth c Q G k g0 pc L st σ := by
  intro ad H locs ls hI hS hL hv g1 g2 hn
  obtain ⟨e', v, st', τ, h1, ⟨h2, h3⟩, hdp, hC0, hans, hKK, -⟩ := aCall_use h
  obtain ⟨w1, w2, -, wl, wr, -, wm, wv⟩ := aKn_of hp
  obtain ⟨ws, wsel, n, en, wp⟩ := aPl1 hp
  obtain ⟨⟨le1, le2⟩, hvv, hM⟩ := hC e' a _ σ v τ 1 hC0 hp (by simp [h1]) (aW_rev h3)
  have hM := hM ad hI.1 (aVs_take _ hv)
  rw [en] at hrc h1 h2 hans hM
  obtain ⟨ob, hob, hkd⟩ := aRc_get hrc
  rw [aTake hob] at hM
  have hvo : ob < σ.1.1 := hv _ (List.mem_of_getElem? hob)
  have hk1 := (hK _ _ _ _ hKK).2
  have r1 := X.2.2.2.2.2.2.2.2.2.2.1
  have r2 := X.2.2.2.2.2.2.2.2.2.2.2
  have hfr := X.2.2.2.2.2.2.2.2.1
  have hlo := X.2.2.2.2.2.2.2.2.2.1
  have hrm := aDp_room hdp wr
  obtain ⟨q, hup, hcell⟩ : ∃ q, aUp G ad (.ref ob) = .ref q ∧ ∃ cell : Cell, H[q]? = some cell ∧ cell.vm.isStatics = false ∧ s.vm.findClass (aNm a).1.cls = some cell.cls := by
    unfold aKc at hkc
    split at hkc
    · rename_i h21
      have hcl : (aNm a).1.cls = "java/lang/String" := of_decide_eq_true hkc
      have hst : ∃ n bs, aStrings G ob n bs s s.heap := by
        rcases aKd_21 (hkd.trans h21) with rfl | rfl
        · exact ⟨_, _, X.2.2.2.2.2.1.2.2.1⟩
        · exact ⟨_, _, X.2.2.2.2.2.1.2.2.2.1⟩
      obtain ⟨n, bs, s1, -⟩ := hst
      refine ⟨_, aUp_lo (by rcases aKd_21 (hkd.trans h21) with rfl | rfl <;> decide), ?_⟩
      obtain ⟨cell, z1, z2, z3, -⟩ := s1.kept hS.2.1
      exact ⟨cell, z1, z2, by rw [hcl]; exact z3⟩
    · split at hkc
      · rename_i q hq
        obtain ⟨Cn, T, N⟩ := q
        have hcl : Cn = (aNm a).1.cls := of_decide_eq_true hkc
        obtain ⟨-, -, -, -, hws, hup⟩ := aObj hI hq hkd hvo
        obtain ⟨cell, z1, z2, z3⟩ := va_recv X.2.2.2.2.2.1.1 hI.2.1 hq hws
        exact ⟨_, hup, cell, z1, z2, by rw [← hcl]; exact z3⟩
      · cases hkc
  rw [List.map_cons, hup] at hM
  refine aCall_go hK hI hS hL (aVs_drop _ hv) g1 g2 hn le1 le2 hvv rfl rfl (va_runV (Ts := aTb) (C := (aNm a).1.cls) (b := q) (As := ((st.take n).reverse).map (aUp G ad)) ⟨X.1, X.2.1, X.2.2.1, X.2.2.2.1, X.2.2.2.2.1⟩ hM (cwV n X.2.2.2.2.1 (aGi ?_) rfl rfl rfl ⟨rfl, wm, wv, wp⟩ ⟨?_, ?_⟩) ⟨aBlind _, hcell, aPreU X hI hS _⟩ rfl (by simp; omega) (by show ls.size = _; rw [hL.1, hn]) ?_ (lv_room (by rw [aW_map]; exact h2)) hd ⟨by omega, by omega⟩) hans hKK
  · intro w hw
    unfold wsV at hw
    simp only [List.cons_append, List.nil_append, List.mem_cons] at hw
    rcases hw with rfl | rfl | rfl | rfl | rfl | hw
    · exact aInM_w hlk
    · exact ws
    · exact wsel
    · exact w2
    · exact w1
    · exact hw
  · exact Nat.le_trans hrm hfr
  · exact aLrm hrm hlo wl
  · show st.map (aUp G ad) = _
    rw [aStk st (n + 1), aTake hob, List.map_cons, hup, List.reverse_cons, List.append_assoc]
    rfl
end Snd2
