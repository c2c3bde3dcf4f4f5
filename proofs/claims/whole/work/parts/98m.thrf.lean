/-! a method that throws, at the machine -/
theorem as_throw {p : Program} {l : Launch} {e : Env} {R : Room} {s : State} {m : MethodId} {args : Array Value} {below : List Frame} {meth : Method} {c : Code} {G : aEnv} {d k : Nat} {g0 : Nat × Nat} {σ τ : aS} {pc : Nat} {L st : List Value} {Qc : Array Value → State → Outcome → State → Prop} {XC : String → State → State → Prop}
    (hls : l.stackTraces = false) (X : aFx p R s m args meth c G d k g0 (none, τ)) (hB : aBx G s s.heap) (hk : k ∈ aThr) (hd1 : 1 ≤ d) (hst : st.length ≤ pc) (h128 : pc ≤ 128) (hτ : τ = aNew σ 0 6)
    (d0 : decode (aNm k).2.1 pc = .ok (.new 143, 3)) (d3 : decode (aNm k).2.1 (pc + 3) = .ok (.dup, 1)) (d4 : decode (aNm k).2.1 (pc + 4) = .ok (.invokespecial 145, 3)) (d7 : decode (aNm k).2.1 (pc + 7) = .ok (.athrow, 1)) (hex : ∀ x ∈ c.exceptionTable.toList, False) (hlk : meth.locks = false)
    (hxc : ∀ (ad : List Nat) (t : State), aInv G ad τ t.heap → va_F (aA G) s t → XC aXn s t) :
    aGo p l e R s m args below meth c (vx_MQ below Qc XC args s (τ.1.2.1 - g0.1) (τ.1.2.2 - g0.2) (aA G)) G k g0 pc L st σ := by
  intro ad H locs ls hI hS hL hv g1 g2 hn
  subst hτ
  obtain ⟨x1, x2, x3, x4, x5, x6, x7, x8, x9, x10, x11, x12⟩ := X
  have y11 : σ.1.2.1 + 1 ≤ g0.1 + R.cells := x11
  have y12 : σ.1.2.2 + 6 ≤ g0.2 + R.slots := x12
  have hown : s.vm.findClass "BluesAndGreens" = some m.cls := by rw [← (aThr_ok k hk).2]; exact x4
  have hc2 := aCat2 (st.map (aUp G ad))
  rw [List.length_map] at hc2
  have y1 : σ.1.2.1 - g0.1 + 1 ≤ (aNew σ 0 6).1.2.1 - g0.1 := by show _ ≤ σ.1.2.1 + 1 - g0.1; omega
  have y2 : σ.1.2.2 - g0.2 + 6 ≤ (aNew σ 0 6).1.2.2 - g0.2 := by show _ ≤ σ.1.2.2 + 6 - g0.2; omega
  refine vx_throw0 (own := "BluesAndGreens") (cls := aXn) (names := aXs) (ik := 143) (ic := 145) (A := aA G) x1 x2 hls hown aTw5.1 aTw5.2 (x5 _ (aMem_in aTw1)) (x5 _ (aMem_in aTw2)) ?_ (fun w hw => List.all_eq_true.mp aTw4 w hw) hB.1 hB.2.1 hS (by rw [hL.1, hn, x3]) d0 d3 d4 d7 (fun x hx => (hex x hx).elim) ?_ ?_ ?_ ?_ hlk ?_ hS.2.2 y1 y2
  · exact vx_hat (B := aBn) (fun w hw => x5 w (aMem_in (List.all_eq_true.mp aTw3 w hw))) (fun w hw => hw) (fun w hw => va_Nw.use (List.all_eq_true.mp aBn_ot w hw) (hB.2.2 w hw))
  · show 2 + 3 < R.frames
    omega
  · show _ + (13 * (2 + 1) + 42) ≤ R.locals
    omega
  · omega
  · omega
  · intro t _ ht1 ht2
    exact hxc ad t (aInv_thrown hI ht2) ⟨Nat.le_trans hS.1 ht1, fun q q1 q2 => (ht2 q (Nat.lt_of_lt_of_le q1 hS.1)).trans (hS.2.1 q q1 q2)⟩
def aFrT (n : Nat) : Prop := ∀ (d k pc : Nat) (L st : List Value) (σ τ : aS), aX n d k pc L st σ = some (none, τ) → k ∈ aThr → 1 ≤ d → st.length ≤ pc →
  ∀ (p : Program) (l : Launch) (e : Env) (R : Room) (s : State) (m : MethodId) (args : Array Value) (below : List Frame) (meth : Method) (c : Code) (Qc : Array Value → State → Outcome → State → Prop) (XC : String → State → State → Prop) (G : aEnv) (g0 : Nat × Nat),
    l.stackTraces = false → aFx p R s m args meth c G d k g0 (none, τ) → aBx G s s.heap → (∀ x ∈ c.exceptionTable.toList, False) → meth.locks = false → (∀ (ad : List Nat) (t : State), aInv G ad τ t.heap → va_F (aA G) s t → XC aXn s t) →
    aGo p l e R s m args below meth c (vx_MQ below Qc XC args s (τ.1.2.1 - g0.1) (τ.1.2.2 - g0.2) (aA G)) G k g0 pc L st σ
theorem aFrT_all : ∀ n, aFrT n := by
  intro n
  induction n with
  | zero => intro d k pc L st σ τ h; cases h
  | succ n ih =>
    intro d k pc L st σ τ h hk hd1 hst p l e R s m args below meth c Qc XC G g0 hls X hB hex hlk hxc
    unfold aX aStep at h
    split at h
    · cases h
    · rename_i i len t a b z hf
      have hp := (aThr_ok k hk).1
      obtain ⟨hd, hl, hm⟩ := aInstr hp hf
      have h13 := List.all_eq_true.mp (aT13_ok k hk) _ (aFind_mem hf)
      unfold aT13 at h13
      dsimp only at h13
      obtain ⟨u1, u2⟩ := (Bool.and_eq_true _ _).mp h13
      obtain ⟨u3, u4⟩ := (Bool.and_eq_true _ _).mp u2
      refine aAct_sndX X ?_ ?_ ?_ ?_ hd hl hm (aAct_bd u1 (of_decide_eq_true u3) hst h)
      · intro pc' L' st' σ' hq
        unfold aBd at hq
        split at hq
        · rename_i hle
          have hg := aX_grow _ _ _ _ _ _ _ _ hq
          exact ⟨ih d k pc' L' st' σ' τ hq hk hd1 hle p l e R s m args below meth c Qc XC G g0 hls X hB hex hlk hxc, hg.1.1, hg.1.2⟩
        · cases hq
      · intro e' k' as τ0 v τ' g' hc hp' _ hw
        exact aMet_of (aFr_all n) hc hp' hw
      · intro pc' i' v' ad' H locs ls _ _ hov
        cases hov
      · rintro ix rfl rfl ho
        have hτ : τ = aNew σ 0 6 := congrArg Prod.snd ho
        obtain ⟨rfl, v2, v3, v4, v5⟩ := of_decide_eq_true u4
        have h3 : len = 3 := by
          unfold aIl at hl
          exact Nat.eq_of_beq_eq_true ((Bool.and_eq_true _ _).mp hl).1
        subst h3
        exact as_throw hls X hB hk hd1 hst v2 hτ hd v3 v4 v5 hex hlk hxc
def aXC (G : aEnv) (ad : List Nat) (τ : aS) : String → State → State → Prop := fun E st t => E = aXn ∧ ∃ x : List Nat, aInv G (ad ++ x) τ t.heap ∧ va_F (aA G) st t
abbrev aPreX (G : aEnv) (ad : List Nat) (σ : aS) : State → Prop := fun U => aPre G ad σ U ∧ aBx G U U.heap
def aMetT (l : Launch) (G : aEnv) (d k : Nat) (as : List Value) (σ τ : aS) : Prop :=
  (σ.1.2.1 ≤ τ.1.2.1 ∧ σ.1.2.2 ≤ τ.1.2.2) ∧ ∀ ad : List Nat, ad.length + 6 = σ.1.1 → aVs σ.1.1 as → vx_Met l (aNm k).1 (aCd k :: aTb) (aRm d k (τ.1.2.1 - σ.1.2.1) (τ.1.2.2 - σ.1.2.2)) (va_Pc (as.map (aUp G ad)) (aPreX G ad σ)) (fun _ _ _ _ => False) (aXC G ad τ) (τ.1.2.1 - σ.1.2.1) (τ.1.2.2 - σ.1.2.2) (aA G)
theorem aMetT_of {n : Nat} {l : Launch} (hls : l.stackTraces = false) {G : aEnv} {d k : Nat} {as : List Value} {σ τ : aS} (h : aX n d k 0 (aLoc (aMt k).2.2.1 as) [] σ = some (none, τ)) (hk : k ∈ aThr) (hd1 : 1 ≤ d) (hw : aW as ≤ (aMt k).2.2.1) : aMetT l G d k as σ τ := by
  obtain ⟨⟨le1, le2⟩, -⟩ := aX_grow _ _ _ _ _ _ _ _ h
  refine ⟨⟨le1, le2⟩, fun ad had hvs => ?_⟩
  have hp := (aThr_ok k hk).1
  obtain ⟨w1, w2, wk, wl, wr, wpl, wm, wv⟩ := aKn_of hp
  refine vx_ofW (cc := (aNm k).2.1) (maxL := (aMt k).2.2.1) (ret := (aNm k).2.2) wpl rfl ?_
  intro p e s m args below meth c s₁ B hml hex hPc
  obtain ⟨rfl, ⟨hI, hB, hn0⟩, hBx⟩ := hPc
  have hts := atoms_spec (ws := aCd k :: aTb) B.pre
  have hown : s.vm.findClass (aOw (aOn k)) = some m.cls := by
    obtain ⟨p1, p2, p3, p4, hq⟩ := aPl_get hp
    rw [← aOn_ok k (aM_lt _ hq)]
    exact findClass_of_methodNamed B.named
  have X : aFx p (headSpec (aCd k :: aTb) (aRm d k (τ.1.2.1 - σ.1.2.1) (τ.1.2.2 - σ.1.2.2))).room s m (as.map (aUp G ad)).toArray meth c (aG0 G ad) d k (σ.1.2.1, σ.1.2.2) (none, τ) :=
    ⟨B.exec, B.bytes, hml, hown, fun w hw => hts w (List.mem_cons_of_mem _ hw), hB, hn0, (name_of_methodNamed B.named B.method).1, Nat.le_refl _, Nat.le_refl _, by show τ.1.2.1 ≤ σ.1.2.1 + (τ.1.2.1 - σ.1.2.1); omega, by show τ.1.2.2 ≤ σ.1.2.2 + (τ.1.2.2 - σ.1.2.2); omega⟩
  have hgo := aFrT_all n d k 0 _ [] σ τ h hk hd1 (Nat.le_refl _) p l e _ s m _ below meth c (fun _ _ _ _ => False) (aXC G ad τ) (aG0 G ad) (σ.1.2.1, σ.1.2.2) hls X hBx hex B.notSynchronized (fun ad' t hI' hF => ⟨rfl, by
    obtain ⟨x, -, hI2⟩ := aInv_out hI hI'
    exact ⟨x, hI2, hF⟩⟩)
  obtain ⟨hLr, hLl⟩ := aLr_entry (G := aG0 G ad) (ad := ad) hvs hw
  have := hgo ad s.heap [] _ (aInv_in hI) va_S.rf hLr (fun v hv => by cases hv) (Nat.le_refl _) (Nat.le_refl _) hLl
  rw [lg_entry_eq]
  simp only [Nat.sub_self] at this
  exact this
