/-! special calls, nest mates; THE FRAME: every run of AM's is the machine's -/
section Snd3
variable {p : Program} {l : Launch} {e : Env} {R : Room} {s : State} {m : MethodId} {args : Array Value} {below : List Frame} {meth : Method} {c : Code} {Q : State → Prop} {G : aEnv} {d k : Nat} {g0 : Nat × Nat} {C : Nat → Nat → List Value → aS → Option aO} {K : Nat → List Value → List Value → aS → Option aO} {o : aO} {len t a b : Nat} {z : Int} {pc : Nat} {L st : List Value} {σ : aS}
theorem aKc_ne5 {b ob : Nat} {cls : String} (hkd : aKd ob = b) (hkc : aKc b cls = true) : ob ≠ 5 := by
  rintro rfl
  have h5 : aKd 5 = 23 := by decide +kernel
  rw [h5] at hkd
  subst hkd
  unfold aKc at hkc
  rw [if_neg (by decide)] at hkc
  cases hkc
theorem as_special {ix : Nat} (X : aFx p R s m args meth c G d k g0 o) (hK : aKok p l e R s m args below meth c Q G k g0 K o) (hC : aCok l G C) (hp : aPl a 2 = true) (hd : decode (aNm k).2.1 pc = .ok (.invokespecial ix, 3)) (hlk : aInM aMLk (aOn k) ix a = true ∨ aInM aNLk (aOn k) ix a = true) (hkc : aKc b (aNm a).1.cls = true) (hrc : aRc st (aMt a).2.1 b = true) (h : aCall C d k a st σ (fun r τ => K (pc + 3) L r τ) = some o) : aGo p l e R s m args below meth c Q G k g0 pc L st σ := by
  intro ad H locs ls hI hS hL hv g1 g2 hn
  obtain ⟨e', v, st', τ, h1, ⟨h2, h3⟩, hdp, hC0, hans, hKK, -⟩ := aCall_use h
  obtain ⟨w1, w2, -, wl, wr, -, wm, wv⟩ := aKn_of hp
  obtain ⟨ws, wnm, wno, n, en, wp⟩ := aPl2 hp
  obtain ⟨⟨le1, le2⟩, hvv, hM⟩ := hC e' a _ σ v τ 2 hC0 hp (by simp [h1]) (aW_rev h3)
  have hM := hM ad hI.1 (aVs_take _ hv)
  rw [en] at hrc h1 h2 hans hM
  obtain ⟨ob, hob, hkd⟩ := aRc_get hrc
  rw [aTake hob] at hM
  have hk1 := (hK _ _ _ _ hKK).2
  have r1 := X.2.2.2.2.2.2.2.2.2.2.1
  have r2 := X.2.2.2.2.2.2.2.2.2.2.2
  have hfr := X.2.2.2.2.2.2.2.2.1
  have hlo := X.2.2.2.2.2.2.2.2.2.1
  have hrm := aDp_room hdp wr
  obtain ⟨q, hup⟩ : ∃ q, aUp G ad (.ref ob) = .ref q := ⟨_, by rw [aUp_at, if_neg (aKc_ne5 hkd hkc)]⟩
  rw [List.map_cons, hup] at hM
  have ecd : aCd a :: aTb = Cond.code (aNm a).1 (aNm a).2.1 (aMt a).2.2.1 none :: aTb := by unfold aCd; rw [wno]
  have hR1 : (aRm e' a (τ.1.2.1 - σ.1.2.1) (τ.1.2.2 - σ.1.2.2)).frames + 1 ≤ R.frames := Nat.le_trans hrm hfr
  have hR2 : 8 + ((aMt a).2.2.1 + 11) + (aRm e' a (τ.1.2.1 - σ.1.2.1) (τ.1.2.2 - σ.1.2.2)).locals ≤ R.locals := aLrm hrm hlo wl
  have hG : GoodIn aTb (aCd a :: aTb) := aGi (fun w hw => (List.mem_cons.mp hw).elim (fun q => q ▸ w1) (fun q => q))
  have hstk : st.map (aUp G ad) = (((st.take n).reverse).map (aUp G ad)).reverse ++ .ref q :: (st.drop (n + 1)).map (aUp G ad) := by
    rw [aStk st (n + 1), aTake hob, List.map_cons, hup, List.reverse_cons, List.append_assoc]
    rfl
  rcases hlk with hlk | hlk
  · exact aCall_go hK hI hS hL (aVs_drop _ hv) g1 g2 hn le1 le2 hvv rfl rfl (va_runI (Ts := aTb) (b := q) (As := ((st.take n).reverse).map (aUp G ad)) ⟨X.1, X.2.1, X.2.2.1, X.2.2.2.1, X.2.2.2.2.1⟩ hM (cwI n X.2.2.2.2.1 hG ecd rfl rfl (X.2.2.2.2.1 _ w2) (X.2.2.2.2.1 _ (aInM_w hlk)) (X.2.2.2.2.1 _ ws) wnm ⟨wm, wv, wp⟩ ⟨hR1, hR2⟩) ⟨aBlind _, aPreU X hI hS _⟩ rfl (by simp; omega) (by show ls.size = _; rw [hL.1, hn]) hstk (lv_room (by rw [aW_map]; exact h2)) hd ⟨by omega, by omega⟩) hans hKK
  · obtain ⟨pl, hq⟩ := aInM_get hlk
    have hnw : va_Nw (.methodLinkNest (aOw (aOn k)) ix (aNm a).1 "BluesAndGreens") s := by
      have q1 := X.2.2.2.2.2.1.2.2.2.2.2.2.2.1 _ hq
      dsimp only at q1
      exact q1
    have cw : va_CN R s args (aOw (aOn k)) ix (aNm a).1 "BluesAndGreens" (aNm a).2.1 (aMt a).2.2.1 none (aCd a :: aTb) (aRm e' a (τ.1.2.1 - σ.1.2.1) (τ.1.2.2 - σ.1.2.2)) (τ.1.2.1 - σ.1.2.1) (τ.1.2.2 - σ.1.2.2) n := va_cnB (Ts := aTb) (ws' := aTb) n X.2.2.2.2.1 hG ecd rfl rfl hnw (X.2.2.2.2.1 _ w2) ⟨wm, wv, wp⟩ ⟨hR1, hR2⟩
    have hrun := va_runIN (locs := locs) (cells := σ.1.2.1 - g0.1) (slots := σ.1.2.2 - g0.2) (below := below) (meth := meth) (e := e) (g := F0 m pc ls (st.map (aUp G ad))) (rest := (st.drop (n + 1)).map (aUp G ad)) (Ts := aTb) (b := q) (As := ((st.take n).reverse).map (aUp G ad)) ⟨X.1, X.2.1, X.2.2.1, X.2.2.2.1, X.2.2.2.2.1⟩ hM ⟨cw, wnm, X.2.2.2.2.1 _ ws⟩ ⟨aBlind _, aPreU X hI hS _⟩ rfl (by simp; omega) (by show ls.size = _; rw [hL.1, hn]) hstk (lv_room (by rw [aW_map]; exact h2)) hd ⟨by omega, by omega⟩
    exact aCall_go hK hI hS hL (aVs_drop _ hv) g1 g2 hn le1 le2 hvv rfl rfl hrun hans hKK
theorem as_staticN {ix : Nat} (X : aFx p R s m args meth c G d k g0 o) (hK : aKok p l e R s m args below meth c Q G k g0 K o) (hC : aCok l G C) (hp : aPl a 0 = true) (hd : decode (aNm k).2.1 pc = .ok (.invokestatic ix, 3)) (hlk : aInM aNLk (aOn k) ix a = true) (h : aCall C d k a st σ (fun r τ => K (pc + 3) L r τ) = some o) : aGo p l e R s m args below meth c Q G k g0 pc L st σ := by
  intro ad H locs ls hI hS hL hv g1 g2 hn
  obtain ⟨e', v, st', τ, h1, ⟨h2, h3⟩, hdp, hC0, hans, hKK, -⟩ := aCall_use h
  obtain ⟨w1, w2, -, wl, wr, -, wm, wv⟩ := aKn_of hp
  obtain ⟨ws, wp⟩ := aPl0 hp
  obtain ⟨⟨le1, le2⟩, hvv, hM⟩ := hC e' a _ σ v τ 0 hC0 hp (by simp [h1]) (aW_rev h3)
  have hM := hM ad hI.1 (aVs_take _ hv)
  have hk1 := (hK _ _ _ _ hKK).2
  have r1 := X.2.2.2.2.2.2.2.2.2.2.1
  have r2 := X.2.2.2.2.2.2.2.2.2.2.2
  have hfr := X.2.2.2.2.2.2.2.2.1
  have hlo := X.2.2.2.2.2.2.2.2.2.1
  have hrm := aDp_room hdp wr
  obtain ⟨pl, hq⟩ := aInM_get hlk
  have hG : GoodIn aTb (aCd a :: aTb) := aGi (fun w hw => (List.mem_cons.mp hw).elim (fun q => q ▸ w1) (fun q => q))
  have hnw : va_Nw (.methodLinkNest (aOw (aOn k)) ix (aNm a).1 "BluesAndGreens") s := by
    have q1 := X.2.2.2.2.2.1.2.2.2.2.2.2.2.1 _ hq
    dsimp only at q1
    exact q1
  have hR1 : (aRm e' a (τ.1.2.1 - σ.1.2.1) (τ.1.2.2 - σ.1.2.2)).frames + 1 ≤ R.frames := Nat.le_trans hrm hfr
  have hR2 : 8 + ((aMt a).2.2.1 + 11) + (aRm e' a (τ.1.2.1 - σ.1.2.1) (τ.1.2.2 - σ.1.2.2)).locals ≤ R.locals := aLrm hrm hlo wl
  have cw : va_CN R s args (aOw (aOn k)) ix (aNm a).1 "BluesAndGreens" (aNm a).2.1 (aMt a).2.2.1 (aNm a).2.2 (aCd a :: aTb) (aRm e' a (τ.1.2.1 - σ.1.2.1) (τ.1.2.2 - σ.1.2.2)) (τ.1.2.1 - σ.1.2.1) (τ.1.2.2 - σ.1.2.2) (aMt a).2.1 := va_cnB (Ts := aTb) (ws' := aTb) (aMt a).2.1 X.2.2.2.2.1 hG rfl rfl rfl hnw (X.2.2.2.2.1 _ w2) ⟨wm, wv, wp⟩ ⟨hR1, hR2⟩
  have hrun := va_runSN (locs := locs) (cells := σ.1.2.1 - g0.1) (slots := σ.1.2.2 - g0.2) (below := below) (meth := meth) (e := e) (g := F0 m pc ls (st.map (aUp G ad))) (rest := (st.drop (aMt a).2.1).map (aUp G ad)) (Ts := aTb) (As := ((st.take (aMt a).2.1).reverse).map (aUp G ad)) ⟨X.1, X.2.1, X.2.2.1, X.2.2.2.1, X.2.2.2.2.1⟩ hM ⟨cw, X.2.2.2.2.1 _ ws, trivial⟩ ⟨aBlind _, aPreU X hI hS _⟩ rfl (by simp [h1]) (by show ls.size = _; rw [hL.1, hn]) (aStk st _) (lv_room (by rw [aW_map]; exact h2)) hd ⟨by omega, by omega⟩
  exact aCall_go hK hI hS hL (aVs_drop _ hv) g1 g2 hn le1 le2 hvv rfl rfl hrun hans hKK
/-- a method's last instruction, with its answer -/
def aLast (r : Nat) (i : Instr) (v : Option Value) : Prop := (i = .return_ ∧ r = 0 ∧ v = none) ∨ (i = .lreturn ∧ r = 2 ∧ ∃ x, v = some (.long x)) ∨ (i = .ireturn ∧ ∃ x, v = some (.int x) ∧ (r = 1 ∨ (r = 3 ∧ narrow .boolean (.int x) = .int x) ∨ (r = 4 ∧ narrow .char (.int x) = .int x) ∨ (r = 5 ∧ narrow .byte (.int x) = .int x)))
def aEnd (p : Program) (l : Launch) (e : Env) (R : Room) (s : State) (m : MethodId) (args : Array Value) (below : List Frame) (meth : Method) (c : Code) (Q : State → Prop) (G : aEnv) (k : Nat) (g0 : Nat × Nat) (o : aO) : Prop :=
  ∀ (pc : Nat) (i : Instr) (v : Option Value) (ad : List Nat) (H : Heap) (locs : List Loc) (ls : Array Slot), decode (aNm k).2.1 pc = .ok (i, 1) → aLast (aMt k).2.2.2.1 i v → o.1 = some v → aInv G ad o.2 H → va_S (aA G) s.heap H locs →
    W p l e R s m args below meth c H locs (o.2.1.2.1 - g0.1) (o.2.1.2.2 - g0.2) Q (F0 m pc ls (v.map (aUp G ad)).toList)
end Snd3
