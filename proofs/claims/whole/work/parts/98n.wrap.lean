/-! THE LAW'S WRAPPERS: a call whose throw is caught -/
def aWr : List Nat := [297, 298, 299, 300, 301, 302]
def aHh (k : Nat) : List (Nat × Nat × Nat × Nat) := if k = 298 then [(0, 9, 12, 13)] else if k = 302 then [(0, 8, 11, 13)] else [(0, 10, 13, 13)]
abbrev aCw (k : Nat) : Cond := Cond.codeWith (aNm k).1 (aNm k).2.1 (aMt k).2.2.1 (aNm k).2.2 (aHh k)
def aWrk (k : Nat) : Prop := aMem (aCw k) = true ∧ aMem (.initialized (aNm k).1.cls) = true ∧ aMem (.static (aNm k).1) = true ∧ (parseMethodDescriptor (aNm k).1.desc).map (fun d => d.parameters.length) = some (aMt k).2.1 ∧ aRk (aNm k).2.2 = (aMt k).2.2.2.1 ∧ (aMt k).2.2.1 ≤ 11 ∧ (aMt k).2.2.2.2 ≤ 14 ∧ plainName (aNm k).1.cls = true ∧ (aNm k).1.cls ≠ "java/lang/invoke/MethodHandle" ∧ (aNm k).1.cls ≠ "java/lang/invoke/VarHandle" ∧ aOw (aOn k) = "BluesAndGreensLaw" ∧ (aNm k).1.cls = "BluesAndGreensLaw"
set_option maxRecDepth 100000 in
theorem aWrk_ok : ∀ k ∈ aWr, aWrk k := by
  unfold aWrk
  decide +kernel
set_option maxRecDepth 100000 in
theorem aWx1 : aMem (.classLink "BluesAndGreensLaw" 13 aXn) = true := by decide +kernel
set_option maxRecDepth 100000 in
theorem aWx2 : Cond.castable aXn aXn ∈ aBn := by decide +kernel
def aWe (k : Nat) (e : aN) : Bool := match e.2.1 with
  | .invokevirtual _ => Nat.beq e.2.2.2.1 6 && (decide (e.2.2.2.2.1 ∈ aThr) && (match tableOf (aHh k) with
    | [x] => covers x e.1 && decide (x.handlerPc = e.2.2.2.2.2.1 ∧ x.catchType = 13)
    | _ => false))
  | .new _ => false
  | _ => aIm e
set_option maxRecDepth 100000 in
theorem aWe_ok : ∀ k ∈ aWr, (aMt k).1.all (aWe k) = true := by decide +kernel
theorem aWi_ok : ∀ k ∈ aWr, (aMt k).1.all (aIc k) = true := List.forall_mem_cons.mpr ⟨aI297, List.forall_mem_cons.mpr ⟨aI298, List.forall_mem_cons.mpr ⟨aI299, List.forall_mem_cons.mpr ⟨aI300, List.forall_mem_cons.mpr ⟨aI301, List.forall_mem_cons.mpr ⟨aI302, fun _ h => absurd h List.not_mem_nil⟩⟩⟩⟩⟩⟩
theorem aWd_at {k pc : Nat} {i : Instr} {len t a b : Nat} {z : Int} (h : (aMt k).1.all (aIc k) = true) (hf : aFind (aMt k).1 pc = some (i, len, t, a, b, z)) : decode (aNm k).2.1 pc = .ok (i, len) ∧ aIl k pc i len t a b z = true := by
  have h3 := List.all_eq_true.mp h _ (aFind_mem hf)
  unfold aIc at h3
  rw [Bool.and_eq_true, decide_eq_true_eq] at h3
  exact h3
def aCokT (l : Launch) (G : aEnv) (C : Nat → Nat → List Value → aS → Option aO) : Prop := ∀ e k' as τ0 τ, C e k' as τ0 = some (none, τ) → k' ∈ aThr → 1 ≤ e → aW as ≤ (aMt k').2.2.1 → aMetT l G e k' as τ0 τ
theorem aBlindX {G : aEnv} {ad : List Nat} {σ : aS} (av : List Value) : FrameBlind (va_Pc av (aPreX G ad σ)) := by
  rintro a U g mk ⟨h1, ⟨h2, h3, h4⟩, h5⟩
  exact ⟨h1, ⟨h2, h3.go (State.WarmedH.refl U) (fun _ _ _ => rfl), h4⟩, h5.go (State.WarmedH.refl U) (fun _ _ _ => rfl)⟩
section SndW
variable {p : Program} {l : Launch} {e : Env} {R : Room} {s : State} {m : MethodId} {args : Array Value} {below : List Frame} {meth : Method} {c : Code} {Q : State → Prop} {G : aEnv} {d k : Nat} {g0 : Nat × Nat} {C : Nat → Nat → List Value → aS → Option aO} {K : Nat → List Value → List Value → aS → Option aO} {o : aO} {len t a b : Nat} {z : Int} {pc : Nat} {L st : List Value} {σ : aS}
theorem aPreUX (X : aFx p R s m args meth c G d k g0 o) (hB : aBx G s s.heap) {ad : List Nat} {H : Heap} {locs : List Loc} (hI : aInv G ad σ H) (hS : va_S (aA G) s.heap H locs) (av : List Value) : ∀ U : State, U.heap = H → s.WarmedH U.vm → va_Pc av (aPreX G ad σ) av.toArray U := by
  intro U hU hW
  obtain ⟨h1, h2⟩ := aPreU X hI hS av U hU hW
  refine ⟨h1, h2, hB.go hW (fun q q1 q2 => ?_)⟩
  rw [hU]
  exact hS.2.1 q q1 q2
theorem aHnd_at {hpc j q : Nat} (hi : (aMt k).1.all (aIc k) = true) (h : aHnd k hpc = some (j, q)) : (decode (aNm k).2.1 hpc = .ok (.astore j, 2) ∧ q = hpc + 2) ∨ ∃ j' : Fin 4, (j' : Nat) = j ∧ decode (aNm k).2.1 hpc = .ok (.astore_n j', 1) ∧ q = hpc + 1 := by
  unfold aHnd at h
  split at h
  · rename_i i r hf
    obtain ⟨len, t, a, b, z⟩ := r
    obtain ⟨h1, h2⟩ := aWd_at hi hf
    cases h
    have h3 : len = 2 := Nat.eq_of_beq_eq_true h2
    subst h3
    exact Or.inl ⟨h1, rfl⟩
  · rename_i i r hf
    obtain ⟨len, t, a, b, z⟩ := r
    obtain ⟨h1, h2⟩ := aWd_at hi hf
    cases h
    have h3 : len = 1 := Nat.eq_of_beq_eq_true h2
    subst h3
    exact Or.inr ⟨i, rfl, h1, rfl⟩
  · cases h
theorem as_virtualH {ix : Nat} (X : aFx p R s m args meth c G d k g0 o) (hB : aBx G s s.heap) (hK : aKok p l e R s m args below meth c Q G k g0 K o) (hC : aCok l G C) (hCT : aCokT l G C) (hd2 : 2 ≤ d) (hi : (aMt k).1.all (aIc k) = true) (hkw : k ∈ aWr) (hT : a ∈ aThr) (x : ExceptionTableEntry) (htab : c.exceptionTable.toList = [x]) (hcov : covers x pc = true) (hxb : x.handlerPc = b) (hx13 : x.catchType = 13)
    (hd : decode (aNm k).2.1 pc = .ok (.invokevirtual ix, 3)) (hlk : aInM aMLk (aOn k) ix a = true) (hkc : aKc z.toNat (aNm a).1.cls = true) (h : (match aHnd k b with
      | some (j, q) => if j < L.length ∧ aRc st (aMt a).2.1 z.toNat = true then aCallH C d k a st σ (fun r τ => K (pc + 3) L r τ) (fun τ => K q (aSt1 L j aNo) [] τ) else none
      | none => none) = some o) : aGo p l e R s m args below meth c Q G k g0 pc L st σ := by
  split at h
  · rename_i j q hq
    split at h
    · rename_i hjr
      obtain ⟨hj, hrc⟩ := hjr
      have hp := (aThr_ok a hT).1
      obtain ⟨e', h1, ⟨h2, h3⟩, hdp, hor⟩ := aCallH_use h
      rcases hor with ⟨v, st', τ, hC0, hans, hKK, -⟩ | ⟨τ, hC0, hKK, -⟩
      · have h' : aCall C d k a st σ (fun r τ => K (pc + 3) L r τ) = some o := by
          unfold aCall
          rw [if_pos h1, if_pos ⟨h2, h3⟩, hdp]
          exact aRet_of hans hC0 hKK
        exact as_virtual X hK hC hp hd hlk hkc hrc h'
      · intro ad H locs ls hI hS hL hv g1 g2 hn
        obtain ⟨w1, w2, -, wl, wr, -, wm, wv⟩ := aKn_of hp
        obtain ⟨ws, wsel, n, en, wp⟩ := aPl1 hp
        have he1 : 1 ≤ e' := by
          unfold aDp at hdp
          split at hdp
          · cases hdp; omega
          · split at hdp
            · cases hdp
            · cases hdp; omega
        obtain ⟨⟨le1, le2⟩, hM⟩ := hCT e' a _ σ τ hC0 hT he1 (aW_rev h3)
        have hM := hM ad hI.1 (aVs_take _ hv)
        rw [en] at hrc h1 h2 hM
        obtain ⟨ob, hob, hkd⟩ := aRc_get hrc
        rw [aTake hob] at hM
        have hvo : ob < σ.1.1 := hv _ (List.mem_of_getElem? hob)
        have hk1 := (hK _ _ _ _ hKK).2
        have r1 := X.2.2.2.2.2.2.2.2.2.2.1
        have r2 := X.2.2.2.2.2.2.2.2.2.2.2
        have hfr := X.2.2.2.2.2.2.2.2.1
        have hlo := X.2.2.2.2.2.2.2.2.2.1
        have hrm := aDp_room hdp wr
        obtain ⟨qa, hup, hcell⟩ : ∃ q, aUp G ad (.ref ob) = .ref q ∧ ∃ cell : Cell, H[q]? = some cell ∧ cell.vm.isStatics = false ∧ s.vm.findClass (aNm a).1.cls = some cell.cls := by
          unfold aKc at hkc
          split at hkc
          · rename_i h21
            have hcl : (aNm a).1.cls = "java/lang/String" := of_decide_eq_true hkc
            have hst : ∃ n bs, aStrings G ob n bs s s.heap := by
              rcases aKd_21 (hkd.trans h21) with rfl | rfl
              · exact ⟨_, _, X.2.2.2.2.2.1.2.2.1⟩
              · exact ⟨_, _, X.2.2.2.2.2.1.2.2.2.1⟩
            obtain ⟨n, bs, s1, -⟩ := hst
            refine ⟨_, aUp_lo (by rcases aKd_21 (hkd.trans h21) with rfl | rfl <;> decide), ?_⟩
            obtain ⟨cell, z1, z2, z3, -⟩ := s1.kept hS.2.1
            exact ⟨cell, z1, z2, by rw [hcl]; exact z3⟩
          · split at hkc
            · rename_i q hq
              obtain ⟨Cn, T, N⟩ := q
              have hcl : Cn = (aNm a).1.cls := of_decide_eq_true hkc
              obtain ⟨-, -, -, -, hws, hup⟩ := aObj hI hq hkd hvo
              obtain ⟨cell, z1, z2, z3⟩ := va_recv X.2.2.2.2.2.1.1 hI.2.1 hq hws
              exact ⟨_, hup, cell, z1, z2, by rw [← hcl]; exact z3⟩
            · cases hkc
        rw [List.map_cons, hup] at hM
        have hr := vx_runV (p := p) (e := e) (below := below) (meth := meth) (locs := locs) (cells := σ.1.2.1 - g0.1) (slots := σ.1.2.2 - g0.2) (g := F0 m pc ls (st.map (aUp G ad))) (rest := (st.drop (n + 1)).map (aUp G ad)) (Ts := aTb) (C := (aNm a).1.cls) (b := qa) (As := ((st.take n).reverse).map (aUp G ad)) ⟨X.1, X.2.1, X.2.2.1, X.2.2.2.1, X.2.2.2.2.1⟩ hM (cwV (R := R) (index := ix) (bytes := (aNm a).2.1) (maxL := (aMt a).2.2.1) (ret := (aNm a).2.2) n X.2.2.2.2.1 (aGi (by
            intro w hw
            unfold wsV at hw
            simp only [List.cons_append, List.nil_append, List.mem_cons] at hw
            rcases hw with rfl | rfl | rfl | rfl | rfl | hw
            · exact aInM_w hlk
            · exact ws
            · exact wsel
            · exact w2
            · exact w1
            · exact hw)) rfl rfl rfl ⟨rfl, wm, wv, wp⟩ ⟨Nat.le_trans hrm hfr, aLrm hrm hlo wl⟩) ⟨aBlindX _, hcell, aPreUX X hB hI hS _⟩ rfl (by simp; omega) (by show ls.size = _; rw [hL.1, hn]) (by
            show st.map (aUp G ad) = _
            rw [aStk st (n + 1), aTake hob, List.map_cons, hup, List.reverse_cons, List.append_assoc]
            rfl) (lv_room (by rw [aW_map]; exact h2)) hd ⟨by omega, by omega⟩
        intro T hT' X'
        rcases hr T hT' X' with ⟨v, st0, t, T', L9, -, -, -, -, -, hF, -⟩ | ⟨qe, st₀, t, T', L9, E, ce, hh0, X'', hL9, e1, e2, ⟨rfl, y, hI9, hz, hkp⟩, hce, hcv, hcl, hst⟩
        · exact hF.elim
        · rw [hh0] at hz hkp
          have hcnt : σ.1.1 ≤ τ.1.1 := by
            have q1 := hI.1
            have q2 := hI9.1
            rw [List.length_append] at q2
            omega
          have hS9 : va_S (aA G) s.heap t.heap (locs ++ L9) := by
            refine ⟨Nat.le_trans hS.1 hz, fun q q1 q2 => ?_, fun q hq => ?_⟩
            · rw [hkp q (Nat.lt_of_lt_of_le q1 hS.1) q2]
              exact hS.2.1 q q1 q2
            · rcases List.mem_append.mp hq with q1 | q1
              · exact hS.2.2 q q1
              · exact hL9 q q1
          have hL2 := aLr_app y hI.1 hcnt hL
          have kk : ∀ ls', lv_has ls' L.length ((j, Value.ref qe) :: (aLl G (ad ++ y) L).filter (fun q => !(q.1 == j) && !(q.1 + 1 == j && q.2.category == 2))) → W p l e R s m args below meth c t.heap (locs ++ L9) (τ.1.2.1 - g0.1) (τ.1.2.2 - g0.2) Q (F0 m q ls' []) :=
            fun ls' hl' => (hK _ _ _ _ hKK).1 (ad ++ y) t.heap (locs ++ L9) ls' hI9 hS9 (aLr_st1 hL2 hj trivial (fun hne => absurd rfl hne) hl') (fun v hv => by cases hv) (Nat.le_trans g1 le1) (Nat.le_trans g2 le2) (by rw [aSt1_len]; exact hn)
          have kw : W p l e R s m args below meth c t.heap (locs ++ L9) (τ.1.2.1 - g0.1) (τ.1.2.2 - g0.2) Q (F0 m b ls [.ref qe]) := by
            rcases aHnd_at hi hq with ⟨hdA, rfl⟩ | ⟨j', rfl, hdA, rfl⟩
            · exact lv_astore X.1 X.2.1 hdA hL2.has hj rfl kk
            · exact lv_astore_n X.1 X.2.1 hdA rfl hL2.has hj rfl kk
          have hown : s.vm.findClass "BluesAndGreensLaw" = some m.cls := by
            rw [← (aWrk_ok k hkw).2.2.2.2.2.2.2.2.2.2.1]
            exact X.2.2.2.1
          have hcat := cg_catch (p := p) (l := l) (e := e) (R := R) (args := args) (below := below) (meth := meth) (locs := locs ++ L9) (cells := τ.1.2.1 - g0.1) (slots := τ.1.2.2 - g0.2) (Q := Q) (pc := pc) (ls := ls) (rest := (st.drop (n + 1)).map (aUp G ad)) hown x htab hcov (by rw [hx13]; decide) (by rw [hx13]; exact X.2.2.2.2.1 _ (aMem_in aWx1)) (va_Nw.use (List.all_eq_true.mp aBn_ot _ aWx2) (hB.2.2 _ aWx2)) hce hcv hcl (by rw [hxb]; exact kw)
          obtain ⟨t2, a1, b1⟩ := hcat T' e1 (by
            have q1 : τ.1.2.1 - g0.1 = σ.1.2.1 - g0.1 + (τ.1.2.1 - σ.1.2.1) := by omega
            have q2 : τ.1.2.2 - g0.2 = σ.1.2.2 - g0.2 + (τ.1.2.2 - σ.1.2.2) := by omega
            rw [q1, q2]
            exact X'')
          exact ⟨t2, hst.trans a1, b1⟩
    · cases h
  · cases h
end SndW
