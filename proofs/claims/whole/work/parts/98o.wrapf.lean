/-! the wrappers' frames and contracts -/
def aFrW (n : Nat) : Prop := ∀ (d k pc : Nat) (L st : List Value) (σ : aS) (o : aO), aX n d k pc L st σ = some o → k ∈ aWr → 2 ≤ d →
  ∀ (p : Program) (l : Launch) (e : Env) (R : Room) (s : State) (m : MethodId) (args : Array Value) (below : List Frame) (meth : Method) (c : Code) (Q : State → Prop) (G : aEnv) (g0 : Nat × Nat),
    l.stackTraces = false → aFx p R s m args meth c G d k g0 o → aBx G s s.heap → c.exceptionTable.toList = tableOf (aHh k) → aEnd p l e R s m args below meth c Q G k g0 o → aGo p l e R s m args below meth c Q G k g0 pc L st σ
set_option maxHeartbeats 4000000 in
theorem aFrW_all : ∀ n, aFrW n := by
  intro n
  induction n with
  | zero => intro d k pc L st σ o h; cases h
  | succ n ih =>
    intro d k pc L st σ o h hk hd2 p l e R s m args below meth c Q G g0 hls X hB htab hE
    unfold aX aStep at h
    split at h
    · cases h
    · rename_i i len t a b z hf
      obtain ⟨hd, hl⟩ := aWd_at (aWi_ok k hk) hf
      have he := List.all_eq_true.mp (aWe_ok k hk) _ (aFind_mem hf)
      have hKK : aKok p l e R s m args below meth c Q G k g0 (fun pc' L' st' τ => aX n d k pc' L' st' τ) o := by
        intro pc' L' st' σ' hq
        have hg := aX_grow _ _ _ _ _ _ _ _ hq
        exact ⟨ih d k pc' L' st' σ' o hq hk hd2 p l e R s m args below meth c Q G g0 hls X hB htab hE, hg.1.1, hg.1.2⟩
      have hCC : aCok l G (fun e k' as τ => aX n e k' 0 (aLoc (aMt k').2.2.1 as) [] τ) := fun e' k' as τ0 v τ' g' hc hp' _ hw => aMet_of (aFr_all n) hc hp' hw
      cases i with
      | invokevirtual ix =>
        unfold aWe at he
        dsimp only at he
        obtain ⟨t6, he⟩ := (Bool.and_eq_true _ _).mp he
        obtain rfl : t = 6 := Nat.eq_of_beq_eq_true t6
        obtain ⟨hT, he⟩ := (Bool.and_eq_true _ _).mp he
        split at he
        · rename_i x hx
          obtain ⟨hcov, hxx⟩ := (Bool.and_eq_true _ _).mp he
          obtain ⟨hxb, hx13⟩ := of_decide_eq_true hxx
          unfold aIl at hl
          dsimp only at hl
          obtain ⟨l3, hl9⟩ := (Bool.and_eq_true _ _).mp hl
          have hl8 : (aInM aMLk (aOn k) ix a && aKc z.toNat (aNm a).1.cls) = true := hl9
          obtain ⟨hl1, hl2⟩ := (Bool.and_eq_true _ _).mp hl8
          obtain rfl : len = 3 := Nat.eq_of_beq_eq_true l3
          exact as_virtualH X hB hKK hCC (fun e' k' as τ0 τ' hc hk' he hw => aMetT_of hls hc hk' he hw) hd2 (aWi_ok k hk) hk (of_decide_eq_true hT) x (htab.trans hx) hcov hxb hx13 hd hl1 hl2 h
        · cases he
      | new ix => cases he
      | _ => exact aAct_sndX X hKK hCC hE (fun ix hix => by cases hix) hd hl he h
theorem wm_ofWH {l : Launch} {y : MethodName} {ws ws' : List Cond} {rm : Room} {Pc : Array Value → State → Prop} {Qc : Array Value → State → Outcome → State → Prop} {mc ms : Nat} {free : Addr → Prop} {cc : ByteArray} {maxL : Nat} {ret : Option FieldType} {hh : List (Nat × Nat × Nat × Nat)}
    (hy : plainName y.cls = true) (hw : ws = Cond.codeWith y cc maxL ret hh :: ws')
    (body : ∀ p e s m args below meth c s₁, BodyLoose p l y (headSpec ws rm) cc maxL ret e s m args below meth c s₁ → c.maxLocals = maxL → Pc args s →
      W p l e (headSpec ws rm).room s m args below meth c s.heap [] 0 0 (MQ below Qc args s mc ms free) (entryFrame m args maxL)) : Met l y ws rm Pc Qc mc ms free := by
  refine MetFree.of_bodyS (code := cc) (maxLocals := maxL) (ret := ret) hy ?_ ?_
  · intro args s m h hn
    obtain ⟨m9, meth, c, hn9, h1, h2, h3, h4, -, h5, h6, -⟩ := Cond.codeWith_spec (atoms_spec (ws := ws) h _ (by rw [hw]; exact List.mem_cons_self))
    cases hn.symm.trans hn9
    exact ⟨meth, c, h1, h2, h3, h4, h5, h6⟩
  · intro p e s m args below meth c s₁ B hml hP _
    have hh0 : s₁.heap = s.heap := by rw [B.state]; rfl
    obtain ⟨t, a1, o, b1, b2, b3⟩ := body p e s m args below meth c s₁ B hml hP s₁ hh0 (Stand.of_body B)
    exact ⟨t, o, a1, b1, b2, b3⟩
def aMetW (l : Launch) (G : aEnv) (d k : Nat) (as : List Value) (σ : aS) (v : Option Value) (τ : aS) : Prop :=
  (σ.1.2.1 ≤ τ.1.2.1 ∧ σ.1.2.2 ≤ τ.1.2.2) ∧ (∀ w, v = some w → aVk τ.1.1 w) ∧ ∀ ad : List Nat, ad.length + 6 = σ.1.1 → aVs σ.1.1 as → Met l (aNm k).1 (aCw k :: aTb) (aRm d k (τ.1.2.1 - σ.1.2.1) (τ.1.2.2 - σ.1.2.2)) (va_Pc (as.map (aUp G ad)) (aPreX G ad σ)) (aPost G ad v τ) (τ.1.2.1 - σ.1.2.1) (τ.1.2.2 - σ.1.2.2) (aA G)
theorem aMetW_of {n : Nat} {l : Launch} (hls : l.stackTraces = false) {G : aEnv} {d k : Nat} {as : List Value} {σ τ : aS} {v : Option Value} (h : aX n d k 0 (aLoc (aMt k).2.2.1 as) [] σ = some (some v, τ)) (hk : k ∈ aWr) (hd2 : 2 ≤ d) (hw : aW as ≤ (aMt k).2.2.1) : aMetW l G d k as σ v τ := by
  obtain ⟨⟨le1, le2⟩, hvv⟩ := aX_grow _ _ _ _ _ _ _ _ h
  refine ⟨⟨le1, le2⟩, fun w hw => ?_, fun ad had hvs => ?_⟩
  · rcases hvv w (by rw [hw]) with ⟨x, rfl⟩ | ⟨x, rfl⟩ <;> trivial
  · obtain ⟨w1, w2, w3, w4, wk, wl, wr, wpl, wm, wv, wo, wc⟩ := aWrk_ok k hk
    refine wm_ofWH (cc := (aNm k).2.1) (maxL := (aMt k).2.2.1) (ret := (aNm k).2.2) (hh := aHh k) wpl rfl ?_
    intro p e s m args below meth c s₁ B hml hPc
    obtain ⟨rfl, ⟨hI, hB, hn0⟩, hBx⟩ := hPc
    have hlocks := B.notSynchronized
    have hts := atoms_spec (ws := aCw k :: aTb) B.pre
    have htab := vx_table (x := (aNm k).1) B (hts _ List.mem_cons_self)
    have hown : s.vm.findClass (aOw (aOn k)) = some m.cls := by
      rw [wo, ← wc]
      exact findClass_of_methodNamed B.named
    have X : aFx p (headSpec (aCw k :: aTb) (aRm d k (τ.1.2.1 - σ.1.2.1) (τ.1.2.2 - σ.1.2.2))).room s m (as.map (aUp G ad)).toArray meth c (aG0 G ad) d k (σ.1.2.1, σ.1.2.2) (some v, τ) :=
      ⟨B.exec, B.bytes, hml, hown, fun w hw => hts w (List.mem_cons_of_mem _ hw), hB, hn0, (name_of_methodNamed B.named B.method).1, Nat.le_refl _, Nat.le_refl _, by show τ.1.2.1 ≤ σ.1.2.1 + (τ.1.2.1 - σ.1.2.1); omega, by show τ.1.2.2 ≤ σ.1.2.2 + (τ.1.2.2 - σ.1.2.2); omega⟩
    have hE : aEnd p l e (headSpec (aCw k :: aTb) (aRm d k (τ.1.2.1 - σ.1.2.1) (τ.1.2.2 - σ.1.2.2))).room s m (as.map (aUp G ad)).toArray below meth c (MQ below (aPost G ad v τ) (as.map (aUp G ad)).toArray s (τ.1.2.1 - σ.1.2.1) (τ.1.2.2 - σ.1.2.2) (aA G)) (aG0 G ad) k (σ.1.2.1, σ.1.2.2) (some v, τ) := by
      intro pc i v' ad' H locs ls hd hlast hov hI' hS'
      cases hov
      have hq : ∀ t : State, t.heap = H → aPost G ad v τ (as.map (aUp G ad)).toArray s (.returned (v.map (aUp G ad'))) t := by
        intro t ht
        obtain ⟨x, hx, hI2⟩ := aInv_out hI hI'
        subst hx
        exact ⟨x, rfl, by rw [ht]; exact hI2, hS'.F ht⟩
      have hf : ∀ q ∈ locs, aA G q.base := hS'.2.2
      rcases hlast with ⟨rfl, hr, rfl⟩ | ⟨rfl, hr, x, rfl⟩ | ⟨rfl, x, rfl, hr⟩
      · exact W.vret B.exec B.bytes (by rw [B.returns]; exact aRk_0 (wk.trans hr)) (fun t ht _ => hq t ht) hf hd hlocks
      · rcases aRk_s (Or.inr (Or.inl hr)) wk with ⟨q, -⟩ | ⟨-, q⟩ | ⟨q, -⟩ | ⟨q, -⟩ | ⟨q, -⟩ <;> first | omega | skip
        exact W.lret B.exec B.bytes (by rw [B.returns]; exact q) (fun t ht _ => hq t ht) hf hd hlocks
      · rcases hr with hr | ⟨hr, hx⟩ | ⟨hr, hx⟩ | ⟨hr, hx⟩
        · rcases aRk_s (Or.inl hr) wk with ⟨-, q⟩ | ⟨q, -⟩ | ⟨q, -⟩ | ⟨q, -⟩ | ⟨q, -⟩ <;> first | omega | skip
          exact W.iret B.exec B.bytes (by rw [B.returns]; exact q) (fun t ht _ => hq t ht) hf hd hlocks
        · rcases aRk_s (Or.inr (Or.inr (Or.inl hr))) wk with ⟨q, -⟩ | ⟨q, -⟩ | ⟨-, q⟩ | ⟨q, -⟩ | ⟨q, -⟩ <;> first | omega | skip
          exact W.zret B.exec B.bytes (by rw [B.returns]; exact q) hx (fun t ht _ => hq t ht) hf hd hlocks
        · rcases aRk_s (Or.inr (Or.inr (Or.inr (Or.inl hr)))) wk with ⟨q, -⟩ | ⟨q, -⟩ | ⟨q, -⟩ | ⟨-, q⟩ | ⟨q, -⟩ <;> first | omega | skip
          exact W.zret B.exec B.bytes (by rw [B.returns]; exact q) hx (fun t ht _ => hq t ht) hf hd hlocks
        · rcases aRk_s (Or.inr (Or.inr (Or.inr (Or.inr hr)))) wk with ⟨q, -⟩ | ⟨q, -⟩ | ⟨q, -⟩ | ⟨q, -⟩ | ⟨-, q⟩ <;> first | omega | skip
          exact W.zret B.exec B.bytes (by rw [B.returns]; exact q) hx (fun t ht _ => hq t ht) hf hd hlocks
    have hgo := aFrW_all n d k 0 _ [] σ _ h hk hd2 p l e _ s m _ below meth c _ (aG0 G ad) (σ.1.2.1, σ.1.2.2) hls X hBx htab hE
    obtain ⟨hLr, hLl⟩ := aLr_entry (G := aG0 G ad) (ad := ad) hvs hw
    have := hgo ad s.heap [] _ (aInv_in hI) va_S.rf hLr (fun v hv => by cases hv) (Nat.le_refl _) (Nat.le_refl _) hLl
    rw [lg_entry_eq]
    simp only [Nat.sub_self] at this
    exact this
