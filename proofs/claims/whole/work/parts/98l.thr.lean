/-! THROWING FRAMES: no jump goes back, so the stack is no longer than the place -/
def aBd (K : Nat → List Value → List Value → aS → Option aO) : Nat → List Value → List Value → aS → Option aO := fun pc L st σ => if st.length ≤ pc then K pc L st σ else none
def aUs (i : Instr) : Bool := match i with
  | .aload_n _ => true
  | .iload_n _ => true
  | .getfield _ => true
  | .iconst _ => true
  | .iaload => true
  | .laload => true
  | .imul => true
  | .iadd => true
  | .ireturn => true
  | .lreturn => true
  | .dup => true
  | .new _ => true
  | .invokespecial _ => true
  | .athrow => true
  | .invokevirtual _ => true
  | .invokestatic _ => true
  | .ifCond _ o => decide (0 < o)
  | .if_icmp _ o => decide (0 < o)
  | .goto o => decide (0 < o)
  | .tableswitch df _ _ offs => decide (0 < df) && offs.toList.all (fun x => decide (0 < x))
  | _ => false
theorem aTgt_up {pc : Nat} {o : Int} (h : 0 < o) : pc < aTgt pc o := by unfold aTgt; omega
set_option maxHeartbeats 4000000 in
set_option maxRecDepth 100000 in
theorem aAct_bd {C : Nat → Nat → List Value → aS → Option aO} {K : Nat → List Value → List Value → aS → Option aO} {d k : Nat} {i : Instr} {len t a b : Nat} {z : Int} {pc : Nat} {L st : List Value} {σ : aS} {o : aO} (hu : aUs i = true) (ht : t ≠ 6) (hp : st.length ≤ pc) (h : aAct C K d k i len t a b z pc L st σ = some o) : aAct C (aBd K) d k i len t a b z pc L st σ = some o := by
  have kb : ∀ {pc' : Nat} {L' st' : List Value} {σ' : aS}, K pc' L' st' σ' = some o → st'.length ≤ pc' → aBd K pc' L' st' σ' = some o := fun h q => (if_pos q).trans h
  have kc : aCall C d k a st σ (fun r τ => K (pc + 3) L r τ) = some o → aCall C d k a st σ (fun r τ => aBd K (pc + 3) L r τ) = some o := by
    intro h
    obtain ⟨e', v, st', τ, -, -, -, g1, ha, g3, g4⟩ := aCall_use h
    refine g4 _ _ g1 (kb g3 ?_)
    rcases ha with ⟨-, -, rfl⟩ | ⟨-, y, -, rfl⟩ | ⟨-, -, y, -, rfl⟩ <;> simp <;> omega
  cases i
  all_goals first
    | (cases hu; done)
    | skip
  all_goals unfold aAct at h ⊢
  all_goals dsimp only at h ⊢
  all_goals try (have hu' := of_decide_eq_true hu)
  all_goals try (have hu' := aTgt_up (pc := pc) hu')
  all_goals try (have hu3 := aTgt_up (pc := pc) (of_decide_eq_true ((Bool.and_eq_true _ _).mp hu).1))
  all_goals (repeat' split at h)
  all_goals first
    | (cases h; done)
    | exact h
    | exact kc h
    | (rw [if_pos (by assumption)]; exact kc h)
    | exact kb h (by first | omega | (simp only [List.length_cons] at *; omega))
    | (simp only [*, if_true, if_false]; exact kb h (by first | omega | (simp only [List.length_cons] at *; omega)))
    | (simp only [*, if_true, if_false]; done)
    | exact absurd rfl ht
    | skip
  rename_i zdf zlo zhi zoffs zst zx zr zhx zxo zoff zheq
  have hu2 : (decide (0 < zdf) && zoffs.toList.all (fun x => decide (0 < x))) = true := hu
  have h8 := List.all_eq_true.mp ((Bool.and_eq_true _ _).mp hu2).2 zoff (List.mem_of_getElem? zheq)
  have h9 := aTgt_up (pc := pc) (of_decide_eq_true h8)
  rw [if_neg zhx]
  exact kb h (by simp only [List.length_cons] at hp; omega)
/-! what a throw needs of the start -/
def aXn : String := "java/util/NoSuchElementException"
def aXs : List String := ["java/lang/RuntimeException", "java/lang/Exception"]
def aBn : List Cond := (vx_at0 "BluesAndGreens" 145 aXn aXs).filter (fun w => !goodWord w)
def aDcl (w : Cond) : Bool := match w with
  | .declares _ => true
  | .castable _ _ => true
  | _ => false
set_option maxRecDepth 100000 in
theorem aBn_k : aBn.all aDcl = true := by decide +kernel
def aBx (G : aEnv) (U : State) (H : Heap) : Prop := vx_Zq Bundle.tN "UNASSIGNED_STACK" Bundle.steD (aA G) U H ∧ vx_Zq Bundle.tN "SUPPRESSED_SENTINEL" Bundle.listD (aA G) U H ∧ ∀ w ∈ aBn, va_Nw w U
theorem aBx.go {G : aEnv} {s U : State} {H H' : Heap} (hW : s.WarmedH U.vm) (hk : ∀ q : Nat, q < H.size → ¬ aA G q → H'[q]? = H[q]?) (h : aBx G s H) : aBx G U H' := by
  obtain ⟨h1, h2, h3⟩ := h
  refine ⟨(vx_Zq.moved hW.alike h1).kept hk, (vx_Zq.moved hW.alike h2).kept hk, fun w hw => ?_⟩
  have h4 := h3 w hw
  have h5 := List.all_eq_true.mp aBn_k w hw
  cases w with
  | declares x => exact va_Nw.warmD hW h4
  | castable C T => exact va_Nw.warmC hW h4
  | _ => cases h5
def aThr : List Nat := [169, 170, 171, 172, 173, 176]
def aT13 (k : Nat) (e : aN) : Bool := aUs e.2.1 && (decide (e.2.2.2.1 ≠ 6) && (match e.2.1 with
  | .new ix => decide (ix = 143 ∧ e.1 ≤ 128 ∧ decode (aNm k).2.1 (e.1 + 3) = .ok (.dup, 1) ∧ decode (aNm k).2.1 (e.1 + 4) = .ok (.invokespecial 145, 3) ∧ decode (aNm k).2.1 (e.1 + 7) = .ok (.athrow, 1))
  | _ => true))
set_option maxRecDepth 100000 in
theorem aT13_ok : ∀ k ∈ aThr, (aMt k).1.all (aT13 k) = true := by decide +kernel
set_option maxRecDepth 100000 in
theorem aThr_ok : ∀ k ∈ aThr, aPl k 1 = true ∧ aOw (aOn k) = "BluesAndGreens" := by decide +kernel
def aMem (w : Cond) : Bool := aTb.any (fun v => decide (v = w))
theorem aMem_in {w : Cond} (h : aMem w = true) : w ∈ aTb := by
  obtain ⟨v, h1, h2⟩ := List.any_eq_true.mp h
  rw [← of_decide_eq_true h2]
  exact h1
set_option maxRecDepth 100000 in
theorem aTw1 : aMem (.classLink "BluesAndGreens" 143 aXn) = true := by decide +kernel
set_option maxRecDepth 100000 in
theorem aTw2 : aMem (.initialized aXn) = true := by decide +kernel
set_option maxRecDepth 100000 in
theorem aTw3 : ((vx_at0 "BluesAndGreens" 145 aXn aXs).filter goodWord).all aMem = true := by decide +kernel
set_option maxRecDepth 100000 in
theorem aTw4 : (Cond.classLink "BluesAndGreens" 143 aXn :: Cond.initialized aXn :: vx_at0 "BluesAndGreens" 145 aXn aXs).all vx_ot = true := by decide +kernel
set_option maxRecDepth 100000 in
theorem aTw5 : Bundle.fit aXn = true ∧ ∀ n ∈ aXs, Bundle.fit n = true := by decide +kernel
set_option maxRecDepth 100000 in
theorem aBn_ot : aBn.all Cond.onTables = true := by decide +kernel
theorem aCat2 : ∀ l : List Value, (l.map fun v => v.category).sum ≤ 2 * l.length
  | [] => Nat.le_refl _
  | v :: l => by
    have := aCat2 l
    rw [List.map_cons, List.sum_cons, List.length_cons]
    rcases lv_cat v with h | h <;> omega
theorem aInv_thrown {G : aEnv} {ad : List Nat} {σ : aS} {H H' : Heap} (hI : aInv G ad σ H) (hk : ∀ q : Nat, q < H.size → H'[q]? = H[q]?) : aInv G ad (aNew σ 0 6) H' := by
  obtain ⟨h1, h2, h3, h4⟩ := hI
  refine ⟨h1, h2.kept fun k q hq => hk _ (vx_lt h2 hq), h3, ?_⟩
  have := aWf_New (nm := 0) (n := 6) [] h4
  rw [List.append_nil] at this
  exact this
