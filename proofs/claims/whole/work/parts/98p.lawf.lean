/-! THE LAW'S FRAME -/
def aLwe (e : aN) : Bool := match e.2.1 with
  | .invokestatic _ => (Nat.beq e.2.2.2.1 1 && decide (e.2.2.2.2.1 ∈ aWr)) || aIm e
  | .new _ => decide (e.2.2.2.1 ≠ 13)
  | _ => aIm e
set_option maxRecDepth 100000 in
theorem aLwe_0 : (aMt 296).1.all aLwe = true := by decide +kernel
theorem aLwe_ok : ∀ k, k = 296 → (aMt k).1.all aLwe = true := fun k h => Eq.mpr (congrArg (fun k => (aMt k).1.all aLwe = true) h) aLwe_0
theorem aIc_296 : ∀ k, k = 296 → (aMt k).1.all (aIc k) = true := fun k h => Eq.mpr (congrArg (fun k => (aMt k).1.all (aIc k) = true) h) aI296
def aCokW (l : Launch) (G : aEnv) (C : Nat → Nat → List Value → aS → Option aO) : Prop := ∀ e k' as τ0 v τ, C e k' as τ0 = some (some v, τ) → k' ∈ aWr → 2 ≤ e → aW as ≤ (aMt k').2.2.1 → aMetW l G e k' as τ0 v τ
section SndL
variable {p : Program} {l : Launch} {e : Env} {R : Room} {s : State} {m : MethodId} {args : Array Value} {below : List Frame} {meth : Method} {c : Code} {Q : State → Prop} {G : aEnv} {d k : Nat} {g0 : Nat × Nat} {C : Nat → Nat → List Value → aS → Option aO} {K : Nat → List Value → List Value → aS → Option aO} {o : aO} {len t a b : Nat} {z : Int} {pc : Nat} {L st : List Value} {σ : aS}
theorem as_staticW {ix : Nat} (X : aFx p R s m args meth c G d k g0 o) (hB : aBx G s s.heap) (hK : aKok p l e R s m args below meth c Q G k g0 K o) (hCW : aCokW l G C) (hd3 : 3 ≤ d) (ha : a ∈ aWr) (hd : decode (aNm k).2.1 pc = .ok (.invokestatic ix, 3)) (hlk : aInM aMLk (aOn k) ix a = true) (h : aCall C d k a st σ (fun r τ => K (pc + 3) L r τ) = some o) : aGo p l e R s m args below meth c Q G k g0 pc L st σ := by
  intro ad H locs ls hI hS hL hv g1 g2 hn
  obtain ⟨e', v, st', τ, h1, ⟨h2, h3⟩, hdp, hC0, hans, hKK, -⟩ := aCall_use h
  obtain ⟨w1, w2, ws, wp, wk, wl, wr, wpl, wm, wv, wo, wc⟩ := aWrk_ok a ha
  have he2 : 2 ≤ e' := by
    unfold aDp at hdp
    split at hdp
    · cases hdp; omega
    · split at hdp
      · cases hdp
      · cases hdp; omega
  obtain ⟨⟨le1, le2⟩, hvv, hM⟩ := hCW e' a _ σ v τ hC0 ha he2 (aW_rev h3)
  have hM := hM ad hI.1 (aVs_take _ hv)
  have hk1 := (hK _ _ _ _ hKK).2
  have r1 := X.2.2.2.2.2.2.2.2.2.2.1
  have r2 := X.2.2.2.2.2.2.2.2.2.2.2
  have hfr := X.2.2.2.2.2.2.2.2.1
  have hlo := X.2.2.2.2.2.2.2.2.2.1
  have hrm := aDp_room hdp wr
  refine aCall_go hK hI hS hL (aVs_drop _ hv) g1 g2 hn le1 le2 hvv rfl rfl (vx_runSW (Ts := aTb) (hh := aHh a) ⟨X.1, X.2.1, X.2.2.1, X.2.2.2.1, X.2.2.2.2.1⟩ hM (vx_cwSW (aMt a).2.1 X.2.2.2.2.1 (aGi ?_) rfl rfl rfl ⟨wm, wv, wp⟩ ⟨?_, ?_⟩) ⟨aBlindX _, aPreUX X hB hI hS _⟩ rfl (by simp [h1]) (by show ls.size = _; rw [hL.1, hn]) (aStk st _) (lv_room (by rw [aW_map]; exact h2)) hd ⟨by omega, by omega⟩) hans hKK
  · intro w hw
    unfold va_wsS at hw
    simp only [List.cons_append, List.nil_append, List.mem_cons] at hw
    rcases hw with rfl | rfl | rfl | rfl | hw
    · exact aInM_w hlk
    · exact aMem_in ws
    · exact aMem_in w2
    · exact aMem_in w1
    · exact hw
  · exact Nat.le_trans hrm hfr
  · exact aLrm hrm hlo wl
end SndL
def aFrL (n : Nat) : Prop := ∀ (d k pc : Nat) (L st : List Value) (σ : aS) (o : aO), aX n d k pc L st σ = some o → k = 296 → 3 ≤ d →
  ∀ (p : Program) (l : Launch) (e : Env) (R : Room) (s : State) (m : MethodId) (args : Array Value) (below : List Frame) (meth : Method) (c : Code) (Q : State → Prop) (G : aEnv) (g0 : Nat × Nat),
    l.stackTraces = false → aFx p R s m args meth c G d k g0 o → aBx G s s.heap → aEnd p l e R s m args below meth c Q G k g0 o → aGo p l e R s m args below meth c Q G k g0 pc L st σ
set_option maxHeartbeats 4000000 in
theorem aFrL_all : ∀ n, aFrL n := by
  intro n
  induction n with
  | zero => intro d k pc L st σ o h; cases h
  | succ n ih =>
    intro d k pc L st σ o h hk hd3 p l e R s m args below meth c Q G g0 hls X hB hE
    unfold aX aStep at h
    split at h
    · cases h
    · rename_i i len t a b z hf
      obtain ⟨hd, hl⟩ := aWd_at (aIc_296 k hk) hf
      have he := List.all_eq_true.mp (aLwe_ok k hk) _ (aFind_mem hf)
      have hKK : aKok p l e R s m args below meth c Q G k g0 (fun pc' L' st' τ => aX n d k pc' L' st' τ) o := by
        intro pc' L' st' σ' hq
        have hg := aX_grow _ _ _ _ _ _ _ _ hq
        exact ⟨ih d k pc' L' st' σ' o hq hk hd3 p l e R s m args below meth c Q G g0 hls X hB hE, hg.1.1, hg.1.2⟩
      have hCC : aCok l G (fun e k' as τ => aX n e k' 0 (aLoc (aMt k').2.2.1 as) [] τ) := fun e' k' as τ0 v τ' g' hc hp' _ hw => aMet_of (aFr_all n) hc hp' hw
      cases i with
      | invokestatic ix =>
        by_cases hw : t = 1 ∧ a ∈ aWr
        · obtain ⟨rfl, ha⟩ := hw
          unfold aIl at hl
          dsimp only at hl
          obtain ⟨l3, hl9⟩ := (Bool.and_eq_true _ _).mp hl
          have hl8 : aInM aMLk (aOn k) ix a = true := hl9
          obtain rfl : len = 3 := Nat.eq_of_beq_eq_true l3
          exact as_staticW X hB hKK (fun e' k' as τ0 v τ' hc hk' he hw => aMetW_of hls hc hk' he hw) hd3 ha hd hl8 h
        · have hm : aIm (pc, .invokestatic ix, len, t, a, b, z) = true := by
            unfold aLwe at he
            dsimp only at he
            rcases (Bool.or_eq_true _ _).mp he with q | q
            · obtain ⟨q1, q2⟩ := (Bool.and_eq_true _ _).mp q
              exact absurd ⟨Nat.eq_of_beq_eq_true q1, of_decide_eq_true q2⟩ hw
            · exact q
          exact aAct_sndX X hKK hCC hE (fun ix hix => by cases hix) hd hl hm h
      | new ix =>
        have ht : t ≠ 13 := of_decide_eq_true he
        exact aAct_sndX X hKK hCC hE (fun ix _ h13 => absurd h13 ht) hd hl rfl h
      | _ => exact aAct_sndX X hKK hCC hE (fun ix hix => by cases hix) hd hl he h
