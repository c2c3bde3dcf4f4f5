/-! rows, new cells, constants, calls of no method of ours -/
theorem aArW : aWd 321 (.arrayClass .byte) = true ∧ aWd 128 (.arrayClass .char) = true ∧ aWd 171 (.arrayClass .int) = true ∧ aWd 187 (.arrayClass .long) = true ∧ aWd 320 (.arrayClass .boolean) = true := by decide +kernel
theorem aKd_row : ∀ ob, ob < 68 → 12 ≤ aKd ob → aKd ob ≤ 22 → aKd ob ≤ 16 ∨ aKd ob = 20 ∨ aKd ob = 21 ∨ aKd ob = 22 := by decide +kernel
theorem aLn_small : ∀ ob, ob < 68 → aLn ob ≤ 500 := by decide +kernel
theorem aKd_68 {ob : Nat} (h : aKd ob < 99) : ob < 68 := by
  rcases Nat.lt_or_ge ob 68 with q | q
  · exact q
  · have : aKd ob = 99 := by
      unfold aKd
      rw [List.getD_eq_getElem?_getD, List.getElem?_eq_none (by exact q)]
      rfl
    omega
section Snd1
variable {p : Program} {l : Launch} {e : Env} {R : Room} {s : State} {m : MethodId} {args : Array Value} {below : List Frame} {meth : Method} {c : Code} {Q : State → Prop} {G : aEnv} {d k : Nat} {g0 : Nat × Nat} {C : Nat → Nat → List Value → aS → Option aO} {K : Nat → List Value → List Value → aS → Option aO} {o : aO} {len t a b : Nat} {z : Int} {pc : Nat} {L st : List Value} {σ : aS}

theorem aScr (X : aFx p R s m args meth c G d k g0 o) {ad : List Nat} : aUp G ad (.ref 0) = .ref (G.2.2.2.1 0) ∧ G.2.2.2.1 0 < s.heap.size := by
  refine ⟨rfl, ?_⟩
  obtain ⟨scr, q, -⟩ := X.2.2.2.2.2.1.2.1.1
  exact (Array.getElem?_eq_some_iff.mp q).1
theorem as_iaload  (X : aFx p R s m args meth c G d k g0 o) (hK : aKok p l e R s m args below meth c Q G k g0 K o)  (hd : decode (aNm k).2.1 pc = .ok (.iaload, len)) (hl : aIl k pc (.iaload) len t a b z = true) (h : aAct C K d k (.iaload) len t a b z pc L st σ = some o) : aGo p l e R s m args below meth c Q G k g0 pc L st σ := by
  intro ad H locs ls hI hS hL hv g1 g2 hn
  obtain rfl : len = 1 := Nat.eq_of_beq_eq_true hl
  simp only [aAct] at h
  split at h
  · rename_i j ob r
    split at h
    · rename_i hkd
      split at h
      · cases h
      · rename_i hin
        rcases hkd with hkd | hkd
        · obtain ⟨h6, -, hws, hup, hsz⟩ := aArr hI hkd (by decide) (by decide) hv.t.h
          rw [if_neg (by decide)] at hws
          rw [hsz] at hin
          rw [List.map_cons, List.map_cons, hup]
          exact va_iald X.1 X.2.1 X.2.2.2.2.2.1.1 hI.2.1 (ob - 6) 2 hws rfl hin hd ((hK _ _ _ _ h).1 ad H locs ls hI hS hL (aVs.c trivial hv.t.t) g1 g2 hn)
        · obtain rfl := aKd_20 hkd
          obtain ⟨hX0, hnA⟩ := X.2.2.2.2.2.1.2.1
          have hsz : aSz σ 0 = G.2.2.2.2.2.1 := by unfold aSz; rw [if_pos rfl]; exact hI.2.2.2.2.2.2.1
          rw [hsz] at hin
          have kk := (hK _ _ _ _ h).1 ad H locs ls hI hS hL (aVs.c trivial hv.t.t) g1 g2 hn
          rw [List.map_cons, hI.2.2.2.2.2.2.2.1] at kk
          rw [List.map_cons, List.map_cons, (aScr X).1]
          exact va_sld X.1 X.2.1 hX0 (aScr X (ad := ad)).2 hnA hS hin hd kk
    · cases h
  · cases h
theorem as_baload  (X : aFx p R s m args meth c G d k g0 o) (hK : aKok p l e R s m args below meth c Q G k g0 K o)  (hd : decode (aNm k).2.1 pc = .ok (.baload, len)) (hl : aIl k pc (.baload) len t a b z = true) (h : aAct C K d k (.baload) len t a b z pc L st σ = some o) : aGo p l e R s m args below meth c Q G k g0 pc L st σ := by
  intro ad H locs ls hI hS hL hv g1 g2 hn
  obtain rfl : len = 1 := Nat.eq_of_beq_eq_true hl
  simp only [aAct] at h
  split at h
  · rename_i j ob r
    split at h
    · rename_i hkd
      split at h
      · cases h
      · rename_i hin
        have kk := (hK _ _ _ _ h).1 ad H locs ls hI hS hL (aVs.c trivial hv.t.t) g1 g2 hn
        rcases hkd with hkd | hkd | hkd
        · obtain ⟨h6, -, hws, hup, -⟩ := aArr hI hkd (by decide) (by decide) hv.t.h
          rw [if_neg (by decide)] at hws
          rw [List.map_cons, List.map_cons, hup]
          exact va_bald X.1 X.2.1 X.2.2.2.2.2.1.1 hI.2.1 (ob - 6) 0 hws rfl hin hd kk
        · obtain ⟨h6, -, hws, hup, -⟩ := aArr hI hkd (by decide) (by decide) hv.t.h
          rw [if_neg (by decide)] at hws
          rw [List.map_cons, List.map_cons, hup]
          exact va_zald X.1 X.2.1 X.2.2.2.2.2.1.1 hI.2.1 (ob - 6) 4 hws rfl hin hd kk
        · rcases aKd_22 hkd with rfl | rfl
          · rw [List.map_cons, hI.2.2.2.2.2.2.2.2.1] at kk
            exact va_tb X.1 X.2.1 X.2.2.2.2.2.1.2.2.1.2.2.2 hS hin rfl hd kk
          · rw [List.map_cons, hI.2.2.2.2.2.2.2.2.2.1] at kk
            exact va_tb X.1 X.2.1 X.2.2.2.2.2.1.2.2.2.1.2.2.2 hS hin rfl hd kk
    · cases h
  · cases h
theorem as_caload  (X : aFx p R s m args meth c G d k g0 o) (hK : aKok p l e R s m args below meth c Q G k g0 K o)  (hd : decode (aNm k).2.1 pc = .ok (.caload, len)) (hl : aIl k pc (.caload) len t a b z = true) (h : aAct C K d k (.caload) len t a b z pc L st σ = some o) : aGo p l e R s m args below meth c Q G k g0 pc L st σ := by
  intro ad H locs ls hI hS hL hv g1 g2 hn
  obtain rfl : len = 1 := Nat.eq_of_beq_eq_true hl
  simp only [aAct] at h
  split at h
  · rename_i j ob r
    split at h
    · rename_i hkd
      split at h
      · cases h
      · rename_i hin
        obtain ⟨h6, -, hws, hup, -⟩ := aArr hI hkd (by decide) (by decide) hv.t.h
        rw [if_neg (by decide)] at hws
        rw [List.map_cons, List.map_cons, hup]
        exact va_cald X.1 X.2.1 X.2.2.2.2.2.1.1 hI.2.1 (ob - 6) 1 hws rfl hin hd ((hK _ _ _ _ h).1 ad H locs ls hI hS hL (aVs.c trivial hv.t.t) g1 g2 hn)
    · cases h
  · cases h
theorem as_laload  (X : aFx p R s m args meth c G d k g0 o) (hK : aKok p l e R s m args below meth c Q G k g0 K o)  (hd : decode (aNm k).2.1 pc = .ok (.laload, len)) (hl : aIl k pc (.laload) len t a b z = true) (h : aAct C K d k (.laload) len t a b z pc L st σ = some o) : aGo p l e R s m args below meth c Q G k g0 pc L st σ := by
  intro ad H locs ls hI hS hL hv g1 g2 hn
  obtain rfl : len = 1 := Nat.eq_of_beq_eq_true hl
  simp only [aAct] at h
  split at h
  · rename_i j ob r
    split at h
    · rename_i hkd
      split at h
      · cases h
      · rename_i hin
        obtain ⟨h6, -, hws, hup, -⟩ := aArr hI hkd (by decide) (by decide) hv.t.h
        rw [if_pos (by decide)] at hws
        rw [List.map_cons, List.map_cons, hup]
        exact va_lald X.1 X.2.1 X.2.2.2.2.2.1.1 hI.2.1 (ob - 6) 3 hws rfl hin hd ((hK _ _ _ _ h).1 ad H locs ls hI hS hL (aVs.c trivial hv.t.t) g1 g2 hn)
    · cases h
  · cases h
theorem as_iastore  (X : aFx p R s m args meth c G d k g0 o) (hK : aKok p l e R s m args below meth c Q G k g0 K o)  (hd : decode (aNm k).2.1 pc = .ok (.iastore, len)) (hl : aIl k pc (.iastore) len t a b z = true) (h : aAct C K d k (.iastore) len t a b z pc L st σ = some o) : aGo p l e R s m args below meth c Q G k g0 pc L st σ := by
  intro ad H locs ls hI hS hL hv g1 g2 hn
  obtain rfl : len = 1 := Nat.eq_of_beq_eq_true hl
  simp only [aAct] at h
  split at h
  · rename_i x j ob r
    split at h
    · rename_i hkd
      split at h
      · cases h
      · rename_i hin
        obtain ⟨h6, -, hws, hup, -⟩ := aArr hI hkd (by decide) (by decide) hv.t.t.h
        rw [if_neg (by decide)] at hws
        rw [List.map_cons, List.map_cons, List.map_cons, hup]
        exact va_iast X.1 X.2.1 X.2.2.2.2.2.1.1 hI.2.1 hI.2.2.1 hS (ob - 6) 2 hws rfl hin hd (fun H1 locs1 hP1 hD1 hS1 => (hK _ _ _ _ h).1 ad H1 locs1 ls (aInv_arr hI hkd (by decide) (by decide) (by decide) hv.t.t.h hP1 hD1) hS1 hL hv.t.t.t g1 g2 hn)
    · cases h
  · cases h
theorem as_castore  (X : aFx p R s m args meth c G d k g0 o) (hK : aKok p l e R s m args below meth c Q G k g0 K o)  (hd : decode (aNm k).2.1 pc = .ok (.castore, len)) (hl : aIl k pc (.castore) len t a b z = true) (h : aAct C K d k (.castore) len t a b z pc L st σ = some o) : aGo p l e R s m args below meth c Q G k g0 pc L st σ := by
  intro ad H locs ls hI hS hL hv g1 g2 hn
  obtain rfl : len = 1 := Nat.eq_of_beq_eq_true hl
  simp only [aAct] at h
  split at h
  · rename_i x j ob r
    split at h
    · rename_i hkd
      split at h
      · cases h
      · rename_i hin
        obtain ⟨h6, -, hws, hup, -⟩ := aArr hI hkd (by decide) (by decide) hv.t.t.h
        rw [if_neg (by decide)] at hws
        rw [List.map_cons, List.map_cons, List.map_cons, hup]
        exact va_cast X.1 X.2.1 X.2.2.2.2.2.1.1 hI.2.1 hI.2.2.1 hS (ob - 6) 1 hws rfl hin hd (fun H1 locs1 hP1 hD1 hS1 => (hK _ _ _ _ h).1 ad H1 locs1 ls (aInv_arr hI hkd (by decide) (by decide) (by decide) hv.t.t.h hP1 hD1) hS1 hL hv.t.t.t g1 g2 hn)
    · cases h
  · cases h
theorem as_lastore  (X : aFx p R s m args meth c G d k g0 o) (hK : aKok p l e R s m args below meth c Q G k g0 K o)  (hd : decode (aNm k).2.1 pc = .ok (.lastore, len)) (hl : aIl k pc (.lastore) len t a b z = true) (h : aAct C K d k (.lastore) len t a b z pc L st σ = some o) : aGo p l e R s m args below meth c Q G k g0 pc L st σ := by
  intro ad H locs ls hI hS hL hv g1 g2 hn
  obtain rfl : len = 1 := Nat.eq_of_beq_eq_true hl
  simp only [aAct] at h
  split at h
  · rename_i x j ob r
    split at h
    · rename_i hkd
      split at h
      · cases h
      · rename_i hin
        obtain ⟨h6, -, hws, hup, -⟩ := aArr hI hkd (by decide) (by decide) hv.t.t.h
        rw [if_pos (by decide)] at hws
        rw [List.map_cons, List.map_cons, List.map_cons, hup]
        exact va_last X.1 X.2.1 X.2.2.2.2.2.1.1 hI.2.1 hI.2.2.1 hS (ob - 6) 3 hws rfl hin hd (fun H1 locs1 hP1 hD1 hS1 => (hK _ _ _ _ h).1 ad H1 locs1 ls (aInv_arrL hI hkd hv.t.t.h hP1 hD1) hS1 hL hv.t.t.t g1 g2 hn)
    · cases h
  · cases h
theorem as_bastore  (X : aFx p R s m args meth c G d k g0 o) (hK : aKok p l e R s m args below meth c Q G k g0 K o)  (hd : decode (aNm k).2.1 pc = .ok (.bastore, len)) (hl : aIl k pc (.bastore) len t a b z = true) (h : aAct C K d k (.bastore) len t a b z pc L st σ = some o) : aGo p l e R s m args below meth c Q G k g0 pc L st σ := by
  intro ad H locs ls hI hS hL hv g1 g2 hn
  obtain rfl : len = 1 := Nat.eq_of_beq_eq_true hl
  simp only [aAct] at h
  split at h
  · rename_i x j ob r
    split at h
    · rename_i hkd
      split at h
      · cases h
      · rename_i hin
        obtain ⟨h6, -, hws, hup, -⟩ := aArr hI hkd (by decide) (by decide) hv.t.t.h
        rw [if_neg (by decide)] at hws
        rw [List.map_cons, List.map_cons, List.map_cons, hup]
        exact va_bast X.1 X.2.1 X.2.2.2.2.2.1.1 hI.2.1 hI.2.2.1 hS (ob - 6) 0 hws rfl hin hd (fun H1 locs1 hP1 hD1 hS1 => (hK _ _ _ _ h).1 ad H1 locs1 ls (aInv_arr hI hkd (by decide) (by decide) (by decide) hv.t.t.h hP1 hD1) hS1 hL hv.t.t.t g1 g2 hn)
    · split at h
      · rename_i hkd
        split at h
        · cases h
        · rename_i hin
          obtain ⟨h6, -, hws, hup, -⟩ := aArr hI hkd (by decide) (by decide) hv.t.t.h
          rw [if_neg (by decide)] at hws
          rw [List.map_cons, List.map_cons, List.map_cons, hup]
          exact va_zast X.1 X.2.1 X.2.2.2.2.2.1.1 hI.2.1 hI.2.2.1 hS (ob - 6) 4 hws rfl hin hd (fun H1 locs1 hP1 hD1 hS1 => (hK _ _ _ _ h).1 ad H1 locs1 ls (aInv_arr hI hkd (by decide) (by decide) (by decide) hv.t.t.h hP1 hD1) hS1 hL hv.t.t.t g1 g2 hn)
      · cases h
  · cases h
theorem as_arraylength  (X : aFx p R s m args meth c G d k g0 o) (hK : aKok p l e R s m args below meth c Q G k g0 K o)  (hd : decode (aNm k).2.1 pc = .ok (.arraylength, len)) (hl : aIl k pc (.arraylength) len t a b z = true) (h : aAct C K d k (.arraylength) len t a b z pc L st σ = some o) : aGo p l e R s m args below meth c Q G k g0 pc L st σ := by
  intro ad H locs ls hI hS hL hv g1 g2 hn
  obtain rfl : len = 1 := Nat.eq_of_beq_eq_true hl
  simp only [aAct] at h
  split at h
  · rename_i ob r
    split at h
    · rename_i hkd
      obtain ⟨k1, k2, k3⟩ := hkd
      have kk := (hK _ _ _ _ h).1 ad H locs ls hI hS hL (aVs.c trivial hv.t) g1 g2 hn
      rcases aKd_row ob (aKd_68 (by omega)) k1 k2 with hq | hkd | hkd | hkd
      · rcases (show aKd ob = 12 ∨ aKd ob = 13 ∨ aKd ob = 14 ∨ aKd ob = 15 ∨ aKd ob = 16 by omega) with hkd | hkd | hkd | hkd | hkd
        · obtain ⟨h6, -, hws, hup, hsz⟩ := aArr hI hkd (by decide) (by decide) hv.h
          rw [List.map_cons, hup]
          exact va_alen X.1 X.2.1 X.2.2.2.2.2.1.1 hI.2.1 (ob - 6) 0 hws rfl (by rw [hsz]) hd kk
        · obtain ⟨h6, -, hws, hup, hsz⟩ := aArr hI hkd (by decide) (by decide) hv.h
          rw [List.map_cons, hup]
          exact va_alen X.1 X.2.1 X.2.2.2.2.2.1.1 hI.2.1 (ob - 6) 1 hws rfl (by rw [hsz]) hd kk
        · obtain ⟨h6, -, hws, hup, hsz⟩ := aArr hI hkd (by decide) (by decide) hv.h
          rw [List.map_cons, hup]
          exact va_alen X.1 X.2.1 X.2.2.2.2.2.1.1 hI.2.1 (ob - 6) 2 hws rfl (by rw [hsz]) hd kk
        · obtain ⟨h6, -, hws, hup, hsz⟩ := aArr hI hkd (by decide) (by decide) hv.h
          rw [List.map_cons, hup]
          exact va_alen X.1 X.2.1 X.2.2.2.2.2.1.1 hI.2.1 (ob - 6) 3 hws rfl (by rw [hsz]) hd kk
        · obtain ⟨h6, -, hws, hup, hsz⟩ := aArr hI hkd (by decide) (by decide) hv.h
          rw [List.map_cons, hup]
          exact va_alen X.1 X.2.1 X.2.2.2.2.2.1.1 hI.2.1 (ob - 6) 4 hws rfl (by rw [hsz]) hd kk
      · obtain rfl := aKd_20 hkd
        obtain ⟨hX0, hnA⟩ := X.2.2.2.2.2.1.2.1
        have hsz : aSz σ 0 = G.2.2.2.2.2.1 := by unfold aSz; rw [if_pos rfl]; exact hI.2.2.2.2.2.2.1
        rw [hsz] at kk
        rw [List.map_cons, (aScr X).1]
        exact va_slen X.1 X.2.1 hX0 (aScr X (ad := ad)).2 hnA hS hd kk
      · exact absurd hkd k3
      · rcases aKd_22 hkd with rfl | rfl
        · exact va_tlen X.1 X.2.1 X.2.2.2.2.2.1.2.2.1.2.2.2 hS rfl hd kk
        · exact va_tlen X.1 X.2.1 X.2.2.2.2.2.1.2.2.2.1.2.2.2 hS rfl hd kk
    · cases h
  · cases h
theorem as_newarray_byte (X : aFx p R s m args meth c G d k g0 o) (hK : aKok p l e R s m args below meth c Q G k g0 K o) (hd : decode (aNm k).2.1 pc = .ok (.newarray .byte, len)) (hl : aIl k pc (.newarray .byte) len t a b z = true) (h : aAct C K d k (.newarray .byte) len t a b z pc L st σ = some o) : aGo p l e R s m args below meth c Q G k g0 pc L st σ := by
  intro ad H locs ls hI hS hL hv g1 g2 hn
  obtain rfl : len = 2 := Nat.eq_of_beq_eq_true hl
  simp only [aAct] at h
  split at h
  · rename_i n r
    split at h
    · cases h
    · rename_i hneg
      split at h
      · rename_i hkn
        obtain ⟨hkd, hln⟩ := hkn
        have hk1 := (hK _ _ _ _ h).2
        have r1 := X.2.2.2.2.2.2.2.2.2.2.1
        have r2 := X.2.2.2.2.2.2.2.2.2.2.2
        have h68 : σ.1.1 < 68 := aKd_68 (by rw [hkd]; decide)
        have hle := aLn_small _ h68
        have q1 : σ.1.2.1 + 1 ≤ o.2.1.2.1 := hk1.1
        have q2 : σ.1.2.2 + n.toNatClampNeg ≤ o.2.1.2.2 := hk1.2
        have hby : n.toNatClampNeg * componentBytes FieldType.byte ≤ 536870912 := by
          rw [← hln]
          have h8 : componentBytes FieldType.byte ≤ 8 := by decide
          exact Nat.le_trans (Nat.mul_le_mul hle h8) (by decide)
        refine va_newa (atype := .byte) X.1 X.2.1 (X.2.2.2.2.1 _ (aWd_in aArW.1)) (ty := .byte) rfl X.2.2.2.2.2.1.1 hI.2.1 hI.2.2.1 hS (fun q hq => Nat.le_trans X.2.2.2.2.2.2.1 hq) (N' := n.toNatClampNeg) (a0 := (n.toNatClampNeg, .inl (fun _ => 0))) (fun cA => rfl) hneg rfl hby (by omega) (by omega) hd (fun q cA H1 hK1 hP1 hD1 hS1 => ?_)
        have hcA : cA = G.2.1 12 := by
          have a1 : va_RA s cA .byte := (hK1.2 5 (cA, .byte) rfl).2
          have a2 : va_RA s (G.2.1 12) .byte := (X.2.2.2.2.2.1.1.2 0 (G.2.1 12, .byte) rfl).2
          exact Option.some.inj (a1.symm.trans a2)
        subst hcA
        have he : aEn G (ad ++ [q]) (aNew σ 1 n.toNatClampNeg) σ.1.1 = .inl (G.2.1 12, n.toNatClampNeg, .inl (fun _ => 0)) := by
          have hk2 : aKd σ.1.1 = 12 := hkd
          have z1 : σ.2.1 σ.1.1 = fun _ => 0 := funext fun j => (hI.2.2.2.2.1 σ.1.1 j (Nat.le_refl _)).1
          have z2 : σ.2.2.1 σ.1.1 = fun _ => 0 := funext fun j => (hI.2.2.2.2.1 σ.1.1 j (Nat.le_refl _)).2.1
          unfold aEn
          rw [if_neg (by rw [hk2]; decide), hk2, hln, if_neg (by decide)]
          first | exact congrArg (fun y => Sum.inl (G.2.1 12, n.toNatClampNeg, Sum.inl y)) z1 | exact congrArg (fun y => Sum.inl (G.2.1 12, n.toNatClampNeg, Sum.inr (Sum.inl y))) z2
        have hI1 := aInv_new hI he hP1 hD1
        have kk := (hK _ _ _ _ h).1 (ad ++ [q]) H1 locs ls hI1 hS1 (aLr_app [q] hI.1 (Nat.le_succ _) hL) (aVs.c (show σ.1.1 < σ.1.1 + 1 from Nat.lt_succ_self _) (fun v hv1 => aVk_le (Nat.le_succ _) (hv.t v hv1))) (Nat.le_trans g1 (Nat.le_succ _)) (Nat.le_trans g2 (Nat.le_add_right _ _)) hn
        rw [List.map_cons, aUp_map [q] hI.1 hv.t] at kk
        have e1 : (aNew σ 1 n.toNatClampNeg).1.2.1 - g0.1 = σ.1.2.1 - g0.1 + 1 := by simp [aNew]; omega
        have e2 : (aNew σ 1 n.toNatClampNeg).1.2.2 - g0.2 = σ.1.2.2 - g0.2 + n.toNatClampNeg := by simp [aNew]; omega
        rw [e1, e2, show aUp G (ad ++ [q]) (.ref σ.1.1) = .ref q by
          have h1 := hI.1
          rw [aUp_hi (by omega)]
          unfold aAdr
          rw [if_neg (by omega), show σ.1.1 - 6 = ad.length by omega]
          simp [List.getD_eq_getElem?_getD]] at kk
        exact kk
      · cases h
  · cases h
theorem as_newarray_char (X : aFx p R s m args meth c G d k g0 o) (hK : aKok p l e R s m args below meth c Q G k g0 K o) (hd : decode (aNm k).2.1 pc = .ok (.newarray .char, len)) (hl : aIl k pc (.newarray .char) len t a b z = true) (h : aAct C K d k (.newarray .char) len t a b z pc L st σ = some o) : aGo p l e R s m args below meth c Q G k g0 pc L st σ := by
  intro ad H locs ls hI hS hL hv g1 g2 hn
  obtain rfl : len = 2 := Nat.eq_of_beq_eq_true hl
  simp only [aAct] at h
  split at h
  · rename_i n r
    split at h
    · cases h
    · rename_i hneg
      split at h
      · rename_i hkn
        obtain ⟨hkd, hln⟩ := hkn
        have hk1 := (hK _ _ _ _ h).2
        have r1 := X.2.2.2.2.2.2.2.2.2.2.1
        have r2 := X.2.2.2.2.2.2.2.2.2.2.2
        have h68 : σ.1.1 < 68 := aKd_68 (by rw [hkd]; decide)
        have hle := aLn_small _ h68
        have q1 : σ.1.2.1 + 1 ≤ o.2.1.2.1 := hk1.1
        have q2 : σ.1.2.2 + n.toNatClampNeg ≤ o.2.1.2.2 := hk1.2
        have hby : n.toNatClampNeg * componentBytes FieldType.char ≤ 536870912 := by
          rw [← hln]
          have h8 : componentBytes FieldType.char ≤ 8 := by decide
          exact Nat.le_trans (Nat.mul_le_mul hle h8) (by decide)
        refine va_newa (atype := .char) X.1 X.2.1 (X.2.2.2.2.1 _ (aWd_in aArW.2.1)) (ty := .char) rfl X.2.2.2.2.2.1.1 hI.2.1 hI.2.2.1 hS (fun q hq => Nat.le_trans X.2.2.2.2.2.2.1 hq) (N' := n.toNatClampNeg) (a0 := (n.toNatClampNeg, .inl (fun _ => 0))) (fun cA => rfl) hneg rfl hby (by omega) (by omega) hd (fun q cA H1 hK1 hP1 hD1 hS1 => ?_)
        have hcA : cA = G.2.1 13 := by
          have a1 : va_RA s cA .char := (hK1.2 5 (cA, .char) rfl).2
          have a2 : va_RA s (G.2.1 13) .char := (X.2.2.2.2.2.1.1.2 1 (G.2.1 13, .char) rfl).2
          exact Option.some.inj (a1.symm.trans a2)
        subst hcA
        have he : aEn G (ad ++ [q]) (aNew σ 1 n.toNatClampNeg) σ.1.1 = .inl (G.2.1 13, n.toNatClampNeg, .inl (fun _ => 0)) := by
          have hk2 : aKd σ.1.1 = 13 := hkd
          have z1 : σ.2.1 σ.1.1 = fun _ => 0 := funext fun j => (hI.2.2.2.2.1 σ.1.1 j (Nat.le_refl _)).1
          have z2 : σ.2.2.1 σ.1.1 = fun _ => 0 := funext fun j => (hI.2.2.2.2.1 σ.1.1 j (Nat.le_refl _)).2.1
          unfold aEn
          rw [if_neg (by rw [hk2]; decide), hk2, hln, if_neg (by decide)]
          first | exact congrArg (fun y => Sum.inl (G.2.1 13, n.toNatClampNeg, Sum.inl y)) z1 | exact congrArg (fun y => Sum.inl (G.2.1 13, n.toNatClampNeg, Sum.inr (Sum.inl y))) z2
        have hI1 := aInv_new hI he hP1 hD1
        have kk := (hK _ _ _ _ h).1 (ad ++ [q]) H1 locs ls hI1 hS1 (aLr_app [q] hI.1 (Nat.le_succ _) hL) (aVs.c (show σ.1.1 < σ.1.1 + 1 from Nat.lt_succ_self _) (fun v hv1 => aVk_le (Nat.le_succ _) (hv.t v hv1))) (Nat.le_trans g1 (Nat.le_succ _)) (Nat.le_trans g2 (Nat.le_add_right _ _)) hn
        rw [List.map_cons, aUp_map [q] hI.1 hv.t] at kk
        have e1 : (aNew σ 1 n.toNatClampNeg).1.2.1 - g0.1 = σ.1.2.1 - g0.1 + 1 := by simp [aNew]; omega
        have e2 : (aNew σ 1 n.toNatClampNeg).1.2.2 - g0.2 = σ.1.2.2 - g0.2 + n.toNatClampNeg := by simp [aNew]; omega
        rw [e1, e2, show aUp G (ad ++ [q]) (.ref σ.1.1) = .ref q by
          have h1 := hI.1
          rw [aUp_hi (by omega)]
          unfold aAdr
          rw [if_neg (by omega), show σ.1.1 - 6 = ad.length by omega]
          simp [List.getD_eq_getElem?_getD]] at kk
        exact kk
      · cases h
  · cases h
theorem as_newarray_int (X : aFx p R s m args meth c G d k g0 o) (hK : aKok p l e R s m args below meth c Q G k g0 K o) (hd : decode (aNm k).2.1 pc = .ok (.newarray .int, len)) (hl : aIl k pc (.newarray .int) len t a b z = true) (h : aAct C K d k (.newarray .int) len t a b z pc L st σ = some o) : aGo p l e R s m args below meth c Q G k g0 pc L st σ := by
  intro ad H locs ls hI hS hL hv g1 g2 hn
  obtain rfl : len = 2 := Nat.eq_of_beq_eq_true hl
  simp only [aAct] at h
  split at h
  · rename_i n r
    split at h
    · cases h
    · rename_i hneg
      split at h
      · rename_i hkn
        obtain ⟨hkd, hln⟩ := hkn
        have hk1 := (hK _ _ _ _ h).2
        have r1 := X.2.2.2.2.2.2.2.2.2.2.1
        have r2 := X.2.2.2.2.2.2.2.2.2.2.2
        have h68 : σ.1.1 < 68 := aKd_68 (by rw [hkd]; decide)
        have hle := aLn_small _ h68
        have q1 : σ.1.2.1 + 1 ≤ o.2.1.2.1 := hk1.1
        have q2 : σ.1.2.2 + n.toNatClampNeg ≤ o.2.1.2.2 := hk1.2
        have hby : n.toNatClampNeg * componentBytes FieldType.int ≤ 536870912 := by
          rw [← hln]
          have h8 : componentBytes FieldType.int ≤ 8 := by decide
          exact Nat.le_trans (Nat.mul_le_mul hle h8) (by decide)
        refine va_newa (atype := .int) X.1 X.2.1 (X.2.2.2.2.1 _ (aWd_in aArW.2.2.1)) (ty := .int) rfl X.2.2.2.2.2.1.1 hI.2.1 hI.2.2.1 hS (fun q hq => Nat.le_trans X.2.2.2.2.2.2.1 hq) (N' := n.toNatClampNeg) (a0 := (n.toNatClampNeg, .inl (fun _ => 0))) (fun cA => rfl) hneg rfl hby (by omega) (by omega) hd (fun q cA H1 hK1 hP1 hD1 hS1 => ?_)
        have hcA : cA = G.2.1 14 := by
          have a1 : va_RA s cA .int := (hK1.2 5 (cA, .int) rfl).2
          have a2 : va_RA s (G.2.1 14) .int := (X.2.2.2.2.2.1.1.2 2 (G.2.1 14, .int) rfl).2
          exact Option.some.inj (a1.symm.trans a2)
        subst hcA
        have he : aEn G (ad ++ [q]) (aNew σ 1 n.toNatClampNeg) σ.1.1 = .inl (G.2.1 14, n.toNatClampNeg, .inl (fun _ => 0)) := by
          have hk2 : aKd σ.1.1 = 14 := hkd
          have z1 : σ.2.1 σ.1.1 = fun _ => 0 := funext fun j => (hI.2.2.2.2.1 σ.1.1 j (Nat.le_refl _)).1
          have z2 : σ.2.2.1 σ.1.1 = fun _ => 0 := funext fun j => (hI.2.2.2.2.1 σ.1.1 j (Nat.le_refl _)).2.1
          unfold aEn
          rw [if_neg (by rw [hk2]; decide), hk2, hln, if_neg (by decide)]
          first | exact congrArg (fun y => Sum.inl (G.2.1 14, n.toNatClampNeg, Sum.inl y)) z1 | exact congrArg (fun y => Sum.inl (G.2.1 14, n.toNatClampNeg, Sum.inr (Sum.inl y))) z2
        have hI1 := aInv_new hI he hP1 hD1
        have kk := (hK _ _ _ _ h).1 (ad ++ [q]) H1 locs ls hI1 hS1 (aLr_app [q] hI.1 (Nat.le_succ _) hL) (aVs.c (show σ.1.1 < σ.1.1 + 1 from Nat.lt_succ_self _) (fun v hv1 => aVk_le (Nat.le_succ _) (hv.t v hv1))) (Nat.le_trans g1 (Nat.le_succ _)) (Nat.le_trans g2 (Nat.le_add_right _ _)) hn
        rw [List.map_cons, aUp_map [q] hI.1 hv.t] at kk
        have e1 : (aNew σ 1 n.toNatClampNeg).1.2.1 - g0.1 = σ.1.2.1 - g0.1 + 1 := by simp [aNew]; omega
        have e2 : (aNew σ 1 n.toNatClampNeg).1.2.2 - g0.2 = σ.1.2.2 - g0.2 + n.toNatClampNeg := by simp [aNew]; omega
        rw [e1, e2, show aUp G (ad ++ [q]) (.ref σ.1.1) = .ref q by
          have h1 := hI.1
          rw [aUp_hi (by omega)]
          unfold aAdr
          rw [if_neg (by omega), show σ.1.1 - 6 = ad.length by omega]
          simp [List.getD_eq_getElem?_getD]] at kk
        exact kk
      · cases h
  · cases h
theorem as_newarray_long (X : aFx p R s m args meth c G d k g0 o) (hK : aKok p l e R s m args below meth c Q G k g0 K o) (hd : decode (aNm k).2.1 pc = .ok (.newarray .long, len)) (hl : aIl k pc (.newarray .long) len t a b z = true) (h : aAct C K d k (.newarray .long) len t a b z pc L st σ = some o) : aGo p l e R s m args below meth c Q G k g0 pc L st σ := by
  intro ad H locs ls hI hS hL hv g1 g2 hn
  obtain rfl : len = 2 := Nat.eq_of_beq_eq_true hl
  simp only [aAct] at h
  split at h
  · rename_i n r
    split at h
    · cases h
    · rename_i hneg
      split at h
      · rename_i hkn
        obtain ⟨hkd, hln⟩ := hkn
        have hk1 := (hK _ _ _ _ h).2
        have r1 := X.2.2.2.2.2.2.2.2.2.2.1
        have r2 := X.2.2.2.2.2.2.2.2.2.2.2
        have h68 : σ.1.1 < 68 := aKd_68 (by rw [hkd]; decide)
        have hle := aLn_small _ h68
        have q1 : σ.1.2.1 + 1 ≤ o.2.1.2.1 := hk1.1
        have q2 : σ.1.2.2 + n.toNatClampNeg ≤ o.2.1.2.2 := hk1.2
        have hby : n.toNatClampNeg * componentBytes FieldType.long ≤ 536870912 := by
          rw [← hln]
          have h8 : componentBytes FieldType.long ≤ 8 := by decide
          exact Nat.le_trans (Nat.mul_le_mul hle h8) (by decide)
        refine va_newa (atype := .long) X.1 X.2.1 (X.2.2.2.2.1 _ (aWd_in aArW.2.2.2.1)) (ty := .long) rfl X.2.2.2.2.2.1.1 hI.2.1 hI.2.2.1 hS (fun q hq => Nat.le_trans X.2.2.2.2.2.2.1 hq) (N' := n.toNatClampNeg) (a0 := (n.toNatClampNeg, .inr (.inl (fun _ => 0)))) (fun cA => rfl) hneg rfl hby (by omega) (by omega) hd (fun q cA H1 hK1 hP1 hD1 hS1 => ?_)
        have hcA : cA = G.2.1 15 := by
          have a1 : va_RA s cA .long := (hK1.2 5 (cA, .long) rfl).2
          have a2 : va_RA s (G.2.1 15) .long := (X.2.2.2.2.2.1.1.2 3 (G.2.1 15, .long) rfl).2
          exact Option.some.inj (a1.symm.trans a2)
        subst hcA
        have he : aEn G (ad ++ [q]) (aNew σ 1 n.toNatClampNeg) σ.1.1 = .inl (G.2.1 15, n.toNatClampNeg, .inr (.inl (fun _ => 0))) := by
          have hk2 : aKd σ.1.1 = 15 := hkd
          have z1 : σ.2.1 σ.1.1 = fun _ => 0 := funext fun j => (hI.2.2.2.2.1 σ.1.1 j (Nat.le_refl _)).1
          have z2 : σ.2.2.1 σ.1.1 = fun _ => 0 := funext fun j => (hI.2.2.2.2.1 σ.1.1 j (Nat.le_refl _)).2.1
          unfold aEn
          rw [if_neg (by rw [hk2]; decide), hk2, hln, if_pos (by decide)]
          first | exact congrArg (fun y => Sum.inl (G.2.1 15, n.toNatClampNeg, Sum.inl y)) z1 | exact congrArg (fun y => Sum.inl (G.2.1 15, n.toNatClampNeg, Sum.inr (Sum.inl y))) z2
        have hI1 := aInv_new hI he hP1 hD1
        have kk := (hK _ _ _ _ h).1 (ad ++ [q]) H1 locs ls hI1 hS1 (aLr_app [q] hI.1 (Nat.le_succ _) hL) (aVs.c (show σ.1.1 < σ.1.1 + 1 from Nat.lt_succ_self _) (fun v hv1 => aVk_le (Nat.le_succ _) (hv.t v hv1))) (Nat.le_trans g1 (Nat.le_succ _)) (Nat.le_trans g2 (Nat.le_add_right _ _)) hn
        rw [List.map_cons, aUp_map [q] hI.1 hv.t] at kk
        have e1 : (aNew σ 1 n.toNatClampNeg).1.2.1 - g0.1 = σ.1.2.1 - g0.1 + 1 := by simp [aNew]; omega
        have e2 : (aNew σ 1 n.toNatClampNeg).1.2.2 - g0.2 = σ.1.2.2 - g0.2 + n.toNatClampNeg := by simp [aNew]; omega
        rw [e1, e2, show aUp G (ad ++ [q]) (.ref σ.1.1) = .ref q by
          have h1 := hI.1
          rw [aUp_hi (by omega)]
          unfold aAdr
          rw [if_neg (by omega), show σ.1.1 - 6 = ad.length by omega]
          simp [List.getD_eq_getElem?_getD]] at kk
        exact kk
      · cases h
  · cases h
theorem as_newarray_boolean (X : aFx p R s m args meth c G d k g0 o) (hK : aKok p l e R s m args below meth c Q G k g0 K o) (hd : decode (aNm k).2.1 pc = .ok (.newarray .boolean, len)) (hl : aIl k pc (.newarray .boolean) len t a b z = true) (h : aAct C K d k (.newarray .boolean) len t a b z pc L st σ = some o) : aGo p l e R s m args below meth c Q G k g0 pc L st σ := by
  intro ad H locs ls hI hS hL hv g1 g2 hn
  obtain rfl : len = 2 := Nat.eq_of_beq_eq_true hl
  simp only [aAct] at h
  split at h
  · rename_i n r
    split at h
    · cases h
    · rename_i hneg
      split at h
      · rename_i hkn
        obtain ⟨hkd, hln⟩ := hkn
        have hk1 := (hK _ _ _ _ h).2
        have r1 := X.2.2.2.2.2.2.2.2.2.2.1
        have r2 := X.2.2.2.2.2.2.2.2.2.2.2
        have h68 : σ.1.1 < 68 := aKd_68 (by rw [hkd]; decide)
        have hle := aLn_small _ h68
        have q1 : σ.1.2.1 + 1 ≤ o.2.1.2.1 := hk1.1
        have q2 : σ.1.2.2 + n.toNatClampNeg ≤ o.2.1.2.2 := hk1.2
        have hby : n.toNatClampNeg * componentBytes FieldType.boolean ≤ 536870912 := by
          rw [← hln]
          have h8 : componentBytes FieldType.boolean ≤ 8 := by decide
          exact Nat.le_trans (Nat.mul_le_mul hle h8) (by decide)
        refine va_newa (atype := .boolean) X.1 X.2.1 (X.2.2.2.2.1 _ (aWd_in aArW.2.2.2.2)) (ty := .boolean) rfl X.2.2.2.2.2.1.1 hI.2.1 hI.2.2.1 hS (fun q hq => Nat.le_trans X.2.2.2.2.2.2.1 hq) (N' := n.toNatClampNeg) (a0 := (n.toNatClampNeg, .inl (fun _ => 0))) (fun cA => rfl) hneg rfl hby (by omega) (by omega) hd (fun q cA H1 hK1 hP1 hD1 hS1 => ?_)
        have hcA : cA = G.2.1 16 := by
          have a1 : va_RA s cA .boolean := (hK1.2 5 (cA, .boolean) rfl).2
          have a2 : va_RA s (G.2.1 16) .boolean := (X.2.2.2.2.2.1.1.2 4 (G.2.1 16, .boolean) rfl).2
          exact Option.some.inj (a1.symm.trans a2)
        subst hcA
        have he : aEn G (ad ++ [q]) (aNew σ 1 n.toNatClampNeg) σ.1.1 = .inl (G.2.1 16, n.toNatClampNeg, .inl (fun _ => 0)) := by
          have hk2 : aKd σ.1.1 = 16 := hkd
          have z1 : σ.2.1 σ.1.1 = fun _ => 0 := funext fun j => (hI.2.2.2.2.1 σ.1.1 j (Nat.le_refl _)).1
          have z2 : σ.2.2.1 σ.1.1 = fun _ => 0 := funext fun j => (hI.2.2.2.2.1 σ.1.1 j (Nat.le_refl _)).2.1
          unfold aEn
          rw [if_neg (by rw [hk2]; decide), hk2, hln, if_neg (by decide)]
          first | exact congrArg (fun y => Sum.inl (G.2.1 16, n.toNatClampNeg, Sum.inl y)) z1 | exact congrArg (fun y => Sum.inl (G.2.1 16, n.toNatClampNeg, Sum.inr (Sum.inl y))) z2
        have hI1 := aInv_new hI he hP1 hD1
        have kk := (hK _ _ _ _ h).1 (ad ++ [q]) H1 locs ls hI1 hS1 (aLr_app [q] hI.1 (Nat.le_succ _) hL) (aVs.c (show σ.1.1 < σ.1.1 + 1 from Nat.lt_succ_self _) (fun v hv1 => aVk_le (Nat.le_succ _) (hv.t v hv1))) (Nat.le_trans g1 (Nat.le_succ _)) (Nat.le_trans g2 (Nat.le_add_right _ _)) hn
        rw [List.map_cons, aUp_map [q] hI.1 hv.t] at kk
        have e1 : (aNew σ 1 n.toNatClampNeg).1.2.1 - g0.1 = σ.1.2.1 - g0.1 + 1 := by simp [aNew]; omega
        have e2 : (aNew σ 1 n.toNatClampNeg).1.2.2 - g0.2 = σ.1.2.2 - g0.2 + n.toNatClampNeg := by simp [aNew]; omega
        rw [e1, e2, show aUp G (ad ++ [q]) (.ref σ.1.1) = .ref q by
          have h1 := hI.1
          rw [aUp_hi (by omega)]
          unfold aAdr
          rw [if_neg (by omega), show σ.1.1 - 6 = ad.length by omega]
          simp [List.getD_eq_getElem?_getD]] at kk
        exact kk
      · cases h
  · cases h
end Snd1
