/-! new objects, constants, the JDK's own rows -/
theorem aCW_all : ∀ a, a < 12 → ∃ p1 p2, (a, p1, p2) ∈ aCW := by
  intro a ha
  have : ∀ a, a < 12 → aCW.any (fun q => Nat.beq q.1 a) = true := by decide +kernel
  obtain ⟨⟨c, p1, p2⟩, h1, h2⟩ := List.any_eq_true.mp (this a ha)
  cases Nat.eq_of_beq_eq_true h2
  exact ⟨p1, p2, h1⟩
theorem aCW_w {a N : Nat} {C : String} {T : u_T} (hc : vwCl[a]? = some (C, T, N)) : Cond.instantiable C N ∈ aTb ∧ Cond.initialized C ∈ aTb := by
  obtain ⟨p1, p2, h1⟩ := aCW_all a (List.getElem?_eq_some_iff.mp hc).1
  have h2 := aCW_ok _ h1
  unfold aCWk at h2
  dsimp only at h2
  rw [hc] at h2
  dsimp only at h2
  rw [Bool.and_eq_true] at h2
  exact ⟨aWd_in h2.1, aWd_in h2.2⟩
theorem aTc_all : ∀ c, c < 12 → (List.range ((vwCl[c]?).elim 0 (fun q => q.2.2))).all (fun j => decide (aTc ((aTyF.getD c tyX0) j) < 5)) = true := by decide +kernel
theorem aTc_5 {c N j : Nat} {C : String} {T : u_T} (hc : vwCl[c]? = some (C, T, N)) (hj : j < N) : aTc ((aTyF.getD c tyX0) j) < 5 := by
  have h := aTc_all c (List.getElem?_eq_some_iff.mp hc).1
  rw [hc] at h
  exact of_decide_eq_true (List.all_eq_true.mp h j (List.mem_range.mpr hj))
theorem aDef {G : aEnv} {ad : List Nat} {ty : FieldType} (h : aTc ty < 5) : defaultValue ty = aFv G ad ty 0 0 := by
  cases ty <;> first | rfl | (simp [aTc] at h)
theorem aFv_00 {G : aEnv} {ad ad' : List Nat} {ty : FieldType} : aFv G ad ty 0 0 = aFv G ad' ty 0 0 := by
  unfold aFv
  split <;> rfl
theorem aOI_ok : ∀ q ∈ aOI, aWd q.2.2 (.methodLink (aOw q.1) q.2.1 Lib.objectInit) = true := by decide +kernel
theorem aOI_w : aWd 110 (.instanceMethod Lib.objectInit) = true ∧ aWd 111 (.code Lib.objectInit ⟨#[0xb1]⟩ 1 none) = true := by decide +kernel
theorem aAC_ok : ∀ q ∈ aAC, aWd q.2.2 (.methodLink (aOw q.1) q.2.1 arraycopyName) = true := by decide +kernel
theorem aAC_w : aWd 663 (.native arraycopyName) = true ∧ aWd 662 (.static arraycopyName) = true ∧ aWd 98 (.initialized "java/lang/System") = true := by decide +kernel
theorem aMX_ok : ∀ q ∈ aMX, (q.2.2.1 = 17 ∧ aWd q.2.2.2 (.methodLink (aOw q.1) q.2.1 Lib.Math.max.name) = true) ∨ (q.2.2.1 = 18 ∧ aWd q.2.2.2 (.methodLink (aOw q.1) q.2.1 Lib.Math.min.name) = true) := by decide +kernel
theorem aMX_w : aWd 455 (.static Lib.Math.max.name) = true ∧ aWd 456 (.code Lib.Math.max.name Lib.Math.max.code 2 (some .int)) = true ∧ aWd 458 (.static Lib.Math.min.name) = true ∧ aWd 459 (.code Lib.Math.min.name Lib.Math.min.code 2 (some .int)) = true ∧ aWd 95 (.initialized "java/lang/Math") = true := by decide +kernel
theorem aW_map {G : aEnv} {ad : List Nat} (r : List Value) : ((r.map (aUp G ad)).map fun v => v.category).sum = aW r := by
  unfold aW
  rw [List.map_map]
  congr 1
  exact List.map_congr_left fun v _ => aUp_cat v
section Snd1
variable {p : Program} {l : Launch} {e : Env} {R : Room} {s : State} {m : MethodId} {args : Array Value} {below : List Frame} {meth : Method} {c : Code} {Q : State → Prop} {G : aEnv} {d k : Nat} {g0 : Nat × Nat} {C : Nat → Nat → List Value → aS → Option aO} {K : Nat → List Value → List Value → aS → Option aO} {o : aO} {len t a b : Nat} {z : Int} {pc : Nat} {L st : List Value} {σ : aS}

theorem aldcSw {cc : ByteArray} {H : Heap} {locs : List Loc} {cells slots : Nat} {ls : Array Slot} {rest : List Value} (hexec : p.tables.exec = Jvm.exec) (hb : c.code = cc) {own tx : String} {index q : Nat} (hown : s.vm.findClass own = some m.cls) (hZ : vk_R own index tx q s) (hdg : decode cc pc = .ok (.ldc_w index, 3))
    (k : W p l e R s m args below meth c H locs cells slots Q (F0 m (pc + 3) ls (.ref q :: rest))) : W p l e R s m args below meth c H locs cells slots Q (F0 m pc ls rest) := by
  intro T hT X
  obtain ⟨t, a1, b1⟩ := k T hT X
  refine ⟨t, ?_, b1⟩
  have hrest := a1
  have hdg' : decode c.code (F0 m pc ls rest).pc = .ok (.ldc_w index, 3) := by rw [hb]; exact hdg
  obtain ⟨k, cf, i, a', hk, hcf, hcp, -, hr, hev'⟩ := Cond.stringRef_spec hown (args := #[]) hZ.1
  cases hZ.2.symm.trans hev'
  obtain ⟨k', hk', he⟩ := X.warmed.alike.2.2 _ _ hk
  have hr' : k'.resolved[index]? = some (some (.string q)) := by
    rcases X.warmed.entry hk hk' index with h | ⟨h, -⟩
    · rw [h]; exact hr
    · rw [hr] at h; cases h
  jvm_step X.here [hexec, hdg', ldc_w.wp_string (e := e) (s := T) (f := F0 m pc ls rest) X.here.top hk' (by rw [he]; exact hcf) hcp hr']
  exact hrest
theorem as_ldc {ix : Nat} (X : aFx p R s m args meth c G d k g0 o) (hK : aKok p l e R s m args below meth c Q G k g0 K o)  (hd : decode (aNm k).2.1 pc = .ok (.ldc ix, len)) (hl : aIl k pc (.ldc ix) len t a b z = true) (h : aAct C K d k (.ldc ix) len t a b z pc L st σ = some o) : aGo p l e R s m args below meth c Q G k g0 pc L st σ := by
  intro ad H locs ls hI hS hL hv g1 g2 hn
  unfold aIl at hl
  dsimp only at hl
  rw [Bool.and_eq_true] at hl
  obtain ⟨hl0, hl⟩ := hl
  obtain rfl : len = 2 := Nat.eq_of_beq_eq_true hl0
  simp only [aAct] at h
  split at h
  · exact lv_ldc X.1 X.2.1 X.2.2.2.1 (X.2.2.2.2.1 _ (aInKI_w hl)) hd ((hK _ _ _ _ h).1 ad H locs ls hI hS hL (aVs.c trivial hv) g1 g2 hn)
  · have hq := aIn3_get hl
    have ha := aKS_ok _ hq
    dsimp only at ha
    obtain ⟨tx, hz⟩ := X.2.2.2.2.2.1.2.2.2.2.2.2.1 _ hq
    have kk := (hK _ _ _ _ h).1 ad H locs ls hI hS hL (aVs.c (show a < σ.1.1 by have := hI.2.2.2.2.2.1; omega) hv) g1 g2 hn
    rw [List.map_cons, show aUp G ad (.ref a) = .ref (G.2.2.2.1 a) from aUp_lo (by omega)] at kk
    exact va_ldcS X.1 X.2.1 X.2.2.2.1 hz hd kk
  · cases h
theorem as_ldc_w {ix : Nat} (X : aFx p R s m args meth c G d k g0 o) (hK : aKok p l e R s m args below meth c Q G k g0 K o)  (hd : decode (aNm k).2.1 pc = .ok (.ldc_w ix, len)) (hl : aIl k pc (.ldc_w ix) len t a b z = true) (h : aAct C K d k (.ldc_w ix) len t a b z pc L st σ = some o) : aGo p l e R s m args below meth c Q G k g0 pc L st σ := by
  intro ad H locs ls hI hS hL hv g1 g2 hn
  unfold aIl at hl
  dsimp only at hl
  rw [Bool.and_eq_true] at hl
  obtain ⟨hl0, hl⟩ := hl
  obtain rfl : len = 3 := Nat.eq_of_beq_eq_true hl0
  simp only [aAct] at h
  split at h
  · exact lv_ldcw X.1 X.2.1 X.2.2.2.1 (X.2.2.2.2.1 _ (aInKI_w hl)) hd ((hK _ _ _ _ h).1 ad H locs ls hI hS hL (aVs.c trivial hv) g1 g2 hn)
  · have hq := aIn3_get hl
    have ha := aKS_ok _ hq
    dsimp only at ha
    obtain ⟨tx, hz⟩ := X.2.2.2.2.2.1.2.2.2.2.2.2.1 _ hq
    have kk := (hK _ _ _ _ h).1 ad H locs ls hI hS hL (aVs.c (show a < σ.1.1 by have := hI.2.2.2.2.2.1; omega) hv) g1 g2 hn
    rw [List.map_cons, show aUp G ad (.ref a) = .ref (G.2.2.2.1 a) from aUp_lo (by omega)] at kk
    exact aldcSw X.1 X.2.1 X.2.2.2.1 hz hd kk
  · cases h
theorem as_ldc2_w {ix : Nat} (X : aFx p R s m args meth c G d k g0 o) (hK : aKok p l e R s m args below meth c Q G k g0 K o)  (hd : decode (aNm k).2.1 pc = .ok (.ldc2_w ix, len)) (hl : aIl k pc (.ldc2_w ix) len t a b z = true) (h : aAct C K d k (.ldc2_w ix) len t a b z pc L st σ = some o) : aGo p l e R s m args below meth c Q G k g0 pc L st σ := by
  intro ad H locs ls hI hS hL hv g1 g2 hn
  unfold aIl at hl
  dsimp only at hl
  rw [Bool.and_eq_true] at hl
  obtain ⟨hl0, hl⟩ := hl
  obtain rfl : len = 3 := Nat.eq_of_beq_eq_true hl0
  simp only [aAct] at h
  split at h
  · exact lv_ldc2 X.1 X.2.1 X.2.2.2.1 (X.2.2.2.2.1 _ (aInKL_w hl)) hd ((hK _ _ _ _ h).1 ad H locs ls hI hS hL (aVs.c trivial hv) g1 g2 hn)
  · cases h
theorem as_getstatic {ix : Nat} (X : aFx p R s m args meth c G d k g0 o) (hK : aKok p l e R s m args below meth c Q G k g0 K o)  (hd : decode (aNm k).2.1 pc = .ok (.getstatic ix, len)) (hl : aIl k pc (.getstatic ix) len t a b z = true) (h : aAct C K d k (.getstatic ix) len t a b z pc L st σ = some o) : aGo p l e R s m args below meth c Q G k g0 pc L st σ := by
  intro ad H locs ls hI hS hL hv g1 g2 hn
  unfold aIl at hl
  dsimp only at hl
  rw [Bool.and_eq_true] at hl
  obtain ⟨hl0, hl⟩ := hl
  obtain rfl : len = 3 := Nat.eq_of_beq_eq_true hl0
  simp only [aAct] at h
  split at h
  · obtain ⟨q, hq⟩ := aInM_get hl
    have hw : Cond.fieldLink (aOw (aOn k)) ix "java/lang/String" "COMPACT_STRINGS" "Z" ∈ aTb := by
      rcases aGS_ok _ hq with ⟨-, y⟩ | ⟨y, -⟩
      · exact aWd_in y
      · dsimp only at y; omega
    exact va_gets X.1 X.2.1 X.2.2.2.2.2.1.2.2.2.2.1 hS X.2.2.2.1 (X.2.2.2.2.1 _ hw) (fun _ q => q) hd ((hK _ _ _ _ h).1 ad H locs ls hI hS hL (aVs.c trivial hv) g1 g2 hn)
  · obtain ⟨q, hq⟩ := aInM_get hl
    have hw : Cond.fieldLink (aOw (aOn k)) ix "jdk/internal/util/Preconditions" "SIOOBE_FORMATTER" "Ljava/util/function/BiFunction;" ∈ aTb := by
      rcases aGS_ok _ hq with ⟨y, -⟩ | ⟨-, y⟩
      · dsimp only at y; omega
      · exact aWd_in y
    exact va_gets X.1 X.2.1 X.2.2.2.2.2.1.2.2.2.2.2.1 hS X.2.2.2.1 (X.2.2.2.2.1 _ hw) (fun _ q => q) hd ((hK _ _ _ _ h).1 ad H locs ls hI hS hL (aVs.c (show 5 < σ.1.1 by have := hI.2.2.2.2.2.1; omega) hv) g1 g2 hn)
  · cases h
theorem as_new12 {ix : Nat} (X : aFx p R s m args meth c G d k g0 o) (hK : aKok p l e R s m args below meth c Q G k g0 K o) (hd : decode (aNm k).2.1 pc = .ok (.new ix, len)) (hl : aIl k pc (.new ix) len 12 a b z = true) (h : aAct C K d k (.new ix) len 12 a b z pc L st σ = some o) : aGo p l e R s m args below meth c Q G k g0 pc L st σ := by
  intro ad H locs ls hI hS hL hv g1 g2 hn
  unfold aIl at hl
  dsimp only at hl
  rw [Bool.and_eq_true] at hl
  obtain ⟨hl0, hl⟩ := hl
  obtain rfl : len = 3 := Nat.eq_of_beq_eq_true hl0
  simp only [aAct] at h
  split at h
  · rename_i hkn
    obtain ⟨hkd, hln⟩ := hkn
    obtain ⟨Cn, T, hc, hw⟩ := aInC_w hl
    obtain ⟨hw1, hw2⟩ := aCW_w hc
    obtain ⟨-, htys, -⟩ := aCl hc
    have ha : a < 12 := (List.getElem?_eq_some_iff.mp hc).1
    have hk1 := (hK _ _ _ _ h).2
    have r1 := X.2.2.2.2.2.2.2.2.2.2.1
    have r2 := X.2.2.2.2.2.2.2.2.2.2.2
    have q1 : σ.1.2.1 + 1 ≤ o.2.1.2.1 := hk1.1
    have q2 : σ.1.2.2 + b ≤ o.2.1.2.2 := hk1.2
    refine va_new X.1 X.2.1 X.2.2.2.2.1 (aCl_tb hc) _ htys X.2.2.2.1 (X.2.2.2.2.1 _ hw) (X.2.2.2.2.1 _ hw1) (X.2.2.2.2.1 _ hw2) X.2.2.2.2.2.1.1 hI.2.1 hI.2.2.1 hS (fun q hq => Nat.le_trans X.2.2.2.2.2.2.1 hq) hc (fs := (List.range b).map (fun j => aFv G ad ((aTyF.getD a tyX0) j) 0 0)) (fun j hj => by rw [aDef (G := G) (ad := ad) (aTc_5 hc hj)]; simp [vp_V, hj]) (by omega) (by omega) hd (fun q H1 hP1 hD1 hS1 => ?_)
    have he : aEn G (ad ++ [q]) (aNew σ 1 b) σ.1.1 = .inr (a, (List.range b).map (fun j => aFv G ad ((aTyF.getD a tyX0) j) 0 0)) := by
      unfold aEn
      rw [if_pos (by rw [hkd]; exact ha), hkd, hln]
      refine congrArg (fun y => Sum.inr (a, y)) (List.map_congr_left fun j _ => ?_)
      show aFv G (ad ++ [q]) _ (σ.2.1 σ.1.1 j) (σ.2.2.2 σ.1.1 j) = _
      obtain ⟨z1, -, z3⟩ := hI.2.2.2.2.1 σ.1.1 j (Nat.le_refl _)
      rw [z1, z3]
      exact aFv_00
    have hI1 := aInv_new hI he hP1 hD1
    have kk := (hK _ _ _ _ h).1 (ad ++ [q]) H1 locs ls hI1 hS1 (aLr_app [q] hI.1 (Nat.le_succ _) hL) (aVs.c (show σ.1.1 < σ.1.1 + 1 from Nat.lt_succ_self _) (fun v hv1 => aVk_le (Nat.le_succ _) (hv v hv1))) (Nat.le_trans g1 (Nat.le_succ _)) (Nat.le_trans g2 (Nat.le_add_right _ _)) hn
    rw [List.map_cons, aUp_map [q] hI.1 hv] at kk
    have e1 : (aNew σ 1 b).1.2.1 - g0.1 = σ.1.2.1 - g0.1 + 1 := by simp [aNew]; omega
    have e2 : (aNew σ 1 b).1.2.2 - g0.2 = σ.1.2.2 - g0.2 + b := by simp [aNew]; omega
    rw [e1, e2, show aUp G (ad ++ [q]) (.ref σ.1.1) = .ref q by
      have h1 := hI.1
      rw [aUp_hi (by omega)]
      unfold aAdr
      rw [if_neg (by omega), show σ.1.1 - 6 = ad.length by omega]
      simp [List.getD_eq_getElem?_getD]] at kk
    exact kk
  · cases h
theorem as_objInit {ix : Nat} (X : aFx p R s m args meth c G d k g0 o) (hK : aKok p l e R s m args below meth c Q G k g0 K o) (hd : decode (aNm k).2.1 pc = .ok (.invokespecial ix, len)) (hl : aIl k pc (.invokespecial ix) len 10 a b z = true) (h : aAct C K d k (.invokespecial ix) len 10 a b z pc L st σ = some o) : aGo p l e R s m args below meth c Q G k g0 pc L st σ := by
  intro ad H locs ls hI hS hL hv g1 g2 hn
  unfold aIl at hl
  dsimp only at hl
  rw [Bool.and_eq_true] at hl
  obtain ⟨hl0, hl⟩ := hl
  obtain rfl : len = 3 := Nat.eq_of_beq_eq_true hl0
  simp only [aAct] at h
  split at h
  · rename_i x r
    split at h
    · rename_i hw9
      obtain ⟨hw8, hkx⟩ := hw9
      obtain ⟨q, hq⟩ := aIn2_get hl
      have hfr := X.2.2.2.2.2.2.2.2.1
      have hlo := X.2.2.2.2.2.2.2.2.2.1
      have kk := (hK _ _ _ _ h).1 ad H locs ls hI hS hL hv.t g1 g2 hn
      obtain ⟨y, hu⟩ : ∃ y, aUp G ad (.ref x) = .ref y := ⟨_, aUp_hi (aKd_lt (by omega)).1⟩
      · rw [List.map_cons, hu]
        exact W.objInit X.1 X.2.1 X.2.2.2.1 (X.2.2.2.2.1 _ (aWd_in (aOI_ok _ hq))) (X.2.2.2.2.1 _ (aWd_in aOI_w.1)) (X.2.2.2.2.1 _ (aWd_in aOI_w.2)) (g := F0 m pc ls (.ref y :: r.map (aUp G ad))) rfl (by show ls.size = _; rw [hL.1, hn]; exact X.2.2.1.symm) rfl hd (by omega) (by show 2 * 0 + _ + 12 ≤ R.locals; rw [aW_map]; omega) kk
    · cases h
  · cases h
theorem as_mmax {ix : Nat} (X : aFx p R s m args meth c G d k g0 o) (hK : aKok p l e R s m args below meth c Q G k g0 K o) (hd : decode (aNm k).2.1 pc = .ok (.invokestatic ix, len)) (hl : aIl k pc (.invokestatic ix) len 17 a b z = true) (h : aAct C K d k (.invokestatic ix) len 17 a b z pc L st σ = some o) : aGo p l e R s m args below meth c Q G k g0 pc L st σ := by
  intro ad H locs ls hI hS hL hv g1 g2 hn
  unfold aIl at hl
  dsimp only at hl
  rw [Bool.and_eq_true] at hl
  obtain ⟨hl0, hl⟩ := hl
  obtain rfl : len = 3 := Nat.eq_of_beq_eq_true hl0
  simp only [aAct] at h
  split at h
  · rename_i y x r
    split at h
    · rename_i hw8
      obtain ⟨q, hq⟩ := aInM_get hl
      have hfr := X.2.2.2.2.2.2.2.2.1
      have hlo := X.2.2.2.2.2.2.2.2.2.1
      have hk1 := (hK _ _ _ _ h).2
      have r1 := X.2.2.2.2.2.2.2.2.2.2.1
      have r2 := X.2.2.2.2.2.2.2.2.2.2.2
      have hw : Cond.methodLink (aOw (aOn k)) ix Lib.Math.max.name ∈ aTb := by
        rcases aMX_ok _ hq with ⟨-, y⟩ | ⟨y, -⟩
        · exact aWd_in y
        · dsimp only at y; omega
      exact va_mmax X.1 X.2.1 (by rw [hL.1, hn]; exact X.2.2.1) X.2.2.2.1 (X.2.2.2.2.1 _ hw) (X.2.2.2.2.1 _ (aWd_in aMX_w.1)) (X.2.2.2.2.1 _ (aWd_in aMX_w.2.2.2.2)) (X.2.2.2.2.1 _ (aWd_in aMX_w.2.1)) (by omega) (by rw [aW_map]; omega) (by omega) (by omega) hd ((hK _ _ _ _ h).1 ad H locs ls hI hS hL (aVs.c trivial hv.t.t) g1 g2 hn)
    · cases h
  · cases h
theorem as_mmin {ix : Nat} (X : aFx p R s m args meth c G d k g0 o) (hK : aKok p l e R s m args below meth c Q G k g0 K o) (hd : decode (aNm k).2.1 pc = .ok (.invokestatic ix, len)) (hl : aIl k pc (.invokestatic ix) len 18 a b z = true) (h : aAct C K d k (.invokestatic ix) len 18 a b z pc L st σ = some o) : aGo p l e R s m args below meth c Q G k g0 pc L st σ := by
  intro ad H locs ls hI hS hL hv g1 g2 hn
  unfold aIl at hl
  dsimp only at hl
  rw [Bool.and_eq_true] at hl
  obtain ⟨hl0, hl⟩ := hl
  obtain rfl : len = 3 := Nat.eq_of_beq_eq_true hl0
  simp only [aAct] at h
  split at h
  · rename_i y x r
    split at h
    · rename_i hw8
      obtain ⟨q, hq⟩ := aInM_get hl
      have hfr := X.2.2.2.2.2.2.2.2.1
      have hlo := X.2.2.2.2.2.2.2.2.2.1
      have hk1 := (hK _ _ _ _ h).2
      have r1 := X.2.2.2.2.2.2.2.2.2.2.1
      have r2 := X.2.2.2.2.2.2.2.2.2.2.2
      have hw : Cond.methodLink (aOw (aOn k)) ix Lib.Math.min.name ∈ aTb := by
        rcases aMX_ok _ hq with ⟨y, -⟩ | ⟨-, y⟩
        · dsimp only at y; omega
        · exact aWd_in y
      exact va_mmin X.1 X.2.1 (by rw [hL.1, hn]; exact X.2.2.1) X.2.2.2.1 (X.2.2.2.2.1 _ hw) (X.2.2.2.2.1 _ (aWd_in aMX_w.2.2.1)) (X.2.2.2.2.1 _ (aWd_in aMX_w.2.2.2.2)) (X.2.2.2.2.1 _ (aWd_in aMX_w.2.2.2.1)) (by omega) (by rw [aW_map]; omega) (by omega) (by omega) hd ((hK _ _ _ _ h).1 ad H locs ls hI hS hL (aVs.c trivial hv.t.t) g1 g2 hn)
    · cases h
  · cases h
theorem as_copy {ix : Nat} (X : aFx p R s m args meth c G d k g0 o) (hK : aKok p l e R s m args below meth c Q G k g0 K o) (hd : decode (aNm k).2.1 pc = .ok (.invokestatic ix, len)) (hl : aIl k pc (.invokestatic ix) len 11 a b z = true) (h : aAct C K d k (.invokestatic ix) len 11 a b z pc L st σ = some o) : aGo p l e R s m args below meth c Q G k g0 pc L st σ := by
  intro ad H locs ls hI hS hL hv g1 g2 hn
  unfold aIl at hl
  dsimp only at hl
  rw [Bool.and_eq_true] at hl
  obtain ⟨hl0, hl⟩ := hl
  obtain rfl : len = 3 := Nat.eq_of_beq_eq_true hl0
  simp only [aAct] at h
  split at h
  · rename_i n dp ob sp o1 r
    split at h
    · rename_i hc
      obtain ⟨k1, k2, c1, c2, c3, c4, c5, c6, c7⟩ := hc
      obtain ⟨q, hq⟩ := aIn2_get hl
      have hfr := X.2.2.2.2.2.2.2.2.1
      have hlo := X.2.2.2.2.2.2.2.2.2.1
      obtain ⟨-, -, hws1, hup1, -⟩ := aArr hI k1 (by decide) (by decide) hv.t.t.t.t.h
      obtain ⟨-, -, hws2, hup2, -⟩ := aArr hI k2 (by decide) (by decide) hv.t.t.h
      rw [if_neg (by decide)] at hws1 hws2
      rw [List.map_cons, List.map_cons, List.map_cons, List.map_cons, List.map_cons, hup1, hup2]
      exact va_copyi X.1 X.2.1 (by rw [hL.1, hn]; exact X.2.2.1) X.2.2.2.1 (X.2.2.2.2.1 _ (aWd_in (aAC_ok _ hq))) (X.2.2.2.2.1 _ (aWd_in aAC_w.1)) (X.2.2.2.2.1 _ (aWd_in aAC_w.2.1)) (X.2.2.2.2.1 _ (aWd_in aAC_w.2.2)) X.2.2.2.2.2.1.1 hI.2.1 hI.2.2.1 hS (o1 - 6) (ob - 6) 2 2 hws1 hws2 rfl rfl rfl c1 c2 c3 c4 c5 (fun _ _ => rfl) (by omega) (by rw [aW_map]; show _ + (7 + 11) ≤ _; omega) hd
        (fun H1 locs1 hP1 hD1 hS1 => (hK _ _ _ _ h).1 ad H1 locs1 ls (aInv_cpy hI k2 c6 hv.t.t.h hP1 hD1) hS1 hL hv.t.t.t.t.t g1 g2 hn)
    · cases h
  · cases h
end Snd1
