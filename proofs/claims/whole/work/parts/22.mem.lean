/-! fields, rows, new cells -/
theorem aInF_w {ow ix c j : Nat} (h : aInF ow ix c j = true) : Cond.fieldLink (aOw ow) ix (aFd c j).1 (aFd c j).2.1 (aFd c j).2.2.1 ∈ aTb := by
  unfold aInF at h
  rw [List.any_eq_true] at h
  obtain ⟨⟨o1, i1, c1, j1, p1⟩, hq, h1⟩ := h
  simp only [Bool.and_eq_true] at h1
  obtain ⟨⟨⟨e1, e2⟩, e3⟩, e4⟩ := h1
  cases Nat.eq_of_beq_eq_true e1
  cases Nat.eq_of_beq_eq_true e2
  cases Nat.eq_of_beq_eq_true e3
  cases Nat.eq_of_beq_eq_true e4
  exact aWd_in (aFL_ok _ hq)
theorem aInM_w {ow ix k : Nat} (h : aInM aMLk ow ix k = true) : Cond.methodLink (aOw ow) ix (aNm k).1 ∈ aTb := by
  unfold aInM at h
  rw [List.any_eq_true] at h
  obtain ⟨⟨o1, i1, k1, p1⟩, hq, h1⟩ := h
  simp only [Bool.and_eq_true] at h1
  obtain ⟨⟨e1, e2⟩, e3⟩ := h1
  cases Nat.eq_of_beq_eq_true e1
  cases Nat.eq_of_beq_eq_true e2
  cases Nat.eq_of_beq_eq_true e3
  exact aWd_in (aMLk_ok _ hq)
theorem aInC_w {ow ix c n : Nat} (h : aInC ow ix c n = true) : ∃ C T, vwCl[c]? = some (C, T, n) ∧ Cond.classLink (aOw ow) ix C ∈ aTb := by
  unfold aInC at h
  rw [List.any_eq_true] at h
  obtain ⟨⟨o1, i1, c1, n1, p1⟩, hq, h1⟩ := h
  simp only [Bool.and_eq_true] at h1
  obtain ⟨⟨⟨e1, e2⟩, e3⟩, e4⟩ := h1
  cases Nat.eq_of_beq_eq_true e1
  cases Nat.eq_of_beq_eq_true e2
  cases Nat.eq_of_beq_eq_true e3
  cases Nat.eq_of_beq_eq_true e4
  have h2 := aCLk_ok _ hq
  unfold aCLkk at h2
  dsimp only at h2
  split at h2
  · rename_i C T N hc
    rw [Bool.and_eq_true, decide_eq_true_eq] at h2
    obtain ⟨h3, rfl⟩ := h2
    exact ⟨C, T, hc, aWd_in h3⟩
  · cases h2
theorem aInKI_w {ow ix : Nat} {z : Int} (h : aInK aKI ow ix z = true) : Cond.constant (aOw ow) ix (Int32.ofInt z) ∈ aTb := by
  unfold aInK at h
  rw [List.any_eq_true] at h
  obtain ⟨⟨o1, i1, z1, p1⟩, hq, h1⟩ := h
  simp only [Bool.and_eq_true, decide_eq_true_eq] at h1
  obtain ⟨⟨e1, e2⟩, e3⟩ := h1
  cases Nat.eq_of_beq_eq_true e1
  cases Nat.eq_of_beq_eq_true e2
  cases e3
  exact aWd_in (aKI_ok _ hq)
theorem aInKL_w {ow ix : Nat} {z : Int} (h : aInK aKL ow ix z = true) : Cond.constantLong (aOw ow) ix (Int64.ofInt z) ∈ aTb := by
  unfold aInK at h
  rw [List.any_eq_true] at h
  obtain ⟨⟨o1, i1, z1, p1⟩, hq, h1⟩ := h
  simp only [Bool.and_eq_true, decide_eq_true_eq] at h1
  obtain ⟨⟨e1, e2⟩, e3⟩ := h1
  cases Nat.eq_of_beq_eq_true e1
  cases Nat.eq_of_beq_eq_true e2
  cases e3
  exact aWd_in (aKL_ok _ hq)
theorem aCl_tb {c : Nat} {C : String} {T : u_T} {N : Nat} (h : vwCl[c]? = some (C, T, N)) : ∀ w ∈ u_ws C T N, w ∈ aTb := by
  intro w hw
  refine List.mem_filter.mpr ⟨(aCl h).1 w hw, ?_⟩
  obtain ⟨j, -, rfl⟩ := List.mem_map.mp hw
  unfold u_lay
  split <;> rfl
theorem aFld {ow ix a b : Nat} (hl : (aInF ow ix a (b / 8) && (match vwCl[a]? with
      | some q => decide (b / 8 < q.2.2)
      | none => false) && Nat.beq (b % 8) (aTc ((aTyF.getD a tyX0) (b / 8)))) = true) : ∃ C T N, vwCl[a]? = some (C, T, N) ∧ b / 8 < N ∧ b % 8 = aTc ((aTyF.getD a tyX0) (b / 8)) ∧ Cond.fieldLink (aOw ow) ix (T (b / 8)).1 (T (b / 8)).2.1 (T (b / 8)).2.2.1 ∈ aTb ∧ aFd a (b / 8) = T (b / 8) := by
  rw [Bool.and_eq_true, Bool.and_eq_true] at hl
  obtain ⟨⟨h1, h2⟩, h3⟩ := hl
  have h4 := aInF_w h1
  cases hc : vwCl[a]? with
  | none => rw [hc] at h2; cases h2
  | some q =>
    rw [hc] at h2
    obtain ⟨C, T, N⟩ := q
    have e : aFd a (b / 8) = T (b / 8) := by unfold aFd; rw [hc]
    rw [e] at h4
    exact ⟨C, T, N, rfl, of_decide_eq_true h2, Nat.eq_of_beq_eq_true h3, h4, e⟩
theorem aObj {G : aEnv} {ad : List Nat} {σ : aS} {H : Heap} {ob a N : Nat} {C : String} {T : u_T} (hI : aInv G ad σ H) (hc : vwCl[a]? = some (C, T, N)) (hk : aKd ob = a) (hv : ob < σ.1.1) :
    6 ≤ ob ∧ ob < ad.length + 6 ∧ aKd ob < 12 ∧ aLn ob = N ∧ (aWs G ad σ)[ob - 6]? = some (aAdr G ad ob, .inr (a, (List.range N).map (fun j => aFv G ad ((aTyF.getD a tyX0) j) (σ.2.1 ob j) (σ.2.2.2 ob j)))) ∧ aUp G ad (.ref ob) = .ref (aAdr G ad ob) := by
  have ha : a < 12 := (List.getElem?_eq_some_iff.mp hc).1
  have hk2 : aKd ob < 12 := by rw [hk]; exact ha
  obtain ⟨h6, h68⟩ := aKd_lt (o := ob) (by omega)
  obtain ⟨C', T', hc'⟩ := aKd_cls ob h68 hk2
  have hl : ob < ad.length + 6 := by rw [hI.1]; exact hv
  rw [hk, hc] at hc'
  cases hc'
  refine ⟨h6, hl, hk2, rfl, ?_, aUp_hi h6⟩
  rw [aWs_at h6 hl]
  unfold aEn
  rw [if_pos hk2, hk]
theorem aFv_ref {G : aEnv} {ad : List Nat} {ty : FieldType} {x : Int32} {q : Nat} (h : aTc ty = 4) : aFv G ad ty x q = aUp G ad (aRf q) := by
  cases ty <;> first | rfl | (simp [aTc] at h)
theorem aFv_int {G : aEnv} {ad : List Nat} {ty : FieldType} {x : Int32} {q : Nat} (h : aTc ty < 2) : aFv G ad ty x q = .int x := by
  cases ty <;> first | rfl | (simp [aTc] at h)
theorem aTc_lt {ty : FieldType} {n : Nat} (h : n % 8 = aTc ty) (h4 : ¬ n % 8 = 4) : aTc ty < 2 := by
  have : n % 8 < 8 := Nat.mod_lt _ (by decide)
  cases ty <;> simp [aTc] at h ⊢ <;> omega
theorem aVk_rf {n q : Nat} (h : q ≤ n) : aVk n (aRf q) := by
  cases q with
  | zero => trivial
  | succ q => exact h
theorem aKd_ext {ob : Nat} (h : 20 ≤ aKd ob) (h2 : aKd ob < 99) : ob < 6 := by
  rcases Nat.lt_or_ge ob 68 with q | q
  · have : ∀ i, i < 68 → 20 ≤ aKd i → i < 6 := by decide +kernel
    exact this ob q h
  · have : aKd ob = 99 := by
      unfold aKd
      rw [List.getD_eq_getElem?_getD, List.getElem?_eq_none (by exact q)]
      rfl
    omega
theorem aKd_21 {ob : Nat} (h : aKd ob = 21) : ob = 1 ∨ ob = 2 := by
  have h6 := aKd_ext (ob := ob) (by omega) (by omega)
  have : ∀ i, i < 6 → aKd i = 21 → i = 1 ∨ i = 2 := by decide +kernel
  exact this ob h6 h
theorem aKd_20 {ob : Nat} (h : aKd ob = 20) : ob = 0 := by
  have h6 := aKd_ext (ob := ob) (by omega) (by omega)
  have : ∀ i, i < 6 → aKd i = 20 → i = 0 := by decide +kernel
  exact this ob h6 h
theorem aKd_22 {ob : Nat} (h : aKd ob = 22) : ob = 3 ∨ ob = 4 := by
  have h6 := aKd_ext (ob := ob) (by omega) (by omega)
  have : ∀ i, i < 6 → aKd i = 22 → i = 3 ∨ i = 4 := by decide +kernel
  exact this ob h6 h
theorem aSF_ok : ∀ q ∈ aSF, (q.2.2.1 = 0 ∧ aWd q.2.2.2 (.fieldLink (aOw q.1) q.2.1 "java/lang/String" "value" "[B") = true) ∨ (q.2.2.1 = 1 ∧ aWd q.2.2.2 (.fieldLink (aOw q.1) q.2.1 "java/lang/String" "coder" "B") = true) := by decide +kernel
theorem aGS_ok : ∀ q ∈ aGS, (q.2.2.1 = 31 ∧ aWd q.2.2.2 (.fieldLink (aOw q.1) q.2.1 "java/lang/String" "COMPACT_STRINGS" "Z") = true) ∨ (q.2.2.1 = 32 ∧ aWd q.2.2.2 (.fieldLink (aOw q.1) q.2.1 "jdk/internal/util/Preconditions" "SIOOBE_FORMATTER" "Ljava/util/function/BiFunction;") = true) := by decide +kernel
theorem aKS_ok : ∀ q ∈ aKS, q.2.2 = 1 ∨ q.2.2 = 2 := by decide +kernel
theorem aInM_get {l : List (Nat × Nat × Nat × Nat)} {ow ix k : Nat} (h : aInM l ow ix k = true) : ∃ p, (ow, ix, k, p) ∈ l := by
  unfold aInM at h
  rw [List.any_eq_true] at h
  obtain ⟨⟨o1, i1, k1, p1⟩, hq, h1⟩ := h
  simp only [Bool.and_eq_true] at h1
  obtain ⟨⟨e1, e2⟩, e3⟩ := h1
  cases Nat.eq_of_beq_eq_true e1
  cases Nat.eq_of_beq_eq_true e2
  cases Nat.eq_of_beq_eq_true e3
  exact ⟨p1, hq⟩
theorem aIn3_get {l : List (Nat × Nat × Nat)} {ow ix k : Nat} (h : aIn3 l ow ix k = true) : (ow, ix, k) ∈ l := by
  unfold aIn3 at h
  rw [List.any_eq_true] at h
  obtain ⟨⟨o1, i1, k1⟩, hq, h1⟩ := h
  simp only [Bool.and_eq_true] at h1
  obtain ⟨⟨e1, e2⟩, e3⟩ := h1
  cases Nat.eq_of_beq_eq_true e1
  cases Nat.eq_of_beq_eq_true e2
  cases Nat.eq_of_beq_eq_true e3
  exact hq
theorem aIn2_get {l : List (Nat × Nat × Nat)} {ow ix : Nat} (h : aIn2 l ow ix = true) : ∃ p, (ow, ix, p) ∈ l := by
  unfold aIn2 at h
  rw [List.any_eq_true] at h
  obtain ⟨⟨o1, i1, p1⟩, hq, h1⟩ := h
  simp only [Bool.and_eq_true] at h1
  obtain ⟨e1, e2⟩ := h1
  cases Nat.eq_of_beq_eq_true e1
  cases Nat.eq_of_beq_eq_true e2
  exact ⟨p1, hq⟩
theorem aArr {G : aEnv} {ad : List Nat} {σ : aS} {H : Heap} {ob κ : Nat} (hI : aInv G ad σ H) (hk : aKd ob = κ) (h12 : 12 ≤ κ) (h16 : κ ≤ 16) (hv : ob < σ.1.1) :
    6 ≤ ob ∧ ob < ad.length + 6 ∧ (aWs G ad σ)[ob - 6]? = some (aAdr G ad ob, .inl (G.2.1 κ, aLn ob, if κ = 15 then .inr (.inl (σ.2.2.1 ob)) else .inl (σ.2.1 ob))) ∧ aUp G ad (.ref ob) = .ref (aAdr G ad ob) ∧ aSz σ ob = aLn ob := by
  obtain ⟨h6, h68⟩ := aKd_lt (o := ob) (by omega)
  have hl : ob < ad.length + 6 := by rw [hI.1]; exact hv
  refine ⟨h6, hl, ?_, aUp_hi h6, by unfold aSz; rw [if_neg (by omega)]⟩
  rw [aWs_at h6 hl]
  unfold aEn
  rw [if_neg (by omega), hk]
theorem aInv_arr {G : aEnv} {ad : List Nat} {σ : aS} {H H1 : Heap} {ob κ j : Nat} {x : Int32} (hI : aInv G ad σ H) (hk : aKd ob = κ) (h12 : 12 ≤ κ) (h16 : κ ≤ 16) (h15 : κ ≠ 15) (hv : ob < σ.1.1)
    (hP : va_P G.1 vwCl ((aWs G ad σ).set (ob - 6) (aAdr G ad ob, .inl (G.2.1 κ, aLn ob, .inl (upd (σ.2.1 ob) j x)))) H1) (hD : va_D (aA G) ((aWs G ad σ).set (ob - 6) (aAdr G ad ob, .inl (G.2.1 κ, aLn ob, .inl (upd (σ.2.1 ob) j x))))) : aInv G ad (aPI σ ob j x) H1 := by
  obtain ⟨h6, hl, -⟩ := aArr hI hk h12 h16 hv
  have e : (aWs G ad σ).set (ob - 6) (aAdr G ad ob, .inl (G.2.1 κ, aLn ob, .inl (upd (σ.2.1 ob) j x))) = aWs G ad (aPI σ ob j x) := by
    refine aWs_set h6 hl ?_ (fun i _ hi => aEn_same (aU_ne hi) rfl rfl)
    unfold aEn
    rw [if_neg (by omega), hk, if_neg h15]
    show Sum.inl (G.2.1 κ, aLn ob, Sum.inl (aU σ.2.1 ob j x ob)) = _
    rw [aU_row]
  rw [e] at hP hD
  exact ⟨hI.1, hP, hD, aWf_PI hI.2.2.2 h6 hv⟩
theorem aInv_arrL {G : aEnv} {ad : List Nat} {σ : aS} {H H1 : Heap} {ob j : Nat} {x : Int64} (hI : aInv G ad σ H) (hk : aKd ob = 15) (hv : ob < σ.1.1)
    (hP : va_P G.1 vwCl ((aWs G ad σ).set (ob - 6) (aAdr G ad ob, .inl (G.2.1 15, aLn ob, .inr (.inl (vp_updL (σ.2.2.1 ob) j x))))) H1) (hD : va_D (aA G) ((aWs G ad σ).set (ob - 6) (aAdr G ad ob, .inl (G.2.1 15, aLn ob, .inr (.inl (vp_updL (σ.2.2.1 ob) j x)))))) : aInv G ad (aPJ σ ob j x) H1 := by
  obtain ⟨h6, hl, -⟩ := aArr hI hk (by decide) (by decide) hv
  have e : (aWs G ad σ).set (ob - 6) (aAdr G ad ob, .inl (G.2.1 15, aLn ob, .inr (.inl (vp_updL (σ.2.2.1 ob) j x)))) = aWs G ad (aPJ σ ob j x) := by
    refine aWs_set h6 hl ?_ (fun i _ hi => aEn_same rfl (aU_ne hi) rfl)
    unfold aEn
    rw [if_neg (by omega), hk, if_pos rfl]
    show Sum.inl (G.2.1 15, aLn ob, Sum.inr (Sum.inl (aU σ.2.2.1 ob j x ob))) = _
    rw [aU_rowL]
  rw [e] at hP hD
  exact ⟨hI.1, hP, hD, aWf_PJ hI.2.2.2 hv⟩
theorem aInv_cpy {G : aEnv} {ad : List Nat} {σ : aS} {H H1 : Heap} {o1 ob i j n : Nat} (hI : aInv G ad σ H) (hk : aKd ob = 14) (hne : ¬ o1 = ob) (hv : ob < σ.1.1)
    (hP : va_P G.1 vwCl ((aWs G ad σ).set (ob - 6) (aAdr G ad ob, .inl (G.2.1 14, aLn ob, .inl (va_cpy (σ.2.1 o1) (σ.2.1 ob) i j n)))) H1) (hD : va_D (aA G) ((aWs G ad σ).set (ob - 6) (aAdr G ad ob, .inl (G.2.1 14, aLn ob, .inl (va_cpy (σ.2.1 o1) (σ.2.1 ob) i j n))))) : aInv G ad (aCp σ o1 i ob j n) H1 := by
  obtain ⟨h6, hl, -⟩ := aArr hI hk (by decide) (by decide) hv
  have e : (aWs G ad σ).set (ob - 6) (aAdr G ad ob, .inl (G.2.1 14, aLn ob, .inl (va_cpy (σ.2.1 o1) (σ.2.1 ob) i j n))) = aWs G ad (aCp σ o1 i ob j n) := by
    refine aWs_set h6 hl ?_ (fun i' _ hi => aEn_same (by funext j'; simp [aCp, hi]) rfl rfl)
    unfold aEn
    rw [if_neg (by omega), hk, if_neg (by decide)]
    have : (aCp σ o1 i ob j n).2.1 ob = va_cpy (σ.2.1 o1) (σ.2.1 ob) i j n := by
      funext j'
      simp [aCp, va_cpy]
    rw [this]
  rw [e] at hP hD
  exact ⟨hI.1, hP, hD, aWf_Cp hI.2.2.2 h6 hv⟩
theorem aInv_fld {G : aEnv} {ad : List Nat} {σ : aS} {H H1 : Heap} {ob a N j : Nat} {C : String} {T : u_T} {x : Int32} (hI : aInv G ad σ H) (hc : vwCl[a]? = some (C, T, N)) (hk : aKd ob = a) (hv : ob < σ.1.1) (hty : aTc ((aTyF.getD a tyX0) j) < 2)
    (hP : va_P G.1 vwCl ((aWs G ad σ).set (ob - 6) (aAdr G ad ob, .inr (a, ((List.range N).map (fun j => aFv G ad ((aTyF.getD a tyX0) j) (σ.2.1 ob j) (σ.2.2.2 ob j))).set j (.int x)))) H1) (hD : va_D (aA G) ((aWs G ad σ).set (ob - 6) (aAdr G ad ob, .inr (a, ((List.range N).map (fun j => aFv G ad ((aTyF.getD a tyX0) j) (σ.2.1 ob j) (σ.2.2.2 ob j))).set j (.int x))))) : aInv G ad (aPI σ ob j x) H1 := by
  obtain ⟨h6, hl, h12, hN, -⟩ := aObj hI hc hk hv
  have e : (aWs G ad σ).set (ob - 6) (aAdr G ad ob, .inr (a, ((List.range N).map (fun j => aFv G ad ((aTyF.getD a tyX0) j) (σ.2.1 ob j) (σ.2.2.2 ob j))).set j (.int x))) = aWs G ad (aPI σ ob j x) := by
    refine aWs_set h6 hl ?_ (fun i _ hi => aEn_same (aU_ne hi) rfl rfl)
    unfold aEn
    rw [if_pos h12, hk, hN]
    refine congrArg (fun q => Sum.inr (a, q)) (aMap_set ?_ (fun i hi => ?_))
    · show aFv G ad _ (aU σ.2.1 ob j x ob j) _ = _
      rw [aFv_int hty]
      simp [aU]
    · show aFv G ad _ (aU σ.2.1 ob j x ob i) _ = _
      simp [aU, hi]
      rfl
  rw [e] at hP hD
  exact ⟨hI.1, hP, hD, aWf_PI hI.2.2.2 h6 hv⟩
theorem aInv_fldR {G : aEnv} {ad : List Nat} {σ : aS} {H H1 : Heap} {ob a N j x : Nat} {C : String} {T : u_T} (hI : aInv G ad σ H) (hc : vwCl[a]? = some (C, T, N)) (hk : aKd ob = a) (hv : ob < σ.1.1) (hx : x < σ.1.1) (hty : aTc ((aTyF.getD a tyX0) j) = 4)
    (hP : va_P G.1 vwCl ((aWs G ad σ).set (ob - 6) (aAdr G ad ob, .inr (a, ((List.range N).map (fun j => aFv G ad ((aTyF.getD a tyX0) j) (σ.2.1 ob j) (σ.2.2.2 ob j))).set j (aUp G ad (.ref x))))) H1) (hD : va_D (aA G) ((aWs G ad σ).set (ob - 6) (aAdr G ad ob, .inr (a, ((List.range N).map (fun j => aFv G ad ((aTyF.getD a tyX0) j) (σ.2.1 ob j) (σ.2.2.2 ob j))).set j (aUp G ad (.ref x)))))) : aInv G ad (aPP σ ob j (x + 1)) H1 := by
  obtain ⟨h6, hl, h12, hN, -⟩ := aObj hI hc hk hv
  have e : (aWs G ad σ).set (ob - 6) (aAdr G ad ob, .inr (a, ((List.range N).map (fun j => aFv G ad ((aTyF.getD a tyX0) j) (σ.2.1 ob j) (σ.2.2.2 ob j))).set j (aUp G ad (.ref x)))) = aWs G ad (aPP σ ob j (x + 1)) := by
    refine aWs_set h6 hl ?_ (fun i _ hi => aEn_same rfl rfl (aU_ne hi))
    unfold aEn
    rw [if_pos h12, hk, hN]
    refine congrArg (fun q => Sum.inr (a, q)) (aMap_set ?_ (fun i hi => ?_))
    · show aFv G ad _ _ (aU σ.2.2.2 ob j (x + 1) ob j) = _
      rw [aFv_ref hty]
      simp [aU, aRf]
    · show aFv G ad _ _ (aU σ.2.2.2 ob j (x + 1) ob i) = _
      simp [aU, hi]
      rfl
  rw [e] at hP hD
  exact ⟨hI.1, hP, hD, aWf_PP hI.2.2.2 h6 hv hx⟩
theorem aEn_app {G : aEnv} {ad : List Nat} {σ : aS} {i : Nat} (x : List Nat) (hw : ∀ j, σ.2.2.2 i j ≤ ad.length + 6) : aEn G (ad ++ x) σ i = aEn G ad σ i := by
  unfold aEn
  have e : ∀ j, aFv G (ad ++ x) ((aTyF.getD (aKd i) tyX0) j) (σ.2.1 i j) (σ.2.2.2 i j) = aFv G ad ((aTyF.getD (aKd i) tyX0) j) (σ.2.1 i j) (σ.2.2.2 i j) := by
    intro j
    unfold aFv
    split
    · rfl
    · rfl
    · exact aUp_app x (aVk_rf (hw j))
  simp only [e]
theorem aWs_push {G : aEnv} {ad : List Nat} {σ σ' : aS} {q : Nat} {e : va_E} (h1 : ∀ i, i < ad.length → aEn G (ad ++ [q]) σ' (i + 6) = aEn G ad σ (i + 6)) (h2 : aEn G (ad ++ [q]) σ' (ad.length + 6) = e) : aWs G ad σ ++ [(q, e)] = aWs G (ad ++ [q]) σ' := by
  refine List.ext_getElem? fun n => ?_
  have hl : (aWs G ad σ).length = ad.length := by unfold aWs; rw [List.length_mapIdx]
  rw [aWs_get]
  by_cases hn : n < ad.length
  · rw [List.getElem?_append_left (by rw [hl]; exact hn), aWs_get, List.getElem?_append_left hn, List.getElem?_eq_getElem hn]
    simp [h1 n hn]
  · rw [List.getElem?_append_right (by rw [hl]; omega), List.getElem?_append_right (by omega), hl]
    by_cases he : n = ad.length
    · subst he
      simp [h2]
    · rw [List.getElem?_eq_none (by simp; omega), List.getElem?_eq_none (by simp; omega)]
      rfl
theorem aInv_new {G : aEnv} {ad : List Nat} {σ : aS} {H H1 : Heap} {n q : Nat} {e : va_E} (hI : aInv G ad σ H) (he : aEn G (ad ++ [q]) (aNew σ 1 n) σ.1.1 = e) (hP : va_P G.1 vwCl (aWs G ad σ ++ [(q, e)]) H1) (hD : va_D (aA G) (aWs G ad σ ++ [(q, e)])) : aInv G (ad ++ [q]) (aNew σ 1 n) H1 := by
  have w := hI.2.2.2
  have ew : aWs G ad σ ++ [(q, e)] = aWs G (ad ++ [q]) (aNew σ 1 n) := by
    refine aWs_push (fun i hi => ?_) (by rw [hI.1]; exact he)
    have : aEn G (ad ++ [q]) (aNew σ 1 n) (i + 6) = aEn G (ad ++ [q]) σ (i + 6) := rfl
    rw [this, aEn_app [q] (fun j => by rw [hI.1]; exact w.1 _ j (by omega))]
  rw [ew] at hP hD
  refine ⟨?_, hP, hD, aWf_New [q] w⟩
  have := hI.1
  simp [aNew]
  omega
section Snd1
variable {p : Program} {l : Launch} {e : Env} {R : Room} {s : State} {m : MethodId} {args : Array Value} {below : List Frame} {meth : Method} {c : Code} {Q : State → Prop} {G : aEnv} {d k : Nat} {g0 : Nat × Nat} {C : Nat → Nat → List Value → aS → Option aO} {K : Nat → List Value → List Value → aS → Option aO} {o : aO} {len t a b : Nat} {z : Int} {pc : Nat} {L st : List Value} {σ : aS}

theorem as_getfield {ix : Nat} (X : aFx p R s m args meth c G d k g0 o) (hK : aKok p l e R s m args below meth c Q G k g0 K o) (hd : decode (aNm k).2.1 pc = .ok (.getfield ix, len)) (hl : aIl k pc (.getfield ix) len t a b z = true) (h : aAct C K d k (.getfield ix) len t a b z pc L st σ = some o) : aGo p l e R s m args below meth c Q G k g0 pc L st σ := by
  intro ad H locs ls hI hS hL hv g1 g2 hn
  unfold aIl at hl
  dsimp only at hl
  rw [Bool.and_eq_true] at hl
  obtain ⟨hl0, hl⟩ := hl
  obtain rfl : len = 3 := Nat.eq_of_beq_eq_true hl0
  simp only [aAct] at h
  split at h
  · rename_i ob r
    split at h
    · split at h
      · rename_i hkd
        obtain ⟨Cn, T, N, hc, hj, hty, hw, -⟩ := aFld hl
        obtain ⟨h6, -, -, -, hws, hup⟩ := aObj hI hc hkd hv.h
        have go : ∀ v, aFv G ad ((aTyF.getD a tyX0) (b / 8)) (σ.2.1 ob (b / 8)) (σ.2.2.2 ob (b / 8)) = v → W p l e R s m args below meth c H locs (σ.1.2.1 - g0.1) (σ.1.2.2 - g0.2) Q (F0 m (pc + 3) ls (v :: r.map (aUp G ad))) → W p l e R s m args below meth c H locs (σ.1.2.1 - g0.1) (σ.1.2.2 - g0.2) Q (F0 m pc ls ((Value.ref ob :: r).map (aUp G ad))) := by
          intro v ev kk
          rw [List.map_cons, hup]
          exact va_get X.1 X.2.1 X.2.2.2.2.1 (aCl_tb hc) X.2.2.2.1 X.2.2.2.2.2.1.1 hI.2.1 (ob - 6) hws hc (b / 8) hj (X.2.2.2.2.1 _ hw) (fun _ q => q) (v := v) (by rw [List.getElem?_map, List.getElem?_range hj]; exact congrArg some ev) hd kk
        split at h
        · rename_i h4
          exact go _ (aFv_ref (by rw [← hty]; exact h4)) ((hK _ _ _ _ h).1 ad H locs ls hI hS hL (aVs.c (aVk_rf (hI.2.2.2.1 ob _ h6)) hv.t) g1 g2 hn)
        · rename_i h4
          exact go _ (aFv_int (aTc_lt hty h4)) ((hK _ _ _ _ h).1 ad H locs ls hI hS hL (aVs.c trivial hv.t) g1 g2 hn)
      · cases h
    · split at h
      · rename_i hkd
        obtain ⟨q, hq⟩ := aInM_get hl
        have hst : ∃ n bs, aStrings G ob n bs s s.heap := by
          rcases aKd_21 hkd with rfl | rfl
          · exact ⟨_, _, X.2.2.2.2.2.1.2.2.1⟩
          · exact ⟨_, _, X.2.2.2.2.2.1.2.2.2.1⟩
        obtain ⟨n, bs, s1, s2, s3, s4⟩ := hst
        have hob : ob = 1 ∨ ob = 2 := aKd_21 hkd
        have hup : aUp G ad (.ref ob) = .ref (G.2.2.2.1 ob) := aUp_lo (by rcases hob with q | q <;> rw [q] <;> decide)
        rw [List.map_cons, hup]
        split at h
        · rename_i h0
          have hw : Cond.fieldLink (aOw (aOn k)) ix "java/lang/String" "value" "[B" ∈ aTb := by
            rcases aSF_ok _ hq with ⟨-, z⟩ | ⟨z, -⟩
            · exact aWd_in z
            · exact absurd z (by dsimp only; omega)
          have kk := (hK _ _ _ _ h).1 ad H locs ls hI hS hL (aVs.c (show ob + 2 < σ.1.1 by have := hI.2.2.2.2.2.1; rcases hob with q | q <;> rw [q] <;> exact Nat.lt_of_lt_of_le (by decide) this) hv.t) g1 g2 hn
          rw [List.map_cons, show aUp G ad (.ref (ob + 2)) = .ref (G.2.2.2.1 (ob + 2)) from aUp_lo (by rcases hob with q | q <;> rw [q] <;> decide)] at kk
          exact vk_getf X.1 X.2.1 s2 hS X.2.2.2.1 (X.2.2.2.2.1 _ hw) (fun _ q => q) hd kk
        · rename_i h0
          have hw : Cond.fieldLink (aOw (aOn k)) ix "java/lang/String" "coder" "B" ∈ aTb := by
            rcases aSF_ok _ hq with ⟨z, -⟩ | ⟨-, z⟩
            · exact absurd z h0
            · exact aWd_in z
          exact vk_getf X.1 X.2.1 s3 hS X.2.2.2.1 (X.2.2.2.2.1 _ hw) (fun _ q => q) hd ((hK _ _ _ _ h).1 ad H locs ls hI hS hL (aVs.c trivial hv.t) g1 g2 hn)
      · cases h
    · cases h
  · cases h
theorem aPut_fin {a b k : Nat} {C : String} {T : u_T} {N : Nat} (hc : vwCl[a]? = some (C, T, N)) (e : aFd a (b / 8) = T (b / 8)) (h : (!(aFd a (b / 8)).2.2.2 || (decide ((aNm k).1.name = "<init>") && Nat.beq (aOn k) a)) = true) : (T (b / 8)).2.2.2 = false ∨ ((T (b / 8)).2.2.2 = true ∧ (aNm k).1.name = "<init>" ∧ aOn k = a) := by
  rw [e] at h
  cases hf : (T (b / 8)).2.2.2 with
  | false => exact Or.inl rfl
  | true =>
    rw [hf] at h
    simp only [Bool.not_true, Bool.false_or, Bool.and_eq_true, decide_eq_true_eq] at h
    exact Or.inr ⟨rfl, h.1, Nat.eq_of_beq_eq_true h.2⟩
theorem aOwn_cl : ∀ a, a < 12 → (vwCl[a]?).map (fun q => (q.1, (List.range q.2.2).all (fun j => decide ((q.2.1 j).1 = q.1)))) = some (aOw a, true) := by decide +kernel
theorem aOwn_T {a N j : Nat} {C : String} {T : u_T} (hc : vwCl[a]? = some (C, T, N)) (hj : j < N) : (T j).1 = aOw a := by
  have ha : a < 12 := (List.getElem?_eq_some_iff.mp hc).1
  have h := aOwn_cl a ha
  rw [hc] at h
  simp only [Option.map_some, Option.some.injEq, Prod.mk.injEq] at h
  have h2 := List.all_eq_true.mp h.2 j (List.mem_range.mpr hj)
  rw [← h.1]
  exact of_decide_eq_true h2
theorem aNr {ty : FieldType} {v : Value} (h : aTc ty = 4) (hv : v = .null ∨ ∃ q, v = .ref q) : narrow ty v = v ∧ fits ty v = true := by
  rcases hv with rfl | ⟨q, rfl⟩ <;> cases ty <;> first | exact ⟨rfl, rfl⟩ | (simp [aTc] at h)
theorem aUp_rf {G : aEnv} {ad : List Nat} {x : Nat} : aUp G ad (.ref x) = .null ∨ ∃ q, aUp G ad (.ref x) = .ref q := by
  rw [aUp_at]
  split
  · cases G.2.2.2.2.1 with
    | none => exact Or.inl rfl
    | some q => exact Or.inr ⟨q, rfl⟩
  · exact Or.inr ⟨_, rfl⟩
theorem aNi {ty : FieldType} {x : Int32} (h : aTc ty = 0) : narrow ty (.int x) = .int x ∧ fits ty (.int x) = true := by
  cases ty <;> first | exact ⟨rfl, rfl⟩ | (simp [aTc] at h)
theorem aNz {ty : FieldType} {x : Int32} (h : aTc ty = 1) (hx : x = 0 ∨ x = 1) : narrow ty (.int x) = .int x ∧ fits ty (.int x) = true := by
  rcases hx with rfl | rfl <;> cases ty <;> first | exact ⟨rfl, rfl⟩ | (simp [aTc] at h)
theorem as_putfield {ix : Nat} (X : aFx p R s m args meth c G d k g0 o) (hK : aKok p l e R s m args below meth c Q G k g0 K o) (hd : decode (aNm k).2.1 pc = .ok (.putfield ix, len)) (hl : aIl k pc (.putfield ix) len t a b z = true) (h : aAct C K d k (.putfield ix) len t a b z pc L st σ = some o) : aGo p l e R s m args below meth c Q G k g0 pc L st σ := by
  intro ad H locs ls hI hS hL hv g1 g2 hn
  unfold aIl at hl
  dsimp only at hl
  rw [Bool.and_eq_true] at hl
  obtain ⟨hl0, hl⟩ := hl
  obtain rfl : len = 3 := Nat.eq_of_beq_eq_true hl0
  simp only [aAct] at h
  split at h
  · rename_i x ob r
    split at h
    · split at h
      · rename_i hkd
        obtain ⟨hl1, hl2⟩ := (Bool.and_eq_true _ _).mp hl
        obtain ⟨Cn, T, N, hc, hj, hty, hw, eF⟩ := aFld hl1
        obtain ⟨h6, -, -, -, hws, hup⟩ := aObj hI hc hkd hv.t.h
        rw [List.map_cons, List.map_cons, hup]
        obtain ⟨-, htys, hnms⟩ := aCl hc
        have put : ∀ v, narrow ((aTyF.getD a tyX0) (b / 8)) v = v → fits ((aTyF.getD a tyX0) (b / 8)) v = true → (∀ (H1 : Heap) (locs1 : List Loc), va_P G.1 vwCl ((aWs G ad σ).set (ob - 6) (aAdr G ad ob, .inr (a, ((List.range N).map (fun j => aFv G ad ((aTyF.getD a tyX0) j) (σ.2.1 ob j) (σ.2.2.2 ob j))).set (b / 8) v))) H1 → va_D (aA G) ((aWs G ad σ).set (ob - 6) (aAdr G ad ob, .inr (a, ((List.range N).map (fun j => aFv G ad ((aTyF.getD a tyX0) j) (σ.2.1 ob j) (σ.2.2.2 ob j))).set (b / 8) v))) → va_S (aA G) s.heap H1 locs1 → W p l e R s m args below meth c H1 locs1 (σ.1.2.1 - g0.1) (σ.1.2.2 - g0.2) Q (F0 m (pc + 3) ls (r.map (aUp G ad)))) → W p l e R s m args below meth c H locs (σ.1.2.1 - g0.1) (σ.1.2.2 - g0.2) Q (F0 m pc ls (v :: .ref (aAdr G ad ob) :: r.map (aUp G ad))) := by
          intro v hn1 hf1 kk
          rcases aPut_fin hc eF hl2 with hfin | ⟨hfin, hini, how⟩
          · exact va_put X.1 X.2.1 X.2.2.2.2.1 (aCl_tb hc) _ htys hnms X.2.2.2.1 X.2.2.2.2.2.1.1 hI.2.1 hI.2.2.1 hS (ob - 6) hws hc (b / 8) hj (X.2.2.2.2.1 _ hw) (fun _ q => q) hfin (htys _ hj) hn1 hf1 (by simp [hj]) hd kk
          · exact va_putF X.1 X.2.1 X.2.2.2.2.1 (aCl_tb hc) _ htys hnms X.2.2.2.1 X.2.2.2.2.2.1.1 hI.2.1 hI.2.2.1 hS (ob - 6) hws hc (b / 8) hj (X.2.2.2.2.1 _ hw) (fun _ q => q) hfin (X.2.2.2.2.2.2.2.1.trans hini) (by rw [how]; exact aOwn_T hc hj) (htys _ hj) hn1 hf1 (by simp [hj]) hd kk
        split at h
        · rename_i h0
          exact put (.int x) (aNi (hty.symm.trans h0)).1 (aNi (hty.symm.trans h0)).2 (fun H1 locs1 hP1 hD1 hS1 => (hK _ _ _ _ h).1 ad H1 locs1 ls (aInv_fld hI hc hkd hv.t.h (by rw [← hty, h0]; decide) hP1 hD1) hS1 hL hv.t.t g1 g2 hn)
        · rename_i h0
          split at h
          · rename_i hx
            exact put (.int x) (aNz (hty.symm.trans h0) hx).1 (aNz (hty.symm.trans h0) hx).2 (fun H1 locs1 hP1 hD1 hS1 => (hK _ _ _ _ h).1 ad H1 locs1 ls (aInv_fld hI hc hkd hv.t.h (by rw [← hty, h0]; decide) hP1 hD1) hS1 hL hv.t.t g1 g2 hn)
          · cases h
        · cases h
      · cases h
    · cases h
  · rename_i x ob r
    split at h
    · split at h
      · rename_i hkd
        obtain ⟨hl1, hl2⟩ := (Bool.and_eq_true _ _).mp hl
        obtain ⟨Cn, T, N, hc, hj, hty, hw, eF⟩ := aFld hl1
        obtain ⟨h6, -, -, -, hws, hup⟩ := aObj hI hc hkd hv.t.h
        rw [List.map_cons, List.map_cons, hup]
        obtain ⟨-, htys, hnms⟩ := aCl hc
        have put : ∀ v, narrow ((aTyF.getD a tyX0) (b / 8)) v = v → fits ((aTyF.getD a tyX0) (b / 8)) v = true → (∀ (H1 : Heap) (locs1 : List Loc), va_P G.1 vwCl ((aWs G ad σ).set (ob - 6) (aAdr G ad ob, .inr (a, ((List.range N).map (fun j => aFv G ad ((aTyF.getD a tyX0) j) (σ.2.1 ob j) (σ.2.2.2 ob j))).set (b / 8) v))) H1 → va_D (aA G) ((aWs G ad σ).set (ob - 6) (aAdr G ad ob, .inr (a, ((List.range N).map (fun j => aFv G ad ((aTyF.getD a tyX0) j) (σ.2.1 ob j) (σ.2.2.2 ob j))).set (b / 8) v))) → va_S (aA G) s.heap H1 locs1 → W p l e R s m args below meth c H1 locs1 (σ.1.2.1 - g0.1) (σ.1.2.2 - g0.2) Q (F0 m (pc + 3) ls (r.map (aUp G ad)))) → W p l e R s m args below meth c H locs (σ.1.2.1 - g0.1) (σ.1.2.2 - g0.2) Q (F0 m pc ls (v :: .ref (aAdr G ad ob) :: r.map (aUp G ad))) := by
          intro v hn1 hf1 kk
          rcases aPut_fin hc eF hl2 with hfin | ⟨hfin, hini, how⟩
          · exact va_put X.1 X.2.1 X.2.2.2.2.1 (aCl_tb hc) _ htys hnms X.2.2.2.1 X.2.2.2.2.2.1.1 hI.2.1 hI.2.2.1 hS (ob - 6) hws hc (b / 8) hj (X.2.2.2.2.1 _ hw) (fun _ q => q) hfin (htys _ hj) hn1 hf1 (by simp [hj]) hd kk
          · exact va_putF X.1 X.2.1 X.2.2.2.2.1 (aCl_tb hc) _ htys hnms X.2.2.2.1 X.2.2.2.2.2.1.1 hI.2.1 hI.2.2.1 hS (ob - 6) hws hc (b / 8) hj (X.2.2.2.2.1 _ hw) (fun _ q => q) hfin (X.2.2.2.2.2.2.2.1.trans hini) (by rw [how]; exact aOwn_T hc hj) (htys _ hj) hn1 hf1 (by simp [hj]) hd kk
        split at h
        · rename_i h0
          exact put _ (aNr (hty.symm.trans h0) aUp_rf).1 (aNr (hty.symm.trans h0) aUp_rf).2 (fun H1 locs1 hP1 hD1 hS1 => (hK _ _ _ _ h).1 ad H1 locs1 ls (aInv_fldR hI hc hkd hv.t.h hv.h (hty.symm.trans h0) hP1 hD1) hS1 hL hv.t.t g1 g2 hn)
        · cases h
      · cases h
    · cases h
  · cases h
end Snd1
