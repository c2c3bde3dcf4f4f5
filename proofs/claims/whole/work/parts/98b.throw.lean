/-! those that may throw: tied -/
variable {d : Nat} {g : Nat × Nat × Nat} {I : Nat → Nat → Int32} {J : Nat → Nat → Int64} {sl rd rl : Nat} {t n m q : Nat}
def tieT {β : Type} (mk : β → Value) (cv : β → Int64) (d kw km : Nat) (as : List Value) (t : Nat) (g : Nat × Nat × Nat) (I : Nat → Nat → Int32) (J : Nat → Nat → Int64) (sl rd : Nat) : Prop :=
  ∃ (k : Int32) (b : β) (g' : Nat × Nat × Nat) (I1 : Nat → Nat → Int32) (J1 : Nat → Nat → Int64) (I2 : Nat → Nat → Int32) (rd2 n m q : Nat), aF d kw (.ref 6 :: (as ++ [.ref 67])) (g, I, J, aP1 sl rd 56) = some (some (some (.int k)), (g', I1, J1, aP1 sl rd 56)) ∧ aF d km (.ref 46 :: as) (g', I1, J1, aP1 sl rd 56) = some (some (some (mk b)), (g', I2, J1, aP1 sl rd2 56)) ∧ I2 46 13 = k ∧ (k = 0 → J1 67 0 = cv b) ∧ zInv (t + 1) n m q I2 J1 ∧ I2 0 = I 0 ∧ g'.1 = g.1 ∧ g'.2.1 ≤ g.2.1 + 1 ∧ g'.2.2 ≤ g.2.2 + 6
theorem tT_ok {β : Type} {mk : β → Value} {cv : β → Int64} {kw km : Nat} {as : List Value} {b : β} {I1 I2 : Nat → Nat → Int32} {rd2 : Nat} (H : zInv t n m q I J) (h1 : Fr scc I I1) (h2 : Fr scm I1 I2) (h3 : F46 scf I1 I2) (h13 : I2 46 13 = 0) (e1 : aF d kw (.ref 6 :: (as ++ [.ref 67])) (g, I, J, aP1 sl rd 56) = some (some (some (.int 0)), (g, I1, aU J 67 0 (cv b), aP1 sl rd 56))) (e2 : aF d km (.ref 46 :: as) (g, I1, aU J 67 0 (cv b), aP1 sl rd 56) = some (some (some (mk b)), (g, I2, aU J 67 0 (cv b), aP1 sl rd2 56))) : tieT mk cv d kw km as t g I J sl rd := by
  refine ⟨0, b, g, I1, _, I2, rd2, n, m, q, e1, e2, h13, fun _ => aU_s .., ?_, (h2 0 (by decide)).trans (h1 0 (by decide)), rfl, Nat.le_succ _, Nat.le_add_right _ _⟩
  have F : Fr scr I I2 := Fr_t (Fr_w h1 (by decide)) (Fr_w h2 (by decide))
  have F6 : F46 scf I I2 := F46_t (F46_f h1 (by decide)) h3
  refine zInv_up (zInv_R H (Fr_w F (by decide)) (fun j hj => F6 j (fun q => hj (List.mem_cons_of_mem _ q))) ?_)
  rw [F 12 (by decide), F6 12 (by decide), aU_r _ _ (by decide), aU_r _ _ (by decide)]
  exact H.2.1
theorem tT_no {β : Type} {mk : β → Value} {cv : β → Int64} {kw km : Nat} {as : List Value} (b : β) (H : zInv t n m q I J) (e1 : aF d kw (.ref 6 :: (as ++ [.ref 67])) (g, I, J, aP1 sl rd 56) = some (some (some (.int 1)), ((g.1 + 0, g.2.1 + 1, g.2.2 + 6), I, J, aP1 sl rd 56))) (e2 : aF d km (.ref 46 :: as) ((g.1 + 0, g.2.1 + 1, g.2.2 + 6), I, J, aP1 sl rd 56) = some (some (some (mk b)), ((g.1 + 0, g.2.1 + 1, g.2.2 + 6), aU (aU I 46 13 0) 46 13 1, J, aP1 sl rd 56))) : tieT mk cv d kw km as t g I J sl rd := by
  refine ⟨1, b, _, I, J, _, rd, n, m, q, e1, e2, aU_s .., fun h => absurd h (by decide), ?_, ?_, rfl, Nat.le_refl _, Nat.le_refl _⟩
  · rw [aU_u]
    exact zInv_up (zInv_0 H (Fr_w (by rw [aU_R]; exact Fr_s (Fr_r [46] _) _ (by decide)) (by decide)) (fun j hj => aU_i _ _ (fun e => hj (by rw [e]; decide))))
  · rw [aU_r _ _ (by decide), aU_r _ _ (by decide)]
section W
variable {I1 : Nat → Nat → Int32} {g' : Nat × Nat × Nat} {a b : Int32}
theorem w297r {v : Int32} (h : aF d 169 [.ref 6, .int a, .int b] (g, I, J, aP1 sl rd rl) = some (some (some (.int v)), (g, I1, J, aP1 sl rd rl))) : aF d 297 [.ref 6, .int a, .int b, .ref 67] (g, I, J, aP1 sl rd rl) = some (some (some (.int 0)), (g, I1, aU J 67 0 v.toInt64, aP1 sl rd rl)) := by
  show aE d 297 0 [.ref 6, .int a, .int b, .ref 67, aNo] [] _ = _
  rw [b297_0, h]
  simp only [aHi]
  rw [b297_8, if_neg (by decide)]
  rfl
theorem w297t (h : aF d 169 [.ref 6, .int a, .int b] (g, I, J, aP1 sl rd rl) = some (none, (g', I, J, aP1 sl rd rl))) : aF d 297 [.ref 6, .int a, .int b, .ref 67] (g, I, J, aP1 sl rd rl) = some (some (some (.int 1)), (g', I, J, aP1 sl rd rl)) := by
  show aE d 297 0 [.ref 6, .int a, .int b, .ref 67, aNo] [] _ = _
  rw [b297_0, h]
  simp only [aHi]
  rw [b297_15]
theorem w299r {v : Int32} (h : aF d 171 [.ref 6, .int a, .int b] (g, I, J, aP1 sl rd rl) = some (some (some (.int v)), (g, I1, J, aP1 sl rd rl))) : aF d 299 [.ref 6, .int a, .int b, .ref 67] (g, I, J, aP1 sl rd rl) = some (some (some (.int 0)), (g, I1, aU J 67 0 v.toInt64, aP1 sl rd rl)) := by
  show aE d 299 0 [.ref 6, .int a, .int b, .ref 67, aNo] [] _ = _
  rw [b299_0, h]
  simp only [aHi]
  rw [b299_8, if_neg (by decide)]
  rfl
theorem w299t (h : aF d 171 [.ref 6, .int a, .int b] (g, I, J, aP1 sl rd rl) = some (none, (g', I, J, aP1 sl rd rl))) : aF d 299 [.ref 6, .int a, .int b, .ref 67] (g, I, J, aP1 sl rd rl) = some (some (some (.int 1)), (g', I, J, aP1 sl rd rl)) := by
  show aE d 299 0 [.ref 6, .int a, .int b, .ref 67, aNo] [] _ = _
  rw [b299_0, h]
  simp only [aHi]
  rw [b299_15]
theorem w300r {v : Int32} (h : aF d 172 [.ref 6, .int a, .int b] (g, I, J, aP1 sl rd rl) = some (some (some (.int v)), (g, I1, J, aP1 sl rd rl))) : aF d 300 [.ref 6, .int a, .int b, .ref 67] (g, I, J, aP1 sl rd rl) = some (some (some (.int 0)), (g, I1, aU J 67 0 v.toInt64, aP1 sl rd rl)) := by
  show aE d 300 0 [.ref 6, .int a, .int b, .ref 67, aNo] [] _ = _
  rw [b300_0, h]
  simp only [aHi]
  rw [b300_8, if_neg (by decide)]
  rfl
theorem w300t (h : aF d 172 [.ref 6, .int a, .int b] (g, I, J, aP1 sl rd rl) = some (none, (g', I, J, aP1 sl rd rl))) : aF d 300 [.ref 6, .int a, .int b, .ref 67] (g, I, J, aP1 sl rd rl) = some (some (some (.int 1)), (g', I, J, aP1 sl rd rl)) := by
  show aE d 300 0 [.ref 6, .int a, .int b, .ref 67, aNo] [] _ = _
  rw [b300_0, h]
  simp only [aHi]
  rw [b300_15]
theorem w301r {v : Int32} (h : aF d 173 [.ref 6, .int a, .int b] (g, I, J, aP1 sl rd rl) = some (some (some (.int v)), (g, I1, J, aP1 sl rd rl))) : aF d 301 [.ref 6, .int a, .int b, .ref 67] (g, I, J, aP1 sl rd rl) = some (some (some (.int 0)), (g, I1, aU J 67 0 v.toInt64, aP1 sl rd rl)) := by
  show aE d 301 0 [.ref 6, .int a, .int b, .ref 67, aNo] [] _ = _
  rw [b301_0, h]
  simp only [aHi]
  rw [b301_8, if_neg (by decide)]
  rfl
theorem w301t (h : aF d 173 [.ref 6, .int a, .int b] (g, I, J, aP1 sl rd rl) = some (none, (g', I, J, aP1 sl rd rl))) : aF d 301 [.ref 6, .int a, .int b, .ref 67] (g, I, J, aP1 sl rd rl) = some (some (some (.int 1)), (g', I, J, aP1 sl rd rl)) := by
  show aE d 301 0 [.ref 6, .int a, .int b, .ref 67, aNo] [] _ = _
  rw [b301_0, h]
  simp only [aHi]
  rw [b301_15]
theorem w298r {v : Int32} (h : aF d 170 [.ref 6, .int a] (g, I, J, aP1 sl rd rl) = some (some (some (.int v)), (g, I1, J, aP1 sl rd rl))) : aF d 298 [.ref 6, .int a, .ref 67] (g, I, J, aP1 sl rd rl) = some (some (some (.int 0)), (g, I1, aU J 67 0 v.toInt64, aP1 sl rd rl)) := by
  show aE d 298 0 [.ref 6, .int a, .ref 67, aNo] [] _ = _
  rw [b298_0, h]
  simp only [aHi]
  rw [b298_7, if_neg (by decide)]
  rfl
theorem w298t (h : aF d 170 [.ref 6, .int a] (g, I, J, aP1 sl rd rl) = some (none, (g', I, J, aP1 sl rd rl))) : aF d 298 [.ref 6, .int a, .ref 67] (g, I, J, aP1 sl rd rl) = some (some (some (.int 1)), (g', I, J, aP1 sl rd rl)) := by
  show aE d 298 0 [.ref 6, .int a, .ref 67, aNo] [] _ = _
  rw [b298_0, h]
  simp only [aHi]
  rw [b298_13]
theorem w302r {v : Int64} (h : aF d 176 [.ref 6, .int a] (g, I, J, aP1 sl rd rl) = some (some (some (.long v)), (g, I1, J, aP1 sl rd rl))) : aF d 302 [.ref 6, .int a, .ref 67] (g, I, J, aP1 sl rd rl) = some (some (some (.int 0)), (g, I1, aU J 67 0 v, aP1 sl rd rl)) := by
  show aE d 302 0 [.ref 6, .int a, .ref 67, aNo] [] _ = _
  rw [b302_0, h]
  simp only [aHl]
  rw [b302_7, if_neg (by decide)]
  rfl
theorem w302t (h : aF d 176 [.ref 6, .int a] (g, I, J, aP1 sl rd rl) = some (none, (g', I, J, aP1 sl rd rl))) : aF d 302 [.ref 6, .int a, .ref 67] (g, I, J, aP1 sl rd rl) = some (some (some (.int 1)), (g', I, J, aP1 sl rd rl)) := by
  show aE d 302 0 [.ref 6, .int a, .ref 67, aNo] [] _ = _
  rw [b302_0, h]
  simp only [aHl]
  rw [b302_12]
end W
theorem in_o {k : Nat} (hk : k ≤ 8) {a : Int32} (h : a < 0 ∨ nI k ≤ a) : inI a 0 (nI k - 1) = 0 := by
  refine inI_f ?_
  rcases h with h | h
  · exact Or.inl h
  · right
    have e : (nI k - 1).toInt = (k : Int) - 1 := pk_sub_toInt (a := k) (b := 1) (by omega) (by omega)
    have e2 := nI_toInt (n := k) (by omega)
    rw [int_le] at h
    rw [int_lt]
    omega
theorem in_i {k i : Nat} (hi : i < k) (hk : k ≤ 8) : inI (nI i) 0 (nI k - 1) = 1 := by
  refine inI_t (nI_pos (by omega)) ?_
  rw [show nI k - 1 = nI (k - 1) from pk_sub (b := 1) (by omega)]
  exact nI_nlt (by omega) (by omega)
theorem out0 {k : Nat} {a : Int32} (h : a < 0 ∨ nI k ≤ a) : (if a < 0 then (0 : Int32) else if nI k ≤ a then 0 else 1) = 0 := by
  rcases h with h | h
  · rw [if_pos h]
  · rw [if_pos h, ite_self]
theorem in1 {k i : Nat} (hi : i < k) (hk : k ≤ 8) : (if nI i < 0 then (0 : Int32) else if nI k ≤ nI i then 0 else 1) = 1 := by
  rw [if_neg (nI_pos (by omega)), if_neg (nI_ge hi (by omega))]
theorem sw {b : Int32} {k : Nat} (hk : k < 2 ^ 31) (h : b < 0 ∨ nI (k + 1) ≤ b) (hk2 : k + 1 < 2 ^ 31) : b.toInt < 0 ∨ (k : Int) < b.toInt := by
  rcases h with h | h
  · left; rw [int_lt] at h; exact h
  · right
    have e2 := nI_toInt (n := k + 1) hk2
    rw [int_le] at h
    omega
theorem sw2 {b : Int32} {k : Nat} (h : b < 0 ∨ nI (k + 1) ≤ b) (hk2 : k + 1 < 2 ^ 31) : inI b 0 (nI k) = 0 := by
  refine inI_f ?_
  rcases h with h | h
  · exact Or.inl h
  · right
    have e2 := nI_toInt (n := k + 1) hk2
    have e3 := nI_toInt (n := k) (by omega)
    rw [int_le] at h
    rw [int_lt]
    omega
theorem o13 (I : Nat → Nat → Int32) {j : Nat} (h : j ≠ 13) : aU I 46 13 0 46 j = I 46 j := aU_i _ _ h
theorem r13 (I : Nat → Nat → Int32) {a : Nat} (h : a ≠ 46) : aU I 46 13 0 a = I a := aU_r _ _ h
theorem tie_driver (H : zInv t n m q I J) (a b : Int32) : tieT .int Int32.toInt64 d 297 205 [.int a, .int b] t g I J sl rd := by
  obtain ⟨hn, d1, d2, d3⟩ := H.2.2.1
  have hS := H.2.2.2.2.2.2.1
  rcases kix a (show n < 2 ^ 31 by omega) with ⟨i, hi, rfl⟩ | ha
  · have C0 : aF d 169 [.ref 6, .int (nI i), .int b] (g, I, J, aP1 sl rd 56) = aE d 169 20 [.ref 6, .int (nI i), .int b] [.int b] (g, I, J, aP1 sl rd 56) := by
      show aE d 169 0 [.ref 6, .int (nI i), .int b] [] _ = _
      rw [b169_0, f88, d1, in1 hi hn]
      simp only [aBi]
      rw [b169_8, if_neg (by decide)]
    have R0 : ∀ (g : Nat × Nat × Nat) (J : Nat → Nat → Int64), aF d 205 [.ref 46, .int (nI i), .int b] (g, I, J, aP1 sl rd 56) = aE d 205 19 [.ref 46, .int (nI i), .int b] [.int (inI b 0 4)] (g, aU I 46 13 0, J, aP1 sl rd 56) := fun g J => by
      show aE d 205 0 [.ref 46, .int (nI i), .int b] [] _ = _
      rw [b205_0, f206, o13 _ (by decide), d2, in_i hi hn]
      simp only [aBi]
      rw [b205_10, if_neg (by decide), f181]
      rfl
    rcases kix b (show 5 < 2 ^ 31 by decide) with ⟨j, hj, rfl⟩ | hb
    · have i5 : inI (nI j) 0 4 = 1 := in_i (k := 5) hj (by decide)
      have ok : ∀ v : Int32, aF d 169 [.ref 6, .int (nI i), .int (nI j)] (g, I, J, aP1 sl rd 56) = some (some (some (.int v)), (g, I, J, aP1 sl rd 56)) → (∀ J : Nat → Nat → Int64, aF d 205 [.ref 46, .int (nI i), .int (nI j)] (g, I, J, aP1 sl rd 56) = some (some (some (.int v)), (g, aU I 46 13 0, J, aP1 sl rd 56))) → tieT .int Int32.toInt64 d 297 205 [.int (nI i), .int (nI j)] t g I J sl rd := fun v e1 e2 =>
        tT_ok (b := v) H (Fr_r _ _) (th_F _) (th_46 _) (aU_s ..) (w297r e1) (e2 _)
      rw [i5] at R0
      rcases (by omega : j = 0 ∨ j = 1 ∨ j = 2 ∨ j = 3 ∨ j = 4) with rfl | rfl | rfl | rfl | rfl
      · refine ok (I 15 i) (C0.trans ?_) (fun J => (R0 g J).trans ?_)
        · show aE d 169 20 [.ref 6, .int (nI i), .int 0] [.int 0] _ = _
          rw [b169_20_c0, nI_clamp (by omega), if_neg (t8 (by omega))]
        · show aE d 205 19 [.ref 46, .int (nI i), .int 0] [.int 1] _ = _
          rw [b205_19, if_neg (by decide), if_pos rfl, nI_clamp (by omega), if_neg (t8 (by omega)), r13 _ (by decide), (d3 i hi).1]
      · refine ok (I 16 i) (C0.trans ?_) (fun J => (R0 g J).trans ?_)
        · show aE d 169 20 [.ref 6, .int (nI i), .int 1] [.int 1] _ = _
          rw [b169_20_c1, nI_clamp (by omega), if_neg (t8 (by omega))]
        · show aE d 205 19 [.ref 46, .int (nI i), .int 1] [.int 1] _ = _
          rw [b205_19, if_neg (by decide), if_neg (by decide), if_pos rfl, nI_clamp (by omega), if_neg (t8 (by omega)), r13 _ (by decide), (d3 i hi).2.1]
      · refine ok (I 24 (8 + i)) (C0.trans ?_) (fun J => (R0 g J).trans ?_)
        · show aE d 169 20 [.ref 6, .int (nI i), .int 2] [.int 2] _ = _
          rw [b169_20_c2, f68_23 (by omega)]
          simp only [aBi]
          rw [b169_84]
        · show aE d 205 19 [.ref 46, .int (nI i), .int 2] [.int 1] _ = _
          rw [b205_19, if_neg (by decide), if_neg (by decide), if_neg (by decide), if_pos rfl, nIp6, nI_clamp (by omega), if_neg (t39 (by omega)), r13 _ (by decide), okS_l hS (by omega)]
      · refine ok (tI (hasT (I 24 7) (nI i))) (C0.trans ?_) (fun J => (R0 g J).trans ?_)
        · show aE d 169 20 [.ref 6, .int (nI i), .int 3] [.int 3] _ = _
          rw [b169_20_c3, f92_23]
          simp only [aBi]
          rw [b169_93]
          cases hasT (I 24 7) (nI i)
          · rw [if_pos tI_f]; rfl
          · rw [if_neg (by decide)]; rfl
        · show aE d 205 19 [.ref 46, .int (nI i), .int 3] [.int 1] _ = _
          rw [b205_19, if_neg (by decide), if_neg (by decide), if_neg (by decide), if_neg (by decide), if_pos rfl, nIp14, nI_clamp (by omega), if_neg (t39 (by omega)), r13 _ (by decide), okS_x hS (by omega)]
      · refine ok (I 24 (16 + i)) (C0.trans ?_) (fun J => (R0 g J).trans ?_)
        · show aE d 169 20 [.ref 6, .int (nI i), .int 4] [.int 4] _ = _
          rw [b169_20_c4, f70_23 (by omega)]
          simp only [aBi]
          rw [b169_110]
        · show aE d 205 19 [.ref 46, .int (nI i), .int 4] [.int 1] _ = _
          rw [b205_19, if_neg (by decide), if_neg (by decide), if_neg (by decide), if_neg (by decide), if_neg (by decide), nIp22, nI_clamp (by omega), if_neg (t39 (by omega)), r13 _ (by decide), okS_w hS (by omega)]
    · refine tT_no (0 : Int32) H (w297t (C0.trans ?_)) ((R0 _ _).trans ?_)
      · rw [s169_20 _ _ _ _ (sw (k := 4) (by decide) hb (by decide)), b169_111]
      · rw [show inI b 0 4 = 0 from sw2 (k := 4) hb (by decide), b205_19, if_pos rfl, f207]
        simp only [aBi]
        rw [b205_26]
  · refine tT_no (0 : Int32) H (w297t ?_) ?_
    · show aE d 169 0 [.ref 6, .int a, .int b] [] _ = _
      rw [b169_0, f88, d1, out0 ha]
      simp only [aBi]
      rw [b169_8, if_pos rfl]
    · show aE d 205 0 [.ref 46, .int a, .int b] [] _ = _
      rw [b205_0, f206, o13 _ (by decide), d2, in_o hn ha]
      simp only [aBi]
      rw [b205_10, if_pos rfl, f207]
      simp only [aBi]
      rw [b205_26]
theorem tie_strength (hd : 41 ≤ d) (H : zInv t n m q I J) (a : Int32) : tieT .int Int32.toInt64 d 298 208 [.int a] t g I J sl rd := by
  obtain ⟨hn, d1, d2, d3⟩ := H.2.2.1
  have hS := H.2.2.2.2.2.2.1
  obtain ⟨mm, kk, rv, v1, v2, v3, v4, v5, v6⟩ := zV_get H
  have sk := zD_s H
  rcases kix a (show n < 2 ^ 31 by omega) with ⟨i, hi, rfl⟩ | ha
  · obtain ⟨k, hk, kc, kr⟩ := okS_k hS hn hi
    obtain ⟨x, y, e67⟩ := f67 (d := d) (g := g) (I := I) (J := J) (sl := sl) (rd := rd) (rl := 56) v3 v1 d1 hn hi hk kc
    generalize hJ : aU J 67 0 (Int32.toInt64 (rv (th (I 15) (cV (I 24)) i))) = J1
    have F1 : Fr [35, 36] I (aR (aR I 35 x) 36 y) := Fr_s (Fr_s (Fr_r _ _) _ (by decide)) _ (by decide)
    generalize hI1 : aR (aR I 35 x) 36 y = I1 at e67 F1
    obtain ⟨I2, rd2, z1, z2, z3⟩ := f209 (d := d) (g := g) (I := aU I1 46 13 0) (J := J1) (sl := sl) (rd := rd) (i := i) (k := k) (rs := kk) (rv := rv) (sk := I 15) hd (by rw [r13 _ (by decide), F1 55 (by decide)]; exact v4) (by rw [r13 _ (by decide), F1 55 (by decide)]; exact v5) v6 (by rw [o13 _ (by decide), F1 46 (by decide)]; exact v2) (by omega) hk (by rw [r13 _ (by decide), F1 47 (by decide)]; exact kr) (by rw [r13 _ (by decide), F1 48 (by decide)]; exact sk i hi)
    rw [r13 _ (show 47 ≠ 46 by decide), F1 47 (by decide), ← hS.1] at z3
    refine tT_ok (b := rv (th (I 15) (cV (I 24)) i)) (I1 := I1) (I2 := I2) (rd2 := rd2) H (Fr_w F1 (by decide)) (Fr_t (th_F I1) (Fr_w z1 (by decide))) (F46_t (th_46 I1) (F46_w z2 (by decide))) ?_ (w298r ?_) ?_
    · rw [z2 13 (by decide), aU_s]
    · show aE d 170 0 [.ref 6, .int (nI i)] [] _ = _
      rw [b170_0, f88, d1, in1 hi hn]
      simp only [aBi]
      rw [b170_8, if_neg (by decide), e67]
      simp only [aBi]
      rw [b170_35]
    · rw [hJ]
      show aE d 208 0 [.ref 46, .int (nI i)] [] _ = _
      rw [b208_0, f206, o13 _ (by decide), F1 46 (by decide), d2, in_i hi hn]
      simp only [aBi]
      rw [b208_10, if_neg (by decide), z3]
      simp only [aBi]
      rw [b208_22, b208_29]
  · refine tT_no (0 : Int32) H (w298t ?_) ?_
    · show aE d 170 0 [.ref 6, .int a] [] _ = _
      rw [b170_0, f88, d1, out0 ha]
      simp only [aBi]
      rw [b170_8, if_pos rfl]
    · show aE d 208 0 [.ref 46, .int a] [] _ = _
      rw [b208_0, f206, o13 _ (by decide), d2, in_o hn ha]
      simp only [aBi]
      rw [b208_10, if_pos rfl, f207]
      simp only [aBi]
      rw [b208_29]
theorem tie_quarter (H : zInv t n m q I J) (a b : Int32) : tieT .int Int32.toInt64 d 299 210 [.int a, .int b] t g I J sl rd := by
  obtain ⟨hn, d1, d2, d3⟩ := H.2.2.2.1
  rcases kix a (show m < 2 ^ 31 by omega) with ⟨i, hi, rfl⟩ | ha
  · have C0 : aF d 171 [.ref 6, .int (nI i), .int b] (g, I, J, aP1 sl rd 56) = aE d 171 24 [.ref 6, .int (nI i), .int b] [.int b] (g, I, J, aP1 sl rd 56) := by
      show aE d 171 0 [.ref 6, .int (nI i), .int b] [] _ = _
      rw [b171_0, if_neg (nI_pos (by omega)), d1, if_pos (nI_lt hi (by omega))]
    have R0 : ∀ (g : Nat × Nat × Nat) (J : Nat → Nat → Int64), aF d 210 [.ref 46, .int (nI i), .int b] (g, I, J, aP1 sl rd 56) = aE d 210 25 [.ref 46, .int (nI i), .int b] [.int (inI b 0 3)] (g, aU I 46 13 0, J, aP1 sl rd 56) := fun g J => by
      show aE d 210 0 [.ref 46, .int (nI i), .int b] [] _ = _
      rw [b210_0, f181, d2, in_i hi hn]
      simp only [aBi]
      rw [b210_16, if_neg (by decide), f181]
      rfl
    rcases kix b (show 4 < 2 ^ 31 by decide) with ⟨j, hj, rfl⟩ | hb
    · have i5 : inI (nI j) 0 3 = 1 := in_i (k := 4) hj (by decide)
      have R1 : ∀ J : Nat → Nat → Int64, aF d 210 [.ref 46, .int (nI i), .int (nI j)] (g, I, J, aP1 sl rd 56) = some (some (some (.int (I 50 (4 * i + j)))), (g, aU I 46 13 0, J, aP1 sl rd 56)) := fun J => by
        rw [R0, i5, b210_25, if_neg (by decide), show (4 : Int32) * nI i = nI (4 * i) from pk_mul 4 i, nI_add, nI_clamp (by omega), if_neg (t32 (by omega)), b210_45, r13 _ (by decide)]
      have ok : aF d 171 [.ref 6, .int (nI i), .int (nI j)] (g, I, J, aP1 sl rd 56) = some (some (some (.int (I 50 (4 * i + j)))), (g, I, J, aP1 sl rd 56)) → tieT .int Int32.toInt64 d 299 210 [.int (nI i), .int (nI j)] t g I J sl rd := fun e1 =>
        tT_ok (b := I 50 (4 * i + j)) H (Fr_r _ _) (th_F _) (th_46 _) (aU_s ..) (w299r e1) (R1 _)
      obtain ⟨c1, c2, c3, c4, -⟩ := d3 i hi
      rcases (by omega : j = 0 ∨ j = 1 ∨ j = 2 ∨ j = 3) with rfl | rfl | rfl | rfl
      · refine ok (C0.trans ?_)
        show aE d 171 24 [.ref 6, .int (nI i), .int 0] [.int 0] _ = _
        rw [b171_24_c0, nI_clamp (by omega), if_neg (t8 (by omega)), c1]
        rfl
      · refine ok (C0.trans ?_)
        show aE d 171 24 [.ref 6, .int (nI i), .int 1] [.int 1] _ = _
        rw [b171_24_c1, nI_clamp (by omega), if_neg (t8 (by omega)), c2]
      · refine ok (C0.trans ?_)
        show aE d 171 24 [.ref 6, .int (nI i), .int 2] [.int 2] _ = _
        rw [b171_24_c2, nI_clamp (by omega), if_neg (t8 (by omega)), c3]
      · refine ok (C0.trans ?_)
        show aE d 171 24 [.ref 6, .int (nI i), .int 3] [.int 3] _ = _
        rw [b171_24_c3, nI_clamp (by omega), if_neg (t8 (by omega)), c4]
    · refine tT_no (0 : Int32) H (w299t (C0.trans ?_)) ((R0 _ _).trans ?_)
      · rw [s171_24 _ _ _ _ (sw (k := 3) (by decide) hb (by decide)), b171_96]
      · rw [show inI b 0 3 = 0 from sw2 (k := 3) hb (by decide), b210_25, if_pos rfl, f207]
        simp only [aBi]
        rw [b210_45]
  · refine tT_no (0 : Int32) H (w299t ?_) ?_
    · show aE d 171 0 [.ref 6, .int a, .int b] [] _ = _
      rw [b171_0, d1]
      rcases ha with h | h
      · rw [if_pos h]
      · rw [if_neg (c := a < nI m) (by rw [int_lt]; rw [int_le] at h; omega), ite_self]
    · show aE d 210 0 [.ref 46, .int a, .int b] [] _ = _
      rw [b210_0, f181, d2, in_o hn ha]
      simp only [aBi]
      rw [b210_16, if_pos rfl, f207]
      simp only [aBi]
      rw [b210_45]
theorem tie_quarrel (H : zInv t n m q I J) (a b : Int32) : tieT .int Int32.toInt64 d 300 211 [.int a, .int b] t g I J sl rd := by
  obtain ⟨hn, d1, d2, d3⟩ := H.2.2.2.2.1
  have hS := H.2.2.2.2.2.2.1
  rcases kix a (show q < 2 ^ 31 by omega) with ⟨i, hi, rfl⟩ | ha
  · have C0 : aF d 172 [.ref 6, .int (nI i), .int b] (g, I, J, aP1 sl rd 56) = aE d 172 8 [.ref 6, .int (nI i), .int b] [.int 1] (g, I, J, aP1 sl rd 56) := by
      show aE d 172 0 [.ref 6, .int (nI i), .int b] [] _ = _
      rw [b172_0, f100, d1, in1 hi hn]
      rfl
    have R0 : ∀ (g : Nat × Nat × Nat) (J : Nat → Nat → Int64), aF d 211 [.ref 46, .int (nI i), .int b] (g, I, J, aP1 sl rd 56) = aE d 211 25 [.ref 46, .int (nI i), .int b] [.int (inI b 0 4)] (g, aU I 46 13 0, J, aP1 sl rd 56) := fun g J => by
      show aE d 211 0 [.ref 46, .int (nI i), .int b] [] _ = _
      rw [b211_0, f181, d2, in_i hi hn]
      simp only [aBi]
      rw [b211_16, if_neg (by decide), f181]
      rfl
    rcases kix b (show 5 < 2 ^ 31 by decide) with ⟨j, hj, rfl⟩ | hb
    · have i5 : inI (nI j) 0 4 = 1 := in_i (k := 5) hj (by decide)
      have ok : ∀ v : Int32, aF d 172 [.ref 6, .int (nI i), .int (nI j)] (g, I, J, aP1 sl rd 56) = some (some (some (.int v)), (g, I, J, aP1 sl rd 56)) → (∀ J : Nat → Nat → Int64, aF d 211 [.ref 46, .int (nI i), .int (nI j)] (g, I, J, aP1 sl rd 56) = some (some (some (.int v)), (g, aU I 46 13 0, J, aP1 sl rd 56))) → tieT .int Int32.toInt64 d 300 211 [.int (nI i), .int (nI j)] t g I J sl rd := fun v e1 e2 =>
        tT_ok (b := v) H (Fr_r _ _) (th_F _) (th_46 _) (aU_s ..) (w300r e1) (e2 _)
      rw [i5] at R0
      by_cases h4 : j = 4
      · subst h4
        refine ok (I 24 (24 + i)) (C0.trans ?_) (fun J => (R0 g J).trans ?_)
        · show aE d 172 8 [.ref 6, .int (nI i), .int 4] [.int 1] _ = _
          rw [b172_8, if_neg (by decide), if_neg (by decide), if_pos (by decide), if_pos rfl, f101_23 (by omega)]
          simp only [aBi]
          rw [b172_41]
        · show aE d 211 25 [.ref 46, .int (nI i), .int 4] [.int 1] _ = _
          rw [b211_25, if_neg (by decide), if_pos (by decide), nIp30, nI_clamp (by omega), if_neg (t39 (by omega)), r13 _ (by decide), okS_s hS (by omega)]
      · refine ok (I 22 (4 * i + j)) (C0.trans ?_) (fun J => (R0 g J).trans ?_)
        · rw [b172_8, if_neg (by decide), if_neg (nI_pos (by omega)), if_pos (show nI j ≤ 4 from nI_le (b := 4) (by omega) (by decide)), if_neg (show ¬ nI j = 4 from fun e => h4 ((nI_eq (b := 4) (by omega) (by decide)).mp e)), show (4 : Int32) * nI i = nI (4 * i) from pk_mul 4 i, nI_add, nI_clamp (by omega), if_neg (t32 (by omega))]
        · rw [b211_25, if_neg (by decide), if_neg (show ¬ (4 : Int32) ≤ nI j from nI_ge (b := 4) (by omega) (by decide)), show (4 : Int32) * nI i = nI (4 * i) from pk_mul 4 i, nI_add, nI_clamp (by omega), if_neg (t32 (by omega)), r13 _ (by decide), (d3 (4 * i + j) (by omega)).1]
    · refine tT_no (0 : Int32) H (w300t (C0.trans ?_)) ((R0 _ _).trans ?_)
      · rw [b172_8, if_neg (by decide)]
        rcases hb with h | h
        · rw [if_pos h]
        · have e5 : (nI (4 + 1)).toInt = 5 := rfl
          have e4 : (4 : Int32).toInt = 4 := rfl
          have h : (nI (4 + 1)).toInt ≤ b.toInt := by rw [int_le] at h; exact h
          rw [e5] at h
          rw [if_neg (c := b ≤ 4) (by rw [int_le, e4]; omega), ite_self]
      · rw [show inI b 0 4 = 0 from sw2 (k := 4) hb (by decide), b211_25, if_pos rfl, f207]
        simp only [aBi]
        rw [b211_32]
  · refine tT_no (0 : Int32) H (w300t ?_) ?_
    · show aE d 172 0 [.ref 6, .int a, .int b] [] _ = _
      rw [b172_0, f100, d1, out0 ha]
      simp only [aBi]
      rw [b172_8, if_pos rfl]
    · show aE d 211 0 [.ref 46, .int a, .int b] [] _ = _
      rw [b211_0, f181, d2, in_o hn ha]
      simp only [aBi]
      rw [b211_16, if_pos rfl, f207]
      simp only [aBi]
      rw [b211_32]
theorem tie_club (H : zInv t n m q I J) (a b : Int32) : tieT .int Int32.toInt64 d 301 212 [.int a, .int b] t g I J sl rd := by
  obtain ⟨hn, d1, d2, d3⟩ := H.2.2.1
  obtain ⟨hm, m1, m2, m3⟩ := H.2.2.2.1
  have hS := H.2.2.2.2.2.2.1
  rcases isC_ix a with ha | ⟨c, hc, rfl⟩
  · refine tT_no (0 : Int32) H (w301t ?_) ?_
    · show aE d 173 0 [.ref 6, .int a, .int b] [] _ = _
      rw [b173_0, f75]
      simp only [aBi]
      rw [b173_4, if_pos ha]
    · show aE d 212 0 [.ref 46, .int a, .int b] [] _ = _
      rw [b212_0, f213]
      simp only [aBi]
      rw [b212_9, if_pos ha, f207]
      simp only [aBi]
      rw [b212_25]
  · have C0 : aF d 173 [.ref 6, .int (nI c), .int b] (g, I, J, aP1 sl rd 56) = aE d 173 16 [.ref 6, .int (nI c), .int b] [.int b] (g, I, J, aP1 sl rd 56) := by
      show aE d 173 0 [.ref 6, .int (nI c), .int b] [] _ = _
      rw [b173_0, f75, isC_n hc]
      simp only [aBi]
      rw [b173_4, if_neg (by decide)]
    have R0 : ∀ (g : Nat × Nat × Nat) (J : Nat → Nat → Int64), aF d 212 [.ref 46, .int (nI c), .int b] (g, I, J, aP1 sl rd 56) = aE d 212 18 [.ref 46, .int (nI c), .int b] [.int (inI b 0 5)] (g, aU I 46 13 0, J, aP1 sl rd 56) := fun g J => by
      show aE d 212 0 [.ref 46, .int (nI c), .int b] [] _ = _
      rw [b212_0, f213, isC_n hc]
      simp only [aBi]
      rw [b212_9, if_neg (by decide), f181]
      rfl
    rcases kix b (show 6 < 2 ^ 31 by decide) with ⟨j, hj, rfl⟩ | hb
    · have i5 : inI (nI j) 0 5 = 1 := in_i (k := 6) hj (by decide)
      have ok : ∀ v : Int32, aF d 173 [.ref 6, .int (nI c), .int (nI j)] (g, I, J, aP1 sl rd 56) = some (some (some (.int v)), (g, I, J, aP1 sl rd 56)) → (∀ J : Nat → Nat → Int64, aF d 212 [.ref 46, .int (nI c), .int (nI j)] (g, I, J, aP1 sl rd 56) = some (some (some (.int v)), (g, aU I 46 13 0, J, aP1 sl rd 56))) → tieT .int Int32.toInt64 d 301 212 [.int (nI c), .int (nI j)] t g I J sl rd := fun v e1 e2 =>
        tT_ok (b := v) H (Fr_r _ _) (th_F _) (th_46 _) (aU_s ..) (w301r e1) (e2 _)
      rw [i5] at R0
      have f214' : ∀ J : Nat → Nat → Int64, aF d 214 [.ref 46, .ref 47, .int (nI c)] (g, aU I 46 13 0, J, aP1 sl rd 56) = some (some (some (.int (bs (fun i => decide (I 24 (8 + i) = nI c)) n))), (g, aU I 46 13 0, J, aP1 sl rd 56)) := fun J => by
        rw [f214 (n := n) (by rw [o13 _ (by decide)]; exact d2) hn, r13 _ (by decide)]
        rw [bs_congr (p := fun i => decide (I 47 (6 + i) = nI c)) (q := fun i => decide (I 24 (8 + i) = nI c)) (fun i hi => by rw [okS_l hS (by omega)])]
      have f215' : ∀ J : Nat → Nat → Int64, aF d 215 [.ref 46, .int (nI c)] (g, aU I 46 13 0, J, aP1 sl rd 56) = some (some (some (.int (bs (fun i => decide (I 19 i = nI c)) m))), (g, aU I 46 13 0, J, aP1 sl rd 56)) := fun J => by
        rw [f215 (n := m) (by rw [o13 _ (by decide)]; exact m2) hm, r13 _ (by decide)]
        rw [bs_congr (p := fun i => decide (I 50 (4 * i + 1) = nI c)) (q := fun i => decide (I 19 i = nI c)) (fun i hi => by rw [(m3 i hi).2.1])]
      have f216' : ∀ (J : Nat → Nat → Int64) (x : Int32), aF d 216 [.ref 46, .int x] (g, aU I 46 13 0, J, aP1 sl rd 56) = some (some (some (.int (sm (fun i => hasT x (nI i)) (fun i => I 18 i) m))), (g, aU I 46 13 0, J, aP1 sl rd 56)) := fun J x => by
        rw [f216 (n := m) (by rw [o13 _ (by decide)]; exact m2) hm, r13 _ (by decide)]
        rw [sm_congr (p := fun i => hasT x (nI i)) (q := fun i => hasT x (nI i)) (x := fun i => I 50 (4 * i)) (y := fun i => I 18 i) (fun _ _ => rfl) (fun i hi => (m3 i hi).1.symm)]
      have R3 : ∀ (J : Nat → Nat → Int64) (k : Nat), k < 3 → aE d 212 18 [.ref 46, .int (nI c), .int (nI k)] [.int 1] (g, aU I 46 13 0, J, aP1 sl rd 56) = some (some (some (.int (I 24 (2 * k + c)))), (g, aU I 46 13 0, J, aP1 sl rd 56)) := fun J k hk => by
        rw [b212_18, if_neg (by decide), if_neg (show ¬ (3 : Int32) ≤ nI k from nI_ge (b := 3) hk (by decide)), show (2 : Int32) * nI k = nI (2 * k) from pk_mul 2 k, nI_add, nI_clamp (by omega), if_neg (t39 (by omega)), r13 _ (by decide), okS_c hS (by omega)]
      rcases (by omega : j = 0 ∨ j = 1 ∨ j = 2 ∨ j = 3 ∨ j = 4 ∨ j = 5) with rfl | rfl | rfl | rfl | rfl | rfl
      · refine ok (I 24 (2 * 0 + c)) (C0.trans ?_) (fun J => (R0 g J).trans (R3 J 0 (by decide)))
        show aE d 173 16 [.ref 6, .int (nI c), .int 0] [.int 0] _ = _
        rw [b173_16_c0, f72_23 hc]
        simp only [aBi]
        rw [b173_64, show 2 * 0 + c = c by omega]
      · refine ok (I 24 (2 * 1 + c)) (C0.trans ?_) (fun J => (R0 g J).trans (R3 J 1 (by decide)))
        show aE d 173 16 [.ref 6, .int (nI c), .int 1] [.int 1] _ = _
        rw [b173_16_c1, f73_23 hc]
        simp only [aBi]
        rw [b173_73]
      · refine ok (I 24 (2 * 2 + c)) (C0.trans ?_) (fun J => (R0 g J).trans (R3 J 2 (by decide)))
        show aE d 173 16 [.ref 6, .int (nI c), .int 2] [.int 2] _ = _
        rw [b173_16_c2, f174 hc]
        simp only [aBi]
        rw [b173_82]
      · refine ok (bs (fun i => decide (I 24 (8 + i) = nI c)) n) (C0.trans ?_) (fun J => (R0 g J).trans ?_)
        · show aE d 173 16 [.ref 6, .int (nI c), .int 3] [.int 3] _ = _
          rw [b173_16_c3, f117 d1 hn]
          simp only [aBi]
          rw [b173_95]
        · show aE d 212 18 [.ref 46, .int (nI c), .int 3] [.int 1] _ = _
          rw [b212_18, if_neg (by decide), if_pos (by decide), if_pos rfl, f214']
          simp only [aBi]
          rw [b212_56, b212_81]
      · refine ok (bs (fun i => decide (I 19 i = nI c)) m) (C0.trans ?_) (fun J => (R0 g J).trans ?_)
        · show aE d 173 16 [.ref 6, .int (nI c), .int 4] [.int 4] _ = _
          rw [b173_16_c4, f175 m1 hm]
          simp only [aBi]
          rw [b173_104]
        · show aE d 212 18 [.ref 46, .int (nI c), .int 4] [.int 1] _ = _
          rw [b212_18, if_neg (by decide), if_pos (by decide), if_neg (by decide), if_pos rfl, f215']
          simp only [aBi]
          rw [b212_69, b212_81]
      · refine ok (sm (fun i => hasT (bs (fun i => decide (I 19 i = nI c)) m) (nI i)) (fun i => I 18 i) m) (C0.trans ?_) (fun J => (R0 g J).trans ?_)
        · show aE d 173 16 [.ref 6, .int (nI c), .int 5] [.int 5] _ = _
          rw [b173_16_c5, f175 m1 hm]
          simp only [aBi]
          rw [b173_117, f135 m1 hm]
          simp only [aBi]
          rw [b173_120]
        · show aE d 212 18 [.ref 46, .int (nI c), .int 5] [.int 1] _ = _
          rw [b212_18, if_neg (by decide), if_pos (by decide), if_neg (by decide), if_neg (by decide), f215']
          simp only [aBi]
          rw [b212_78, f216']
          simp only [aBi]
          rw [b212_81]
    · refine tT_no (0 : Int32) H (w301t (C0.trans ?_)) ((R0 _ _).trans ?_)
      · rw [s173_16 _ _ _ _ (sw (k := 5) (by decide) hb (by decide)), b173_121]
      · rw [show inI b 0 5 = 0 from sw2 (k := 5) hb (by decide), b212_18, if_pos rfl, f207]
        simp only [aBi]
        rw [b212_25]
theorem tie_row (H : zInv t n m q I J) (a : Int32) : tieT .long (fun x => x) d 302 295 [.int a] t g I J sl rd := by
  obtain ⟨k, hk, r1, r2, r3⟩ := H.2.1
  rcases kix a (show k < 2 ^ 31 by omega) with ⟨i, hi, rfl⟩ | ha
  · refine tT_ok (b := J 13 i) (I1 := I) (I2 := aU I 46 13 0) (rd2 := rd) H (Fr_r _ _) (th_F _) (th_46 _) (aU_s ..) (w302r ?_) ?_
    · show aE d 176 0 [.ref 6, .int (nI i)] [] _ = _
      rw [b176_0, if_neg (nI_pos (by omega)), r1, if_pos (nI_lt hi (by omega)), nI_clamp (by omega), if_neg (t8 (by omega))]
    · show aE d 295 0 [.ref 46, .int (nI i)] [] _ = _
      rw [b295_0, f181, r2, in_i hi hk]
      simp only [aBi]
      rw [b295_16, if_neg (by decide), nI_clamp (by omega), if_neg (by rintro (h | h); exact nI_pos (by omega) h; omega), aU_r _ _ (show 53 ≠ 67 by decide), r3 i hi]
  · refine tT_no (0 : Int64) H (w302t ?_) ?_
    · show aE d 176 0 [.ref 6, .int a] [] _ = _
      rw [b176_0, r1]
      rcases ha with h | h
      · rw [if_pos h]
      · rw [if_neg (c := a < nI k) (by rw [int_lt]; rw [int_le] at h; omega), ite_self]
    · show aE d 295 0 [.ref 46, .int a] [] _ = _
      rw [b295_0, f181, r2, in_o hk ha]
      simp only [aBi]
      rw [b295_16, if_pos rfl, f207]
      simp only [aBi]
      rw [b295_32]
      rfl
