/-! the dispatch, for frames that may throw -/
section Snd4X
variable {p : Program} {l : Launch} {e : Env} {R : Room} {s : State} {m : MethodId} {args : Array Value} {below : List Frame} {meth : Method} {c : Code} {Q : State → Prop} {G : aEnv} {d k : Nat} {g0 : Nat × Nat} {C : Nat → Nat → List Value → aS → Option aO} {K : Nat → List Value → List Value → aS → Option aO} {o : aO} {i : Instr} {len t a b : Nat} {z : Int} {pc : Nat} {L st : List Value} {σ : aS}
set_option maxHeartbeats 4000000 in
theorem aAct_sndX (X : aFx p R s m args meth c G d k g0 o) (hK : aKok p l e R s m args below meth c Q G k g0 K o) (hC : aCok l G C) (hE : aEnd p l e R s m args below meth c Q G k g0 o) (hnw : ∀ ix, i = .new ix → t = 13 → o = (none, aNew σ 0 6) → aGo p l e R s m args below meth c Q G k g0 pc L st σ) (hd : decode (aNm k).2.1 pc = .ok (i, len)) (hl : aIl k pc i len t a b z = true) (hm : aIm (pc, i, len, t, a, b, z) = true) (h : aAct C K d k i len t a b z pc L st σ = some o) : aGo p l e R s m args below meth c Q G k g0 pc L st σ := by
  have l3 : ∀ {x : Bool}, (Nat.beq len 3 && x) = true → len = 3 ∧ x = true := fun q => by
    rw [Bool.and_eq_true] at q
    exact ⟨Nat.eq_of_beq_eq_true q.1, q.2⟩
  cases i with
  | iconst n => exact as_iconst X hK hd hl h
  | bipush n => exact as_bipush X hK hd hl h
  | sipush n => exact as_sipush X hK hd hl h
  | lconst n => exact as_lconst X hK hd hl h
  | iload_n n => exact as_iload_n X hK hd hl h
  | iload n => exact as_iload X hK hd hl h
  | lload_n n => exact as_lload_n X hK hd hl h
  | lload n => exact as_lload X hK hd hl h
  | aload_n n => exact as_aload_n X hK hd hl h
  | aload n => exact as_aload X hK hd hl h
  | istore_n n => exact as_istore_n X hK hd hl h
  | istore n => exact as_istore X hK hd hl h
  | lstore_n n => exact as_lstore_n X hK hd hl h
  | lstore n => exact as_lstore X hK hd hl h
  | astore_n n => exact as_astore_n X hK hd hl h
  | astore n => exact as_astore X hK hd hl h
  | iinc j n => exact as_iinc X hK hd hl h
  | iadd => exact as_iadd X hK hd hl h
  | isub => exact as_isub X hK hd hl h
  | imul => exact as_imul X hK hd hl h
  | iand => exact as_iand X hK hd hl h
  | ior => exact as_ior X hK hd hl h
  | ixor => exact as_ixor X hK hd hl h
  | ishl => exact as_ishl X hK hd hl h
  | ishr => exact as_ishr X hK hd hl h
  | iushr => exact as_iushr X hK hd hl h
  | idiv => exact as_idiv X hK hd hl h
  | irem => exact as_irem X hK hd hl h
  | ldiv => exact as_ldiv X hK hd hl h
  | lrem => exact as_lrem X hK hd hl h
  | ladd => exact as_ladd X hK hd hl h
  | lmul => exact as_lmul X hK hd hl h
  | lcmp => exact as_lcmp X hK hd hl h
  | ineg => exact as_ineg X hK hd hl h
  | i2l => exact as_i2l X hK hd hl h
  | l2i => exact as_l2i X hK hd hl h
  | i2b => exact as_i2b X hK hd hl h
  | i2s => exact as_i2s X hK hd hl h
  | i2c => exact as_i2c X hK hd hl h
  | dup => exact as_dup X hK hd hl h
  | pop => exact as_pop X hK hd hl h
  | dup_x1 => exact as_dup_x1 X hK hd hl h
  | dup2 => exact as_dup2 X hK hd hl h
  | goto n => exact as_goto X hK hd hl h
  | tableswitch df lo hi offs => exact as_tableswitch X hK hd hl h
  | lookupswitch df ps => exact as_lookupswitch X hK hd hl h
  | getfield n => exact as_getfield X hK hd hl h
  | putfield n => exact as_putfield X hK hd hl h
  | iaload => exact as_iaload X hK hd hl h
  | baload => exact as_baload X hK hd hl h
  | caload => exact as_caload X hK hd hl h
  | laload => exact as_laload X hK hd hl h
  | iastore => exact as_iastore X hK hd hl h
  | bastore => exact as_bastore X hK hd hl h
  | castore => exact as_castore X hK hd hl h
  | lastore => exact as_lastore X hK hd hl h
  | arraylength => exact as_arraylength X hK hd hl h
  | ldc n => exact as_ldc X hK hd hl h
  | ldc_w n => exact as_ldc_w X hK hd hl h
  | ldc2_w n => exact as_ldc2_w X hK hd hl h
  | getstatic n => exact as_getstatic X hK hd hl h
  | return_ => exact as_return hE hd hl h
  | lreturn => exact as_lreturn hE hd hl h
  | ireturn => exact as_ireturn hE hd hl h
  | ifCond cd off =>
    cases cd with
    | eq => exact as_if_eq X hK hd hl h
    | ne => exact as_if_ne X hK hd hl h
    | lt => exact as_if_lt X hK hd hl h
    | ge => exact as_if_ge X hK hd hl h
    | gt => exact as_if_gt X hK hd hl h
    | le => exact as_if_le X hK hd hl h
  | if_icmp cd off =>
    cases cd with
    | eq => exact as_icmp_eq X hK hd hl h
    | ne => exact as_icmp_ne X hK hd hl h
    | lt => exact as_icmp_lt X hK hd hl h
    | ge => exact as_icmp_ge X hK hd hl h
    | gt => exact as_icmp_gt X hK hd hl h
    | le => exact as_icmp_le X hK hd hl h
  | newarray ty =>
    cases ty with
    | byte => exact as_newarray_byte X hK hd hl h
    | char => exact as_newarray_char X hK hd hl h
    | int => exact as_newarray_int X hK hd hl h
    | long => exact as_newarray_long X hK hd hl h
    | boolean => exact as_newarray_boolean X hK hd hl h
    | float => cases hm
    | double => cases hm
    | short => cases hm
  | new ix =>
    have h' := h
    unfold aAct at h'
    dsimp only at h'
    split at h'
    · exact as_new12 X hK hd hl h
    · cases h'
      exact hnw ix rfl rfl rfl
    · cases h'
  | invokestatic ix =>
    have h' := h
    unfold aAct at h'
    dsimp only at h'
    have hl' := hl
    unfold aIl at hl'
    dsimp only at hl'
    obtain ⟨e3, hq'⟩ := l3 hl'
    subst e3
    split at h'
    · exact as_static X hK hC hm hd hq' h'
    · exact as_staticN X hK hC hm hd hq' h'
    · exact as_copy X hK hd hl h
    · exact as_mmax X hK hd hl h
    · exact as_mmin X hK hd hl h
    · cases h'
  | invokevirtual ix =>
    have h' := h
    unfold aAct at h'
    dsimp only at h'
    have hl' := hl
    unfold aIl at hl'
    dsimp only at hl'
    obtain ⟨e3, hq'⟩ := l3 hl'
    subst e3
    split at h'
    · split at h'
      · rename_i hrc
        obtain ⟨hl1, hl2⟩ := (Bool.and_eq_true _ _).mp hq'
        exact as_virtual X hK hC hm hd hl1 hl2 hrc h'
      · cases h'
    · cases hm
    · cases h'
  | invokespecial ix =>
    have h' := h
    unfold aAct at h'
    dsimp only at h'
    have hl' := hl
    unfold aIl at hl'
    dsimp only at hl'
    obtain ⟨e3, hq'⟩ := l3 hl'
    subst e3
    split at h'
    · split at h'
      · rename_i hrc
        obtain ⟨hl1, hl2⟩ := (Bool.and_eq_true _ _).mp hq'
        exact as_special X hK hC hm hd (Or.inl hl1) hl2 hrc h'
      · cases h'
    · split at h'
      · rename_i hrc
        obtain ⟨hl1, hl2⟩ := (Bool.and_eq_true _ _).mp hq'
        exact as_special X hK hC hm hd (Or.inr hl1) hl2 hrc h'
      · cases h'
    · exact as_objInit X hK hd hl h
    · cases h'
  | _ => cases h
end Snd4X
