/-! SOUNDNESS, 10: every run of the interpreter is the machine's -/
theorem stp_ok {rec : Rec} (hr : OkR rec) {i : Instr} {k m pc : Nat} {ls st : Vs} {σ : Sto} {r : Option Value} {σ' : Sto} (hd : decode (mco m) pc = .ok (i, k)) (h : stp rec i k m pc ls st σ = some (r, σ')) : Gm m pc ls st σ r σ' := by
  unfold stp at h
  split at h
  · exact ok_iload_n hr hd h
  · exact ok_iload hr hd h
  · exact ok_lload_n hr hd h
  · exact ok_lload hr hd h
  · exact ok_aload_n hr hd h
  · exact ok_aload hr hd h
  · exact ok_istore_n hr hd h
  · exact ok_istore hr hd h
  · exact ok_lstore_n hr hd h
  · exact ok_lstore hr hd h
  · exact ok_astore_n hr hd h
  · exact ok_astore hr hd h
  · exact ok_iconst hr hd h
  · exact ok_bipush hr hd h
  · exact ok_sipush hr hd h
  · exact ok_lconst hr hd h
  · exact ok_ldc hr hd h
  · exact ok_ldc_w hr hd h
  · exact ok_ldc2_w hr hd h
  · exact ok_iinc hr hd h
  · exact ok_iadd hr hd h
  · exact ok_isub hr hd h
  · exact ok_imul hr hd h
  · exact ok_iand hr hd h
  · exact ok_ior hr hd h
  · exact ok_ixor hr hd h
  · exact ok_ishl hr hd h
  · exact ok_ishr hr hd h
  · exact ok_iushr hr hd h
  · exact ok_irem hr hd h
  · exact ok_ladd hr hd h
  · exact ok_lmul hr hd h
  · exact ok_ldiv hr hd h
  · exact ok_lrem hr hd h
  · exact ok_lcmp hr hd h
  · exact ok_i2l hr hd h
  · exact ok_i2b hr hd h
  · exact ok_i2c hr hd h
  · exact ok_dup hr hd h
  · exact ok_dup2 hr hd h
  · exact ok_pop hr hd h
  · exact ok_ifCond hr hd h
  · exact ok_if_icmp hr hd h
  · exact ok_goto hr hd h
  · exact ok_tableswitch hr hd h
  · exact ok_getfield hr hd h
  · exact ok_putfield hr hd h
  · exact ok_getstatic hr hd h
  · exact ok_iaload hr hd h
  · exact ok_baload hr hd h
  · exact ok_iastore hr hd h
  · exact ok_bastore hr hd h
  · exact ok_aaload hr hd h
  · exact ok_aastore hr hd h
  · exact ok_arraylength hr hd h
  · exact ok_new hr hd h
  · exact ok_newarray hr hd h
  · exact ok_anewarray hr hd h
  · exact ok_multianewarray hr hd h
  · exact ok_invokevirtual hr hd h
  · exact ok_invokestatic hr hd h
  · exact ok_invokespecial hr hd h
  · exact ok_ireturn hd h
  · exact ok_lreturn hd h
  · exact ok_areturn hd h
  · exact ok_return hd h
  · cases h
theorem snd (f : Nat) : OkR (run f) := by
  induction f with
  | zero => intro m pc ls st σ r σ' h; cases h
  | succ f ih =>
    intro m pc ls st σ r σ' h
    simp only [run] at h
    split at h
    · rename_i i k hd
      exact stp_ok ih hd h
    · cases h
