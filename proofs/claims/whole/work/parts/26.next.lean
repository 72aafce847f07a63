section NEXT
variable {p : Program} {l : Launch} {e : Env} {R : Room} {s : State} {m : MethodId} {args : Array Value} {below : List Frame} {meth : Method} {c : Code} {Q : State → Prop} {D : va_G} {tA : Nat → ClassId} {lo k : Nat} {ad0 : Nat → Nat} {n0 : Nat}
variable {pc pc' : Nat} {ls ls' st st' : List Value} {bc bs bc' bs' : Nat} {hp hp' : Hp}
/-- the decode rows, all of them -/
def Dec : Prop := ∀ (k pc : Nat) (i : Instr), ins k pc = some i → decode (mB k) pc = .ok (i, ilen i)
theorem no_ret {i : Instr} (hi : i = .ireturn ∨ i = .lreturn ∨ i = .freturn ∨ i = .dreturn ∨ i = .areturn ∨ i = .return_) (h : act k i pc ls st bc bs hp = some (.inl (pc', ls', st', bc', bs', hp'))) : False := by
  rcases hi with rfl | rfl | rfl | rfl | rfl | rfl
  all_goals
    cases st with
    | nil => first | exact nos h | (simp only [act] at h; split at h <;> first | exact nos h | cases h)
    | cons v st =>
      cases st with
      | cons w st => cases v <;> exact nos h
      | nil => cases v <;> first | exact nos h | (simp only [act] at h; split at h <;> first | exact nos h | cases h)
theorem no_virt {x : Nat} (h : act k (.invokevirtual x) pc ls st bc bs hp = some (.inl (pc', ls', st', bc', bs', hp'))) : False := by
  simp only [act] at h
  split at h
  · split at h
    · split at h
      · cases h
      · exact nos h
    · exact nos h
  · exact nos h
theorem snd_next (hdec : Dec) {i : Instr} (hC : Cx p l R s m meth c k lo D tA) (hi : ins k pc = some i) (h : act k i pc ls st bc bs hp = some (.inl (pc', ls', st', bc', bs', hp'))) (hk : Wg p l e R s m args below meth c Q D tA lo k ad0 n0 pc' ls' st' bc' bs' hp') : Wg p l e R s m args below meth c Q D tA lo k ad0 n0 pc ls st bc bs hp := by
  have hd := hdec k pc i hi
  cases i with
  | iadd => exact n_iadd hC hd h hk
  | isub => exact n_isub hC hd h hk
  | imul => exact n_imul hC hd h hk
  | iand => exact n_iand hC hd h hk
  | ishl => exact n_ishl hC hd h hk
  | ineg => exact n_ineg hC hd h hk
  | ladd => exact n_ladd hC hd h hk
  | lcmp => exact n_lcmp hC hd h hk
  | i2l => exact n_i2l hC hd h hk
  | i2c => exact n_i2c hC hd h hk
  | i2f => exact n_i2f hC hd h hk
  | i2d => exact n_i2d hC hd h hk
  | f2i => exact n_f2i hC hd h hk
  | d2i => exact n_d2i hC hd h hk
  | idiv => exact n_idiv hC hd h hk
  | irem => exact n_irem hC hd h hk
  | f2d => exact n_f2d hC hd h hk
  | fadd => exact n_fadd hC hd h hk
  | fsub => exact n_fsub hC hd h hk
  | fmul => exact n_fmul hC hd h hk
  | fdiv => exact n_fdiv hC hd h hk
  | dmul => exact n_dmul hC hd h hk
  | ddiv => exact n_ddiv hC hd h hk
  | dup => exact n_dup hC hd h hk
  | pop => exact n_pop hC hd h hk
  | dup2 => exact n_dup2 hC hd h hk
  | iaload => exact n_iaload hC hd h hk
  | baload => exact n_baload hC hd h hk
  | faload => exact n_faload hC hd h hk
  | laload => exact n_laload hC hd h hk
  | daload => exact n_daload hC hd h hk
  | aaload => exact n_aaload hC hd h hk
  | iastore => exact n_iastore hC hd h hk
  | bastore => exact n_bastore hC hd h hk
  | fastore => exact n_fastore hC hd h hk
  | lastore => exact n_lastore hC hd h hk
  | dastore => exact n_dastore hC hd h hk
  | aastore => exact n_aastore hC hd h hk
  | arraylength => exact n_alen hC hd h hk
  | iconst a => exact n_iconst hC hd h hk
  | bipush a => exact n_bipush hC hd h hk
  | sipush a => exact n_sipush hC hd h hk
  | lconst a => exact n_lconst hC hd h hk
  | fcmp a => exact n_fcmp hC hd h hk
  | dcmp a => exact n_dcmp hC hd h hk
  | aload_n a => exact n_aload_n hC hd h hk
  | aload a => exact n_aload hC hd h hk
  | iload_n a => exact n_iload_n hC hd h hk
  | iload a => exact n_iload hC hd h hk
  | fload_n a => exact n_fload_n hC hd h hk
  | fload a => exact n_fload hC hd h hk
  | dload_n a => exact n_dload_n hC hd h hk
  | dload a => exact n_dload hC hd h hk
  | lload_n a => exact n_lload_n hC hd h hk
  | istore_n a => exact n_istore_n hC hd h hk
  | istore a => exact n_istore hC hd h hk
  | astore_n a => exact n_astore_n hC hd h hk
  | astore a => exact n_astore hC hd h hk
  | fstore_n a => exact n_fstore_n hC hd h hk
  | fstore a => exact n_fstore hC hd h hk
  | dstore_n a => exact n_dstore_n hC hd h hk
  | dstore a => exact n_dstore hC hd h hk
  | lstore_n a => exact n_lstore_n hC hd h hk
  | goto a => exact n_goto hC hd h hk
  | getfield a => exact n_getfield hC hd h hk
  | putfield a => exact n_putfield hC hd h hk
  | new a => exact n_new hC hd h hk
  | newarray a => exact n_newarray hC hd h hk
  | anewarray a => exact n_anewarray hC hd h hk
  | ldc a => exact n_ldc hC hd h hk
  | ldc2_w a => exact n_ldc2 hC hd h hk
  | invokespecial a => exact n_special hC hd h hk
  | invokestatic a => exact n_static hC hd h hk
  | iinc a b => exact n_iinc hC hd h hk
  | tableswitch a b d f => exact n_tsw hC hd h hk
  | fconst f =>
    obtain ⟨n, hn⟩ := f
    rcases n with _ | _ | _ | n
    · exact n_fconst0 hC hd h hk
    · exact nos h
    · exact n_fconst2 hC hd h hk
    · omega
  | dconst f =>
    obtain ⟨n, hn⟩ := f
    rcases n with _ | _ | n
    · exact n_dconst0 hC hd h hk
    · exact n_dconst1 hC hd h hk
    · omega
  | ifCond cn off =>
    cases cn with
    | eq => exact n_ifCond_eq hC hd h hk
    | ne => exact n_ifCond_ne hC hd h hk
    | lt => exact n_ifCond_lt hC hd h hk
    | ge => exact n_ifCond_ge hC hd h hk
    | gt => exact n_ifCond_gt hC hd h hk
    | le => exact n_ifCond_le hC hd h hk
  | if_icmp cn off =>
    cases cn with
    | eq => exact n_if_icmp_eq hC hd h hk
    | ne => exact n_if_icmp_ne hC hd h hk
    | lt => exact n_if_icmp_lt hC hd h hk
    | ge => exact n_if_icmp_ge hC hd h hk
    | gt => exact n_if_icmp_gt hC hd h hk
    | le => exact n_if_icmp_le hC hd h hk
  | ireturn => exact (no_ret (by simp) h).elim
  | lreturn => exact (no_ret (by simp) h).elim
  | freturn => exact (no_ret (by simp) h).elim
  | dreturn => exact (no_ret (by simp) h).elim
  | areturn => exact (no_ret (by simp) h).elim
  | return_ => exact (no_ret (by simp) h).elim
  | invokevirtual a => exact (no_virt h).elim
  | _ => exact nos h
end NEXT
