/-! EACH STEP, whichever; and what a step keeps. -/
section PMA
variable {p : Program} {l : Launch} {e : Env} {R : Room} {s : State} {m : MethodId} {args : Array Value} {below : List Frame} {meth : Method} {c : Code} {Q : State → Prop}
variable {k : Nat} {sa : Nat → Value} {base : Nat} {D : va_G} {cs : pm_cs3} {L : Nat} {xs : Nat → Int32}
theorem pm_stepAll (hC : pm_Ctx p s m args meth c k sa base D cs L xs) (hsa : pm_rvok sa) (h0 : sa 0 = .null) (hR : 1 ≤ R.frames ∧ 64 ≤ R.locals) {pc len a b : Nat} {cc : Int} {ins : Instr} {lo st : List Value} {H : pm_H} {o : pm_out} {Hp : Heap} {locs : List Loc} {ls : Array Slot} {cells slots : Nat}
    (hdg : decode (pm_by k) pc = .ok (ins, len)) (hln : pm_lnc (pc, ins, len, a, b, cc) = true) (hok : pm_okI k (pc, ins, len, a, b, cc) = true) (hs : pm_step (pc, ins, len, a, b, cc) (lo, st, H) = some o) (hAt : pm_At s k sa base D cs L xs (lo, st, H) Hp locs ls)
    (hct : s.heap.size + cells ≤ base + (H.1.2.2.1 - 8)) (hrm : cells + ((pm_oH o).1.2.2.1 - H.1.2.2.1) ≤ R.cells ∧ slots + ((pm_oH o).1.2.2.2 - H.1.2.2.2) ≤ R.slots)
    (K : pm_K p l e R s m args below meth c Q k sa base D cs L xs (lo, st, H) cells slots (pc + len) o) : W p l e R s m args below meth c Hp locs cells slots Q (F0 m pc ls (st.map (pm_cv (pm_rv sa base)))) := by
  cases ins with
  | iload_n kk => exact pm_S_iload_n hC hsa h0 hR hdg hln hok hs hAt hct hrm K
  | iload kk => exact pm_S_iload hC hsa h0 hR hdg hln hok hs hAt hct hrm K
  | lload_n kk => exact pm_S_lload_n hC hsa h0 hR hdg hln hok hs hAt hct hrm K
  | lload kk => exact pm_S_lload hC hsa h0 hR hdg hln hok hs hAt hct hrm K
  | aload_n kk => exact pm_S_aload_n hC hsa h0 hR hdg hln hok hs hAt hct hrm K
  | aload kk => exact pm_S_aload hC hsa h0 hR hdg hln hok hs hAt hct hrm K
  | istore_n kk => exact pm_S_istore_n hC hsa h0 hR hdg hln hok hs hAt hct hrm K
  | istore kk => exact pm_S_istore hC hsa h0 hR hdg hln hok hs hAt hct hrm K
  | lstore_n kk => exact pm_S_lstore_n hC hsa h0 hR hdg hln hok hs hAt hct hrm K
  | lstore kk => exact pm_S_lstore hC hsa h0 hR hdg hln hok hs hAt hct hrm K
  | astore_n kk => exact pm_S_astore_n hC hsa h0 hR hdg hln hok hs hAt hct hrm K
  | astore kk => exact pm_S_astore hC hsa h0 hR hdg hln hok hs hAt hct hrm K
  | iadd => exact pm_S_iadd hC hsa h0 hR hdg hln hok hs hAt hct hrm K
  | isub => exact pm_S_isub hC hsa h0 hR hdg hln hok hs hAt hct hrm K
  | imul => exact pm_S_imul hC hsa h0 hR hdg hln hok hs hAt hct hrm K
  | iand => exact pm_S_iand hC hsa h0 hR hdg hln hok hs hAt hct hrm K
  | ior => exact pm_S_ior hC hsa h0 hR hdg hln hok hs hAt hct hrm K
  | ixor => exact pm_S_ixor hC hsa h0 hR hdg hln hok hs hAt hct hrm K
  | ishl => exact pm_S_ishl hC hsa h0 hR hdg hln hok hs hAt hct hrm K
  | ishr => exact pm_S_ishr hC hsa h0 hR hdg hln hok hs hAt hct hrm K
  | iushr => exact pm_S_iushr hC hsa h0 hR hdg hln hok hs hAt hct hrm K
  | ladd => exact pm_S_ladd hC hsa h0 hR hdg hln hok hs hAt hct hrm K
  | lsub => exact pm_S_lsub hC hsa h0 hR hdg hln hok hs hAt hct hrm K
  | lmul => exact pm_S_lmul hC hsa h0 hR hdg hln hok hs hAt hct hrm K
  | land => exact pm_S_land hC hsa h0 hR hdg hln hok hs hAt hct hrm K
  | lor => exact pm_S_lor hC hsa h0 hR hdg hln hok hs hAt hct hrm K
  | lxor => exact pm_S_lxor hC hsa h0 hR hdg hln hok hs hAt hct hrm K
  | lshl => exact pm_S_lshl hC hsa h0 hR hdg hln hok hs hAt hct hrm K
  | lshr => exact pm_S_lshr hC hsa h0 hR hdg hln hok hs hAt hct hrm K
  | i2b => exact pm_S_i2b hC hsa h0 hR hdg hln hok hs hAt hct hrm K
  | i2s => exact pm_S_i2s hC hsa h0 hR hdg hln hok hs hAt hct hrm K
  | i2c => exact pm_S_i2c hC hsa h0 hR hdg hln hok hs hAt hct hrm K
  | ineg => exact pm_S_ineg hC hsa h0 hR hdg hln hok hs hAt hct hrm K
  | iconst n => exact pm_S_iconst hC hsa h0 hR hdg hln hok hs hAt hct hrm K
  | bipush n => exact pm_S_bipush hC hsa h0 hR hdg hln hok hs hAt hct hrm K
  | sipush n => exact pm_S_sipush hC hsa h0 hR hdg hln hok hs hAt hct hrm K
  | lconst n => exact pm_S_lconst hC hsa h0 hR hdg hln hok hs hAt hct hrm K
  | goto off => exact pm_S_goto hC hsa h0 hR hdg hln hok hs hAt hct hrm K
  | ifnonnull off => exact pm_S_ifnonnull hC hsa h0 hR hdg hln hok hs hAt hct hrm K
  | ifnull off => exact pm_S_ifnull hC hsa h0 hR hdg hln hok hs hAt hct hrm K
  | lcmp => exact pm_S_lcmp hC hsa h0 hR hdg hln hok hs hAt hct hrm K
  | i2l => exact pm_S_i2l hC hsa h0 hR hdg hln hok hs hAt hct hrm K
  | l2i => exact pm_S_l2i hC hsa h0 hR hdg hln hok hs hAt hct hrm K
  | idiv => exact pm_S_idiv hC hsa h0 hR hdg hln hok hs hAt hct hrm K
  | irem => exact pm_S_irem hC hsa h0 hR hdg hln hok hs hAt hct hrm K
  | pop => exact pm_S_pop hC hsa h0 hR hdg hln hok hs hAt hct hrm K
  | dup => exact pm_S_dup hC hsa h0 hR hdg hln hok hs hAt hct hrm K
  | dup2 => exact pm_S_dup2 hC hsa h0 hR hdg hln hok hs hAt hct hrm K
  | iinc i n => exact pm_S_iinc hC hsa h0 hR hdg hln hok hs hAt hct hrm K
  | ldc i => exact pm_S_ldc hC hsa h0 hR hdg hln hok hs hAt hct hrm K
  | ldc_w i => exact pm_S_ldc_w hC hsa h0 hR hdg hln hok hs hAt hct hrm K
  | ldc2_w i => exact pm_S_ldc2_w hC hsa h0 hR hdg hln hok hs hAt hct hrm K
  | tableswitch d lo2 hi2 offs => exact pm_S_tableswitch hC hsa h0 hR hdg hln hok hs hAt hct hrm K
  | lookupswitch d ps => exact pm_S_lookupswitch hC hsa h0 hR hdg hln hok hs hAt hct hrm K
  | getfield i => exact pm_S_getfield hC hsa h0 hR hdg hln hok hs hAt hct hrm K
  | putfield i => exact pm_S_putfield hC hsa h0 hR hdg hln hok hs hAt hct hrm K
  | getstatic i => exact pm_S_getstatic hC hsa h0 hR hdg hln hok hs hAt hct hrm K
  | iaload => exact pm_S_iaload hC hsa h0 hR hdg hln hok hs hAt hct hrm K
  | baload => exact pm_S_baload hC hsa h0 hR hdg hln hok hs hAt hct hrm K
  | laload => exact pm_S_laload hC hsa h0 hR hdg hln hok hs hAt hct hrm K
  | iastore => exact pm_S_iastore hC hsa h0 hR hdg hln hok hs hAt hct hrm K
  | bastore => exact pm_S_bastore hC hsa h0 hR hdg hln hok hs hAt hct hrm K
  | lastore => exact pm_S_lastore hC hsa h0 hR hdg hln hok hs hAt hct hrm K
  | arraylength => exact pm_S_arraylength hC hsa h0 hR hdg hln hok hs hAt hct hrm K
  | new i => exact pm_S_new hC hsa h0 hR hdg hln hok hs hAt hct hrm K
  | newarray t => exact pm_S_newarray hC hsa h0 hR hdg hln hok hs hAt hct hrm K
  | ireturn => exact pm_S_ireturn hC hsa h0 hR hdg hln hok hs hAt hct hrm K
  | lreturn => exact pm_S_lreturn hC hsa h0 hR hdg hln hok hs hAt hct hrm K
  | return_ => exact pm_S_return_ hC hsa h0 hR hdg hln hok hs hAt hct hrm K
  | ifCond cd off =>
    cases cd with
    | eq => exact pm_S_if_eq hC hsa h0 hR hdg hln hok hs hAt hct hrm K
    | ne => exact pm_S_if_ne hC hsa h0 hR hdg hln hok hs hAt hct hrm K
    | lt => exact pm_S_if_lt hC hsa h0 hR hdg hln hok hs hAt hct hrm K
    | ge => exact pm_S_if_ge hC hsa h0 hR hdg hln hok hs hAt hct hrm K
    | gt => exact pm_S_if_gt hC hsa h0 hR hdg hln hok hs hAt hct hrm K
    | le => exact pm_S_if_le hC hsa h0 hR hdg hln hok hs hAt hct hrm K
  | if_icmp cd off =>
    cases cd with
    | eq => exact pm_S_icmp_eq hC hsa h0 hR hdg hln hok hs hAt hct hrm K
    | ne => exact pm_S_icmp_ne hC hsa h0 hR hdg hln hok hs hAt hct hrm K
    | lt => exact pm_S_icmp_lt hC hsa h0 hR hdg hln hok hs hAt hct hrm K
    | ge => exact pm_S_icmp_ge hC hsa h0 hR hdg hln hok hs hAt hct hrm K
    | gt => exact pm_S_icmp_gt hC hsa h0 hR hdg hln hok hs hAt hct hrm K
    | le => exact pm_S_icmp_le hC hsa h0 hR hdg hln hok hs hAt hct hrm K
  | invokespecial i => exact pm_S_invokespecialO hC hsa h0 hR hdg hln hok hs hAt hct hrm K
  | invokestatic i => exact pm_S_invokestaticC hC hsa h0 hR hdg hln hok hs hAt hct hrm K
  | invokevirtual i => exact pm_S_invokevirtual0 hC hsa h0 hR hdg hln hok hs hAt hct hrm K
  | _ => exact absurd hs (by simp [pm_step])
/-- what a step keeps: the start's cells; the numbers only grow -/
def pm_le (L : Nat) (xs : Nat → Int32) (H H' : pm_H) : Prop := pm_fix L xs H' ∧ H.1.2.2.1 ≤ H'.1.2.2.1 ∧ H.1.2.2.2 ≤ H'.1.2.2.2
theorem pm_keep {pc len a b : Nat} {cc : Int} {ins : Instr} {lo st : List Value} {H : pm_H} {o : pm_out} (hok : pm_okI k (pc, ins, len, a, b, cc) = true) (hs : pm_step (pc, ins, len, a, b, cc) (lo, st, H) = some o) (hf : pm_fix L xs H) : pm_le L xs H (pm_oH o) := by
  have same : pm_le L xs H H := ⟨hf, Nat.le_refl _, Nat.le_refl _⟩
  cases ins with
  | iload_n kk =>
    obtain ⟨v, hv, rfl⟩ := pm_load_inv (show pm_load kk (lo, st, H) = some o from hs)
    exact same
  | iload kk =>
    obtain ⟨v, hv, rfl⟩ := pm_load_inv (show pm_load kk (lo, st, H) = some o from hs)
    exact same
  | lload_n kk =>
    obtain ⟨v, hv, rfl⟩ := pm_loadl_inv (show pm_loadl kk (lo, st, H) = some o from hs)
    exact same
  | lload kk =>
    obtain ⟨v, hv, rfl⟩ := pm_loadl_inv (show pm_loadl kk (lo, st, H) = some o from hs)
    exact same
  | aload_n kk =>
    obtain ⟨v, hv, hr, rfl⟩ := pm_loada_inv (show pm_loada kk (lo, st, H) = some o from hs)
    exact same
  | aload kk =>
    obtain ⟨v, hv, hr, rfl⟩ := pm_loada_inv (show pm_loada kk (lo, st, H) = some o from hs)
    exact same
  | istore_n kk =>
    obtain ⟨v, r, hst, hi, rfl⟩ := pm_stor_inv (show pm_stor kk (lo, st, H) = some o from hs)
    exact same
  | istore kk =>
    obtain ⟨v, r, hst, hi, rfl⟩ := pm_stor_inv (show pm_stor kk (lo, st, H) = some o from hs)
    exact same
  | lstore_n kk =>
    obtain ⟨v, r, hst, hi, rfl⟩ := pm_storl_inv (show pm_storl kk (lo, st, H) = some o from hs)
    exact same
  | lstore kk =>
    obtain ⟨v, r, hst, hi, rfl⟩ := pm_storl_inv (show pm_storl kk (lo, st, H) = some o from hs)
    exact same
  | astore_n kk =>
    obtain ⟨v, r, hst, hi, hr, rfl⟩ := pm_stora_inv (show pm_stora kk (lo, st, H) = some o from hs)
    exact same
  | astore kk =>
    obtain ⟨v, r, hst, hi, hr, rfl⟩ := pm_stora_inv (show pm_stora kk (lo, st, H) = some o from hs)
    exact same
  | iadd =>
    obtain ⟨v, u, r, hst, rfl⟩ := pm_i2_inv hs
    exact same
  | isub =>
    obtain ⟨v, u, r, hst, rfl⟩ := pm_i2_inv hs
    exact same
  | imul =>
    obtain ⟨v, u, r, hst, rfl⟩ := pm_i2_inv hs
    exact same
  | iand =>
    obtain ⟨v, u, r, hst, rfl⟩ := pm_i2_inv hs
    exact same
  | ior =>
    obtain ⟨v, u, r, hst, rfl⟩ := pm_i2_inv hs
    exact same
  | ixor =>
    obtain ⟨v, u, r, hst, rfl⟩ := pm_i2_inv hs
    exact same
  | ishl =>
    obtain ⟨v, u, r, hst, rfl⟩ := pm_i2_inv hs
    exact same
  | ishr =>
    obtain ⟨v, u, r, hst, rfl⟩ := pm_i2_inv hs
    exact same
  | iushr =>
    obtain ⟨v, u, r, hst, rfl⟩ := pm_i2_inv hs
    exact same
  | ladd =>
    obtain ⟨v, u, r, hst, rfl⟩ := pm_l2_inv hs
    exact same
  | lsub =>
    obtain ⟨v, u, r, hst, rfl⟩ := pm_l2_inv hs
    exact same
  | lmul =>
    obtain ⟨v, u, r, hst, rfl⟩ := pm_l2_inv hs
    exact same
  | land =>
    obtain ⟨v, u, r, hst, rfl⟩ := pm_l2_inv hs
    exact same
  | lor =>
    obtain ⟨v, u, r, hst, rfl⟩ := pm_l2_inv hs
    exact same
  | lxor =>
    obtain ⟨v, u, r, hst, rfl⟩ := pm_l2_inv hs
    exact same
  | lshl =>
    obtain ⟨v, u, r, hst, rfl⟩ := pm_ls_inv hs
    exact same
  | lshr =>
    obtain ⟨v, u, r, hst, rfl⟩ := pm_ls_inv hs
    exact same
  | i2b =>
    obtain ⟨u, r, hst, rfl⟩ := pm_i1_inv hs
    exact same
  | i2s =>
    obtain ⟨u, r, hst, rfl⟩ := pm_i1_inv hs
    exact same
  | i2c =>
    obtain ⟨u, r, hst, rfl⟩ := pm_i1_inv hs
    exact same
  | ineg =>
    obtain ⟨u, r, hst, rfl⟩ := pm_i1_inv hs
    exact same
  | getfield i =>
    obtain ⟨q, r, hst, hr, hT, rfl⟩ := pm_get_inv (show pm_get (lo, st, H) a b cc.toNat = some o from hs)
    exact same
  | iaload =>
    obtain ⟨i, q, r, hst, hT, rfl⟩ := pm_ald_inv (show pm_ald (lo, st, H) 1 = some o from hs)
    exact same
  | baload =>
    obtain ⟨i, q, r, hst, hT, rfl⟩ := pm_ald_inv (show pm_ald (lo, st, H) 2 = some o from hs)
    exact same
  | laload =>
    obtain ⟨i, q, r, hst, hT, rfl⟩ := pm_ldl_inv (show pm_ldl (lo, st, H) = some o from hs)
    exact same
  | arraylength =>
    obtain ⟨q, r, hst, h1, h3, rfl⟩ := pm_aln_inv (show pm_aln (lo, st, H) = some o from hs)
    exact same
  | ireturn =>
    obtain ⟨v, hst, rfl⟩ := pm_ret_inv (show pm_ret (lo, st, H) a = some o from hs)
    exact same
  | lreturn =>
    obtain ⟨v, hst, rfl⟩ := pm_retl_inv (show pm_retl (lo, st, H) = some o from hs)
    exact same
  | return_ =>
    obtain ⟨hst, rfl⟩ := pm_retv_inv (show pm_retv (lo, st, H) = some o from hs)
    exact same
  | invokevirtual i =>
    obtain ⟨as, r, hp, hc, hv, rfl⟩ := pm_call_inv (show pm_call (lo, st, H) a b cc.toNat = some o from hs)
    exact same
  | iconst n =>
    obtain rfl := Option.some.inj hs
    exact same
  | bipush n =>
    obtain rfl := Option.some.inj hs
    exact same
  | sipush n =>
    obtain rfl := Option.some.inj hs
    exact same
  | lconst n =>
    obtain rfl := Option.some.inj hs
    exact same
  | goto off =>
    obtain rfl := Option.some.inj hs
    exact same
  | ldc_w i =>
    obtain rfl := Option.some.inj hs
    exact same
  | ldc2_w i =>
    obtain rfl := Option.some.inj hs
    exact same
  | ifnonnull off =>
    simp only [pm_step] at hs
    repeat' (split at hs)
    all_goals first | (obtain rfl := Option.some.inj hs; exact same) | (cases hs)
  | ifnull off =>
    simp only [pm_step] at hs
    repeat' (split at hs)
    all_goals first | (obtain rfl := Option.some.inj hs; exact same) | (cases hs)
  | lcmp =>
    simp only [pm_step] at hs
    repeat' (split at hs)
    all_goals first | (obtain rfl := Option.some.inj hs; exact same) | (cases hs)
  | i2l =>
    simp only [pm_step] at hs
    repeat' (split at hs)
    all_goals first | (obtain rfl := Option.some.inj hs; exact same) | (cases hs)
  | l2i =>
    simp only [pm_step] at hs
    repeat' (split at hs)
    all_goals first | (obtain rfl := Option.some.inj hs; exact same) | (cases hs)
  | idiv =>
    simp only [pm_step] at hs
    repeat' (split at hs)
    all_goals first | (obtain rfl := Option.some.inj hs; exact same) | (cases hs)
  | irem =>
    simp only [pm_step] at hs
    repeat' (split at hs)
    all_goals first | (obtain rfl := Option.some.inj hs; exact same) | (cases hs)
  | pop =>
    simp only [pm_step] at hs
    repeat' (split at hs)
    all_goals first | (obtain rfl := Option.some.inj hs; exact same) | (cases hs)
  | dup =>
    simp only [pm_step] at hs
    repeat' (split at hs)
    all_goals first | (obtain rfl := Option.some.inj hs; exact same) | (cases hs)
  | dup2 =>
    simp only [pm_step] at hs
    repeat' (split at hs)
    all_goals first | (obtain rfl := Option.some.inj hs; exact same) | (cases hs)
  | iinc i n =>
    simp only [pm_step] at hs
    repeat' (split at hs)
    all_goals first | (obtain rfl := Option.some.inj hs; exact same) | (cases hs)
  | ldc i =>
    simp only [pm_step] at hs
    repeat' (split at hs)
    all_goals first | (obtain rfl := Option.some.inj hs; exact same) | (cases hs)
  | tableswitch d lo2 hi2 offs =>
    simp only [pm_step] at hs
    repeat' (split at hs)
    all_goals first | (obtain rfl := Option.some.inj hs; exact same) | (cases hs)
  | lookupswitch d ps =>
    simp only [pm_step] at hs
    repeat' (split at hs)
    all_goals first | (obtain rfl := Option.some.inj hs; exact same) | (cases hs)
  | getstatic i =>
    simp only [pm_step] at hs
    repeat' (split at hs)
    all_goals first | (obtain rfl := Option.some.inj hs; exact same) | (cases hs)
  | ifCond cd off =>
    simp only [pm_step] at hs
    repeat' (split at hs)
    all_goals first | (obtain rfl := Option.some.inj hs; exact same) | (cases hs)
  | if_icmp cd off =>
    simp only [pm_step] at hs
    repeat' (split at hs)
    all_goals first | (obtain rfl := Option.some.inj hs; exact same) | (cases hs)
  | putfield i =>
    rcases pm_put_inv (show pm_put (lo, st, H) a b cc.toNat = some o from hs) with ⟨v, q, r, hty, hst, hT, h8, rfl⟩ | ⟨v, q, r, hty, hst, hT, h8, rfl⟩ | ⟨v, q, r, hty, hst, hT, h8, rfl⟩ | ⟨v, q, r, hty, hst, hT, h8, rfl⟩
    · exact ⟨hf.upI h8, Nat.le_refl _, Nat.le_refl _⟩
    · exact ⟨hf.upI h8, Nat.le_refl _, Nat.le_refl _⟩
    · exact ⟨hf.upJ, Nat.le_refl _, Nat.le_refl _⟩
    · exact ⟨hf.upO h8, Nat.le_refl _, Nat.le_refl _⟩
  | iastore =>
    obtain ⟨v, i, q, r, hst, hT, h8, rfl⟩ := pm_ast_inv (show pm_ast (lo, st, H) 1 (fun v => v) = some o from hs)
    exact ⟨hf.upI h8, Nat.le_refl _, Nat.le_refl _⟩
  | bastore =>
    obtain ⟨v, i, q, r, hst, hT, h8, rfl⟩ := pm_ast_inv (show pm_ast (lo, st, H) 2 (fun v => v.toInt8.toInt32) = some o from hs)
    exact ⟨hf.upI h8, Nat.le_refl _, Nat.le_refl _⟩
  | lastore =>
    obtain ⟨v, i, q, r, hst, hT, h8, rfl⟩ := pm_stl_inv (show pm_stl (lo, st, H) = some o from hs)
    exact ⟨hf.upJ, Nat.le_refl _, Nat.le_refl _⟩
  | new i =>
    obtain rfl := Option.some.inj hs
    simp only [pm_okI, Bool.and_eq_true] at hok
    exact ⟨hf.mk (fun _ => Nat.blt_eq.mp hok.1.1), Nat.le_succ _, Nat.le_add_right _ _⟩
  | newarray t =>
    have hatc : pm_atc t a = true := hok
    obtain ⟨n, r, hst, rfl⟩ := pm_nwa_inv (show pm_nwa (lo, st, H) a = some o from hs)
    have ha : a ≠ 0 := by
      match t, a, hatc with
      | .int, 1, _ => decide
      | .byte, 2, _ => decide
      | .long, 3, _ => decide
    exact ⟨hf.mk (fun h => absurd h ha), Nat.le_succ _, Nat.le_add_right _ _⟩
  | invokespecial i =>
    simp only [pm_step] at hs
    split at hs
    · repeat' (split at hs)
      all_goals first | (obtain rfl := Option.some.inj hs; exact same) | (cases hs)
    · obtain ⟨as, r, hp, hc, hv, rfl⟩ := pm_call_inv hs
      exact same
  | invokestatic i =>
    simp only [pm_step] at hs
    split at hs
    · obtain ⟨n, q, bb, pp, aa, r, hst, hTa, hTb, h8a, h8b, hcat, rfl⟩ := pm_acp_inv hs
      exact ⟨hf.upC h8b, Nat.le_refl _, Nat.le_refl _⟩
    · obtain ⟨as, r, hp, hc, hv, rfl⟩ := pm_call_inv hs
      exact same
  | _ => exact absurd hs (by simp [pm_step])
theorem pm_lnc_0 : (List.range' 0 46).all (fun k => (pm_code k).all pm_lnc) = true := by decide +kernel
theorem pm_lnc_1 : (List.range' 46 51).all (fun k => (pm_code k).all pm_lnc) = true := by decide +kernel
theorem pm_lnc_2 : (List.range' 97 47).all (fun k => (pm_code k).all pm_lnc) = true := by decide +kernel
theorem pm_lnc_3 : (List.range' 144 46).all (fun k => (pm_code k).all pm_lnc) = true := by decide +kernel
theorem pm_lnc_4 : (List.range' 190 39).all (fun k => (pm_code k).all pm_lnc) = true := by decide +kernel
theorem pm_lnc_5 : (List.range' 229 34).all (fun k => (pm_code k).all pm_lnc) = true := by decide +kernel
theorem pm_lnc_6 : (List.range' 263 41).all (fun k => (pm_code k).all pm_lnc) = true := by decide +kernel
theorem pm_lnc_7 : (List.range' 304 13).all (fun k => (pm_code k).all pm_lnc) = true := by decide +kernel
theorem pm_lnl_0 : pc_law_law_0.all pm_lnc = true := by decide +kernel
theorem pm_lnl_1 : pc_law_law_1.all pm_lnc = true := by decide +kernel
theorem pm_lnl_2 : pc_law_law_2.all pm_lnc = true := by decide +kernel
theorem pm_lnl_3 : pc_law_law_3.all pm_lnc = true := by decide +kernel
theorem pm_lnl_4 : pc_law_law_4.all pm_lnc = true := by decide +kernel
theorem pm_lnl_5 : pc_law_law_5.all pm_lnc = true := by decide +kernel
theorem pm_lnl_6 : pc_law_law_6.all pm_lnc = true := by decide +kernel
theorem pm_lnl_7 : pc_law_law_7.all pm_lnc = true := by decide +kernel
theorem pm_lnl_8 : pc_law_law_8.all pm_lnc = true := by decide +kernel
theorem pm_lnl_9 : pc_law_law_9.all pm_lnc = true := by decide +kernel
theorem pm_lnl_10 : pc_law_law_10.all pm_lnc = true := by decide +kernel
theorem pm_lnl : pc_law_law.all pm_lnc = true := by
  unfold pc_law_law
  simp only [List.all_append, Bool.and_eq_true]
  exact ⟨pm_lnl_0, ⟨pm_lnl_1, ⟨pm_lnl_2, ⟨pm_lnl_3, ⟨pm_lnl_4, ⟨pm_lnl_5, ⟨pm_lnl_6, ⟨pm_lnl_7, ⟨pm_lnl_8, ⟨pm_lnl_9, pm_lnl_10⟩⟩⟩⟩⟩⟩⟩⟩⟩⟩
theorem pm_lnall : ∀ k, k < 318 → (pm_code k).all pm_lnc = true := by
  intro k hk
  have key : ∀ a n, (List.range' a n).all (fun k => (pm_code k).all pm_lnc) = true → a ≤ k → k < a + n → (pm_code k).all pm_lnc = true := by
    intro a n h h1 h2
    exact List.all_eq_true.mp h k (List.mem_range'_1.mpr ⟨h1, h2⟩)
  by_cases h0 : k < 46
  · exact key 0 46 pm_lnc_0 (by omega) h0
  by_cases h1 : k < 97
  · exact key 46 51 pm_lnc_1 (by omega) h1
  by_cases h2 : k < 144
  · exact key 97 47 pm_lnc_2 (by omega) h2
  by_cases h3 : k < 190
  · exact key 144 46 pm_lnc_3 (by omega) h3
  by_cases h4 : k < 229
  · exact key 190 39 pm_lnc_4 (by omega) h4
  by_cases h5 : k < 263
  · exact key 229 34 pm_lnc_5 (by omega) h5
  by_cases h6 : k < 304
  · exact key 263 41 pm_lnc_6 (by omega) h6
  by_cases h7 : k < 317
  · exact key 304 13 pm_lnc_7 (by omega) h7
  obtain rfl : k = 317 := by omega
  exact pm_lnl
/-- what is known of a row of the tables -/
theorem pm_row {k : Nat} {en : pm_E} (h : en ∈ pm_code k) : k < 318 ∧ decode (pm_by k) en.1 = .ok (en.2.1, en.2.2.1) ∧ pm_okI k en = true ∧ pm_lnc en = true := by
  have hk : k < 318 := by
    rcases Nat.lt_or_ge k 318 with q | q
    · exact q
    · rw [pm_code_out k (by omega)] at h
      cases h
  exact ⟨hk, of_decide_eq_true (List.all_eq_true.mp (pm_dcall k hk) en h), List.all_eq_true.mp (pm_okall k hk).1 en h, List.all_eq_true.mp (pm_lnall k hk) en h⟩
/-- a run keeps what its steps keep -/
theorem pm_run_keep : ∀ (n d k pc : Nat) (x : pm_C) (v : Int32) (w : Int64) (H' : pm_H), pm_run pm_code pm_meta n d k pc x = some (v, w, H') → pm_fix L xs x.2.2 → pm_le L xs x.2.2 H' := by
  intro n
  induction n with
  | zero => intro d k pc x v w H' h; simp [pm_run] at h
  | succ n ih =>
    intro d k pc x v w H' h hf
    unfold pm_run at h
    split at h
    next => cases h
    next en rest hd =>
      obtain ⟨hmem, hpc⟩ := pm_drop_mem _ _ _ _ hd
      obtain ⟨hk, hdg, hok, hln⟩ := pm_row hmem
      obtain ⟨lo, st, H⟩ := x
      obtain ⟨pc0, ins, len, a, b, cc⟩ := en
      have tr : ∀ {H1 : pm_H}, pm_le L xs H H1 → pm_le L xs H1 H' → pm_le L xs H H' := fun g1 g2 => ⟨g2.1, Nat.le_trans g1.2.1 g2.2.1, Nat.le_trans g1.2.2 g2.2.2⟩
      split at h
      next => cases h
      next y hs =>
        have g := pm_keep (o := .inl y) hok hs hf
        exact tr g (ih _ _ _ _ _ _ _ h g.1)
      next bb y hs =>
        have g := pm_keep (o := .inr (.inl (bb, y))) hok hs hf
        split at h
        · exact tr g (ih _ _ _ _ _ _ _ h g.1)
        · cases h
      next bb t y hs =>
        have g := pm_keep (o := .inr (.inr (.inl (bb, t, y)))) hok hs hf
        exact tr g (ih _ _ _ _ _ _ _ h g.1)
      next v0 cs' df y hs =>
        have g := pm_keep (o := .inr (.inr (.inr (.inl (v0, cs', df, y))))) hok hs hf
        exact tr g (ih _ _ _ _ _ _ _ h g.1)
      next j as y hs =>
        have g := pm_keep (o := .inr (.inr (.inr (.inr (.inl (j, as, y)))))) hok hs hf
        cases d with
        | zero => cases h
        | succ d =>
          simp only at h
          split at h
          next hb =>
            split at h
            next => cases h
            next v1 w1 H1 hc =>
              have g1 := ih _ _ _ _ _ _ _ hc g.1
              exact tr g (⟨(ih _ _ _ _ _ _ _ h g1.1).1, Nat.le_trans g1.2.1 (ih _ _ _ _ _ _ _ h g1.1).2.1, Nat.le_trans g1.2.2 (ih _ _ _ _ _ _ _ h g1.1).2.2⟩)
          next => cases h
      next bb v0 w0 H0 hs =>
        have g := pm_keep (o := .inr (.inr (.inr (.inr (.inr (bb, v0, w0, H0)))))) hok hs hf
        split at h
        · cases h
          exact g
        · cases h
end PMA
