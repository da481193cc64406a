/-! A RUN OF THE SMALL MACHINE IS A RUN OF THE CLAIM'S: the induction. -/
/-- only the three calls call -/
theorem pm_noca {pc len a b : Nat} {cc : Int} {ins : Instr} {lo st : List Value} {H : pm_H} {z : Nat × List Value × pm_C} (hs : pm_step (pc, ins, len, a, b, cc) (lo, st, H) = some (.inr (.inr (.inr (.inr (.inl z)))))) :
    ∃ i, (ins = .invokevirtual i ∧ pm_call (lo, st, H) a b cc.toNat = some (.inr (.inr (.inr (.inr (.inl z)))))) ∨ (ins = .invokestatic i ∧ pm_call (lo, st, H) a b 0 = some (.inr (.inr (.inr (.inr (.inl z)))))) ∨ (ins = .invokespecial i ∧ pm_call (lo, st, H) a b cc.toNat = some (.inr (.inr (.inr (.inr (.inl z)))))) := by
  cases ins with
  | iload_n kk =>
    obtain ⟨v, hv, hq⟩ := pm_load_inv (show pm_load kk (lo, st, H) = some _ from hs)
    cases hq
  | iload kk =>
    obtain ⟨v, hv, hq⟩ := pm_load_inv (show pm_load kk (lo, st, H) = some _ from hs)
    cases hq
  | lload_n kk =>
    obtain ⟨v, hv, hq⟩ := pm_loadl_inv (show pm_loadl kk (lo, st, H) = some _ from hs)
    cases hq
  | lload kk =>
    obtain ⟨v, hv, hq⟩ := pm_loadl_inv (show pm_loadl kk (lo, st, H) = some _ from hs)
    cases hq
  | aload_n kk =>
    obtain ⟨v, hv, hr, hq⟩ := pm_loada_inv (show pm_loada kk (lo, st, H) = some _ from hs)
    cases hq
  | aload kk =>
    obtain ⟨v, hv, hr, hq⟩ := pm_loada_inv (show pm_loada kk (lo, st, H) = some _ from hs)
    cases hq
  | istore_n kk =>
    obtain ⟨v, r, hst, hi, hq⟩ := pm_stor_inv (show pm_stor kk (lo, st, H) = some _ from hs)
    cases hq
  | istore kk =>
    obtain ⟨v, r, hst, hi, hq⟩ := pm_stor_inv (show pm_stor kk (lo, st, H) = some _ from hs)
    cases hq
  | lstore_n kk =>
    obtain ⟨v, r, hst, hi, hq⟩ := pm_storl_inv (show pm_storl kk (lo, st, H) = some _ from hs)
    cases hq
  | lstore kk =>
    obtain ⟨v, r, hst, hi, hq⟩ := pm_storl_inv (show pm_storl kk (lo, st, H) = some _ from hs)
    cases hq
  | astore_n kk =>
    obtain ⟨v, r, hst, hi, hr, hq⟩ := pm_stora_inv (show pm_stora kk (lo, st, H) = some _ from hs)
    cases hq
  | astore kk =>
    obtain ⟨v, r, hst, hi, hr, hq⟩ := pm_stora_inv (show pm_stora kk (lo, st, H) = some _ from hs)
    cases hq
  | iadd =>
    obtain ⟨v, u, r, hst, hq⟩ := pm_i2_inv hs
    cases hq
  | isub =>
    obtain ⟨v, u, r, hst, hq⟩ := pm_i2_inv hs
    cases hq
  | imul =>
    obtain ⟨v, u, r, hst, hq⟩ := pm_i2_inv hs
    cases hq
  | iand =>
    obtain ⟨v, u, r, hst, hq⟩ := pm_i2_inv hs
    cases hq
  | ior =>
    obtain ⟨v, u, r, hst, hq⟩ := pm_i2_inv hs
    cases hq
  | ixor =>
    obtain ⟨v, u, r, hst, hq⟩ := pm_i2_inv hs
    cases hq
  | ishl =>
    obtain ⟨v, u, r, hst, hq⟩ := pm_i2_inv hs
    cases hq
  | ishr =>
    obtain ⟨v, u, r, hst, hq⟩ := pm_i2_inv hs
    cases hq
  | iushr =>
    obtain ⟨v, u, r, hst, hq⟩ := pm_i2_inv hs
    cases hq
  | ladd =>
    obtain ⟨v, u, r, hst, hq⟩ := pm_l2_inv hs
    cases hq
  | lsub =>
    obtain ⟨v, u, r, hst, hq⟩ := pm_l2_inv hs
    cases hq
  | lmul =>
    obtain ⟨v, u, r, hst, hq⟩ := pm_l2_inv hs
    cases hq
  | land =>
    obtain ⟨v, u, r, hst, hq⟩ := pm_l2_inv hs
    cases hq
  | lor =>
    obtain ⟨v, u, r, hst, hq⟩ := pm_l2_inv hs
    cases hq
  | lxor =>
    obtain ⟨v, u, r, hst, hq⟩ := pm_l2_inv hs
    cases hq
  | lshl =>
    obtain ⟨v, u, r, hst, hq⟩ := pm_ls_inv hs
    cases hq
  | lshr =>
    obtain ⟨v, u, r, hst, hq⟩ := pm_ls_inv hs
    cases hq
  | i2b =>
    obtain ⟨u, r, hst, hq⟩ := pm_i1_inv hs
    cases hq
  | i2s =>
    obtain ⟨u, r, hst, hq⟩ := pm_i1_inv hs
    cases hq
  | i2c =>
    obtain ⟨u, r, hst, hq⟩ := pm_i1_inv hs
    cases hq
  | ineg =>
    obtain ⟨u, r, hst, hq⟩ := pm_i1_inv hs
    cases hq
  | getfield i =>
    obtain ⟨q, r, hst, hr, hT, hq⟩ := pm_get_inv (show pm_get (lo, st, H) a b cc.toNat = some _ from hs)
    cases hq
  | iaload =>
    obtain ⟨i, q, r, hst, hT, hq⟩ := pm_ald_inv (show pm_ald (lo, st, H) 1 = some _ from hs)
    cases hq
  | baload =>
    obtain ⟨i, q, r, hst, hT, hq⟩ := pm_ald_inv (show pm_ald (lo, st, H) 2 = some _ from hs)
    cases hq
  | laload =>
    obtain ⟨i, q, r, hst, hT, hq⟩ := pm_ldl_inv (show pm_ldl (lo, st, H) = some _ from hs)
    cases hq
  | arraylength =>
    obtain ⟨q, r, hst, h1, h3, hq⟩ := pm_aln_inv (show pm_aln (lo, st, H) = some _ from hs)
    cases hq
  | ireturn =>
    obtain ⟨v, hst, hq⟩ := pm_ret_inv (show pm_ret (lo, st, H) a = some _ from hs)
    cases hq
  | lreturn =>
    obtain ⟨v, hst, hq⟩ := pm_retl_inv (show pm_retl (lo, st, H) = some _ from hs)
    cases hq
  | return_ =>
    obtain ⟨hst, hq⟩ := pm_retv_inv (show pm_retv (lo, st, H) = some _ from hs)
    cases hq
  | iconst n => cases hs
  | bipush n => cases hs
  | sipush n => cases hs
  | lconst n => cases hs
  | goto off => cases hs
  | ldc_w i => cases hs
  | ldc2_w i => cases hs
  | ifnonnull off =>
    simp only [pm_step] at hs
    repeat' (split at hs)
    all_goals (cases hs)
  | ifnull off =>
    simp only [pm_step] at hs
    repeat' (split at hs)
    all_goals (cases hs)
  | lcmp =>
    simp only [pm_step] at hs
    repeat' (split at hs)
    all_goals (cases hs)
  | i2l =>
    simp only [pm_step] at hs
    repeat' (split at hs)
    all_goals (cases hs)
  | l2i =>
    simp only [pm_step] at hs
    repeat' (split at hs)
    all_goals (cases hs)
  | idiv =>
    simp only [pm_step] at hs
    repeat' (split at hs)
    all_goals (cases hs)
  | irem =>
    simp only [pm_step] at hs
    repeat' (split at hs)
    all_goals (cases hs)
  | pop =>
    simp only [pm_step] at hs
    repeat' (split at hs)
    all_goals (cases hs)
  | dup =>
    simp only [pm_step] at hs
    repeat' (split at hs)
    all_goals (cases hs)
  | dup2 =>
    simp only [pm_step] at hs
    repeat' (split at hs)
    all_goals (cases hs)
  | iinc i n =>
    simp only [pm_step] at hs
    repeat' (split at hs)
    all_goals (cases hs)
  | ldc i =>
    simp only [pm_step] at hs
    repeat' (split at hs)
    all_goals (cases hs)
  | tableswitch d lo2 hi2 offs =>
    simp only [pm_step] at hs
    repeat' (split at hs)
    all_goals (cases hs)
  | lookupswitch d ps =>
    simp only [pm_step] at hs
    repeat' (split at hs)
    all_goals (cases hs)
  | getstatic i =>
    simp only [pm_step] at hs
    repeat' (split at hs)
    all_goals (cases hs)
  | ifCond cd off =>
    simp only [pm_step] at hs
    repeat' (split at hs)
    all_goals (cases hs)
  | if_icmp cd off =>
    simp only [pm_step] at hs
    repeat' (split at hs)
    all_goals (cases hs)
  | putfield i =>
    rcases pm_put_inv (show pm_put (lo, st, H) a b cc.toNat = some _ from hs) with ⟨v, q, r, hty, hst, hT, h8, hq⟩ | ⟨v, q, r, hty, hst, hT, h8, hq⟩ | ⟨v, q, r, hty, hst, hT, h8, hq⟩ | ⟨v, q, r, hty, hst, hT, h8, hq⟩ <;> cases hq
  | iastore =>
    obtain ⟨v, i, q, r, hst, hT, h8, hq⟩ := pm_ast_inv (show pm_ast (lo, st, H) 1 (fun v => v) = some _ from hs)
    cases hq
  | bastore =>
    obtain ⟨v, i, q, r, hst, hT, h8, hq⟩ := pm_ast_inv (show pm_ast (lo, st, H) 2 (fun v => v.toInt8.toInt32) = some _ from hs)
    cases hq
  | lastore =>
    obtain ⟨v, i, q, r, hst, hT, h8, hq⟩ := pm_stl_inv (show pm_stl (lo, st, H) = some _ from hs)
    cases hq
  | new i => cases hs
  | newarray t =>
    obtain ⟨n, r, hst, hq⟩ := pm_nwa_inv (show pm_nwa (lo, st, H) a = some _ from hs)
    cases hq
  | invokevirtual i => exact ⟨i, Or.inl ⟨rfl, hs⟩⟩
  | invokespecial i =>
    simp only [pm_step] at hs
    split at hs
    · repeat' (split at hs)
      all_goals (cases hs)
    · exact ⟨i, Or.inr (Or.inr ⟨rfl, hs⟩)⟩
  | invokestatic i =>
    simp only [pm_step] at hs
    split at hs
    · obtain ⟨n, q, bb, pp, aa, r, hst, hTa, hTb, h8a, h8b, hcat, hq⟩ := pm_acp_inv hs
      cases hq
    · exact ⟨i, Or.inr (Or.inl ⟨rfl, hs⟩)⟩
  | _ => exact absurd hs (by simp [pm_step])
/-- an end keeps the heap -/
theorem pm_reH {pc len a b : Nat} {cc : Int} {ins : Instr} {lo st : List Value} {H H0 : pm_H} {bb : Bool} {v0 : Int32} {w0 : Int64} (hs : pm_step (pc, ins, len, a, b, cc) (lo, st, H) = some (.inr (.inr (.inr (.inr (.inr (bb, v0, w0, H0))))))) : H0 = H := by
  cases ins with
  | iload_n kk =>
    obtain ⟨v, hv, hq⟩ := pm_load_inv (show pm_load kk (lo, st, H) = some _ from hs)
    cases hq
  | iload kk =>
    obtain ⟨v, hv, hq⟩ := pm_load_inv (show pm_load kk (lo, st, H) = some _ from hs)
    cases hq
  | lload_n kk =>
    obtain ⟨v, hv, hq⟩ := pm_loadl_inv (show pm_loadl kk (lo, st, H) = some _ from hs)
    cases hq
  | lload kk =>
    obtain ⟨v, hv, hq⟩ := pm_loadl_inv (show pm_loadl kk (lo, st, H) = some _ from hs)
    cases hq
  | aload_n kk =>
    obtain ⟨v, hv, hr, hq⟩ := pm_loada_inv (show pm_loada kk (lo, st, H) = some _ from hs)
    cases hq
  | aload kk =>
    obtain ⟨v, hv, hr, hq⟩ := pm_loada_inv (show pm_loada kk (lo, st, H) = some _ from hs)
    cases hq
  | istore_n kk =>
    obtain ⟨v, r, hst, hi, hq⟩ := pm_stor_inv (show pm_stor kk (lo, st, H) = some _ from hs)
    cases hq
  | istore kk =>
    obtain ⟨v, r, hst, hi, hq⟩ := pm_stor_inv (show pm_stor kk (lo, st, H) = some _ from hs)
    cases hq
  | lstore_n kk =>
    obtain ⟨v, r, hst, hi, hq⟩ := pm_storl_inv (show pm_storl kk (lo, st, H) = some _ from hs)
    cases hq
  | lstore kk =>
    obtain ⟨v, r, hst, hi, hq⟩ := pm_storl_inv (show pm_storl kk (lo, st, H) = some _ from hs)
    cases hq
  | astore_n kk =>
    obtain ⟨v, r, hst, hi, hr, hq⟩ := pm_stora_inv (show pm_stora kk (lo, st, H) = some _ from hs)
    cases hq
  | astore kk =>
    obtain ⟨v, r, hst, hi, hr, hq⟩ := pm_stora_inv (show pm_stora kk (lo, st, H) = some _ from hs)
    cases hq
  | iadd =>
    obtain ⟨v, u, r, hst, hq⟩ := pm_i2_inv hs
    cases hq
  | isub =>
    obtain ⟨v, u, r, hst, hq⟩ := pm_i2_inv hs
    cases hq
  | imul =>
    obtain ⟨v, u, r, hst, hq⟩ := pm_i2_inv hs
    cases hq
  | iand =>
    obtain ⟨v, u, r, hst, hq⟩ := pm_i2_inv hs
    cases hq
  | ior =>
    obtain ⟨v, u, r, hst, hq⟩ := pm_i2_inv hs
    cases hq
  | ixor =>
    obtain ⟨v, u, r, hst, hq⟩ := pm_i2_inv hs
    cases hq
  | ishl =>
    obtain ⟨v, u, r, hst, hq⟩ := pm_i2_inv hs
    cases hq
  | ishr =>
    obtain ⟨v, u, r, hst, hq⟩ := pm_i2_inv hs
    cases hq
  | iushr =>
    obtain ⟨v, u, r, hst, hq⟩ := pm_i2_inv hs
    cases hq
  | ladd =>
    obtain ⟨v, u, r, hst, hq⟩ := pm_l2_inv hs
    cases hq
  | lsub =>
    obtain ⟨v, u, r, hst, hq⟩ := pm_l2_inv hs
    cases hq
  | lmul =>
    obtain ⟨v, u, r, hst, hq⟩ := pm_l2_inv hs
    cases hq
  | land =>
    obtain ⟨v, u, r, hst, hq⟩ := pm_l2_inv hs
    cases hq
  | lor =>
    obtain ⟨v, u, r, hst, hq⟩ := pm_l2_inv hs
    cases hq
  | lxor =>
    obtain ⟨v, u, r, hst, hq⟩ := pm_l2_inv hs
    cases hq
  | lshl =>
    obtain ⟨v, u, r, hst, hq⟩ := pm_ls_inv hs
    cases hq
  | lshr =>
    obtain ⟨v, u, r, hst, hq⟩ := pm_ls_inv hs
    cases hq
  | i2b =>
    obtain ⟨u, r, hst, hq⟩ := pm_i1_inv hs
    cases hq
  | i2s =>
    obtain ⟨u, r, hst, hq⟩ := pm_i1_inv hs
    cases hq
  | i2c =>
    obtain ⟨u, r, hst, hq⟩ := pm_i1_inv hs
    cases hq
  | ineg =>
    obtain ⟨u, r, hst, hq⟩ := pm_i1_inv hs
    cases hq
  | getfield i =>
    obtain ⟨q, r, hst, hr, hT, hq⟩ := pm_get_inv (show pm_get (lo, st, H) a b cc.toNat = some _ from hs)
    cases hq
  | iaload =>
    obtain ⟨i, q, r, hst, hT, hq⟩ := pm_ald_inv (show pm_ald (lo, st, H) 1 = some _ from hs)
    cases hq
  | baload =>
    obtain ⟨i, q, r, hst, hT, hq⟩ := pm_ald_inv (show pm_ald (lo, st, H) 2 = some _ from hs)
    cases hq
  | laload =>
    obtain ⟨i, q, r, hst, hT, hq⟩ := pm_ldl_inv (show pm_ldl (lo, st, H) = some _ from hs)
    cases hq
  | arraylength =>
    obtain ⟨q, r, hst, h1, h3, hq⟩ := pm_aln_inv (show pm_aln (lo, st, H) = some _ from hs)
    cases hq
  | ireturn =>
    obtain ⟨v, hst, hq⟩ := pm_ret_inv (show pm_ret (lo, st, H) a = some _ from hs)
    cases hq
    rfl
  | lreturn =>
    obtain ⟨v, hst, hq⟩ := pm_retl_inv (show pm_retl (lo, st, H) = some _ from hs)
    cases hq
    rfl
  | return_ =>
    obtain ⟨hst, hq⟩ := pm_retv_inv (show pm_retv (lo, st, H) = some _ from hs)
    cases hq
    rfl
  | iconst n => cases hs
  | bipush n => cases hs
  | sipush n => cases hs
  | lconst n => cases hs
  | goto off => cases hs
  | ldc_w i => cases hs
  | ldc2_w i => cases hs
  | ifnonnull off =>
    simp only [pm_step] at hs
    repeat' (split at hs)
    all_goals (cases hs)
  | ifnull off =>
    simp only [pm_step] at hs
    repeat' (split at hs)
    all_goals (cases hs)
  | lcmp =>
    simp only [pm_step] at hs
    repeat' (split at hs)
    all_goals (cases hs)
  | i2l =>
    simp only [pm_step] at hs
    repeat' (split at hs)
    all_goals (cases hs)
  | l2i =>
    simp only [pm_step] at hs
    repeat' (split at hs)
    all_goals (cases hs)
  | idiv =>
    simp only [pm_step] at hs
    repeat' (split at hs)
    all_goals (cases hs)
  | irem =>
    simp only [pm_step] at hs
    repeat' (split at hs)
    all_goals (cases hs)
  | pop =>
    simp only [pm_step] at hs
    repeat' (split at hs)
    all_goals (cases hs)
  | dup =>
    simp only [pm_step] at hs
    repeat' (split at hs)
    all_goals (cases hs)
  | dup2 =>
    simp only [pm_step] at hs
    repeat' (split at hs)
    all_goals (cases hs)
  | iinc i n =>
    simp only [pm_step] at hs
    repeat' (split at hs)
    all_goals (cases hs)
  | ldc i =>
    simp only [pm_step] at hs
    repeat' (split at hs)
    all_goals (cases hs)
  | tableswitch d lo2 hi2 offs =>
    simp only [pm_step] at hs
    repeat' (split at hs)
    all_goals (cases hs)
  | lookupswitch d ps =>
    simp only [pm_step] at hs
    repeat' (split at hs)
    all_goals (cases hs)
  | getstatic i =>
    simp only [pm_step] at hs
    repeat' (split at hs)
    all_goals (cases hs)
  | ifCond cd off =>
    simp only [pm_step] at hs
    repeat' (split at hs)
    all_goals (cases hs)
  | if_icmp cd off =>
    simp only [pm_step] at hs
    repeat' (split at hs)
    all_goals (cases hs)
  | putfield i =>
    rcases pm_put_inv (show pm_put (lo, st, H) a b cc.toNat = some _ from hs) with ⟨v, q, r, hty, hst, hT, h8, hq⟩ | ⟨v, q, r, hty, hst, hT, h8, hq⟩ | ⟨v, q, r, hty, hst, hT, h8, hq⟩ | ⟨v, q, r, hty, hst, hT, h8, hq⟩ <;> cases hq
  | iastore =>
    obtain ⟨v, i, q, r, hst, hT, h8, hq⟩ := pm_ast_inv (show pm_ast (lo, st, H) 1 (fun v => v) = some _ from hs)
    cases hq
  | bastore =>
    obtain ⟨v, i, q, r, hst, hT, h8, hq⟩ := pm_ast_inv (show pm_ast (lo, st, H) 2 (fun v => v.toInt8.toInt32) = some _ from hs)
    cases hq
  | lastore =>
    obtain ⟨v, i, q, r, hst, hT, h8, hq⟩ := pm_stl_inv (show pm_stl (lo, st, H) = some _ from hs)
    cases hq
  | new i => cases hs
  | newarray t =>
    obtain ⟨n, r, hst, hq⟩ := pm_nwa_inv (show pm_nwa (lo, st, H) a = some _ from hs)
    cases hq
  | invokevirtual i =>
    obtain ⟨as, r, h1, h2, h3, hq⟩ := pm_call_inv (show pm_call (lo, st, H) a b cc.toNat = some _ from hs)
    cases hq
  | invokespecial i =>
    simp only [pm_step] at hs
    split at hs
    · repeat' (split at hs)
      all_goals (cases hs)
    · obtain ⟨as, r, h1, h2, h3, hq⟩ := pm_call_inv hs
      cases hq
  | invokestatic i =>
    simp only [pm_step] at hs
    split at hs
    · obtain ⟨n, q, bb, pp, aa, r, hst, hTa, hTb, h8a, h8b, hcat, hq⟩ := pm_acp_inv hs
      cases hq
    · obtain ⟨as, r, h1, h2, h3, hq⟩ := pm_call_inv hs
      cases hq
  | _ => exact absurd hs (by simp [pm_step])
theorem pm_run_out : ∀ (n d k pc : Nat) (x : pm_C), ¬ k < 318 → pm_run pm_code pm_meta n d k pc x = none := by
  intro n d k pc x hk
  cases n with
  | zero => rfl
  | succ n =>
    unfold pm_run
    rw [pm_code_out k hk]
    rfl
theorem pm_mword {o i a n : Nat} (h : pm_lkM pm_uM o i a n = true) (ha : a < 317) : (n = 0 → (Cond.methodLink (pm_on o) i (pm_y a) : Cond) ∈ lw_tbl) ∧ (n = 1 → (Cond.methodLinkNest (pm_on o) i (pm_y a) "FallenHouses" : Cond) ∈ lw_tbl) := by
  obtain ⟨u, hu, h2⟩ := List.any_eq_true.mp h
  simp only [Bool.and_eq_true] at h2
  have hw := pm_uM_ok u hu
  obtain ⟨u1, u2, u3, u4, u5, u6⟩ := u
  have e1 : u1 = o := Nat.eq_of_beq_eq_true h2.1.1.1
  have e2 : u2 = i := Nat.eq_of_beq_eq_true h2.1.1.2
  have e3 : u3 = a := Nat.eq_of_beq_eq_true h2.1.2
  have e4 : u5 = n := Nat.eq_of_beq_eq_true h2.2
  subst e1; subst e2; subst e3; subst e4
  simp only [pm_wM, pm_beq_ne (show ¬ u3 = 9999 by omega), pm_beq_ne (show ¬ u3 = 9998 by omega), cond_false] at hw
  refine ⟨fun h => ?_, fun h => ?_⟩
  · subst h
    exact hw
  · subst h
    exact hw
theorem pm_push_ov {rv : Nat → Value} {rt : Option FieldType} {rk : Nat} (h : pm_rtc2 rt rk = true) (v : Int32) (w : Int64) (r : List Value) : (pm_push rk v w r).map (pm_cv rv) = (pm_ov rt v w).toList ++ r.map (pm_cv rv) := by
  match rt, rk, h with
  | none, 0, _ => rfl
  | some .long, 2, _ => rfl
  | some .int, 1, _ => rfl
  | some .boolean, 1, _ => rfl
  | some .byte, 1, _ => rfl
  | some .char, 1, _ => rfl
  | some .short, 1, _ => rfl
  | some .float, 1, _ => rfl
  | some .double, 1, _ => rfl
  | some (.object _), 1, _ => rfl
  | some (.array _), 1, _ => rfl
section PMN
variable {sa : Nat → Value} {base : Nat} {D : va_G} {cs : pm_cs3} {L : Nat} {xs : Nat → Int32}
theorem pm_main (hsa : pm_rvok sa) (h0 : sa 0 = .null) (l : Launch) : ∀ (n d k pc : Nat) (x : pm_C) (v : Int32) (w : Int64) (H' : pm_H), pm_run pm_code pm_meta n d k pc x = some (v, w, H') → pm_fix L xs x.2.2 →
    ∀ {p : Program} {e : Env} {R : Room} {s : State} {m : MethodId} {args : Array Value} {below : List Frame} {meth : Method} {c : Code} {Q : State → Prop}, pm_Ctx p s m args meth c k sa base D cs L xs → (d + 1 ≤ R.frames ∧ 64 * (d + 1) ≤ R.locals) → ∀ {Hp : Heap} {locs : List Loc} {ls : Array Slot} {cells slots : Nat}, pm_At s k sa base D cs L xs x Hp locs ls → s.heap.size + cells ≤ base + (x.2.2.1.2.2.1 - 8) →
      cells + (H'.1.2.2.1 - x.2.2.1.2.2.1) ≤ R.cells ∧ slots + (H'.1.2.2.2 - x.2.2.1.2.2.2) ≤ R.slots → pm_Fi p l e R s m args below meth c Q k sa base D cs (cells + (H'.1.2.2.1 - x.2.2.1.2.2.1)) (slots + (H'.1.2.2.2 - x.2.2.1.2.2.2)) v w H' →
      W p l e R s m args below meth c Hp locs cells slots Q (F0 m pc ls (x.2.1.map (pm_cv (pm_rv sa base)))) := by
  intro n
  induction n with
  | zero => intro d k pc x v w H' h; simp [pm_run] at h
  | succ n ih =>
    intro d k pc x v w H' h hf p e R s m args below meth c Q hC hR Hp locs ls cells slots hAt hct hrm F
    unfold pm_run at h
    split at h
    next => cases h
    next en rest hd =>
      obtain ⟨hmem, hpc⟩ := pm_drop_mem _ _ _ _ hd
      obtain ⟨hk, hdg, hok, hln⟩ := pm_row hmem
      obtain ⟨lo, st, H⟩ := x
      obtain ⟨pc0, ins, len, a, b, cc⟩ := en
      obtain rfl : pc0 = pc := hpc
      simp only at h hf hct hrm F hdg ⊢
      have hR1 : 1 ≤ R.frames ∧ 64 ≤ R.locals := ⟨by omega, by omega⟩
      -- a step that goes on at pc' with y
      have goOn : ∀ (pc' : Nat) (y : pm_C), pm_le L xs H y.2.2 → pm_run pm_code pm_meta n d k pc' y = some (v, w, H') → pm_Ct p l e R s m args below meth c Q k sa base D cs L xs (lo, st, H) cells slots pc' y := by
        intro pc' y hy hrun Hp2 locs2 ls2 hAt2
        have hle := pm_run_keep n d k pc' y v w H' hrun hy.1
        have c1 : cells + (y.2.2.1.2.2.1 - H.1.2.2.1) + (H'.1.2.2.1 - y.2.2.1.2.2.1) = cells + (H'.1.2.2.1 - H.1.2.2.1) := by have := hy.2.1; have := hle.2.1; omega
        have c2 : slots + (y.2.2.1.2.2.2 - H.1.2.2.2) + (H'.1.2.2.2 - y.2.2.1.2.2.2) = slots + (H'.1.2.2.2 - H.1.2.2.2) := by have := hy.2.2; have := hle.2.2; omega
        refine ih d k pc' y v w H' hrun hy.1 hC hR hAt2 (by have := hy.2.1; have := hf.2.2.2.1; show s.heap.size + (cells + (y.2.2.1.2.2.1 - H.1.2.2.1)) ≤ _; omega) (by rw [c1, c2]; exact hrm) (by rw [c1, c2]; exact F)
      have room : ∀ H1 : pm_H, pm_le L xs H1 H' → cells + (H1.1.2.2.1 - H.1.2.2.1) ≤ R.cells ∧ slots + (H1.1.2.2.2 - H.1.2.2.2) ≤ R.slots := by
        intro H1 hle
        have := hle.2.1
        have := hle.2.2
        exact ⟨by omega, by omega⟩
      split at h
      next => cases h
      next y hs =>
        have g := pm_keep (o := .inl y) hok hs hf
        exact pm_stepAll hC hsa h0 hR1 hdg hln hok hs hAt hct (room _ (pm_run_keep _ _ _ _ _ _ _ _ h g.1)) (goOn _ y g h)
      next bb y hs =>
        have g := pm_keep (o := .inr (.inl (bb, y))) hok hs hf
        split at h
        next hb => exact pm_stepAll hC hsa h0 hR1 hdg hln hok hs hAt hct (room _ (pm_run_keep _ _ _ _ _ _ _ _ h g.1)) ⟨hb, goOn _ y g h⟩
        next => cases h
      next bb t y hs =>
        have g := pm_keep (o := .inr (.inr (.inl (bb, t, y)))) hok hs hf
        exact pm_stepAll hC hsa h0 hR1 hdg hln hok hs hAt hct (room _ (pm_run_keep _ _ _ _ _ _ _ _ h g.1)) (goOn _ y g h)
      next v0 cs' df y hs =>
        have g := pm_keep (o := .inr (.inr (.inr (.inl (v0, cs', df, y))))) hok hs hf
        exact pm_stepAll hC hsa h0 hR1 hdg hln hok hs hAt hct (room _ (pm_run_keep _ _ _ _ _ _ _ _ h g.1)) (goOn _ y g h)
      next j as y hs =>
        have g := pm_keep (o := .inr (.inr (.inr (.inr (.inl (j, as, y)))))) hok hs hf
        cases d with
        | zero => cases h
        | succ d =>
          simp only at h
          split at h
          next hb =>
            split at h
            next => cases h
            next v1 w1 H1 hc1 =>
              have hj : j < 318 := by
                rcases Nat.lt_or_ge j 318 with q | q
                · exact q
                · rw [pm_run_out _ _ _ _ _ (by omega)] at hc1
                  cases hc1
              have hlen := Nat.le_of_ble_eq_true hb
              have g1 := pm_run_keep _ _ _ _ _ _ _ _ hc1 g.1
              have g2 := pm_run_keep _ _ _ _ _ _ _ _ h g1.1
              obtain ⟨hml12, hrt2⟩ := pm_meta_le j hj
              obtain ⟨i, hcase⟩ := pm_noca hs
              have hC' := hC
              obtain ⟨hx, hbc, hml, hown, hts, hKs, hSt, hnm, hbl, hrt, hlk⟩ := hC'
              obtain ⟨hl, hln2, hP, hS, -⟩ := id hAt
              simp only at hl hln2 hP
              have hcat : ∀ r : List Value, (r.map (pm_cv (pm_rv sa base))).map (fun v => v.category) = r.map (fun v => v.category) := by
                intro r
                rw [List.map_map]
                exact List.map_congr_left (fun v _ => pm_cv_cat hsa base v)
              have hmk := pm_mok_all j hj
              simp only [pm_mok, Bool.and_eq_true, decide_eq_true_eq] at hmk
              obtain ⟨⟨⟨⟨y1, y2⟩, y3⟩, y4⟩, y5⟩ := hmk
              have hnp : ∀ sig, parseMethodDescriptor (pm_y j).desc = some sig → pm_np j = sig.parameters.length := by
                intro sig hsig
                rw [hsig] at y3
                exact (Option.some.inj y3).symm
              have call : ∀ (r : List Value), y = (lo, r, H) → j < 317 → pm_cat r ≤ 8 →
                  (∀ (mc ms : Nat), mc = H1.1.2.2.1 - H.1.2.2.1 → ms = H1.1.2.2.2 - H.1.2.2.2 → Hp.size ≤ s.heap.size + cells → cells + mc ≤ R.cells ∧ slots + ms ≤ R.slots →
                    Met l (pm_y j) (pm_wsl j) ⟨d + 1, mc, ms, 64 * (d + 1)⟩ (pm_Pc sa base D cs L xs as H) (pm_Qc sa base D cs (pm_rt j) v1 w1 H1) mc ms (fun q => base ≤ q) →
                    va_Run p l e R s m args below meth c Hp locs cells slots mc ms (F0 m pc0 ls (st.map (pm_cv (pm_rv sa base)))) (r.map (pm_cv (pm_rv sa base))) (pm_Qc sa base D cs (pm_rt j) v1 w1 H1 (as.map (pm_cv (pm_rv sa base))).toArray) (fun q => base ≤ q)) → len = 3 →
                  W p l e R s m args below meth c Hp locs cells slots Q (F0 m pc0 ls (st.map (pm_cv (pm_rv sa base)))) := by
                intro r hy hj7 hcr hrun hlen3
                subst hy
                subst hlen3
                have hM := pm_Met hsa l (D := D) (cs := cs) (v := v1) (w := w1) (H1 := H1) (d := d) hj7 hlen hf (fun hC2 hR2 _ _ _ _ _ hAt2 hct2 hrm2 F2 => ih d j 0 (pm_ent (pm_meta j).1 as, [], H) v1 w1 H1 hc1 hf hC2 hR2 hAt2 hct2 hrm2 F2)
                refine pm_Wsize (fun hsz => ?_)
                have r1 : H.1.2.2.1 ≤ H1.1.2.2.1 := g1.2.1
                have r2 : H.1.2.2.2 ≤ H1.1.2.2.2 := g1.2.2
                have r3 : H1.1.2.2.1 ≤ H'.1.2.2.1 := g2.2.1
                have r4 : H1.1.2.2.2 ≤ H'.1.2.2.2 := g2.2.2
                refine pm_callK (hrun _ _ rfl rfl hsz ⟨by omega, by omega⟩ hM) hS (fun Hp2 locs2 hP2 hS2 => ?_)
                have c1 : cells + (H1.1.2.2.1 - H.1.2.2.1) + (H'.1.2.2.1 - H1.1.2.2.1) = cells + (H'.1.2.2.1 - H.1.2.2.1) := by omega
                have c2 : slots + (H1.1.2.2.2 - H.1.2.2.2) + (H'.1.2.2.2 - H1.1.2.2.2) = slots + (H'.1.2.2.2 - H.1.2.2.2) := by omega
                have K := ih (d + 1) k (pc0 + 3) (lo, pm_push (pm_meta j).2 v1 w1 r, H1) v w H' h g1.1 hC hR (Hp := Hp2) (locs := locs2) (ls := ls) (cells := cells + (H1.1.2.2.1 - H.1.2.2.1)) (slots := slots + (H1.1.2.2.2 - H.1.2.2.2)) ⟨hl, hln2, hP2, hS2, g1.1⟩ (by have := hf.2.2.2.1; show s.heap.size + (cells + (H1.1.2.2.1 - H.1.2.2.1)) ≤ base + (H1.1.2.2.1 - 8); omega) (by show cells + (H1.1.2.2.1 - H.1.2.2.1) + (H'.1.2.2.1 - H1.1.2.2.1) ≤ _ ∧ slots + (H1.1.2.2.2 - H.1.2.2.2) + (H'.1.2.2.2 - H1.1.2.2.2) ≤ _; rw [c1, c2]; exact hrm) (by show pm_Fi p l e R s m args below meth c Q k sa base D cs (cells + (H1.1.2.2.1 - H.1.2.2.1) + (H'.1.2.2.1 - H1.1.2.2.1)) (slots + (H1.1.2.2.2 - H.1.2.2.2) + (H'.1.2.2.2 - H1.1.2.2.2)) v w H'; rw [c1, c2]; exact F)
                rw [pm_push_ov hrt2] at K
                exact K
              have hPc : Hp.size ≤ s.heap.size + cells → ∀ U : State, U.heap = Hp → s.WarmedH U.vm → pm_Pc sa base D cs L xs as H (as.map (pm_cv (pm_rv sa base))).toArray U := by
                intro hsz U hU hW
                refine ⟨rfl, by rw [hU]; exact Nat.le_trans hbl hS.1, by rw [hU]; omega, by rw [hU]; exact hP, va_K.moved hW.alike hKs, ?_⟩
                rw [hU]
                exact (hSt.kept (fun a h1 h2 => hS.2.1 a h1 h2)).warm hW
              have hws : pm_mw j → ∀ w ∈ pm_wsl j, ∀ (a' : Array Value) (U : State), s.WarmedH U.vm → w.before a' U = true := by
                intro hmw
                refine pay_in (big := pm_gw) hts (fun w hw => ?_)
                rcases List.mem_cons.mp hw with rfl | hw
                · exact ⟨pm_gwi hmw.1 rfl, good_of_word rfl⟩
                · exact pm_gw_good w hw
              have hCB : ∀ (mc ms : Nat), (pm_mw j) → (Cond.methodLink (pm_on (pm_ow k)) i (pm_y j) : Cond) ∈ lw_tbl → CallB R s args (pm_on (pm_ow k)) i (pm_y j) (pm_by j) (pm_meta j).1 (pm_rt j) (pm_wsl j) ⟨d + 1, mc, ms, 64 * (d + 1)⟩ mc ms (pm_np j) := by
                intro mc ms hmw hlw
                exact ⟨rfl, rfl, by show d + 1 + 1 ≤ _; omega, by show 8 + ((pm_meta j).1 + 11) + 64 * (d + 1) ≤ _; omega, hws hmw, List.mem_cons_self, hts _ (pm_gwi hmw.1 rfl), hts _ (pm_gwi hmw.2.1 rfl), ⟨y1, y2⟩, hnp, hts _ (pm_gwi hlw rfl)⟩
              have hCN : ∀ (mc ms : Nat), (pm_mw j) → (Cond.methodLinkNest (pm_on (pm_ow k)) i (pm_y j) "FallenHouses" : Cond) ∈ lw_tbl → va_CN R s args (pm_on (pm_ow k)) i (pm_y j) "FallenHouses" (pm_by j) (pm_meta j).1 (pm_rt j) (pm_wsl j) ⟨d + 1, mc, ms, 64 * (d + 1)⟩ mc ms (pm_np j) := by
                intro mc ms hmw hlw
                exact ⟨⟨rfl, rfl, by show d + 1 + 1 ≤ _; omega, by show 8 + ((pm_meta j).1 + 11) + 64 * (d + 1) ≤ _; omega, hws hmw, List.mem_cons_self⟩, hts _ (pm_gwi hmw.1 rfl), hts _ (pm_gwi hmw.2.1 rfl), ⟨y1, y2⟩, hnp, va_Nw.use rfl (hSt.2.2.2 _ hlw rfl)⟩
              have hS0 : CallFix p m c (pm_by k) (pm_meta k).1 s args pm_gw (pm_on (pm_ow k)) := ⟨hx, hbc, hml, hown, hts⟩
              have hsize : (F0 m pc0 ls (st.map (pm_cv (pm_rv sa base)))).locals.size = (pm_meta k).1 := hl.1
              have hroomW : ∀ r : List Value, pm_cat r ≤ 8 → 2 * (F0 m pc0 ls (st.map (pm_cv (pm_rv sa base)))).monitorRoom + ((r.map (pm_cv (pm_rv sa base))).map fun v => v.category).sum ≤ 8 := by
                intro r hr
                rw [hcat r]
                show 2 * 0 + pm_cat r ≤ 8
                omega
              -- an instance's call: the receiver and the other arguments
              have inst : ∀ (as2 r : List Value), pm_pop (pm_np j + 1) st [] = some (as2, r) → pm_recv H.1.1 (pm_ow j + 1) as2 = true → ∃ (t : Nat) (As : List Value), as2.map (pm_cv (pm_rv sa base)) = .ref t :: As ∧ As.length = pm_np j ∧ st.map (pm_cv (pm_rv sa base)) = As.reverse ++ .ref t :: r.map (pm_cv (pm_rv sa base)) ∧ ∃ cellB : Cell, Hp[t]? = some cellB ∧ cellB.vm.isStatics = false ∧ s.vm.findClass (pm_y j).cls = some cellB.cls := by
                intro as2 r hpop hrec
                obtain ⟨lst, e1, e2, e3⟩ := pm_pop_eq _ _ _ _ _ hpop
                simp only [List.append_nil] at e3
                have hlst : lst = as2.reverse := by rw [e3, List.reverse_reverse]
                cases as2 with
                | nil => simp [pm_recv] at hrec
                | cons v0 as3 =>
                  cases v0 with
                  | ref q =>
                    have hT : H.1.1 q = (0, pm_ow j) := pm_is_eq hrec
                    have hcell : ∃ t, pm_rv sa base q = .ref t ∧ ∃ cellB : Cell, Hp[t]? = some cellB ∧ cellB.vm.isStatics = false ∧ s.vm.findClass (pm_y j).cls = some cellB.cls := by
                      rw [y5]
                      rcases pm_lo5 hf hT with ⟨h8, h12⟩ | ⟨h5, h12⟩
                      · refine ⟨_, pm_rv_hi h8, ?_⟩
                        have hget := pm_ws_get (pm_rv sa base) cs base H h8 (hf.lt (by rw [hT]; exact (by decide : (0 : Nat) ≠ 9)))
                        have hcl : pm_cell (pm_rv sa base) cs H q = .inr (pm_ow j, pm_fs (pm_rv sa base) H q (pm_ow j)) := by unfold pm_cell; rw [hT]; rfl
                        rw [hcl] at hget
                        exact va_recv hKs hP (pm_clk _ h12) hget
                      · rw [h5, h12]
                        obtain ⟨u, w2, z1, z2, z3, -⟩ := hSt.2.1
                        obtain ⟨cell, k1, k2, k3, -⟩ := z3.kept (fun a h1 h2 => hS.2.1 a h1 h2)
                        exact ⟨u, by rw [pm_rv_lo (by decide)]; exact z1, cell, k1, k2, k3⟩
                    obtain ⟨t, ht, hcB⟩ := hcell
                    refine ⟨t, as3.map (pm_cv (pm_rv sa base)), by rw [List.map_cons, pm_cvr, ht], ?_, ?_, hcB⟩
                    · have := congrArg List.length e3
                      simp only [List.length_cons, List.length_reverse, e2] at this
                      rw [List.length_map]
                      omega
                    · rw [e1, hlst, List.map_append, List.map_reverse, List.map_cons, List.reverse_cons, pm_cvr, ht, List.append_assoc]
                      rfl
                  | _ => simp [pm_recv] at hrec
              rcases hcase with ⟨rfl, hca⟩ | ⟨rfl, hca⟩ | ⟨rfl, hca⟩
              · obtain ⟨as2, r, hpop, hcr, hrec, hq⟩ := pm_call_inv hca
                simp only [Option.some.injEq, Sum.inr.injEq, Sum.inl.injEq, Prod.mk.injEq] at hq
                obtain ⟨rfl, rfl, rfl⟩ := hq
                obtain rfl : len = 3 := Nat.eq_of_beq_eq_true hln
                simp only [pm_okI, Bool.or_eq_true, Bool.and_eq_true, Bool.not_eq_true', decide_eq_true_eq] at hok
                rcases hok with ⟨⟨⟨⟨⟨q1, q2⟩, q3⟩, q4⟩, q5⟩, q6⟩ | q1
                · have hj7 := Nat.blt_eq.mp q1
                  obtain rfl := Nat.eq_of_beq_eq_true q3
                  have hcc : cc.toNat = pm_ow j + 1 := by rw [q4]; rfl
                  rw [hcc] at hrec
                  have hmw := pm_mw_all j hj7
                  obtain ⟨t, As, u1, u2, u3, u4⟩ := inst as r hpop hrec
                  refine call r rfl hj7 hcr (fun mc ms _ _ hsz hrr hM => ?_) rfl
                  have hse : (Cond.selects (pm_y j).cls (pm_y j) (pm_y j)).before args s = true := by
                    rcases (hmw.2.2.2 q2).2 with z | z
                    · exact absurd z q5
                    · exact hts _ (pm_gwi z rfl)
                  rw [u1]
                  exact va_runV (C := (pm_y j).cls) hS0 hM ⟨hCB mc ms hmw ((pm_mword q6 hj7).1 rfl), hts _ (pm_gwi (hmw.2.2.2 q2).1 rfl), hse⟩ (b := t) (As := As) ⟨pm_Pc_blind as H, u4, by rw [← u1]; exact hPc hsz⟩ rfl u2 hsize u3 (hroomW r hcr) hdg hrr
                · exact absurd (Nat.eq_of_beq_eq_true q1) (by omega)
              · obtain ⟨as2, r, hpop, hcr, -, hq⟩ := pm_call_inv hca
                simp only [Option.some.injEq, Sum.inr.injEq, Sum.inl.injEq, Prod.mk.injEq] at hq
                obtain ⟨rfl, rfl, rfl⟩ := hq
                obtain rfl : len = 3 := Nat.eq_of_beq_eq_true hln
                simp only [pm_okI, Bool.or_eq_true, Bool.and_eq_true] at hok
                rcases hok with (⟨⟨⟨q1, q2⟩, q3⟩, q4⟩ | ⟨q1, -⟩) | q1
                · have hj7 := Nat.blt_eq.mp q1
                  obtain rfl := Nat.eq_of_beq_eq_true q3
                  have hmw := pm_mw_all j hj7
                  obtain ⟨lst, e1, e2, e3⟩ := pm_pop_eq _ _ _ _ _ hpop
                  simp only [List.append_nil] at e3
                  have hst : st.map (pm_cv (pm_rv sa base)) = (as.map (pm_cv (pm_rv sa base))).reverse ++ r.map (pm_cv (pm_rv sa base)) := by
                    rw [e1, e3, List.map_append, List.map_reverse, List.reverse_reverse]
                  have hn : (as.map (pm_cv (pm_rv sa base))).length = pm_np j := by rw [List.length_map, e3, List.length_reverse, e2]
                  refine call r rfl hj7 hcr (fun mc ms _ _ hsz hrr hM => ?_) rfl
                  rcases q4 with q4 | q4
                  · exact va_runS hS0 hM ⟨hCB mc ms hmw ((pm_mword q4 hj7).1 rfl), hts _ (pm_gwi (hmw.2.2.1 q2) rfl)⟩ ⟨pm_Pc_blind as H, hPc hsz⟩ rfl hn hsize hst (hroomW r hcr) hdg hrr
                  · exact va_runSN hS0 hM ⟨hCN mc ms hmw ((pm_mword q4 hj7).2 rfl), hts _ (pm_gwi (hmw.2.2.1 q2) rfl), trivial⟩ ⟨pm_Pc_blind as H, hPc hsz⟩ rfl hn hsize hst (hroomW r hcr) hdg hrr
                · exact absurd (Nat.eq_of_beq_eq_true q1) (by omega)
                · exact absurd (Nat.eq_of_beq_eq_true q1) (by omega)
              · obtain ⟨as2, r, hpop, hcr, hrec, hq⟩ := pm_call_inv hca
                simp only [Option.some.injEq, Sum.inr.injEq, Sum.inl.injEq, Prod.mk.injEq] at hq
                obtain ⟨rfl, rfl, rfl⟩ := hq
                obtain rfl : len = 3 := Nat.eq_of_beq_eq_true hln
                simp only [pm_okI, Bool.or_eq_true, Bool.and_eq_true, Bool.not_eq_true', decide_eq_true_eq] at hok
                rcases hok with (⟨⟨⟨⟨⟨⟨q1, q2⟩, q3⟩, q4⟩, q5⟩, q7⟩, q6⟩ | ⟨q1, -⟩) | ⟨⟨⟨⟨⟨⟨q1, q2⟩, q3⟩, q4⟩, q5⟩, q7⟩, q6⟩
                · have hj7 := Nat.blt_eq.mp q1
                  obtain rfl := Nat.eq_of_beq_eq_true q3
                  have hcc : cc.toNat = pm_ow j + 1 := by rw [q4]; rfl
                  rw [hcc] at hrec
                  have hmw := pm_mw_all j hj7
                  obtain ⟨t, As, u1, u2, u3, u4⟩ := inst as r hpop hrec
                  refine call r rfl hj7 hcr (fun mc ms _ _ hsz hrr hM => ?_) rfl
                  have hcb := hCB mc ms hmw ((pm_mword q6 hj7).1 rfl)
                  rw [q7] at hcb
                  rw [u1]
                  exact va_runI hS0 hM ⟨hcb, q5, hts _ (pm_gwi (hmw.2.2.2 q2).1 rfl)⟩ (b := t) (As := As) ⟨pm_Pc_blind as H, by rw [← u1]; exact hPc hsz⟩ rfl u2 hsize u3 (hroomW r hcr) hdg hrr
                · exact absurd (Nat.eq_of_beq_eq_true q1) (by omega)
                · have hj7 := Nat.blt_eq.mp q1
                  obtain rfl := Nat.eq_of_beq_eq_true q3
                  have hcc : cc.toNat = pm_ow j + 1 := by rw [q4]; rfl
                  rw [hcc] at hrec
                  have hmw := pm_mw_all j hj7
                  obtain ⟨t, As, u1, u2, u3, u4⟩ := inst as r hpop hrec
                  refine call r rfl hj7 hcr (fun mc ms _ _ hsz hrr hM => ?_) rfl
                  have hcb := hCN mc ms hmw ((pm_mword q6 hj7).2 rfl)
                  rw [q7] at hcb
                  rw [u1]
                  exact va_runIN hS0 hM ⟨hcb, q5, hts _ (pm_gwi (hmw.2.2.2 q2).1 rfl)⟩ (b := t) (As := As) ⟨pm_Pc_blind as H, by rw [← u1]; exact hPc hsz⟩ rfl u2 hsize u3 (hroomW r hcr) hdg hrr
          next => cases h
      next bb v0 w0 H0 hs =>
        split at h
        next hb =>
          cases h
          have hHH := pm_reH hs
          subst hHH
          refine pm_stepAll hC hsa h0 hR1 hdg hln hok hs hAt hct (room _ ⟨hf, Nat.le_refl _, Nat.le_refl _⟩) ⟨hb, ?_⟩
          simp only [Nat.sub_self, Nat.add_zero] at F
          exact F
        next => cases h
end PMN
