/-! SMALL METHODS. -/
theorem pm_ct_i (a : Int32) : (Value.int a).category = 1 := rfl
theorem pm_ct_l (a : Int64) : (Value.long a).category = 2 := rfl
theorem pm_ct_r (a : Nat) : (Value.ref a).category = 1 := rfl
theorem pm_bifit (b : Bool) : (pm_bi b = 0 ∨ pm_bi b = 1) := by cases b <;> simp [pm_bi]
theorem pm_bi0 (b : Bool) : (pm_bi b = 0) = (b = false) := by cases b <;> simp [pm_bi]
theorem pm_ss_X_isWithin {d : Nat} {a b c : Int32} {H : pm_H} {Q : Int32 → Int64 → pm_H → Prop} (hq : Q (pm_bi (decide (b ≤ a) && decide (a ≤ c))) 0 H) : pm_wc pm_code pm_meta d 112 [.int a, .int b, .int c] H Q := by
  have e14 : pm_drop 14 (pm_code 112) = [(14, .iconst 0, 1, 0, 0, 0), (15, .ireturn, 1, 1, 0, 0)] := rfl
  have e15 : pm_drop 15 (pm_code 112) = [(15, .ireturn, 1, 1, 0, 0)] := rfl
  refine pm_go_sound (sp := []) (by decide +kernel) 60 0 _ ?_
  show pm_go pm_code pm_meta [] d 112 Q 60 pc_X_isWithin ([.int a, .int b, .int c], [], H)
  simp [pc_X_isWithin, pm_f3, pm_f2, pm_go, pm_step, pm_load, pm_loada, pm_get, pm_put, pm_ald, pm_ast_eq, pm_i2, pm_stor, pm_set1, pm_islong, pm_icnd, pm_icmp, pm_is, pm_fv, pm_has, pm_psh, pm_swg, pm_ret, pm_retv, pm_fit, pm_s0, e14, e15]
  rcases pm_dich a b with ⟨a1, b1⟩ | ⟨a1, b1⟩ <;> rcases pm_dich c a with ⟨a2, b2⟩ | ⟨a2, b2⟩ <;> simp [a1, b1, a2, b2, pm_bi] at hq ⊢ <;> exact hq
theorem pm_si_X_isWithin {d : Nat} {a b c : Int32} {H : pm_H} {Q : Int32 → Int64 → pm_H → Prop} : pm_wc pm_code pm_meta d 112 [.int a, .int b, .int c] H Q ↔ Q (pm_bi (decide (b ≤ a) && decide (a ≤ c))) 0 H := pm_wc_iff (fun _ h => pm_ss_X_isWithin h) Q
theorem pm_ss_R_in {d : Nat} {a b c : Int32} {H : pm_H} {Q : Int32 → Int64 → pm_H → Prop} (hq : Q (pm_bi (decide (b ≤ a) && decide (a ≤ c))) 0 H) : pm_wc pm_code pm_meta d 175 [.int a, .int b, .int c] H Q := by
  have e14 : pm_drop 14 (pm_code 175) = [(14, .iconst 0, 1, 0, 0, 0), (15, .ireturn, 1, 1, 0, 0)] := rfl
  have e15 : pm_drop 15 (pm_code 175) = [(15, .ireturn, 1, 1, 0, 0)] := rfl
  refine pm_go_sound (sp := []) (by decide +kernel) 60 0 _ ?_
  show pm_go pm_code pm_meta [] d 175 Q 60 pc_R_in ([.int a, .int b, .int c], [], H)
  simp [pc_R_in, pm_f3, pm_f2, pm_go, pm_step, pm_load, pm_loada, pm_get, pm_put, pm_ald, pm_ast_eq, pm_i2, pm_stor, pm_set1, pm_islong, pm_icnd, pm_icmp, pm_is, pm_fv, pm_has, pm_psh, pm_swg, pm_ret, pm_retv, pm_fit, pm_s0, e14, e15]
  rcases pm_dich a b with ⟨a1, b1⟩ | ⟨a1, b1⟩ <;> rcases pm_dich c a with ⟨a2, b2⟩ | ⟨a2, b2⟩ <;> simp [a1, b1, a2, b2, pm_bi] at hq ⊢ <;> exact hq
theorem pm_si_R_in {d : Nat} {a b c : Int32} {H : pm_H} {Q : Int32 → Int64 → pm_H → Prop} : pm_wc pm_code pm_meta d 175 [.int a, .int b, .int c] H Q ↔ Q (pm_bi (decide (b ≤ a) && decide (a ≤ c))) 0 H := pm_wc_iff (fun _ h => pm_ss_R_in h) Q
theorem pm_m3_X_isDay : pm_meta 112 = (3, 1) := rfl
theorem pm_ss_X_isDay {d : Nat} {a : Int32} {H : pm_H} {Q : Int32 → Int64 → pm_H → Prop} (hq : Q (pm_bi (decide (0 ≤ a) && decide (a ≤ 3599))) 0 H) : pm_wc pm_code pm_meta (d + 1) 113 [.int a] H Q := by
  refine pm_gw2_sound (sp := []) (by decide +kernel) 90 0 _ ?_
  show pm_gw2 pm_code pm_meta [] (d + 1) 113 Q 90 pc_X_isDay ([.int a], [], H)
  simp [pc_X_isDay, pm_f3, pm_f2, pm_gw2, pm_step, pm_load, pm_loada, pm_get, pm_put, pm_ald, pm_ast_eq, pm_i2, pm_stor, pm_set1, pm_islong, pm_icnd, pm_icmp, pm_is, pm_fv, pm_has, pm_psh, pm_swg, pm_ret, pm_retv, pm_fit, pm_s0, pm_ct_i, pm_ct_l, pm_ct_r, pm_bifit, pm_bi0, pm_call, pm_pop, pm_cat, pm_recv, pm_args, pm_push, pm_si_X_isWithin, pm_m3_X_isDay]
  exact hq
theorem pm_si_X_isDay {d : Nat} {a : Int32} {H : pm_H} {Q : Int32 → Int64 → pm_H → Prop} : pm_wc pm_code pm_meta (d + 1) 113 [.int a] H Q ↔ Q (pm_bi (decide (0 ≤ a) && decide (a ≤ 3599))) 0 H := pm_wc_iff (fun _ h => pm_ss_X_isDay h) Q
theorem pm_m3_R_isDay : pm_meta 175 = (3, 1) := rfl
theorem pm_ss_R_isDay {d : Nat} {a : Int32} {H : pm_H} {Q : Int32 → Int64 → pm_H → Prop} (hq : Q (pm_bi (decide (0 ≤ a) && decide (a ≤ 3599))) 0 H) : pm_wc pm_code pm_meta (d + 1) 182 [.int a] H Q := by
  refine pm_gw2_sound (sp := []) (by decide +kernel) 90 0 _ ?_
  show pm_gw2 pm_code pm_meta [] (d + 1) 182 Q 90 pc_R_isDay ([.int a], [], H)
  simp [pc_R_isDay, pm_f3, pm_f2, pm_gw2, pm_step, pm_load, pm_loada, pm_get, pm_put, pm_ald, pm_ast_eq, pm_i2, pm_stor, pm_set1, pm_islong, pm_icnd, pm_icmp, pm_is, pm_fv, pm_has, pm_psh, pm_swg, pm_ret, pm_retv, pm_fit, pm_s0, pm_ct_i, pm_ct_l, pm_ct_r, pm_bifit, pm_bi0, pm_call, pm_pop, pm_cat, pm_recv, pm_args, pm_push, pm_si_R_in, pm_m3_R_isDay]
  exact hq
theorem pm_si_R_isDay {d : Nat} {a : Int32} {H : pm_H} {Q : Int32 → Int64 → pm_H → Prop} : pm_wc pm_code pm_meta (d + 1) 182 [.int a] H Q ↔ Q (pm_bi (decide (0 ≤ a) && decide (a ≤ 3599))) 0 H := pm_wc_iff (fun _ h => pm_ss_R_isDay h) Q
theorem pm_T79 {L : Nat} {b : Bool} : pm_Tb L b 79 = (0, 11) := rfl
theorem pm_T80 {L : Nat} {b : Bool} : pm_Tb L b 80 = (1, 16) := rfl
theorem pm_T82 {L : Nat} {b : Bool} : pm_Tb L b 82 = (1, 16) := rfl
theorem pm_T83 {L : Nat} {b : Bool} : pm_Tb L b 83 = (1, 16) := rfl
theorem pm_O79_0 {b : Bool} : pm_Ob b 79 0 = 80 := rfl
theorem pm_O79_2 {b : Bool} : pm_Ob b 79 2 = 82 := rfl
theorem pm_O79_3 {b : Bool} : pm_Ob b 79 3 = 83 := rfl
theorem pm_m1_182 : pm_meta 182 = (1, 1) := rfl
theorem pm_tt_R_person {d L nx sl : Nat} {b : Bool} {I : Nat → Nat → Int32} {J : Nat → Nat → Int64} {a : Int32} {Q : Int32 → Int64 → pm_H → Prop} : pm_wc pm_code pm_meta (d + 2) 195 [.ref 79, .int a] ((pm_Tb L b, pm_Ob b, nx, sl), I, J) Q := by
  have e9 : pm_drop 9 (pm_code 195) = [(9, .aload_n 0, 1, 0, 0, 0), (10, .getfield 7, 3, 11, 0, 3), (13, .iconst 1, 1, 0, 0, 0), (14, .iaload, 1, 0, 0, 0), (15, .bipush 16, 2, 0, 0, 0), (17, .if_icmp .ne 6, 3, 23, 0, 0), (20, .bipush (-2), 2, 0, 0, 0), (22, .ireturn, 1, 0, 0, 0), (23, .aload_n 0, 1, 0, 0, 0), (24, .getfield 16, 3, 11, 2, 3), (27, .aload_n 0, 1, 0, 0, 0), (28, .getfield 7, 3, 11, 0, 3), (31, .iconst 1, 1, 0, 0, 0), (32, .iaload, 1, 0, 0, 0), (33, .iload_n 1, 1, 0, 0, 0), (34, .iastore, 1, 0, 0, 0), (35, .aload_n 0, 1, 0, 0, 0), (36, .getfield 19, 3, 11, 3, 3), (39, .aload_n 0, 1, 0, 0, 0), (40, .getfield 7, 3, 11, 0, 3), (43, .iconst 1, 1, 0, 0, 0), (44, .iaload, 1, 0, 0, 0), (45, .iconst (-1), 1, 0, 0, 0), (46, .iastore, 1, 0, 0, 0), (47, .aload_n 0, 1, 0, 0, 0), (48, .getfield 7, 3, 11, 0, 3), (51, .iconst 1, 1, 0, 0, 0), (52, .dup2, 1, 0, 0, 0), (53, .iaload, 1, 0, 0, 0), (54, .iconst 1, 1, 0, 0, 0), (55, .iadd, 1, 0, 0, 0), (56, .iastore, 1, 0, 0, 0), (57, .aload_n 0, 1, 0, 0, 0), (58, .getfield 7, 3, 11, 0, 3), (61, .iconst 1, 1, 0, 0, 0), (62, .iaload, 1, 0, 0, 0), (63, .iconst 1, 1, 0, 0, 0), (64, .isub, 1, 0, 0, 0), (65, .ireturn, 1, 0, 0, 0)] := rfl
  have e23 : pm_drop 23 (pm_code 195) = [(23, .aload_n 0, 1, 0, 0, 0), (24, .getfield 16, 3, 11, 2, 3), (27, .aload_n 0, 1, 0, 0, 0), (28, .getfield 7, 3, 11, 0, 3), (31, .iconst 1, 1, 0, 0, 0), (32, .iaload, 1, 0, 0, 0), (33, .iload_n 1, 1, 0, 0, 0), (34, .iastore, 1, 0, 0, 0), (35, .aload_n 0, 1, 0, 0, 0), (36, .getfield 19, 3, 11, 3, 3), (39, .aload_n 0, 1, 0, 0, 0), (40, .getfield 7, 3, 11, 0, 3), (43, .iconst 1, 1, 0, 0, 0), (44, .iaload, 1, 0, 0, 0), (45, .iconst (-1), 1, 0, 0, 0), (46, .iastore, 1, 0, 0, 0), (47, .aload_n 0, 1, 0, 0, 0), (48, .getfield 7, 3, 11, 0, 3), (51, .iconst 1, 1, 0, 0, 0), (52, .dup2, 1, 0, 0, 0), (53, .iaload, 1, 0, 0, 0), (54, .iconst 1, 1, 0, 0, 0), (55, .iadd, 1, 0, 0, 0), (56, .iastore, 1, 0, 0, 0), (57, .aload_n 0, 1, 0, 0, 0), (58, .getfield 7, 3, 11, 0, 3), (61, .iconst 1, 1, 0, 0, 0), (62, .iaload, 1, 0, 0, 0), (63, .iconst 1, 1, 0, 0, 0), (64, .isub, 1, 0, 0, 0), (65, .ireturn, 1, 0, 0, 0)] := rfl
  refine pm_gw2_sound (sp := []) (by decide +kernel) 90 0 _ ?_
  show pm_gw2 pm_code pm_meta [] (d + 2) 195 Q 90 pc_R_person ([.ref 79, .int a], [], ((pm_Tb L b, pm_Ob b, nx, sl), I, J))
  simp [pc_R_person, pm_f3, pm_f2, pm_gw2, pm_step, pm_load, pm_loada, pm_get, pm_put, pm_ald, pm_ast_eq, pm_i2, pm_stor, pm_set1, pm_islong, pm_icnd, pm_icmp, pm_is, pm_fv, pm_has, pm_psh, pm_swg, pm_ret, pm_retv, pm_fit, pm_s0, pm_ct_i, pm_ct_l, pm_ct_r, pm_bifit, pm_bi0, pm_call, pm_pop, pm_cat, pm_recv, pm_args, pm_push, pm_si_R_isDay, pm_m1_182, pm_T79, pm_T80, pm_T82, pm_T83, pm_O79_0, pm_O79_2, pm_O79_3, pm_okr, e9, e23]
  trace_state
  sorry
