/-! TABLES: what the methods of a table come to. A table t: its cells c, n of them, w to a row. -/
def pm_tb (H : pm_H) (t c n : Nat) (w : Int32) : Prop := H.1.1 t = (0, 8) ∧ 8 ≤ t ∧ H.1.2.1 t 0 = c ∧ H.1.1 c = (1, n) ∧ 8 ≤ c ∧ H.2.1 t 1 = w
theorem pm_okr8 {t : Nat} (h : 8 ≤ t) : pm_okr t = true := by
  unfold pm_okr
  rw [Nat.ble_eq_true_of_le h]
  rfl
theorem pm_f3 : ((3 : Fin 4) : Nat) = 3 := rfl
theorem pm_f2 : ((2 : Fin 4) : Nat) = 2 := rfl
theorem pm_ast_eq {ls r : List Value} {v i : Int32} {a t : Nat} {f : Int32 → Int32} {H : pm_H} : pm_ast (ls, .int v :: .int i :: .ref a :: r, H) t f = if Nat.beq (H.1.1 a).1 t && Nat.ble pm_s0 a then pm_rq (pm_in i (H.1.1 a).2) (ls, r, H.1, pm_u H.2.1 a i.toNatClampNeg (f v), H.2.2) else none := rfl
def pm_bi (b : Bool) : Int32 := if b then 1 else 0
theorem pm_dich (x y : Int32) : ((x < y) = True ∧ (y ≤ x) = False) ∨ ((x < y) = False ∧ (y ≤ x) = True) := by
  by_cases h : x < y
  · exact Or.inl ⟨eq_true h, eq_false (Int32.not_le.mpr h)⟩
  · exact Or.inr ⟨eq_false h, eq_true (Int32.not_lt.mp h)⟩
def pm_tin (r k cnt w : Int32) : Bool := decide (0 ≤ r) && decide (r < cnt) && decide (0 ≤ k) && decide (k < w)
theorem pm_ts_has {d t c n : Nat} {w r : Int32} {H : pm_H} {Q : Int32 → Int64 → pm_H → Prop} (h : pm_tb H t c n w) (hq : Q (pm_bi (decide (0 ≤ r) && decide (r < H.2.1 t 3))) 0 H) : pm_wc pm_code pm_meta d 81 [.ref t, .int r] H Q := by
  obtain ⟨h1, h2, h3, h4, h5, h6⟩ := h
  have hk := pm_okr8 h2
  have hk2 := pm_okr8 h5
  have b8 : Nat.ble 8 t = true := Nat.ble_eq_true_of_le h2
  have b9 : Nat.ble 8 c = true := Nat.ble_eq_true_of_le h5
  have e16 : pm_drop 16 (pm_code 81) = [(16, .iconst 0, 1, 0, 0, 0), (17, .ireturn, 1, 1, 0, 0)] := rfl
  have e17 : pm_drop 17 (pm_code 81) = [(17, .ireturn, 1, 1, 0, 0)] := rfl
  refine pm_go_sound (sp := []) (by decide +kernel) 60 0 _ ?_
  show pm_go pm_code pm_meta [] d 81 Q 60 pc_Table_has ([.ref t, .int r], [], H)
  simp [pc_Table_has, pm_f3, pm_f2, pm_go, pm_step, pm_load, pm_loada, pm_get, pm_put, pm_ald, pm_ast_eq, pm_i2, pm_stor, pm_set1, pm_islong, pm_icnd, pm_icmp, pm_is, pm_fv, pm_has, pm_psh, pm_swg, pm_ret, pm_retv, pm_fit, pm_s0, h1, h2, h5, h3, h4, h6, hk, hk2, b8, b9, e16, e17]
  rcases pm_dich r 0 with ⟨a1, b1⟩ | ⟨a1, b1⟩ <;> rcases pm_dich r (H.2.1 t 3) with ⟨a2, b2⟩ | ⟨a2, b2⟩ <;> simp [a1, b1, a2, b2, pm_bi] at hq ⊢ <;> exact hq
theorem pm_ts_full {d t c n : Nat} {w : Int32} {H : pm_H} {Q : Int32 → Int64 → pm_H → Prop} (h : pm_tb H t c n w) (hq : Q (pm_bi (decide (H.2.1 t 2 ≤ H.2.1 t 3))) 0 H) : pm_wc pm_code pm_meta d 82 [.ref t] H Q := by
  obtain ⟨h1, h2, h3, h4, h5, h6⟩ := h
  have hk := pm_okr8 h2
  have hk2 := pm_okr8 h5
  have b8 : Nat.ble 8 t = true := Nat.ble_eq_true_of_le h2
  have b9 : Nat.ble 8 c = true := Nat.ble_eq_true_of_le h5
  have e15 : pm_drop 15 (pm_code 82) = [(15, .iconst 0, 1, 0, 0, 0), (16, .ireturn, 1, 1, 0, 0)] := rfl
  have e16 : pm_drop 16 (pm_code 82) = [(16, .ireturn, 1, 1, 0, 0)] := rfl
  refine pm_go_sound (sp := []) (by decide +kernel) 60 0 _ ?_
  show pm_go pm_code pm_meta [] d 82 Q 60 pc_Table_isFull ([.ref t], [], H)
  simp [pc_Table_isFull, pm_f3, pm_f2, pm_go, pm_step, pm_load, pm_loada, pm_get, pm_put, pm_ald, pm_ast_eq, pm_i2, pm_stor, pm_set1, pm_islong, pm_icnd, pm_icmp, pm_is, pm_fv, pm_has, pm_psh, pm_swg, pm_ret, pm_retv, pm_fit, pm_s0, h1, h2, h5, h3, h4, h6, hk, hk2, b8, b9, e15, e16]
  rcases pm_dich (H.2.1 t 3) (H.2.1 t 2) with ⟨a1, b1⟩ | ⟨a1, b1⟩ <;> simp [a1, b1, pm_bi] at hq ⊢ <;> exact hq
theorem pm_ts_get {d t c n : Nat} {w r k : Int32} {H : pm_H} {Q : Int32 → Int64 → pm_H → Prop} (h : pm_tb H t c n w) (hin : pm_tin r k (H.2.1 t 3) w = true → pm_in (r * w + k) n = true) (hq : Q (if pm_tin r k (H.2.1 t 3) w then H.2.1 c (r * w + k).toNatClampNeg else 0) 0 H) : pm_wc pm_code pm_meta d 83 [.ref t, .int r, .int k] H Q := by
  obtain ⟨h1, h2, h3, h4, h5, h6⟩ := h
  have hk := pm_okr8 h2
  have hk2 := pm_okr8 h5
  have b8 : Nat.ble 8 t = true := Nat.ble_eq_true_of_le h2
  have b9 : Nat.ble 8 c = true := Nat.ble_eq_true_of_le h5
  have e24 : pm_drop 24 (pm_code 83) = [(24, .iconst 0, 1, 0, 0, 0), (25, .ireturn, 1, 0, 0, 0), (26, .aload_n 0, 1, 0, 0, 0), (27, .getfield 18, 3, 8, 0, 3), (30, .iload_n 1, 1, 0, 0, 0), (31, .aload_n 0, 1, 0, 0, 0), (32, .getfield 15, 3, 8, 1, 0), (35, .imul, 1, 0, 0, 0), (36, .iload_n 2, 1, 0, 0, 0), (37, .iadd, 1, 0, 0, 0), (38, .iaload, 1, 0, 0, 0), (39, .ireturn, 1, 0, 0, 0)] := rfl
  have e26 : pm_drop 26 (pm_code 83) = [(26, .aload_n 0, 1, 0, 0, 0), (27, .getfield 18, 3, 8, 0, 3), (30, .iload_n 1, 1, 0, 0, 0), (31, .aload_n 0, 1, 0, 0, 0), (32, .getfield 15, 3, 8, 1, 0), (35, .imul, 1, 0, 0, 0), (36, .iload_n 2, 1, 0, 0, 0), (37, .iadd, 1, 0, 0, 0), (38, .iaload, 1, 0, 0, 0), (39, .ireturn, 1, 0, 0, 0)] := rfl
  refine pm_go_sound (sp := []) (by decide +kernel) 60 0 _ ?_
  show pm_go pm_code pm_meta [] d 83 Q 60 pc_Table_get ([.ref t, .int r, .int k], [], H)
  simp [pc_Table_get, pm_f3, pm_f2, pm_go, pm_step, pm_load, pm_loada, pm_get, pm_put, pm_ald, pm_ast_eq, pm_i2, pm_stor, pm_set1, pm_islong, pm_icnd, pm_icmp, pm_is, pm_fv, pm_has, pm_psh, pm_swg, pm_ret, pm_retv, pm_fit, pm_s0, h1, h2, h5, h3, h4, h6, hk, hk2, b8, b9, e24, e26]
  rcases pm_dich r 0 with ⟨a1, b1⟩ | ⟨a1, b1⟩ <;> rcases pm_dich r (H.2.1 t 3) with ⟨a2, b2⟩ | ⟨a2, b2⟩ <;> rcases pm_dich k 0 with ⟨a3, b3⟩ | ⟨a3, b3⟩ <;> rcases pm_dich k w with ⟨a4, b4⟩ | ⟨a4, b4⟩ <;> simp [a1, b1, a2, b2, a3, b3, a4, b4, pm_tin] at hin hq ⊢ <;> first | exact hq | exact ⟨hin, hq⟩
theorem pm_ts_set {d t c n : Nat} {w r k v : Int32} {H : pm_H} {Q : Int32 → Int64 → pm_H → Prop} (h : pm_tb H t c n w) (hin : pm_tin r k (H.2.1 t 3) w = true → pm_in (r * w + k) n = true) (hq : Q 0 0 (if pm_tin r k (H.2.1 t 3) w then (H.1, pm_u H.2.1 c (r * w + k).toNatClampNeg v, H.2.2) else H)) : pm_wc pm_code pm_meta d 84 [.ref t, .int r, .int k, .int v] H Q := by
  obtain ⟨h1, h2, h3, h4, h5, h6⟩ := h
  have hk := pm_okr8 h2
  have hk2 := pm_okr8 h5
  have b8 : Nat.ble 8 t = true := Nat.ble_eq_true_of_le h2
  have b9 : Nat.ble 8 c = true := Nat.ble_eq_true_of_le h5
  have e24 : pm_drop 24 (pm_code 84) = [(24, .return_, 1, 0, 0, 0), (25, .aload_n 0, 1, 0, 0, 0), (26, .getfield 18, 3, 8, 0, 3), (29, .iload_n 1, 1, 0, 0, 0), (30, .aload_n 0, 1, 0, 0, 0), (31, .getfield 15, 3, 8, 1, 0), (34, .imul, 1, 0, 0, 0), (35, .iload_n 2, 1, 0, 0, 0), (36, .iadd, 1, 0, 0, 0), (37, .iload_n 3, 1, 0, 0, 0), (38, .iastore, 1, 0, 0, 0), (39, .return_, 1, 0, 0, 0)] := rfl
  have e25 : pm_drop 25 (pm_code 84) = [(25, .aload_n 0, 1, 0, 0, 0), (26, .getfield 18, 3, 8, 0, 3), (29, .iload_n 1, 1, 0, 0, 0), (30, .aload_n 0, 1, 0, 0, 0), (31, .getfield 15, 3, 8, 1, 0), (34, .imul, 1, 0, 0, 0), (35, .iload_n 2, 1, 0, 0, 0), (36, .iadd, 1, 0, 0, 0), (37, .iload_n 3, 1, 0, 0, 0), (38, .iastore, 1, 0, 0, 0), (39, .return_, 1, 0, 0, 0)] := rfl
  refine pm_go_sound (sp := []) (by decide +kernel) 60 0 _ ?_
  show pm_go pm_code pm_meta [] d 84 Q 60 pc_Table_set ([.ref t, .int r, .int k, .int v], [], H)
  simp [pc_Table_set, pm_f3, pm_f2, pm_go, pm_step, pm_load, pm_loada, pm_get, pm_put, pm_ald, pm_ast_eq, pm_i2, pm_stor, pm_set1, pm_islong, pm_icnd, pm_icmp, pm_is, pm_fv, pm_has, pm_psh, pm_swg, pm_ret, pm_retv, pm_fit, pm_s0, h1, h2, h5, h3, h4, h6, hk, hk2, b8, b9, e24, e25]
  rcases pm_dich r 0 with ⟨a1, b1⟩ | ⟨a1, b1⟩ <;> rcases pm_dich r (H.2.1 t 3) with ⟨a2, b2⟩ | ⟨a2, b2⟩ <;> rcases pm_dich k 0 with ⟨a3, b3⟩ | ⟨a3, b3⟩ <;> rcases pm_dich k w with ⟨a4, b4⟩ | ⟨a4, b4⟩ <;> simp [a1, b1, a2, b2, a3, b3, a4, b4, pm_tin] at hin hq ⊢ <;> first | exact hq | exact ⟨hin, hq⟩
theorem pm_ts_cut {d t c n : Nat} {w r : Int32} {H : pm_H} {Q : Int32 → Int64 → pm_H → Prop} (h : pm_tb H t c n w) (hq : Q 0 0 (if decide (0 ≤ r) && decide (r < H.2.1 t 3) then (H.1, pm_u H.2.1 t 3 r, H.2.2) else H)) : pm_wc pm_code pm_meta d 87 [.ref t, .int r] H Q := by
  obtain ⟨h1, h2, h3, h4, h5, h6⟩ := h
  have hk := pm_okr8 h2
  have hk2 := pm_okr8 h5
  have b8 : Nat.ble 8 t = true := Nat.ble_eq_true_of_le h2
  have b9 : Nat.ble 8 c = true := Nat.ble_eq_true_of_le h5
  have e17 : pm_drop 17 (pm_code 87) = [(17, .return_, 1, 0, 0, 0)] := rfl
  refine pm_go_sound (sp := []) (by decide +kernel) 60 0 _ ?_
  show pm_go pm_code pm_meta [] d 87 Q 60 pc_Table_cut ([.ref t, .int r], [], H)
  simp [pc_Table_cut, pm_f3, pm_f2, pm_go, pm_step, pm_load, pm_loada, pm_get, pm_put, pm_ald, pm_ast_eq, pm_i2, pm_stor, pm_set1, pm_islong, pm_icnd, pm_icmp, pm_is, pm_fv, pm_has, pm_psh, pm_swg, pm_ret, pm_retv, pm_fit, pm_s0, h1, h2, h5, h3, h4, h6, hk, hk2, b8, b9, e17]
  rcases pm_dich r 0 with ⟨a1, b1⟩ | ⟨a1, b1⟩ <;> rcases pm_dich r (H.2.1 t 3) with ⟨a2, b2⟩ | ⟨a2, b2⟩ <;> simp [a1, b1, a2, b2] at hq ⊢ <;> exact hq
