/-! WHAT A STEP ASKS. -/
section PMI
variable {lo st : List Value} {H : pm_H} {o : pm_out}
theorem pm_load_inv {i : Nat} (h : pm_load i (lo, st, H) = some o) : ∃ v, lo[i]? = some (.int v) ∧ o = .inl (lo, .int v :: st, H) := by
  simp only [pm_load] at h
  split at h
  · cases h; exact ⟨_, by assumption, rfl⟩
  · cases h
theorem pm_loadl_inv {i : Nat} (h : pm_loadl i (lo, st, H) = some o) : ∃ v, lo[i]? = some (.long v) ∧ o = .inl (lo, .long v :: st, H) := by
  simp only [pm_loadl] at h
  split at h
  · cases h; exact ⟨_, by assumption, rfl⟩
  · cases h
theorem pm_loada_inv {i : Nat} (h : pm_loada i (lo, st, H) = some o) : ∃ v, lo[i]? = some (.ref v) ∧ pm_okr v = true ∧ o = .inl (lo, .ref v :: st, H) := by
  simp only [pm_loada] at h
  split at h
  · split at h
    · cases h; exact ⟨_, by assumption, by assumption, rfl⟩
    · cases h
  · cases h
theorem pm_stor_inv {i : Nat} (h : pm_stor i (lo, st, H) = some o) : ∃ v r, st = .int v :: r ∧ i < lo.length ∧ o = .inl (pm_set1 lo i (.int v), r, H) := by
  simp only [pm_stor] at h
  split at h
  · split at h
    · cases h; exact ⟨_, _, rfl, by assumption, rfl⟩
    · cases h
  · cases h
theorem pm_storl_inv {i : Nat} (h : pm_storl i (lo, st, H) = some o) : ∃ v r, st = .long v :: r ∧ i + 1 < lo.length ∧ o = .inl (pm_set2 lo i (.long v), r, H) := by
  simp only [pm_storl] at h
  split at h
  · split at h
    · cases h; exact ⟨_, _, rfl, by assumption, rfl⟩
    · cases h
  · cases h
theorem pm_stora_inv {i : Nat} (h : pm_stora i (lo, st, H) = some o) : ∃ v r, st = .ref v :: r ∧ i < lo.length ∧ pm_okr v = true ∧ o = .inl (pm_set1 lo i (.ref v), r, H) := by
  simp only [pm_stora] at h
  split at h
  · split at h
    next hb =>
      cases h
      simp only [Bool.and_eq_true, decide_eq_true_eq] at hb
      exact ⟨_, _, rfl, hb.1, hb.2, rfl⟩
    · cases h
  · cases h
theorem pm_i2_inv {f : Int32 → Int32 → Int32} (h : pm_i2 (lo, st, H) f = some o) : ∃ b a r, st = .int b :: .int a :: r ∧ o = .inl (lo, .int (f a b) :: r, H) := by
  simp only [pm_i2] at h
  split at h
  · cases h; exact ⟨_, _, _, rfl, rfl⟩
  · cases h
theorem pm_l2_inv {f : Int64 → Int64 → Int64} (h : pm_l2 (lo, st, H) f = some o) : ∃ b a r, st = .long b :: .long a :: r ∧ o = .inl (lo, .long (f a b) :: r, H) := by
  simp only [pm_l2] at h
  split at h
  · cases h; exact ⟨_, _, _, rfl, rfl⟩
  · cases h
theorem pm_ls_inv {f : Int64 → Int32 → Int64} (h : pm_ls (lo, st, H) f = some o) : ∃ b a r, st = .int b :: .long a :: r ∧ o = .inl (lo, .long (f a b) :: r, H) := by
  simp only [pm_ls] at h
  split at h
  · cases h; exact ⟨_, _, _, rfl, rfl⟩
  · cases h
theorem pm_i1_inv {f : Int32 → Int32} (h : pm_i1 (lo, st, H) f = some o) : ∃ a r, st = .int a :: r ∧ o = .inl (lo, .int (f a) :: r, H) := by
  simp only [pm_i1] at h
  split at h
  · cases h; exact ⟨_, _, rfl, rfl⟩
  · cases h
theorem pm_get_inv {ci fk ty : Nat} (h : pm_get (lo, st, H) ci fk ty = some o) : ∃ (a : Nat) (r : List Value), st = .ref a :: r ∧ pm_okr a = true ∧ H.1.1 a = (0, ci) ∧ o = .inl (lo, pm_fv H ty a fk :: r, H) := by
  simp only [pm_get] at h
  split at h
  · split at h
    next hb =>
      cases h
      simp only [Bool.and_eq_true] at hb
      exact ⟨_, _, rfl, hb.1, pm_is_eq hb.2, rfl⟩
    · cases h
  · cases h
theorem pm_put_inv {ci fk ty : Nat} (h : pm_put (lo, st, H) ci fk ty = some o) :
    (∃ v, ∃ (a : Nat) (r : List Value), ty = 0 ∧ st = .int v :: .ref a :: r ∧ H.1.1 a = (0, ci) ∧ 8 ≤ a ∧ o = .inl (lo, r, H.1, pm_u H.2.1 a fk v, H.2.2)) ∨
    (∃ v, ∃ (a : Nat) (r : List Value), ty = 1 ∧ st = .int v :: .ref a :: r ∧ H.1.1 a = (0, ci) ∧ 8 ≤ a ∧ o = .inr (.inl (v == 0 || v == 1, lo, r, H.1, pm_u H.2.1 a fk v, H.2.2))) ∨
    (∃ v, ∃ (a : Nat) (r : List Value), ty = 2 ∧ st = .long v :: .ref a :: r ∧ H.1.1 a = (0, ci) ∧ 8 ≤ a ∧ o = .inl (lo, r, H.1, H.2.1, pm_u H.2.2 a fk v)) ∨
    (∃ v, ∃ (a : Nat) (r : List Value), ty = 3 ∧ st = .ref v :: .ref a :: r ∧ H.1.1 a = (0, ci) ∧ 8 ≤ a ∧ o = .inl (lo, r, (H.1.1, pm_u H.1.2.1 a fk v, H.1.2.2), H.2)) := by
  simp only [pm_put] at h
  split at h
  · split at h
    next hb =>
      cases h
      simp only [Bool.and_eq_true] at hb
      exact Or.inl ⟨_, _, _, rfl, rfl, pm_is_eq hb.1, Nat.le_of_ble_eq_true hb.2, rfl⟩
    · cases h
  · split at h
    next hb =>
      cases h
      simp only [Bool.and_eq_true] at hb
      exact Or.inr (Or.inl ⟨_, _, _, rfl, rfl, pm_is_eq hb.1, Nat.le_of_ble_eq_true hb.2, rfl⟩)
    · cases h
  · split at h
    next hb =>
      cases h
      simp only [Bool.and_eq_true] at hb
      exact Or.inr (Or.inr (Or.inl ⟨_, _, _, rfl, rfl, pm_is_eq hb.1, Nat.le_of_ble_eq_true hb.2, rfl⟩))
    · cases h
  · split at h
    next hb =>
      cases h
      simp only [Bool.and_eq_true] at hb
      exact Or.inr (Or.inr (Or.inr ⟨_, _, _, rfl, rfl, pm_is_eq hb.1, Nat.le_of_ble_eq_true hb.2, rfl⟩))
    · cases h
  · cases h
theorem pm_ald_inv {t : Nat} (h : pm_ald (lo, st, H) t = some o) : ∃ (i : Int32) (a : Nat) (r : List Value), st = .int i :: .ref a :: r ∧ (H.1.1 a).1 = t ∧ o = .inr (.inl (pm_in i (H.1.1 a).2, lo, .int (H.2.1 a i.toNatClampNeg) :: r, H)) := by
  simp only [pm_ald] at h
  split at h
  · split at h
    next hb => cases h; exact ⟨_, _, _, rfl, Nat.eq_of_beq_eq_true hb, rfl⟩
    · cases h
  · cases h
theorem pm_ldl_inv (h : pm_ldl (lo, st, H) = some o) : ∃ (i : Int32) (a : Nat) (r : List Value), st = .int i :: .ref a :: r ∧ (H.1.1 a).1 = 3 ∧ o = .inr (.inl (pm_in i (H.1.1 a).2, lo, .long (H.2.2 a i.toNatClampNeg) :: r, H)) := by
  simp only [pm_ldl] at h
  split at h
  · split at h
    next hb => cases h; exact ⟨_, _, _, rfl, Nat.eq_of_beq_eq_true hb, rfl⟩
    · cases h
  · cases h
theorem pm_ast_inv {t : Nat} {f : Int32 → Int32} (h : pm_ast (lo, st, H) t f = some o) : ∃ (v : Int32) (i : Int32) (a : Nat) (r : List Value), st = .int v :: .int i :: .ref a :: r ∧ (H.1.1 a).1 = t ∧ 8 ≤ a ∧ o = .inr (.inl (pm_in i (H.1.1 a).2, lo, r, H.1, pm_u H.2.1 a i.toNatClampNeg (f v), H.2.2)) := by
  simp only [pm_ast] at h
  split at h
  · split at h
    next hb =>
      cases h
      simp only [Bool.and_eq_true] at hb
      exact ⟨_, _, _, _, rfl, Nat.eq_of_beq_eq_true hb.1, Nat.le_of_ble_eq_true hb.2, rfl⟩
    · cases h
  · cases h
theorem pm_stl_inv (h : pm_stl (lo, st, H) = some o) : ∃ (v : Int64) (i : Int32) (a : Nat) (r : List Value), st = .long v :: .int i :: .ref a :: r ∧ (H.1.1 a).1 = 3 ∧ 8 ≤ a ∧ o = .inr (.inl (pm_in i (H.1.1 a).2, lo, r, H.1, H.2.1, pm_u H.2.2 a i.toNatClampNeg v)) := by
  simp only [pm_stl] at h
  split at h
  · split at h
    next hb =>
      cases h
      simp only [Bool.and_eq_true] at hb
      exact ⟨_, _, _, _, rfl, Nat.eq_of_beq_eq_true hb.1, Nat.le_of_ble_eq_true hb.2, rfl⟩
    · cases h
  · cases h
theorem pm_aln_inv (h : pm_aln (lo, st, H) = some o) : ∃ (a : Nat) (r : List Value), st = .ref a :: r ∧ 1 ≤ (H.1.1 a).1 ∧ (H.1.1 a).1 ≤ 3 ∧ o = .inl (lo, .int (Int32.ofNat (H.1.1 a).2) :: r, H) := by
  simp only [pm_aln] at h
  split at h
  · split at h
    next hb =>
      cases h
      simp only [Bool.and_eq_true] at hb
      exact ⟨_, _, rfl, Nat.le_of_ble_eq_true hb.1, Nat.le_of_ble_eq_true hb.2, rfl⟩
    · cases h
  · cases h
theorem pm_nwa_inv {t : Nat} (h : pm_nwa (lo, st, H) t = some o) : ∃ n r, st = .int n :: r ∧ o = .inr (.inl (decide (0 ≤ n) && decide (n ≤ 100000), pm_mk (lo, st, H) r (t, n.toNatClampNeg) n.toNatClampNeg)) := by
  simp only [pm_nwa] at h
  split at h
  · cases h; exact ⟨_, _, rfl, rfl⟩
  · cases h
theorem pm_acp_inv (h : pm_acp (lo, st, H) = some o) : ∃ (n q : Int32) (b : Nat) (p : Int32) (a : Nat) (r : List Value), st = .int n :: .int q :: .ref b :: .int p :: .ref a :: r ∧ (H.1.1 a).1 = 1 ∧ (H.1.1 b).1 = 1 ∧ 8 ≤ a ∧ 8 ≤ b ∧ pm_cat r ≤ 8 ∧
    o = .inr (.inl (decide (0 ≤ p) && decide (0 ≤ q) && decide (0 ≤ n) && decide (p.toNatClampNeg + n.toNatClampNeg ≤ (H.1.1 a).2) && decide (q.toNatClampNeg + n.toNatClampNeg ≤ (H.1.1 b).2), lo, r, H.1, pm_cp H.2.1 a p.toNatClampNeg b q.toNatClampNeg n.toNatClampNeg, H.2.2)) := by
  simp only [pm_acp] at h
  split at h
  · split at h
    next hb =>
      cases h
      simp only [Bool.and_eq_true] at hb
      exact ⟨_, _, _, _, _, _, rfl, Nat.eq_of_beq_eq_true hb.1.1.1.1, Nat.eq_of_beq_eq_true hb.1.1.1.2, Nat.le_of_ble_eq_true hb.1.1.2, Nat.le_of_ble_eq_true hb.1.2, Nat.le_of_ble_eq_true hb.2, rfl⟩
    · cases h
  · cases h
theorem pm_call_inv {j n cc : Nat} (h : pm_call (lo, st, H) j n cc = some o) : ∃ as r, pm_pop n st [] = some (as, r) ∧ pm_cat r ≤ 8 ∧ pm_recv H.1.1 cc as = true ∧ o = .inr (.inr (.inr (.inr (.inl (j, as, lo, r, H))))) := by
  simp only [pm_call] at h
  split at h
  · split at h
    next hb =>
      cases h
      simp only [Bool.and_eq_true] at hb
      exact ⟨_, _, by assumption, Nat.le_of_ble_eq_true hb.1, hb.2, rfl⟩
    · cases h
  · cases h
theorem pm_ret_inv {a : Nat} (h : pm_ret (lo, st, H) a = some o) : ∃ v, st = [.int v] ∧ o = .inr (.inr (.inr (.inr (.inr (pm_fit a v, v, 0, H))))) := by
  simp only [pm_ret] at h
  split at h
  · cases h; exact ⟨_, rfl, rfl⟩
  · cases h
theorem pm_retl_inv (h : pm_retl (lo, st, H) = some o) : ∃ v, st = [.long v] ∧ o = .inr (.inr (.inr (.inr (.inr (true, 0, v, H))))) := by
  simp only [pm_retl] at h
  split at h
  · cases h; exact ⟨_, rfl, rfl⟩
  · cases h
theorem pm_retv_inv (h : pm_retv (lo, st, H) = some o) : st = [] ∧ o = .inr (.inr (.inr (.inr (.inr (true, 0, 0, H))))) := by
  simp only [pm_retv] at h
  split at h
  · cases h; exact ⟨rfl, rfl⟩
  · cases h
end PMI
