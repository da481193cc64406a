/-! From which day the rights are gone: folds; the class's loop. -/
theorem e_asc (a b c : Int32) : pf_e a (pf_e b c) = pf_e (pf_e a b) c := by
  unfold pf_e
  grind
theorem e_m1 (a : Int32) : pf_e (-1) a = a := by
  unfold pf_e
  rw [if_pos (by decide)]
theorem e_1m {a : Int32} (h : -1 ≤ a) : pf_e a (-1) = a := by
  unfold pf_e
  grind
theorem dis_from {kind is proved : Nat → Int32} {r n : Int32} (n0 : 0 ≤ n) (hn : n < 2147483647) (hp : ∀ j : Int32, 0 ≤ j → j < n → -1 ≤ proved j.toNatClampNeg) : ∀ (m : Nat) (i s : Int32), 0 ≤ i → i.toNatClampNeg + m = n.toNatClampNeg → -1 ≤ s → pm_fo (fun (s : Int32) (c : Int32) => if kind c.toNatClampNeg = 7 ∧ is c.toNatClampNeg = r then pf_e s (proved c.toNatClampNeg) else s) m i s = pf_e s (pm_fo (fun (s : Int32) (c : Int32) => if kind c.toNatClampNeg = 7 ∧ is c.toNatClampNeg = r then pf_e s (proved c.toNatClampNeg) else s) m i (-1))
  | 0, i, s, _, _, h => (e_1m h).symm
  | m + 1, i, s, i0, hm, h => by
    have t1 := pi_tni i0
    have t2 := pi_tni n0
    have h1 : i < n := by rw [pi_lt]; omega
    have e5 : (i + 1).toNatClampNeg = i.toNatClampNeg + 1 := pi_tn1 i0 (by grind)
    have e6 : 0 ≤ i + 1 := by grind
    have p := hp i i0 h1
    unfold pm_fo
    by_cases hc : kind i.toNatClampNeg = 7 ∧ is i.toNatClampNeg = r
    · simp only [if_pos hc]
      rw [dis_from n0 hn hp m (i + 1) (pf_e s (proved i.toNatClampNeg)) e6 (by omega) (by unfold pf_e; grind), dis_from n0 hn hp m (i + 1) (pf_e (-1) (proved i.toNatClampNeg)) e6 (by omega) (by rw [e_m1]; exact p), e_m1, e_asc]
    · simp only [if_neg hc]
      exact dis_from n0 hn hp m (i + 1) s e6 (by omega) h

