/-! THE CALL value. -/
def pf_hrs (k : Int32) : Int32 := if k = 0 then 3 else if k = 1 then 2 else if k = 2 then 1 else 4
theorem hrs_rng {k : Int32} : 1 ≤ (pf_hrs k).toInt ∧ (pf_hrs k).toInt ≤ 4 := by
  unfold pf_hrs
  repeat' split
  all_goals exact ⟨by decide, by decide⟩
theorem hrs_at {k : Int32} (h0 : 0 ≤ k) (h3 : k ≤ 3) : pm_a3.getD k.toNatClampNeg 0 = pf_hrs k ∧ pm_in k 4 = true ∧ ¬ k < 0 ∧ ¬ 4 ≤ k := by
  have g : k = 0 ∨ k = 1 ∨ k = 2 ∨ k = 3 := by
    have a := pi_le.mp h0
    have c := pi_le.mp h3
    have e3 : (3 : Int32).toInt = 3 := rfl
    rw [pi_0] at a
    rcases (show k.toInt = 0 ∨ k.toInt = 1 ∨ k.toInt = 2 ∨ k.toInt = 3 by omega) with q | q | q | q
    · exact Or.inl (Int32.toInt_inj.mp q)
    · exact Or.inr (Or.inl (Int32.toInt_inj.mp q))
    · exact Or.inr (Or.inr (Or.inl (Int32.toInt_inj.mp q)))
    · exact Or.inr (Or.inr (Or.inr (Int32.toInt_inj.mp q)))
  rcases g with q | q | q | q <;> subst q <;> decide
/-- the things that are put down in so many hours, as bits -/
def pf_put (c : Int32 → Prop) [DecidablePred c] (w : Int32 → Int32) : Nat → Int32 → Int32 → Int32 → Int32
  | 0, _, s, _ => s
  | m + 1, i, s, left => if c i then (if 0 ≤ left - w i then pf_put c w m (i + 1) (s ||| (1 <<< (i &&& 31))) (left - w i) else s) else pf_put c w m (i + 1) s left
theorem sub_rng {left : Int32} {k : Int32} (h0 : 0 ≤ left.toInt) (h1 : left.toInt ≤ 40) : (left - pf_hrs k).toInt = left.toInt - (pf_hrs k).toInt ∧ (0 ≤ left - pf_hrs k) = ¬ (left < pf_hrs k) := by
  have g := hrs_rng (k := k)
  have e : (left - pf_hrs k).toInt = left.toInt - (pf_hrs k).toInt := pi_sub (by omega) (by omega)
  refine ⟨e, ?_⟩
  rw [pi_lt, pi_le, pi_0, e, eq_iff_iff]; omega
theorem px_putDown {d L : Nat} {b : Bool} {I : Nat → Nat → Int32} {J : Nat → Nat → Int64} {n nH : Int32} {house kind worth is shown : Nat → Int32} {x1 x2 : Int32} {Q : Int32 → Int64 → pm_H → Prop} (h : pg_thi (I 16) (I 17) n nH house kind worth is shown) (h3 : ∀ j, I 3 j = pm_a3.getD j 0) (l0 : 0 ≤ x2) (l1 : x2 ≤ 40) : pm_wc pm_code pm_meta (d + 2) 39 [.ref 9, .int x1, .int x2] (pm_Gb L b, I, J) Q ↔ Q (pf_put (fun i : Int32 => (house i.toNatClampNeg = x1 ∧ (is i.toNatClampNeg = 0 ∨ (is i.toNatClampNeg = 1 ∧ shown i.toNatClampNeg = 1)))) (fun i : Int32 => pf_hrs (kind i.toNatClampNeg)) n.toNatClampNeg 0 0 x2) 0 (pm_Gb L b, I, J) := by
  have hn0 := (thi_n h).1
  have hn : n < 2147483647 := pi_ltb (Int32.lt_of_le_of_lt (thi_n h).2 (by decide : (24 : Int32) < 100)) (by decide)
  have key : ∀ (m : Nat) (i s left : Int32) (D : Option (Int32 × Option Int32)), 0 ≤ i → i.toNatClampNeg + m = n.toNatClampNeg → 0 ≤ left.toInt → left.toInt ≤ 40 →
      (pm_wp pm_code pm_meta (d + 2) 39 8 ([.ref 9, .int x1, .int x2, .int s, .int left, .int i, pm_vl (D.map (·.1)), pm_vl (D.bind (·.2))], [], (pm_Gb L b, I, J)) Q ↔ Q (pf_put (fun i : Int32 => (house i.toNatClampNeg = x1 ∧ (is i.toNatClampNeg = 0 ∨ (is i.toNatClampNeg = 1 ∧ shown i.toNatClampNeg = 1)))) (fun i : Int32 => pf_hrs (kind i.toNatClampNeg)) m i s left) 0 (pm_Gb L b, I, J)) := by
    intro m
    induction m with
    | zero =>
      intro i s left D h0 hm _ _
      have t1 := pi_tni h0
      have t2 := pi_tni hn0
      have hi : n ≤ i := by rw [pi_le]; omega
      rcases D with _ | ⟨a, _ | c⟩ <;> simp only [Option.map, Option.bind, pm_vl_n, pm_vl_s] <;> first | (rw [pb_39_8, h.1.2, if_pos hi]; simp only [pb_39_0, pb_39_133, pb_39_20, pb_39_28, pb_39_49, pb_39_31, pb_39_50, pb_39_41, pb_39_57, pb_39_71, pb_39_45, pb_39_65, pb_39_81, pb_39_68, pb_39_108, pb_39_90, pb_39_127, pb_39_109, pb_39_99, pb_39_120, pb_39_117, pb_39_133b, pb_39_20b, pb_39_127b, pb_39_133c, pb_39_28b, pb_39_49b, pb_39_31b, pb_39_20c, pb_39_50b, pb_39_41b, pb_39_28c, pb_39_45b, pb_39_49c, pb_39_31c, pb_39_50c, pb_39_41c, pb_39_57b, pb_39_71b, pb_39_45c, pb_39_65b, pb_39_81b, pb_39_68b, pf_put]; done) | (rw [pb_39_8b, h.1.2, if_pos hi]; simp only [pb_39_0, pb_39_133, pb_39_20, pb_39_28, pb_39_49, pb_39_31, pb_39_50, pb_39_41, pb_39_57, pb_39_71, pb_39_45, pb_39_65, pb_39_81, pb_39_68, pb_39_108, pb_39_90, pb_39_127, pb_39_109, pb_39_99, pb_39_120, pb_39_117, pb_39_133b, pb_39_20b, pb_39_127b, pb_39_133c, pb_39_28b, pb_39_49b, pb_39_31b, pb_39_20c, pb_39_50b, pb_39_41b, pb_39_28c, pb_39_45b, pb_39_49c, pb_39_31c, pb_39_50c, pb_39_41c, pb_39_57b, pb_39_71b, pb_39_45c, pb_39_65b, pb_39_81b, pb_39_68b, pf_put]; done) | (rw [pb_39_8c, h.1.2, if_pos hi]; simp only [pb_39_0, pb_39_133, pb_39_20, pb_39_28, pb_39_49, pb_39_31, pb_39_50, pb_39_41, pb_39_57, pb_39_71, pb_39_45, pb_39_65, pb_39_81, pb_39_68, pb_39_108, pb_39_90, pb_39_127, pb_39_109, pb_39_99, pb_39_120, pb_39_117, pb_39_133b, pb_39_20b, pb_39_127b, pb_39_133c, pb_39_28b, pb_39_49b, pb_39_31b, pb_39_20c, pb_39_50b, pb_39_41b, pb_39_28c, pb_39_45b, pb_39_49c, pb_39_31c, pb_39_50c, pb_39_41c, pb_39_57b, pb_39_71b, pb_39_45c, pb_39_65b, pb_39_81b, pb_39_68b, pf_put])
    | succ m ih =>
      intro i s left D h0 hm g0 g1
      have t1 := pi_tni h0
      have t2 := pi_tni hn0
      have e : i < n := by rw [pi_lt]; omega
      have hi : ¬ n ≤ i := Int32.not_le.mpr e
      have e3 : (i + 1).toNatClampNeg = i.toNatClampNeg + 1 := pi_tn1 h0 (Int32.lt_trans e hn)
      have e4 : 0 ≤ i + 1 := by have := pi_lt.mp e; have := pi_hi n; rw [pi_le, pi_0, pi_add (by rw [pi_1]; omega) (by rw [pi_1]; omega), pi_1]; omega
      have hk := (h.2 _ (pi_tnlt h0 e)).2
      have hw := hrs_at hk.2.2.1 hk.2.2.2
      have hs := sub_rng (k := kind i.toNatClampNeg) g0 g1
      have hr := hrs_rng (k := kind i.toNatClampNeg)
      by_cases c1 : house i.toNatClampNeg = x1
      · by_cases c2 : is i.toNatClampNeg = 0
        · have c3 : ¬ is i.toNatClampNeg = 1 := by rw [c2]; decide
          by_cases c4 : 0 ≤ left - pf_hrs (kind i.toNatClampNeg)
          · have c5 := c4
            rw [pi_le, pi_0, hs.1] at c5
            have z := ih (i + 1) (s ||| (1 <<< (i &&& 31))) (left - pf_hrs (kind i.toNatClampNeg)) (some (0, some (kind i.toNatClampNeg))) e4 (by omega) (by omega) (by omega)
            simp only [Option.map, Option.bind, pm_vl_s] at z
            rcases D with _ | ⟨a, _ | c⟩ <;> simp only [Option.map, Option.bind, pm_vl_n, pm_vl_s] <;> (first | rw [pb_39_8, h.1.2] | rw [pb_39_8b, h.1.2] | rw [pb_39_8c, h.1.2]) <;> simp only [hi, c1, c2, c3, c4, hw, h3, z, pb_39_0, pb_39_133, pb_39_20, pb_39_28, pb_39_49, pb_39_31, pb_39_50, pb_39_41, pb_39_57, pb_39_71, pb_39_45, pb_39_65, pb_39_81, pb_39_68, pb_39_108, pb_39_90, pb_39_127, pb_39_109, pb_39_99, pb_39_120, pb_39_117, pb_39_133b, pb_39_20b, pb_39_127b, pb_39_133c, pb_39_28b, pb_39_49b, pb_39_31b, pb_39_20c, pb_39_50b, pb_39_41b, pb_39_28c, pb_39_45b, pb_39_49c, pb_39_31c, pb_39_50c, pb_39_41c, pb_39_57b, pb_39_71b, pb_39_45c, pb_39_65b, pb_39_81b, pb_39_68b, px_isSo h, px_thi_1 h, px_thi_4 h, pm_at_in h0 e, pf_put, pl_0_1, pl_1_0, not_false_eq_true, not_true_eq_false, and_self, and_true, true_and, false_and, and_false, or_true, true_or, or_false, false_or, or_self, Int32.reduceLE, Int32.reduceLT, pi_lt0, pm_b_eq0, pm_b_eq1, ite_not, pm_k0, pm_k1, pm_b_fit, true_and, and_true, not_true_eq_false, not_false_eq_true, ite_true, ite_false, if_true, if_false]
          · rcases D with _ | ⟨a, _ | c⟩ <;> simp only [Option.map, Option.bind, pm_vl_n, pm_vl_s] <;> (first | rw [pb_39_8, h.1.2] | rw [pb_39_8b, h.1.2] | rw [pb_39_8c, h.1.2]) <;> simp only [hi, c1, c2, c3, c4, hw, h3, pb_39_0, pb_39_133, pb_39_20, pb_39_28, pb_39_49, pb_39_31, pb_39_50, pb_39_41, pb_39_57, pb_39_71, pb_39_45, pb_39_65, pb_39_81, pb_39_68, pb_39_108, pb_39_90, pb_39_127, pb_39_109, pb_39_99, pb_39_120, pb_39_117, pb_39_133b, pb_39_20b, pb_39_127b, pb_39_133c, pb_39_28b, pb_39_49b, pb_39_31b, pb_39_20c, pb_39_50b, pb_39_41b, pb_39_28c, pb_39_45b, pb_39_49c, pb_39_31c, pb_39_50c, pb_39_41c, pb_39_57b, pb_39_71b, pb_39_45c, pb_39_65b, pb_39_81b, pb_39_68b, px_isSo h, px_thi_1 h, px_thi_4 h, pm_at_in h0 e, pf_put, pl_0_1, pl_1_0, not_false_eq_true, not_true_eq_false, and_self, and_true, true_and, false_and, and_false, or_true, true_or, or_false, false_or, or_self, Int32.reduceLE, Int32.reduceLT, pi_lt0, pm_b_eq0, pm_b_eq1, ite_not, pm_k0, pm_k1, pm_b_fit, true_and, and_true, not_true_eq_false, not_false_eq_true, ite_true, ite_false, if_true, if_false]
        · by_cases c3 : is i.toNatClampNeg = 1
          · by_cases c6 : shown i.toNatClampNeg = 1
            · by_cases c4 : 0 ≤ left - pf_hrs (kind i.toNatClampNeg)
              · have c5 := c4
                rw [pi_le, pi_0, hs.1] at c5
                have z := ih (i + 1) (s ||| (1 <<< (i &&& 31))) (left - pf_hrs (kind i.toNatClampNeg)) (some (1, some (kind i.toNatClampNeg))) e4 (by omega) (by omega) (by omega)
                simp only [Option.map, Option.bind, pm_vl_s] at z
                rcases D with _ | ⟨a, _ | c⟩ <;> simp only [Option.map, Option.bind, pm_vl_n, pm_vl_s] <;> (first | rw [pb_39_8, h.1.2] | rw [pb_39_8b, h.1.2] | rw [pb_39_8c, h.1.2]) <;> simp only [hi, c1, c2, c3, c4, c6, hw, h3, z, pb_39_0, pb_39_133, pb_39_20, pb_39_28, pb_39_49, pb_39_31, pb_39_50, pb_39_41, pb_39_57, pb_39_71, pb_39_45, pb_39_65, pb_39_81, pb_39_68, pb_39_108, pb_39_90, pb_39_127, pb_39_109, pb_39_99, pb_39_120, pb_39_117, pb_39_133b, pb_39_20b, pb_39_127b, pb_39_133c, pb_39_28b, pb_39_49b, pb_39_31b, pb_39_20c, pb_39_50b, pb_39_41b, pb_39_28c, pb_39_45b, pb_39_49c, pb_39_31c, pb_39_50c, pb_39_41c, pb_39_57b, pb_39_71b, pb_39_45c, pb_39_65b, pb_39_81b, pb_39_68b, px_isSo h, px_thi_1 h, px_thi_4 h, pm_at_in h0 e, pf_put, pl_1_0, not_false_eq_true, not_true_eq_false, and_self, and_true, true_and, false_and, and_false, or_true, true_or, or_false, false_or, or_self, Int32.reduceLE, Int32.reduceLT, pi_lt0, pm_b_eq0, pm_b_eq1, ite_not, pm_k0, pm_k1, pm_b_fit, true_and, and_true, not_true_eq_false, not_false_eq_true, ite_true, ite_false, if_true, if_false]
              · rcases D with _ | ⟨a, _ | c⟩ <;> simp only [Option.map, Option.bind, pm_vl_n, pm_vl_s] <;> (first | rw [pb_39_8, h.1.2] | rw [pb_39_8b, h.1.2] | rw [pb_39_8c, h.1.2]) <;> simp only [hi, c1, c2, c3, c4, c6, hw, h3, pb_39_0, pb_39_133, pb_39_20, pb_39_28, pb_39_49, pb_39_31, pb_39_50, pb_39_41, pb_39_57, pb_39_71, pb_39_45, pb_39_65, pb_39_81, pb_39_68, pb_39_108, pb_39_90, pb_39_127, pb_39_109, pb_39_99, pb_39_120, pb_39_117, pb_39_133b, pb_39_20b, pb_39_127b, pb_39_133c, pb_39_28b, pb_39_49b, pb_39_31b, pb_39_20c, pb_39_50b, pb_39_41b, pb_39_28c, pb_39_45b, pb_39_49c, pb_39_31c, pb_39_50c, pb_39_41c, pb_39_57b, pb_39_71b, pb_39_45c, pb_39_65b, pb_39_81b, pb_39_68b, px_isSo h, px_thi_1 h, px_thi_4 h, pm_at_in h0 e, pf_put, pl_1_0, not_false_eq_true, not_true_eq_false, and_self, and_true, true_and, false_and, and_false, or_true, true_or, or_false, false_or, or_self, Int32.reduceLE, Int32.reduceLT, pi_lt0, pm_b_eq0, pm_b_eq1, ite_not, pm_k0, pm_k1, pm_b_fit, true_and, and_true, not_true_eq_false, not_false_eq_true, ite_true, ite_false, if_true, if_false]
            · rcases D with _ | ⟨a, c⟩
              · have z := ih (i + 1) s left (some (0, none)) e4 (by omega) g0 g1
                simp only [Option.map, Option.bind, pm_vl_s, pm_vl_n] at z ⊢
                rw [pb_39_8, h.1.2]
                simp only [hi, c1, c2, c3, c6, hw, h3, z, pb_39_0, pb_39_133, pb_39_20, pb_39_28, pb_39_49, pb_39_31, pb_39_50, pb_39_41, pb_39_57, pb_39_71, pb_39_45, pb_39_65, pb_39_81, pb_39_68, pb_39_108, pb_39_90, pb_39_127, pb_39_109, pb_39_99, pb_39_120, pb_39_117, pb_39_133b, pb_39_20b, pb_39_127b, pb_39_133c, pb_39_28b, pb_39_49b, pb_39_31b, pb_39_20c, pb_39_50b, pb_39_41b, pb_39_28c, pb_39_45b, pb_39_49c, pb_39_31c, pb_39_50c, pb_39_41c, pb_39_57b, pb_39_71b, pb_39_45c, pb_39_65b, pb_39_81b, pb_39_68b, px_isSo h, px_thi_1 h, px_thi_4 h, pm_at_in h0 e, pf_put, pl_1_0, not_false_eq_true, not_true_eq_false, and_self, and_true, true_and, false_and, and_false, or_true, true_or, or_false, false_or, or_self, Int32.reduceLE, Int32.reduceLT, pi_lt0, pm_b_eq0, pm_b_eq1, ite_not, pm_k0, pm_k1, pm_b_fit, true_and, and_true, not_true_eq_false, not_false_eq_true, ite_true, ite_false, if_true, if_false]
              · have z := ih (i + 1) s left (some (0, c)) e4 (by omega) g0 g1
                cases c <;> simp only [Option.map, Option.bind, pm_vl_s, pm_vl_n] at z ⊢ <;> (first | rw [pb_39_8b, h.1.2] | rw [pb_39_8c, h.1.2]) <;> simp only [hi, c1, c2, c3, c6, hw, h3, z, pb_39_0, pb_39_133, pb_39_20, pb_39_28, pb_39_49, pb_39_31, pb_39_50, pb_39_41, pb_39_57, pb_39_71, pb_39_45, pb_39_65, pb_39_81, pb_39_68, pb_39_108, pb_39_90, pb_39_127, pb_39_109, pb_39_99, pb_39_120, pb_39_117, pb_39_133b, pb_39_20b, pb_39_127b, pb_39_133c, pb_39_28b, pb_39_49b, pb_39_31b, pb_39_20c, pb_39_50b, pb_39_41b, pb_39_28c, pb_39_45b, pb_39_49c, pb_39_31c, pb_39_50c, pb_39_41c, pb_39_57b, pb_39_71b, pb_39_45c, pb_39_65b, pb_39_81b, pb_39_68b, px_isSo h, px_thi_1 h, px_thi_4 h, pm_at_in h0 e, pf_put, pl_1_0, not_false_eq_true, not_true_eq_false, and_self, and_true, true_and, false_and, and_false, or_true, true_or, or_false, false_or, or_self, Int32.reduceLE, Int32.reduceLT, pi_lt0, pm_b_eq0, pm_b_eq1, ite_not, pm_k0, pm_k1, pm_b_fit, true_and, and_true, not_true_eq_false, not_false_eq_true, ite_true, ite_false, if_true, if_false]
          · rcases D with _ | ⟨a, c⟩
            · have z := ih (i + 1) s left (some (0, none)) e4 (by omega) g0 g1
              simp only [Option.map, Option.bind, pm_vl_s, pm_vl_n] at z ⊢
              rw [pb_39_8, h.1.2]
              simp only [hi, c1, c2, c3, hw, h3, z, pb_39_0, pb_39_133, pb_39_20, pb_39_28, pb_39_49, pb_39_31, pb_39_50, pb_39_41, pb_39_57, pb_39_71, pb_39_45, pb_39_65, pb_39_81, pb_39_68, pb_39_108, pb_39_90, pb_39_127, pb_39_109, pb_39_99, pb_39_120, pb_39_117, pb_39_133b, pb_39_20b, pb_39_127b, pb_39_133c, pb_39_28b, pb_39_49b, pb_39_31b, pb_39_20c, pb_39_50b, pb_39_41b, pb_39_28c, pb_39_45b, pb_39_49c, pb_39_31c, pb_39_50c, pb_39_41c, pb_39_57b, pb_39_71b, pb_39_45c, pb_39_65b, pb_39_81b, pb_39_68b, px_isSo h, px_thi_1 h, px_thi_4 h, pm_at_in h0 e, pf_put, pl_1_0, not_false_eq_true, not_true_eq_false, and_self, and_true, true_and, false_and, and_false, or_true, true_or, or_false, false_or, or_self, Int32.reduceLE, Int32.reduceLT, pi_lt0, pm_b_eq0, pm_b_eq1, ite_not, pm_k0, pm_k1, pm_b_fit, true_and, and_true, not_true_eq_false, not_false_eq_true, ite_true, ite_false, if_true, if_false]
            · have z := ih (i + 1) s left (some (0, c)) e4 (by omega) g0 g1
              cases c <;> simp only [Option.map, Option.bind, pm_vl_s, pm_vl_n] at z ⊢ <;> (first | rw [pb_39_8b, h.1.2] | rw [pb_39_8c, h.1.2]) <;> simp only [hi, c1, c2, c3, hw, h3, z, pb_39_0, pb_39_133, pb_39_20, pb_39_28, pb_39_49, pb_39_31, pb_39_50, pb_39_41, pb_39_57, pb_39_71, pb_39_45, pb_39_65, pb_39_81, pb_39_68, pb_39_108, pb_39_90, pb_39_127, pb_39_109, pb_39_99, pb_39_120, pb_39_117, pb_39_133b, pb_39_20b, pb_39_127b, pb_39_133c, pb_39_28b, pb_39_49b, pb_39_31b, pb_39_20c, pb_39_50b, pb_39_41b, pb_39_28c, pb_39_45b, pb_39_49c, pb_39_31c, pb_39_50c, pb_39_41c, pb_39_57b, pb_39_71b, pb_39_45c, pb_39_65b, pb_39_81b, pb_39_68b, px_isSo h, px_thi_1 h, px_thi_4 h, pm_at_in h0 e, pf_put, pl_1_0, not_false_eq_true, not_true_eq_false, and_self, and_true, true_and, false_and, and_false, or_true, true_or, or_false, false_or, or_self, Int32.reduceLE, Int32.reduceLT, pi_lt0, pm_b_eq0, pm_b_eq1, ite_not, pm_k0, pm_k1, pm_b_fit, true_and, and_true, not_true_eq_false, not_false_eq_true, ite_true, ite_false, if_true, if_false]
      · rcases D with _ | ⟨a, c⟩
        · have z := ih (i + 1) s left (some (0, none)) e4 (by omega) g0 g1
          simp only [Option.map, Option.bind, pm_vl_s, pm_vl_n] at z ⊢
          rw [pb_39_8, h.1.2]
          simp only [hi, c1, hw, h3, z, pb_39_0, pb_39_133, pb_39_20, pb_39_28, pb_39_49, pb_39_31, pb_39_50, pb_39_41, pb_39_57, pb_39_71, pb_39_45, pb_39_65, pb_39_81, pb_39_68, pb_39_108, pb_39_90, pb_39_127, pb_39_109, pb_39_99, pb_39_120, pb_39_117, pb_39_133b, pb_39_20b, pb_39_127b, pb_39_133c, pb_39_28b, pb_39_49b, pb_39_31b, pb_39_20c, pb_39_50b, pb_39_41b, pb_39_28c, pb_39_45b, pb_39_49c, pb_39_31c, pb_39_50c, pb_39_41c, pb_39_57b, pb_39_71b, pb_39_45c, pb_39_65b, pb_39_81b, pb_39_68b, px_isSo h, px_thi_1 h, px_thi_4 h, pm_at_in h0 e, pf_put, pl_1_0, not_false_eq_true, not_true_eq_false, and_self, and_true, true_and, false_and, and_false, or_true, true_or, or_false, false_or, or_self, Int32.reduceLE, Int32.reduceLT, pi_lt0, pm_b_eq0, pm_b_eq1, ite_not, pm_k0, pm_k1, pm_b_fit, true_and, and_true, not_true_eq_false, not_false_eq_true, ite_true, ite_false, if_true, if_false]
        · have z := ih (i + 1) s left (some (0, c)) e4 (by omega) g0 g1
          cases c <;> simp only [Option.map, Option.bind, pm_vl_s, pm_vl_n] at z ⊢ <;> (first | rw [pb_39_8b, h.1.2] | rw [pb_39_8c, h.1.2]) <;> simp only [hi, c1, hw, h3, z, pb_39_0, pb_39_133, pb_39_20, pb_39_28, pb_39_49, pb_39_31, pb_39_50, pb_39_41, pb_39_57, pb_39_71, pb_39_45, pb_39_65, pb_39_81, pb_39_68, pb_39_108, pb_39_90, pb_39_127, pb_39_109, pb_39_99, pb_39_120, pb_39_117, pb_39_133b, pb_39_20b, pb_39_127b, pb_39_133c, pb_39_28b, pb_39_49b, pb_39_31b, pb_39_20c, pb_39_50b, pb_39_41b, pb_39_28c, pb_39_45b, pb_39_49c, pb_39_31c, pb_39_50c, pb_39_41c, pb_39_57b, pb_39_71b, pb_39_45c, pb_39_65b, pb_39_81b, pb_39_68b, px_isSo h, px_thi_1 h, px_thi_4 h, pm_at_in h0 e, pf_put, pl_1_0, not_false_eq_true, not_true_eq_false, and_self, and_true, true_and, false_and, and_false, or_true, true_or, or_false, false_or, or_self, Int32.reduceLE, Int32.reduceLT, pi_lt0, pm_b_eq0, pm_b_eq1, ite_not, pm_k0, pm_k1, pm_b_fit, true_and, and_true, not_true_eq_false, not_false_eq_true, ite_true, ite_false, if_true, if_false]
  rw [pb_39_0]
  exact key n.toNatClampNeg 0 0 x2 none (Int32.le_refl 0) (by simp) (by rw [pi_le, pi_0] at l0; exact l0) (by rw [pi_le] at l1; exact l1)

