/-! SMALL METHODS that read the land. -/
theorem px_hasFallen {d L : Nat} {b : Bool} {I : Nat → Nat → Int32} {J : Nat → Nat → Int64} {r n today : Int32} {place order coin fear fell stripped due roll rollday had : Nat → Int32} {Q : Int32 → Int64 → pm_H → Prop} (h : pg_hou (I 14) (I 15) n today place order coin fear fell stripped due roll rollday had) : pm_wc pm_code pm_meta (d + 1) 27 [.ref 9, .int r] (pm_Gb L b, I, J) Q ↔ Q (pm_b (¬ pm_at n r (fun k => pm_no (fell k)) = -3)) 0 (pm_Gb L b, I, J) := by
  simp only [pb_27_0, pb_27_9, pb_27_18, pb_27_14, pb_27_19, px_hou_4 h, Int32.reduceLE, Int32.reduceLT, pi_lt0, pm_b_eq0, pm_b_eq1, ite_not, pm_k0, pm_k1, pm_b_fit, true_and, and_true, not_true_eq_false, not_false_eq_true, ite_true, ite_false, if_true, if_false]
  split <;> simp [pm_b, ← Int32.not_lt, *]
theorem pr_hasFallen {d L : Nat} {b : Bool} {I : Nat → Nat → Int32} {J : Nat → Nat → Int64} {r : Int32} {Q : Int32 → Int64 → pm_H → Prop} : pm_wc pm_code pm_meta d 189 [.ref 79, .int r] (pm_Gb L b, I, J) Q ↔ pm_in r 8 = true ∧ Q (pm_b (0 ≤ I 88 r.toNatClampNeg)) 0 (pm_Gb L b, I, J) := by
  simp only [pb_189_0, pb_189_13, pb_189_9, pb_189_14, Int32.reduceLE, Int32.reduceLT, pi_lt0, pm_b_eq0, pm_b_eq1, ite_not, pm_k0, pm_k1, pm_b_fit, true_and, and_true, not_true_eq_false, not_false_eq_true, ite_true, ite_false, if_true, if_false]
  split <;> simp [pm_b, ← Int32.not_lt, *]
theorem px_isAlive {d L : Nat} {b : Bool} {I : Nat → Nat → Int32} {J : Nat → Nat → Int64} {r n day : Int32} {born died : Nat → Int32} {Q : Int32 → Int64 → pm_H → Prop} (h : pg_per (I 12) (I 13) n born died) : pm_wc pm_code pm_meta (d + 1) 29 [.ref 9, .int r, .int day] (pm_Gb L b, I, J) Q ↔ Q (pm_b (pm_at n r born ≤ day ∧ (pm_at n r (fun k => pm_no (died k)) = -3 ∨ day ≤ pm_at n r (fun k => pm_no (died k))))) 0 (pm_Gb L b, I, J) := by
  simp only [pb_29_0, pb_29_9, pb_29_19, pb_29_38, pb_29_23, pb_29_39, pb_29_34, pb_29_29, px_per_0 h, px_per_1 h, Int32.reduceLE, Int32.reduceLT, pi_lt0, pm_b_eq0, pm_b_eq1, ite_not, pm_k0, pm_k1, pm_b_fit, true_and, and_true, not_true_eq_false, not_false_eq_true, ite_true, ite_false, if_true, if_false]
  repeat' split
  all_goals simp [pm_b, ← Int32.not_lt, *]
theorem pr_lives {d L : Nat} {b : Bool} {I : Nat → Nat → Int32} {J : Nat → Nat → Int64} {r day : Int32} {Q : Int32 → Int64 → pm_H → Prop} (h : pm_in r 16 = true) : pm_wc pm_code pm_meta d 188 [.ref 79, .int r, .int day] (pm_Gb L b, I, J) Q ↔ Q (pm_b (I 82 r.toNatClampNeg ≤ day ∧ (¬ 0 ≤ I 83 r.toNatClampNeg ∨ day ≤ I 83 r.toNatClampNeg))) 0 (pm_Gb L b, I, J) := by
  simp only [pb_188_0, pb_188_33, pb_188_10, pb_188_34, pb_188_29, pb_188_19, h, Int32.reduceLE, Int32.reduceLT, pi_lt0, pm_b_eq0, pm_b_eq1, ite_not, pm_k0, pm_k1, pm_b_fit, true_and, and_true, not_true_eq_false, not_false_eq_true, ite_true, ite_false, if_true, if_false]
  repeat' split
  all_goals simp [pm_b, ← Int32.not_lt, *]
theorem pm_no_le {x y : Int32} : (¬ 0 ≤ x ∨ y ≤ pm_no x) = (¬ 0 ≤ x ∨ y ≤ x) := by
  by_cases h : 0 ≤ x <;> simp [h, pm_no_pos]
theorem px_isLease {d L : Nat} {b : Bool} {I : Nat → Nat → Int32} {J : Nat → Nat → Int64} {r n nP nH nT : Int32} {kind house person amount fr to is leans proved seals told wit witOf : Nat → Int32} {Q : Int32 → Int64 → pm_H → Prop} (h : pg_rig (I 18) (I 19) n nP nH nT kind house person amount fr to is leans proved seals told wit witOf) : pm_wc pm_code pm_meta (d + 1) 30 [.ref 9, .int r] (pm_Gb L b, I, J) Q ↔ Q (pm_b (pm_at n r kind = 2)) 0 (pm_Gb L b, I, J) := by
  simp only [pb_30_0, pb_30_9, pb_30_13, pb_30_17, pb_30_18, px_rig_0 h, Int32.reduceLE, Int32.reduceLT, pi_lt0, pm_b_eq0, pm_b_eq1, ite_not, pm_k0, pm_k1, pm_b_fit, true_and, and_true, not_true_eq_false, not_false_eq_true, ite_true, ite_false, if_true, if_false]
  split <;> simp [pm_b, ← Int32.not_lt, *]
theorem px_isSo {d L : Nat} {b : Bool} {I : Nat → Nat → Int32} {J : Nat → Nat → Int64} {r x y n nH : Int32} {house kind worth is shown : Nat → Int32} {Q : Int32 → Int64 → pm_H → Prop} (h : pg_thi (I 16) (I 17) n nH house kind worth is shown) : pm_wc pm_code pm_meta (d + 1) 31 [.ref 9, .int r, .int x, .int y] (pm_Gb L b, I, J) Q ↔ Q (pm_b (pm_at n r house = x ∧ pm_at n r is = y)) 0 (pm_Gb L b, I, J) := by
  simp only [pb_31_0, pb_31_9, pb_31_13, pb_31_30, pb_31_22, pb_31_31, pb_31_26, px_thi_0 h, px_thi_3 h, Int32.reduceLE, Int32.reduceLT, pi_lt0, pm_b_eq0, pm_b_eq1, ite_not, pm_k0, pm_k1, pm_b_fit, true_and, and_true, not_true_eq_false, not_false_eq_true, ite_true, ite_false, if_true, if_false]
  repeat' split
  all_goals simp [pm_b, ← Int32.not_lt, *]
theorem px_min {d L : Nat} {b : Bool} {I : Nat → Nat → Int32} {J : Nat → Nat → Int64} {x y : Int32} {Q : Int32 → Int64 → pm_H → Prop} : pm_wc pm_code pm_meta d 306 [.int x, .int y] (pm_Gb L b, I, J) Q ↔ Q (if y < x then y else x) 0 (pm_Gb L b, I, J) := by
  simp only [pb_306_0, pb_306_9, pb_306_5, pb_306_10, Int32.reduceLE, Int32.reduceLT, pi_lt0, pm_b_eq0, pm_b_eq1, ite_not, pm_k0, pm_k1, pm_b_fit, true_and, and_true, not_true_eq_false, not_false_eq_true, ite_true, ite_false, if_true, if_false]
  split <;> simp [*]
theorem pi_min {x y : Int32} : (if x < y then x else y) = (if y < x then y else x) := by
  by_cases h : x < y
  · rw [if_pos h, if_neg (Int32.not_lt.mpr (Int32.le_of_lt h))]
  · by_cases h2 : y < x
    · rw [if_neg h, if_pos h2]
    · rw [if_neg h, if_neg h2]; exact Int32.le_antisymm (Int32.not_lt.mp h) (Int32.not_lt.mp h2)
theorem pr_lesser {d L : Nat} {b : Bool} {I : Nat → Nat → Int32} {J : Nat → Nat → Int64} {x y : Int32} {Q : Int32 → Int64 → pm_H → Prop} : pm_wc pm_code pm_meta d 176 [.int x, .int y] (pm_Gb L b, I, J) Q ↔ Q (if y < x then y else x) 0 (pm_Gb L b, I, J) := by
  rw [← pi_min]
  simp only [pb_176_0, pb_176_9, pb_176_5, pb_176_10, Int32.reduceLE, Int32.reduceLT, pi_lt0, pm_b_eq0, pm_b_eq1, ite_not, pm_k0, pm_k1, pm_b_fit, true_and, and_true, not_true_eq_false, not_false_eq_true, ite_true, ite_false, if_true, if_false]
  by_cases h : x < y
  · rw [if_neg (Int32.not_le.mpr h), if_pos h]
  · rw [if_pos (Int32.not_lt.mp h), if_neg h]
theorem px_max {d L : Nat} {b : Bool} {I : Nat → Nat → Int32} {J : Nat → Nat → Int64} {x y : Int32} {Q : Int32 → Int64 → pm_H → Prop} : pm_wc pm_code pm_meta d 307 [.int x, .int y] (pm_Gb L b, I, J) Q ↔ Q (if x < y then y else x) 0 (pm_Gb L b, I, J) := by
  simp only [pb_307_0, pb_307_9, pb_307_5, pb_307_10, Int32.reduceLE, Int32.reduceLT, pi_lt0, pm_b_eq0, pm_b_eq1, ite_not, pm_k0, pm_k1, pm_b_fit, true_and, and_true, not_true_eq_false, not_false_eq_true, ite_true, ite_false, if_true, if_false]
  split <;> simp [*]
theorem px_abs {d L : Nat} {b : Bool} {I : Nat → Nat → Int32} {J : Nat → Nat → Int64} {x : Int32} {Q : Int32 → Int64 → pm_H → Prop} : pm_wc pm_code pm_meta d 308 [.int x] (pm_Gb L b, I, J) Q ↔ Q (if 0 ≤ x then x else -x) 0 (pm_Gb L b, I, J) := by
  simp only [pb_308_0, pb_308_9, pb_308_4, pb_308_10, Int32.reduceLE, Int32.reduceLT, pi_lt0, pm_b_eq0, pm_b_eq1, ite_not, pm_k0, pm_k1, pm_b_fit, true_and, and_true, not_true_eq_false, not_false_eq_true, ite_true, ite_false, if_true, if_false]
  split <;> simp [*]

