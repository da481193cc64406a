/-! Days that may be none: the earlier one; what is disproved. -/
def pf_e (a b : Int32) : Int32 := if a < 0 then b else if b < 0 then a else if b < a then b else a
def pf_far (s : Int32) : Int32 := if s < 0 then 1000000000 else s
theorem no_neg {a : Int32} (h : a < 0) : pm_no a = -3 := if_pos h
theorem no_n3 {a : Int32} (h : ¬ a < 0) : ¬ a = -3 := fun g => h (by rw [g]; decide)
theorem px_earlier {d L : Nat} {b : Bool} {I : Nat → Nat → Int32} {J : Nat → Nat → Int64} {a c : Int32} {Q : Int32 → Int64 → pm_H → Prop} : pm_wc pm_code pm_meta (d + 1) 54 [.int (pm_no a), .int (pm_no c)] (pm_Gb L b, I, J) Q ↔ Q (pm_no (pf_e a c)) 0 (pm_Gb L b, I, J) := by
  rw [pb_54_0]
  unfold pf_e
  by_cases ha : a < 0
  · simp only [no_neg ha, ha, if_true, pb_54_6]
  · have a0 : pm_no a = a := pm_no_nn (Int32.not_lt.mp ha)
    by_cases hc : c < 0
    · simp only [a0, no_neg hc, ha, hc, no_n3 ha, if_false, if_true, pb_54_8, pb_54_14, pb_54_23]
    · have c0 : pm_no c = c := pm_no_nn (Int32.not_lt.mp hc)
      have m0 : pm_no (if c < a then c else a) = if c < a then c else a := by split <;> assumption
      simp only [a0, c0, m0, ha, hc, no_n3 ha, no_n3 hc, if_false, pb_54_8, pb_54_18, px_min, pb_54_23]
theorem px_disproved {d L : Nat} {b : Bool} {I : Nat → Nat → Int32} {J : Nat → Nat → Int64} {r : Int32} {nn nP nH nT : Int32} {kind house person amount frr to is leans proved seals told wit witOf : Nat → Int32} {Q : Int32 → Int64 → pm_H → Prop}
    (hr : pg_rig (I 18) (I 19) nn nP nH nT kind house person amount frr to is leans proved seals told wit witOf) (r0 : 0 ≤ r) (r1 : r < nn) :
    pm_wc pm_code pm_meta (d + 2) 53 [.ref 36, .int r] (pm_Gb L b, I, J) Q ↔ Q (pm_no (pm_fo (fun (s : Int32) (c : Int32) => if kind c.toNatClampNeg = 7 ∧ is c.toNatClampNeg = r then pf_e s (proved c.toNatClampNeg) else s) (nn.toNatClampNeg - (r.toNatClampNeg + 1)) (r + 1) (-1))) 0 (pm_Gb L b, I, J) := by
  have hn := rig_n hr
  have hl : nn < 2147483647 := pi_ltb (Int32.lt_of_le_of_lt hn.2 (by decide : (24 : Int32) < 100)) (by decide)
  have t1 := pi_tni r0
  have t2 := pi_tni hn.1
  have t3 := pi_lt.mp r1
  have e3 : (r + 1).toNatClampNeg = r.toNatClampNeg + 1 := pi_tn1 r0 (by grind)
  have e4 : 0 ≤ r + 1 := by grind
  have key := pm_for_aux (A := fun s i => pm_wp pm_code pm_meta (d + 2) 53 7 ([.ref 36, .int r, .int (pm_no s), .int i], [], (pm_Gb L b, I, J)) Q) (E := fun s => Q (pm_no s) 0 (pm_Gb L b, I, J)) (f := (fun (s : Int32) (c : Int32) => if kind c.toNatClampNeg = 7 ∧ is c.toNatClampNeg = r then pf_e s (proved c.toNatClampNeg) else s)) (P := fun _ _ => True) hn.1 hl (fun s i _ h0 _ => ?_) (fun _ _ _ _ _ => trivial) (nn.toNatClampNeg - (r.toNatClampNeg + 1)) (r + 1) (-1) trivial e4 (by omega)
  · rw [pb_53_0]
    exact key
  · rw [pb_53_7, hr.1.2]
    by_cases hi : nn ≤ i
    · simp only [hi, if_true, pb_53_82]
    · have h1 : i < nn := Int32.not_le.mp hi
      simp only [hi, if_false, pb_53_21, px_rig_0 hr, px_rig_7 hr, px_rig_9 hr, pm_at_in h0 h1]
      by_cases c1 : kind i.toNatClampNeg = 7
      · by_cases c2 : is i.toNatClampNeg = r
        · simp only [c1, c2, and_self, if_true, pb_53_33, pb_53_38, px_rig_7 hr, px_rig_9 hr, pm_at_in h0 h1, pb_53_51, pb_53_58, pb_53_72, px_earlier, pb_53_75, pb_53_76]
        · simp only [c1, c2, and_false, if_false, if_true, pb_53_33, pb_53_38, px_rig_7 hr, pm_at_in h0 h1, pb_53_51, pb_53_55, pb_53_76]
      · simp only [c1, false_and, if_false, pb_53_33, pb_53_76]
theorem far_e {s p : Int32} (p0 : 0 ≤ p) (p1 : p ≤ 3599) : (if p < pf_far s then p else pf_far s) = pf_far (pf_e s p) := by
  have np : ¬ p < 0 := Int32.not_lt.mpr p0
  unfold pf_far pf_e
  by_cases hs : s < 0
  · have : p < 1000000000 := Int32.lt_of_le_of_lt p1 (by decide)
    simp only [hs, np, this, if_true, if_false]
  · simp only [hs, np, if_false]
    split <;> simp only [hs, np, if_false]
theorem far_n {s p : Int32} (p0 : p < 0) : pf_far (pf_e s p) = pf_far s := by
  unfold pf_far pf_e
  by_cases hs : s < 0 <;> simp only [hs, p0, if_true, if_false]
theorem pr_claims {d L : Nat} {b : Bool} {I : Nat → Nat → Int32} {J : Nat → Nat → Int64} {r s : Int32} {Q : Int32 → Int64 → pm_H → Prop} (h0 : 0 ≤ I 80 4) (h24 : I 80 4 ≤ 24) (hp : ∀ i : Int32, 0 ≤ i → i < I 80 4 → I 107 i.toNatClampNeg ≤ 3599) (r0 : 0 ≤ r) (r1 : r < I 80 4) :
    pm_wp pm_code pm_meta (d + 1) 207 54 ([.ref 79, .int r, .int (pf_far s), .int (r + 1)], [], (pm_Gb L b, I, J)) Q ↔ pm_wp pm_code pm_meta (d + 1) 207 111 ([.ref 79, .int r, .int (pf_far (pm_fo (fun (s : Int32) (c : Int32) => if I 99 c.toNatClampNeg = 7 ∧ I 105 c.toNatClampNeg = r then pf_e s (I 107 c.toNatClampNeg) else s) ((I 80 4).toNatClampNeg - (r.toNatClampNeg + 1)) (r + 1) s)), .int (I 80 4)], [], (pm_Gb L b, I, J)) Q := by
  have hl : I 80 4 < 2147483647 := pi_ltb (Int32.lt_of_le_of_lt h24 (by decide : (24 : Int32) < 100)) (by decide)
  have t1 := pi_tni r0
  have t2 := pi_tni h0
  have t3 := pi_lt.mp r1
  have t4 := pi_le.mp h24
  have e24 : (24 : Int32).toInt = 24 := rfl
  have e3 : (r + 1).toNatClampNeg = r.toNatClampNeg + 1 := pi_tn1 r0 (by grind)
  have e4 : 0 ≤ r + 1 := by grind
  refine pm_for_aux (A := fun s i => pm_wp pm_code pm_meta (d + 1) 207 54 ([.ref 79, .int r, .int (pf_far s), .int i], [], (pm_Gb L b, I, J)) Q) (E := fun s => pm_wp pm_code pm_meta (d + 1) 207 111 ([.ref 79, .int r, .int (pf_far s), .int (I 80 4)], [], (pm_Gb L b, I, J)) Q) (f := (fun (s : Int32) (c : Int32) => if I 99 c.toNatClampNeg = 7 ∧ I 105 c.toNatClampNeg = r then pf_e s (I 107 c.toNatClampNeg) else s)) (P := fun _ _ => True) h0 hl (fun s i _ i0 i1 => ?_) (fun _ _ _ _ _ => trivial) ((I 80 4).toNatClampNeg - (r.toNatClampNeg + 1)) (r + 1) s trivial e4 (by omega)
  rw [pb_207_54]
  by_cases hi : I 80 4 ≤ i
  · have e : i = I 80 4 := Int32.le_antisymm i1 hi
    rw [if_pos hi, if_pos hi, e]
  · have h1 : i < I 80 4 := Int32.not_le.mp hi
    have ii : pm_in i 24 = true := pi_in i0 (by have := pi_lt.mp h1; omega)
    simp only [hi, if_false, pb_207_64, ii, true_and]
    by_cases c1 : I 99 i.toNatClampNeg = 7
    · by_cases c2 : I 105 i.toNatClampNeg = r
      · by_cases c3 : I 107 i.toNatClampNeg < 0
        · simp only [c1, c2, c3, and_self, if_true, pb_207_75, ii, true_and, pb_207_85, pb_207_105, far_n c3]
        · simp only [c1, c2, c3, and_self, if_true, if_false, pb_207_75, ii, true_and, pb_207_85, pb_207_94, pr_lesser, pb_207_104, pb_207_105, far_e (Int32.not_lt.mp c3) (hp i i0 h1)]
      · simp only [c1, c2, and_false, if_true, if_false, pb_207_75, ii, true_and, pb_207_105]
    · simp only [c1, false_and, if_false, pb_207_105]
theorem e_assoc {a b c : Int32} (hb : -1 ≤ b) (hc : -1 ≤ c) : pm_no (pf_e a (pf_e b c)) = pm_no (pf_e (pf_e a b) c) := by
  unfold pf_e pm_no
  grind

