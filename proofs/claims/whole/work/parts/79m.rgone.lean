/-! From which day the rights are gone: a turn of the reference's. -/
theorem e_rng {a c : Int32} (ha : -1 ≤ a ∧ a ≤ 3599) (hc : -1 ≤ c ∧ c ≤ 3599) : -1 ≤ pf_e a c ∧ pf_e a c ≤ 3599 := by
  unfold pf_e
  grind
theorem dis_rng {kind is proved : Nat → Int32} {r n : Int32} (n0 : 0 ≤ n) (hn : n < 2147483647) (hp : ∀ j : Int32, 0 ≤ j → j < n → -1 ≤ proved j.toNatClampNeg ∧ proved j.toNatClampNeg ≤ 3599) : ∀ (m : Nat) (i s : Int32), 0 ≤ i → i.toNatClampNeg + m = n.toNatClampNeg → (-1 ≤ s ∧ s ≤ 3599) → -1 ≤ pm_fo (fun (s : Int32) (c : Int32) => if kind c.toNatClampNeg = 7 ∧ is c.toNatClampNeg = r then pf_e s (proved c.toNatClampNeg) else s) m i s ∧ pm_fo (fun (s : Int32) (c : Int32) => if kind c.toNatClampNeg = 7 ∧ is c.toNatClampNeg = r then pf_e s (proved c.toNatClampNeg) else s) m i s ≤ 3599
  | 0, i, s, _, _, h => h
  | m + 1, i, s, i0, hm, h => by
    have t1 := pi_tni i0
    have t2 := pi_tni n0
    have h1 : i < n := by rw [pi_lt]; omega
    have e5 : (i + 1).toNatClampNeg = i.toNatClampNeg + 1 := pi_tn1 i0 (by grind)
    have e6 : 0 ≤ i + 1 := by grind
    have p := hp i i0 h1
    unfold pm_fo
    refine dis_rng n0 hn hp m (i + 1) _ e6 (by omega) ?_
    split
    · exact e_rng h p
    · exact h
theorem far_back {s : Int32} (h : -1 ≤ s ∧ s ≤ 3599) : (if pf_far s = 1000000000 then -1 else pf_far s) = s := by
  unfold pf_far
  grind
theorem pr_gone_t {d L : Nat} {b : Bool} {I : Nat → Nat → Int32} {J : Nat → Nat → Int64} {q s : Int32} {Q : Int32 → Int64 → pm_H → Prop} (n0 : 0 ≤ I 80 4) (n24 : I 80 4 ≤ 24) (hp : ∀ i : Int32, 0 ≤ i → i < I 80 4 → -1 ≤ I 107 i.toNatClampNeg ∧ I 107 i.toNatClampNeg ≤ 3599) (q0 : 0 ≤ q) (q1 : q < I 80 4) (hs : -1 ≤ s ∧ s ≤ 3599) (hl : I 106 q.toNatClampNeg < q) (hg : 0 ≤ I 106 q.toNatClampNeg → -1 ≤ I 137 (I 106 q.toNatClampNeg).toNatClampNeg ∧ I 137 (I 106 q.toNatClampNeg).toNatClampNeg ≤ 3599) :
    pm_wp pm_code pm_meta (d + 1) 207 54 ([.ref 79, .int q, .int (pf_far s), .int (q + 1)], [], (pm_Gb L b, I, J)) Q ↔ pm_wp pm_code pm_meta (d + 1) 207 2 ([.ref 79, .int (q + 1), .int (pf_far (pf_e (pf_e s (pf_dis (I 99) (I 105) (I 107) (I 80 4) q)) (if 0 ≤ I 106 q.toNatClampNeg then I 137 (I 106 q.toNatClampNeg).toNatClampNeg else -1))), .int (I 80 4)], [], (pm_Gb L b, pm_u I 137 q.toNatClampNeg (pf_e (pf_e s (pf_dis (I 99) (I 105) (I 107) (I 80 4) q)) (if 0 ≤ I 106 q.toNatClampNeg then I 137 (I 106 q.toNatClampNeg).toNatClampNeg else -1)), J)) Q := by
  have hn : I 80 4 < 2147483647 := pi_ltb (Int32.lt_of_le_of_lt n24 (by decide : (24 : Int32) < 100)) (by decide)
  have e24 : (24 : Int32).toInt = 24 := rfl
  have t1 := pi_tni q0
  have t2 := pi_tni n0
  have t3 := pi_lt.mp q1
  have t4 := pi_le.mp n24
  have e3 : (q + 1).toNatClampNeg = q.toNatClampNeg + 1 := pi_tn1 q0 (by grind)
  have e4 : 0 ≤ q + 1 := by grind
  have iq : pm_in q 24 = true := pi_in q0 (by omega)
  have dd := dis_from (kind := I 99) (is := I 105) (r := q) n0 hn (fun j a c => (hp j a c).1) ((I 80 4).toNatClampNeg - (q.toNatClampNeg + 1)) (q + 1) s e4 (by omega) hs.1
  have dr := dis_rng (kind := I 99) (is := I 105) (r := q) n0 hn hp ((I 80 4).toNatClampNeg - (q.toNatClampNeg + 1)) (q + 1) (-1) e4 (by omega) ⟨by decide, by decide⟩
  have dr' : -1 ≤ (pf_dis (I 99) (I 105) (I 107) (I 80 4) q) ∧ (pf_dis (I 99) (I 105) (I 107) (I 80 4) q) ≤ 3599 := dr
  refine (pr_claims (s := s) n0 n24 (fun i a c => (hp i a c).2) q0 q1).trans ?_
  rw [dd]
  show pm_wp pm_code pm_meta (d + 1) 207 111 ([.ref 79, .int q, .int (pf_far (pf_e s (pf_dis (I 99) (I 105) (I 107) (I 80 4) q))), .int (I 80 4)], [], (pm_Gb L b, I, J)) Q ↔ _
  generalize (pf_dis (I 99) (I 105) (I 107) (I 80 4) q) = ds at dr' ⊢
  have sr := e_rng hs dr'
  generalize pf_e s ds = w at sr ⊢
  rw [pb_207_111]
  by_cases hl0 : I 106 q.toNatClampNeg < 0
  · have hl1 : ¬ 0 ≤ I 106 q.toNatClampNeg := Int32.not_le.mpr hl0
    have fb := far_back sr
    simp only [iq, true_and, hl0, hl1, if_true, if_false, e_1m sr.1, pb_207_150]
    by_cases hf : pf_far w = 1000000000
    · rw [if_pos hf] at fb
      simp only [hf, if_true, pb_207_162, pb_207_167, iq, true_and, fb]
    · rw [if_neg hf] at fb
      rw [fb] at hf
      simp only [hf, if_false, pb_207_166, pb_207_167, iq, true_and, fb]
  · have hl1 : 0 ≤ I 106 q.toNatClampNeg := Int32.not_lt.mp hl0
    have t5 := pi_tni hl1
    have t6 := pi_lt.mp hl
    have il : pm_in (I 106 q.toNatClampNeg) 24 = true := pi_in hl1 (by omega)
    have gr := hg hl1
    have vr := e_rng sr gr
    have fb := far_back vr
    have tl : ∀ v, -1 ≤ v ∧ v ≤ 3599 → (pm_wp pm_code pm_meta (d + 1) 207 150 ([.ref 79, .int q, .int (pf_far v), .int (I 80 4)], [], (pm_Gb L b, I, J)) Q ↔ pm_wp pm_code pm_meta (d + 1) 207 2 ([.ref 79, .int (q + 1), .int (pf_far v), .int (I 80 4)], [], (pm_Gb L b, pm_u I 137 q.toNatClampNeg v, J)) Q) := fun v hv => by
      have fb := far_back hv
      rw [pb_207_150]
      by_cases hf : pf_far v = 1000000000
      · rw [if_pos hf] at fb
        simp only [hf, if_true, pb_207_162, pb_207_167, iq, true_and, fb]
      · rw [if_neg hf] at fb
        rw [fb] at hf
        simp only [hf, if_false, pb_207_166, pb_207_167, iq, true_and, fb]
    by_cases hgn : I 137 (I 106 q.toNatClampNeg).toNatClampNeg < 0
    · have gm : I 137 (I 106 q.toNatClampNeg).toNatClampNeg = -1 := by grind
      simp only [iq, il, true_and, hl0, hl1, if_true, if_false, pb_207_120, hgn, tl w sr]
      rw [gm, e_1m sr.1]
    · simp only [iq, il, true_and, hl0, hl1, if_true, if_false, pb_207_120, hgn, pb_207_134, pr_lesser, far_e (Int32.not_lt.mp hgn) gr.2, pb_207_149, tl _ vr]

