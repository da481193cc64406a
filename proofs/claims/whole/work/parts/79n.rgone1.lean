/-! From which day the rights are gone: a whole turn of the reference's. -/
theorem pr_gone1 {d L : Nat} {b : Bool} {I : Nat → Nat → Int32} {J : Nat → Nat → Int64} {q : Int32} {D : Option (Int32 × Int32)} {Q : Int32 → Int64 → pm_H → Prop} (h : pg_ver (I 20) (I 21) (I 22) (I 23) (I 24) (I 25) (I 80 5) (I 80 0) (I 112) (I 113) (I 114) (I 115) (I 116) (I 117) (I 118) (I 119) (I 120) (I 121) (I 122) (I 123))
    (i24 : pm_in q 24 = true) (i8 : pm_in (I 100 q.toNatClampNeg) 8 = true) (i16 : pm_in (I 101 q.toNatClampNeg) 16 = true) (n0 : 0 ≤ I 80 4) (n24 : I 80 4 ≤ 24) (hp : ∀ i : Int32, 0 ≤ i → i < I 80 4 → -1 ≤ I 107 i.toNatClampNeg ∧ I 107 i.toNatClampNeg ≤ 3599) (q0 : 0 ≤ q) (q1 : q < I 80 4) (hf9 : I 88 (I 100 q.toNatClampNeg).toNatClampNeg ≤ 3599) (hl : I 106 q.toNatClampNeg < q) (hg : 0 ≤ I 106 q.toNatClampNeg → -1 ≤ I 137 (I 106 q.toNatClampNeg).toNatClampNeg ∧ I 137 (I 106 q.toNatClampNeg).toNatClampNeg ≤ 3599) :
    pm_wp pm_code pm_meta (d + 6) 207 2 ([.ref 79, .int q, pm_vl (D.map (·.1)), pm_vl (D.map (·.2))], [], (pm_Gb L b, I, J)) Q ↔ pm_wp pm_code pm_meta (d + 6) 207 2 ([.ref 79, .int (q + 1), .int (pf_far (pf_e (pf_own (I 88 (I 100 q.toNatClampNeg).toNatClampNeg) (pf_rf (I 117) (I 119) 0 (pf_tl (pf_ans (I 85) (I 100) (I 102) (I 99) (I 105) (I 88) (I 101) (I 82) (I 83) q) (I 112) (I 113) (I 114) (I 115) (I 117) (I 118) (I 120) (I 121) (I 122) (I 123) (I 80 5) (I 88 (I 100 q.toNatClampNeg).toNatClampNeg) (I 99 q.toNatClampNeg) 0 4)) (pf_dis (I 99) (I 105) (I 107) (I 80 4) q)) (if 0 ≤ I 106 q.toNatClampNeg then I 137 (I 106 q.toNatClampNeg).toNatClampNeg else -1))), .int (I 80 4)], [], (pm_Gb L b, pm_u (if 0 ≤ I 88 (I 100 q.toNatClampNeg).toNatClampNeg then pm_u I 79 70 (pf_why (pf_tl (pf_ans (I 85) (I 100) (I 102) (I 99) (I 105) (I 88) (I 101) (I 82) (I 83) q) (I 112) (I 113) (I 114) (I 115) (I 117) (I 118) (I 120) (I 121) (I 122) (I 123) (I 80 5) (I 88 (I 100 q.toNatClampNeg).toNatClampNeg) (I 99 q.toNatClampNeg) 0 4)) else I) 137 q.toNatClampNeg (pf_e (pf_own (I 88 (I 100 q.toNatClampNeg).toNatClampNeg) (pf_rf (I 117) (I 119) 0 (pf_tl (pf_ans (I 85) (I 100) (I 102) (I 99) (I 105) (I 88) (I 101) (I 82) (I 83) q) (I 112) (I 113) (I 114) (I 115) (I 117) (I 118) (I 120) (I 121) (I 122) (I 123) (I 80 5) (I 88 (I 100 q.toNatClampNeg).toNatClampNeg) (I 99 q.toNatClampNeg) 0 4)) (pf_dis (I 99) (I 105) (I 107) (I 80 4) q)) (if 0 ≤ I 106 q.toNatClampNeg then I 137 (I 106 q.toNatClampNeg).toNatClampNeg else -1)), J)) Q := by
  have hi : ¬ I 80 4 ≤ q := Int32.not_le.mpr q1
  have f1 : pf_far (-1) = 1000000000 := by decide
  by_cases hf : 0 ≤ I 88 (I 100 q.toNatClampNeg).toNatClampNeg
  · have o : ∀ t k, ¬ k = 79 → pm_u I 79 70 t k = I k := fun t k hk => pm_u_off hk
    have tl := fun s t (hs : -1 ≤ s ∧ s ≤ 3599) => pr_gone_t (d := d + 5) (L := L) (b := b) (I := pm_u I 79 70 t) (J := J) (q := q) (s := s) (Q := Q) (by rw [o t 80 (by decide)]; exact n0) (by rw [o t 80 (by decide)]; exact n24) (by rw [o t 80 (by decide), o t 107 (by decide)]; exact hp) q0 (by rw [o t 80 (by decide)]; exact q1) hs (by rw [o t 106 (by decide)]; exact hl) (by rw [o t 106 (by decide), o t 137 (by decide)]; exact hg)
    have o88 : ∀ t, pm_u I 79 70 t 88 = I 88 := fun t => pm_u_off (by decide)
    have o100 : ∀ t, pm_u I 79 70 t 100 = I 100 := fun t => pm_u_off (by decide)
    simp only [o _ 80 (by decide), o _ 99 (by decide), o _ 105 (by decide), o _ 106 (by decide), o _ 107 (by decide), o _ 137 (by decide)] at tl
    have ff : pf_far (I 88 (I 100 q.toNatClampNeg).toNatClampNeg) = I 88 (I 100 q.toNatClampNeg).toNatClampNeg := by unfold pf_far; rw [if_neg (Int32.not_lt.mpr hf)]
    rw [if_pos hf]
    unfold pf_own
    by_cases hs : pf_rf (I 117) (I 119) 0 (pf_tl (pf_ans (I 85) (I 100) (I 102) (I 99) (I 105) (I 88) (I 101) (I 82) (I 83) q) (I 112) (I 113) (I 114) (I 115) (I 117) (I 118) (I 120) (I 121) (I 122) (I 123) (I 80 5) (I 88 (I 100 q.toNatClampNeg).toNatClampNeg) (I 99 q.toNatClampNeg) 0 4) = 0
    · have t1 := tl (-1) (pf_why (pf_tl (pf_ans (I 85) (I 100) (I 102) (I 99) (I 105) (I 88) (I 101) (I 82) (I 83) q) (I 112) (I 113) (I 114) (I 115) (I 117) (I 118) (I 120) (I 121) (I 122) (I 123) (I 80 5) (I 88 (I 100 q.toNatClampNeg).toNatClampNeg) (I 99 q.toNatClampNeg) 0 4)) ⟨by decide, by decide⟩
      rw [f1] at t1
      rw [if_neg (fun g => g.2 hs)]
      refine Iff.trans ?_ t1
      cases D <;> simp only [Option.map, pm_vl_n, pm_vl_s] <;> first | (rw [pb_207_2]; simp only [hi, if_false, pb_207_12, i24, true_and, pr_hasFallen, i8, hf, pm_b_t, pb_207_26, show ¬ (1 : Int32) = 0 from by decide, pb_207_29, pr_ruleFor (d := d + 1) h i24 i8 i16 (Or.inl rfl), pb_207_35, hs, if_true, pb_207_50]) | (rw [pb_207_2b]; simp only [hi, if_false, pb_207_12b, i24, true_and, pr_hasFallen, i8, hf, pm_b_t, pb_207_26b, show ¬ (1 : Int32) = 0 from by decide, pb_207_29b, pr_ruleFor (d := d + 1) h i24 i8 i16 (Or.inl rfl), pb_207_35b, hs, if_true, pb_207_50b])
    · have t1 := tl (I 88 (I 100 q.toNatClampNeg).toNatClampNeg) (pf_why (pf_tl (pf_ans (I 85) (I 100) (I 102) (I 99) (I 105) (I 88) (I 101) (I 82) (I 83) q) (I 112) (I 113) (I 114) (I 115) (I 117) (I 118) (I 120) (I 121) (I 122) (I 123) (I 80 5) (I 88 (I 100 q.toNatClampNeg).toNatClampNeg) (I 99 q.toNatClampNeg) 0 4)) ⟨Int32.le_trans (by decide) hf, hf9⟩
      rw [ff] at t1
      rw [if_pos ⟨hf, hs⟩]
      refine Iff.trans ?_ t1
      cases D <;> simp only [Option.map, pm_vl_n, pm_vl_s] <;> first | (rw [pb_207_2]; simp only [hi, if_false, pb_207_12, i24, true_and, pr_hasFallen, i8, hf, pm_b_t, pb_207_26, show ¬ (1 : Int32) = 0 from by decide, pb_207_29, pr_ruleFor (d := d + 1) h i24 i8 i16 (Or.inl rfl), pb_207_35, hs, pb_207_38, o88, o100, pb_207_50]) | (rw [pb_207_2b]; simp only [hi, if_false, pb_207_12b, i24, true_and, pr_hasFallen, i8, hf, pm_b_t, pb_207_26b, show ¬ (1 : Int32) = 0 from by decide, pb_207_29b, pr_ruleFor (d := d + 1) h i24 i8 i16 (Or.inl rfl), pb_207_35b, hs, pb_207_38b, o88, o100, pb_207_50b])
  · have t1 := pr_gone_t (d := d + 5) (L := L) (b := b) (I := I) (J := J) (q := q) (s := -1) (Q := Q) n0 n24 hp q0 q1 ⟨by decide, by decide⟩ hl hg
    rw [f1] at t1
    unfold pf_own
    rw [if_neg hf, if_neg (fun g => hf g.1)]
    refine Iff.trans ?_ t1
    cases D <;> simp only [Option.map, pm_vl_n, pm_vl_s] <;> first | (rw [pb_207_2]; simp only [hi, if_false, pb_207_12, i24, true_and, pr_hasFallen, i8, hf, pm_b_f, not_false_eq_true, pb_207_26, if_true, pb_207_50]) | (rw [pb_207_2b]; simp only [hi, if_false, pb_207_12b, i24, true_and, pr_hasFallen, i8, hf, pm_b_f, not_false_eq_true, pb_207_26b, if_true, pb_207_50b])

