/-! THE CALL value: the reference. -/
theorem pr_value_loop {d L : Nat} {b : Bool} {I : Nat → Nat → Int32} {J : Nat → Nat → Int64} {x1 x2 : Int32} {Q : Int32 → Int64 → pm_H → Prop} (hn0 : 0 ≤ I 80 3) (n24 : I 80 3 ≤ 24) (i8 : pm_in x1 8 = true) : ∀ (m : Nat) (i s left : Int32) (D : Option Int32), 0 ≤ i → i.toNatClampNeg + m = (I 80 3).toNatClampNeg → 0 ≤ left.toInt → left.toInt ≤ 40 →
    (pm_wp pm_code pm_meta d 260 42 ([.ref 79, .int x1, .int x2, .int left, .int s, .int 1, .int i, pm_vl D], [], (pm_Gb L b, I, J)) Q ↔ Q (pf_put (fun i : Int32 => (I 94 i.toNatClampNeg = x1 ∧ (I 97 i.toNatClampNeg = 0 ∨ (I 97 i.toNatClampNeg = 1 ∧ I 98 i.toNatClampNeg = 1)))) (fun i : Int32 => pf_hrs (I 95 i.toNatClampNeg)) m i s left) 0 (pm_Gb L b, pm_u (pm_u I 91 x1.toNatClampNeg (pf_put (fun i : Int32 => (I 94 i.toNatClampNeg = x1 ∧ (I 97 i.toNatClampNeg = 0 ∨ (I 97 i.toNatClampNeg = 1 ∧ I 98 i.toNatClampNeg = 1)))) (fun i : Int32 => pf_hrs (I 95 i.toNatClampNeg)) m i s left)) 92 x1.toNatClampNeg (I 80 0), J)) := by
  have hn : I 80 3 < 2147483647 := pi_ltb (Int32.lt_of_le_of_lt n24 (by decide : (24 : Int32) < 100)) (by decide)
  have u80 : ∀ v, pm_u I 91 x1.toNatClampNeg v 80 0 = I 80 0 := fun v => by rw [pm_u_row, if_neg (by decide)]
  intro m
  induction m with
  | zero =>
    intro i s left D h0 hm _ _
    have t1 := pi_tni h0
    have t2 := pi_tni hn0
    have hi : I 80 3 ≤ i := by rw [pi_le]; omega
    rcases D with _ | a <;> simp only [pm_vl_n, pm_vl_s] <;> first | (rw [pb_260_42, if_pos hi]; simp only [pb_260_190, i8, true_and, u80, pf_put]; done) | (rw [pb_260_42b, if_pos hi]; simp only [pb_260_190b, i8, true_and, u80, pf_put])
  | succ m ih =>
    intro i s left D h0 hm g0 g1
    have t1 := pi_tni h0
    have t2 := pi_tni hn0
    have e : i < I 80 3 := by rw [pi_lt]; omega
    have hi : ¬ I 80 3 ≤ i := Int32.not_le.mpr e
    have e3 : (i + 1).toNatClampNeg = i.toNatClampNeg + 1 := pi_tn1 h0 (Int32.lt_trans e hn)
    have e4 : 0 ≤ i + 1 := by have := pi_lt.mp e; have := pi_hi (I 80 3); rw [pi_le, pi_0, pi_add (by rw [pi_1]; omega) (by rw [pi_1]; omega), pi_1]; omega
    have i24 := pi_in24 n24 h0 e
    have hs := sub_rng (k := I 95 i.toNatClampNeg) g0 g1
    have hr := hrs_rng (k := I 95 i.toNatClampNeg)
    by_cases hc : (I 94 i.toNatClampNeg = x1 ∧ (I 97 i.toNatClampNeg = 0 ∨ (I 97 i.toNatClampNeg = 1 ∧ I 98 i.toNatClampNeg = 1)))
    · have at101 : pm_wp pm_code pm_meta d 260 42 ([.ref 79, .int x1, .int x2, .int left, .int s, .int 1, .int i, pm_vl D], [], (pm_Gb L b, I, J)) Q ↔ pm_wp pm_code pm_meta d 260 146 ([.ref 79, .int x1, .int x2, .int left, .int s, .int 1, .int i, pm_vl D], [.int (pf_hrs (I 95 i.toNatClampNeg))], (pm_Gb L b, I, J)) Q := by
        unfold pf_hrs
        obtain ⟨c1, c2⟩ := hc
        by_cases k0 : I 95 i.toNatClampNeg = 0 <;> by_cases k1 : I 95 i.toNatClampNeg = 1 <;> by_cases k2 : I 95 i.toNatClampNeg = 2 <;> by_cases c3 : I 97 i.toNatClampNeg = 0
        all_goals first
          | (rcases D with _ | a <;> simp only [pm_vl_n, pm_vl_s] <;> (first | rw [pb_260_42] | rw [pb_260_42b]) <;> simp only [hi, i24, c1, c3, k0, k1, k2, pb_260_0, pb_260_5, pb_260_18, pb_260_8, pb_260_15, pb_260_20, pb_260_25, pb_260_31, pb_260_28, pb_260_190, pb_260_53, pb_260_58, pb_260_69, pb_260_184, pb_260_101, pb_260_79, pb_260_111, pb_260_115, pb_260_90, pb_260_146, pb_260_126, pb_260_130, pb_260_158, pb_260_154, pb_260_141, pb_260_145, pb_260_159, pb_260_180, pb_260_173, pb_260_181, pb_260_184b, pb_260_190b, pb_260_53b, pb_260_58b, pb_260_69b, pb_260_101b, pb_260_79b, pb_260_111b, pb_260_115b, pb_260_90b, pb_260_146b, pb_260_126b, pb_260_130b, pb_260_141b, pb_260_145b, pl_1_0, pl_2_0, pl_2_1, if_true, if_false, true_and] <;> done)
          | (have c4 := (c2.resolve_left c3).1
             have c5 := (c2.resolve_left c3).2
             rcases D with _ | a <;> simp only [pm_vl_n, pm_vl_s] <;> (first | rw [pb_260_42] | rw [pb_260_42b]) <;> simp only [hi, i24, c1, c4, c5, k0, k1, k2, pb_260_0, pb_260_5, pb_260_18, pb_260_8, pb_260_15, pb_260_20, pb_260_25, pb_260_31, pb_260_28, pb_260_190, pb_260_53, pb_260_58, pb_260_69, pb_260_184, pb_260_101, pb_260_79, pb_260_111, pb_260_115, pb_260_90, pb_260_146, pb_260_126, pb_260_130, pb_260_158, pb_260_154, pb_260_141, pb_260_145, pb_260_159, pb_260_180, pb_260_173, pb_260_181, pb_260_184b, pb_260_190b, pb_260_53b, pb_260_58b, pb_260_69b, pb_260_101b, pb_260_79b, pb_260_111b, pb_260_115b, pb_260_90b, pb_260_146b, pb_260_126b, pb_260_130b, pb_260_141b, pb_260_145b, pl_1_0, pl_2_0, pl_2_1, if_true, if_false, true_and] <;> done)
      rw [at101]
      have hp : pf_put (fun i : Int32 => (I 94 i.toNatClampNeg = x1 ∧ (I 97 i.toNatClampNeg = 0 ∨ (I 97 i.toNatClampNeg = 1 ∧ I 98 i.toNatClampNeg = 1)))) (fun i : Int32 => pf_hrs (I 95 i.toNatClampNeg)) (m + 1) i s left = (if 0 ≤ left - pf_hrs (I 95 i.toNatClampNeg) then pf_put (fun i : Int32 => (I 94 i.toNatClampNeg = x1 ∧ (I 97 i.toNatClampNeg = 0 ∨ (I 97 i.toNatClampNeg = 1 ∧ I 98 i.toNatClampNeg = 1)))) (fun i : Int32 => pf_hrs (I 95 i.toNatClampNeg)) m (i + 1) (s ||| (1 <<< (i &&& 31))) (left - pf_hrs (I 95 i.toNatClampNeg)) else s) := if_pos hc
      rw [hp]
      by_cases c4 : left < pf_hrs (I 95 i.toNatClampNeg)
      · have c5 : ¬ 0 ≤ left - pf_hrs (I 95 i.toNatClampNeg) := by rw [hs.2]; exact not_not_intro c4
        rw [if_neg c5]
        rcases D with _ | a <;> simp only [pm_vl_n, pm_vl_s, pb_260_0, pb_260_5, pb_260_18, pb_260_8, pb_260_15, pb_260_20, pb_260_25, pb_260_31, pb_260_28, pb_260_190, pb_260_53, pb_260_58, pb_260_69, pb_260_184, pb_260_101, pb_260_79, pb_260_111, pb_260_115, pb_260_90, pb_260_146, pb_260_126, pb_260_130, pb_260_158, pb_260_154, pb_260_141, pb_260_145, pb_260_159, pb_260_180, pb_260_173, pb_260_181, pb_260_184b, pb_260_190b, pb_260_53b, pb_260_58b, pb_260_69b, pb_260_101b, pb_260_79b, pb_260_111b, pb_260_115b, pb_260_90b, pb_260_146b, pb_260_126b, pb_260_130b, pb_260_141b, pb_260_145b, c4, if_true, Int32.or_zero] <;> rw [pb_260_42b] <;> by_cases hi2 : I 80 3 ≤ i + 1 <;> simp only [hi2, pb_260_0, pb_260_5, pb_260_18, pb_260_8, pb_260_15, pb_260_20, pb_260_25, pb_260_31, pb_260_28, pb_260_190, pb_260_53, pb_260_58, pb_260_69, pb_260_184, pb_260_101, pb_260_79, pb_260_111, pb_260_115, pb_260_90, pb_260_146, pb_260_126, pb_260_130, pb_260_158, pb_260_154, pb_260_141, pb_260_145, pb_260_159, pb_260_180, pb_260_173, pb_260_181, pb_260_184b, pb_260_190b, pb_260_53b, pb_260_58b, pb_260_69b, pb_260_101b, pb_260_79b, pb_260_111b, pb_260_115b, pb_260_90b, pb_260_146b, pb_260_126b, pb_260_130b, pb_260_141b, pb_260_145b, if_true, if_false, i8, true_and, u80]
      · have c5 : 0 ≤ left - pf_hrs (I 95 i.toNatClampNeg) := by rw [hs.2]; exact c4
        have c6 := c5
        rw [pi_le, pi_0, hs.1] at c6
        rw [if_pos c5]
        have z := ih (i + 1) (s ||| (1 <<< (i &&& 31))) (left - pf_hrs (I 95 i.toNatClampNeg)) (some (pf_hrs (I 95 i.toNatClampNeg))) e4 (by omega) (by omega) (by omega)
        simp only [pm_vl_s] at z
        rcases D with _ | a <;> simp only [pm_vl_n, pm_vl_s, pb_260_0, pb_260_5, pb_260_18, pb_260_8, pb_260_15, pb_260_20, pb_260_25, pb_260_31, pb_260_28, pb_260_190, pb_260_53, pb_260_58, pb_260_69, pb_260_184, pb_260_101, pb_260_79, pb_260_111, pb_260_115, pb_260_90, pb_260_146, pb_260_126, pb_260_130, pb_260_158, pb_260_154, pb_260_141, pb_260_145, pb_260_159, pb_260_180, pb_260_173, pb_260_181, pb_260_184b, pb_260_190b, pb_260_53b, pb_260_58b, pb_260_69b, pb_260_101b, pb_260_79b, pb_260_111b, pb_260_115b, pb_260_90b, pb_260_146b, pb_260_126b, pb_260_130b, pb_260_141b, pb_260_145b, c4, if_false, pl_1_0] <;> exact z
    · have z := ih (i + 1) s left D e4 (by omega) g0 g1
      have hp : pf_put (fun i : Int32 => (I 94 i.toNatClampNeg = x1 ∧ (I 97 i.toNatClampNeg = 0 ∨ (I 97 i.toNatClampNeg = 1 ∧ I 98 i.toNatClampNeg = 1)))) (fun i : Int32 => pf_hrs (I 95 i.toNatClampNeg)) (m + 1) i s left = pf_put (fun i : Int32 => (I 94 i.toNatClampNeg = x1 ∧ (I 97 i.toNatClampNeg = 0 ∨ (I 97 i.toNatClampNeg = 1 ∧ I 98 i.toNatClampNeg = 1)))) (fun i : Int32 => pf_hrs (I 95 i.toNatClampNeg)) m (i + 1) s left := if_neg hc
      rw [hp]
      by_cases c1 : I 94 i.toNatClampNeg = x1
      · have c2 : ¬ I 97 i.toNatClampNeg = 0 := fun q => hc ⟨c1, Or.inl q⟩
        by_cases c3 : I 97 i.toNatClampNeg = 1
        · have c4 : ¬ I 98 i.toNatClampNeg = 1 := fun q => hc ⟨c1, Or.inr ⟨c3, q⟩⟩
          rcases D with _ | a <;> simp only [pm_vl_n, pm_vl_s] at z ⊢ <;> (first | rw [pb_260_42] | rw [pb_260_42b]) <;> simp only [hi, i24, c1, c3, c4, pb_260_0, pb_260_5, pb_260_18, pb_260_8, pb_260_15, pb_260_20, pb_260_25, pb_260_31, pb_260_28, pb_260_190, pb_260_53, pb_260_58, pb_260_69, pb_260_184, pb_260_101, pb_260_79, pb_260_111, pb_260_115, pb_260_90, pb_260_146, pb_260_126, pb_260_130, pb_260_158, pb_260_154, pb_260_141, pb_260_145, pb_260_159, pb_260_180, pb_260_173, pb_260_181, pb_260_184b, pb_260_190b, pb_260_53b, pb_260_58b, pb_260_69b, pb_260_101b, pb_260_79b, pb_260_111b, pb_260_115b, pb_260_90b, pb_260_146b, pb_260_126b, pb_260_130b, pb_260_141b, pb_260_145b, pl_1_0, if_true, if_false, true_and] <;> exact z
        · rcases D with _ | a <;> simp only [pm_vl_n, pm_vl_s] at z ⊢ <;> (first | rw [pb_260_42] | rw [pb_260_42b]) <;> simp only [hi, i24, c1, c2, c3, pb_260_0, pb_260_5, pb_260_18, pb_260_8, pb_260_15, pb_260_20, pb_260_25, pb_260_31, pb_260_28, pb_260_190, pb_260_53, pb_260_58, pb_260_69, pb_260_184, pb_260_101, pb_260_79, pb_260_111, pb_260_115, pb_260_90, pb_260_146, pb_260_126, pb_260_130, pb_260_158, pb_260_154, pb_260_141, pb_260_145, pb_260_159, pb_260_180, pb_260_173, pb_260_181, pb_260_184b, pb_260_190b, pb_260_53b, pb_260_58b, pb_260_69b, pb_260_101b, pb_260_79b, pb_260_111b, pb_260_115b, pb_260_90b, pb_260_146b, pb_260_126b, pb_260_130b, pb_260_141b, pb_260_145b, pl_1_0, if_true, if_false, true_and] <;> exact z
      · rcases D with _ | a <;> simp only [pm_vl_n, pm_vl_s] at z ⊢ <;> (first | rw [pb_260_42] | rw [pb_260_42b]) <;> simp only [hi, i24, c1, pb_260_0, pb_260_5, pb_260_18, pb_260_8, pb_260_15, pb_260_20, pb_260_25, pb_260_31, pb_260_28, pb_260_190, pb_260_53, pb_260_58, pb_260_69, pb_260_184, pb_260_101, pb_260_79, pb_260_111, pb_260_115, pb_260_90, pb_260_146, pb_260_126, pb_260_130, pb_260_158, pb_260_154, pb_260_141, pb_260_145, pb_260_159, pb_260_180, pb_260_173, pb_260_181, pb_260_184b, pb_260_190b, pb_260_53b, pb_260_58b, pb_260_69b, pb_260_101b, pb_260_79b, pb_260_111b, pb_260_115b, pb_260_90b, pb_260_146b, pb_260_126b, pb_260_130b, pb_260_141b, pb_260_145b, pl_1_0, if_true, if_false, true_and] <;> exact z
theorem po_value {d L : Nat} {b : Bool} {I : Nat → Nat → Int32} {J : Nat → Nat → Int64} {X : Nat → Int32} {x1 x2 : Int32} (hI : pm_inv X b I J) : pm_wc pm_code pm_meta (d + 20) 148 [.ref 8, .int x1, .int x2] (pm_Gb L b, I, J) (fun v _ H => pm_wc pm_code pm_meta (d + 20) 260 [.ref 79, .int x1, .int x2] H (pm_ok X L b v)) := by
  have hI0 := hI
  obtain ⟨⟨htod, hroa, hper, hhou, hthi, hrig, hver, hsea, hsta, hlot, hbuy, hdee, hple⟩, htxt, hrid, htmp, hshe, hshf, htra, hk, hkept, hcon⟩ := hI
  have hn1 := (per_n hper).1
  have hn2 := (hou_n hhou).1
  have hn3 := (thi_n hthi).1
  have hn4 := (rig_n hrig).1
  by_cases h1 : 0 ≤ x1 ∧ x1 < I 80 2
  · obtain ⟨a1, a2⟩ := h1
    have i8 := hou_in hhou a1 a2
    by_cases h2 : 0 ≤ x2 ∧ x2 ≤ 40
    · by_cases hf : 0 ≤ I 88 x1.toNatClampNeg
      · simp only [pb_148_0, pb_148_11, pb_148_24, pb_148_14, pb_148_21, pb_148_26, pb_148_34, pb_148_40, pb_148_37, pb_148_49, pb_148_64, pb_148_84, pb_260_0, pb_260_5, pb_260_18, pb_260_8, pb_260_15, pb_260_20, pb_260_25, pb_260_31, pb_260_28, pb_260_190, pb_260_53, pb_260_58, pb_260_69, pb_260_184, pb_260_101, pb_260_79, pb_260_111, pb_260_115, pb_260_90, pb_260_146, pb_260_126, pb_260_130, pb_260_158, pb_260_154, pb_260_141, pb_260_145, pb_260_159, pb_260_180, pb_260_173, pb_260_181, pb_260_184b, pb_260_190b, pb_260_53b, pb_260_58b, pb_260_69b, pb_260_101b, pb_260_79b, pb_260_111b, pb_260_115b, pb_260_90b, pb_260_146b, pb_260_126b, pb_260_130b, pb_260_141b, pb_260_145b, px_has_hou hhou, px_isWithin, px_fallen hhou a1 a2, pr_isHouse hn2, pr_in, pr_hasFallen, i8, a1, a2, h2, hf, pl_1_0, not_false_eq_true, not_true_eq_false, and_self, and_true, true_and, false_and, and_false, or_true, true_or, or_false, false_or, or_self, Int32.reduceLE, Int32.reduceLT, pi_lt0, pm_b_eq0, pm_b_eq1, ite_not, pm_k0, pm_k1, pm_b_fit, true_and, and_true, not_true_eq_false, not_false_eq_true, ite_true, ite_false, if_true, if_false]
        with_reducible exact pm_okJ hI0
      · simp only [pb_148_0, pb_148_11, pb_148_24, pb_148_14, pb_148_21, pb_148_26, pb_148_34, pb_148_40, pb_148_37, pb_148_49, pb_148_64, pb_148_84, px_has_hou hhou, px_isWithin, px_fallen hhou a1 a2, a1, a2, h2, hf, pl_1_0, not_false_eq_true, not_true_eq_false, and_self, and_true, true_and, false_and, and_false, or_true, true_or, or_false, false_or, or_self, Int32.reduceLE, Int32.reduceLT, pi_lt0, pm_b_eq0, pm_b_eq1, ite_not, pm_k0, pm_k1, pm_b_fit, true_and, and_true, not_true_eq_false, not_false_eq_true, ite_true, ite_false, if_true, if_false]
        rw [px_putDown (d := d + 17) hthi hcon.2.2.1 h2.1 h2.2]
        simp only [pb_148_0, pb_148_11, pb_148_24, pb_148_14, pb_148_21, pb_148_26, pb_148_34, pb_148_40, pb_148_37, pb_148_49, pb_148_64, pb_148_84, pt_full_14, pt_set_14_0, pt_set_14_1, pt_set_14_2, pt_set_14_3, pt_set_14_4, pt_set_14_5, pt_set_14_6, pt_set_14_7, pt_set_14_8, pt_set_14_9, pt_add_14, a1, a2, and_self, if_true, htod.1, hper.1.2, hhou.1.2, hthi.1.2, hrig.1.2, hver.1.2.1, hsta.1.2, hlot.1.2, hbuy.1.2, hdee.1.2, hper.1.1, hhou.1.1, hthi.1.1, hrig.1.1, hver.1.1, hver.1.2.2.1, hver.1.2.2.2, hsea.1.1, hroa.1.1, hsta.1.1, hlot.1.1, hbuy.1.1, hdee.1.1, ti_inc, pm_u_row, pm_zr_row, pm_r_row, pm_w_at, Nat.reduceEqDiff, Nat.reduceLT, ite_true, ite_false, if_true, if_false, ite_self, htod.1]
        have l0 := pi_le.mp h2.1
        have l1 := pi_le.mp h2.2
        rw [pi_0] at l0
        have e40 : (40 : Int32).toInt = 40 := rfl
        generalize hv : pf_put (fun i => I 94 i.toNatClampNeg = x1 ∧ (I 97 i.toNatClampNeg = 0 ∨ I 97 i.toNatClampNeg = 1 ∧ I 98 i.toNatClampNeg = 1)) (fun i => pf_hrs (I 95 i.toNatClampNeg)) (I 80 3).toNatClampNeg 0 0 x2 = v
        generalize hI1 : pm_u (pm_u I 15 (10 * x1.toNatClampNeg + 8) v) 15 (10 * x1.toNatClampNeg + 9) (I 80 0) = I1
        have r1 : ∀ k, ¬ k = 15 → I1 k = I k := fun k h => by rw [← hI1, pm_u_row, if_neg h, pm_u_row, if_neg h]
        have e80 := r1 80 (by decide)
        simp only [pb_260_0, pr_isHouse (I := I1) (by rw [e80]; exact hn2), e80, pb_260_5, pb_260_8, pr_in, pb_260_15, pb_260_20, pr_hasFallen, r1 88 (by decide), i8, pb_260_25, a1, a2, h2, hf, pb_260_31, pl_1_0, not_false_eq_true, not_true_eq_false, and_self, and_true, true_and, false_and, and_false, or_true, true_or, or_false, false_or, or_self, Int32.reduceLE, Int32.reduceLT, pi_lt0, pm_b_eq0, pm_b_eq1, ite_not, pm_k0, pm_k1, pm_b_fit, true_and, and_true, not_true_eq_false, not_false_eq_true, ite_true, ite_false, if_true, if_false]
        have z := pr_value_loop (d := d + 20) (L := L) (b := b) (I := I1) (J := J) (x1 := x1) (x2 := x2) (Q := pm_ok X L b v) (by rw [e80]; exact hn3) (by rw [e80]; exact (thi_n hthi).2) i8 (I1 80 3).toNatClampNeg 0 0 x2 none (Int32.le_refl 0) (by simp) l0 (by omega)
        simp only [e80, r1 94 (by decide), r1 95 (by decide), r1 97 (by decide), r1 98 (by decide), hv, pm_vl_n] at z
        refine z.mpr (pm_okI2 rfl ?_)
        rw [← hI1]
        have ht2 := pm_no_nn htod.2.1
        clear z r1 e80 hI1
        simp only [pm_inv, pm_land, pm_u_row, pm_zr_row, pm_w_at, Nat.reduceEqDiff, ite_true, ite_false, pm_kept_u, pm_kept_z, pm_kept_r, pm_r_row, ne_eq, not_false_eq_true, Nat.reduceLT, hcon, htod, hroa, hper, hhou, hthi, hrig, hver, hsea, hsta, hlot, hbuy, hdee, hple, htxt, hrid, htmp, hshe, hshf, htra, hk, hkept, true_and, and_true]
        exact hou_set89 hhou ht2
    · simp only [pb_148_0, pb_148_11, pb_148_24, pb_148_14, pb_148_21, pb_148_26, pb_148_34, pb_148_40, pb_148_37, pb_148_49, pb_148_64, pb_148_84, pb_260_0, pb_260_5, pb_260_18, pb_260_8, pb_260_15, pb_260_20, pb_260_25, pb_260_31, pb_260_28, pb_260_190, pb_260_53, pb_260_58, pb_260_69, pb_260_184, pb_260_101, pb_260_79, pb_260_111, pb_260_115, pb_260_90, pb_260_146, pb_260_126, pb_260_130, pb_260_158, pb_260_154, pb_260_141, pb_260_145, pb_260_159, pb_260_180, pb_260_173, pb_260_181, pb_260_184b, pb_260_190b, pb_260_53b, pb_260_58b, pb_260_69b, pb_260_101b, pb_260_79b, pb_260_111b, pb_260_115b, pb_260_90b, pb_260_146b, pb_260_126b, pb_260_130b, pb_260_141b, pb_260_145b, px_has_hou hhou, px_isWithin, pr_isHouse hn2, pr_in, a1, a2, h2, pl_1_0, not_false_eq_true, not_true_eq_false, and_self, and_true, true_and, false_and, and_false, or_true, true_or, or_false, false_or, or_self, Int32.reduceLE, Int32.reduceLT, pi_lt0, pm_b_eq0, pm_b_eq1, ite_not, pm_k0, pm_k1, pm_b_fit, true_and, and_true, not_true_eq_false, not_false_eq_true, ite_true, ite_false, if_true, if_false]
      with_reducible exact pm_okJ hI0
  · simp only [pb_148_0, pb_148_11, pb_148_24, pb_148_14, pb_148_21, pb_148_26, pb_148_34, pb_148_40, pb_148_37, pb_148_49, pb_148_64, pb_148_84, pb_260_0, pb_260_5, pb_260_18, pb_260_8, pb_260_15, pb_260_20, pb_260_25, pb_260_31, pb_260_28, pb_260_190, pb_260_53, pb_260_58, pb_260_69, pb_260_184, pb_260_101, pb_260_79, pb_260_111, pb_260_115, pb_260_90, pb_260_146, pb_260_126, pb_260_130, pb_260_158, pb_260_154, pb_260_141, pb_260_145, pb_260_159, pb_260_180, pb_260_173, pb_260_181, pb_260_184b, pb_260_190b, pb_260_53b, pb_260_58b, pb_260_69b, pb_260_101b, pb_260_79b, pb_260_111b, pb_260_115b, pb_260_90b, pb_260_146b, pb_260_126b, pb_260_130b, pb_260_141b, pb_260_145b, px_has_hou hhou, pr_isHouse hn2, h1, pl_1_0, not_false_eq_true, not_true_eq_false, and_self, and_true, true_and, false_and, and_false, or_true, true_or, or_false, false_or, or_self, Int32.reduceLE, Int32.reduceLT, pi_lt0, pm_b_eq0, pm_b_eq1, ite_not, pm_k0, pm_k1, pm_b_fit, true_and, and_true, not_true_eq_false, not_false_eq_true, ite_true, ite_false, if_true, if_false]
    with_reducible exact pm_okJ hI0

