/-! THE CALL right. -/
theorem pi_in24 {p n : Int32} (h : n ≤ 24) (h0 : 0 ≤ p) (h1 : p < n) : pm_in p 24 = true := by
  rw [pi_lt] at h1; rw [pi_le] at h
  exact pi_in h0 (by have e : (24 : Int32).toInt = 24 := rfl; omega)
def pm_isof (x y z n m : Int32) (f : Nat → Int32) : Int32 := pm_b ((x = 2 ∧ 0 ≤ z ∧ z ≤ 3599) ∨ (x = 6 ∧ (0 ≤ z ∧ z < n) ∧ f z.toNatClampNeg = y) ∨ (x = 7 ∧ 0 ≤ z ∧ z < m) ∨ (¬ x = 2 ∧ ¬ x = 6 ∧ ¬ x = 7 ∧ z = 0))
theorem pm_ite_eq {a b : Int32} {A B : Prop} (h1 : (a = b) = True → A) (h2 : (a = b) = False → B) : if a = b then A else B := by
  by_cases h : a = b
  · rw [if_pos h]; exact h1 (eq_true h)
  · rw [if_neg h]; exact h2 (eq_false h)
theorem pm_ite_intro {c A B : Prop} [Decidable c] (h1 : c → A) (h2 : ¬ c → B) : if c then A else B := by
  by_cases h : c
  · rw [if_pos h]; exact h1 h
  · rw [if_neg h]; exact h2 h
theorem px_isOf {d L : Nat} {b : Bool} {I : Nat → Nat → Int32} {J : Nat → Nat → Int64} {x y z : Int32} {Q : Int32 → Int64 → pm_H → Prop} {X : Nat → Int32} (hI : pm_inv X b I J) : pm_wc pm_code pm_meta (d + 3) 128 [.ref 8, .int x, .int y, .int z] (pm_Gb L b, I, J) Q ↔ Q (pm_isof x y z (I 80 3) (I 80 4) (I 94)) 0 (pm_Gb L b, I, J) := by
  unfold pm_isof
  have hI0 := hI
  obtain ⟨⟨htod, hroa, hper, hhou, hthi, hrig, hver, hsea, hsta, hlot, hbuy, hdee, hple⟩, htxt, hrid, htmp, hshe, hshf, htra, hk, hkept, hcon⟩ := hI
  have hn1 := (per_n hper).1
  have hn2 := (hou_n hhou).1
  have hn3 := (thi_n hthi).1
  have hn4 := (rig_n hrig).1
  simp only [pb_128_0, pb_128_89, pb_128_77, pb_128_41, pb_128_36, pb_128_93, pb_128_97, pb_128_88, pb_128_52, pb_128_40, pb_128_98, pb_128_75, pb_128_55, pb_128_76, pb_128_67, pb_128_71, px_has_thi hthi, px_thi_0 hthi, px_thi_1 hthi, px_thi_2 hthi, px_thi_3 hthi, px_thi_4 hthi, px_has_rig hrig, px_rig_0 hrig, px_rig_1 hrig, px_rig_2 hrig, px_rig_3 hrig, px_rig_4 hrig, px_rig_5 hrig, px_rig_6 hrig, px_rig_7 hrig, px_rig_9 hrig, px_rig_10 hrig, px_rig_11 hrig, px_rig_12 hrig, px_isDay, htod.1, hper.1.2, hhou.1.2, hthi.1.2, hrig.1.2, hver.1.2.1, hsta.1.2, hlot.1.2, hbuy.1.2, hdee.1.2, Int32.reduceLE, Int32.reduceLT, pi_lt0, pm_b_eq0, pm_b_eq1, ite_not, pm_k0, pm_k1, pm_b_fit, true_and, and_true, not_true_eq_false, not_false_eq_true, ite_true, ite_false, if_true, if_false]
  have n1 : ¬ (2 : Int32) = 6 := by decide
  have n2 : ¬ (2 : Int32) = 7 := by decide
  have n3 : ¬ (6 : Int32) = 7 := by decide
  have n4 : ¬ (6 : Int32) = 2 := by decide
  have n5 : ¬ (7 : Int32) = 2 := by decide
  have n6 : ¬ (7 : Int32) = 6 := by decide
  by_cases h2 : x = 2
  · subst h2; simp only [n1, n2, true_and, false_and, or_false, not_true_eq_false, false_or, if_true]
  · by_cases h6 : x = 6
    · subst h6
      simp only [n3, n4, true_and, false_and, or_false, not_true_eq_false, false_or, if_true, if_false, not_false_eq_true]
      by_cases hz : 0 ≤ z ∧ z < I 80 3
      · simp only [hz, if_true, pm_at_in, and_self, true_and]
        by_cases hh : I 94 z.toNatClampNeg = y
        · simp only [hh, if_true, pm_b]
        · simp only [hh, if_false, pm_b]
      · simp only [hz, if_false, pm_b, false_and]
    · by_cases h7 : x = 7
      · subst h7; simp only [n5, n6, true_and, false_and, or_false, not_true_eq_false, false_or, if_true, if_false, not_false_eq_true]
      · simp only [h2, h6, h7, true_and, false_and, or_false, false_or, if_false, not_false_eq_true]
        by_cases hz : z = 0 <;> simp [hz, pm_b]
theorem pr_isOf {d L : Nat} {b : Bool} {I : Nat → Nat → Int32} {J : Nat → Nat → Int64} {x y z : Int32} {Q : Int32 → Int64 → pm_H → Prop} (hn3 : 0 ≤ I 80 3) (hn3' : I 80 3 ≤ 24) (hn4 : 0 ≤ I 80 4) : pm_wc pm_code pm_meta (d + 3) 205 [.ref 79, .int x, .int y, .int z] (pm_Gb L b, I, J) Q ↔ Q (pm_isof x y z (I 80 3) (I 80 4) (I 94)) 0 (pm_Gb L b, I, J) := by
  unfold pm_isof
  simp only [pb_205_0, pb_205_5, pb_205_10, pb_205_9, pb_205_16, pb_205_40, pb_205_21, pb_205_46, pb_205_54, pb_205_38, pb_205_24, pb_205_51, pb_205_58, pb_205_62, pb_205_39, pb_205_34, pb_205_63, pr_isDay, pr_isThing, pr_isRight, Int32.reduceLE, Int32.reduceLT, pi_lt0, pm_b_eq0, pm_b_eq1, ite_not, pm_k0, pm_k1, pm_b_fit, true_and, and_true, not_true_eq_false, not_false_eq_true, ite_true, ite_false, if_true, if_false, hn3, hn4]
  have n1 : ¬ (2 : Int32) = 6 := by decide
  have n2 : ¬ (2 : Int32) = 7 := by decide
  have n3 : ¬ (6 : Int32) = 7 := by decide
  have n4 : ¬ (6 : Int32) = 2 := by decide
  have n5 : ¬ (7 : Int32) = 2 := by decide
  have n6 : ¬ (7 : Int32) = 6 := by decide
  by_cases h2 : x = 2
  · subst h2; simp only [n1, n2, true_and, false_and, or_false, not_true_eq_false, false_or, if_true]
  · by_cases h6 : x = 6
    · subst h6
      simp only [n3, n4, true_and, false_and, or_false, not_true_eq_false, false_or, if_true, if_false, not_false_eq_true]
      by_cases hz : 0 ≤ z ∧ z < I 80 3
      · simp only [hz, if_true, and_self, true_and, pi_in24 hn3' hz.1 hz.2]
        by_cases hh : I 94 z.toNatClampNeg = y
        · simp only [hh, if_true, pm_b]
        · simp only [hh, if_false, pm_b]
      · simp only [hz, if_false, pm_b, false_and]
    · by_cases h7 : x = 7
      · subst h7; simp only [n5, n6, true_and, false_and, or_false, not_true_eq_false, false_or, if_true, if_false, not_false_eq_true]
      · simp only [h2, h6, h7, true_and, false_and, or_false, false_or, if_false, not_false_eq_true]
        by_cases hz : z = 0 <;> simp [hz, pm_b]
theorem pi_m1 {n : Int32} (h : 0 ≤ n) : -1 < n := by grind
theorem pi_m0 {n : Int32} (h : 0 ≤ n) : -1 ≤ n := by grind
theorem isof_t {x y z n m : Int32} {f : Nat → Int32} (h : (pm_isof x y z n m f = 0) = False) : (x = 2 → 0 ≤ z ∧ z ≤ 3599) ∧ (x = 6 → 0 ≤ z ∧ z < n) := by
  unfold pm_isof at h
  rw [pm_b_eq0] at h
  have h := Classical.not_not.mp (of_eq_false h)
  constructor <;> intro e <;> subst e <;> simp at h <;> first | exact h | exact h.1
theorem isof_7 {x y z n m : Int32} {f : Nat → Int32} (h : (pm_isof x y z n m f = 0) = False) (e : x = 6) : (0 ≤ z ∧ z < n) ∧ f z.toNatClampNeg = y := by
  unfold pm_isof at h
  rw [pm_b_eq0] at h
  have h := Classical.not_not.mp (of_eq_false h)
  subst e
  simpa using h
theorem ple_pledge2 {nH nT nR nR2 x y z : Int32} {coin fell had house worth is kind rh ris : Nat → Int32} (h : pg_ple nH nT nR coin fell had house worth is kind rh ris) (h0 : 0 ≤ nR) (h24 : nR < 24) (hx : (x = 6) = True) (h9 : (pm_isof x y z nT nR2 house = 0) = False) (hf : ¬ 0 ≤ fell y.toNatClampNeg) (hz : (is z.toNatClampNeg = 0) = True) : pg_ple nH nT (nR + 1) coin fell had house worth (pm_w is z.toNatClampNeg 2) (pm_w kind nR.toNatClampNeg x) (pm_w rh nR.toNatClampNeg y) (pm_w ris nR.toNatClampNeg z) := by
  have e := of_eq_true hx
  have g := isof_7 h9 e
  subst e
  exact ple_pledge h h0 h24 hf g.1.1 g.1.2 (of_eq_true hz) g.2
theorem isof_6 {y z n m : Int32} {x : Int32} {f : Nat → Int32} (h : (pm_isof x y z n m f = 0) = False) (e : (x = 6) = True) : (0 ≤ z ∧ z < n) = True := eq_true ((isof_t h).2 (of_eq_true e))
theorem po_right {d L : Nat} {b : Bool} {I : Nat → Nat → Int32} {J : Nat → Nat → Int64} {X : Nat → Int32} {x1 x2 x3 x4 x5 x6 x7 x8 : Int32} (hI : pm_inv X b I J) : pm_wc pm_code pm_meta (d + 20) 127 [.ref 8, .int x1, .int x2, .int x3, .int x4, .int x5, .int x6, .int x7, .int x8] (pm_Gb L b, I, J) (fun v _ H => pm_wc pm_code pm_meta (d + 20) 206 [.ref 79, .int x1, .int x2, .int x3, .int x4, .int x5, .int x6, .int x7, .int x8] H (pm_ok X L b v)) := by
  have hI0 := hI
  obtain ⟨⟨htod, hroa, hper, hhou, hthi, hrig, hver, hsea, hsta, hlot, hbuy, hdee, hple⟩, htxt, hrid, htmp, hshe, hshf, htra, hk, hkept, hcon⟩ := hI
  have hn1 := (per_n hper).1
  have hn2 := (hou_n hhou).1
  have hn3 := (thi_n hthi).1
  have hn4 := (rig_n hrig).1
  simp only [pb_127_0, pb_127_7, pb_127_38, pb_127_10, pb_127_21, pb_127_24, pb_127_35, pb_127_40, pb_127_49, pb_127_75, pb_127_52, pb_127_57, pb_127_60, pb_127_65, pb_127_68, pb_127_77, pb_127_100, pb_127_83, pb_127_108, pb_127_95, pb_127_111, pb_127_113, pb_127_98, pb_127_121, pb_127_127, pb_127_124, pb_127_133, pb_127_152, pb_127_146, pb_127_162, pb_127_149, pb_127_168, pb_127_165, pb_127_178, pb_127_194, pb_127_208, pb_127_222, pb_127_237, pb_127_252, pb_127_267, pb_127_283, pb_127_300, pb_127_305, pb_127_307, pb_127_310, pb_127_326, pb_127_342, pb_127_358, pb_127_364, pb_127_378, px_isDay, px_isPlace, px_isWithin, px_isOf hI0, px_has_per hper, px_per_0 hper, px_per_1 hper, px_has_hou hhou, px_hou_0 hhou, px_hou_1 hhou, px_hou_2 hhou, px_hou_3 hhou, px_hou_4 hhou, px_hou_5 hhou, px_hou_6 hhou, px_hou_7 hhou, px_hou_8 hhou, px_hou_9 hhou, px_has_thi hthi, px_thi_0 hthi, px_thi_1 hthi, px_thi_2 hthi, px_thi_3 hthi, px_thi_4 hthi, px_has_rig hrig, px_rig_0 hrig, px_rig_1 hrig, px_rig_2 hrig, px_rig_3 hrig, px_rig_4 hrig, px_rig_5 hrig, px_rig_6 hrig, px_rig_7 hrig, px_rig_9 hrig, px_rig_10 hrig, px_rig_11 hrig, px_rig_12 hrig, px_hasFallen hhou, pt_full_18, htod.1, hper.1.2, hhou.1.2, hthi.1.2, hrig.1.2, hver.1.2.1, hsta.1.2, hlot.1.2, hbuy.1.2, hdee.1.2, hper.1.1, hhou.1.1, hthi.1.1, hrig.1.1, hver.1.1, hver.1.2.2.1, hver.1.2.2.2, hsea.1.1, hroa.1.1, hsta.1.1, hlot.1.1, hbuy.1.1, hdee.1.1, ti_inc, pm_u_row, pm_zr_row, pm_r_row, pm_w_at, Nat.reduceEqDiff, Nat.reduceLT, ite_true, ite_false, if_true, if_false, ite_self, Int32.reduceLE, Int32.reduceLT, pi_lt0, pm_b_eq0, pm_b_eq1, ite_not, pm_k0, pm_k1, pm_b_fit, true_and, and_true, not_true_eq_false, not_false_eq_true, ite_true, ite_false, if_true, if_false]
  repeat' ((first | with_reducible refine pm_ite_eq (fun _ => ?_) (fun _ => ?_) | with_reducible refine pm_ite_intro (fun _ => ?_) (fun _ => ?_)); all_goals (try simp only [pm_at_in, pm_no_eq, Int32.reduceLE, Int32.reduceLT, pi_lt0, pm_b_eq0, pm_b_eq1, ite_not, pm_k0, pm_k1, pm_b_fit, true_and, and_true, not_true_eq_false, not_false_eq_true, ite_true, ite_false, if_true, if_false, *]))
  all_goals try (
    simp only [pb_206_0, pb_206_7, pb_206_61, pb_206_10, pb_206_15, pb_206_18, pb_206_23, pb_206_26, pb_206_35, pb_206_38, pb_206_43, pb_206_46, pb_206_51, pb_206_54, pb_206_63, pb_206_71, pb_206_89, pb_206_74, pb_206_91, pb_206_80, pb_206_96, pb_206_86, pb_206_99, pb_206_115, pb_206_105, pb_206_118, pb_206_129, pb_206_132, pb_206_247, pb_206_255, pr_isDay, pr_isPlace, pr_in, pr_isPerson, pr_isHouse, pr_isThing, pr_isRight, pr_isOf, (thi_n hthi).2, rig_in2 hrig, rig_eq hrig, hou_in hhou, thi_in hthi, pr_hasFallen, pm_at_in, pm_no_eq, pm_u_row, pm_zr_row, pm_r_row, pm_w_at, Nat.reduceEqDiff, Nat.reduceLT, ite_true, ite_false, if_true, if_false, ite_self, Int32.reduceLE, Int32.reduceLT, pi_lt0, pm_b_eq0, pm_b_eq1, ite_not, pm_k0, pm_k1, pm_b_fit, true_and, and_true, not_true_eq_false, not_false_eq_true, ite_true, ite_false, if_true, if_false, pm_inc_sub, *]
    done)
  all_goals try (
    simp only [pb_206_0, pb_206_7, pb_206_61, pb_206_10, pb_206_15, pb_206_18, pb_206_23, pb_206_26, pb_206_35, pb_206_38, pb_206_43, pb_206_46, pb_206_51, pb_206_54, pb_206_63, pb_206_71, pb_206_89, pb_206_74, pb_206_91, pb_206_80, pb_206_96, pb_206_86, pb_206_99, pb_206_115, pb_206_105, pb_206_118, pb_206_129, pb_206_132, pb_206_247, pb_206_255, pr_isDay, pr_isPlace, pr_in, pr_isPerson, pr_isHouse, pr_isThing, pr_isRight, pr_isOf, (thi_n hthi).2, rig_in2 hrig, rig_eq hrig, hou_in hhou, thi_in hthi, pr_hasFallen, pm_at_in, pm_no_eq, pm_u_row, pm_zr_row, pm_r_row, pm_w_at, Nat.reduceEqDiff, Nat.reduceLT, ite_true, ite_false, if_true, if_false, ite_self, Int32.reduceLE, Int32.reduceLT, pi_lt0, pm_b_eq0, pm_b_eq1, ite_not, pm_k0, pm_k1, pm_b_fit, true_and, and_true, not_true_eq_false, not_false_eq_true, ite_true, ite_false, if_true, if_false, pm_inc_sub, *]
    with_reducible exact pm_okJ hI0)
  all_goals try (
    have c10 := of_eq_true (isof_6 (by assumption) (by assumption : (x1 = 6) = True))
    have c11 : pm_at (I 80 3) x7 (I 97) = I 97 x7.toNatClampNeg := pm_at_in c10.1 c10.2
    simp only [c11] at *
    simp only [pb_206_0, pb_206_7, pb_206_61, pb_206_10, pb_206_15, pb_206_18, pb_206_23, pb_206_26, pb_206_35, pb_206_38, pb_206_43, pb_206_46, pb_206_51, pb_206_54, pb_206_63, pb_206_71, pb_206_89, pb_206_74, pb_206_91, pb_206_80, pb_206_96, pb_206_86, pb_206_99, pb_206_115, pb_206_105, pb_206_118, pb_206_129, pb_206_132, pb_206_247, pb_206_255, pr_isDay, pr_isPlace, pr_in, pr_isPerson, pr_isHouse, pr_isThing, pr_isRight, pr_isOf, (thi_n hthi).2, rig_in2 hrig, rig_eq hrig, hou_in hhou, thi_in hthi, pr_hasFallen, pm_at_in, pm_no_eq, pm_u_row, pm_zr_row, pm_r_row, pm_w_at, Nat.reduceEqDiff, Nat.reduceLT, ite_true, ite_false, if_true, if_false, ite_self, Int32.reduceLE, Int32.reduceLT, pi_lt0, pm_b_eq0, pm_b_eq1, ite_not, pm_k0, pm_k1, pm_b_fit, true_and, and_true, not_true_eq_false, not_false_eq_true, ite_true, ite_false, if_true, if_false, pm_inc_sub, *]
    done)
  all_goals try (
    have c10 := of_eq_true (isof_6 (by assumption) (by assumption : (x1 = 6) = True))
    have c11 : pm_at (I 80 3) x7 (I 97) = I 97 x7.toNatClampNeg := pm_at_in c10.1 c10.2
    simp only [c11] at *
    simp only [pb_206_0, pb_206_7, pb_206_61, pb_206_10, pb_206_15, pb_206_18, pb_206_23, pb_206_26, pb_206_35, pb_206_38, pb_206_43, pb_206_46, pb_206_51, pb_206_54, pb_206_63, pb_206_71, pb_206_89, pb_206_74, pb_206_91, pb_206_80, pb_206_96, pb_206_86, pb_206_99, pb_206_115, pb_206_105, pb_206_118, pb_206_129, pb_206_132, pb_206_247, pb_206_255, pr_isDay, pr_isPlace, pr_in, pr_isPerson, pr_isHouse, pr_isThing, pr_isRight, pr_isOf, (thi_n hthi).2, rig_in2 hrig, rig_eq hrig, hou_in hhou, thi_in hthi, pr_hasFallen, pm_at_in, pm_no_eq, pm_u_row, pm_zr_row, pm_r_row, pm_w_at, Nat.reduceEqDiff, Nat.reduceLT, ite_true, ite_false, if_true, if_false, ite_self, Int32.reduceLE, Int32.reduceLT, pi_lt0, pm_b_eq0, pm_b_eq1, ite_not, pm_k0, pm_k1, pm_b_fit, true_and, and_true, not_true_eq_false, not_false_eq_true, ite_true, ite_false, if_true, if_false, pm_inc_sub, *]
    with_reducible exact pm_okJ hI0)
  all_goals try (
    have c12 := of_eq_false (by assumption : (x1 = 6) = False)
    have c13 := of_eq_true (by assumption : (x8 = -1) = True)
    have h3 := Int32.not_le.mp (by assumption : ¬ 24 ≤ I 80 4)
    have h4 := pi_inc (pi_ltb h3 (by decide : (24 : Int32) ≤ 100000))
    simp only [pb_127_0, pb_127_7, pb_127_38, pb_127_10, pb_127_21, pb_127_24, pb_127_35, pb_127_40, pb_127_49, pb_127_75, pb_127_52, pb_127_57, pb_127_60, pb_127_65, pb_127_68, pb_127_77, pb_127_100, pb_127_83, pb_127_108, pb_127_95, pb_127_111, pb_127_113, pb_127_98, pb_127_121, pb_127_127, pb_127_124, pb_127_133, pb_127_152, pb_127_146, pb_127_162, pb_127_149, pb_127_168, pb_127_165, pb_127_178, pb_127_194, pb_127_208, pb_127_222, pb_127_237, pb_127_252, pb_127_267, pb_127_283, pb_127_300, pb_127_305, pb_127_307, pb_127_310, pb_127_326, pb_127_342, pb_127_358, pb_127_364, pb_127_378, px_isDay, px_isPlace, px_isWithin, pt_full_18, pt_set_18_0, pt_set_18_1, pt_set_18_2, pt_set_18_3, pt_set_18_4, pt_set_18_5, pt_set_18_6, pt_set_18_7, pt_set_18_8, pt_set_18_9, pt_set_18_10, pt_set_18_11, pt_set_18_12, pt_set_18_13, pt_set_18_14, pt_set_18_15, pt_add_18, pt_full_16, pt_set_16_0, pt_set_16_1, pt_set_16_2, pt_set_16_3, pt_set_16_4, pt_add_16, htod.1, hper.1.2, hhou.1.2, hthi.1.2, hrig.1.2, hver.1.2.1, hsta.1.2, hlot.1.2, hbuy.1.2, hdee.1.2, hper.1.1, hhou.1.1, hthi.1.1, hrig.1.1, hver.1.1, hver.1.2.2.1, hver.1.2.2.2, hsea.1.1, hroa.1.1, hsta.1.1, hlot.1.1, hbuy.1.1, hdee.1.1, ti_inc, pm_u_row, pm_zr_row, pm_r_row, pm_w_at, Nat.reduceEqDiff, Nat.reduceLT, ite_true, ite_false, if_true, if_false, ite_self, Int32.reduceLE, Int32.reduceLT, pi_lt0, pm_b_eq0, pm_b_eq1, ite_not, pm_k0, pm_k1, pm_b_fit, true_and, and_true, not_true_eq_false, not_false_eq_true, ite_true, ite_false, if_true, if_false, h3, h4, hn1, hn2, hn3, hn4, Int32.reduceLT, and_self, *]
    simp only [pb_206_0, pb_206_7, pb_206_61, pb_206_10, pb_206_15, pb_206_18, pb_206_23, pb_206_26, pb_206_35, pb_206_38, pb_206_43, pb_206_46, pb_206_51, pb_206_54, pb_206_63, pb_206_71, pb_206_89, pb_206_74, pb_206_91, pb_206_80, pb_206_96, pb_206_86, pb_206_99, pb_206_115, pb_206_105, pb_206_118, pb_206_129, pb_206_132, pb_206_247, pb_206_255, pr_isDay, pr_isPlace, pr_in, pr_isPerson, pr_isHouse, pr_isThing, pr_isRight, pr_isOf, (thi_n hthi).2, rig_in2 hrig, rig_eq hrig, hou_in hhou, thi_in hthi, pr_hasFallen, pm_at_in, pm_no_eq, pm_u_row, pm_zr_row, pm_r_row, pm_w_at, Nat.reduceEqDiff, Nat.reduceLT, ite_true, ite_false, if_true, if_false, ite_self, Int32.reduceLE, Int32.reduceLT, pi_lt0, pm_b_eq0, pm_b_eq1, ite_not, pm_k0, pm_k1, pm_b_fit, true_and, and_true, not_true_eq_false, not_false_eq_true, ite_true, ite_false, if_true, if_false, pm_inc_sub, *]
    refine pm_okJ ?_
    simp only [pm_inv, pm_land, pm_u_row, pm_zr_row, pm_w_at, Nat.reduceEqDiff, ite_true, ite_false, pm_kept_u, pm_kept_z, pm_kept_r, pm_r_row, ne_eq, not_false_eq_true, Nat.reduceLT, hcon, htod, hroa, hper, hhou, hthi, hrig, hver, hsea, hsta, hlot, hbuy, hdee, hple, htxt, hrid, htmp, hshe, hshf, htra, hk, hkept, true_and, and_true]
    have c9 := isof_t (by assumption : (pm_isof x1 x2 x7 (I 80 3) (I 80 4) (I 94) = 0) = False)
    have c14 : x1 = 2 → 0 ≤ x7 ∧ x7 ≤ 3599 := c9.1
    have c15 : x1 = 6 → 0 ≤ x7 ∧ x7 < I 80 3 := c9.2
    first
    | with_reducible exact ⟨rig_add hrig h3 ‹0 ≤ x1 ∧ x1 ≤ 7›.1 ‹0 ≤ x1 ∧ x1 ≤ 7›.2 ‹0 ≤ x2 ∧ x2 < I 80 2›.1 ‹0 ≤ x2 ∧ x2 < I 80 2›.2 ‹0 ≤ x3 ∧ x3 < I 80 1›.1 ‹0 ≤ x3 ∧ x3 < I 80 1›.2 ‹1 ≤ x4 ∧ x4 ≤ 999›.1 ‹1 ≤ x4 ∧ x4 ≤ 999›.2 ‹0 ≤ x5 ∧ x5 ≤ 3599›.1 ‹0 ≤ x5 ∧ x5 ≤ 3599›.2 ‹0 ≤ x6 ∧ x6 ≤ 3599›.1 ‹0 ≤ x6 ∧ x6 ≤ 3599›.2 (c13 ▸ pq_l1) (c13 ▸ pi_m1 hn4) c14 c15 (c13 ▸ pq_l3), ple_right hple hn4 h3 c12⟩
    | with_reducible exact ⟨thi_set3 hthi, rig_add hrig h3 ‹0 ≤ x1 ∧ x1 ≤ 7›.1 ‹0 ≤ x1 ∧ x1 ≤ 7›.2 ‹0 ≤ x2 ∧ x2 < I 80 2›.1 ‹0 ≤ x2 ∧ x2 < I 80 2›.2 ‹0 ≤ x3 ∧ x3 < I 80 1›.1 ‹0 ≤ x3 ∧ x3 < I 80 1›.2 ‹1 ≤ x4 ∧ x4 ≤ 999›.1 ‹1 ≤ x4 ∧ x4 ≤ 999›.2 ‹0 ≤ x5 ∧ x5 ≤ 3599›.1 ‹0 ≤ x5 ∧ x5 ≤ 3599›.2 ‹0 ≤ x6 ∧ x6 ≤ 3599›.1 ‹0 ≤ x6 ∧ x6 ≤ 3599›.2 (c13 ▸ pq_l1) (c13 ▸ pi_m1 hn4) c14 c15 (c13 ▸ pq_l3), ple_pledge2 hple hn4 h3 (by assumption) (by assumption : (pm_isof x1 x2 x7 (I 80 3) (I 80 4) (I 94) = 0) = False) (by assumption) (by assumption)⟩)
  all_goals try (
    have c12 := of_eq_false (by assumption : (x1 = 6) = False)
    have c13 := (by assumption : 0 ≤ x8 ∧ x8 < I 80 4)
    have h3 := Int32.not_le.mp (by assumption : ¬ 24 ≤ I 80 4)
    have h4 := pi_inc (pi_ltb h3 (by decide : (24 : Int32) ≤ 100000))
    simp only [pb_127_0, pb_127_7, pb_127_38, pb_127_10, pb_127_21, pb_127_24, pb_127_35, pb_127_40, pb_127_49, pb_127_75, pb_127_52, pb_127_57, pb_127_60, pb_127_65, pb_127_68, pb_127_77, pb_127_100, pb_127_83, pb_127_108, pb_127_95, pb_127_111, pb_127_113, pb_127_98, pb_127_121, pb_127_127, pb_127_124, pb_127_133, pb_127_152, pb_127_146, pb_127_162, pb_127_149, pb_127_168, pb_127_165, pb_127_178, pb_127_194, pb_127_208, pb_127_222, pb_127_237, pb_127_252, pb_127_267, pb_127_283, pb_127_300, pb_127_305, pb_127_307, pb_127_310, pb_127_326, pb_127_342, pb_127_358, pb_127_364, pb_127_378, px_isDay, px_isPlace, px_isWithin, pt_full_18, pt_set_18_0, pt_set_18_1, pt_set_18_2, pt_set_18_3, pt_set_18_4, pt_set_18_5, pt_set_18_6, pt_set_18_7, pt_set_18_8, pt_set_18_9, pt_set_18_10, pt_set_18_11, pt_set_18_12, pt_set_18_13, pt_set_18_14, pt_set_18_15, pt_add_18, pt_full_16, pt_set_16_0, pt_set_16_1, pt_set_16_2, pt_set_16_3, pt_set_16_4, pt_add_16, htod.1, hper.1.2, hhou.1.2, hthi.1.2, hrig.1.2, hver.1.2.1, hsta.1.2, hlot.1.2, hbuy.1.2, hdee.1.2, hper.1.1, hhou.1.1, hthi.1.1, hrig.1.1, hver.1.1, hver.1.2.2.1, hver.1.2.2.2, hsea.1.1, hroa.1.1, hsta.1.1, hlot.1.1, hbuy.1.1, hdee.1.1, ti_inc, pm_u_row, pm_zr_row, pm_r_row, pm_w_at, Nat.reduceEqDiff, Nat.reduceLT, ite_true, ite_false, if_true, if_false, ite_self, Int32.reduceLE, Int32.reduceLT, pi_lt0, pm_b_eq0, pm_b_eq1, ite_not, pm_k0, pm_k1, pm_b_fit, true_and, and_true, not_true_eq_false, not_false_eq_true, ite_true, ite_false, if_true, if_false, h3, h4, hn1, hn2, hn3, hn4, Int32.reduceLT, and_self, *]
    simp only [pb_206_0, pb_206_7, pb_206_61, pb_206_10, pb_206_15, pb_206_18, pb_206_23, pb_206_26, pb_206_35, pb_206_38, pb_206_43, pb_206_46, pb_206_51, pb_206_54, pb_206_63, pb_206_71, pb_206_89, pb_206_74, pb_206_91, pb_206_80, pb_206_96, pb_206_86, pb_206_99, pb_206_115, pb_206_105, pb_206_118, pb_206_129, pb_206_132, pb_206_247, pb_206_255, pr_isDay, pr_isPlace, pr_in, pr_isPerson, pr_isHouse, pr_isThing, pr_isRight, pr_isOf, (thi_n hthi).2, rig_in2 hrig, rig_eq hrig, hou_in hhou, thi_in hthi, pr_hasFallen, pm_at_in, pm_no_eq, pm_u_row, pm_zr_row, pm_r_row, pm_w_at, Nat.reduceEqDiff, Nat.reduceLT, ite_true, ite_false, if_true, if_false, ite_self, Int32.reduceLE, Int32.reduceLT, pi_lt0, pm_b_eq0, pm_b_eq1, ite_not, pm_k0, pm_k1, pm_b_fit, true_and, and_true, not_true_eq_false, not_false_eq_true, ite_true, ite_false, if_true, if_false, pm_inc_sub, *]
    refine pm_okJ ?_
    simp only [pm_inv, pm_land, pm_u_row, pm_zr_row, pm_w_at, Nat.reduceEqDiff, ite_true, ite_false, pm_kept_u, pm_kept_z, pm_kept_r, pm_r_row, ne_eq, not_false_eq_true, Nat.reduceLT, hcon, htod, hroa, hper, hhou, hthi, hrig, hver, hsea, hsta, hlot, hbuy, hdee, hple, htxt, hrid, htmp, hshe, hshf, htra, hk, hkept, true_and, and_true]
    have c9 := isof_t (by assumption : (pm_isof x1 x2 x7 (I 80 3) (I 80 4) (I 94) = 0) = False)
    have c14 : x1 = 2 → 0 ≤ x7 ∧ x7 ≤ 3599 := c9.1
    have c15 : x1 = 6 → 0 ≤ x7 ∧ x7 < I 80 3 := c9.2
    first
    | with_reducible exact ⟨rig_add hrig h3 ‹0 ≤ x1 ∧ x1 ≤ 7›.1 ‹0 ≤ x1 ∧ x1 ≤ 7›.2 ‹0 ≤ x2 ∧ x2 < I 80 2›.1 ‹0 ≤ x2 ∧ x2 < I 80 2›.2 ‹0 ≤ x3 ∧ x3 < I 80 1›.1 ‹0 ≤ x3 ∧ x3 < I 80 1›.2 ‹1 ≤ x4 ∧ x4 ≤ 999›.1 ‹1 ≤ x4 ∧ x4 ≤ 999›.2 ‹0 ≤ x5 ∧ x5 ≤ 3599›.1 ‹0 ≤ x5 ∧ x5 ≤ 3599›.2 ‹0 ≤ x6 ∧ x6 ≤ 3599›.1 ‹0 ≤ x6 ∧ x6 ≤ 3599›.2 (pi_m0 c13.1) c13.2 c14 c15 (pm_no_nn c13.1).symm, ple_right hple hn4 h3 c12⟩
    | with_reducible exact ⟨thi_set3 hthi, rig_add hrig h3 ‹0 ≤ x1 ∧ x1 ≤ 7›.1 ‹0 ≤ x1 ∧ x1 ≤ 7›.2 ‹0 ≤ x2 ∧ x2 < I 80 2›.1 ‹0 ≤ x2 ∧ x2 < I 80 2›.2 ‹0 ≤ x3 ∧ x3 < I 80 1›.1 ‹0 ≤ x3 ∧ x3 < I 80 1›.2 ‹1 ≤ x4 ∧ x4 ≤ 999›.1 ‹1 ≤ x4 ∧ x4 ≤ 999›.2 ‹0 ≤ x5 ∧ x5 ≤ 3599›.1 ‹0 ≤ x5 ∧ x5 ≤ 3599›.2 ‹0 ≤ x6 ∧ x6 ≤ 3599›.1 ‹0 ≤ x6 ∧ x6 ≤ 3599›.2 (pi_m0 c13.1) c13.2 c14 c15 (pm_no_nn c13.1).symm, ple_pledge2 hple hn4 h3 (by assumption) (by assumption : (pm_isof x1 x2 x7 (I 80 3) (I 80 4) (I 94) = 0) = False) (by assumption) (by assumption)⟩)
  all_goals try (
    have c10 := of_eq_true (isof_6 (by assumption) (by assumption : (x1 = 6) = True))
    have c11 : pm_at (I 80 3) x7 (I 97) = I 97 x7.toNatClampNeg := pm_at_in c10.1 c10.2
    simp only [c11] at *
    have c13 := of_eq_true (by assumption : (x8 = -1) = True)
    have h3 := Int32.not_le.mp (by assumption : ¬ 24 ≤ I 80 4)
    have h4 := pi_inc (pi_ltb h3 (by decide : (24 : Int32) ≤ 100000))
    simp only [pb_127_0, pb_127_7, pb_127_38, pb_127_10, pb_127_21, pb_127_24, pb_127_35, pb_127_40, pb_127_49, pb_127_75, pb_127_52, pb_127_57, pb_127_60, pb_127_65, pb_127_68, pb_127_77, pb_127_100, pb_127_83, pb_127_108, pb_127_95, pb_127_111, pb_127_113, pb_127_98, pb_127_121, pb_127_127, pb_127_124, pb_127_133, pb_127_152, pb_127_146, pb_127_162, pb_127_149, pb_127_168, pb_127_165, pb_127_178, pb_127_194, pb_127_208, pb_127_222, pb_127_237, pb_127_252, pb_127_267, pb_127_283, pb_127_300, pb_127_305, pb_127_307, pb_127_310, pb_127_326, pb_127_342, pb_127_358, pb_127_364, pb_127_378, px_isDay, px_isPlace, px_isWithin, pt_full_18, pt_set_18_0, pt_set_18_1, pt_set_18_2, pt_set_18_3, pt_set_18_4, pt_set_18_5, pt_set_18_6, pt_set_18_7, pt_set_18_8, pt_set_18_9, pt_set_18_10, pt_set_18_11, pt_set_18_12, pt_set_18_13, pt_set_18_14, pt_set_18_15, pt_add_18, pt_full_16, pt_set_16_0, pt_set_16_1, pt_set_16_2, pt_set_16_3, pt_set_16_4, pt_add_16, htod.1, hper.1.2, hhou.1.2, hthi.1.2, hrig.1.2, hver.1.2.1, hsta.1.2, hlot.1.2, hbuy.1.2, hdee.1.2, hper.1.1, hhou.1.1, hthi.1.1, hrig.1.1, hver.1.1, hver.1.2.2.1, hver.1.2.2.2, hsea.1.1, hroa.1.1, hsta.1.1, hlot.1.1, hbuy.1.1, hdee.1.1, ti_inc, pm_u_row, pm_zr_row, pm_r_row, pm_w_at, Nat.reduceEqDiff, Nat.reduceLT, ite_true, ite_false, if_true, if_false, ite_self, Int32.reduceLE, Int32.reduceLT, pi_lt0, pm_b_eq0, pm_b_eq1, ite_not, pm_k0, pm_k1, pm_b_fit, true_and, and_true, not_true_eq_false, not_false_eq_true, ite_true, ite_false, if_true, if_false, h3, h4, hn1, hn2, hn3, hn4, Int32.reduceLT, and_self, *]
    simp only [pb_206_0, pb_206_7, pb_206_61, pb_206_10, pb_206_15, pb_206_18, pb_206_23, pb_206_26, pb_206_35, pb_206_38, pb_206_43, pb_206_46, pb_206_51, pb_206_54, pb_206_63, pb_206_71, pb_206_89, pb_206_74, pb_206_91, pb_206_80, pb_206_96, pb_206_86, pb_206_99, pb_206_115, pb_206_105, pb_206_118, pb_206_129, pb_206_132, pb_206_247, pb_206_255, pr_isDay, pr_isPlace, pr_in, pr_isPerson, pr_isHouse, pr_isThing, pr_isRight, pr_isOf, (thi_n hthi).2, rig_in2 hrig, rig_eq hrig, hou_in hhou, thi_in hthi, pr_hasFallen, pm_at_in, pm_no_eq, pm_u_row, pm_zr_row, pm_r_row, pm_w_at, Nat.reduceEqDiff, Nat.reduceLT, ite_true, ite_false, if_true, if_false, ite_self, Int32.reduceLE, Int32.reduceLT, pi_lt0, pm_b_eq0, pm_b_eq1, ite_not, pm_k0, pm_k1, pm_b_fit, true_and, and_true, not_true_eq_false, not_false_eq_true, ite_true, ite_false, if_true, if_false, pm_inc_sub, *]
    refine pm_okJ ?_
    simp only [pm_inv, pm_land, pm_u_row, pm_zr_row, pm_w_at, Nat.reduceEqDiff, ite_true, ite_false, pm_kept_u, pm_kept_z, pm_kept_r, pm_r_row, ne_eq, not_false_eq_true, Nat.reduceLT, hcon, htod, hroa, hper, hhou, hthi, hrig, hver, hsea, hsta, hlot, hbuy, hdee, hple, htxt, hrid, htmp, hshe, hshf, htra, hk, hkept, true_and, and_true]
    have c9 := isof_t (by assumption : (pm_isof x1 x2 x7 (I 80 3) (I 80 4) (I 94) = 0) = False)
    have c14 : x1 = 2 → 0 ≤ x7 ∧ x7 ≤ 3599 := c9.1
    have c15 : x1 = 6 → 0 ≤ x7 ∧ x7 < I 80 3 := c9.2
    first
    | with_reducible exact ⟨rig_add hrig h3 ‹0 ≤ x1 ∧ x1 ≤ 7›.1 ‹0 ≤ x1 ∧ x1 ≤ 7›.2 ‹0 ≤ x2 ∧ x2 < I 80 2›.1 ‹0 ≤ x2 ∧ x2 < I 80 2›.2 ‹0 ≤ x3 ∧ x3 < I 80 1›.1 ‹0 ≤ x3 ∧ x3 < I 80 1›.2 ‹1 ≤ x4 ∧ x4 ≤ 999›.1 ‹1 ≤ x4 ∧ x4 ≤ 999›.2 ‹0 ≤ x5 ∧ x5 ≤ 3599›.1 ‹0 ≤ x5 ∧ x5 ≤ 3599›.2 ‹0 ≤ x6 ∧ x6 ≤ 3599›.1 ‹0 ≤ x6 ∧ x6 ≤ 3599›.2 (c13 ▸ pq_l1) (c13 ▸ pi_m1 hn4) c14 c15 (c13 ▸ pq_l3), ple_right hple hn4 h3 c12⟩
    | with_reducible exact ⟨thi_set3 hthi, rig_add hrig h3 ‹0 ≤ x1 ∧ x1 ≤ 7›.1 ‹0 ≤ x1 ∧ x1 ≤ 7›.2 ‹0 ≤ x2 ∧ x2 < I 80 2›.1 ‹0 ≤ x2 ∧ x2 < I 80 2›.2 ‹0 ≤ x3 ∧ x3 < I 80 1›.1 ‹0 ≤ x3 ∧ x3 < I 80 1›.2 ‹1 ≤ x4 ∧ x4 ≤ 999›.1 ‹1 ≤ x4 ∧ x4 ≤ 999›.2 ‹0 ≤ x5 ∧ x5 ≤ 3599›.1 ‹0 ≤ x5 ∧ x5 ≤ 3599›.2 ‹0 ≤ x6 ∧ x6 ≤ 3599›.1 ‹0 ≤ x6 ∧ x6 ≤ 3599›.2 (c13 ▸ pq_l1) (c13 ▸ pi_m1 hn4) c14 c15 (c13 ▸ pq_l3), ple_pledge2 hple hn4 h3 (by assumption) (by assumption : (pm_isof x1 x2 x7 (I 80 3) (I 80 4) (I 94) = 0) = False) (by assumption) (by assumption)⟩)
  all_goals try (
    have c10 := of_eq_true (isof_6 (by assumption) (by assumption : (x1 = 6) = True))
    have c11 : pm_at (I 80 3) x7 (I 97) = I 97 x7.toNatClampNeg := pm_at_in c10.1 c10.2
    simp only [c11] at *
    have c13 := (by assumption : 0 ≤ x8 ∧ x8 < I 80 4)
    have h3 := Int32.not_le.mp (by assumption : ¬ 24 ≤ I 80 4)
    have h4 := pi_inc (pi_ltb h3 (by decide : (24 : Int32) ≤ 100000))
    simp only [pb_127_0, pb_127_7, pb_127_38, pb_127_10, pb_127_21, pb_127_24, pb_127_35, pb_127_40, pb_127_49, pb_127_75, pb_127_52, pb_127_57, pb_127_60, pb_127_65, pb_127_68, pb_127_77, pb_127_100, pb_127_83, pb_127_108, pb_127_95, pb_127_111, pb_127_113, pb_127_98, pb_127_121, pb_127_127, pb_127_124, pb_127_133, pb_127_152, pb_127_146, pb_127_162, pb_127_149, pb_127_168, pb_127_165, pb_127_178, pb_127_194, pb_127_208, pb_127_222, pb_127_237, pb_127_252, pb_127_267, pb_127_283, pb_127_300, pb_127_305, pb_127_307, pb_127_310, pb_127_326, pb_127_342, pb_127_358, pb_127_364, pb_127_378, px_isDay, px_isPlace, px_isWithin, pt_full_18, pt_set_18_0, pt_set_18_1, pt_set_18_2, pt_set_18_3, pt_set_18_4, pt_set_18_5, pt_set_18_6, pt_set_18_7, pt_set_18_8, pt_set_18_9, pt_set_18_10, pt_set_18_11, pt_set_18_12, pt_set_18_13, pt_set_18_14, pt_set_18_15, pt_add_18, pt_full_16, pt_set_16_0, pt_set_16_1, pt_set_16_2, pt_set_16_3, pt_set_16_4, pt_add_16, htod.1, hper.1.2, hhou.1.2, hthi.1.2, hrig.1.2, hver.1.2.1, hsta.1.2, hlot.1.2, hbuy.1.2, hdee.1.2, hper.1.1, hhou.1.1, hthi.1.1, hrig.1.1, hver.1.1, hver.1.2.2.1, hver.1.2.2.2, hsea.1.1, hroa.1.1, hsta.1.1, hlot.1.1, hbuy.1.1, hdee.1.1, ti_inc, pm_u_row, pm_zr_row, pm_r_row, pm_w_at, Nat.reduceEqDiff, Nat.reduceLT, ite_true, ite_false, if_true, if_false, ite_self, Int32.reduceLE, Int32.reduceLT, pi_lt0, pm_b_eq0, pm_b_eq1, ite_not, pm_k0, pm_k1, pm_b_fit, true_and, and_true, not_true_eq_false, not_false_eq_true, ite_true, ite_false, if_true, if_false, h3, h4, hn1, hn2, hn3, hn4, Int32.reduceLT, and_self, *]
    simp only [pb_206_0, pb_206_7, pb_206_61, pb_206_10, pb_206_15, pb_206_18, pb_206_23, pb_206_26, pb_206_35, pb_206_38, pb_206_43, pb_206_46, pb_206_51, pb_206_54, pb_206_63, pb_206_71, pb_206_89, pb_206_74, pb_206_91, pb_206_80, pb_206_96, pb_206_86, pb_206_99, pb_206_115, pb_206_105, pb_206_118, pb_206_129, pb_206_132, pb_206_247, pb_206_255, pr_isDay, pr_isPlace, pr_in, pr_isPerson, pr_isHouse, pr_isThing, pr_isRight, pr_isOf, (thi_n hthi).2, rig_in2 hrig, rig_eq hrig, hou_in hhou, thi_in hthi, pr_hasFallen, pm_at_in, pm_no_eq, pm_u_row, pm_zr_row, pm_r_row, pm_w_at, Nat.reduceEqDiff, Nat.reduceLT, ite_true, ite_false, if_true, if_false, ite_self, Int32.reduceLE, Int32.reduceLT, pi_lt0, pm_b_eq0, pm_b_eq1, ite_not, pm_k0, pm_k1, pm_b_fit, true_and, and_true, not_true_eq_false, not_false_eq_true, ite_true, ite_false, if_true, if_false, pm_inc_sub, *]
    refine pm_okJ ?_
    simp only [pm_inv, pm_land, pm_u_row, pm_zr_row, pm_w_at, Nat.reduceEqDiff, ite_true, ite_false, pm_kept_u, pm_kept_z, pm_kept_r, pm_r_row, ne_eq, not_false_eq_true, Nat.reduceLT, hcon, htod, hroa, hper, hhou, hthi, hrig, hver, hsea, hsta, hlot, hbuy, hdee, hple, htxt, hrid, htmp, hshe, hshf, htra, hk, hkept, true_and, and_true]
    have c9 := isof_t (by assumption : (pm_isof x1 x2 x7 (I 80 3) (I 80 4) (I 94) = 0) = False)
    have c14 : x1 = 2 → 0 ≤ x7 ∧ x7 ≤ 3599 := c9.1
    have c15 : x1 = 6 → 0 ≤ x7 ∧ x7 < I 80 3 := c9.2
    first
    | with_reducible exact ⟨rig_add hrig h3 ‹0 ≤ x1 ∧ x1 ≤ 7›.1 ‹0 ≤ x1 ∧ x1 ≤ 7›.2 ‹0 ≤ x2 ∧ x2 < I 80 2›.1 ‹0 ≤ x2 ∧ x2 < I 80 2›.2 ‹0 ≤ x3 ∧ x3 < I 80 1›.1 ‹0 ≤ x3 ∧ x3 < I 80 1›.2 ‹1 ≤ x4 ∧ x4 ≤ 999›.1 ‹1 ≤ x4 ∧ x4 ≤ 999›.2 ‹0 ≤ x5 ∧ x5 ≤ 3599›.1 ‹0 ≤ x5 ∧ x5 ≤ 3599›.2 ‹0 ≤ x6 ∧ x6 ≤ 3599›.1 ‹0 ≤ x6 ∧ x6 ≤ 3599›.2 (pi_m0 c13.1) c13.2 c14 c15 (pm_no_nn c13.1).symm, ple_right hple hn4 h3 c12⟩
    | with_reducible exact ⟨thi_set3 hthi, rig_add hrig h3 ‹0 ≤ x1 ∧ x1 ≤ 7›.1 ‹0 ≤ x1 ∧ x1 ≤ 7›.2 ‹0 ≤ x2 ∧ x2 < I 80 2›.1 ‹0 ≤ x2 ∧ x2 < I 80 2›.2 ‹0 ≤ x3 ∧ x3 < I 80 1›.1 ‹0 ≤ x3 ∧ x3 < I 80 1›.2 ‹1 ≤ x4 ∧ x4 ≤ 999›.1 ‹1 ≤ x4 ∧ x4 ≤ 999›.2 ‹0 ≤ x5 ∧ x5 ≤ 3599›.1 ‹0 ≤ x5 ∧ x5 ≤ 3599›.2 ‹0 ≤ x6 ∧ x6 ≤ 3599›.1 ‹0 ≤ x6 ∧ x6 ≤ 3599›.2 (pi_m0 c13.1) c13.2 c14 c15 (pm_no_nn c13.1).symm, ple_pledge2 hple hn4 h3 (by assumption) (by assumption : (pm_isof x1 x2 x7 (I 80 3) (I 80 4) (I 94) = 0) = False) (by assumption) (by assumption)⟩)

