/-! THE CALLS that set cells. -/
theorem pq_l1 : (-1 : Int32) ≤ -1 := by decide
theorem pq_l2 : (-1 : Int32) ≤ 3 := by decide
theorem pq_l3 : (-3 : Int32) = pm_no (-1) := by decide
theorem rig_told {t c : Nat → Int32} {n nP nH nT : Int32} {kind house person amount fr to is leans proved seals told wit witOf : Nat → Int32} (h : pg_rig t c n nP nH nT kind house person amount fr to is leans proved seals told wit witOf) {q : Int32} (hq : 0 ≤ q ∧ q < n) : told q.toNatClampNeg ≤ 3599 := by
  obtain ⟨_, _, g3⟩ := h.2 _ (pi_tnlt hq.1 hq.2)
  exact g3.2.2.2.2.2.2.2.2.2.2.2.2.2.2.2.2.2.2.2.2.2.2.2
theorem pi_lt4 {x : Int32} : (x < 4) = (x ≤ 3) := by grind
theorem pi_lt5 {x : Int32} : (x < 5) = (x ≤ 4) := by grind
theorem pi_lt10 {x : Int32} : (x < 10) = (x ≤ 9) := by grind
theorem pi_gt0 {x : Int32} : (0 < x) = (¬ x ≤ 0) := by grind
theorem sea_in {x : Int32} (h0 : 0 ≤ x) (h1 : x ≤ 3) : pm_in x 4 = true := by
  rw [pi_le] at h1
  exact pi_in h0 (by have e : (3 : Int32).toInt = 3 := rfl; omega)
theorem sea_at {t c f : Nat → Int32} (h : pg_sea t c f) {x : Int32} (h0 : 0 ≤ x) (h1 : x ≤ 3) : c (1 * x.toNatClampNeg + 0) = f x.toNatClampNeg := by
  rw [pi_le] at h1
  have := pi_tni h0
  exact h.2 _ (by have e : (3 : Int32).toInt = 3 := rfl; omega)
theorem po_die {d L : Nat} {b : Bool} {I : Nat → Nat → Int32} {J : Nat → Nat → Int64} {X : Nat → Int32} {x1 x2 : Int32} (hI : pm_inv X b I J) : pm_wc pm_code pm_meta (d + 20) 118 [.ref 8, .int x1, .int x2] (pm_Gb L b, I, J) (fun v _ H => pm_wc pm_code pm_meta (d + 20) 196 [.ref 79, .int x1, .int x2] H (pm_ok X L b v)) := by
  have hI0 := hI
  obtain ⟨⟨htod, hroa, hper, hhou, hthi, hrig, hver, hsea, hsta, hlot, hbuy, hdee, hple⟩, htxt, hrid, htmp, hshe, hshf, htra, hk, hkept, hcon⟩ := hI
  have hn1 := (per_n hper).1
  have hn2 := (hou_n hhou).1
  have hn3 := (thi_n hthi).1
  have hn4 := (rig_n hrig).1
  simp only [pb_118_0, pb_118_11, pb_118_37, pb_118_14, pb_118_18, pb_118_21, pb_118_34, pb_118_39, pb_118_51, pb_118_59, pb_118_56, pb_118_72, px_isDay, px_isPlace, px_isWithin, px_has_per hper, px_per_0 hper, px_per_1 hper, px_has_hou hhou, px_hou_0 hhou, px_hou_1 hhou, px_hou_2 hhou, px_hou_3 hhou, px_hou_4 hhou, px_hou_5 hhou, px_hou_6 hhou, px_hou_7 hhou, px_hou_8 hhou, px_hou_9 hhou, px_has_thi hthi, px_thi_0 hthi, px_thi_1 hthi, px_thi_2 hthi, px_thi_3 hthi, px_thi_4 hthi, px_has_rig hrig, px_rig_0 hrig, px_rig_1 hrig, px_rig_2 hrig, px_rig_3 hrig, px_rig_4 hrig, px_rig_5 hrig, px_rig_6 hrig, px_rig_7 hrig, px_rig_9 hrig, px_rig_10 hrig, px_rig_11 hrig, px_rig_12 hrig, px_hasFallen hhou, px_isLease hrig, px_min, pt_full_12, pt_set_12_0, pt_set_12_1, pt_add_12, htod.1, hper.1.2, hhou.1.2, hthi.1.2, hrig.1.2, hver.1.2.1, hsta.1.2, hlot.1.2, hbuy.1.2, hdee.1.2, hper.1.1, hhou.1.1, hthi.1.1, hrig.1.1, hver.1.1, hver.1.2.2.1, hver.1.2.2.2, hsea.1.1, hroa.1.1, hsta.1.1, hlot.1.1, hbuy.1.1, hdee.1.1, ti_inc, pm_u_row, pm_zr_row, pm_r_row, pm_w_at, Nat.reduceEqDiff, Nat.reduceLT, ite_true, ite_false, if_true, if_false, ite_self, Int32.reduceLE, Int32.reduceLT, pi_lt0, pm_b_eq0, pm_b_eq1, ite_not, pm_k0, pm_k1, pm_b_fit, true_and, and_true, not_true_eq_false, not_false_eq_true, ite_true, ite_false, if_true, if_false, pi_lt4, pi_lt5, pi_lt10, hsea.1.2, hroa.1.2]
  repeat' (split; all_goals (try simp only [pm_at_in, pm_no_eq, pm_no_pos,  Int32.reduceLE, Int32.reduceLT, pi_lt0, pm_b_eq0, pm_b_eq1, ite_not, pm_k0, pm_k1, pm_b_fit, true_and, and_true, not_true_eq_false, not_false_eq_true, ite_true, ite_false, if_true, if_false, pq_l1, pq_l2, and_self, *]))
  all_goals (try simp only [pb_196_0, pb_196_5, pb_196_25, pb_196_8, pb_196_12, pb_196_15, pb_196_27, pb_196_39, pb_196_36, pr_isDay, pr_isPlace, pr_in, pr_isPerson, pr_isHouse, pr_isThing, pr_isRight, pm_at_in, pm_no_eq, sea_in, pq_l1, pq_l2, and_self,  rig_in hrig, per_in hper, hou_in hhou, thi_in hthi, pr_hasFallen, pm_no_pos, pr_lesser, pm_u_row, pm_zr_row, pm_r_row, pm_w_at, Nat.reduceEqDiff, Nat.reduceLT, ite_true, ite_false, if_true, if_false, ite_self, Int32.reduceLE, Int32.reduceLT, pi_lt0, pm_b_eq0, pm_b_eq1, ite_not, pm_k0, pm_k1, pm_b_fit, true_and, and_true, not_true_eq_false, not_false_eq_true, ite_true, ite_false, if_true, if_false, pm_inc_sub, *])
  all_goals (repeat' split)
  all_goals first
    | with_reducible exact pm_okJ hI0
    | (refine pm_okI2 ?_ ?_
       · first | with_reducible rfl | grind [pm_no]
       · first
         | with_reducible exact hI0
         | (simp only [pm_inv, pm_land, pm_u_row, pm_zr_row, pm_w_at, Nat.reduceEqDiff, ite_true, ite_false, pm_kept_u, pm_kept_z, pm_kept_r, pm_r_row, ne_eq, not_false_eq_true, Nat.reduceLT, hcon, htod, hroa, hper, hhou, hthi, hrig, hver, hsea, hsta, hlot, hbuy, hdee, hple, htxt, hrid, htmp, hshe, hshf, htra, hk, hkept, true_and, and_true]
            first
            | with_reducible exact per_set1 hper (pm_no_nn ‹0 ≤ x2 ∧ x2 ≤ 3599›.1).symm))
theorem po_due {d L : Nat} {b : Bool} {I : Nat → Nat → Int32} {J : Nat → Nat → Int64} {X : Nat → Int32} {x1 x2 : Int32} (hI : pm_inv X b I J) : pm_wc pm_code pm_meta (d + 20) 149 [.ref 8, .int x1, .int x2] (pm_Gb L b, I, J) (fun v _ H => pm_wc pm_code pm_meta (d + 20) 261 [.ref 79, .int x1, .int x2] H (pm_ok X L b v)) := by
  have hI0 := hI
  obtain ⟨⟨htod, hroa, hper, hhou, hthi, hrig, hver, hsea, hsta, hlot, hbuy, hdee, hple⟩, htxt, hrid, htmp, hshe, hshf, htra, hk, hkept, hcon⟩ := hI
  have hn1 := (per_n hper).1
  have hn2 := (hou_n hhou).1
  have hn3 := (thi_n hthi).1
  have hn4 := (rig_n hrig).1
  simp only [pb_149_0, pb_149_11, pb_149_21, pb_149_14, pb_149_18, pb_149_23, pb_149_36, pb_149_51, px_isDay, px_isPlace, px_isWithin, px_has_per hper, px_per_0 hper, px_per_1 hper, px_has_hou hhou, px_hou_0 hhou, px_hou_1 hhou, px_hou_2 hhou, px_hou_3 hhou, px_hou_4 hhou, px_hou_5 hhou, px_hou_6 hhou, px_hou_7 hhou, px_hou_8 hhou, px_hou_9 hhou, px_has_thi hthi, px_thi_0 hthi, px_thi_1 hthi, px_thi_2 hthi, px_thi_3 hthi, px_thi_4 hthi, px_has_rig hrig, px_rig_0 hrig, px_rig_1 hrig, px_rig_2 hrig, px_rig_3 hrig, px_rig_4 hrig, px_rig_5 hrig, px_rig_6 hrig, px_rig_7 hrig, px_rig_9 hrig, px_rig_10 hrig, px_rig_11 hrig, px_rig_12 hrig, px_hasFallen hhou, px_isLease hrig, px_min, pt_full_14, pt_set_14_0, pt_set_14_1, pt_set_14_2, pt_set_14_3, pt_set_14_4, pt_set_14_5, pt_set_14_6, pt_set_14_7, pt_set_14_8, pt_set_14_9, pt_add_14, htod.1, hper.1.2, hhou.1.2, hthi.1.2, hrig.1.2, hver.1.2.1, hsta.1.2, hlot.1.2, hbuy.1.2, hdee.1.2, hper.1.1, hhou.1.1, hthi.1.1, hrig.1.1, hver.1.1, hver.1.2.2.1, hver.1.2.2.2, hsea.1.1, hroa.1.1, hsta.1.1, hlot.1.1, hbuy.1.1, hdee.1.1, ti_inc, pm_u_row, pm_zr_row, pm_r_row, pm_w_at, Nat.reduceEqDiff, Nat.reduceLT, ite_true, ite_false, if_true, if_false, ite_self, Int32.reduceLE, Int32.reduceLT, pi_lt0, pm_b_eq0, pm_b_eq1, ite_not, pm_k0, pm_k1, pm_b_fit, true_and, and_true, not_true_eq_false, not_false_eq_true, ite_true, ite_false, if_true, if_false, pi_lt4, pi_lt5, pi_lt10, hsea.1.2, hroa.1.2]
  repeat' (split; all_goals (try simp only [pm_at_in, pm_no_eq, pm_no_pos,  Int32.reduceLE, Int32.reduceLT, pi_lt0, pm_b_eq0, pm_b_eq1, ite_not, pm_k0, pm_k1, pm_b_fit, true_and, and_true, not_true_eq_false, not_false_eq_true, ite_true, ite_false, if_true, if_false, pq_l1, pq_l2, and_self, *]))
  all_goals (try simp only [pb_261_0, pb_261_5, pb_261_15, pb_261_8, pb_261_12, pb_261_17, pr_isDay, pr_isPlace, pr_in, pr_isPerson, pr_isHouse, pr_isThing, pr_isRight, pm_at_in, pm_no_eq, sea_in, pq_l1, pq_l2, and_self,  rig_in hrig, per_in hper, hou_in hhou, thi_in hthi, pr_hasFallen, pm_no_pos, pr_lesser, pm_u_row, pm_zr_row, pm_r_row, pm_w_at, Nat.reduceEqDiff, Nat.reduceLT, ite_true, ite_false, if_true, if_false, ite_self, Int32.reduceLE, Int32.reduceLT, pi_lt0, pm_b_eq0, pm_b_eq1, ite_not, pm_k0, pm_k1, pm_b_fit, true_and, and_true, not_true_eq_false, not_false_eq_true, ite_true, ite_false, if_true, if_false, pm_inc_sub, *])
  all_goals (repeat' split)
  all_goals first
    | with_reducible exact pm_okJ hI0
    | (refine pm_okI2 ?_ ?_
       · first | with_reducible rfl | grind [pm_no]
       · first
         | with_reducible exact hI0
         | (simp only [pm_inv, pm_land, pm_u_row, pm_zr_row, pm_w_at, Nat.reduceEqDiff, ite_true, ite_false, pm_kept_u, pm_kept_z, pm_kept_r, pm_r_row, ne_eq, not_false_eq_true, Nat.reduceLT, hcon, htod, hroa, hper, hhou, hthi, hrig, hver, hsea, hsta, hlot, hbuy, hdee, hple, htxt, hrid, htmp, hshe, hshf, htra, hk, hkept, true_and, and_true]
            first
            | with_reducible exact hou_set6 hhou))
theorem po_seal {d L : Nat} {b : Bool} {I : Nat → Nat → Int32} {J : Nat → Nat → Int64} {X : Nat → Int32} {x1 x2 : Int32} (hI : pm_inv X b I J) : pm_wc pm_code pm_meta (d + 20) 144 [.ref 8, .int x1, .int x2] (pm_Gb L b, I, J) (fun v _ H => pm_wc pm_code pm_meta (d + 20) 253 [.ref 79, .int x1, .int x2] H (pm_ok X L b v)) := by
  have hI0 := hI
  obtain ⟨⟨htod, hroa, hper, hhou, hthi, hrig, hver, hsea, hsta, hlot, hbuy, hdee, hple⟩, htxt, hrid, htmp, hshe, hshf, htra, hk, hkept, hcon⟩ := hI
  have hn1 := (per_n hper).1
  have hn2 := (hou_n hhou).1
  have hn3 := (thi_n hthi).1
  have hn4 := (rig_n hrig).1
  simp only [pb_144_0, pb_144_6, pb_144_16, pb_144_9, pb_144_13, pb_144_18, pb_144_30, pb_144_44, px_isDay, px_isPlace, px_isWithin, px_has_per hper, px_per_0 hper, px_per_1 hper, px_has_hou hhou, px_hou_0 hhou, px_hou_1 hhou, px_hou_2 hhou, px_hou_3 hhou, px_hou_4 hhou, px_hou_5 hhou, px_hou_6 hhou, px_hou_7 hhou, px_hou_8 hhou, px_hou_9 hhou, px_has_thi hthi, px_thi_0 hthi, px_thi_1 hthi, px_thi_2 hthi, px_thi_3 hthi, px_thi_4 hthi, px_has_rig hrig, px_rig_0 hrig, px_rig_1 hrig, px_rig_2 hrig, px_rig_3 hrig, px_rig_4 hrig, px_rig_5 hrig, px_rig_6 hrig, px_rig_7 hrig, px_rig_9 hrig, px_rig_10 hrig, px_rig_11 hrig, px_rig_12 hrig, px_hasFallen hhou, px_isLease hrig, px_min, pt_set_26_0, pt_get_26_0 hsea.1.1, htod.1, hper.1.2, hhou.1.2, hthi.1.2, hrig.1.2, hver.1.2.1, hsta.1.2, hlot.1.2, hbuy.1.2, hdee.1.2, hper.1.1, hhou.1.1, hthi.1.1, hrig.1.1, hver.1.1, hver.1.2.2.1, hver.1.2.2.2, hsea.1.1, hroa.1.1, hsta.1.1, hlot.1.1, hbuy.1.1, hdee.1.1, ti_inc, pm_u_row, pm_zr_row, pm_r_row, pm_w_at, Nat.reduceEqDiff, Nat.reduceLT, ite_true, ite_false, if_true, if_false, ite_self, Int32.reduceLE, Int32.reduceLT, pi_lt0, pm_b_eq0, pm_b_eq1, ite_not, pm_k0, pm_k1, pm_b_fit, true_and, and_true, not_true_eq_false, not_false_eq_true, ite_true, ite_false, if_true, if_false, pi_lt4, pi_lt5, pi_lt10, hsea.1.2, hroa.1.2]
  repeat' (split; all_goals (try simp only [pm_at_in, pm_no_eq, pm_no_pos, sea_at hsea, *]))
  all_goals (try simp only [pb_253_0, pb_253_6, pb_253_16, pb_253_9, pb_253_13, pb_253_18, pr_isDay, pr_isPlace, pr_in, pr_isPerson, pr_isHouse, pr_isThing, pr_isRight, pm_at_in, pm_no_eq, sea_in, sea_at hsea, rig_in hrig, per_in hper, hou_in hhou, thi_in hthi, pr_hasFallen, pm_no_pos, pr_lesser, pm_u_row, pm_zr_row, pm_r_row, pm_w_at, Nat.reduceEqDiff, Nat.reduceLT, ite_true, ite_false, if_true, if_false, ite_self, Int32.reduceLE, Int32.reduceLT, pi_lt0, pm_b_eq0, pm_b_eq1, ite_not, pm_k0, pm_k1, pm_b_fit, true_and, and_true, not_true_eq_false, not_false_eq_true, ite_true, ite_false, if_true, if_false, pm_inc_sub, *])
  all_goals try exact pm_okJ hI0
  refine ⟨by grind [pm_no], _, _, rfl, ?_⟩
  simp only [pm_inv, pm_land, pm_u_row, pm_zr_row, pm_w_at, Nat.reduceEqDiff, ite_true, ite_false, pm_kept_u, pm_kept_z, pm_kept_r, pm_r_row, ne_eq, not_false_eq_true, Nat.reduceLT, hcon, htod, hroa, hper, hhou, hthi, hrig, hver, hsea, hsta, hlot, hbuy, hdee, hple, htxt, hrid, htmp, hshe, hshf, htra, hk, hkept, true_and, and_true]
  refine ⟨hsea.1, fun k hk => ?_⟩
  have h9 := hsea.2 k hk
  by_cases hk2 : k = x1.toNatClampNeg
  · subst hk2
    simp (disch := omega) only [pm_w_self, pm_w_ne]
  · simp (disch := omega) only [pm_w_ne]
    exact h9
theorem po_sealOf {d L : Nat} {b : Bool} {I : Nat → Nat → Int32} {J : Nat → Nat → Int64} {X : Nat → Int32} {x1 x2 : Int32} (hI : pm_inv X b I J) : pm_wc pm_code pm_meta (d + 20) 143 [.ref 8, .int x1, .int x2] (pm_Gb L b, I, J) (fun v _ H => pm_wc pm_code pm_meta (d + 20) 252 [.ref 79, .int x1, .int x2] H (pm_ok X L b v)) := by
  have hI0 := hI
  obtain ⟨⟨htod, hroa, hper, hhou, hthi, hrig, hver, hsea, hsta, hlot, hbuy, hdee, hple⟩, htxt, hrid, htmp, hshe, hshf, htra, hk, hkept, hcon⟩ := hI
  have hn1 := (per_n hper).1
  have hn2 := (hou_n hhou).1
  have hn3 := (thi_n hthi).1
  have hn4 := (rig_n hrig).1
  simp only [pb_143_0, pb_143_11, pb_143_23, pb_143_14, pb_143_20, pb_143_25, pb_143_33, pb_143_36, pb_143_39, pb_143_52, pb_143_68, pb_143_73, pb_143_74, pb_143_77, px_isDay, px_isPlace, px_isWithin, px_has_per hper, px_per_0 hper, px_per_1 hper, px_has_hou hhou, px_hou_0 hhou, px_hou_1 hhou, px_hou_2 hhou, px_hou_3 hhou, px_hou_4 hhou, px_hou_5 hhou, px_hou_6 hhou, px_hou_7 hhou, px_hou_8 hhou, px_hou_9 hhou, px_has_thi hthi, px_thi_0 hthi, px_thi_1 hthi, px_thi_2 hthi, px_thi_3 hthi, px_thi_4 hthi, px_has_rig hrig, px_rig_0 hrig, px_rig_1 hrig, px_rig_2 hrig, px_rig_3 hrig, px_rig_4 hrig, px_rig_5 hrig, px_rig_6 hrig, px_rig_7 hrig, px_rig_9 hrig, px_rig_10 hrig, px_rig_11 hrig, px_rig_12 hrig, px_hasFallen hhou, px_isLease hrig, px_min, pt_full_18, pt_set_18_0, pt_set_18_1, pt_set_18_2, pt_set_18_3, pt_set_18_4, pt_set_18_5, pt_set_18_6, pt_set_18_7, pt_set_18_8, pt_set_18_9, pt_set_18_10, pt_set_18_11, pt_set_18_12, pt_set_18_13, pt_set_18_14, pt_set_18_15, pt_add_18, htod.1, hper.1.2, hhou.1.2, hthi.1.2, hrig.1.2, hver.1.2.1, hsta.1.2, hlot.1.2, hbuy.1.2, hdee.1.2, hper.1.1, hhou.1.1, hthi.1.1, hrig.1.1, hver.1.1, hver.1.2.2.1, hver.1.2.2.2, hsea.1.1, hroa.1.1, hsta.1.1, hlot.1.1, hbuy.1.1, hdee.1.1, ti_inc, pm_u_row, pm_zr_row, pm_r_row, pm_w_at, Nat.reduceEqDiff, Nat.reduceLT, ite_true, ite_false, if_true, if_false, ite_self, Int32.reduceLE, Int32.reduceLT, pi_lt0, pm_b_eq0, pm_b_eq1, ite_not, pm_k0, pm_k1, pm_b_fit, true_and, and_true, not_true_eq_false, not_false_eq_true, ite_true, ite_false, if_true, if_false, pi_lt4, pi_lt5, pi_lt10, hsea.1.2, hroa.1.2]
  repeat' (split; all_goals (try simp only [pm_at_in, pm_no_eq, pm_no_pos,  Int32.reduceLE, Int32.reduceLT, pi_lt0, pm_b_eq0, pm_b_eq1, ite_not, pm_k0, pm_k1, pm_b_fit, true_and, and_true, not_true_eq_false, not_false_eq_true, ite_true, ite_false, if_true, if_false, pq_l1, pq_l2, and_self, *]))
  all_goals (try simp only [pb_252_0, pb_252_5, pb_252_17, pb_252_8, pb_252_14, pb_252_19, pb_252_32, pb_252_29, pb_252_55, pb_252_50, pb_252_56, pr_isDay, pr_isPlace, pr_in, pr_isPerson, pr_isHouse, pr_isThing, pr_isRight, pm_at_in, pm_no_eq, sea_in, pq_l1, pq_l2, and_self,  rig_in hrig, per_in hper, hou_in hhou, thi_in hthi, pr_hasFallen, pm_no_pos, pr_lesser, pm_u_row, pm_zr_row, pm_r_row, pm_w_at, Nat.reduceEqDiff, Nat.reduceLT, ite_true, ite_false, if_true, if_false, ite_self, Int32.reduceLE, Int32.reduceLT, pi_lt0, pm_b_eq0, pm_b_eq1, ite_not, pm_k0, pm_k1, pm_b_fit, true_and, and_true, not_true_eq_false, not_false_eq_true, ite_true, ite_false, if_true, if_false, pm_inc_sub, *])
  all_goals (repeat' split)
  all_goals first
    | with_reducible exact pm_okJ hI0
    | (refine pm_okI2 ?_ ?_
       · first | with_reducible rfl | grind [pm_no]
       · first
         | with_reducible exact hI0
         | (simp only [pm_inv, pm_land, pm_u_row, pm_zr_row, pm_w_at, Nat.reduceEqDiff, ite_true, ite_false, pm_kept_u, pm_kept_z, pm_kept_r, pm_r_row, ne_eq, not_false_eq_true, Nat.reduceLT, hcon, htod, hroa, hper, hhou, hthi, hrig, hver, hsea, hsta, hlot, hbuy, hdee, hple, htxt, hrid, htmp, hshe, hshf, htra, hk, hkept, true_and, and_true]
            first
            | with_reducible exact rig_set10 hrig ‹-1 ≤ x2 ∧ x2 ≤ 3›.1 ‹-1 ≤ x2 ∧ x2 ≤ 3›.2 (by have := ‹-1 ≤ x2 ∧ x2 ≤ 3›; grind [pm_no])
            | with_reducible exact rig_set10 hrig pq_l1 pq_l2 pq_l3))
theorem po_told {d L : Nat} {b : Bool} {I : Nat → Nat → Int32} {J : Nat → Nat → Int64} {X : Nat → Int32} {x1 x2 : Int32} (hI : pm_inv X b I J) : pm_wc pm_code pm_meta (d + 20) 145 [.ref 8, .int x1, .int x2] (pm_Gb L b, I, J) (fun v _ H => pm_wc pm_code pm_meta (d + 20) 254 [.ref 79, .int x1, .int x2] H (pm_ok X L b v)) := by
  have hI0 := hI
  obtain ⟨⟨htod, hroa, hper, hhou, hthi, hrig, hver, hsea, hsta, hlot, hbuy, hdee, hple⟩, htxt, hrid, htmp, hshe, hshf, htra, hk, hkept, hcon⟩ := hI
  have hn1 := (per_n hper).1
  have hn2 := (hou_n hhou).1
  have hn3 := (thi_n hthi).1
  have hn4 := (rig_n hrig).1
  simp only [pb_145_0, pb_145_11, pb_145_21, pb_145_14, pb_145_18, pb_145_23, pb_145_31, pb_145_34, pb_145_37, pb_145_50, pb_145_57, pb_145_61, pb_145_66, pb_145_83, px_isDay, px_isPlace, px_isWithin, px_has_per hper, px_per_0 hper, px_per_1 hper, px_has_hou hhou, px_hou_0 hhou, px_hou_1 hhou, px_hou_2 hhou, px_hou_3 hhou, px_hou_4 hhou, px_hou_5 hhou, px_hou_6 hhou, px_hou_7 hhou, px_hou_8 hhou, px_hou_9 hhou, px_has_thi hthi, px_thi_0 hthi, px_thi_1 hthi, px_thi_2 hthi, px_thi_3 hthi, px_thi_4 hthi, px_has_rig hrig, px_rig_0 hrig, px_rig_1 hrig, px_rig_2 hrig, px_rig_3 hrig, px_rig_4 hrig, px_rig_5 hrig, px_rig_6 hrig, px_rig_7 hrig, px_rig_9 hrig, px_rig_10 hrig, px_rig_11 hrig, px_rig_12 hrig, px_hasFallen hhou, px_isLease hrig, px_min, pt_full_18, pt_set_18_0, pt_set_18_1, pt_set_18_2, pt_set_18_3, pt_set_18_4, pt_set_18_5, pt_set_18_6, pt_set_18_7, pt_set_18_8, pt_set_18_9, pt_set_18_10, pt_set_18_11, pt_set_18_12, pt_set_18_13, pt_set_18_14, pt_set_18_15, pt_add_18, htod.1, hper.1.2, hhou.1.2, hthi.1.2, hrig.1.2, hver.1.2.1, hsta.1.2, hlot.1.2, hbuy.1.2, hdee.1.2, hper.1.1, hhou.1.1, hthi.1.1, hrig.1.1, hver.1.1, hver.1.2.2.1, hver.1.2.2.2, hsea.1.1, hroa.1.1, hsta.1.1, hlot.1.1, hbuy.1.1, hdee.1.1, ti_inc, pm_u_row, pm_zr_row, pm_r_row, pm_w_at, Nat.reduceEqDiff, Nat.reduceLT, ite_true, ite_false, if_true, if_false, ite_self, Int32.reduceLE, Int32.reduceLT, pi_lt0, pm_b_eq0, pm_b_eq1, ite_not, pm_k0, pm_k1, pm_b_fit, true_and, and_true, not_true_eq_false, not_false_eq_true, ite_true, ite_false, if_true, if_false, pi_lt4, pi_lt5, pi_lt10, hsea.1.2, hroa.1.2]
  repeat' (split; all_goals (try simp only [pm_at_in, pm_no_eq, pm_no_pos,  Int32.reduceLE, Int32.reduceLT, pi_lt0, pm_b_eq0, pm_b_eq1, ite_not, pm_k0, pm_k1, pm_b_fit, true_and, and_true, not_true_eq_false, not_false_eq_true, ite_true, ite_false, if_true, if_false, pq_l1, pq_l2, and_self, *]))
  all_goals (try simp only [pb_254_0, pb_254_5, pb_254_15, pb_254_8, pb_254_12, pb_254_17, pb_254_30, pb_254_27, pb_254_48, pb_254_44, pb_254_58, pr_isDay, pr_isPlace, pr_in, pr_isPerson, pr_isHouse, pr_isThing, pr_isRight, pm_at_in, pm_no_eq, sea_in, pq_l1, pq_l2, and_self,  rig_in hrig, per_in hper, hou_in hhou, thi_in hthi, pr_hasFallen, pm_no_pos, pr_lesser, pm_u_row, pm_zr_row, pm_r_row, pm_w_at, Nat.reduceEqDiff, Nat.reduceLT, ite_true, ite_false, if_true, if_false, ite_self, Int32.reduceLE, Int32.reduceLT, pi_lt0, pm_b_eq0, pm_b_eq1, ite_not, pm_k0, pm_k1, pm_b_fit, true_and, and_true, not_true_eq_false, not_false_eq_true, ite_true, ite_false, if_true, if_false, pm_inc_sub, *])
  all_goals (repeat' split)
  all_goals first
    | with_reducible exact pm_okJ hI0
    | (refine pm_okI2 ?_ ?_
       · first | with_reducible rfl | grind [pm_no]
       · first
         | with_reducible exact hI0
         | (simp only [pm_inv, pm_land, pm_u_row, pm_zr_row, pm_w_at, Nat.reduceEqDiff, ite_true, ite_false, pm_kept_u, pm_kept_z, pm_kept_r, pm_r_row, ne_eq, not_false_eq_true, Nat.reduceLT, hcon, htod, hroa, hper, hhou, hthi, hrig, hver, hsea, hsta, hlot, hbuy, hdee, hple, htxt, hrid, htmp, hshe, hshf, htra, hk, hkept, true_and, and_true]
            first
            | with_reducible exact rig_set11 hrig ‹0 ≤ x2 ∧ x2 ≤ 3599›.1 ‹0 ≤ x2 ∧ x2 ≤ 3599›.2 (pm_no_nn ‹0 ≤ x2 ∧ x2 ≤ 3599›.1)
            | with_reducible exact rig_set11 hrig ‹0 ≤ I 109 x1.toNatClampNeg› (rig_told hrig ‹0 ≤ x1 ∧ x1 < I 80 4›) (pm_no_nn ‹0 ≤ I 109 x1.toNatClampNeg›)))

