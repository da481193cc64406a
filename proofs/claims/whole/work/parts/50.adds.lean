/-! THE CALLS that walk no loop. -/
theorem po_person {d L : Nat} {b : Bool} {I : Nat → Nat → Int32} {J : Nat → Nat → Int64} {x1 : Int32} (hI : pm_inv b I J) : pm_wc pm_code pm_meta (d + 20) 117 [.ref 8, .int x1] (pm_Gb L b, I, J) (fun v _ H => pm_wc pm_code pm_meta (d + 20) 195 [.ref 79, .int x1] H (pm_ok L b v)) := by
  have hI0 := hI
  obtain ⟨⟨htod, hroa, hper, hhou, hthi, hrig, hver, hsea, hsta, hlot, hbuy, hdee⟩, htxt, hrid, htmp, hshe, hshf, htra, hk, hkept⟩ := hI
  have hn1 := (per_n hper).1
  have hn2 := (hou_n hhou).1
  have hn3 := (thi_n hthi).1
  have hn4 := (rig_n hrig).1
  simp only [pb_117_0, pb_117_4, pb_117_7, pb_117_9, pb_117_19, pb_117_25, pb_117_22, pb_117_35, pb_117_49, pb_117_63, px_isDay, px_isPlace, px_isWithin, px_has_per hper, px_per_0 hper, px_per_1 hper, pt_full_12, htod.1, hper.1.2, hhou.1.2, hthi.1.2, hrig.1.2, hver.1.2.1, hsta.1.2, hlot.1.2, hbuy.1.2, hdee.1.2, hper.1.1, hhou.1.1, hthi.1.1, hrig.1.1, hver.1.1, hver.1.2.2.1, hver.1.2.2.2, hsea.1.1, hroa.1.1, hsta.1.1, hlot.1.1, hbuy.1.1, hdee.1.1, ti_inc, pm_u_row, pm_zr_row, pm_w_at, Nat.reduceEqDiff, Nat.reduceLT, ite_true, ite_false, if_true, if_false, ite_self, pi_lt0, pm_b_eq0, pm_b_eq1, ite_not, pm_k0, pm_k1, pm_b_fit, true_and, and_true, not_true_eq_false, not_false_eq_true, ite_true, ite_false, if_true, if_false]
  repeat' (split; all_goals (try simp only [pm_at_in, pm_no_eq, *]))
  all_goals try (
    simp only [pb_195_0, pb_195_4, pb_195_7, pb_195_9, pb_195_20, pb_195_23, pr_isDay, pr_isPlace, pr_in, pr_isPerson, pr_isHouse, pr_isThing, pr_isRight, per_in2 hper, per_eq hper,  pm_u_row, pm_zr_row, pm_w_at, Nat.reduceEqDiff, Nat.reduceLT, ite_true, ite_false, if_true, if_false, ite_self, pi_lt0, pm_b_eq0, pm_b_eq1, ite_not, pm_k0, pm_k1, pm_b_fit, true_and, and_true, not_true_eq_false, not_false_eq_true, ite_true, ite_false, if_true, if_false, pm_inc_sub, *]
    done)
  all_goals try (
    simp only [pb_195_0, pb_195_4, pb_195_7, pb_195_9, pb_195_20, pb_195_23, pr_isDay, pr_isPlace, pr_in, pr_isPerson, pr_isHouse, pr_isThing, pr_isRight, per_in2 hper, per_eq hper,  pm_u_row, pm_zr_row, pm_w_at, Nat.reduceEqDiff, Nat.reduceLT, ite_true, ite_false, if_true, if_false, ite_self, pi_lt0, pm_b_eq0, pm_b_eq1, ite_not, pm_k0, pm_k1, pm_b_fit, true_and, and_true, not_true_eq_false, not_false_eq_true, ite_true, ite_false, if_true, if_false, pm_inc_sub, *]
    exact pm_okI hI0)
  all_goals (
    have h3 := Int32.not_le.mp (by assumption : ¬ 16 ≤ I 80 1)
    have h4 := pi_inc (pi_ltb h3 (by decide : (16 : Int32) ≤ 100000))
    simp only [pb_117_0, pb_117_4, pb_117_7, pb_117_9, pb_117_19, pb_117_25, pb_117_22, pb_117_35, pb_117_49, pb_117_63, px_isDay, px_isPlace, px_isWithin, pt_full_12, pt_set_12_0, pt_set_12_1, pt_add_12, htod.1, hper.1.2, hhou.1.2, hthi.1.2, hrig.1.2, hver.1.2.1, hsta.1.2, hlot.1.2, hbuy.1.2, hdee.1.2, hper.1.1, hhou.1.1, hthi.1.1, hrig.1.1, hver.1.1, hver.1.2.2.1, hver.1.2.2.2, hsea.1.1, hroa.1.1, hsta.1.1, hlot.1.1, hbuy.1.1, hdee.1.1, ti_inc, pm_u_row, pm_zr_row, pm_w_at, Nat.reduceEqDiff, Nat.reduceLT, ite_true, ite_false, if_true, if_false, ite_self, pi_lt0, pm_b_eq0, pm_b_eq1, ite_not, pm_k0, pm_k1, pm_b_fit, true_and, and_true, not_true_eq_false, not_false_eq_true, ite_true, ite_false, if_true, if_false, h3, h4, hn1, hn2, hn3, hn4, (per_n hper).1, Int32.reduceLT, and_self]
    simp only [pb_195_0, pb_195_4, pb_195_7, pb_195_9, pb_195_20, pb_195_23, pr_isDay, pr_isPlace, pr_in, pr_isPerson, pr_isHouse, pr_isThing, pr_isRight, per_in2 hper, per_eq hper,  pm_u_row, pm_zr_row, pm_w_at, Nat.reduceEqDiff, Nat.reduceLT, ite_true, ite_false, if_true, if_false, ite_self, pi_lt0, pm_b_eq0, pm_b_eq1, ite_not, pm_k0, pm_k1, pm_b_fit, true_and, and_true, not_true_eq_false, not_false_eq_true, ite_true, ite_false, if_true, if_false, pm_inc_sub, *]
    refine pm_okI ?_
    simp only [pm_inv, pm_land, pm_u_row, pm_zr_row, pm_w_at, Nat.reduceEqDiff, ite_true, ite_false, pm_kept_u, pm_kept_z, ne_eq, not_false_eq_true, Nat.reduceLT, htod, hroa, hper, hhou, hthi, hrig, hver, hsea, hsta, hlot, hbuy, hdee, htxt, hrid, htmp, hshe, hshf, htra, hk, hkept, true_and, and_true]
    exact ⟨per_add hper h3, rig_mono hrig (Int32.le_of_lt h4) (Int32.le_refl _) (Int32.le_refl _), sta_mono hsta⟩)
theorem po_house {d L : Nat} {b : Bool} {I : Nat → Nat → Int32} {J : Nat → Nat → Int64} {x1 x2 x3 x4 : Int32} (hI : pm_inv b I J) : pm_wc pm_code pm_meta (d + 20) 119 [.ref 8, .int x1, .int x2, .int x3, .int x4] (pm_Gb L b, I, J) (fun v _ H => pm_wc pm_code pm_meta (d + 20) 197 [.ref 79, .int x1, .int x2, .int x3, .int x4] H (pm_ok L b v)) := by
  have hI0 := hI
  obtain ⟨⟨htod, hroa, hper, hhou, hthi, hrig, hver, hsea, hsta, hlot, hbuy, hdee⟩, htxt, hrid, htmp, hshe, hshf, htra, hk, hkept⟩ := hI
  have hn1 := (per_n hper).1
  have hn2 := (hou_n hhou).1
  have hn3 := (thi_n hthi).1
  have hn4 := (rig_n hrig).1
  simp only [pb_119_0, pb_119_4, pb_119_16, pb_119_7, pb_119_13, pb_119_18, pb_119_26, pb_119_40, pb_119_29, pb_119_37, pb_119_42, pb_119_52, pb_119_58, pb_119_55, pb_119_68, pb_119_84, pb_119_98, pb_119_112, pb_119_127, pb_119_142, pb_119_157, pb_119_174, pb_119_190, pb_119_206, px_isDay, px_isPlace, px_isWithin, px_has_hou hhou, px_hou_0 hhou, px_hou_1 hhou, px_hou_2 hhou, px_hou_3 hhou, px_hou_4 hhou, px_hou_5 hhou, px_hou_6 hhou, px_hou_7 hhou, px_hou_8 hhou, px_hou_9 hhou, pt_full_14, htod.1, hper.1.2, hhou.1.2, hthi.1.2, hrig.1.2, hver.1.2.1, hsta.1.2, hlot.1.2, hbuy.1.2, hdee.1.2, hper.1.1, hhou.1.1, hthi.1.1, hrig.1.1, hver.1.1, hver.1.2.2.1, hver.1.2.2.2, hsea.1.1, hroa.1.1, hsta.1.1, hlot.1.1, hbuy.1.1, hdee.1.1, ti_inc, pm_u_row, pm_zr_row, pm_w_at, Nat.reduceEqDiff, Nat.reduceLT, ite_true, ite_false, if_true, if_false, ite_self, pi_lt0, pm_b_eq0, pm_b_eq1, ite_not, pm_k0, pm_k1, pm_b_fit, true_and, and_true, not_true_eq_false, not_false_eq_true, ite_true, ite_false, if_true, if_false]
  repeat' (split; all_goals (try simp only [pm_at_in, pm_no_eq, *]))
  all_goals try (
    simp only [pb_197_0, pb_197_4, pb_197_38, pb_197_7, pb_197_13, pb_197_16, pb_197_24, pb_197_27, pb_197_35, pb_197_40, pb_197_51, pb_197_54, pr_isDay, pr_isPlace, pr_in, pr_isPerson, pr_isHouse, pr_isThing, pr_isRight, hou_in2 hhou, hou_eq hhou,  pm_u_row, pm_zr_row, pm_w_at, Nat.reduceEqDiff, Nat.reduceLT, ite_true, ite_false, if_true, if_false, ite_self, pi_lt0, pm_b_eq0, pm_b_eq1, ite_not, pm_k0, pm_k1, pm_b_fit, true_and, and_true, not_true_eq_false, not_false_eq_true, ite_true, ite_false, if_true, if_false, pm_inc_sub, *]
    done)
  all_goals try (
    simp only [pb_197_0, pb_197_4, pb_197_38, pb_197_7, pb_197_13, pb_197_16, pb_197_24, pb_197_27, pb_197_35, pb_197_40, pb_197_51, pb_197_54, pr_isDay, pr_isPlace, pr_in, pr_isPerson, pr_isHouse, pr_isThing, pr_isRight, hou_in2 hhou, hou_eq hhou,  pm_u_row, pm_zr_row, pm_w_at, Nat.reduceEqDiff, Nat.reduceLT, ite_true, ite_false, if_true, if_false, ite_self, pi_lt0, pm_b_eq0, pm_b_eq1, ite_not, pm_k0, pm_k1, pm_b_fit, true_and, and_true, not_true_eq_false, not_false_eq_true, ite_true, ite_false, if_true, if_false, pm_inc_sub, *]
    exact pm_okI hI0)
  all_goals (
    have h3 := Int32.not_le.mp (by assumption : ¬ 8 ≤ I 80 2)
    have h4 := pi_inc (pi_ltb h3 (by decide : (8 : Int32) ≤ 100000))
    simp only [pb_119_0, pb_119_4, pb_119_16, pb_119_7, pb_119_13, pb_119_18, pb_119_26, pb_119_40, pb_119_29, pb_119_37, pb_119_42, pb_119_52, pb_119_58, pb_119_55, pb_119_68, pb_119_84, pb_119_98, pb_119_112, pb_119_127, pb_119_142, pb_119_157, pb_119_174, pb_119_190, pb_119_206, px_isDay, px_isPlace, px_isWithin, pt_full_14, pt_set_14_0, pt_set_14_1, pt_set_14_2, pt_set_14_3, pt_set_14_4, pt_set_14_5, pt_set_14_6, pt_set_14_7, pt_set_14_8, pt_set_14_9, pt_add_14, htod.1, hper.1.2, hhou.1.2, hthi.1.2, hrig.1.2, hver.1.2.1, hsta.1.2, hlot.1.2, hbuy.1.2, hdee.1.2, hper.1.1, hhou.1.1, hthi.1.1, hrig.1.1, hver.1.1, hver.1.2.2.1, hver.1.2.2.2, hsea.1.1, hroa.1.1, hsta.1.1, hlot.1.1, hbuy.1.1, hdee.1.1, ti_inc, pm_u_row, pm_zr_row, pm_w_at, Nat.reduceEqDiff, Nat.reduceLT, ite_true, ite_false, if_true, if_false, ite_self, pi_lt0, pm_b_eq0, pm_b_eq1, ite_not, pm_k0, pm_k1, pm_b_fit, true_and, and_true, not_true_eq_false, not_false_eq_true, ite_true, ite_false, if_true, if_false, h3, h4, hn1, hn2, hn3, hn4, (hou_n hhou).1, Int32.reduceLT, and_self]
    simp only [pb_197_0, pb_197_4, pb_197_38, pb_197_7, pb_197_13, pb_197_16, pb_197_24, pb_197_27, pb_197_35, pb_197_40, pb_197_51, pb_197_54, pr_isDay, pr_isPlace, pr_in, pr_isPerson, pr_isHouse, pr_isThing, pr_isRight, hou_in2 hhou, hou_eq hhou,  pm_u_row, pm_zr_row, pm_w_at, Nat.reduceEqDiff, Nat.reduceLT, ite_true, ite_false, if_true, if_false, ite_self, pi_lt0, pm_b_eq0, pm_b_eq1, ite_not, pm_k0, pm_k1, pm_b_fit, true_and, and_true, not_true_eq_false, not_false_eq_true, ite_true, ite_false, if_true, if_false, pm_inc_sub, *]
    refine pm_okI ?_
    simp only [pm_inv, pm_land, pm_u_row, pm_zr_row, pm_w_at, Nat.reduceEqDiff, ite_true, ite_false, pm_kept_u, pm_kept_z, ne_eq, not_false_eq_true, Nat.reduceLT, htod, hroa, hper, hhou, hthi, hrig, hver, hsea, hsta, hlot, hbuy, hdee, htxt, hrid, htmp, hshe, hshf, htra, hk, hkept, true_and, and_true]
    exact ⟨hou_add hhou h3 ‹0 ≤ x1 ∧ x1 ≤ 9›.1 ‹0 ≤ x1 ∧ x1 ≤ 9›.2 htod.2.1, thi_mono hthi (Int32.le_of_lt h4), rig_mono hrig (Int32.le_refl _) (Int32.le_of_lt h4) (Int32.le_refl _)⟩)
theorem po_stay {d L : Nat} {b : Bool} {I : Nat → Nat → Int32} {J : Nat → Nat → Int64} {x1 x2 x3 : Int32} (hI : pm_inv b I J) : pm_wc pm_code pm_meta (d + 20) 146 [.ref 8, .int x1, .int x2, .int x3] (pm_Gb L b, I, J) (fun v _ H => pm_wc pm_code pm_meta (d + 20) 255 [.ref 79, .int x1, .int x2, .int x3] H (pm_ok L b v)) := by
  have hI0 := hI
  obtain ⟨⟨htod, hroa, hper, hhou, hthi, hrig, hver, hsea, hsta, hlot, hbuy, hdee⟩, htxt, hrid, htmp, hshe, hshf, htra, hk, hkept⟩ := hI
  have hn1 := (per_n hper).1
  have hn2 := (hou_n hhou).1
  have hn3 := (thi_n hthi).1
  have hn4 := (rig_n hrig).1
  simp only [pb_146_0, pb_146_11, pb_146_28, pb_146_14, pb_146_18, pb_146_21, pb_146_25, pb_146_30, pb_146_40, pb_146_46, pb_146_43, pb_146_56, pb_146_72, pb_146_86, pb_146_100, px_isDay, px_isPlace, px_isWithin, px_has_per hper, px_per_0 hper, px_per_1 hper, pt_full_28, htod.1, hper.1.2, hhou.1.2, hthi.1.2, hrig.1.2, hver.1.2.1, hsta.1.2, hlot.1.2, hbuy.1.2, hdee.1.2, hper.1.1, hhou.1.1, hthi.1.1, hrig.1.1, hver.1.1, hver.1.2.2.1, hver.1.2.2.2, hsea.1.1, hroa.1.1, hsta.1.1, hlot.1.1, hbuy.1.1, hdee.1.1, ti_inc, pm_u_row, pm_zr_row, pm_w_at, Nat.reduceEqDiff, Nat.reduceLT, ite_true, ite_false, if_true, if_false, ite_self, pi_lt0, pm_b_eq0, pm_b_eq1, ite_not, pm_k0, pm_k1, pm_b_fit, true_and, and_true, not_true_eq_false, not_false_eq_true, ite_true, ite_false, if_true, if_false]
  repeat' (split; all_goals (try simp only [pm_at_in, pm_no_eq, *]))
  all_goals try (
    simp only [pb_255_0, pb_255_5, pb_255_22, pb_255_8, pb_255_12, pb_255_15, pb_255_19, pb_255_24, pb_255_36, pb_255_39, pr_isDay, pr_isPlace, pr_in, pr_isPerson, pr_isHouse, pr_isThing, pr_isRight, sta_in2 hsta, sta_eq hsta,  pm_u_row, pm_zr_row, pm_w_at, Nat.reduceEqDiff, Nat.reduceLT, ite_true, ite_false, if_true, if_false, ite_self, pi_lt0, pm_b_eq0, pm_b_eq1, ite_not, pm_k0, pm_k1, pm_b_fit, true_and, and_true, not_true_eq_false, not_false_eq_true, ite_true, ite_false, if_true, if_false, pm_inc_sub, *]
    done)
  all_goals try (
    simp only [pb_255_0, pb_255_5, pb_255_22, pb_255_8, pb_255_12, pb_255_15, pb_255_19, pb_255_24, pb_255_36, pb_255_39, pr_isDay, pr_isPlace, pr_in, pr_isPerson, pr_isHouse, pr_isThing, pr_isRight, sta_in2 hsta, sta_eq hsta,  pm_u_row, pm_zr_row, pm_w_at, Nat.reduceEqDiff, Nat.reduceLT, ite_true, ite_false, if_true, if_false, ite_self, pi_lt0, pm_b_eq0, pm_b_eq1, ite_not, pm_k0, pm_k1, pm_b_fit, true_and, and_true, not_true_eq_false, not_false_eq_true, ite_true, ite_false, if_true, if_false, pm_inc_sub, *]
    exact pm_okI hI0)
  all_goals (
    have h3 := Int32.not_le.mp (by assumption : ¬ 24 ≤ I 80 6)
    have h4 := pi_inc (pi_ltb h3 (by decide : (24 : Int32) ≤ 100000))
    simp only [pb_146_0, pb_146_11, pb_146_28, pb_146_14, pb_146_18, pb_146_21, pb_146_25, pb_146_30, pb_146_40, pb_146_46, pb_146_43, pb_146_56, pb_146_72, pb_146_86, pb_146_100, px_isDay, px_isPlace, px_isWithin, pt_full_28, pt_set_28_0, pt_set_28_1, pt_set_28_2, pt_add_28, htod.1, hper.1.2, hhou.1.2, hthi.1.2, hrig.1.2, hver.1.2.1, hsta.1.2, hlot.1.2, hbuy.1.2, hdee.1.2, hper.1.1, hhou.1.1, hthi.1.1, hrig.1.1, hver.1.1, hver.1.2.2.1, hver.1.2.2.2, hsea.1.1, hroa.1.1, hsta.1.1, hlot.1.1, hbuy.1.1, hdee.1.1, ti_inc, pm_u_row, pm_zr_row, pm_w_at, Nat.reduceEqDiff, Nat.reduceLT, ite_true, ite_false, if_true, if_false, ite_self, pi_lt0, pm_b_eq0, pm_b_eq1, ite_not, pm_k0, pm_k1, pm_b_fit, true_and, and_true, not_true_eq_false, not_false_eq_true, ite_true, ite_false, if_true, if_false, h3, h4, hn1, hn2, hn3, hn4, (sta_n hsta).1, Int32.reduceLT, and_self]
    simp only [pb_255_0, pb_255_5, pb_255_22, pb_255_8, pb_255_12, pb_255_15, pb_255_19, pb_255_24, pb_255_36, pb_255_39, pr_isDay, pr_isPlace, pr_in, pr_isPerson, pr_isHouse, pr_isThing, pr_isRight, sta_in2 hsta, sta_eq hsta,  pm_u_row, pm_zr_row, pm_w_at, Nat.reduceEqDiff, Nat.reduceLT, ite_true, ite_false, if_true, if_false, ite_self, pi_lt0, pm_b_eq0, pm_b_eq1, ite_not, pm_k0, pm_k1, pm_b_fit, true_and, and_true, not_true_eq_false, not_false_eq_true, ite_true, ite_false, if_true, if_false, pm_inc_sub, *]
    refine pm_okI ?_
    simp only [pm_inv, pm_land, pm_u_row, pm_zr_row, pm_w_at, Nat.reduceEqDiff, ite_true, ite_false, pm_kept_u, pm_kept_z, ne_eq, not_false_eq_true, Nat.reduceLT, htod, hroa, hper, hhou, hthi, hrig, hver, hsea, hsta, hlot, hbuy, hdee, htxt, hrid, htmp, hshe, hshf, htra, hk, hkept, true_and, and_true]
    exact sta_add hsta h3 ‹0 ≤ x2 ∧ x2 ≤ 9›.1 ‹0 ≤ x2 ∧ x2 ≤ 9›.2 ‹0 ≤ x3 ∧ x3 ≤ 3599›.1 ‹0 ≤ x3 ∧ x3 ≤ 3599›.2)
theorem po_lot {d L : Nat} {b : Bool} {I : Nat → Nat → Int32} {J : Nat → Nat → Int64} {x1 : Int32} (hI : pm_inv b I J) : pm_wc pm_code pm_meta (d + 20) 155 [.ref 8, .int x1] (pm_Gb L b, I, J) (fun v _ H => pm_wc pm_code pm_meta (d + 20) 270 [.ref 79, .int x1] H (pm_ok L b v)) := by
  have hI0 := hI
  obtain ⟨⟨htod, hroa, hper, hhou, hthi, hrig, hver, hsea, hsta, hlot, hbuy, hdee⟩, htxt, hrid, htmp, hshe, hshf, htra, hk, hkept⟩ := hI
  have hn1 := (per_n hper).1
  have hn2 := (hou_n hhou).1
  have hn3 := (thi_n hthi).1
  have hn4 := (rig_n hrig).1
  simp only [pb_155_0, pb_155_7, pb_155_10, pb_155_12, pb_155_22, pb_155_28, pb_155_25, pb_155_45, pb_155_50, px_isDay, px_isPlace, px_isWithin, px_lot_0 hlot, pt_full_30, htod.1, hper.1.2, hhou.1.2, hthi.1.2, hrig.1.2, hver.1.2.1, hsta.1.2, hlot.1.2, hbuy.1.2, hdee.1.2, hper.1.1, hhou.1.1, hthi.1.1, hrig.1.1, hver.1.1, hver.1.2.2.1, hver.1.2.2.2, hsea.1.1, hroa.1.1, hsta.1.1, hlot.1.1, hbuy.1.1, hdee.1.1, ti_inc, pm_u_row, pm_zr_row, pm_w_at, Nat.reduceEqDiff, Nat.reduceLT, ite_true, ite_false, if_true, if_false, ite_self, pi_lt0, pm_b_eq0, pm_b_eq1, ite_not, pm_k0, pm_k1, pm_b_fit, true_and, and_true, not_true_eq_false, not_false_eq_true, ite_true, ite_false, if_true, if_false]
  repeat' (split; all_goals (try simp only [pm_at_in, pm_no_eq, *]))
  all_goals try (
    simp only [pb_270_0, pb_270_7, pb_270_10, pb_270_12, pb_270_24, pb_270_27, pr_isDay, pr_isPlace, pr_in, pr_isPerson, pr_isHouse, pr_isThing, pr_isRight, lot_in2 hlot, lot_eq hlot,  pm_u_row, pm_zr_row, pm_w_at, Nat.reduceEqDiff, Nat.reduceLT, ite_true, ite_false, if_true, if_false, ite_self, pi_lt0, pm_b_eq0, pm_b_eq1, ite_not, pm_k0, pm_k1, pm_b_fit, true_and, and_true, not_true_eq_false, not_false_eq_true, ite_true, ite_false, if_true, if_false, pm_inc_sub, *]
    done)
  all_goals try (
    simp only [pb_270_0, pb_270_7, pb_270_10, pb_270_12, pb_270_24, pb_270_27, pr_isDay, pr_isPlace, pr_in, pr_isPerson, pr_isHouse, pr_isThing, pr_isRight, lot_in2 hlot, lot_eq hlot,  pm_u_row, pm_zr_row, pm_w_at, Nat.reduceEqDiff, Nat.reduceLT, ite_true, ite_false, if_true, if_false, ite_self, pi_lt0, pm_b_eq0, pm_b_eq1, ite_not, pm_k0, pm_k1, pm_b_fit, true_and, and_true, not_true_eq_false, not_false_eq_true, ite_true, ite_false, if_true, if_false, pm_inc_sub, *]
    exact pm_okI hI0)
  all_goals (
    have h3 := Int32.not_le.mp (by assumption : ¬ 7 ≤ I 80 7)
    have h4 := pi_inc (pi_ltb h3 (by decide : (7 : Int32) ≤ 100000))
    simp only [pb_155_0, pb_155_7, pb_155_10, pb_155_12, pb_155_22, pb_155_28, pb_155_25, pb_155_45, pb_155_50, px_isDay, px_isPlace, px_isWithin, pt_full_30, pt_set_30_0, pt_add_30, htod.1, hper.1.2, hhou.1.2, hthi.1.2, hrig.1.2, hver.1.2.1, hsta.1.2, hlot.1.2, hbuy.1.2, hdee.1.2, hper.1.1, hhou.1.1, hthi.1.1, hrig.1.1, hver.1.1, hver.1.2.2.1, hver.1.2.2.2, hsea.1.1, hroa.1.1, hsta.1.1, hlot.1.1, hbuy.1.1, hdee.1.1, ti_inc, pm_u_row, pm_zr_row, pm_w_at, Nat.reduceEqDiff, Nat.reduceLT, ite_true, ite_false, if_true, if_false, ite_self, pi_lt0, pm_b_eq0, pm_b_eq1, ite_not, pm_k0, pm_k1, pm_b_fit, true_and, and_true, not_true_eq_false, not_false_eq_true, ite_true, ite_false, if_true, if_false, h3, h4, hn1, hn2, hn3, hn4, (lot_n hlot).1, Int32.reduceLT, and_self]
    simp only [pb_270_0, pb_270_7, pb_270_10, pb_270_12, pb_270_24, pb_270_27, pr_isDay, pr_isPlace, pr_in, pr_isPerson, pr_isHouse, pr_isThing, pr_isRight, lot_in2 hlot, lot_eq hlot,  pm_u_row, pm_zr_row, pm_w_at, Nat.reduceEqDiff, Nat.reduceLT, ite_true, ite_false, if_true, if_false, ite_self, pi_lt0, pm_b_eq0, pm_b_eq1, ite_not, pm_k0, pm_k1, pm_b_fit, true_and, and_true, not_true_eq_false, not_false_eq_true, ite_true, ite_false, if_true, if_false, pm_inc_sub, *]
    refine pm_okI ?_
    simp only [pm_inv, pm_land, pm_u_row, pm_zr_row, pm_w_at, Nat.reduceEqDiff, ite_true, ite_false, pm_kept_u, pm_kept_z, ne_eq, not_false_eq_true, Nat.reduceLT, htod, hroa, hper, hhou, hthi, hrig, hver, hsea, hsta, hlot, hbuy, hdee, htxt, hrid, htmp, hshe, hshf, htra, hk, hkept, true_and, and_true]
    exact lot_add hlot h3 ‹1 ≤ x1 ∧ x1 ≤ 99›.1 ‹1 ≤ x1 ∧ x1 ≤ 99›.2)
theorem po_buyer {d L : Nat} {b : Bool} {I : Nat → Nat → Int32} {J : Nat → Nat → Int64} {x1 : Int32} (hI : pm_inv b I J) : pm_wc pm_code pm_meta (d + 20) 156 [.ref 8, .int x1] (pm_Gb L b, I, J) (fun v _ H => pm_wc pm_code pm_meta (d + 20) 271 [.ref 79, .int x1] H (pm_ok L b v)) := by
  have hI0 := hI
  obtain ⟨⟨htod, hroa, hper, hhou, hthi, hrig, hver, hsea, hsta, hlot, hbuy, hdee⟩, htxt, hrid, htmp, hshe, hshf, htra, hk, hkept⟩ := hI
  have hn1 := (per_n hper).1
  have hn2 := (hou_n hhou).1
  have hn3 := (thi_n hthi).1
  have hn4 := (rig_n hrig).1
  simp only [pb_156_0, pb_156_8, pb_156_11, pb_156_13, pb_156_23, pb_156_29, pb_156_26, pb_156_46, pb_156_51, px_isDay, px_isPlace, px_isWithin, px_buy_0 hbuy, pt_full_32, htod.1, hper.1.2, hhou.1.2, hthi.1.2, hrig.1.2, hver.1.2.1, hsta.1.2, hlot.1.2, hbuy.1.2, hdee.1.2, hper.1.1, hhou.1.1, hthi.1.1, hrig.1.1, hver.1.1, hver.1.2.2.1, hver.1.2.2.2, hsea.1.1, hroa.1.1, hsta.1.1, hlot.1.1, hbuy.1.1, hdee.1.1, ti_inc, pm_u_row, pm_zr_row, pm_w_at, Nat.reduceEqDiff, Nat.reduceLT, ite_true, ite_false, if_true, if_false, ite_self, pi_lt0, pm_b_eq0, pm_b_eq1, ite_not, pm_k0, pm_k1, pm_b_fit, true_and, and_true, not_true_eq_false, not_false_eq_true, ite_true, ite_false, if_true, if_false]
  repeat' (split; all_goals (try simp only [pm_at_in, pm_no_eq, *]))
  all_goals try (
    simp only [pb_271_0, pb_271_8, pb_271_11, pb_271_13, pb_271_24, pb_271_27, pr_isDay, pr_isPlace, pr_in, pr_isPerson, pr_isHouse, pr_isThing, pr_isRight, buy_in2 hbuy, buy_eq hbuy,  pm_u_row, pm_zr_row, pm_w_at, Nat.reduceEqDiff, Nat.reduceLT, ite_true, ite_false, if_true, if_false, ite_self, pi_lt0, pm_b_eq0, pm_b_eq1, ite_not, pm_k0, pm_k1, pm_b_fit, true_and, and_true, not_true_eq_false, not_false_eq_true, ite_true, ite_false, if_true, if_false, pm_inc_sub, *]
    done)
  all_goals try (
    simp only [pb_271_0, pb_271_8, pb_271_11, pb_271_13, pb_271_24, pb_271_27, pr_isDay, pr_isPlace, pr_in, pr_isPerson, pr_isHouse, pr_isThing, pr_isRight, buy_in2 hbuy, buy_eq hbuy,  pm_u_row, pm_zr_row, pm_w_at, Nat.reduceEqDiff, Nat.reduceLT, ite_true, ite_false, if_true, if_false, ite_self, pi_lt0, pm_b_eq0, pm_b_eq1, ite_not, pm_k0, pm_k1, pm_b_fit, true_and, and_true, not_true_eq_false, not_false_eq_true, ite_true, ite_false, if_true, if_false, pm_inc_sub, *]
    exact pm_okI hI0)
  all_goals (
    have h3 := Int32.not_le.mp (by assumption : ¬ 3 ≤ I 80 8)
    have h4 := pi_inc (pi_ltb h3 (by decide : (3 : Int32) ≤ 100000))
    simp only [pb_156_0, pb_156_8, pb_156_11, pb_156_13, pb_156_23, pb_156_29, pb_156_26, pb_156_46, pb_156_51, px_isDay, px_isPlace, px_isWithin, pt_full_32, pt_set_32_0, pt_add_32, htod.1, hper.1.2, hhou.1.2, hthi.1.2, hrig.1.2, hver.1.2.1, hsta.1.2, hlot.1.2, hbuy.1.2, hdee.1.2, hper.1.1, hhou.1.1, hthi.1.1, hrig.1.1, hver.1.1, hver.1.2.2.1, hver.1.2.2.2, hsea.1.1, hroa.1.1, hsta.1.1, hlot.1.1, hbuy.1.1, hdee.1.1, ti_inc, pm_u_row, pm_zr_row, pm_w_at, Nat.reduceEqDiff, Nat.reduceLT, ite_true, ite_false, if_true, if_false, ite_self, pi_lt0, pm_b_eq0, pm_b_eq1, ite_not, pm_k0, pm_k1, pm_b_fit, true_and, and_true, not_true_eq_false, not_false_eq_true, ite_true, ite_false, if_true, if_false, h3, h4, hn1, hn2, hn3, hn4, (buy_n hbuy).1, Int32.reduceLT, and_self]
    simp only [pb_271_0, pb_271_8, pb_271_11, pb_271_13, pb_271_24, pb_271_27, pr_isDay, pr_isPlace, pr_in, pr_isPerson, pr_isHouse, pr_isThing, pr_isRight, buy_in2 hbuy, buy_eq hbuy,  pm_u_row, pm_zr_row, pm_w_at, Nat.reduceEqDiff, Nat.reduceLT, ite_true, ite_false, if_true, if_false, ite_self, pi_lt0, pm_b_eq0, pm_b_eq1, ite_not, pm_k0, pm_k1, pm_b_fit, true_and, and_true, not_true_eq_false, not_false_eq_true, ite_true, ite_false, if_true, if_false, pm_inc_sub, *]
    refine pm_okI ?_
    simp only [pm_inv, pm_land, pm_u_row, pm_zr_row, pm_w_at, Nat.reduceEqDiff, ite_true, ite_false, pm_kept_u, pm_kept_z, ne_eq, not_false_eq_true, Nat.reduceLT, htod, hroa, hper, hhou, hthi, hrig, hver, hsea, hsta, hlot, hbuy, hdee, htxt, hrid, htmp, hshe, hshf, htra, hk, hkept, true_and, and_true]
    exact buy_add hbuy h3 ‹0 ≤ x1 ∧ x1 ≤ 300›.1 ‹0 ≤ x1 ∧ x1 ≤ 300›.2)
theorem po_deed {d L : Nat} {b : Bool} {I : Nat → Nat → Int32} {J : Nat → Nat → Int64} {x1 x2 x3 x4 x5 : Int32} (hI : pm_inv b I J) : pm_wc pm_code pm_meta (d + 20) 159 [.ref 8, .int x1, .int x2, .int x3, .int x4, .int x5] (pm_Gb L b, I, J) (fun v _ H => pm_wc pm_code pm_meta (d + 20) 277 [.ref 79, .int x1, .int x2, .int x3, .int x4, .int x5] H (pm_ok L b v)) := by
  have hI0 := hI
  obtain ⟨⟨htod, hroa, hper, hhou, hthi, hrig, hver, hsea, hsta, hlot, hbuy, hdee⟩, htxt, hrid, htmp, hshe, hshf, htra, hk, hkept⟩ := hI
  have hn1 := (per_n hper).1
  have hn2 := (hou_n hhou).1
  have hn3 := (thi_n hthi).1
  have hn4 := (rig_n hrig).1
  simp only [pb_159_0, pb_159_6, pb_159_37, pb_159_9, pb_159_20, pb_159_23, pb_159_34, pb_159_39, pb_159_64, pb_159_44, pb_159_49, pb_159_52, pb_159_61, pb_159_66, pb_159_76, pb_159_82, pb_159_79, pb_159_92, pb_159_108, pb_159_122, pb_159_136, pb_159_151, pb_159_166, pb_159_186, px_isDay, px_isPlace, px_isWithin, px_has_per hper, px_per_0 hper, px_per_1 hper, pt_full_34, htod.1, hper.1.2, hhou.1.2, hthi.1.2, hrig.1.2, hver.1.2.1, hsta.1.2, hlot.1.2, hbuy.1.2, hdee.1.2, hper.1.1, hhou.1.1, hthi.1.1, hrig.1.1, hver.1.1, hver.1.2.2.1, hver.1.2.2.2, hsea.1.1, hroa.1.1, hsta.1.1, hlot.1.1, hbuy.1.1, hdee.1.1, ti_inc, pm_u_row, pm_zr_row, pm_w_at, Nat.reduceEqDiff, Nat.reduceLT, ite_true, ite_false, if_true, if_false, ite_self, pi_lt0, pm_b_eq0, pm_b_eq1, ite_not, pm_k0, pm_k1, pm_b_fit, true_and, and_true, not_true_eq_false, not_false_eq_true, ite_true, ite_false, if_true, if_false]
  repeat' (split; all_goals (try simp only [pm_at_in, pm_no_eq, *]))
  all_goals try (
    simp only [pb_277_0, pb_277_4, pb_277_48, pb_277_7, pb_277_12, pb_277_15, pb_277_20, pb_277_23, pb_277_28, pb_277_31, pb_277_36, pb_277_45, pb_277_50, pb_277_62, pb_277_65, pr_isDay, pr_isPlace, pr_in, pr_isPerson, pr_isHouse, pr_isThing, pr_isRight, dee_in2 hdee, dee_eq hdee, pb_276_0, pb_276_6, pm_u_row, pm_zr_row, pm_w_at, Nat.reduceEqDiff, Nat.reduceLT, ite_true, ite_false, if_true, if_false, ite_self, pi_lt0, pm_b_eq0, pm_b_eq1, ite_not, pm_k0, pm_k1, pm_b_fit, true_and, and_true, not_true_eq_false, not_false_eq_true, ite_true, ite_false, if_true, if_false, pm_inc_sub, *]
    done)
  all_goals try (
    simp only [pb_277_0, pb_277_4, pb_277_48, pb_277_7, pb_277_12, pb_277_15, pb_277_20, pb_277_23, pb_277_28, pb_277_31, pb_277_36, pb_277_45, pb_277_50, pb_277_62, pb_277_65, pr_isDay, pr_isPlace, pr_in, pr_isPerson, pr_isHouse, pr_isThing, pr_isRight, dee_in2 hdee, dee_eq hdee, pb_276_0, pb_276_6, pm_u_row, pm_zr_row, pm_w_at, Nat.reduceEqDiff, Nat.reduceLT, ite_true, ite_false, if_true, if_false, ite_self, pi_lt0, pm_b_eq0, pm_b_eq1, ite_not, pm_k0, pm_k1, pm_b_fit, true_and, and_true, not_true_eq_false, not_false_eq_true, ite_true, ite_false, if_true, if_false, pm_inc_sub, *]
    exact pm_okI hI0)
  all_goals (
    have h3 := Int32.not_le.mp (by assumption : ¬ 24 ≤ I 80 9)
    have h4 := pi_inc (pi_ltb h3 (by decide : (24 : Int32) ≤ 100000))
    simp only [pb_159_0, pb_159_6, pb_159_37, pb_159_9, pb_159_20, pb_159_23, pb_159_34, pb_159_39, pb_159_64, pb_159_44, pb_159_49, pb_159_52, pb_159_61, pb_159_66, pb_159_76, pb_159_82, pb_159_79, pb_159_92, pb_159_108, pb_159_122, pb_159_136, pb_159_151, pb_159_166, pb_159_186, px_isDay, px_isPlace, px_isWithin, pt_full_34, pt_set_34_0, pt_set_34_1, pt_set_34_2, pt_set_34_3, pt_set_34_4, pt_set_34_5, pt_add_34, htod.1, hper.1.2, hhou.1.2, hthi.1.2, hrig.1.2, hver.1.2.1, hsta.1.2, hlot.1.2, hbuy.1.2, hdee.1.2, hper.1.1, hhou.1.1, hthi.1.1, hrig.1.1, hver.1.1, hver.1.2.2.1, hver.1.2.2.2, hsea.1.1, hroa.1.1, hsta.1.1, hlot.1.1, hbuy.1.1, hdee.1.1, ti_inc, pm_u_row, pm_zr_row, pm_w_at, Nat.reduceEqDiff, Nat.reduceLT, ite_true, ite_false, if_true, if_false, ite_self, pi_lt0, pm_b_eq0, pm_b_eq1, ite_not, pm_k0, pm_k1, pm_b_fit, true_and, and_true, not_true_eq_false, not_false_eq_true, ite_true, ite_false, if_true, if_false, h3, h4, hn1, hn2, hn3, hn4, (dee_n hdee).1, Int32.reduceLT, and_self]
    simp only [pb_277_0, pb_277_4, pb_277_48, pb_277_7, pb_277_12, pb_277_15, pb_277_20, pb_277_23, pb_277_28, pb_277_31, pb_277_36, pb_277_45, pb_277_50, pb_277_62, pb_277_65, pr_isDay, pr_isPlace, pr_in, pr_isPerson, pr_isHouse, pr_isThing, pr_isRight, dee_in2 hdee, dee_eq hdee, pb_276_0, pb_276_6, pm_u_row, pm_zr_row, pm_w_at, Nat.reduceEqDiff, Nat.reduceLT, ite_true, ite_false, if_true, if_false, ite_self, pi_lt0, pm_b_eq0, pm_b_eq1, ite_not, pm_k0, pm_k1, pm_b_fit, true_and, and_true, not_true_eq_false, not_false_eq_true, ite_true, ite_false, if_true, if_false, pm_inc_sub, *]
    refine pm_okI ?_
    simp only [pm_inv, pm_land, pm_u_row, pm_zr_row, pm_w_at, Nat.reduceEqDiff, ite_true, ite_false, pm_kept_u, pm_kept_z, ne_eq, not_false_eq_true, Nat.reduceLT, htod, hroa, hper, hhou, hthi, hrig, hver, hsea, hsta, hlot, hbuy, hdee, htxt, hrid, htmp, hshe, hshf, htra, hk, hkept, true_and, and_true]
    exact dee_add hdee h3 ‹0 ≤ x2 ∧ x2 < I 80 1›.1 ‹0 ≤ x3 ∧ x3 < I 80 1›.1 ‹0 ≤ x4 ∧ x4 ≤ 3599›.1 ‹0 ≤ x4 ∧ x4 ≤ 3599›.2)

