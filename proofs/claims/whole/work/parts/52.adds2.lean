/-! THE CALLS that add a thing or a right, and others. -/
theorem po_thing {d L : Nat} {b : Bool} {I : Nat → Nat → Int32} {J : Nat → Nat → Int64} {X : Nat → Int32} {x1 x2 x3 : Int32} (hI : pm_inv X b I J) : pm_wc pm_code pm_meta (d + 20) 122 [.ref 8, .int x1, .int x2, .int x3] (pm_Gb L b, I, J) (fun v _ H => pm_wc pm_code pm_meta (d + 20) 200 [.ref 79, .int x1, .int x2, .int x3] H (pm_ok X L b v)) := by
  have hI0 := hI
  obtain ⟨⟨htod, hroa, hper, hhou, hthi, hrig, hver, hsea, hsta, hlot, hbuy, hdee, hple⟩, htxt, hrid, htmp, hshe, hshf, htra, hk, hkept, hcon⟩ := hI
  have hn1 := (per_n hper).1
  have hn2 := (hou_n hhou).1
  have hn3 := (thi_n hthi).1
  have hn4 := (rig_n hrig).1
  simp only [pb_122_0, pb_122_11, pb_122_33, pb_122_14, pb_122_20, pb_122_23, pb_122_30, pb_122_35, pb_122_43, pb_122_49, pb_122_46, pb_122_59, pb_122_65, pb_122_62, pb_122_75, pb_122_91, pb_122_105, pb_122_119, pb_122_133, px_isDay, px_isPlace, px_isWithin, px_has_hou hhou, px_hou_0 hhou, px_hou_1 hhou, px_hou_2 hhou, px_hou_3 hhou, px_hou_4 hhou, px_hou_5 hhou, px_hou_6 hhou, px_hou_7 hhou, px_hou_8 hhou, px_hou_9 hhou, pt_full_16, px_hasFallen hhou, htod.1, hper.1.2, hhou.1.2, hthi.1.2, hrig.1.2, hver.1.2.1, hsta.1.2, hlot.1.2, hbuy.1.2, hdee.1.2, hper.1.1, hhou.1.1, hthi.1.1, hrig.1.1, hver.1.1, hver.1.2.2.1, hver.1.2.2.2, hsea.1.1, hroa.1.1, hsta.1.1, hlot.1.1, hbuy.1.1, hdee.1.1, ti_inc, pm_u_row, pm_zr_row, pm_r_row, pm_w_at, Nat.reduceEqDiff, Nat.reduceLT, ite_true, ite_false, if_true, if_false, ite_self, Int32.reduceLE, Int32.reduceLT, pi_lt0, pm_b_eq0, pm_b_eq1, ite_not, pm_k0, pm_k1, pm_b_fit, true_and, and_true, not_true_eq_false, not_false_eq_true, ite_true, ite_false, if_true, if_false]
  repeat' (split; all_goals (try simp only [pm_at_in, pm_no_eq, *]))
  all_goals try (
    simp only [pb_200_0, pb_200_5, pb_200_27, pb_200_8, pb_200_14, pb_200_17, pb_200_24, pb_200_29, pb_200_34, pb_200_40, pb_200_37, pb_200_51, pb_200_54, pr_isDay, pr_isPlace, pr_in, pr_isPerson, pr_isHouse, pr_isThing, pr_isRight, thi_in2 hthi, thi_eq hthi, hou_in hhou, pr_hasFallen, pm_at_in, pm_no_eq, pm_u_row, pm_zr_row, pm_r_row, pm_w_at, Nat.reduceEqDiff, Nat.reduceLT, ite_true, ite_false, if_true, if_false, ite_self, Int32.reduceLE, Int32.reduceLT, pi_lt0, pm_b_eq0, pm_b_eq1, ite_not, pm_k0, pm_k1, pm_b_fit, true_and, and_true, not_true_eq_false, not_false_eq_true, ite_true, ite_false, if_true, if_false, pm_inc_sub, *]
    done)
  all_goals try (
    simp only [pb_200_0, pb_200_5, pb_200_27, pb_200_8, pb_200_14, pb_200_17, pb_200_24, pb_200_29, pb_200_34, pb_200_40, pb_200_37, pb_200_51, pb_200_54, pr_isDay, pr_isPlace, pr_in, pr_isPerson, pr_isHouse, pr_isThing, pr_isRight, thi_in2 hthi, thi_eq hthi, hou_in hhou, pr_hasFallen, pm_at_in, pm_no_eq, pm_u_row, pm_zr_row, pm_r_row, pm_w_at, Nat.reduceEqDiff, Nat.reduceLT, ite_true, ite_false, if_true, if_false, ite_self, Int32.reduceLE, Int32.reduceLT, pi_lt0, pm_b_eq0, pm_b_eq1, ite_not, pm_k0, pm_k1, pm_b_fit, true_and, and_true, not_true_eq_false, not_false_eq_true, ite_true, ite_false, if_true, if_false, pm_inc_sub, *]
    exact pm_okJ hI0)
  all_goals (
    have h3 := Int32.not_le.mp (by assumption : ¬ 24 ≤ I 80 3)
    have h4 := pi_inc (pi_ltb h3 (by decide : (24 : Int32) ≤ 100000))
    simp only [pb_122_0, pb_122_11, pb_122_33, pb_122_14, pb_122_20, pb_122_23, pb_122_30, pb_122_35, pb_122_43, pb_122_49, pb_122_46, pb_122_59, pb_122_65, pb_122_62, pb_122_75, pb_122_91, pb_122_105, pb_122_119, pb_122_133, px_isDay, px_isPlace, px_isWithin, pt_full_16, pt_set_16_0, pt_set_16_1, pt_set_16_2, pt_set_16_3, pt_set_16_4, pt_add_16, htod.1, hper.1.2, hhou.1.2, hthi.1.2, hrig.1.2, hver.1.2.1, hsta.1.2, hlot.1.2, hbuy.1.2, hdee.1.2, hper.1.1, hhou.1.1, hthi.1.1, hrig.1.1, hver.1.1, hver.1.2.2.1, hver.1.2.2.2, hsea.1.1, hroa.1.1, hsta.1.1, hlot.1.1, hbuy.1.1, hdee.1.1, ti_inc, pm_u_row, pm_zr_row, pm_r_row, pm_w_at, Nat.reduceEqDiff, Nat.reduceLT, ite_true, ite_false, if_true, if_false, ite_self, Int32.reduceLE, Int32.reduceLT, pi_lt0, pm_b_eq0, pm_b_eq1, ite_not, pm_k0, pm_k1, pm_b_fit, true_and, and_true, not_true_eq_false, not_false_eq_true, ite_true, ite_false, if_true, if_false, h3, h4, hn1, hn2, hn3, hn4, (thi_n hthi).1, Int32.reduceLT, and_self]
    simp only [pb_200_0, pb_200_5, pb_200_27, pb_200_8, pb_200_14, pb_200_17, pb_200_24, pb_200_29, pb_200_34, pb_200_40, pb_200_37, pb_200_51, pb_200_54, pr_isDay, pr_isPlace, pr_in, pr_isPerson, pr_isHouse, pr_isThing, pr_isRight, thi_in2 hthi, thi_eq hthi, hou_in hhou, pr_hasFallen, pm_at_in, pm_no_eq, pm_u_row, pm_zr_row, pm_r_row, pm_w_at, Nat.reduceEqDiff, Nat.reduceLT, ite_true, ite_false, if_true, if_false, ite_self, Int32.reduceLE, Int32.reduceLT, pi_lt0, pm_b_eq0, pm_b_eq1, ite_not, pm_k0, pm_k1, pm_b_fit, true_and, and_true, not_true_eq_false, not_false_eq_true, ite_true, ite_false, if_true, if_false, pm_inc_sub, *]
    refine pm_okJ ?_
    simp only [pm_inv, pm_land, pm_u_row, pm_zr_row, pm_w_at, Nat.reduceEqDiff, ite_true, ite_false, pm_kept_u, pm_kept_z, pm_kept_r, pm_r_row, ne_eq, not_false_eq_true, Nat.reduceLT, hcon, htod, hroa, hper, hhou, hthi, hrig, hver, hsea, hsta, hlot, hbuy, hdee, hple, htxt, hrid, htmp, hshe, hshf, htra, hk, hkept, true_and, and_true]
    exact ⟨thi_add hthi h3 ‹0 ≤ x1 ∧ x1 < I 80 2›.1 ‹0 ≤ x1 ∧ x1 < I 80 2›.2 ‹0 ≤ x2 ∧ x2 ≤ 3›.1 ‹0 ≤ x2 ∧ x2 ≤ 3›.2, rig_mono hrig (Int32.le_refl _) (Int32.le_refl _) (Int32.le_of_lt h4), ple_thing hple hn3 h3 ‹1 ≤ x3 ∧ x3 ≤ 99›.1 ‹1 ≤ x3 ∧ x3 ≤ 99›.2⟩)
theorem po_clear {d L : Nat} {b : Bool} {I : Nat → Nat → Int32} {J : Nat → Nat → Int64} {X : Nat → Int32} (hI : pm_inv X b I J) : pm_wc pm_code pm_meta (d + 20) 157 [.ref 8] (pm_Gb L b, I, J) (fun v _ H => pm_wc pm_code pm_meta (d + 20) 272 [.ref 79] H (pm_ok X L b v)) := by
  have hI0 := hI
  obtain ⟨⟨htod, hroa, hper, hhou, hthi, hrig, hver, hsea, hsta, hlot, hbuy, hdee, hple⟩, htxt, hrid, htmp, hshe, hshf, htra, hk, hkept, hcon⟩ := hI
  have hn1 := (per_n hper).1
  have hn2 := (hou_n hhou).1
  have hn3 := (thi_n hthi).1
  have hn4 := (rig_n hrig).1
  simp only [pb_157_0, pb_157_33, pb_157_44, px_isDay, px_isPlace, px_isWithin, pt_cut_30, pt_cut_32, htod.1, hper.1.2, hhou.1.2, hthi.1.2, hrig.1.2, hver.1.2.1, hsta.1.2, hlot.1.2, hbuy.1.2, hdee.1.2, hper.1.1, hhou.1.1, hthi.1.1, hrig.1.1, hver.1.1, hver.1.2.2.1, hver.1.2.2.2, hsea.1.1, hroa.1.1, hsta.1.1, hlot.1.1, hbuy.1.1, hdee.1.1, ti_inc, pm_u_row, pm_zr_row, pm_r_row, pm_w_at, Nat.reduceEqDiff, Nat.reduceLT, ite_true, ite_false, if_true, if_false, ite_self, Int32.reduceLE, Int32.reduceLT, pi_lt0, pm_b_eq0, pm_b_eq1, ite_not, pm_k0, pm_k1, pm_b_fit, true_and, and_true, not_true_eq_false, not_false_eq_true, ite_true, ite_false, if_true, if_false]
  have e7 : I 80 7 = 0 ∨ 0 < I 80 7 := by have := (lot_n hlot).1; grind
  have e8 : I 80 8 = 0 ∨ 0 < I 80 8 := by have := (buy_n hbuy).1; grind
  try simp only [Int32.le_refl, true_and]
  have t7 : pg_lot (pm_w (I 30) 3 0) (I 31) 0 (I 128) := ⟨⟨pm_ti_w hlot.1.1 (by decide) (by decide), rfl⟩, fun k hk => absurd hk (by simp)⟩
  have t8 : pg_buy (pm_w (I 32) 3 0) (I 33) 0 (I 129) := ⟨⟨pm_ti_w hbuy.1.1 (by decide) (by decide), rfl⟩, fun k hk => absurd hk (by simp)⟩
  have u7 : I 80 7 = 0 → pg_lot (I 30) (I 31) 0 (I 128) := fun e => by rw [e] at hlot; exact hlot
  have u8 : I 80 8 = 0 → pg_buy (I 32) (I 33) 0 (I 129) := fun e => by rw [e] at hbuy; exact hbuy
  by_cases f7 : 0 < I 80 7 <;> by_cases f8 : 0 < I 80 8 <;> simp only [f7, f8, ite_true, ite_false, pm_u_row, pm_zr_row, pm_r_row, pm_w_at, Nat.reduceEqDiff, Nat.reduceLT, ite_true, ite_false, if_true, if_false, ite_self, pb_272_0, htod.1, hper.1.2, hhou.1.2, hthi.1.2, hrig.1.2, hver.1.2.1, hsta.1.2, hlot.1.2, hbuy.1.2, hdee.1.2, Int32.reduceLE, Int32.reduceLT, pi_lt0, pm_b_eq0, pm_b_eq1, ite_not, pm_k0, pm_k1, pm_b_fit, true_and, and_true, not_true_eq_false, not_false_eq_true, ite_true, ite_false, if_true, if_false, if_true, if_false] <;> (
    refine pm_okI2 (by with_reducible rfl) ?_
    simp only [pm_inv, pm_land, pm_u_row, pm_zr_row, pm_w_at, Nat.reduceEqDiff, ite_true, ite_false, pm_kept_u, pm_kept_z, pm_kept_r, pm_r_row, ne_eq, not_false_eq_true, Nat.reduceLT, hcon, htod, hroa, hper, hhou, hthi, hrig, hver, hsea, hsta, hlot, hbuy, hdee, hple, htxt, hrid, htmp, hshe, hshf, htra, hk, hkept, true_and, and_true]
    first
    | exact ⟨t7, t8⟩
    | exact ⟨t7, u8 (e8.resolve_right f8)⟩
    | exact ⟨u7 (e7.resolve_right f7), t8⟩
    | exact ⟨u7 (e7.resolve_right f7), u8 (e8.resolve_right f8)⟩)

