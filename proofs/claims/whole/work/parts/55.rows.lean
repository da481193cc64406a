/-! THE ROWS of the ride, lots and others. -/
theorem pr_isCell {d L : Nat} {b : Bool} {I : Nat → Nat → Int32} {J : Nat → Nat → Int64} {x y : Int32} {Q : Int32 → Int64 → pm_H → Prop} (h : 0 ≤ I 79 85) : pm_wc pm_code pm_meta (d + 1) 265 [.ref 79, .int x, .int y] (pm_Gb L b, I, J) Q ↔ Q (pm_b ((0 ≤ x ∧ x < I 79 85) ∧ 0 ≤ y ∧ y ≤ 1)) 0 (pm_Gb L b, I, J) := by
  simp only [pb_265_0, pb_265_11, pb_265_27, pb_265_14, pb_265_28, pb_265_20, pb_265_23, pr_in, Int32.reduceLE, Int32.reduceLT, pi_lt0, pm_b_eq0, pm_b_eq1, ite_not, pm_k0, pm_k1, pm_b_fit, true_and, and_true, not_true_eq_false, not_false_eq_true, ite_true, ite_false, if_true, if_false, pr_isPersons h]
  by_cases h1 : 0 ≤ x ∧ x < I 79 85 <;> by_cases h2 : 0 ≤ y ∧ y ≤ 1 <;> simp [h1, h2, pm_b]
section RID
theorem rid_n {t49 c50 t51 c52 t53 t55 : Nat → Int32} {has rode rows : Int32} {a b c d : Nat → Int32} (h : pg_rid t49 c50 t51 c52 t53 t55 has rode rows a b c d) : 0 ≤ rows ∧ rows ≤ 7 ∧ 0 ≤ rode ∧ rode ≤ 7 := by
  obtain ⟨⟨⟨_, _, a1, a2⟩, ⟨_, _, b1, b2⟩, _⟩, rfl, rfl, _⟩ := h
  exact ⟨a1, a2, b1, b2⟩
theorem rid_in {n x : Int32} (h : n ≤ 7) (h0 : 0 ≤ x) (h1 : x < n) : pm_in x 8 = true := by
  rw [pi_lt] at h1; rw [pi_le] at h
  exact pi_in h0 (by have e : (7 : Int32).toInt = 7 := rfl; omega)
theorem rid_0 {t49 c50 t51 c52 t53 t55 : Nat → Int32} {has rode rows : Int32} {a b c d : Nat → Int32} (h : pg_rid t49 c50 t51 c52 t53 t55 has rode rows a b c d) {x : Int32} (h0 : 0 ≤ x) (h1 : x < rows) : c50 (2 * x.toNatClampNeg + 0) = c x.toNatClampNeg := (h.2.2.2.2.2.1 _ (pi_tnlt h0 h1)).1
theorem rid_1 {t49 c50 t51 c52 t53 t55 : Nat → Int32} {has rode rows : Int32} {a b c d : Nat → Int32} (h : pg_rid t49 c50 t51 c52 t53 t55 has rode rows a b c d) {x : Int32} (h0 : 0 ≤ x) (h1 : x < rows) : c50 (2 * x.toNatClampNeg + 1) = d x.toNatClampNeg := (h.2.2.2.2.2.1 _ (pi_tnlt h0 h1)).2
theorem rid_set0 {t49 c50 t51 c52 t53 t55 : Nat → Int32} {has rode rows v : Int32} {a b c d : Nat → Int32} {P : Nat} (h : pg_rid t49 c50 t51 c52 t53 t55 has rode rows a b c d) : pg_rid t49 (pm_w c50 (2 * P + 0) v) t51 c52 t53 t55 has rode rows a b (pm_w c P v) d := by
  obtain ⟨h1, h2, h3, h4, h5, h6, h7⟩ := h
  refine ⟨h1, h2, h3, h4, h5, fun i hi => ?_, h7⟩
  have h9 := h6 i hi
  by_cases hk2 : i = P
  · subst hk2
    simp (disch := omega) only [pm_w_self, pm_w_ne]
    exact ⟨trivial, h9.2⟩
  · simp (disch := omega) only [pm_w_ne]
    exact h9
theorem rid_set1 {t49 c50 t51 c52 t53 t55 : Nat → Int32} {has rode rows v : Int32} {a b c d : Nat → Int32} {P : Nat} (h : pg_rid t49 c50 t51 c52 t53 t55 has rode rows a b c d) : pg_rid t49 (pm_w c50 (2 * P + 1) v) t51 c52 t53 t55 has rode rows a b c (pm_w d P v) := by
  obtain ⟨h1, h2, h3, h4, h5, h6, h7⟩ := h
  refine ⟨h1, h2, h3, h4, h5, fun i hi => ?_, h7⟩
  have h9 := h6 i hi
  by_cases hk2 : i = P
  · subst hk2
    simp (disch := omega) only [pm_w_self, pm_w_ne]
    exact ⟨h9.1, trivial⟩
  · simp (disch := omega) only [pm_w_ne]
    exact h9
theorem rid_cut {t49 c50 t51 c52 t53 t55 : Nat → Int32} {has rode rows v : Int32} {a b c d : Nat → Int32} (h : pg_rid t49 c50 t51 c52 t53 t55 has rode rows a b c d) (h0 : 0 ≤ v) (hv : v < rows) : pg_rid (pm_w t49 3 v) c50 t51 c52 t53 t55 has rode v a b c d := by
  have hn := rid_n h
  obtain ⟨h1, h2, h3, h4, h5, h6, h7⟩ := h
  have e1 : v ≤ 7 := by grind
  have e2 : v ≤ rode := by grind
  refine ⟨⟨pm_ti_w h1.1 h0 e1, h1.2⟩, by rw [pm_w_at, if_pos rfl], h3, e2, h5, fun i hi => h6 i (Nat.lt_trans hi (pi_tnlt h0 hv)), h7⟩
end RID
theorem po_row {d L : Nat} {b : Bool} {I : Nat → Nat → Int32} {J : Nat → Nat → Int64} {X : Nat → Int32} {x1 x2 : Int32} (hI : pm_inv X b I J) : pm_wc pm_code pm_meta (d + 20) 151 [.ref 8, .int x1, .int x2] (pm_Gb L b, I, J) (fun v _ H => pm_wc pm_code pm_meta (d + 20) 266 [.ref 79, .int x1, .int x2] H (pm_ok X L b v)) := by
  have hI0 := hI
  obtain ⟨⟨htod, hroa, hper, hhou, hthi, hrig, hver, hsea, hsta, hlot, hbuy, hdee, hple⟩, htxt, hrid, htmp, hshe, hshf, htra, hk, hkept, hcon⟩ := hI
  have hn1 := (per_n hper).1
  have hn2 := (hou_n hhou).1
  have hn3 := (thi_n hthi).1
  have hn4 := (rig_n hrig).1
  obtain ⟨rn1, rn2, rn3, rn4⟩ := rid_n hrid
  have tr1 := hrid.1.1
  have cr1 := hrid.2.1
  by_cases hw : 0 ≤ x2 ∧ x2 ≤ 1
  rcases pi_cs2 hw with rfl | rfl
  · simp only [pb_151_0, pb_151_11, pb_151_23, pb_151_14, pb_151_20, pb_151_26, pb_151_38, px_isDay, px_isPlace, px_isWithin, pt_has_49, pt_get_49_0 tr1, pt_get_49_1 tr1, pt_set_49_0 tr1, pt_set_49_1 tr1, cr1, pl_0_1, pl_0_2, pl_0_3, pl_0_4, pl_0_5, pl_0_6, pl_0_7, pl_0_8, pl_0_9, pl_0_10, pl_0_11, pl_0_12, pl_0_13, pl_0_14, pl_0_15, pl_0_20, htod.1, hper.1.2, hhou.1.2, hthi.1.2, hrig.1.2, hver.1.2.1, hsta.1.2, hlot.1.2, hbuy.1.2, hdee.1.2, hper.1.1, hhou.1.1, hthi.1.1, hrig.1.1, hver.1.1, hver.1.2.2.1, hver.1.2.2.2, hsea.1.1, hroa.1.1, hsta.1.1, hlot.1.1, hbuy.1.1, hdee.1.1, ti_inc, pm_u_row, pm_zr_row, pm_r_row, pm_w_at, Nat.reduceEqDiff, Nat.reduceLT, ite_true, ite_false, if_true, if_false, ite_self, Int32.reduceLE, Int32.reduceLT, pi_lt0, pm_b_eq0, pm_b_eq1, ite_not, pm_k0, pm_k1, pm_b_fit, true_and, and_true, not_true_eq_false, not_false_eq_true, ite_true, ite_false, if_true, if_false]
    repeat' ((first | with_reducible refine pm_ite_eq (fun _ => ?_) (fun _ => ?_) | with_reducible refine pm_ite_intro (fun _ => ?_) (fun _ => ?_)); all_goals (try simp only [rid_0 hrid, rid_1 hrid, Int32.reduceLE, Int32.reduceLT, pi_lt0, pm_b_eq0, pm_b_eq1, ite_not, pm_k0, pm_k1, pm_b_fit, true_and, and_true, not_true_eq_false, not_false_eq_true, ite_true, ite_false, if_true, if_false, *]))
    all_goals simp only [pb_266_0, pb_266_6, pb_266_9, pb_266_14, pb_266_33, pb_266_18, pb_266_27, pr_isCell, rid_in rn2, pl_0_1, pl_0_2, pl_0_3, pl_0_4, pl_0_5, pl_0_6, pl_0_7, pl_0_8, pl_0_9, pl_0_10, pl_0_11, pl_0_12, pl_0_13, pl_0_14, pl_0_15, pl_0_20, pm_u_row, pm_zr_row, pm_r_row, pm_w_at, Nat.reduceEqDiff, Nat.reduceLT, ite_true, ite_false, if_true, if_false, ite_self, Int32.reduceLE, Int32.reduceLT, pi_lt0, pm_b_eq0, pm_b_eq1, ite_not, pm_k0, pm_k1, pm_b_fit, true_and, and_true, not_true_eq_false, not_false_eq_true, ite_true, ite_false, if_true, if_false, and_self, *]
    all_goals first
    | with_reducible exact pm_okJ hI0
    | (refine pm_okI2 (by with_reducible rfl) ?_
       simp only [pm_inv, pm_land, pm_u_row, pm_zr_row, pm_w_at, Nat.reduceEqDiff, ite_true, ite_false, pm_kept_u, pm_kept_z, pm_kept_r, pm_r_row, ne_eq, not_false_eq_true, Nat.reduceLT, hcon, htod, hroa, hper, hhou, hthi, hrig, hver, hsea, hsta, hlot, hbuy, hdee, hple, htxt, hrid, htmp, hshe, hshf, htra, hk, hkept, true_and, and_true]
       with_reducible exact rid_set0 hrid)
  · simp only [pb_151_0, pb_151_11, pb_151_23, pb_151_14, pb_151_20, pb_151_26, pb_151_38, px_isDay, px_isPlace, px_isWithin, pt_has_49, pt_get_49_0 tr1, pt_get_49_1 tr1, pt_set_49_0 tr1, pt_set_49_1 tr1, cr1, pl_1_0, pl_1_2, pl_1_3, pl_1_4, pl_1_5, pl_1_6, pl_1_7, pl_1_8, pl_1_9, pl_1_10, pl_1_11, pl_1_12, pl_1_13, pl_1_14, pl_1_15, pl_1_20, htod.1, hper.1.2, hhou.1.2, hthi.1.2, hrig.1.2, hver.1.2.1, hsta.1.2, hlot.1.2, hbuy.1.2, hdee.1.2, hper.1.1, hhou.1.1, hthi.1.1, hrig.1.1, hver.1.1, hver.1.2.2.1, hver.1.2.2.2, hsea.1.1, hroa.1.1, hsta.1.1, hlot.1.1, hbuy.1.1, hdee.1.1, ti_inc, pm_u_row, pm_zr_row, pm_r_row, pm_w_at, Nat.reduceEqDiff, Nat.reduceLT, ite_true, ite_false, if_true, if_false, ite_self, Int32.reduceLE, Int32.reduceLT, pi_lt0, pm_b_eq0, pm_b_eq1, ite_not, pm_k0, pm_k1, pm_b_fit, true_and, and_true, not_true_eq_false, not_false_eq_true, ite_true, ite_false, if_true, if_false]
    repeat' ((first | with_reducible refine pm_ite_eq (fun _ => ?_) (fun _ => ?_) | with_reducible refine pm_ite_intro (fun _ => ?_) (fun _ => ?_)); all_goals (try simp only [rid_0 hrid, rid_1 hrid, Int32.reduceLE, Int32.reduceLT, pi_lt0, pm_b_eq0, pm_b_eq1, ite_not, pm_k0, pm_k1, pm_b_fit, true_and, and_true, not_true_eq_false, not_false_eq_true, ite_true, ite_false, if_true, if_false, *]))
    all_goals simp only [pb_266_0, pb_266_6, pb_266_9, pb_266_14, pb_266_33, pb_266_18, pb_266_27, pr_isCell, rid_in rn2, pl_1_0, pl_1_2, pl_1_3, pl_1_4, pl_1_5, pl_1_6, pl_1_7, pl_1_8, pl_1_9, pl_1_10, pl_1_11, pl_1_12, pl_1_13, pl_1_14, pl_1_15, pl_1_20, pm_u_row, pm_zr_row, pm_r_row, pm_w_at, Nat.reduceEqDiff, Nat.reduceLT, ite_true, ite_false, if_true, if_false, ite_self, Int32.reduceLE, Int32.reduceLT, pi_lt0, pm_b_eq0, pm_b_eq1, ite_not, pm_k0, pm_k1, pm_b_fit, true_and, and_true, not_true_eq_false, not_false_eq_true, ite_true, ite_false, if_true, if_false, and_self, *]
    all_goals first
    | with_reducible exact pm_okJ hI0
    | (refine pm_okI2 (by with_reducible rfl) ?_
       simp only [pm_inv, pm_land, pm_u_row, pm_zr_row, pm_w_at, Nat.reduceEqDiff, ite_true, ite_false, pm_kept_u, pm_kept_z, pm_kept_r, pm_r_row, ne_eq, not_false_eq_true, Nat.reduceLT, hcon, htod, hroa, hper, hhou, hthi, hrig, hver, hsea, hsta, hlot, hbuy, hdee, hple, htxt, hrid, htmp, hshe, hshf, htra, hk, hkept, true_and, and_true]
       with_reducible exact rid_set1 hrid)
  simp only [pb_151_0, pb_151_11, pb_151_23, pb_151_14, pb_151_20, pb_151_26, pb_151_38, px_isDay, px_isPlace, px_isWithin, pt_has_49, cr1, htod.1, hper.1.2, hhou.1.2, hthi.1.2, hrig.1.2, hver.1.2.1, hsta.1.2, hlot.1.2, hbuy.1.2, hdee.1.2, hper.1.1, hhou.1.1, hthi.1.1, hrig.1.1, hver.1.1, hver.1.2.2.1, hver.1.2.2.2, hsea.1.1, hroa.1.1, hsta.1.1, hlot.1.1, hbuy.1.1, hdee.1.1, ti_inc, pm_u_row, pm_zr_row, pm_r_row, pm_w_at, Nat.reduceEqDiff, Nat.reduceLT, ite_true, ite_false, if_true, if_false, ite_self, Int32.reduceLE, Int32.reduceLT, pi_lt0, pm_b_eq0, pm_b_eq1, ite_not, pm_k0, pm_k1, pm_b_fit, true_and, and_true, not_true_eq_false, not_false_eq_true, ite_true, ite_false, if_true, if_false, *]
  repeat' ((first | with_reducible refine pm_ite_eq (fun _ => ?_) (fun _ => ?_) | with_reducible refine pm_ite_intro (fun _ => ?_) (fun _ => ?_)); all_goals (try simp only [Int32.reduceLE, Int32.reduceLT, pi_lt0, pm_b_eq0, pm_b_eq1, ite_not, pm_k0, pm_k1, pm_b_fit, true_and, and_true, not_true_eq_false, not_false_eq_true, ite_true, ite_false, if_true, if_false, *]))
  all_goals simp only [pb_266_0, pb_266_6, pb_266_9, pb_266_14, pb_266_33, pb_266_18, pb_266_27, pr_isCell, pm_u_row, pm_zr_row, pm_r_row, pm_w_at, Nat.reduceEqDiff, Nat.reduceLT, ite_true, ite_false, if_true, if_false, ite_self, Int32.reduceLE, Int32.reduceLT, pi_lt0, pm_b_eq0, pm_b_eq1, ite_not, pm_k0, pm_k1, pm_b_fit, true_and, and_true, not_true_eq_false, not_false_eq_true, ite_true, ite_false, if_true, if_false, and_false, false_and, *]
  all_goals with_reducible exact pm_okJ hI0
theorem po_alterRow {d L : Nat} {b : Bool} {I : Nat → Nat → Int32} {J : Nat → Nat → Int64} {X : Nat → Int32} {x1 x2 x3 : Int32} (hI : pm_inv X b I J) : pm_wc pm_code pm_meta (d + 20) 152 [.ref 8, .int x1, .int x2, .int x3] (pm_Gb L b, I, J) (fun v _ H => pm_wc pm_code pm_meta (d + 20) 267 [.ref 79, .int x1, .int x2, .int x3] H (pm_ok X L b v)) := by
  have hI0 := hI
  obtain ⟨⟨htod, hroa, hper, hhou, hthi, hrig, hver, hsea, hsta, hlot, hbuy, hdee, hple⟩, htxt, hrid, htmp, hshe, hshf, htra, hk, hkept, hcon⟩ := hI
  have hn1 := (per_n hper).1
  have hn2 := (hou_n hhou).1
  have hn3 := (thi_n hthi).1
  have hn4 := (rig_n hrig).1
  obtain ⟨rn1, rn2, rn3, rn4⟩ := rid_n hrid
  have tr1 := hrid.1.1
  have cr1 := hrid.2.1
  by_cases hw : 0 ≤ x2 ∧ x2 ≤ 1
  rcases pi_cs2 hw with rfl | rfl
  · simp only [pb_152_0, pb_152_11, pb_152_23, pb_152_14, pb_152_20, pb_152_26, pb_152_38, pb_152_53, px_isDay, px_isPlace, px_isWithin, pt_has_49, pt_get_49_0 tr1, pt_get_49_1 tr1, pt_set_49_0 tr1, pt_set_49_1 tr1, cr1, pl_0_1, pl_0_2, pl_0_3, pl_0_4, pl_0_5, pl_0_6, pl_0_7, pl_0_8, pl_0_9, pl_0_10, pl_0_11, pl_0_12, pl_0_13, pl_0_14, pl_0_15, pl_0_20, htod.1, hper.1.2, hhou.1.2, hthi.1.2, hrig.1.2, hver.1.2.1, hsta.1.2, hlot.1.2, hbuy.1.2, hdee.1.2, hper.1.1, hhou.1.1, hthi.1.1, hrig.1.1, hver.1.1, hver.1.2.2.1, hver.1.2.2.2, hsea.1.1, hroa.1.1, hsta.1.1, hlot.1.1, hbuy.1.1, hdee.1.1, ti_inc, pm_u_row, pm_zr_row, pm_r_row, pm_w_at, Nat.reduceEqDiff, Nat.reduceLT, ite_true, ite_false, if_true, if_false, ite_self, Int32.reduceLE, Int32.reduceLT, pi_lt0, pm_b_eq0, pm_b_eq1, ite_not, pm_k0, pm_k1, pm_b_fit, true_and, and_true, not_true_eq_false, not_false_eq_true, ite_true, ite_false, if_true, if_false]
    repeat' ((first | with_reducible refine pm_ite_eq (fun _ => ?_) (fun _ => ?_) | with_reducible refine pm_ite_intro (fun _ => ?_) (fun _ => ?_)); all_goals (try simp only [rid_0 hrid, rid_1 hrid, Int32.reduceLE, Int32.reduceLT, pi_lt0, pm_b_eq0, pm_b_eq1, ite_not, pm_k0, pm_k1, pm_b_fit, true_and, and_true, not_true_eq_false, not_false_eq_true, ite_true, ite_false, if_true, if_false, *]))
    all_goals simp only [pb_266_0, pb_266_6, pb_266_9, pb_266_14, pb_266_33, pb_266_18, pb_266_27, pb_267_0, pb_267_6, pb_267_9, pb_267_12, pb_267_18, pb_267_24, pb_267_34, pb_267_41, pr_isCell, rid_in rn2, pl_0_1, pl_0_2, pl_0_3, pl_0_4, pl_0_5, pl_0_6, pl_0_7, pl_0_8, pl_0_9, pl_0_10, pl_0_11, pl_0_12, pl_0_13, pl_0_14, pl_0_15, pl_0_20, pm_u_row, pm_zr_row, pm_r_row, pm_w_at, Nat.reduceEqDiff, Nat.reduceLT, ite_true, ite_false, if_true, if_false, ite_self, Int32.reduceLE, Int32.reduceLT, pi_lt0, pm_b_eq0, pm_b_eq1, ite_not, pm_k0, pm_k1, pm_b_fit, true_and, and_true, not_true_eq_false, not_false_eq_true, ite_true, ite_false, if_true, if_false, and_self, *]
    all_goals first
    | with_reducible exact pm_okJ hI0
    | (refine pm_okI2 (by with_reducible rfl) ?_
       simp only [pm_inv, pm_land, pm_u_row, pm_zr_row, pm_w_at, Nat.reduceEqDiff, ite_true, ite_false, pm_kept_u, pm_kept_z, pm_kept_r, pm_r_row, ne_eq, not_false_eq_true, Nat.reduceLT, hcon, htod, hroa, hper, hhou, hthi, hrig, hver, hsea, hsta, hlot, hbuy, hdee, hple, htxt, hrid, htmp, hshe, hshf, htra, hk, hkept, true_and, and_true]
       with_reducible exact rid_set0 hrid)
  · simp only [pb_152_0, pb_152_11, pb_152_23, pb_152_14, pb_152_20, pb_152_26, pb_152_38, pb_152_53, px_isDay, px_isPlace, px_isWithin, pt_has_49, pt_get_49_0 tr1, pt_get_49_1 tr1, pt_set_49_0 tr1, pt_set_49_1 tr1, cr1, pl_1_0, pl_1_2, pl_1_3, pl_1_4, pl_1_5, pl_1_6, pl_1_7, pl_1_8, pl_1_9, pl_1_10, pl_1_11, pl_1_12, pl_1_13, pl_1_14, pl_1_15, pl_1_20, htod.1, hper.1.2, hhou.1.2, hthi.1.2, hrig.1.2, hver.1.2.1, hsta.1.2, hlot.1.2, hbuy.1.2, hdee.1.2, hper.1.1, hhou.1.1, hthi.1.1, hrig.1.1, hver.1.1, hver.1.2.2.1, hver.1.2.2.2, hsea.1.1, hroa.1.1, hsta.1.1, hlot.1.1, hbuy.1.1, hdee.1.1, ti_inc, pm_u_row, pm_zr_row, pm_r_row, pm_w_at, Nat.reduceEqDiff, Nat.reduceLT, ite_true, ite_false, if_true, if_false, ite_self, Int32.reduceLE, Int32.reduceLT, pi_lt0, pm_b_eq0, pm_b_eq1, ite_not, pm_k0, pm_k1, pm_b_fit, true_and, and_true, not_true_eq_false, not_false_eq_true, ite_true, ite_false, if_true, if_false]
    repeat' ((first | with_reducible refine pm_ite_eq (fun _ => ?_) (fun _ => ?_) | with_reducible refine pm_ite_intro (fun _ => ?_) (fun _ => ?_)); all_goals (try simp only [rid_0 hrid, rid_1 hrid, Int32.reduceLE, Int32.reduceLT, pi_lt0, pm_b_eq0, pm_b_eq1, ite_not, pm_k0, pm_k1, pm_b_fit, true_and, and_true, not_true_eq_false, not_false_eq_true, ite_true, ite_false, if_true, if_false, *]))
    all_goals simp only [pb_266_0, pb_266_6, pb_266_9, pb_266_14, pb_266_33, pb_266_18, pb_266_27, pb_267_0, pb_267_6, pb_267_9, pb_267_12, pb_267_18, pb_267_24, pb_267_34, pb_267_41, pr_isCell, rid_in rn2, pl_1_0, pl_1_2, pl_1_3, pl_1_4, pl_1_5, pl_1_6, pl_1_7, pl_1_8, pl_1_9, pl_1_10, pl_1_11, pl_1_12, pl_1_13, pl_1_14, pl_1_15, pl_1_20, pm_u_row, pm_zr_row, pm_r_row, pm_w_at, Nat.reduceEqDiff, Nat.reduceLT, ite_true, ite_false, if_true, if_false, ite_self, Int32.reduceLE, Int32.reduceLT, pi_lt0, pm_b_eq0, pm_b_eq1, ite_not, pm_k0, pm_k1, pm_b_fit, true_and, and_true, not_true_eq_false, not_false_eq_true, ite_true, ite_false, if_true, if_false, and_self, *]
    all_goals first
    | with_reducible exact pm_okJ hI0
    | (refine pm_okI2 (by with_reducible rfl) ?_
       simp only [pm_inv, pm_land, pm_u_row, pm_zr_row, pm_w_at, Nat.reduceEqDiff, ite_true, ite_false, pm_kept_u, pm_kept_z, pm_kept_r, pm_r_row, ne_eq, not_false_eq_true, Nat.reduceLT, hcon, htod, hroa, hper, hhou, hthi, hrig, hver, hsea, hsta, hlot, hbuy, hdee, hple, htxt, hrid, htmp, hshe, hshf, htra, hk, hkept, true_and, and_true]
       with_reducible exact rid_set1 hrid)
  simp only [pb_152_0, pb_152_11, pb_152_23, pb_152_14, pb_152_20, pb_152_26, pb_152_38, pb_152_53, px_isDay, px_isPlace, px_isWithin, pt_has_49, cr1, htod.1, hper.1.2, hhou.1.2, hthi.1.2, hrig.1.2, hver.1.2.1, hsta.1.2, hlot.1.2, hbuy.1.2, hdee.1.2, hper.1.1, hhou.1.1, hthi.1.1, hrig.1.1, hver.1.1, hver.1.2.2.1, hver.1.2.2.2, hsea.1.1, hroa.1.1, hsta.1.1, hlot.1.1, hbuy.1.1, hdee.1.1, ti_inc, pm_u_row, pm_zr_row, pm_r_row, pm_w_at, Nat.reduceEqDiff, Nat.reduceLT, ite_true, ite_false, if_true, if_false, ite_self, Int32.reduceLE, Int32.reduceLT, pi_lt0, pm_b_eq0, pm_b_eq1, ite_not, pm_k0, pm_k1, pm_b_fit, true_and, and_true, not_true_eq_false, not_false_eq_true, ite_true, ite_false, if_true, if_false, *]
  repeat' ((first | with_reducible refine pm_ite_eq (fun _ => ?_) (fun _ => ?_) | with_reducible refine pm_ite_intro (fun _ => ?_) (fun _ => ?_)); all_goals (try simp only [Int32.reduceLE, Int32.reduceLT, pi_lt0, pm_b_eq0, pm_b_eq1, ite_not, pm_k0, pm_k1, pm_b_fit, true_and, and_true, not_true_eq_false, not_false_eq_true, ite_true, ite_false, if_true, if_false, *]))
  all_goals simp only [pb_267_0, pb_267_6, pb_267_9, pb_267_12, pb_267_18, pb_267_24, pb_267_34, pb_267_41, pr_isCell, pm_u_row, pm_zr_row, pm_r_row, pm_w_at, Nat.reduceEqDiff, Nat.reduceLT, ite_true, ite_false, if_true, if_false, ite_self, Int32.reduceLE, Int32.reduceLT, pi_lt0, pm_b_eq0, pm_b_eq1, ite_not, pm_k0, pm_k1, pm_b_fit, true_and, and_true, not_true_eq_false, not_false_eq_true, ite_true, ite_false, if_true, if_false, and_false, false_and, *]
  all_goals with_reducible exact pm_okJ hI0
theorem po_dropRow {d L : Nat} {b : Bool} {I : Nat → Nat → Int32} {J : Nat → Nat → Int64} {X : Nat → Int32} (hI : pm_inv X b I J) : pm_wc pm_code pm_meta (d + 20) 153 [.ref 8] (pm_Gb L b, I, J) (fun v _ H => pm_wc pm_code pm_meta (d + 20) 268 [.ref 79] H (pm_ok X L b v)) := by
  have hI0 := hI
  obtain ⟨⟨htod, hroa, hper, hhou, hthi, hrig, hver, hsea, hsta, hlot, hbuy, hdee, hple⟩, htxt, hrid, htmp, hshe, hshf, htra, hk, hkept, hcon⟩ := hI
  have hn1 := (per_n hper).1
  have hn2 := (hou_n hhou).1
  have hn3 := (thi_n hthi).1
  have hn4 := (rig_n hrig).1
  obtain ⟨rn1, rn2, rn3, rn4⟩ := rid_n hrid
  have cr1 := hrid.2.1
  simp only [pb_153_0, pb_153_13, pb_153_16, pb_153_38, px_isDay, px_isPlace, px_isWithin, pt_cut_49, cr1, htod.1, hper.1.2, hhou.1.2, hthi.1.2, hrig.1.2, hver.1.2.1, hsta.1.2, hlot.1.2, hbuy.1.2, hdee.1.2, hper.1.1, hhou.1.1, hthi.1.1, hrig.1.1, hver.1.1, hver.1.2.2.1, hver.1.2.2.2, hsea.1.1, hroa.1.1, hsta.1.1, hlot.1.1, hbuy.1.1, hdee.1.1, ti_inc, pm_u_row, pm_zr_row, pm_r_row, pm_w_at, Nat.reduceEqDiff, Nat.reduceLT, ite_true, ite_false, if_true, if_false, ite_self, Int32.reduceLE, Int32.reduceLT, pi_lt0, pm_b_eq0, pm_b_eq1, ite_not, pm_k0, pm_k1, pm_b_fit, true_and, and_true, not_true_eq_false, not_false_eq_true, ite_true, ite_false, if_true, if_false]
  refine pm_ite_eq (fun h => ?_) (fun h => ?_)
  · simp only [pb_268_0, pb_268_7, pb_268_10, pm_u_row, pm_zr_row, pm_r_row, pm_w_at, Nat.reduceEqDiff, Nat.reduceLT, ite_true, ite_false, if_true, if_false, ite_self, Int32.reduceLE, Int32.reduceLT, pi_lt0, pm_b_eq0, pm_b_eq1, ite_not, pm_k0, pm_k1, pm_b_fit, true_and, and_true, not_true_eq_false, not_false_eq_true, ite_true, ite_false, if_true, if_false, *]
    with_reducible exact pm_okJ hI0
  · have e1 : ¬ I 79 85 = 0 := of_eq_false h
    have e2 : 0 ≤ I 79 85 - 1 := by grind
    have e3 : I 79 85 - 1 < I 79 85 := by grind
    simp only [e2, e3, and_self, if_true, pm_u_row, pm_zr_row, pm_r_row, pm_w_at, Nat.reduceEqDiff, Nat.reduceLT, ite_true, ite_false, if_true, if_false, ite_self, pb_268_0, pb_268_7, pb_268_10, pb_153_0, pb_153_13, pb_153_16, pb_153_38, Int32.reduceLE, Int32.reduceLT, pi_lt0, pm_b_eq0, pm_b_eq1, ite_not, pm_k0, pm_k1, pm_b_fit, true_and, and_true, not_true_eq_false, not_false_eq_true, ite_true, ite_false, if_true, if_false, h, cr1]
    refine pm_okI2 (by with_reducible rfl) ?_
    simp only [pm_inv, pm_land, pm_u_row, pm_zr_row, pm_w_at, Nat.reduceEqDiff, ite_true, ite_false, pm_kept_u, pm_kept_z, pm_kept_r, pm_r_row, ne_eq, not_false_eq_true, Nat.reduceLT, hcon, htod, hroa, hper, hhou, hthi, hrig, hver, hsea, hsta, hlot, hbuy, hdee, hple, htxt, hrid, htmp, hshe, hshf, htra, hk, hkept, true_and, and_true]
    with_reducible exact rid_cut hrid e2 e3

