/-! comes. -/
theorem px_thing {d L : Nat} {b : Bool} {I : Nat → Nat → Int32} {J : Nat → Nat → Int64} {X : Nat → Int32} {x y z : Int32} {Q : Int32 → Int64 → pm_H → Prop} (hI : pm_inv X b I J) : pm_wc pm_code pm_meta (d + 20) 122 [.ref 8, .int x, .int y, .int z] (pm_Gb L b, I, J) Q ↔ (if (0 ≤ x ∧ x < I 80 2) ∧ (0 ≤ y ∧ y ≤ 3) ∧ (1 ≤ z ∧ z ≤ 99) then (if 0 ≤ I 88 x.toNatClampNeg then Q (-4) 0 (pm_Gb L b, I, J) else if 24 ≤ I 80 3 then Q (-2) 0 (pm_Gb L b, I, J) else Q (I 80 3) 0 (pm_Gb L b, (pm_u (pm_u (pm_u (pm_u (pm_u (pm_zr I 17 (5 * (I 80 3).toNatClampNeg) (5 * (I 80 3).toNatClampNeg + 5)) 16 3 (I 80 3 + 1)) 17 (5 * (I 80 3).toNatClampNeg + 0) x) 17 (5 * (I 80 3).toNatClampNeg + 1) y) 17 (5 * (I 80 3).toNatClampNeg + 2) z) 17 (5 * (I 80 3).toNatClampNeg + 3) 0), J)) else Q (-1) 0 (pm_Gb L b, I, J)) := by
  have hI0 := hI
  obtain ⟨⟨htod, hroa, hper, hhou, hthi, hrig, hver, hsea, hsta, hlot, hbuy, hdee, hple⟩, htxt, hrid, htmp, hshe, hshf, htra, hk, hkept, hcon⟩ := hI
  have hn1 := (per_n hper).1
  have hn2 := (hou_n hhou).1
  have hn3 := (thi_n hthi).1
  have hn4 := (rig_n hrig).1
  by_cases h1 : 0 ≤ x ∧ x < I 80 2
  · have a1 := h1.1
    have a2 := h1.2
    by_cases h2 : 0 ≤ y ∧ y ≤ 3
    · by_cases h3 : 1 ≤ z ∧ z ≤ 99
      · by_cases hf : 0 ≤ I 88 x.toNatClampNeg
        · simp only [pb_122_0, pb_122_11, pb_122_33, pb_122_14, pb_122_20, pb_122_23, pb_122_30, pb_122_35, pb_122_43, pb_122_49, pb_122_46, pb_122_59, pb_122_65, pb_122_62, pb_122_75, pb_122_91, pb_122_105, pb_122_119, pb_122_133, px_isDay, px_isPlace, px_isWithin, px_has_hou hhou, px_hou_0 hhou, px_hou_1 hhou, px_hou_2 hhou, px_hou_3 hhou, px_hou_4 hhou, px_hou_5 hhou, px_hou_6 hhou, px_hou_7 hhou, px_hou_8 hhou, px_hou_9 hhou, px_fallen hhou a1 a2, htod.1, hper.1.2, hhou.1.2, hthi.1.2, hrig.1.2, hver.1.2.1, hsta.1.2, hlot.1.2, hbuy.1.2, hdee.1.2, hper.1.1, hhou.1.1, hthi.1.1, hrig.1.1, hver.1.1, hver.1.2.2.1, hver.1.2.2.2, hsea.1.1, hroa.1.1, hsta.1.1, hlot.1.1, hbuy.1.1, hdee.1.1, ti_inc, pm_u_row, pm_zr_row, pm_r_row, pm_w_at, Nat.reduceEqDiff, Nat.reduceLT, ite_true, ite_false, if_true, if_false, ite_self, Int32.reduceLE, Int32.reduceLT, pi_lt0, pm_b_eq0, pm_b_eq1, ite_not, pm_k0, pm_k1, pm_b_fit, true_and, and_true, not_true_eq_false, not_false_eq_true, ite_true, ite_false, if_true, if_false, a1, a2, h2, h3, hf, and_self]
        · by_cases hn : 24 ≤ I 80 3
          · simp only [pb_122_0, pb_122_11, pb_122_33, pb_122_14, pb_122_20, pb_122_23, pb_122_30, pb_122_35, pb_122_43, pb_122_49, pb_122_46, pb_122_59, pb_122_65, pb_122_62, pb_122_75, pb_122_91, pb_122_105, pb_122_119, pb_122_133, px_isDay, px_isPlace, px_isWithin, px_has_hou hhou, px_hou_0 hhou, px_hou_1 hhou, px_hou_2 hhou, px_hou_3 hhou, px_hou_4 hhou, px_hou_5 hhou, px_hou_6 hhou, px_hou_7 hhou, px_hou_8 hhou, px_hou_9 hhou, px_fallen hhou a1 a2, pt_full_16, htod.1, hper.1.2, hhou.1.2, hthi.1.2, hrig.1.2, hver.1.2.1, hsta.1.2, hlot.1.2, hbuy.1.2, hdee.1.2, hper.1.1, hhou.1.1, hthi.1.1, hrig.1.1, hver.1.1, hver.1.2.2.1, hver.1.2.2.2, hsea.1.1, hroa.1.1, hsta.1.1, hlot.1.1, hbuy.1.1, hdee.1.1, ti_inc, pm_u_row, pm_zr_row, pm_r_row, pm_w_at, Nat.reduceEqDiff, Nat.reduceLT, ite_true, ite_false, if_true, if_false, ite_self, Int32.reduceLE, Int32.reduceLT, pi_lt0, pm_b_eq0, pm_b_eq1, ite_not, pm_k0, pm_k1, pm_b_fit, true_and, and_true, not_true_eq_false, not_false_eq_true, ite_true, ite_false, if_true, if_false, a1, a2, h2, h3, hf, hn, and_self]
          · have h3' := Int32.not_le.mp hn
            have h4 := pi_inc (pi_ltb h3' (by decide : (24 : Int32) ≤ 100000))
            simp only [pb_122_0, pb_122_11, pb_122_33, pb_122_14, pb_122_20, pb_122_23, pb_122_30, pb_122_35, pb_122_43, pb_122_49, pb_122_46, pb_122_59, pb_122_65, pb_122_62, pb_122_75, pb_122_91, pb_122_105, pb_122_119, pb_122_133, px_isDay, px_isPlace, px_isWithin, px_has_hou hhou, px_hou_0 hhou, px_hou_1 hhou, px_hou_2 hhou, px_hou_3 hhou, px_hou_4 hhou, px_hou_5 hhou, px_hou_6 hhou, px_hou_7 hhou, px_hou_8 hhou, px_hou_9 hhou, px_fallen hhou a1 a2, pt_full_16, pt_full_16, pt_set_16_0, pt_set_16_1, pt_set_16_2, pt_set_16_3, pt_set_16_4, pt_add_16, htod.1, hper.1.2, hhou.1.2, hthi.1.2, hrig.1.2, hver.1.2.1, hsta.1.2, hlot.1.2, hbuy.1.2, hdee.1.2, hper.1.1, hhou.1.1, hthi.1.1, hrig.1.1, hver.1.1, hver.1.2.2.1, hver.1.2.2.2, hsea.1.1, hroa.1.1, hsta.1.1, hlot.1.1, hbuy.1.1, hdee.1.1, ti_inc, pm_u_row, pm_zr_row, pm_r_row, pm_w_at, Nat.reduceEqDiff, Nat.reduceLT, ite_true, ite_false, if_true, if_false, ite_self, Int32.reduceLE, Int32.reduceLT, pi_lt0, pm_b_eq0, pm_b_eq1, ite_not, pm_k0, pm_k1, pm_b_fit, true_and, and_true, not_true_eq_false, not_false_eq_true, ite_true, ite_false, if_true, if_false, a1, a2, h2, h3, hf, hn, h3', h4, hn3, Int32.reduceLT, and_self]
      · simp only [pb_122_0, pb_122_11, pb_122_33, pb_122_14, pb_122_20, pb_122_23, pb_122_30, pb_122_35, pb_122_43, pb_122_49, pb_122_46, pb_122_59, pb_122_65, pb_122_62, pb_122_75, pb_122_91, pb_122_105, pb_122_119, pb_122_133, px_isDay, px_isPlace, px_isWithin, px_has_hou hhou, px_hou_0 hhou, px_hou_1 hhou, px_hou_2 hhou, px_hou_3 hhou, px_hou_4 hhou, px_hou_5 hhou, px_hou_6 hhou, px_hou_7 hhou, px_hou_8 hhou, px_hou_9 hhou, htod.1, hper.1.2, hhou.1.2, hthi.1.2, hrig.1.2, hver.1.2.1, hsta.1.2, hlot.1.2, hbuy.1.2, hdee.1.2, hper.1.1, hhou.1.1, hthi.1.1, hrig.1.1, hver.1.1, hver.1.2.2.1, hver.1.2.2.2, hsea.1.1, hroa.1.1, hsta.1.1, hlot.1.1, hbuy.1.1, hdee.1.1, ti_inc, pm_u_row, pm_zr_row, pm_r_row, pm_w_at, Nat.reduceEqDiff, Nat.reduceLT, ite_true, ite_false, if_true, if_false, ite_self, Int32.reduceLE, Int32.reduceLT, pi_lt0, pm_b_eq0, pm_b_eq1, ite_not, pm_k0, pm_k1, pm_b_fit, true_and, and_true, not_true_eq_false, not_false_eq_true, ite_true, ite_false, if_true, if_false, a1, a2, h2, h3, and_false, and_self]
    · simp only [pb_122_0, pb_122_11, pb_122_33, pb_122_14, pb_122_20, pb_122_23, pb_122_30, pb_122_35, pb_122_43, pb_122_49, pb_122_46, pb_122_59, pb_122_65, pb_122_62, pb_122_75, pb_122_91, pb_122_105, pb_122_119, pb_122_133, px_isDay, px_isPlace, px_isWithin, px_has_hou hhou, px_hou_0 hhou, px_hou_1 hhou, px_hou_2 hhou, px_hou_3 hhou, px_hou_4 hhou, px_hou_5 hhou, px_hou_6 hhou, px_hou_7 hhou, px_hou_8 hhou, px_hou_9 hhou, htod.1, hper.1.2, hhou.1.2, hthi.1.2, hrig.1.2, hver.1.2.1, hsta.1.2, hlot.1.2, hbuy.1.2, hdee.1.2, hper.1.1, hhou.1.1, hthi.1.1, hrig.1.1, hver.1.1, hver.1.2.2.1, hver.1.2.2.2, hsea.1.1, hroa.1.1, hsta.1.1, hlot.1.1, hbuy.1.1, hdee.1.1, ti_inc, pm_u_row, pm_zr_row, pm_r_row, pm_w_at, Nat.reduceEqDiff, Nat.reduceLT, ite_true, ite_false, if_true, if_false, ite_self, Int32.reduceLE, Int32.reduceLT, pi_lt0, pm_b_eq0, pm_b_eq1, ite_not, pm_k0, pm_k1, pm_b_fit, true_and, and_true, not_true_eq_false, not_false_eq_true, ite_true, ite_false, if_true, if_false, a1, a2, h2, false_and, and_false, and_self]
  · simp only [pb_122_0, pb_122_11, pb_122_33, pb_122_14, pb_122_20, pb_122_23, pb_122_30, pb_122_35, pb_122_43, pb_122_49, pb_122_46, pb_122_59, pb_122_65, pb_122_62, pb_122_75, pb_122_91, pb_122_105, pb_122_119, pb_122_133, px_isDay, px_isPlace, px_isWithin, px_has_hou hhou, px_hou_0 hhou, px_hou_1 hhou, px_hou_2 hhou, px_hou_3 hhou, px_hou_4 hhou, px_hou_5 hhou, px_hou_6 hhou, px_hou_7 hhou, px_hou_8 hhou, px_hou_9 hhou, htod.1, hper.1.2, hhou.1.2, hthi.1.2, hrig.1.2, hver.1.2.1, hsta.1.2, hlot.1.2, hbuy.1.2, hdee.1.2, hper.1.1, hhou.1.1, hthi.1.1, hrig.1.1, hver.1.1, hver.1.2.2.1, hver.1.2.2.2, hsea.1.1, hroa.1.1, hsta.1.1, hlot.1.1, hbuy.1.1, hdee.1.1, ti_inc, pm_u_row, pm_zr_row, pm_r_row, pm_w_at, Nat.reduceEqDiff, Nat.reduceLT, ite_true, ite_false, if_true, if_false, ite_self, Int32.reduceLE, Int32.reduceLT, pi_lt0, pm_b_eq0, pm_b_eq1, ite_not, pm_k0, pm_k1, pm_b_fit, true_and, and_true, not_true_eq_false, not_false_eq_true, ite_true, ite_false, if_true, if_false, h1, false_and]
theorem po_comes {d L : Nat} {b : Bool} {I : Nat → Nat → Int32} {J : Nat → Nat → Int64} {X : Nat → Int32} {x1 x2 : Int32} (hI : pm_inv X b I J) : pm_wc pm_code pm_meta (d + 21) 167 [.ref 8, .int x1, .int x2] (pm_Gb L b, I, J) (fun v _ H => pm_wc pm_code pm_meta (d + 21) 289 [.ref 79, .int x1, .int x2] H (pm_ok X L b v)) := by
  have hI0 := hI
  obtain ⟨⟨htod, hroa, hper, hhou, hthi, hrig, hver, hsea, hsta, hlot, hbuy, hdee, hple⟩, htxt, hrid, htmp, hshe, hshf, htra, hk, hkept, hcon⟩ := hI
  have hn1 := (per_n hper).1
  have hn2 := (hou_n hhou).1
  have hn3 := (thi_n hthi).1
  have hn4 := (rig_n hrig).1
  by_cases hs : 0 ≤ x1 ∧ x1 ≤ 3
  · have hss := she_s hshe hs.1 hs.2
    have h0 := hs.1
    have h1 := hs.2
    have hs3 := hss.2.2.1
    have hs4 := hss.2.2.2
    by_cases g0 : 0 ≤ I 151 x1.toNatClampNeg
    · by_cases g1 : I 151 x1.toNatClampNeg = 1
      · have g1 := eq_true g1
        by_cases g2 : 0 ≤ x2 ∧ x2 ≤ I 152 x1.toNatClampNeg - 3
        · have b0 := g2.1
          have b1 : x2 < I 152 x1.toNatClampNeg := by have := g2.2; grind
          have b2 : 0 ≤ x2 + 1 := by grind
          have b3 : x2 + 1 < I 152 x1.toNatClampNeg := by have := g2.2; grind
          have b4 : 0 ≤ x2 + 2 := by grind
          have b5 : x2 + 2 < I 152 x1.toNatClampNeg := by have := g2.2; grind
          have b6 : x2 < 40 := by grind
          have b7 : x2 + 1 < 40 := by grind
          have b8 : x2 + 2 < 40 := by grind
          have k0 := she_2 hshe h0 h1 b0 b1
          have k1 := she_2 hshe h0 h1 b2 b3
          have k2 := she_2 hshe h0 h1 b4 b5
          have j0 := pi_c40b hs4 h0 h1 b0 b1
          have j1 := pi_c40b hs4 h0 h1 b2 b3
          have j2 := pi_c40b hs4 h0 h1 b4 b5
          have l0 := pi_c40a hs4 h0 h1 b0 b1
          have l1 := pi_c40a hs4 h0 h1 b2 b3
          have l2 := pi_c40a hs4 h0 h1 b4 b5
          have as1 := Int32.add_assoc (40 * x1) x2 1
          have as2 := Int32.add_assoc (40 * x1) x2 2
          have g3 : x2 ≤ I 152 x1.toNatClampNeg - 3 := g2.2
          simp only [pb_167_0, pb_167_11, pb_167_14, pb_167_16, pb_167_25, pb_167_32, pb_167_30, pb_167_41, pb_167_58, pb_167_44, pb_167_55, pb_167_61, pb_167_74, pb_167_88, pb_167_102, pb_167_105, px_isWithin, pt_has_71, pt_get_71_0, pt_get_71_1, pt_get_73, pt_set_73, px_hasItem hshe hs.1 hs.2, px_isMissing hshe hs.1 hs.2, px_refusal hshe hs.1 hs.2, hshe.1.1, hshe.1.2.1, hshe.1.2.2.1, hshe.1.2.2.2,she_0 hshe, she_1 hshe,  pi_lt4, pr_isSheet, sea_in, pl_m13_0, pl_m11_0, pl_1_0, h0, h1, hs3, and_self, g0, g1, b0, b1, b2, b3, b4, b5, b6, b7, b8, k0, k1, k2, htod.1, hper.1.2, hhou.1.2, hthi.1.2, hrig.1.2, hver.1.2.1, hsta.1.2, hlot.1.2, hbuy.1.2, hdee.1.2, pm_u_row, pm_zr_row, pm_r_row, pm_w_at, Nat.reduceEqDiff, Nat.reduceLT, ite_true, ite_false, if_true, if_false, ite_self, Int32.reduceLE, Int32.reduceLT, pi_lt0, pm_b_eq0, pm_b_eq1, ite_not, pm_k0, pm_k1, pm_b_fit, true_and, and_true, not_true_eq_false, not_false_eq_true, ite_true, ite_false, if_true, if_false]
          have T := po_thing (d := d) (L := L) (J := J) (x1 := (J 153 (40 * x1.toNatClampNeg + x2.toNatClampNeg)).toInt32) (x2 := (J 153 (40 * x1.toNatClampNeg + (x2 + 1).toNatClampNeg)).toInt32) (x3 := (J 153 (40 * x1.toNatClampNeg + (x2 + 2).toNatClampNeg)).toInt32) hI0
          rw [px_thing hI0] at T ⊢
          have fin : ∀ (v : Int32) (I' : Nat → Nat → Int32), I' 151 = I 151 → I' 152 = I 152 → pm_wc pm_code pm_meta (d + 20) 200 [.ref 79, .int (J 153 (40 * x1.toNatClampNeg + x2.toNatClampNeg)).toInt32, .int (J 153 (40 * x1.toNatClampNeg + (x2 + 1).toNatClampNeg)).toInt32, .int (J 153 (40 * x1.toNatClampNeg + (x2 + 2).toNatClampNeg)).toInt32] (pm_Gb L b, I', J) (pm_ok X L b v) → pm_wc pm_code pm_meta (d + 21) 289 [.ref 79, .int x1, .int x2] (pm_Gb L b, I', J) (pm_ok X L b v) := by
            intro v I' r1 r2 hT
            simp only [pb_289_0, pb_289_4, pb_289_7, pb_289_9, pb_289_21, pb_289_18, pb_289_34, pb_289_31, pb_289_47, pb_289_50, pb_289_53, pb_289_97, pr_isSheet, pr_in, sea_in, h0, h1, r1, r2, g0, g1, b0, g3, as1, as2, j0, j1, j2, l0, l1, l2, and_self, Int32.reduceLE, Int32.reduceLT, pi_lt0, pm_b_eq0, pm_b_eq1, ite_not, pm_k0, pm_k1, pm_b_fit, true_and, and_true, not_true_eq_false, not_false_eq_true, ite_true, ite_false, if_true, if_false]
            refine pm_wp.mono hT (fun v' w H hh => ?_)
            obtain ⟨rfl, I2, J2, rfl, hi2⟩ := hh
            simp only [pb_289_0, pb_289_4, pb_289_7, pb_289_9, pb_289_21, pb_289_18, pb_289_34, pb_289_31, pb_289_47, pb_289_50, pb_289_53, pb_289_97]
            exact pm_okI2 rfl hi2
          have RT : ∀ (v : Int32) (I' : Nat → Nat → Int32) (Q' : Int32 → Int64 → pm_H → Prop), pm_wp pm_code pm_meta (d + 20 + 1) 167 105 ([.ref 8, .int x1, .int x2, .int 0], [.int v], (pm_Gb L b, I', J)) Q' ↔ Q' v 0 (pm_Gb L b, I', J) := fun v I' Q' => pb_167_105
          simp only [RT] at T ⊢
          split
          · next hc =>
            rw [if_pos hc] at T
            split
            · next hf =>
              rw [if_pos hf] at T
              exact fin _ _ rfl rfl T
            · next hf =>
              rw [if_neg hf] at T
              split
              · next hn =>
                rw [if_pos hn] at T
                exact fin _ _ rfl rfl T
              · next hn =>
                rw [if_neg hn] at T
                exact fin _ _ (by simp only [pm_u_row, pm_zr_row, pm_r_row, pm_w_at, Nat.reduceEqDiff, Nat.reduceLT, ite_true, ite_false, if_true, if_false, ite_self]) (by simp only [pm_u_row, pm_zr_row, pm_r_row, pm_w_at, Nat.reduceEqDiff, Nat.reduceLT, ite_true, ite_false, if_true, if_false, ite_self]) T
          · next hc =>
            rw [if_neg hc] at T
            exact fin _ _ rfl rfl T
        · have hb : ¬ ((0 ≤ x2 ∧ x2 < I 152 x1.toNatClampNeg) ∧ (0 ≤ x2 + 2 ∧ x2 + 2 < I 152 x1.toNatClampNeg)) := by grind
          simp only [pb_167_0, pb_167_11, pb_167_14, pb_167_16, pb_167_25, pb_167_32, pb_167_30, pb_167_41, pb_167_58, pb_167_44, pb_167_55, pb_167_61, pb_167_74, pb_167_88, pb_167_102, pb_167_105, pb_289_0, pb_289_4, pb_289_7, pb_289_9, pb_289_21, pb_289_18, pb_289_34, pb_289_31, pb_289_47, pb_289_50, pb_289_53, pb_289_97, px_isWithin, pt_has_71, pt_get_71_0, pt_get_71_1, pt_get_73, pt_set_73, px_hasItem hshe hs.1 hs.2, px_isMissing hshe hs.1 hs.2, px_refusal hshe hs.1 hs.2, hshe.1.1, hshe.1.2.1, hshe.1.2.2.1, hshe.1.2.2.2,she_0 hshe, she_1 hshe,  pi_lt4, pr_isSheet, pr_in0, pi_c40a hs4, pi_c40b hs4, sea_in, pl_m13_0, pl_m11_0, pl_1_0, h0, h1, hs3, and_self, g0, g1, pr_in, g2, htod.1, hper.1.2, hhou.1.2, hthi.1.2, hrig.1.2, hver.1.2.1, hsta.1.2, hlot.1.2, hbuy.1.2, hdee.1.2, pm_u_row, pm_zr_row, pm_r_row, pm_w_at, Nat.reduceEqDiff, Nat.reduceLT, ite_true, ite_false, if_true, if_false, ite_self, Int32.reduceLE, Int32.reduceLT, pi_lt0, pm_b_eq0, pm_b_eq1, ite_not, pm_k0, pm_k1, pm_b_fit, true_and, and_true, not_true_eq_false, not_false_eq_true, ite_true, ite_false, if_true, if_false]
          repeat' ((first | with_reducible refine pm_ite_eq (fun _ => ?_) (fun _ => ?_) | with_reducible refine pm_ite_intro (fun _ => ?_) (fun _ => ?_)))
          all_goals first
          | with_reducible exact pm_okJ hI0
          | (exfalso; clear hI0 hcon htod hroa hper hhou hthi hrig hver hsea hsta hlot hbuy hdee htxt hrid htmp hshe hshf htra hk hkept; grind)
      · have g1 := eq_false g1
        simp only [pb_167_0, pb_167_11, pb_167_14, pb_167_16, pb_167_25, pb_167_32, pb_167_30, pb_167_41, pb_167_58, pb_167_44, pb_167_55, pb_167_61, pb_167_74, pb_167_88, pb_167_102, pb_167_105, pb_289_0, pb_289_4, pb_289_7, pb_289_9, pb_289_21, pb_289_18, pb_289_34, pb_289_31, pb_289_47, pb_289_50, pb_289_53, pb_289_97, px_isWithin, pt_has_71, pt_get_71_0, pt_get_71_1, pt_get_73, pt_set_73, px_hasItem hshe hs.1 hs.2, px_isMissing hshe hs.1 hs.2, px_refusal hshe hs.1 hs.2, hshe.1.1, hshe.1.2.1, hshe.1.2.2.1, hshe.1.2.2.2,she_0 hshe, she_1 hshe,  pi_lt4, pr_isSheet, pr_in0, pi_c40a hs4, pi_c40b hs4, sea_in, pl_m13_0, pl_m11_0, pl_1_0, h0, h1, hs3, and_self, g0, g1, htod.1, hper.1.2, hhou.1.2, hthi.1.2, hrig.1.2, hver.1.2.1, hsta.1.2, hlot.1.2, hbuy.1.2, hdee.1.2, pm_u_row, pm_zr_row, pm_r_row, pm_w_at, Nat.reduceEqDiff, Nat.reduceLT, ite_true, ite_false, if_true, if_false, ite_self, Int32.reduceLE, Int32.reduceLT, pi_lt0, pm_b_eq0, pm_b_eq1, ite_not, pm_k0, pm_k1, pm_b_fit, true_and, and_true, not_true_eq_false, not_false_eq_true, ite_true, ite_false, if_true, if_false]
        with_reducible exact pm_okJ hI0
    · simp only [pb_167_0, pb_167_11, pb_167_14, pb_167_16, pb_167_25, pb_167_32, pb_167_30, pb_167_41, pb_167_58, pb_167_44, pb_167_55, pb_167_61, pb_167_74, pb_167_88, pb_167_102, pb_167_105, pb_289_0, pb_289_4, pb_289_7, pb_289_9, pb_289_21, pb_289_18, pb_289_34, pb_289_31, pb_289_47, pb_289_50, pb_289_53, pb_289_97, px_isWithin, pt_has_71, pt_get_71_0, pt_get_71_1, pt_get_73, pt_set_73, px_hasItem hshe hs.1 hs.2, px_isMissing hshe hs.1 hs.2, px_refusal hshe hs.1 hs.2, hshe.1.1, hshe.1.2.1, hshe.1.2.2.1, hshe.1.2.2.2,she_0 hshe, she_1 hshe,  pi_lt4, pr_isSheet, pr_in0, pi_c40a hs4, pi_c40b hs4, sea_in, pl_m13_0, pl_m11_0, pl_1_0, h0, h1, hs3, and_self, g0, htod.1, hper.1.2, hhou.1.2, hthi.1.2, hrig.1.2, hver.1.2.1, hsta.1.2, hlot.1.2, hbuy.1.2, hdee.1.2, pm_u_row, pm_zr_row, pm_r_row, pm_w_at, Nat.reduceEqDiff, Nat.reduceLT, ite_true, ite_false, if_true, if_false, ite_self, Int32.reduceLE, Int32.reduceLT, pi_lt0, pm_b_eq0, pm_b_eq1, ite_not, pm_k0, pm_k1, pm_b_fit, true_and, and_true, not_true_eq_false, not_false_eq_true, ite_true, ite_false, if_true, if_false]
      with_reducible exact pm_okJ hI0
  · simp only [pb_167_0, pb_167_11, pb_167_14, pb_167_16, pb_167_25, pb_167_32, pb_167_30, pb_167_41, pb_167_58, pb_167_44, pb_167_55, pb_167_61, pb_167_74, pb_167_88, pb_167_102, pb_167_105, pb_289_0, pb_289_4, pb_289_7, pb_289_9, pb_289_21, pb_289_18, pb_289_34, pb_289_31, pb_289_47, pb_289_50, pb_289_53, pb_289_97, pt_has_71, hshe.1.1, hshe.1.2.1, hshe.1.2.2.1, hshe.1.2.2.2, pi_lt4, pr_isSheet, hs, Int32.reduceLE, Int32.reduceLT, pi_lt0, pm_b_eq0, pm_b_eq1, ite_not, pm_k0, pm_k1, pm_b_fit, true_and, and_true, not_true_eq_false, not_false_eq_true, ite_true, ite_false, if_true, if_false]
    with_reducible exact pm_okJ hI0

