/-! taken, witness, road. -/
def pm_isOf (k a : Int32) : Prop := k = a ∨ a = 0 ∨ (a = 1 ∧ k = 2) ∨ (a = 5 ∧ k = 6)
theorem isOf_bits {k a : Int32} (hk : 0 ≤ k ∧ k ≤ 7) (ha : 0 ≤ a ∧ a ≤ 7) : ((pm_a2.getD k.toNatClampNeg 0 >>> (a &&& 31)) &&& 1 = 1) = pm_isOf k a := by
  unfold pm_isOf
  rcases pi_cs8 hk with rfl | rfl | rfl | rfl | rfl | rfl | rfl | rfl <;> rcases pi_cs8 ha with rfl | rfl | rfl | rfl | rfl | rfl | rfl | rfl <;> exact propext (by decide)
theorem rig_kind {t c : Nat → Int32} {n nP nH nT : Int32} {kind house person amount fr to is leans proved seals told wit witOf : Nat → Int32} (h : pg_rig t c n nP nH nT kind house person amount fr to is leans proved seals told wit witOf) {q : Int32} (h0 : 0 ≤ q) (h1 : q < n) : 0 ≤ kind q.toNatClampNeg ∧ kind q.toNatClampNeg ≤ 7 := by
  obtain ⟨_, _, g⟩ := h.2 _ (pi_tnlt h0 h1); exact ⟨g.1, g.2.1⟩
theorem px_isOrUnder {d L : Nat} {b : Bool} {I : Nat → Nat → Int32} {J : Nat → Nat → Int64} {k a : Int32} {Q : Int32 → Int64 → pm_H → Prop} (hc : ∀ j, I 2 j = pm_a2.getD j 0) (hk : 0 ≤ k ∧ k ≤ 7) (ha : (0 ≤ a ∧ a ≤ 7) ∨ ¬ a < 8) : pm_wc pm_code pm_meta d 20 [.int k, .int a] (pm_Gb L b, I, J) Q ↔ Q (if a < 8 then (if (pm_a2.getD k.toNatClampNeg 0 >>> (a &&& 31)) &&& 1 = 1 then 1 else 0) else 0) 0 (pm_Gb L b, I, J) := by
  have e1 : pm_in k 8 = true := pi_in hk.1 (by have := hk.2; rw [pi_le] at this; have e : (7 : Int32).toInt = 7 := rfl; omega)
  have e2 : ¬ 8 ≤ k := by have := hk.2; grind
  by_cases h8 : a < 8
  · have e3 : ¬ 8 ≤ a := by grind
    simp only [pb_20_0, pb_20_18, pb_20_4, pb_20_12, pb_20_20, pb_20_33, pb_20_37, pb_20_38, hk.1, e1, e2, e3, h8, hc, Int32.reduceLE, Int32.reduceLT, pi_lt0, pm_b_eq0, pm_b_eq1, ite_not, pm_k0, pm_k1, pm_b_fit, true_and, and_true, not_true_eq_false, not_false_eq_true, ite_true, ite_false, if_true, if_false]
    split <;> simp [*]
  · have e3 : 8 ≤ a := by grind
    simp only [pb_20_0, pb_20_18, pb_20_4, pb_20_12, pb_20_20, pb_20_33, pb_20_37, pb_20_38, hk.1, e1, e2, e3, h8, hc, Int32.reduceLE, Int32.reduceLT, pi_lt0, pm_b_eq0, pm_b_eq1, ite_not, pm_k0, pm_k1, pm_b_fit, true_and, and_true, not_true_eq_false, not_false_eq_true, ite_true, ite_false, if_true, if_false]
theorem pr_isOfK {d L : Nat} {b : Bool} {I : Nat → Nat → Int32} {J : Nat → Nat → Int64} {k a : Int32} {Q : Int32 → Int64 → pm_H → Prop} : pm_wc pm_code pm_meta d 236 [.ref 79, .int k, .int a] (pm_Gb L b, I, J) Q ↔ Q (if k = a ∨ a = 0 ∨ (a = 1 ∧ k = 2) ∨ (a = 5 ∧ k = 6) then 1 else 0) 0 (pm_Gb L b, I, J) := by
  simp only [pb_236_0, pb_236_30, pb_236_5, pb_236_35, pb_236_9, pb_236_14, pb_236_19, pb_236_24, pb_236_34, Int32.reduceLE, Int32.reduceLT, pi_lt0, pm_b_eq0, pm_b_eq1, ite_not, pm_k0, pm_k1, pm_b_fit, true_and, and_true, not_true_eq_false, not_false_eq_true, ite_true, ite_false, if_true, if_false]
  by_cases h1 : k = a
  · simp [h1]
  · by_cases h2 : a = 0
    · simp [h2, h1]
    · by_cases h3 : a = 1
      · subst h3
        by_cases h4 : k = 2
        · subst h4; simp
        · simp [h4, h1]
      · by_cases h5 : a = 5
        · subst h5
          by_cases h6 : k = 6
          · subst h6; simp
          · simp [h6, h1]
        · simp [h1, h2, h3, h5]
theorem pi_tn13 {w : Int32} (h0 : 0 ≤ w) (h1 : w < 3) : (13 + w).toNatClampNeg = 13 + w.toNatClampNeg ∧ 0 ≤ 13 + w ∧ 13 + w < 16 := by
  have e3 : w = 0 ∨ w = 1 ∨ w = 2 := by grind
  rcases e3 with rfl | rfl | rfl <;> decide
theorem pi_c3 {q w n : Int32} (hn : n ≤ 24) (h0 : 0 ≤ q) (h1 : q < n) (h2 : 0 ≤ w) (h3 : w < 3) : (3 * q + w).toNatClampNeg = 3 * q.toNatClampNeg + w.toNatClampNeg ∧ pm_in (3 * q + w) 72 = true := by
  have := pi_cell (r := q) (k := w) (w := 3) (lim := 24) (n := 72) h0 (by grind) h2 h3 rfl (by decide)
  rw [Int32.mul_comm 3 q]
  exact this
theorem rig_witness {t c : Nat → Int32} {n nP nH nT : Int32} {kind house person amount fr to is leans proved seals told wit witOf : Nat → Int32} (h : pg_rig t c n nP nH nT kind house person amount fr to is leans proved seals told wit witOf) {P : Nat} {p : Int32} (hP : P < n.toNatClampNeg) (hw : wit P < 3) (h0 : 0 ≤ p) (h1 : p < nP) : pg_rig t (pm_w (pm_w c (16 * P + (13 + (wit P).toNatClampNeg)) p) (16 * P + 12) (wit P + 1)) n nP nH nT kind house person amount fr to is leans proved seals told (pm_w wit P (wit P + 1)) (pm_w witOf (3 * P + (wit P).toNatClampNeg) p) := by
  have hw0 : 0 ≤ wit P := by obtain ⟨_, _, g⟩ := h.2 P hP; exact g.2.2.2.2.2.2.2.2.2.2.2.2.2.2.2.2.2.2.1
  have hw3 := rig_wit (k := wit P) (by grind)
  have hw2 : (wit P).toNatClampNeg < 3 := by have := pi_tnlt hw0 hw; exact this
  have hwe : (wit P + 1).toNatClampNeg = (wit P).toNatClampNeg + 1 := pi_tn1 hw0 (by grind)
  refine ⟨h.1, fun k hk => ?_⟩
  obtain ⟨g1, g2, g3⟩ := h.2 k hk
  have hwk : (wit k).toNatClampNeg ≤ 3 := rig_wit (by grind)
  by_cases hk2 : k = P
  · subst hk2
    simp (disch := omega) only [pm_w_self, pm_w_ne]
    refine ⟨by grind, fun i hi => ?_, by grind⟩
    rw [hwe] at hi
    by_cases hi2 : i = (wit k).toNatClampNeg
    · subst hi2
      simp (disch := omega) only [pm_w_self, pm_w_ne]
      exact ⟨trivial, h0, h1⟩
    · have hi3 : i < (wit k).toNatClampNeg := by omega
      simp (disch := omega) only [pm_w_ne]
      exact g2 i hi3
  · simp (disch := omega) only [pm_w_ne]
    refine ⟨g1, fun i hi => ?_, g3⟩
    simp (disch := omega) only [pm_w_ne]
    exact g2 i hi
theorem pl_tn12 : Int32.toNatClampNeg 12 = 12 := rfl
theorem pi_c10 {x y : Int32} (hx : 0 ≤ x ∧ x ≤ 9) (hy : 0 ≤ y ∧ y ≤ 9) : (10 * x + y).toNatClampNeg = 10 * x.toNatClampNeg + y.toNatClampNeg ∧ pm_in (10 * x + y) 100 = true ∧ 10 * x.toNatClampNeg + y.toNatClampNeg < 100 := by
  have g1 : x.toNatClampNeg < 10 := pi_tnlt hx.1 (show x < 10 by have := hx.2; grind)
  have g2 : y.toNatClampNeg < 10 := pi_tnlt hy.1 (show y < 10 by have := hy.2; grind)
  have := pi_cell (r := x) (k := y) (w := 10) (lim := 10) (n := 100) hx.1 (by have := hx.2; grind) hy.1 (by have := hy.2; grind) rfl (by decide)
  rw [Int32.mul_comm 10 x]
  exact ⟨this.1, this.2, by omega⟩
theorem roa_set {t c roads : Nat → Int32} (h : pg_roa t c roads) {P P2 : Nat} {v : Int32} (h0 : 0 ≤ v) (h1 : v ≤ 20) : pg_roa t (pm_w (pm_w c P v) P2 v) (pm_w (pm_w roads P v) P2 v) := by
  refine ⟨h.1, fun j hj => ?_⟩
  have := h.2 j hj
  simp only [pm_w_at]
  split
  · exact ⟨rfl, h0, h1⟩
  · split
    · exact ⟨rfl, h0, h1⟩
    · exact this
theorem po_road {d L : Nat} {b : Bool} {I : Nat → Nat → Int32} {J : Nat → Nat → Int64} {X : Nat → Int32} {x1 x2 x3 : Int32} (hI : pm_inv X b I J) : pm_wc pm_code pm_meta (d + 20) 116 [.ref 8, .int x1, .int x2, .int x3] (pm_Gb L b, I, J) (fun v _ H => pm_wc pm_code pm_meta (d + 20) 194 [.ref 79, .int x1, .int x2, .int x3] H (pm_ok X L b v)) := by
  have hI0 := hI
  obtain ⟨⟨htod, hroa, hper, hhou, hthi, hrig, hver, hsea, hsta, hlot, hbuy, hdee, hple⟩, htxt, hrid, htmp, hshe, hshf, htra, hk, hkept, hcon⟩ := hI
  have hn1 := (per_n hper).1
  have hn2 := (hou_n hhou).1
  have hn3 := (thi_n hthi).1
  have hn4 := (rig_n hrig).1
  by_cases h1 : 0 ≤ x1 ∧ x1 ≤ 9
  · by_cases h2 : 0 ≤ x2 ∧ x2 ≤ 9
    · obtain ⟨e1, e2, e3⟩ := pi_c10 h1 h2
      obtain ⟨f1, f2, f3⟩ := pi_c10 h2 h1
      have r1 := (hroa.2 _ e3).1
      have a1 := h1.1
      have a2 := h1.2
      have a3 := h2.1
      have a4 := h2.2
      by_cases g : x1 = x2
      · have g := eq_true g
        simp only [pb_116_0, pb_116_4, pb_116_29, pb_116_7, pb_116_11, pb_116_14, pb_116_19, pb_116_26, pb_116_31, pb_116_43, pb_116_58, pb_116_71, pb_194_0, pb_194_4, pb_194_29, pb_194_7, pb_194_11, pb_194_14, pb_194_19, pb_194_26, pb_194_31, px_isPlace, px_isWithin, pr_isPlace, pr_in, pt_get_10, pt_set_10, hroa.1.1, hroa.1.2, pi_lt10, a1, a2, a3, a4, e1, e2, f1, f2, r1, and_self, g, pm_u_row, pm_zr_row, pm_r_row, pm_w_at, Nat.reduceEqDiff, Nat.reduceLT, ite_true, ite_false, if_true, if_false, ite_self, Int32.reduceLE, Int32.reduceLT, pi_lt0, pm_b_eq0, pm_b_eq1, ite_not, pm_k0, pm_k1, pm_b_fit, true_and, and_true, not_true_eq_false, not_false_eq_true, ite_true, ite_false, if_true, if_false]
        with_reducible exact pm_okJ hI0
      · have g := eq_false g
        by_cases hb : 1 ≤ x3 ∧ x3 ≤ 20
        · have b1 := hb.1
          have b2 := hb.2
          simp only [pb_116_0, pb_116_4, pb_116_29, pb_116_7, pb_116_11, pb_116_14, pb_116_19, pb_116_26, pb_116_31, pb_116_43, pb_116_58, pb_116_71, pb_194_0, pb_194_4, pb_194_29, pb_194_7, pb_194_11, pb_194_14, pb_194_19, pb_194_26, pb_194_31, px_isPlace, px_isWithin, pr_isPlace, pr_in, pt_get_10, pt_set_10, hroa.1.1, hroa.1.2, pi_lt10, a1, a2, a3, a4, e1, e2, f1, f2, r1, and_self, g, b1, b2, pm_u_row, pm_zr_row, pm_r_row, pm_w_at, Nat.reduceEqDiff, Nat.reduceLT, ite_true, ite_false, if_true, if_false, ite_self, Int32.reduceLE, Int32.reduceLT, pi_lt0, pm_b_eq0, pm_b_eq1, ite_not, pm_k0, pm_k1, pm_b_fit, true_and, and_true, not_true_eq_false, not_false_eq_true, ite_true, ite_false, if_true, if_false]
          refine pm_okI2 (by with_reducible rfl) ?_
          simp only [pm_inv, pm_land, pm_u_row, pm_zr_row, pm_w_at, Nat.reduceEqDiff, ite_true, ite_false, pm_kept_u, pm_kept_z, pm_kept_r, pm_r_row, ne_eq, not_false_eq_true, Nat.reduceLT, hcon, htod, hroa, hper, hhou, hthi, hrig, hver, hsea, hsta, hlot, hbuy, hdee, hple, htxt, hrid, htmp, hshe, hshf, htra, hk, hkept, true_and, and_true]
          with_reducible exact roa_set hroa (by grind) hb.2
        · simp only [pb_116_0, pb_116_4, pb_116_29, pb_116_7, pb_116_11, pb_116_14, pb_116_19, pb_116_26, pb_116_31, pb_116_43, pb_116_58, pb_116_71, pb_194_0, pb_194_4, pb_194_29, pb_194_7, pb_194_11, pb_194_14, pb_194_19, pb_194_26, pb_194_31, px_isPlace, px_isWithin, pr_isPlace, pr_in, pt_get_10, pt_set_10, hroa.1.1, hroa.1.2, pi_lt10, a1, a2, a3, a4, e1, e2, f1, f2, r1, and_self, g, hb, pm_u_row, pm_zr_row, pm_r_row, pm_w_at, Nat.reduceEqDiff, Nat.reduceLT, ite_true, ite_false, if_true, if_false, ite_self, Int32.reduceLE, Int32.reduceLT, pi_lt0, pm_b_eq0, pm_b_eq1, ite_not, pm_k0, pm_k1, pm_b_fit, true_and, and_true, not_true_eq_false, not_false_eq_true, ite_true, ite_false, if_true, if_false]
          with_reducible exact pm_okJ hI0
    · simp only [pb_116_0, pb_116_4, pb_116_29, pb_116_7, pb_116_11, pb_116_14, pb_116_19, pb_116_26, pb_116_31, pb_116_43, pb_116_58, pb_116_71, pb_194_0, pb_194_4, pb_194_29, pb_194_7, pb_194_11, pb_194_14, pb_194_19, pb_194_26, pb_194_31, px_isPlace, px_isWithin, pr_isPlace, pr_in, h1, h2, pm_u_row, pm_zr_row, pm_r_row, pm_w_at, Nat.reduceEqDiff, Nat.reduceLT, ite_true, ite_false, if_true, if_false, ite_self, Int32.reduceLE, Int32.reduceLT, pi_lt0, pm_b_eq0, pm_b_eq1, ite_not, pm_k0, pm_k1, pm_b_fit, true_and, and_true, not_true_eq_false, not_false_eq_true, ite_true, ite_false, if_true, if_false]
      with_reducible exact pm_okJ hI0
  · simp only [pb_116_0, pb_116_4, pb_116_29, pb_116_7, pb_116_11, pb_116_14, pb_116_19, pb_116_26, pb_116_31, pb_116_43, pb_116_58, pb_116_71, pb_194_0, pb_194_4, pb_194_29, pb_194_7, pb_194_11, pb_194_14, pb_194_19, pb_194_26, pb_194_31, px_isPlace, px_isWithin, pr_isPlace, pr_in, h1, pm_u_row, pm_zr_row, pm_r_row, pm_w_at, Nat.reduceEqDiff, Nat.reduceLT, ite_true, ite_false, if_true, if_false, ite_self, Int32.reduceLE, Int32.reduceLT, pi_lt0, pm_b_eq0, pm_b_eq1, ite_not, pm_k0, pm_k1, pm_b_fit, true_and, and_true, not_true_eq_false, not_false_eq_true, ite_true, ite_false, if_true, if_false]
    with_reducible exact pm_okJ hI0
theorem po_witness {d L : Nat} {b : Bool} {I : Nat → Nat → Int32} {J : Nat → Nat → Int64} {X : Nat → Int32} {x1 x2 : Int32} (hI : pm_inv X b I J) : pm_wc pm_code pm_meta (d + 20) 142 [.ref 8, .int x1, .int x2] (pm_Gb L b, I, J) (fun v _ H => pm_wc pm_code pm_meta (d + 20) 251 [.ref 79, .int x1, .int x2] H (pm_ok X L b v)) := by
  have hI0 := hI
  obtain ⟨⟨htod, hroa, hper, hhou, hthi, hrig, hver, hsea, hsta, hlot, hbuy, hdee, hple⟩, htxt, hrid, htmp, hshe, hshf, htra, hk, hkept, hcon⟩ := hI
  have hn1 := (per_n hper).1
  have hn2 := (hou_n hhou).1
  have hn3 := (thi_n hthi).1
  have hn4 := (rig_n hrig).1
  by_cases h1 : 0 ≤ x1 ∧ x1 < I 80 4
  · by_cases h2 : 0 ≤ x2 ∧ x2 < I 80 1
    · have a1 := h1.1
      have a2 := h1.2
      have a3 := h2.1
      have a4 := h2.2
      have hn24 := (rig_n hrig).2
      obtain ⟨_, _, g⟩ := hrig.2 _ (pi_tnlt a1 a2)
      have w0 : 0 ≤ I 110 x1.toNatClampNeg := g.2.2.2.2.2.2.2.2.2.2.2.2.2.2.2.2.2.2.1
      have w3 : I 110 x1.toNatClampNeg ≤ 3 := g.2.2.2.2.2.2.2.2.2.2.2.2.2.2.2.2.2.2.2.1
      have i1 := rig_in hrig a1 a2
      by_cases hk2 : I 99 x1.toNatClampNeg = 2
      · have hk2 := eq_true hk2
        by_cases hw : I 110 x1.toNatClampNeg < 3
        · obtain ⟨t1, t2, t3⟩ := pi_tn13 w0 hw
          obtain ⟨c1, c2⟩ := pi_c3 hn24 a1 a2 w0 hw
          have n3 : (I 110 x1.toNatClampNeg = 3) = False := by grind
          simp only [pb_142_0, pb_142_11, pb_142_28, pb_142_14, pb_142_25, pb_142_30, pb_142_38, pb_142_41, pb_142_44, pb_142_57, pb_142_66, pb_142_63, pb_142_82, pb_142_98, pb_251_0, pb_251_5, pb_251_16, pb_251_8, pb_251_13, pb_251_18, pb_251_31, pb_251_28, pb_251_41, pb_251_44, px_has_per hper, px_per_0 hper, px_per_1 hper, px_has_rig hrig, px_rig_0 hrig, px_rig_1 hrig, px_rig_2 hrig, px_rig_3 hrig, px_rig_4 hrig, px_rig_5 hrig, px_rig_6 hrig, px_rig_7 hrig, px_rig_9 hrig, px_rig_10 hrig, px_rig_11 hrig, px_rig_12 hrig, px_isLease hrig, pt_set_18, pt_set_18_12, pr_isPerson, pr_isRight, hn1, hn4, pm_at_in, a1, a2, a3, a4, i1, hw, hk2, n3, t1, t2, t3, c1, c2, pl_tn12, and_self, htod.1, hper.1.2, hhou.1.2, hthi.1.2, hrig.1.2, hver.1.2.1, hsta.1.2, hlot.1.2, hbuy.1.2, hdee.1.2, hper.1.1, hhou.1.1, hthi.1.1, hrig.1.1, hver.1.1, hver.1.2.2.1, hver.1.2.2.2, hsea.1.1, hroa.1.1, hsta.1.1, hlot.1.1, hbuy.1.1, hdee.1.1, ti_inc, pm_u_row, pm_zr_row, pm_r_row, pm_w_at, Nat.reduceEqDiff, Nat.reduceLT, ite_true, ite_false, if_true, if_false, ite_self, Int32.reduceLE, Int32.reduceLT, pi_lt0, pm_b_eq0, pm_b_eq1, ite_not, pm_k0, pm_k1, pm_b_fit, true_and, and_true, not_true_eq_false, not_false_eq_true, ite_true, ite_false, if_true, if_false]
          refine pm_okI2 (by with_reducible rfl) ?_
          simp only [pm_inv, pm_land, pm_u_row, pm_zr_row, pm_w_at, Nat.reduceEqDiff, ite_true, ite_false, pm_kept_u, pm_kept_z, pm_kept_r, pm_r_row, ne_eq, not_false_eq_true, Nat.reduceLT, hcon, htod, hroa, hper, hhou, hthi, hrig, hver, hsea, hsta, hlot, hbuy, hdee, hple, htxt, hrid, htmp, hshe, hshf, htra, hk, hkept, true_and, and_true]
          with_reducible exact rig_witness hrig (pi_tnlt a1 a2) hw a3 a4
        · have n3 : (I 110 x1.toNatClampNeg = 3) = True := by grind
          simp only [pb_142_0, pb_142_11, pb_142_28, pb_142_14, pb_142_25, pb_142_30, pb_142_38, pb_142_41, pb_142_44, pb_142_57, pb_142_66, pb_142_63, pb_142_82, pb_142_98, pb_251_0, pb_251_5, pb_251_16, pb_251_8, pb_251_13, pb_251_18, pb_251_31, pb_251_28, pb_251_41, pb_251_44, px_has_per hper, px_per_0 hper, px_per_1 hper, px_has_rig hrig, px_rig_0 hrig, px_rig_1 hrig, px_rig_2 hrig, px_rig_3 hrig, px_rig_4 hrig, px_rig_5 hrig, px_rig_6 hrig, px_rig_7 hrig, px_rig_9 hrig, px_rig_10 hrig, px_rig_11 hrig, px_rig_12 hrig, px_isLease hrig, pr_isPerson, pr_isRight, hn1, hn4, pm_at_in, a1, a2, a3, a4, i1, hw, hk2, n3, and_self, htod.1, hper.1.2, hhou.1.2, hthi.1.2, hrig.1.2, hver.1.2.1, hsta.1.2, hlot.1.2, hbuy.1.2, hdee.1.2, hper.1.1, hhou.1.1, hthi.1.1, hrig.1.1, hver.1.1, hver.1.2.2.1, hver.1.2.2.2, hsea.1.1, hroa.1.1, hsta.1.1, hlot.1.1, hbuy.1.1, hdee.1.1, ti_inc, pm_u_row, pm_zr_row, pm_r_row, pm_w_at, Nat.reduceEqDiff, Nat.reduceLT, ite_true, ite_false, if_true, if_false, ite_self, Int32.reduceLE, Int32.reduceLT, pi_lt0, pm_b_eq0, pm_b_eq1, ite_not, pm_k0, pm_k1, pm_b_fit, true_and, and_true, not_true_eq_false, not_false_eq_true, ite_true, ite_false, if_true, if_false]
          with_reducible exact pm_okJ hI0
      · have hk2 := eq_false hk2
        simp only [pb_142_0, pb_142_11, pb_142_28, pb_142_14, pb_142_25, pb_142_30, pb_142_38, pb_142_41, pb_142_44, pb_142_57, pb_142_66, pb_142_63, pb_142_82, pb_142_98, pb_251_0, pb_251_5, pb_251_16, pb_251_8, pb_251_13, pb_251_18, pb_251_31, pb_251_28, pb_251_41, pb_251_44, px_has_per hper, px_per_0 hper, px_per_1 hper, px_has_rig hrig, px_rig_0 hrig, px_rig_1 hrig, px_rig_2 hrig, px_rig_3 hrig, px_rig_4 hrig, px_rig_5 hrig, px_rig_6 hrig, px_rig_7 hrig, px_rig_9 hrig, px_rig_10 hrig, px_rig_11 hrig, px_rig_12 hrig, px_isLease hrig, pr_isPerson, pr_isRight, hn1, hn4, pm_at_in, a1, a2, a3, a4, i1, hk2, and_self, htod.1, hper.1.2, hhou.1.2, hthi.1.2, hrig.1.2, hver.1.2.1, hsta.1.2, hlot.1.2, hbuy.1.2, hdee.1.2, hper.1.1, hhou.1.1, hthi.1.1, hrig.1.1, hver.1.1, hver.1.2.2.1, hver.1.2.2.2, hsea.1.1, hroa.1.1, hsta.1.1, hlot.1.1, hbuy.1.1, hdee.1.1, ti_inc, pm_u_row, pm_zr_row, pm_r_row, pm_w_at, Nat.reduceEqDiff, Nat.reduceLT, ite_true, ite_false, if_true, if_false, ite_self, Int32.reduceLE, Int32.reduceLT, pi_lt0, pm_b_eq0, pm_b_eq1, ite_not, pm_k0, pm_k1, pm_b_fit, true_and, and_true, not_true_eq_false, not_false_eq_true, ite_true, ite_false, if_true, if_false]
        with_reducible exact pm_okJ hI0
    · simp only [pb_142_0, pb_142_11, pb_142_28, pb_142_14, pb_142_25, pb_142_30, pb_142_38, pb_142_41, pb_142_44, pb_142_57, pb_142_66, pb_142_63, pb_142_82, pb_142_98, pb_251_0, pb_251_5, pb_251_16, pb_251_8, pb_251_13, pb_251_18, pb_251_31, pb_251_28, pb_251_41, pb_251_44, px_has_per hper, px_per_0 hper, px_per_1 hper, px_has_rig hrig, px_rig_0 hrig, px_rig_1 hrig, px_rig_2 hrig, px_rig_3 hrig, px_rig_4 hrig, px_rig_5 hrig, px_rig_6 hrig, px_rig_7 hrig, px_rig_9 hrig, px_rig_10 hrig, px_rig_11 hrig, px_rig_12 hrig, pr_isPerson, pr_isRight, hn1, hn4, h1, h2, Int32.reduceLE, Int32.reduceLT, pi_lt0, pm_b_eq0, pm_b_eq1, ite_not, pm_k0, pm_k1, pm_b_fit, true_and, and_true, not_true_eq_false, not_false_eq_true, ite_true, ite_false, if_true, if_false]
      with_reducible exact pm_okJ hI0
  · simp only [pb_142_0, pb_142_11, pb_142_28, pb_142_14, pb_142_25, pb_142_30, pb_142_38, pb_142_41, pb_142_44, pb_142_57, pb_142_66, pb_142_63, pb_142_82, pb_142_98, pb_251_0, pb_251_5, pb_251_16, pb_251_8, pb_251_13, pb_251_18, pb_251_31, pb_251_28, pb_251_41, pb_251_44, px_has_per hper, px_per_0 hper, px_per_1 hper, px_has_rig hrig, px_rig_0 hrig, px_rig_1 hrig, px_rig_2 hrig, px_rig_3 hrig, px_rig_4 hrig, px_rig_5 hrig, px_rig_6 hrig, px_rig_7 hrig, px_rig_9 hrig, px_rig_10 hrig, px_rig_11 hrig, px_rig_12 hrig, pr_isPerson, pr_isRight, hn1, hn4, h1, Int32.reduceLE, Int32.reduceLT, pi_lt0, pm_b_eq0, pm_b_eq1, ite_not, pm_k0, pm_k1, pm_b_fit, true_and, and_true, not_true_eq_false, not_false_eq_true, ite_true, ite_false, if_true, if_false]
    with_reducible exact pm_okJ hI0

