/-! What stands, and the ranks: the reference; stands, why, rank. -/
theorem inv_70 {X : Nat → Int32} {b : Bool} {I : Nat → Nat → Int32} {J : Nat → Nat → Int64} {t : Int32} (hI : pm_inv X b I J) : pm_inv X b (pm_u I 79 70 t) J := by
  have hI0 := hI
  obtain ⟨⟨htod, hroa, hper, hhou, hthi, hrig, hver, hsea, hsta, hlot, hbuy, hdee, hple⟩, htxt, hrid, htmp, hshe, hshf, htra, hk, hkept, hcon⟩ := hI
  have hn1 := (per_n hper).1
  have hn2 := (hou_n hhou).1
  have hn3 := (thi_n hthi).1
  have hn4 := (rig_n hrig).1
  simp only [pm_inv, pm_land, pm_u_row, pm_zr_row, pm_w_at, Nat.reduceEqDiff, ite_true, ite_false, pm_kept_u, pm_kept_z, pm_kept_r, pm_r_row, ne_eq, not_false_eq_true, Nat.reduceLT, hcon, htod, hroa, hper, hhou, hthi, hrig, hver, hsea, hsta, hlot, hbuy, hdee, hple, htxt, hrid, htmp, hshe, hshf, htra, hk, hkept, true_and, and_true]
theorem pr_doesStand {d L : Nat} {b : Bool} {I : Nat → Nat → Int32} {J : Nat → Nat → Int64} {q : Int32} {Q : Int32 → Int64 → pm_H → Prop} (h : pg_ver (I 20) (I 21) (I 22) (I 23) (I 24) (I 25) (I 80 5) (I 80 0) (I 112) (I 113) (I 114) (I 115) (I 116) (I 117) (I 118) (I 119) (I 120) (I 121) (I 122) (I 123))
    (i24 : pm_in q 24 = true) (i8 : pm_in (I 100 q.toNatClampNeg) 8 = true) (i16 : pm_in (I 101 q.toNatClampNeg) 16 = true) :
    pm_wc pm_code pm_meta (d + 5) 241 [.ref 79, .int q] (pm_Gb L b, I, J) Q ↔ Q (pm_b (pf_rf (I 117) (I 119) 0 (pf_tl (pf_ans (I 85) (I 100) (I 102) (I 99) (I 105) (I 88) (I 101) (I 82) (I 83) q) (I 112) (I 113) (I 114) (I 115) (I 117) (I 118) (I 120) (I 121) (I 122) (I 123) (I 80 5) (I 88 (I 100 q.toNatClampNeg).toNatClampNeg) (I 99 q.toNatClampNeg) 0 4) = 0)) 0 (pm_Gb L b, pm_u I 79 70 (pf_why (pf_tl (pf_ans (I 85) (I 100) (I 102) (I 99) (I 105) (I 88) (I 101) (I 82) (I 83) q) (I 112) (I 113) (I 114) (I 115) (I 117) (I 118) (I 120) (I 121) (I 122) (I 123) (I 80 5) (I 88 (I 100 q.toNatClampNeg).toNatClampNeg) (I 99 q.toNatClampNeg) 0 4)), J) := by
  rw [pb_241_0, pr_ruleFor h i24 i8 i16 (Or.inl rfl), pb_241_6]
  by_cases hs : pf_rf (I 117) (I 119) 0 (pf_tl (pf_ans (I 85) (I 100) (I 102) (I 99) (I 105) (I 88) (I 101) (I 82) (I 83) q) (I 112) (I 113) (I 114) (I 115) (I 117) (I 118) (I 120) (I 121) (I 122) (I 123) (I 80 5) (I 88 (I 100 q.toNatClampNeg).toNatClampNeg) (I 99 q.toNatClampNeg) 0 4) = 0
  · simp only [eq_true hs, if_true, pb_241_9, pb_241_14, pm_b_t, pm_k1, true_and]
  · simp only [eq_false hs, if_false, pb_241_13, pb_241_14, pm_b, pm_k0, true_and]
theorem pr_rankOf {d L : Nat} {b : Bool} {I : Nat → Nat → Int32} {J : Nat → Nat → Int64} {q : Int32} {Q : Int32 → Int64 → pm_H → Prop} (h : pg_ver (I 20) (I 21) (I 22) (I 23) (I 24) (I 25) (I 80 5) (I 80 0) (I 112) (I 113) (I 114) (I 115) (I 116) (I 117) (I 118) (I 119) (I 120) (I 121) (I 122) (I 123))
    (i24 : pm_in q 24 = true) (i8 : pm_in (I 100 q.toNatClampNeg) 8 = true) (i16 : pm_in (I 101 q.toNatClampNeg) 16 = true) :
    pm_wc pm_code pm_meta (d + 5) 244 [.ref 79, .int q] (pm_Gb L b, I, J) Q ↔ Q (pf_rnk (pf_rf (I 117) (I 119) 1 (pf_tl (pf_ans (I 85) (I 100) (I 102) (I 99) (I 105) (I 88) (I 101) (I 82) (I 83) q) (I 112) (I 113) (I 114) (I 115) (I 117) (I 118) (I 120) (I 121) (I 122) (I 123) (I 80 5) (I 88 (I 100 q.toNatClampNeg).toNatClampNeg) (I 99 q.toNatClampNeg) 1 4))) 0 (pm_Gb L b, pm_u I 79 70 (pf_why (pf_tl (pf_ans (I 85) (I 100) (I 102) (I 99) (I 105) (I 88) (I 101) (I 82) (I 83) q) (I 112) (I 113) (I 114) (I 115) (I 117) (I 118) (I 120) (I 121) (I 122) (I 123) (I 80 5) (I 88 (I 100 q.toNatClampNeg).toNatClampNeg) (I 99 q.toNatClampNeg) 1 4)), J) := by
  rw [pb_244_0, pr_ruleFor h i24 i8 i16 (Or.inr rfl), pb_244_6]
  unfold pf_rnk
  by_cases hs : 0 ≤ pf_rf (I 117) (I 119) 1 (pf_tl (pf_ans (I 85) (I 100) (I 102) (I 99) (I 105) (I 88) (I 101) (I 82) (I 83) q) (I 112) (I 113) (I 114) (I 115) (I 117) (I 118) (I 120) (I 121) (I 122) (I 123) (I 80 5) (I 88 (I 100 q.toNatClampNeg).toNatClampNeg) (I 99 q.toNatClampNeg) 1 4)
  · simp only [eq_true hs, if_true, pb_244_16, pb_244_17]
  · simp only [eq_false hs, if_false, pb_244_11, pb_244_17]
theorem px_refFall {d L : Nat} {b : Bool} {I : Nat → Nat → Int32} {J : Nat → Nat → Int64} {q : Int32} {nn nP nH nT : Int32} {kind house person amount frr to is leans proved seals told wit witOf : Nat → Int32} {todayh : Int32} {place order coin fear fell stripped due roll rollday had : Nat → Int32} {Q : Int32 → Int64 → pm_H → Prop} (hr : pg_rig (I 18) (I 19) nn nP nH nT kind house person amount frr to is leans proved seals told wit witOf)
    (hh : pg_hou (I 14) (I 15) nH todayh place order coin fear fell stripped due roll rollday had) :
    pm_wc pm_code pm_meta (d + 3) 140 [.ref 8, .int q] (pm_Gb L b, I, J) Q ↔ Q (if 0 ≤ q ∧ q < nn then (if 0 ≤ fell (house q.toNatClampNeg).toNatClampNeg then 0 else -4) else -1) 0 (pm_Gb L b, I, J) := by
  rw [pb_140_0, pt_has_18, hr.1.2, pb_140_11]
  by_cases h1 : 0 ≤ q ∧ q < nn
  · obtain ⟨q0, q1⟩ := h1
    obtain ⟨_, _, g⟩ := hr.2 _ (pi_tnlt q0 q1)
    have hh0 := g.2.2.1
    have hh1 := g.2.2.2.1
    simp only [q0, q1, and_self, if_true, pm_b_t, show ¬ (1 : Int32) = 0 from by decide, if_false, pb_140_16, px_rig_1 hr, pm_at_in, pb_140_32, px_hasFallen hh, hh0, hh1, pb_140_35, pm_b_eq0]
    by_cases hf : 0 ≤ fell (house q.toNatClampNeg).toNatClampNeg
    · have e : ¬ pm_no (fell (house q.toNatClampNeg).toNatClampNeg) = -3 := by rw [pm_no_nn hf]; intro g; rw [g] at hf; exact absurd hf (by decide)
      simp only [e, not_false_eq_true, not_true_eq_false, if_false, if_true, hf, pb_140_38, pb_140_44]
    · have e : pm_no (fell (house q.toNatClampNeg).toNatClampNeg) = -3 := by unfold pm_no; exact if_pos (Int32.not_le.mp hf)
      simp only [e, not_true_eq_false, not_false_eq_true, if_false, if_true, hf, pb_140_42, pb_140_44]
  · simp only [h1, if_false, pm_b, if_true, pb_140_14]
theorem po_stands {d L : Nat} {b : Bool} {I : Nat → Nat → Int32} {J : Nat → Nat → Int64} {X : Nat → Int32} {x1 : Int32} (hI : pm_inv X b I J) : pm_wc pm_code pm_meta (d + 20) 136 [.ref 8, .int x1] (pm_Gb L b, I, J) (fun v _ H => pm_wc pm_code pm_meta (d + 20) 242 [.ref 79, .int x1] H (pm_ok X L b v)) := by
  have hI0 := hI
  obtain ⟨⟨htod, hroa, hper, hhou, hthi, hrig, hver, hsea, hsta, hlot, hbuy, hdee, hple⟩, htxt, hrid, htmp, hshe, hshf, htra, hk, hkept, hcon⟩ := hI
  have hn1 := (per_n hper).1
  have hn2 := (hou_n hhou).1
  have hn3 := (thi_n hthi).1
  have hn4 := (rig_n hrig).1
  have hv := ver_n hver
  rw [pb_136_0, px_refFall (d := d + 16) hrig hhou]
  by_cases h1 : 0 ≤ x1 ∧ x1 < I 80 4
  · obtain ⟨a1, a2⟩ := h1
    obtain ⟨_, _, g⟩ := hrig.2 _ (pi_tnlt a1 a2)
    have hh0 := g.2.2.1
    have hh1 := g.2.2.2.1
    have i24 := rig_in hrig a1 a2
    have i8 := hou_in hhou hh0 hh1
    have i16 := per_in hper g.2.2.2.2.1 g.2.2.2.2.2.1
    by_cases hf : 0 ≤ I 88 (I 100 x1.toNatClampNeg).toNatClampNeg
    · simp only [a1, a2, and_self, if_true, hf, pb_136_5]
      rw [pb_136_12, px_isStanding (d := d + 14) hver hrig hhou hper hcon.2.1 a1 a2 hf]
      by_cases hs : pf_rf (I 117) (I 119) 0 (pf_tl (pf_ans (I 85) (I 100) (I 102) (I 99) (I 105) (I 88) (I 101) (I 82) (I 83) x1) (I 112) (I 113) (I 114) (I 115) (I 117) (I 118) (I 120) (I 121) (I 122) (I 123) (I 80 5) (I 88 (I 100 x1.toNatClampNeg).toNatClampNeg) (I 99 x1.toNatClampNeg) 0 4) = 0
      · simp only [eq_true hs, pm_b_t, pb_136_20, show ¬ (1 : Int32) = 0 from by decide, if_false, pb_136_23, pb_136_28, pb_242_0, pr_isRight hn4, a1, a2, and_self, not_false_eq_true, if_true, pm_b_t, show ¬ (1 : Int32) = 0 from by decide, if_false, i24, true_and, pr_hasFallen, i8, hf, pb_242_5, pb_242_10, pb_242_20, pb_242_26, pr_doesStand (d := d + 14) hver i24 i8 i16, pb_242_31, pb_242_34, pb_242_39]
        with_reducible exact pm_okJ (inv_70 hI0)
      · simp only [eq_false hs, pm_b_f, not_false_eq_true, pb_136_20, if_true, pb_136_27, pb_136_28, pb_242_0, pr_isRight hn4, a1, a2, and_self, not_false_eq_true, if_true, pm_b_t, show ¬ (1 : Int32) = 0 from by decide, if_false, i24, true_and, pr_hasFallen, i8, hf, pb_242_5, pb_242_10, pb_242_20, pb_242_26, pr_doesStand (d := d + 14) hver i24 i8 i16, pb_242_31, pb_242_38, pb_242_39]
        with_reducible exact pm_okJ (inv_70 hI0)
    · simp only [a1, a2, and_self, if_true, if_false, hf, pb_136_5, pb_136_10,  show ¬ (-4 : Int32) = 0 from by decide, pb_242_0, pr_isRight hn4, pb_242_5, pm_b_t, show ¬ (1 : Int32) = 0 from by decide, pb_242_10, i24, true_and, pr_hasFallen, i8, pb_242_20, pm_b, if_true, pb_242_23]
      with_reducible exact pm_okJ hI0
  · simp only [h1, if_false, pb_136_5, pb_136_10,  show ¬ (-1 : Int32) = 0 from by decide, pb_242_0, pr_isRight hn4, pb_242_5, pm_b, if_true, pb_242_8]
    with_reducible exact pm_okJ hI0
theorem po_rank {d L : Nat} {b : Bool} {I : Nat → Nat → Int32} {J : Nat → Nat → Int64} {X : Nat → Int32} {x1 : Int32} (hI : pm_inv X b I J) : pm_wc pm_code pm_meta (d + 20) 138 [.ref 8, .int x1] (pm_Gb L b, I, J) (fun v _ H => pm_wc pm_code pm_meta (d + 20) 245 [.ref 79, .int x1] H (pm_ok X L b v)) := by
  have hI0 := hI
  obtain ⟨⟨htod, hroa, hper, hhou, hthi, hrig, hver, hsea, hsta, hlot, hbuy, hdee, hple⟩, htxt, hrid, htmp, hshe, hshf, htra, hk, hkept, hcon⟩ := hI
  have hn1 := (per_n hper).1
  have hn2 := (hou_n hhou).1
  have hn3 := (thi_n hthi).1
  have hn4 := (rig_n hrig).1
  have hv := ver_n hver
  rw [pb_138_0, px_refFall (d := d + 16) hrig hhou]
  by_cases h1 : 0 ≤ x1 ∧ x1 < I 80 4
  · obtain ⟨a1, a2⟩ := h1
    obtain ⟨_, _, g⟩ := hrig.2 _ (pi_tnlt a1 a2)
    have hh0 := g.2.2.1
    have hh1 := g.2.2.2.1
    have i24 := rig_in hrig a1 a2
    have i8 := hou_in hhou hh0 hh1
    have i16 := per_in hper g.2.2.2.2.1 g.2.2.2.2.2.1
    by_cases hf : 0 ≤ I 88 (I 100 x1.toNatClampNeg).toNatClampNeg
    · simp only [a1, a2, and_self, if_true, hf, pb_138_5]
      rw [pb_138_14, px_rankOf (d := d + 14) hver hrig hhou hper hcon.2.1 a1 a2 hf]
      simp only [pb_138_22, pb_245_0, pr_isRight hn4, a1, a2, and_self, not_false_eq_true, if_true, pm_b_t, show ¬ (1 : Int32) = 0 from by decide, if_false, i24, true_and, pr_hasFallen, i8, hf, pb_245_5, pb_245_10, pb_245_20, pb_245_23, pr_rankOf (d := d + 14) hver i24 i8 i16, pb_245_28, pb_245_33]
      with_reducible exact pm_okJ (inv_70 hI0)
    · simp only [a1, a2, and_self, if_true, if_false, hf, pb_138_5, pb_138_10, pb_138_22, show ¬ (-4 : Int32) = 0 from by decide, pb_245_0, pr_isRight hn4, pb_245_5, pm_b_t, show ¬ (1 : Int32) = 0 from by decide, pb_245_10, i24, true_and, pr_hasFallen, i8, pb_245_20, pm_b, if_true, pb_245_31, pb_245_33]
      with_reducible exact pm_okJ hI0
  · simp only [h1, if_false, pb_138_5, pb_138_10, pb_138_22, show ¬ (-1 : Int32) = 0 from by decide, pb_245_0, pr_isRight hn4, pb_245_5, pm_b, if_true, pb_245_8]
    with_reducible exact pm_okJ hI0
theorem pm_u_at {α : Type} (f : Nat → Nat → α) (a k : Nat) (v : α) : pm_u f a k v a k = v := if_pos ⟨rfl, rfl⟩
theorem po_why {d L : Nat} {b : Bool} {I : Nat → Nat → Int32} {J : Nat → Nat → Int64} {X : Nat → Int32} {x1 : Int32} (hI : pm_inv X b I J) : pm_wc pm_code pm_meta (d + 20) 137 [.ref 8, .int x1] (pm_Gb L b, I, J) (fun v _ H => pm_wc pm_code pm_meta (d + 20) 243 [.ref 79, .int x1] H (pm_ok X L b v)) := by
  have hI0 := hI
  obtain ⟨⟨htod, hroa, hper, hhou, hthi, hrig, hver, hsea, hsta, hlot, hbuy, hdee, hple⟩, htxt, hrid, htmp, hshe, hshf, htra, hk, hkept, hcon⟩ := hI
  have hn1 := (per_n hper).1
  have hn2 := (hou_n hhou).1
  have hn3 := (thi_n hthi).1
  have hn4 := (rig_n hrig).1
  have hv := ver_n hver
  rw [pb_137_0, px_refFall (d := d + 16) hrig hhou]
  by_cases h1 : 0 ≤ x1 ∧ x1 < I 80 4
  · obtain ⟨a1, a2⟩ := h1
    obtain ⟨_, _, g⟩ := hrig.2 _ (pi_tnlt a1 a2)
    have hh0 := g.2.2.1
    have hh1 := g.2.2.2.1
    have i24 := rig_in hrig a1 a2
    have i8 := hou_in hhou hh0 hh1
    have i16 := per_in hper g.2.2.2.2.1 g.2.2.2.2.2.1
    by_cases hf : 0 ≤ I 88 (I 100 x1.toNatClampNeg).toNatClampNeg
    · simp only [a1, a2, and_self, if_true, hf, pb_137_5]
      rw [pb_137_14, px_tells (d := d + 15) hver hrig hhou hper hcon.2.1 a1 a2 hf (Or.inl rfl)]
      simp only [pb_137_23, pb_243_0, pr_isRight hn4, a1, a2, and_self, not_false_eq_true, if_true, pm_b_t, show ¬ (1 : Int32) = 0 from by decide, if_false, i24, true_and, pr_hasFallen, i8, hf, pb_243_5, pb_243_10, pb_243_20, pb_243_26, pr_ruleFor (d := d + 15) hver i24 i8 i16 (Or.inl rfl), pb_243_32]
      generalize hT : pf_tl (pf_ans (I 85) (I 100) (I 102) (I 99) (I 105) (I 88) (I 101) (I 82) (I 83) x1) (I 112) (I 113) (I 114) (I 115) (I 117) (I 118) (I 120) (I 121) (I 122) (I 123) (I 80 5) (I 88 (I 100 x1.toNatClampNeg).toNatClampNeg) (I 99 x1.toNatClampNeg) 0 4 = t
      cases t with
      | none =>
        simp only [pf_rf, pf_why, show ¬ (0 : Int32) ≤ -1 from by decide, if_false, pb_243_37, pb_243_46]
        with_reducible exact pm_okJ (inv_70 hI0)
      | some wi =>
        obtain ⟨w, i⟩ := wi
        obtain ⟨⟨w0, w1⟩, ⟨i0, i1⟩, hfit⟩ := tl_some hv.1 (ver_l hver) (ver_rl hver) 4 w i hT
        have hk := (ver_rule hver w0 w1 i0 i1).2.1
        simp only [pf_rf, pf_why, if_true, hk, pb_243_42, pm_u_at, pb_243_46]
        with_reducible exact pm_okJ (inv_70 hI0)
    · simp only [a1, a2, and_self, if_true, if_false, hf, pb_137_5, pb_137_10, pb_137_23, show ¬ (-4 : Int32) = 0 from by decide, pb_243_0, pr_isRight hn4, pb_243_5, pm_b_t, show ¬ (1 : Int32) = 0 from by decide, pb_243_10, i24, true_and, pr_hasFallen, i8, pb_243_20, pm_b, if_true, pb_243_23]
      with_reducible exact pm_okJ hI0
  · simp only [h1, if_false, pb_137_5, pb_137_10, pb_137_23, show ¬ (-1 : Int32) = 0 from by decide, pb_243_0, pr_isRight hn4, pb_243_5, pm_b, if_true, pb_243_8]
    with_reducible exact pm_okJ hI0

