/-! THE CALLS show and prove. -/
theorem gone_cg2 {I I1 : Nat → Nat → Int32} (h : ∀ k, 80 ≤ k → k < 136 → I1 k = I k) : pf_gone I1 = pf_gone I ∧ pf_goneN I1 = pf_goneN I := by
  have e : pf_ow I1 = pf_ow I := by
    funext q
    unfold pf_ow
    simp only [h 80 (by decide) (by decide), h 82 (by decide) (by decide), h 83 (by decide) (by decide), h 85 (by decide) (by decide), h 88 (by decide) (by decide), h 99 (by decide) (by decide), h 100 (by decide) (by decide), h 101 (by decide) (by decide), h 102 (by decide) (by decide), h 105 (by decide) (by decide), h 106 (by decide) (by decide), h 107 (by decide) (by decide), h 112 (by decide) (by decide), h 113 (by decide) (by decide), h 114 (by decide) (by decide), h 115 (by decide) (by decide), h 116 (by decide) (by decide), h 117 (by decide) (by decide), h 118 (by decide) (by decide), h 119 (by decide) (by decide), h 120 (by decide) (by decide), h 121 (by decide) (by decide), h 122 (by decide) (by decide), h 123 (by decide) (by decide)]
  unfold pf_gone pf_goneN
  rw [e, h 106 (by decide) (by decide), h 80 (by decide) (by decide)]
  exact ⟨rfl, rfl⟩
theorem po_show {d L : Nat} {b : Bool} {I : Nat → Nat → Int32} {J : Nat → Nat → Int64} {X : Nat → Int32} {x1 x2 : Int32} (hI : pm_inv X b I J) : pm_wc pm_code pm_meta (d + 20) 125 [.ref 8, .int x1, .int x2] (pm_Gb L b, I, J) (fun v _ H => pm_wc pm_code pm_meta (d + 20) 203 [.ref 79, .int x1, .int x2] H (pm_ok X L b v)) := by
  have hI0 := hI
  obtain ⟨⟨htod, hroa, hper, hhou, hthi, hrig, hver, hsea, hsta, hlot, hbuy, hdee, hple⟩, htxt, hrid, htmp, hshe, hshf, htra, hk, hkept, hcon⟩ := hI
  have hn1 := (per_n hper).1
  have hn2 := (hou_n hhou).1
  have hn3 := (thi_n hthi).1
  have hn4 := (rig_n hrig).1
  by_cases ht : 0 ≤ x1 ∧ x1 < I 80 3
  · obtain ⟨t0, t1⟩ := ht
    by_cases hp : 0 ≤ x2 ∧ x2 < I 80 1
    · obtain ⟨p0, p1⟩ := hp
      have i24 := thi_in hthi t0 t1
      have i16 := per_in hper p0 p1
      have st : ∀ (hn : ¬ (I 97 x1.toNatClampNeg = 1 ∧ (I 82 x2.toNatClampNeg ≤ I 80 0 ∧ (¬ 0 ≤ I 83 x2.toNatClampNeg ∨ I 80 0 ≤ I 83 x2.toNatClampNeg)))), pm_wc pm_code pm_meta (d + 20) 203 [.ref 79, .int x1, .int x2] (pm_Gb L b, I, J) (pm_ok X L b (-4)) := fun hn => by
        refine pr_show (d := d + 13) (x := I) (gr_inv hI0) (gv_inv hI0) i24 i16 t0 t1 p0 p1 (fun I' ag => ?_)
        rw [if_neg (fun q => hn ⟨q.1, q.2.2⟩)]
        with_reducible exact pm_okJ (inv_ag hI0 ag)
      simp only [pb_125_0, px_has_thi hthi, pb_125_11, pb_125_14, px_has_per hper, pb_125_25, pb_125_30, px_thi_3 hthi, pm_at_in, t0, t1, p0, p1, and_self, pm_b_t, pl_1_0, if_false, pb_125_42]
      by_cases c1 : I 97 x1.toNatClampNeg = 1
      · by_cases c3 : (I 82 x2.toNatClampNeg ≤ I 80 0 ∧ (¬ 0 ≤ I 83 x2.toNatClampNeg ∨ I 80 0 ≤ I 83 x2.toNatClampNeg))
        · simp only [c1, if_true, pb_125_46, px_isAlive hper, pm_at_in p0 p1, alive_eq, htod.1, eq_true c3, pm_b_t, pb_125_61, pl_1_0, if_false, pb_125_67]
          refine px_reckon (d := d + 13) hI0 (fun I1 hI1 hk h8 => ?_)
          have hthi1 := hI1.1.2.2.2.2.1
          have hrig1 := hI1.1.2.2.2.2.2.1
          have e80 : I1 80 = I 80 := hk 80 (by decide)
          have t1' : x1 < I1 80 3 := by rw [e80]; exact t1
          have p1' : x2 < I1 80 1 := by rw [e80]; exact p1
          rw [pb_125_74, px_thi_0 hthi1, pm_at_in t0 t1', pb_125_92, px_hasLease (d := d + 17) hrig1 h8]
          cases hf : pm_fq (fun i => I1 99 i.toNatClampNeg = 2 ∧ ¬ 0 ≤ pf_gone I1 i.toNatClampNeg ∧ I1 101 i.toNatClampNeg = x2 ∧ I1 100 i.toNatClampNeg = I1 94 x1.toNatClampNeg) (I1 80 4).toNatClampNeg 0 with
          | none =>
            simp only [pm_oe, pb_125_95, if_true, pb_125_98]
            refine pr_show (d := d + 13) (x := I1) (gr_inv hI1) (gv_inv hI1) i24 i16 t0 t1' p0 p1' (fun I' ag => ?_)
            rw [if_neg (fun q => by have := q.2.1; rw [hf] at this; exact absurd this (by decide))]
            with_reducible exact pm_okJ (inv_ag hI1 ag)
          | some z =>
            simp only [pm_oe, pb_125_95, pl_1_0, if_false, pb_125_101, pt_set_16_4 hthi1.1.1, hthi1.1.2, t0, t1', and_self, if_true, pb_125_114]
            generalize hI2 : pm_u I1 17 (5 * x1.toNatClampNeg + 4) 1 = I2
            have r2 : ∀ k, ¬ k = 17 → I2 k = I1 k := fun k h => by rw [← hI2]; exact pm_u_off h
            have e2 := r2 80 (by decide)
            have g2 : pm_gr I1 I2 := by
              have := gr_inv hI1
              unfold pm_gr at this ⊢
              simp only [r2 80 (by decide), r2 82 (by decide), r2 83 (by decide), r2 84 (by decide), r2 85 (by decide), r2 86 (by decide), r2 87 (by decide), r2 88 (by decide), r2 89 (by decide), r2 90 (by decide), r2 91 (by decide), r2 92 (by decide), r2 93 (by decide), r2 99 (by decide), r2 100 (by decide), r2 101 (by decide), r2 102 (by decide), r2 103 (by decide), r2 104 (by decide), r2 105 (by decide), r2 106 (by decide), r2 107 (by decide), r2 108 (by decide), r2 109 (by decide), r2 110 (by decide), r2 111 (by decide)]
              exact this
            have v2 : pm_gv I2 I2 := by
              have := gv_inv hI1
              unfold pm_gv at this ⊢
              simp only [r2 20 (by decide), r2 21 (by decide), r2 22 (by decide), r2 23 (by decide), r2 24 (by decide), r2 25 (by decide), r2 80 (by decide), r2 112 (by decide), r2 113 (by decide), r2 114 (by decide), r2 115 (by decide), r2 116 (by decide), r2 117 (by decide), r2 118 (by decide), r2 119 (by decide), r2 120 (by decide), r2 121 (by decide), r2 122 (by decide), r2 123 (by decide)]
              exact this
            have cg := (gone_cg2 (I := I1) (I1 := I2) (fun k h1 h2 => r2 k (by omega))).1
            refine pr_show (d := d + 13) (x := I1) g2 v2 i24 i16 t0 (by rw [e2]; exact t1') p0 (by rw [e2]; exact p1') (fun I' ag => ?_)
            have a := fun k (h : ¬ k = 79) (h2 : ¬ k = 137) (h3 : ¬ k = 17) => (ag.1 k h h2).trans (r2 k h3)
            rw [if_pos ⟨by rw [r2 97 (by decide), hk 97 (by decide)]; exact c1, by
              rw [cg, r2 99 (by decide), r2 101 (by decide), r2 100 (by decide), r2 94 (by decide), r2 80 (by decide), hf]; rfl, by
              rw [r2 82 (by decide), r2 83 (by decide), r2 80 (by decide), hk 82 (by decide), hk 83 (by decide), hk 80 (by decide)]; exact c3⟩]
            refine pm_okI2 rfl ?_
            have e98 : pm_u I' 98 x1.toNatClampNeg 1 = pm_r (pm_u (pm_u I2 98 x1.toNatClampNeg 1) 79 70 (I' 79 70)) 137 (I' 137) := by
              conv => lhs; rw [ag_eq ag]
              funext k j
              simp only [pm_r_row, pm_u_row]
              by_cases k1 : k = 98
              · subst k1; simp
              · by_cases k2 : k = 137
                · subst k2; simp
                · by_cases k3 : k = 79
                  · subst k3; simp
                  · simp only [k1, k2, k3, if_false]
            rw [e98, ← hI2]
            clear hI2 r2 e2 g2 v2 cg ag a e98 st h8
            obtain ⟨⟨htod, hroa, hper, hhou, hthi, hrig, hver, hsea, hsta, hlot, hbuy, hdee, hple⟩, htxt, hrid, htmp, hshe, hshf, htra, hk, hkept, hcon⟩ := hI1
            simp only [pm_inv, pm_land, pm_u_row, pm_zr_row, pm_w_at, Nat.reduceEqDiff, ite_true, ite_false, pm_kept_u, pm_kept_z, pm_kept_r, pm_r_row, ne_eq, not_false_eq_true, Nat.reduceLT, hcon, htod, hroa, hper, hhou, hthi, hrig, hver, hsea, hsta, hlot, hbuy, hdee, hple, htxt, hrid, htmp, hshe, hshf, htra, hk, hkept, true_and, and_true]
            with_reducible exact thi_set4 hthi
        · simp only [c1, if_true, pb_125_46, px_isAlive hper, pm_at_in p0 p1, alive_eq, htod.1, pm_b_f c3, pb_125_61, pb_125_64]
          exact st (fun q => c3 q.2)
      · simp only [c1, if_false, pb_125_64]
        exact st (fun q => c1 q.1)
    · simp only [pb_125_0, px_has_thi hthi, pb_125_11, pb_125_14, px_has_per hper, pb_125_25, t0, t1, and_self, pm_b_t, pm_b_f hp, pl_1_0, if_false, if_true, pb_125_28, pb_203_0, pr_isThing hn3, pb_203_5, pb_203_8, pr_isPerson hn1, pb_203_13, pb_203_16]
      with_reducible exact pm_okJ hI0
  · simp only [pb_125_0, px_has_thi hthi, pb_125_11, pm_b_f ht, if_true, pb_125_28, pb_203_0, pr_isThing hn3, pb_203_5, pb_203_16]
    with_reducible exact pm_okJ hI0

