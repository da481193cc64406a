/-! THE CALL prove. -/
theorem ag_u {I0 I : Nat → Nat → Int32} {q : Nat} {t : Int32} {k : Nat} (hk : ¬ k = 79) (h : pm_ag I0 I) : pm_ag (pm_u I0 k q t) (pm_u I k q t) := by
  refine ⟨fun j h1 h2 => ?_, fun j hj => ?_⟩
  · rw [pm_u_row, pm_u_row]
    by_cases e : j = k
    · subst e; rw [if_pos rfl, if_pos rfl, h.1 j h1 h2]
    · rw [if_neg e, if_neg e]; exact h.1 j h1 h2
  · rw [pm_u_row, pm_u_row, if_neg (fun e => hk e.symm), if_neg (fun e => hk e.symm)]; exact h.2 j hj
/-- the reference's prove where it refuses -/
theorem pr_proveNo {d L : Nat} {b : Bool} {I : Nat → Nat → Int32} {J : Nat → Nat → Int64} {x : Nat → Nat → Int32} {x1 : Int32} {Q : Int32 → Int64 → pm_H → Prop} (hI : pm_gr x I) (hV : pm_gv I I) (q0 : 0 ≤ x1) (q1 : x1 < I 80 4) (hn : ¬ (I 99 x1.toNatClampNeg = 7 ∧ ¬ 0 ≤ I 107 x1.toNatClampNeg ∧ ¬ 0 ≤ pf_gone I x1.toNatClampNeg))
    (hQ : ∀ I', pm_ag I I' → Q (-4) 0 (pm_Gb L b, I', J)) : pm_wc pm_code pm_meta (d + 8) 213 [.ref 79, .int x1] (pm_Gb L b, I, J) Q := by
  have n := rig_n hI.2.2.2
  have i24 := rig_in hI.2.2.2 q0 q1
  simp only [pb_213_0, pr_isRight n.1, q0, q1, and_self, pm_b_t, pb_213_5, pl_1_0, if_false, pb_213_10]
  refine pr_goneMany hI hV (fun I' ag hg => ?_)
  have hq := hQ I' ag
  have e99 := ag.1 99 (by decide) (by decide)
  have e107 := ag.1 107 (by decide) (by decide)
  have e137 := hg _ (pi_tnlt q0 q1)
  by_cases c1 : I 99 x1.toNatClampNeg = 7
  · by_cases c2 : 0 ≤ I 107 x1.toNatClampNeg
    · simp only [pb_213_14, i24, e99, e107, c1, c2, if_true, true_and, pb_213_26, pb_213_44]
      exact hq
    · have c3 : 0 ≤ pf_gone I x1.toNatClampNeg := Classical.not_not.mp (fun c3 => hn ⟨c1, c2, c3⟩)
      have c4 : ¬ pf_gone I x1.toNatClampNeg < 0 := Int32.not_lt.mpr c3
      simp only [pb_213_14, i24, e99, e107, e137, c1, c2, c4, if_true, if_false, true_and, pb_213_26, pb_213_35, pb_213_44]
      exact hq
  · simp only [pb_213_14, i24, e99, c1, if_false, true_and, pb_213_44]
    exact hq
/-- the reference's prove where it is proved -/
theorem pr_proveYes {d L : Nat} {b : Bool} {I : Nat → Nat → Int32} {J : Nat → Nat → Int64} {x x2 : Nat → Nat → Int32} {x1 : Int32} {Q : Int32 → Int64 → pm_H → Prop} (hI : pm_gr x I) (hV : pm_gv I I) (hI2 : pm_gr x2 (pm_u I 107 x1.toNatClampNeg (I 80 0))) (q0 : 0 ≤ x1) (q1 : x1 < I 80 4) (c1 : I 99 x1.toNatClampNeg = 7) (c2 : ¬ 0 ≤ I 107 x1.toNatClampNeg) (c3 : ¬ 0 ≤ pf_gone I x1.toNatClampNeg)
    (hQ : ∀ I', pm_ag (pm_u I 107 x1.toNatClampNeg (I 80 0)) I' → Q (pf_goneN (pm_u I 107 x1.toNatClampNeg (I 80 0)) - pf_goneN I) 0 (pm_Gb L b, I', J)) : pm_wc pm_code pm_meta (d + 8) 213 [.ref 79, .int x1] (pm_Gb L b, I, J) Q := by
  have n := rig_n hI.2.2.2
  have i24 := rig_in hI.2.2.2 q0 q1
  simp only [pb_213_0, pr_isRight n.1, q0, q1, and_self, pm_b_t, pb_213_5, pl_1_0, if_false, pb_213_10]
  refine pr_goneMany hI hV (fun I' ag hg => ?_)
  have e99 := ag.1 99 (by decide) (by decide)
  have e107 := ag.1 107 (by decide) (by decide)
  have e80 := ag.1 80 (by decide) (by decide)
  have e137 := hg _ (pi_tnlt q0 q1)
  have c4 := Int32.not_le.mp c3
  simp only [pb_213_14, i24, e99, e107, e137, e80, c1, c2, c4, if_true, if_false, true_and, pb_213_26, pb_213_35, pb_213_47]
  have ag2 : pm_ag (pm_u I 107 x1.toNatClampNeg (I 80 0)) (pm_u I' 107 x1.toNatClampNeg (I 80 0)) := ag_u (by decide) ag
  have hV2 : pm_gv (pm_u I 107 x1.toNatClampNeg (I 80 0)) (pm_u I 107 x1.toNatClampNeg (I 80 0)) := by
    unfold pm_gv at hV ⊢
    simp only [pm_u_row, pm_zr_row, pm_r_row, pm_w_at, Nat.reduceEqDiff, Nat.reduceLT, ite_true, ite_false, if_true, if_false, ite_self]
    exact hV
  refine pr_goneMany (gr_ag hI2 ag2) (gv_ag hV2 ag2) (fun I3 ag3 hg3 => ?_)
  rw [pb_213_63]
  have := hQ I3 ⟨fun k h1 h2 => (ag3.1 k h1 h2).trans (ag2.1 k h1 h2), fun j hj => (ag3.2 j hj).trans (ag2.2 j hj)⟩
  rw [(gone_cg2 (I := pm_u I 107 x1.toNatClampNeg (I 80 0)) (I1 := pm_u I' 107 x1.toNatClampNeg (I 80 0)) (fun k h1 h2 => ag2.1 k (by omega) (by omega))).2]
  exact this
theorem po_prove {d L : Nat} {b : Bool} {I : Nat → Nat → Int32} {J : Nat → Nat → Int64} {X : Nat → Int32} {x1 : Int32} (hI : pm_inv X b I J) : pm_wc pm_code pm_meta (d + 20) 131 [.ref 8, .int x1] (pm_Gb L b, I, J) (fun v _ H => pm_wc pm_code pm_meta (d + 20) 213 [.ref 79, .int x1] H (pm_ok X L b v)) := by
  have hI0 := hI
  obtain ⟨⟨htod, hroa, hper, hhou, hthi, hrig, hver, hsea, hsta, hlot, hbuy, hdee, hple⟩, htxt, hrid, htmp, hshe, hshf, htra, hk, hkept, hcon⟩ := hI
  have hn1 := (per_n hper).1
  have hn2 := (hou_n hhou).1
  have hn3 := (thi_n hthi).1
  have hn4 := (rig_n hrig).1
  by_cases h1 : 0 ≤ x1 ∧ x1 < I 80 4
  · obtain ⟨q0, q1⟩ := h1
    have ht0 := htod.2.1
    have ht1 := htod.2.2
    simp only [pb_131_0, px_has_rig hrig, pb_131_11, q0, q1, and_self, pm_b_t, pl_1_0, if_false, pb_131_16, px_rig_0 hrig, pm_at_in, pb_131_28]
    by_cases c1 : I 99 x1.toNatClampNeg = 7
    · simp only [c1, if_true, pb_131_36, px_rig_9 hrig, pm_at_in q0 q1, pb_131_49, pm_no_eq]
      by_cases c2 : 0 ≤ I 107 x1.toNatClampNeg
      · have c2' := Int32.not_lt.mpr c2
        simp only [c2, not_true_eq_false, if_false, pb_131_54]
        exact pr_proveNo (d := d + 12) (gr_inv hI0) (gv_inv hI0) q0 q1 (fun q => q.2.1 c2) (fun I' ag => pm_okJ (inv_ag hI0 ag))
      · have c2' := Int32.not_le.mp c2
        simp only [c2, not_false_eq_true, if_true, pb_131_57]
        refine px_reckon (d := d + 13) hI0 (fun I1 hI1 hk h8 => ?_)
        have hrig1 := hI1.1.2.2.2.2.2.1
        have e80 : I1 80 = I 80 := hk 80 (by decide)
        have e99 : I1 99 = I 99 := hk 99 (by decide)
        have e107 : I1 107 = I 107 := hk 107 (by decide)
        have e9 : I1 9 = I 9 := hk 9 (by decide)
        have q1' : x1 < I1 80 4 := by rw [e80]; exact q1
        rw [pb_131_64, px_rig_8 hrig1 h8, pm_at_in q0 q1', pb_131_78]
        by_cases c3 : 0 ≤ pf_gone I1 x1.toNatClampNeg
        · have c3' := Int32.not_lt.mpr c3
          simp only [pm_no_eq, c3, not_true_eq_false, if_false, pb_131_83]
          exact pr_proveNo (d := d + 12) (gr_inv hI1) (gv_inv hI1) q0 q1' (fun q => q.2.2 c3) (fun I' ag => pm_okJ (inv_ag hI1 ag))
        · have c3' := Int32.not_le.mp c3
          simp only [pm_no_eq, c3, not_false_eq_true, if_true, pb_131_86, pt_set_18_9 hrig1.1.1, hrig1.1.2, q0, q1', and_self, pb_131_106, e9, htod.1]
          generalize hI2 : pm_u I1 19 (16 * x1.toNatClampNeg + 9) (I 80 0) = I2
          generalize hr : pm_u I1 107 x1.toNatClampNeg (I 80 0) = r
          have r2 : ∀ k, ¬ k = 19 → I2 k = I1 k := fun k h => by rw [← hI2]; exact pm_u_off h
          have r3 : ∀ k, ¬ k = 107 → r k = I1 k := fun k h => by rw [← hr]; exact pm_u_off h
          have hrig2 := rig_set9 (P := x1.toNatClampNeg) hrig1 ht0 ht1 (pm_no_nn ht0)
          have g2 : pm_gr I2 r := by
            rw [← hI2, ← hr]
            have := gr_inv hI1
            unfold pm_gr at this ⊢
            simp only [pm_u_row, pm_zr_row, pm_r_row, pm_w_at, Nat.reduceEqDiff, Nat.reduceLT, ite_true, ite_false, if_true, if_false, ite_self]
            exact ⟨this.1, this.2.1, this.2.2.1, hrig2⟩
          have v2 : pm_gv I2 r := by
            rw [← hI2, ← hr]
            have := gv_inv hI1
            unfold pm_gv at this ⊢
            simp only [pm_u_row, pm_zr_row, pm_r_row, pm_w_at, Nat.reduceEqDiff, Nat.reduceLT, ite_true, ite_false, if_true, if_false, ite_self]
            exact this
          rw [px_reckonGone (d := d + 13) g2 v2 (by rw [r2 2 (by decide), hk 2 (by decide)]; exact hcon.2.1), pb_131_113]
          generalize hI3 : pm_r I2 19 (pf_col r (I2 19)) = I3
          have r4 : ∀ k, ¬ k = 19 → I3 k = I1 k := fun k h => by rw [← hI3, pm_r_row, if_neg h]; exact r2 k h
          have s80 : I3 80 = I 80 := (r4 80 (by decide)).trans e80
          have cg := gone_cg2 (I := I1) (I1 := I3) (fun k h1 h2 => r4 k (by omega))
          have g3 : pm_gr I1 I3 := by
            have := gr_inv hI1
            unfold pm_gr at this ⊢
            simp only [r4 80 (by decide), r4 82 (by decide), r4 83 (by decide), r4 84 (by decide), r4 85 (by decide), r4 86 (by decide), r4 87 (by decide), r4 88 (by decide), r4 89 (by decide), r4 90 (by decide), r4 91 (by decide), r4 92 (by decide), r4 93 (by decide), r4 99 (by decide), r4 100 (by decide), r4 101 (by decide), r4 102 (by decide), r4 103 (by decide), r4 104 (by decide), r4 105 (by decide), r4 106 (by decide), r4 107 (by decide), r4 108 (by decide), r4 109 (by decide), r4 110 (by decide), r4 111 (by decide)]
            exact this
          have v3 : pm_gv I3 I3 := by
            have := gv_inv hI1
            unfold pm_gv at this ⊢
            simp only [r4 20 (by decide), r4 21 (by decide), r4 22 (by decide), r4 23 (by decide), r4 24 (by decide), r4 25 (by decide), r4 80 (by decide), r4 112 (by decide), r4 113 (by decide), r4 114 (by decide), r4 115 (by decide), r4 116 (by decide), r4 117 (by decide), r4 118 (by decide), r4 119 (by decide), r4 120 (by decide), r4 121 (by decide), r4 122 (by decide), r4 123 (by decide)]
            exact this
          have er : ∀ k, 80 ≤ k → pm_u I3 107 x1.toNatClampNeg (I 80 0) k = r k := fun k h => by
            rw [← hr, pm_u_row, pm_u_row, r4 k (by omega), r4 107 (by decide)]
          have g4 : pm_gr I2 (pm_u I3 107 x1.toNatClampNeg (I 80 0)) := by
            unfold pm_gr at g2 ⊢
            simp only [er 80 (by decide), er 82 (by decide), er 83 (by decide), er 84 (by decide), er 85 (by decide), er 86 (by decide), er 87 (by decide), er 88 (by decide), er 89 (by decide), er 90 (by decide), er 91 (by decide), er 92 (by decide), er 93 (by decide), er 99 (by decide), er 100 (by decide), er 101 (by decide), er 102 (by decide), er 103 (by decide), er 104 (by decide), er 105 (by decide), er 106 (by decide), er 107 (by decide), er 108 (by decide), er 109 (by decide), er 110 (by decide), er 111 (by decide)]
            exact g2
          have hinv : pm_inv X b (pm_u I3 107 x1.toNatClampNeg (I 80 0)) J := by
            have key : pm_inv X b (pm_u (pm_r (pm_u I1 19 (16 * x1.toNatClampNeg + 9) (I 80 0)) 19 (pf_col r (I2 19))) 107 x1.toNatClampNeg (I 80 0)) J := by
              have hcr := rig_cr (g := pf_gr (pf_ow r) (r 106)) (r 80 4).toNatClampNeg 0 _ hrig2
              have e19 : I2 19 = pm_w (I1 19) (16 * x1.toNatClampNeg + 9) (I 80 0) := by rw [← hI2, pm_u_row, if_pos rfl]
              have hcr2 : pg_rig (I1 18) (pf_col r (I2 19)) (I1 80 4) (I1 80 1) (I1 80 2) (I1 80 3) (I1 99) (I1 100) (I1 101) (I1 102) (I1 103) (I1 104) (I1 105) (I1 106) (pm_w (I1 107) x1.toNatClampNeg (I 80 0)) (I1 108) (I1 109) (I1 110) (I1 111) := by rw [e19]; exact hcr
              clear hcr e19 g4 er v3 g3 cg s80 r4 hI3 v2 g2 hrig2 r3 r2 hr hI2 h8 hk
              obtain ⟨⟨htod, hroa, hper, hhou, hthi, hrig, hver, hsea, hsta, hlot, hbuy, hdee, hple⟩, htxt, hrid, htmp, hshe, hshf, htra, hk, hkept, hcon⟩ := hI1
              simp only [pm_inv, pm_land, pm_u_row, pm_zr_row, pm_w_at, Nat.reduceEqDiff, ite_true, ite_false, pm_kept_u, pm_kept_z, pm_kept_r, pm_r_row, ne_eq, not_false_eq_true, Nat.reduceLT, hcon, htod, hroa, hper, hhou, hthi, hrig, hver, hsea, hsta, hlot, hbuy, hdee, hple, htxt, hrid, htmp, hshe, hshf, htra, hk, hkept, true_and, and_true]
              exact hcr2
            rw [hI2, hI3] at key
            exact key
          have c3r : ¬ 0 ≤ pf_gone I3 x1.toNatClampNeg := by rw [cg.1]; exact c3
          refine pr_proveYes (d := d + 12) (x2 := I2) g3 v3 (by rw [s80]; exact g4) q0 (by rw [s80]; exact q1) (by rw [r4 99 (by decide), e99]; exact c1) (by rw [r4 107 (by decide), e107]; exact c2) c3r (fun I' ag => ?_)
          rw [s80] at ag ⊢
          refine pm_okI2 ?_ (inv_ag hinv ag)
          rw [cg.2, (gone_cg2 (I := r) (I1 := pm_u I3 107 x1.toNatClampNeg (I 80 0)) (fun k h1 _ => er k h1)).2]
    · simp only [c1, if_false, pb_131_33]
      exact pr_proveNo (d := d + 12) (gr_inv hI0) (gv_inv hI0) q0 q1 (fun q => c1 q.1) (fun I' ag => pm_okJ (inv_ag hI0 ag))
  · simp only [pb_131_0, px_has_rig hrig, pb_131_11, pm_b_f h1, if_true, pb_131_14, pb_213_0, pr_isRight hn4, pb_213_5, pb_213_8]
    with_reducible exact pm_okJ hI0
theorem po_pension {d L : Nat} {b : Bool} {I : Nat → Nat → Int32} {J : Nat → Nat → Int64} {X : Nat → Int32} {x1 x2 : Int32} (hI : pm_inv X b I J) : pm_wc pm_code pm_meta (d + 20) 141 [.ref 8, .int x1, .int x2] (pm_Gb L b, I, J) (fun v _ H => pm_wc pm_code pm_meta (d + 20) 250 [.ref 79, .int x1, .int x2] H (pm_ok X L b v)) := by
  have hI0 := hI
  obtain ⟨⟨htod, hroa, hper, hhou, hthi, hrig, hver, hsea, hsta, hlot, hbuy, hdee, hple⟩, htxt, hrid, htmp, hshe, hshf, htra, hk, hkept, hcon⟩ := hI
  have hn1 := (per_n hper).1
  have hn2 := (hou_n hhou).1
  have hn3 := (thi_n hthi).1
  have hn4 := (rig_n hrig).1
  by_cases h1 : 0 ≤ x1 ∧ x1 < I 80 1
  · obtain ⟨p0, p1⟩ := h1
    have i16 := per_in hper p0 p1
    by_cases h2 : 0 ≤ x2 ∧ x2 ≤ 39
    · have ed : x2 * 90 + 90 - 1 = 90 * x2 + 89 := by rw [Int32.mul_comm, Int32.sub_eq_add_neg, Int32.add_assoc]; rfl
      simp only [pb_141_0, px_has_per hper, pb_141_11, p0, p1, and_self, pm_b_t, pl_1_0, if_false, pb_141_14, px_isWithin, h2, pb_141_21, pb_141_26, px_isAlive hper, pm_at_in, alive_eq, pb_141_45, ed]
      by_cases c3 : (I 82 x1.toNatClampNeg ≤ 90 * x2 + 89 ∧ (¬ 0 ≤ I 83 x1.toNatClampNeg ∨ 90 * x2 + 89 ≤ I 83 x1.toNatClampNeg))
      · simp only [eq_true c3, pm_b_t, pl_1_0, if_false, pb_141_50]
        refine px_reckon (d := d + 13) hI0 (fun I1 hI1 hk h8 => ?_)
        have hrig1 := hI1.1.2.2.2.2.2.1
        have e80 : I1 80 = I 80 := hk 80 (by decide)
        have e82 : I1 82 = I 82 := hk 82 (by decide)
        have e83 : I1 83 = I 83 := hk 83 (by decide)
        rw [pb_141_57, px_pensions (d := d + 17) hrig1 h8, pb_141_67]
        simp only [pb_250_0, pr_isPerson (I := I1) (by rw [e80]; exact hn1), e80, pb_250_5, p0, p1, and_self, pm_b_t, pl_1_0, if_false, pb_250_8, pr_in, h2, pb_250_15, pb_250_20, pr_lives i16, e82, e83, eq_true c3, pb_250_34, pb_250_39]
        refine pr_findGone (d := d + 13) (gr_inv hI1) (gv_inv hI1) (fun I' ag hg => ?_)
        have a := fun k (h : ¬ k = 79) (h2 : ¬ k = 137) => ag.1 k h h2
        have hn := rig_n hrig1
        rw [pb_250_43, pr_pension_loop (d := d + 19) (by rw [a 80 (by decide) (by decide)]; exact hn.1) (by rw [a 80 (by decide) (by decide)]; exact hn.2)]
        refine pm_okI2 ?_ (inv_ag hI1 ag)
        simp only [a 80 (by decide) (by decide), a 99 (by decide) (by decide), a 101 (by decide) (by decide), a 102 (by decide) (by decide), a 103 (by decide) (by decide), a 104 (by decide) (by decide), ← e80]
        refine fo_cg0 hn.1 (rig_l hrig1) (fun s i i0 i1 => ?_)
        rw [hg _ (pi_tnlt i0 i1)]
      · simp only [pm_b_f c3, if_true, pb_141_48, pb_250_0, pr_isPerson hn1, pb_250_5, p0, p1, and_self, pm_b_t, pl_1_0, if_false, pb_250_8, pr_in, h2, pb_250_15, pb_250_20, pr_lives i16, pb_250_34, pb_250_37]
        with_reducible exact pm_okJ hI0
    · simp only [pb_141_0, px_has_per hper, pb_141_11, p0, p1, and_self, pm_b_t, pm_b_f h2, pl_1_0, if_false, if_true, pb_141_14, px_isWithin, pb_141_21, pb_141_24, pb_250_0, pr_isPerson hn1, pb_250_5, pb_250_8, pr_in, pb_250_15, pb_250_18]
      with_reducible exact pm_okJ hI0
  · simp only [pb_141_0, px_has_per hper, pb_141_11, pm_b_f h1, if_true, pb_141_24, pb_250_0, pr_isPerson hn1, pb_250_5, pb_250_18]
    with_reducible exact pm_okJ hI0

