/-! THE CALL gets, on. -/
theorem inv_38 {X : Nat → Int32} {b : Bool} {I I' : Nat → Nat → Int32} {J : Nat → Nat → Int64} (hI : pm_inv X b I J) (h : ∀ k, ¬ k = 38 → ¬ k = 39 → I' k = I k) (ht : pm_ti (I' 38) 3 24) : pm_inv X b I' J := by
  have e : I' = pm_r (pm_r I 38 (I' 38)) 39 (I' 39) := by
    funext k j
    simp only [pm_r_row]
    by_cases h1 : k = 39
    · subst h1; rw [if_pos rfl]
    · by_cases h2 : k = 38
      · subst h2; rw [if_neg h1, if_pos rfl]
      · rw [if_neg h1, if_neg h2, h k h2 h1]
  rw [e]
  have hI0 := hI
  obtain ⟨⟨htod, hroa, hper, hhou, hthi, hrig, hver, hsea, hsta, hlot, hbuy, hdee, hple⟩, htxt, hrid, htmp, hshe, hshf, htra, hk, hkept, hcon⟩ := hI
  have hn1 := (per_n hper).1
  have hn2 := (hou_n hhou).1
  have hn3 := (thi_n hthi).1
  have hn4 := (rig_n hrig).1
  simp only [pm_inv, pm_land, pm_u_row, pm_zr_row, pm_w_at, Nat.reduceEqDiff, ite_true, ite_false, pm_kept_u, pm_kept_z, pm_kept_r, pm_r_row, ne_eq, not_false_eq_true, Nat.reduceLT, hcon, htod, hroa, hper, hhou, hthi, hrig, hver, hsea, hsta, hlot, hbuy, hdee, hple, htxt, hrid, htmp, hshe, hshf, htra, hk, hkept, true_and, and_true]
  exact ⟨ht, htmp.2⟩
theorem inv_g4 {X : Nat → Int32} {b : Bool} {I I' : Nat → Nat → Int32} {J : Nat → Nat → Int64} (hI : pm_inv X b I J) (h : pm_g4 I I') : pm_inv X b I' J := by
  have e : I' = pm_r (pm_r (pm_r (pm_u I 79 70 (I' 79 70)) 139 (I' 139)) 140 (I' 140)) 141 (I' 141) := by
    funext k j
    simp only [pm_r_row, pm_u_row]
    by_cases h1 : k = 141
    · subst h1; rw [if_pos rfl]
    · by_cases h2 : k = 140
      · subst h2; rw [if_neg h1, if_pos rfl]
      · by_cases h3 : k = 139
        · subst h3; rw [if_neg h1, if_neg h2, if_pos rfl]
        · by_cases h4 : k = 79
          · subst h4
            rw [if_neg h1, if_neg h2, if_neg h3, if_pos rfl, pm_w_at]
            split
            · next e => rw [e]
            · next e => exact h.2 j e
          · rw [if_neg h1, if_neg h2, if_neg h3, if_neg h4, h.1 k h4 h3 h2 h1]
  rw [e]
  have hI0 := hI
  obtain ⟨⟨htod, hroa, hper, hhou, hthi, hrig, hver, hsea, hsta, hlot, hbuy, hdee, hple⟩, htxt, hrid, htmp, hshe, hshf, htra, hk, hkept, hcon⟩ := hI
  have hn1 := (per_n hper).1
  have hn2 := (hou_n hhou).1
  have hn3 := (thi_n hthi).1
  have hn4 := (rig_n hrig).1
  simp only [pm_inv, pm_land, pm_u_row, pm_zr_row, pm_w_at, Nat.reduceEqDiff, ite_true, ite_false, pm_kept_u, pm_kept_z, pm_kept_r, pm_r_row, ne_eq, not_false_eq_true, Nat.reduceLT, hcon, htod, hroa, hper, hhou, hthi, hrig, hver, hsea, hsta, hlot, hbuy, hdee, hple, htxt, hrid, htmp, hshe, hshf, htra, hk, hkept, true_and, and_true]
theorem g0_rng {I : Nat → Nat → Int32} {h q : Int32} (hk : 0 ≤ (pf_g0 I h q).toInt) : pf_db I h q := by
  unfold pf_g0 at hk
  by_cases c : pf_db I h q
  · exact c
  · rw [if_neg c] at hk; exact absurd hk (by decide)
/-- class and reference behind the gathering -/
theorem gather_rel {X : Nat → Int32} {b : Bool} {I : Nat → Nat → Int32} {J : Nat → Nat → Int64} (hI : pm_inv X b I J) {h : Int32} (h0 : 0 ≤ h) (h1 : h < I 80 2) (hf : 0 ≤ I 88 h.toNatClampNeg) {s g r w : Nat → Int32}
    (hx : ∀ j : Nat, j < (I 80 4).toNatClampNeg → s (3 * j + 0) = pf_g0 I h (Int32.ofNat j) ∧ s (3 * j + 1) = pf_g1 I h (Int32.ofNat j) ∧ s (3 * j + 2) = pf_g2 I h (Int32.ofNat j))
    (hr : ∀ j : Nat, j < (I 80 4).toNatClampNeg → r j = pf_g0 I h (Int32.ofNat j) ∧ w j = pf_g1 I h (Int32.ofNat j) ∧ g j = pf_g2 I h (Int32.ofNat j)) :
    pf_rel r w (I 102) (I 80 4) 0 (s, pf_cn I h (I 80 4).toNatClampNeg) (g, pf_cn I h (I 80 4).toNatClampNeg) := by
  have hn := rig_n hI.1.2.2.2.2.2.1
  have t1 := pi_tni hn.1
  have t2 := pi_le.mp hn.2
  have e24 : (24 : Int32).toInt = 24 := rfl
  refine ⟨rfl, cn_rng hI h0 h1 hf, fun q hq => ?_⟩
  have a := hx q hq
  have c := hr q hq
  have p := pi_on (j := q) (by omega)
  have lq : Int32.ofNat q < I 80 4 := pi_onlt (by omega) hq
  have tk := tk_rng hI p.1 lq
  refine ⟨a.1.trans c.1.symm, a.2.2.trans c.2.2.symm, fun hk => ?_⟩
  rw [c.1] at hk
  have hd := g0_rng hk
  refine ⟨a.2.1.trans c.2.1.symm, ?_⟩
  show 0 ≤ (w q).toInt ∧ (I 102 q).toInt = (g q).toInt + (w q).toInt ∧ 0 ≤ (g q).toInt ∧ (I 102 q).toInt ≤ 999
  rw [c.2.1, c.2.2]
  unfold pf_g1 pf_g2
  rw [if_pos hd, if_pos hd, tk.2.2.2.2.1]
  rw [p.2.1] at tk ⊢
  exact ⟨by omega, by omega, tk.1, tk.2.2.2.1⟩
theorem po_gets {d L : Nat} {b : Bool} {I : Nat → Nat → Int32} {J : Nat → Nat → Int64} {X : Nat → Int32} {x1 : Int32} (hI : pm_inv X b I J) : pm_wc pm_code pm_meta (d + 20) 139 [.ref 8, .int x1] (pm_Gb L b, I, J) (fun v _ H => pm_wc pm_code pm_meta (d + 20) 249 [.ref 79, .int x1] H (pm_ok X L b v)) := by
  have hI0 := hI
  obtain ⟨⟨htod, hroa, hper, hhou, hthi, hrig, hver, hsea, hsta, hlot, hbuy, hdee, hple⟩, htxt, hrid, htmp, hshe, hshf, htra, hk, hkept, hcon⟩ := hI
  have hn1 := (per_n hper).1
  have hn2 := (hou_n hhou).1
  have hn3 := (thi_n hthi).1
  have hn4 := (rig_n hrig).1
  have hV := gv_inv hI0
  rw [pb_139_0, px_refFall (d := d + 16) hrig hhou]
  by_cases h1 : 0 ≤ x1 ∧ x1 < I 80 4
  · obtain ⟨q0, q1⟩ := h1
    have g := (hrig.2 _ (pi_tnlt q0 q1)).2.2
    have hh0 := g.2.2.1
    have hh1 := g.2.2.2.1
    have i24 := rig_in hrig q0 q1
    have i8 := hou_in hhou hh0 hh1
    have i16 := per_in hper g.2.2.2.2.1 g.2.2.2.2.2.1
    have st : ∀ (hn : ¬ ((I 99 x1.toNatClampNeg = 5 ∨ I 99 x1.toNatClampNeg = 6) ∧ 0 ≤ I 88 (I 100 x1.toNatClampNeg).toNatClampNeg ∧ pf_st I x1)), pm_wc pm_code pm_meta (d + 20) 249 [.ref 79, .int x1] (pm_Gb L b, I, J) (pm_ok X L b (-4)) := fun hn => by
      simp only [pb_249_0, pr_isRight hn4, q0, q1, and_self, pm_b_t, pb_249_5, pl_1_0, if_false, pb_249_10]
      refine pr_isDebt (d := d + 13) hV i24 i8 i16 (fun I' ha => ?_)
      rw [pm_b_f' hn, pb_249_15, if_pos rfl, pb_249_18]
      exact pm_okJ (inv_g4 hI0 (g4_a7 ⟨fun _ _ _ _ _ => rfl, fun _ _ => rfl⟩ ha))
    by_cases hf : 0 ≤ I 88 (I 100 x1.toNatClampNeg).toNatClampNeg
    · rw [if_pos ⟨q0, q1⟩, if_pos hf, pb_139_5, if_pos rfl, pb_139_12, px_isDebt (d := d + 18) hrig q0 q1]
      by_cases c1 : I 99 x1.toNatClampNeg = 5 ∨ I 99 x1.toNatClampNeg = 6
      · have iss : ∀ (Q : Int32 → Int64 → pm_H → Prop), pm_wc pm_code pm_meta (d + 19) 49 [.ref 36, .int x1] (pm_Gb L b, I, J) Q ↔ Q (pm_b (pf_st I x1)) 0 (pm_Gb L b, I, J) := fun Q => px_isStanding (Q := Q) (d := d + 14) hver hrig hhou hper hcon.2.1 q0 q1 hf
        rw [pm_b_t' c1, pb_139_20, if_neg (by decide), pb_139_23, iss, pb_139_31]
        by_cases c2 : pf_st I x1
        · rw [pm_b_t' c2, if_neg (by decide), pb_139_37, pb_1_0, px_rig_1 hrig, pm_at_in q0 q1, pb_1_13]
          have hn := rig_n hrig
          have t1 := pi_tni hn.1
          rw [pb_2_0, px_hou_7 hhou, pm_at_in hh0 hh1, if_neg (Int32.not_lt.mpr hf), pb_2_13, pt_cut_38, pb_2_22]
          have e0 : (if 0 ≤ (0 : Int32) ∧ 0 < I 38 3 then pm_u I 38 3 0 else I) = pm_r I 38 (pm_w (I 38) 3 0) := by
            split
            · funext k j
              rw [pm_u_row, pm_r_row]
            · next h =>
              have z : I 38 3 = 0 := Int32.le_antisymm (Int32.not_lt.mp (fun q => h ⟨Int32.le_refl 0, q⟩)) htmp.1.2.2.1
              funext k j
              rw [pm_r_row]
              split
              · next e =>
                subst e
                rw [pm_w_at]
                split
                · next e2 => rw [e2, z]
                · rfl
              · rfl
          rw [e0]
          refine px_gather_loop (d := d + 12) (X := X) (I0 := I) (h := I 100 x1.toNatClampNeg) hI0 hf (fun I1 hs1 ht1 hc1 hx1 => ?_) (I 80 4).toNatClampNeg 0 none (pm_r I 38 (pm_w (I 38) 3 0)) (by omega) (fun k a _ => by rw [pm_r_row, if_neg a]) (by rw [pm_r_row, if_pos rfl]; exact pm_ti_w htmp.1 (Int32.le_refl 0) (by decide)) (by rw [pm_r_row, if_pos rfl, pm_w_at, if_pos rfl]; rfl) (fun j hj => absurd hj (Nat.not_lt_zero _))
          rw [pb_1_16]
          -- the reference's gathering, seen ahead
          have hI1 := inv_38 hI0 hs1 ht1
          have rel := fun (g r w : Nat → Int32) hr => gather_rel hI0 (s := I1 39) (g := g) (r := r) (w := w) hh0 hh1 hf hx1 hr
          have relg := rel (fun j => pf_g2 I (I 100 x1.toNatClampNeg) (Int32.ofNat j)) (fun j => pf_g0 I (I 100 x1.toNatClampNeg) (Int32.ofNat j)) (fun j => pf_g1 I (I 100 x1.toNatClampNeg) (Int32.ofNat j)) (fun j hj => ⟨rfl, rfl, rfl⟩)
          rw [← pm_r_self I1 39]
          refine px_ranks (d := d + 16) (n := I 80 4) ht1 hc1 (fun j hj => (rel_step hn.1 hn.2 hj (rel_all hn.1 hn.2 relg j (by omega))).2.1) (fun D => ?_)
          generalize hz : pf_it (pf_xs (I 80 4)) (I1 39, pf_cn I (I 100 x1.toNatClampNeg) (I 80 4).toNatClampNeg) 10 = zx
          have c38 : 0 ≤ x1 ∧ x1 < pm_r I1 39 zx.1 38 3 := ⟨q0, by rw [pm_r_row, if_neg (by decide), hc1]; exact q1⟩
          rw [pb_1_67b, pt_get_38_2 (by rw [pm_r_row, if_neg (by decide)]; exact ht1), if_pos c38, pm_r_row, if_pos rfl, pb_1_76b, pb_139_45]
          -- the reference
          generalize hI2 : pm_r I1 39 zx.1 = I2
          have s2 : ∀ k, ¬ k = 38 → ¬ k = 39 → I2 k = I k := fun k a c => by rw [← hI2, pm_r_row, if_neg c]; exact hs1 k a c
          have hI2' : pm_inv X b I2 J := inv_38 hI0 s2 (by rw [← hI2, pm_r_row, if_neg (by decide)]; exact ht1)
          have e2 := fun k (a : ¬ k = 38) (c : ¬ k = 39) => s2 k a c
          have stc := st_cg (I := I) (I1 := I2) (fun j a c => e2 j (by omega) (by omega)) x1
          simp only [pb_249_0, pr_isRight (I := I2) (by rw [e2 80 (by decide) (by decide)]; exact hn4), e2 80 (by decide) (by decide), q0, q1, and_self, pm_b_t, pb_249_5, pl_1_0, if_false, pb_249_10]
          refine pr_isDebt (d := d + 13) (gv_inv hI2') i24 (by rw [e2 100 (by decide) (by decide)]; exact i8) (by rw [e2 101 (by decide) (by decide)]; exact i16) (fun I3 ha => ?_)
          rw [pm_b_t' ⟨by rw [e2 99 (by decide) (by decide)]; exact c1, by rw [e2 88 (by decide) (by decide), e2 100 (by decide) (by decide)]; exact hf, by rw [stc.1]; exact c2⟩, pb_249_15, if_neg (by decide), pb_249_21]
          refine ⟨i24, ?_⟩
          have e3 := fun k (a : ¬ k = 79) (c : ¬ k = 38) (e : ¬ k = 39) => (ha.1 k a).trans (e2 k c e)
          have hI3 : pm_inv X b I3 J := inv_g4 hI2' (g4_a7 ⟨fun _ _ _ _ _ => rfl, fun _ _ => rfl⟩ ha)
          have d100 := e3 100 (by decide) (by decide) (by decide)
          have d93 := e3 93 (by decide) (by decide) (by decide)
          have d80 := e3 80 (by decide) (by decide) (by decide)
          have d88 := e3 88 (by decide) (by decide) (by decide)
          rw [d100, pb_247_0]
          refine ⟨i8, ?_⟩
          have z := pr_gather_loop (d := d + 12) (L := L) (X := X) (I0 := I3) (h := I 100 x1.toNatClampNeg) (Q := fun _ _ H => pm_wp pm_code pm_meta (d + 20) 249 31 ([.ref 79, .int x1], [], H) (pm_ok X L b (zx.1 (3 * x1.toNatClampNeg + 2)))) hI3 (by rw [d88]; exact hf) (fun I4 hs4 hr4 => ?_) (I3 80 4).toNatClampNeg 0 I3 (by omega) ⟨fun _ _ _ _ _ => rfl, fun _ _ => rfl⟩ (fun j hj => absurd hj (Nat.not_lt_zero _))
          · have ez : I3 93 (I 100 x1.toNatClampNeg).toNatClampNeg = pf_cn I3 (I 100 x1.toNatClampNeg) 0 := rfl
            rw [ez]
            exact z
          · rw [pb_247_144]
            have f80 : I4 80 = I3 80 := hs4.1 80 (by decide) (by decide) (by decide) (by decide)
            have f102 : I4 102 = I3 102 := hs4.1 102 (by decide) (by decide) (by decide) (by decide)
            have d102 := e3 102 (by decide) (by decide) (by decide)
            have gd : ∀ q, pf_g0 I3 (I 100 x1.toNatClampNeg) q = pf_g0 I (I 100 x1.toNatClampNeg) q ∧ pf_g1 I3 (I 100 x1.toNatClampNeg) q = pf_g1 I (I 100 x1.toNatClampNeg) q ∧ pf_g2 I3 (I 100 x1.toNatClampNeg) q = pf_g2 I (I 100 x1.toNatClampNeg) q := fun q => by
              have sc := st_cg (I := I) (I1 := I3) (fun j a c => e3 j (by omega) (by omega) (by omega)) q
              have hd : pf_db I3 (I 100 x1.toNatClampNeg) q = pf_db I (I 100 x1.toNatClampNeg) q := by
                unfold pf_db
                rw [sc.1, d100, e3 99 (by decide) (by decide) (by decide)]
              unfold pf_g0 pf_g1 pf_g2
              rw [sc.2.1, sc.2.2]
              refine ⟨?_, ?_, ?_⟩
              all_goals (by_cases c : pf_db I (I 100 x1.toNatClampNeg) q
                         · rw [if_pos c, if_pos (by rw [hd]; exact c)]
                           try rw [d102]
                         · rw [if_neg c, if_neg (by rw [hd]; exact c)])
            have ecn : ∀ m, pf_cn I3 (I 100 x1.toNatClampNeg) m = pf_cn I (I 100 x1.toNatClampNeg) m := fun m => by
              induction m with
              | zero => show I3 93 _ = I 93 _; rw [d93]
              | succ m ih =>
                show pf_cn I3 _ m - pf_g2 I3 _ _ = pf_cn I _ m - pf_g2 I _ _
                rw [ih, (gd _).2.2]
            rw [ecn, d80]
            rw [d80] at hr4
            have relr := rel (I4 139) (I4 141) (I4 140) (fun j hj => by
              have := hr4 j hj
              rw [(gd _).1, (gd _).2.1, (gd _).2.2] at this
              exact this)
            have en : I4 80 4 = I 80 4 := by rw [f80, d80]
            have ea : I4 102 = I 102 := by rw [f102, d102]
            rw [← pm_r_self I4 139]
            refine pr_ranks (d := d + 18) (n := I 80 4) en hn.1 hn.2 (fun j hj => ?_) ?_
            · have := (rel_step hn.1 hn.2 hj (rel_all hn.1 hn.2 relr j (by omega))).2.2
              rw [ea]
              exact this
            · have ra := rel_all hn.1 hn.2 relr 10 (Nat.le_refl _)
              rw [hz] at ra
              rw [ea, pb_249_31]
              generalize pf_it (pf_rs (I4 141) (I4 140) (I 102) (I 80 4)) (I4 139, pf_cn I (I 100 x1.toNatClampNeg) (I 80 4).toNatClampNeg) 10 = zr at ra ⊢
              refine ⟨i24, ?_⟩
              refine pm_okI2 ?_ (inv_g4 hI3 ⟨fun k a c e f => by rw [pm_r_row, if_neg c]; exact hs4.1 k a c e f, fun j hj => by rw [pm_r_row, if_neg (by decide)]; exact hs4.2 j hj⟩)
              rw [pm_r_row, if_pos rfl]
              exact (ra.2.2 _ (pi_tnlt q0 q1)).2.1.symm
        · rw [pm_b_f' c2, if_pos rfl, pb_139_34]
          exact st (fun q => c2 q.2.2)
      · rw [pm_b_f' c1, pb_139_20, if_pos rfl, pb_139_34]
        exact st (fun q => c1 q.1)
    · rw [if_pos ⟨q0, q1⟩, if_neg hf, pb_139_5, if_neg (by decide), pb_139_10]
      exact st (fun q => hf q.2.1)
  · rw [if_neg h1, pb_139_5, if_neg (by decide), pb_139_10]
    simp only [pb_249_0, pr_isRight hn4, pb_249_5, pm_b_f h1, if_true, pb_249_8]
    with_reducible exact pm_okJ hI0

