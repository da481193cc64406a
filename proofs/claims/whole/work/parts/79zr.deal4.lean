/-! THE CALL deal. -/
theorem hl_eq {f g : Nat → Int32} : ∀ T : List Int32, pf_hl f T → pf_hl g T → ∀ i, i < T.length → f i = g i
  | [], _, _, i, hi => absurd hi (Nat.not_lt_zero i)
  | x :: r, hf, hg, i, hi => by
    by_cases e : i = r.length
    · rw [e, hf.1, hg.1]
    · exact hl_eq r hf.2 hg.2 i (by simp at hi; omega)
theorem px_rightOn {d L : Nat} {b : Bool} {I : Nat → Nat → Int32} {J : Nat → Nat → Int64} {x1 : Int32} {I0 : Nat → Nat → Int32} {X : Nat → Int32} {Q : Int32 → Int64 → pm_H → Prop} (hI : pm_inv X b I0 J) (hs : ∀ k, ¬ k = 77 → I k = I0 k) : pm_wc pm_code pm_meta (d + 1) 18 [.ref 70, .int x1] (pm_Gb L b, I, J) Q ↔ Q (if ((0 ≤ x1 ∧ x1 < 4) ∧ I0 154 x1.toNatClampNeg = 0 ∧ 0 ≤ I0 155 x1.toNatClampNeg ∧ I0 155 x1.toNatClampNeg < I0 80 4) then I0 155 x1.toNatClampNeg else -3) 0 (pm_Gb L b, I, J) := by
  have hrig := hI.1.2.2.2.2.2.1
  have hshf := hI.2.2.2.2.2.1
  have e75 := hs 75 (by decide)
  have e76 := hs 76 (by decide)
  have t75 : pm_ti (I 75) 3 4 := by rw [e75]; exact hshf.1.1
  have hr : pg_rig (I 18) (I 19) (I0 80 4) (I0 80 1) (I0 80 2) (I0 80 3) (I0 99) (I0 100) (I0 101) (I0 102) (I0 103) (I0 104) (I0 105) (I0 106) (I0 107) (I0 108) (I0 109) (I0 110) (I0 111) := by rw [hs 18 (by decide), hs 19 (by decide)]; exact hrig
  rw [pb_18_0, pt_has_75, e75, hshf.1.2, pb_18_8]
  by_cases c1 : 0 ≤ x1 ∧ x1 < 4
  · have sv : x1.toNatClampNeg < 4 := pi_tnlt (b := 4) c1.1 c1.2
    have hc := hshf.2 _ sv
    rw [pm_b_t' c1, if_neg (by decide), pb_18_11, pt_get_75_0 t75, e75, hshf.1.2, if_pos c1, e76, pb_18_20]
    by_cases c2 : I0 154 x1.toNatClampNeg = 0
    · have hx : I0 76 (3 * x1.toNatClampNeg + 0) = 0 ∧ I0 76 (3 * x1.toNatClampNeg + 1) = I0 155 x1.toNatClampNeg := by
        rcases hc with h | h | h
        · rw [h.1] at c2; exact absurd c2 (by decide)
        · exact ⟨h.2.1, h.2.2⟩
        · have := h.1; rw [c2] at this; exact absurd this (by decide)
      rw [if_pos hx.1, pb_18_26, pt_get_75_1 t75, e75, hshf.1.2, if_pos c1, e76, hx.2, pb_18_35, px_has_rig hr, pb_18_47]
      by_cases c3 : 0 ≤ I0 155 x1.toNatClampNeg ∧ I0 155 x1.toNatClampNeg < I0 80 4
      · rw [pm_b_t' c3, if_neg (by decide), pb_18_50, pb_18_56, if_pos ⟨c1, c2, c3.1, c3.2⟩]
      · rw [pm_b_f' c3, if_pos rfl, pb_18_54, pb_18_56, if_neg (fun q => c3 q.2.2)]
    · have hx : ¬ I0 76 (3 * x1.toNatClampNeg + 0) = 0 := by
        rcases hc with h | h | h
        · rw [h.2]; decide
        · exact absurd h.1 c2
        · rw [h.2.2.1]; decide
      rw [if_neg hx, pb_18_23, if_neg (fun q => c2 q.2.1)]
  · rw [pm_b_f' c1, if_pos rfl, pb_18_23, if_neg (fun q => c1 q.1)]
theorem pr_holdsRight {d L : Nat} {b : Bool} {I : Nat → Nat → Int32} {J : Nat → Nat → Int64} {x1 : Int32} {Q : Int32 → Int64 → pm_H → Prop} (n0 : 0 ≤ I 80 4) (c1 : 0 ≤ x1 ∧ x1 < 4) : pm_wc pm_code pm_meta (d + 2) 291 [.ref 79, .int x1] (pm_Gb L b, I, J) Q ↔ Q (pm_b (I 154 x1.toNatClampNeg = 0 ∧ 0 ≤ I 155 x1.toNatClampNeg ∧ I 155 x1.toNatClampNeg < I 80 4)) 0 (pm_Gb L b, I, J) := by
  have i4 : pm_in x1 4 = true := by
    have := pi_lt.mp c1.2
    exact pi_in c1.1 (by rw [show (4 : Int32).toInt = 4 from rfl] at this; omega)
  by_cases c2 : I 154 x1.toNatClampNeg = 0
  · by_cases c3 : 0 ≤ I 155 x1.toNatClampNeg ∧ I 155 x1.toNatClampNeg < I 80 4
    · simp only [pb_291_0, i4, true_and, c2, if_true, pb_291_9, pr_isRight n0, c3, and_self, pm_b_t, pb_291_19, pl_1_0, if_false, pb_291_22, pb_291_27]
      simp
    · rw [pm_b_f' (fun q => c3 q.2)]
      simp only [pb_291_0, i4, true_and, c2, if_true, pb_291_9, pr_isRight n0, pm_b_f c3, pb_291_19, pb_291_26, pb_291_27]
      simp
  · rw [pm_b_f' (fun q => c2 q.1)]
    simp only [pb_291_0, i4, true_and, c2, if_false, pb_291_26, pb_291_27]
    simp
theorem inv_deal {X : Nat → Int32} {b : Bool} {I I' : Nat → Nat → Int32} {J : Nat → Nat → Int64} (hI : pm_inv X b I J) (h : ∀ k, ¬ k = 70 → ¬ k = 77 → ¬ k = 78 → ¬ k = 79 → ¬ k = 157 → I' k = I k) (h79 : ∀ j, (j < 101 ∨ 106 < j) → I' 79 j = I 79 j) (ht : pg_tra (I' 77) (I' 78) (I' 79 101) (I' 157)) : pm_inv X b I' J := by
  have e : I' = pm_r (pm_r (pm_r (pm_r (pm_u (pm_u (pm_u (pm_u (pm_u (pm_u I 79 101 (I' 79 101)) 79 102 (I' 79 102)) 79 103 (I' 79 103)) 79 104 (I' 79 104)) 79 105 (I' 79 105)) 79 106 (I' 79 106)) 70 (I' 70)) 77 (I' 77)) 78 (I' 78)) 157 (I' 157) := by
    funext k j
    simp only [pm_r_row, pm_u_row]
    by_cases h1 : k = 157
    · subst h1; rw [if_pos rfl]
    · by_cases h2 : k = 78
      · subst h2; rw [if_neg h1, if_pos rfl]
      · by_cases h3 : k = 77
        · subst h3; rw [if_neg h1, if_neg h2, if_pos rfl]
        · by_cases h4 : k = 70
          · subst h4; rw [if_neg h1, if_neg h2, if_neg h3, if_pos rfl]
          · by_cases h5 : k = 79
            · subst h5
              rw [if_neg h1, if_neg h2, if_neg h3, if_neg h4]
              simp only [if_true, pm_w_at]
              by_cases k1 : j = 106
              · rw [if_pos k1, k1]
              · by_cases k2 : j = 105
                · rw [if_neg k1, if_pos k2, k2]
                · by_cases k3 : j = 104
                  · rw [if_neg k1, if_neg k2, if_pos k3, k3]
                  · by_cases k4 : j = 103
                    · rw [if_neg k1, if_neg k2, if_neg k3, if_pos k4, k4]
                    · by_cases k5 : j = 102
                      · rw [if_neg k1, if_neg k2, if_neg k3, if_neg k4, if_pos k5, k5]
                      · by_cases k6 : j = 101
                        · rw [if_neg k1, if_neg k2, if_neg k3, if_neg k4, if_neg k5, if_pos k6, k6]
                        · rw [if_neg k1, if_neg k2, if_neg k3, if_neg k4, if_neg k5, if_neg k6, h79 j (by omega)]
            · rw [if_neg h1, if_neg h2, if_neg h3, if_neg h4, if_neg h5, if_neg h5, if_neg h5, if_neg h5, if_neg h5, if_neg h5, h k h4 h3 h2 h5 h1]
  rw [e]
  have hI0 := hI
  obtain ⟨⟨htod, hroa, hper, hhou, hthi, hrig, hver, hsea, hsta, hlot, hbuy, hdee, hple⟩, htxt, hrid, htmp, hshe, hshf, htra, hk, hkept, hcon⟩ := hI
  have hn1 := (per_n hper).1
  have hn2 := (hou_n hhou).1
  have hn3 := (thi_n hthi).1
  have hn4 := (rig_n hrig).1
  simp only [pm_inv, pm_land, pm_u_row, pm_zr_row, pm_w_at, Nat.reduceEqDiff, ite_true, ite_false, pm_kept_u, pm_kept_z, pm_kept_r, pm_r_row, ne_eq, not_false_eq_true, Nat.reduceLT, hcon, htod, hroa, hper, hhou, hthi, hrig, hver, hsea, hsta, hlot, hbuy, hdee, hple, htxt, hrid, htmp, hshe, hshf, htra, hk, hkept, true_and, and_true]
  exact ht
theorem tra_of {I I5 : Nat → Nat → Int32} {T : List Int32} (hl : T.length ≤ 29) (h1 : pm_ti (I5 77) 1 30) (h2 : I5 77 3 = Int32.ofNat T.length) (h3 : pf_hl (I5 78) T) (h4 : I5 79 101 = Int32.ofNat T.length) (h5 : pf_hl (I5 157) T) : pg_tra (I5 77) (I5 78) (I5 79 101) (I5 157) := by
  have p := pi_on (j := T.length) (by omega)
  have l30 : Int32.ofNat T.length < 30 := by rw [pi_lt, p.2.2, show (30 : Int32).toInt = 30 from rfl]; omega
  refine ⟨h1, by rw [h4]; exact p.1, by rw [h4]; exact Int32.le_of_lt (Int32.lt_trans l30 (by decide)), by rw [h2, h4, if_pos l30], fun i hi => ?_⟩
  rw [h2, p.2.1] at hi
  rw [Nat.one_mul, Nat.add_zero]
  exact hl_eq T h3 h5 i hi
theorem lR_len (K : Int32) : (pf_lR K []).length ≤ 29 := by
  unfold pf_lR
  have a := (lB_len K (pf_l2 K (40 :: []))).2
  have a2 := l2_len K (40 :: [])
  have c := (lB_len K (pf_l6 K (71 :: []))).2
  have c2 := l6_len K (71 :: [])
  have e := l6_len K []
  have f := l2_len K []
  simp only [List.length_cons, List.length_nil] at *
  repeat' split
  all_goals omega
theorem lP_len (K : Int32) : (pf_lP K []).length ≤ 29 := by
  unfold pf_lP
  repeat' split
  all_goals simp
theorem po_deal {d L : Nat} {b : Bool} {I : Nat → Nat → Int32} {J : Nat → Nat → Int64} {X : Nat → Int32} {x1 x2 x3 : Int32} (hI : pm_inv X b I J) : pm_wc pm_code pm_meta (d + 20) 170 [.ref 8, .int x1, .int x2, .int x3] (pm_Gb L b, I, J) (fun v _ H => pm_wc pm_code pm_meta (d + 20) 303 [.ref 79, .int x1, .int x2, .int x3] H (pm_ok X L b v)) := by
  have hI0 := hI
  obtain ⟨⟨htod, hroa, hper, hhou, hthi, hrig, hver, hsea, hsta, hlot, hbuy, hdee, hple⟩, htxt, hrid, htmp, hshe, hshf, htra, hk, hkept, hcon⟩ := hI
  have hn1 := (per_n hper).1
  have hn2 := (hou_n hhou).1
  have hn3 := (thi_n hthi).1
  have hn4 := (rig_n hrig).1
  have e0 : (if 0 ≤ (0 : Int32) ∧ 0 < I 77 3 then pm_u I 77 3 0 else I) = pm_r I 77 (pm_w (I 77) 3 0) := by
    split
    · funext k j
      rw [pm_u_row, pm_r_row]
    · next h =>
      have z : I 77 3 = 0 := Int32.le_antisymm (Int32.not_lt.mp (fun q => h ⟨Int32.le_refl 0, q⟩)) htra.1.2.2.1
      funext k j
      rw [pm_r_row]
      split
      · next e =>
        subst e
        rw [pm_w_at]
        split
        · next e2 => rw [e2, z]
        · rfl
      · rfl
  rw [pb_170_0, pt_cut_77, e0, pb_170_11]
  generalize hIc : pm_r I 77 (pm_w (I 77) 3 0) = Ic
  have sc : ∀ k, ¬ k = 77 → Ic k = I k := fun k h => by rw [← hIc, pm_r_row, if_neg h]
  have t77 : pm_ti (Ic 77) 1 30 := by rw [← hIc, pm_r_row, if_pos rfl]; exact pm_ti_w htra.1 (Int32.le_refl 0) (by decide)
  have c77 : Ic 77 3 = 0 := by rw [← hIc, pm_r_row, if_pos rfl, pm_w_at, if_pos rfl]
  rw [px_rightOn (d := d + 18) hI0 sc, pb_170_19]
  -- nothing is dealt with
  have no : ∀ (hno : ¬ (((0 ≤ x1 ∧ x1 < 4) ∧ I 154 x1.toNatClampNeg = 0 ∧ 0 ≤ I 155 x1.toNatClampNeg ∧ I 155 x1.toNatClampNeg < I 80 4) ∧ 0 ≤ x2 ∧ x2 ≤ 3)), pm_wc pm_code pm_meta (d + 20) 303 [.ref 79, .int x1, .int x2, .int x3] (pm_Gb L b, Ic, J) (pm_ok X L b 0) := fun hno => by
    have hfin : pm_ok X L b 0 0 0 (pm_Gb L b, pm_u Ic 79 101 0, J) := by
      refine pm_okI2 rfl (inv_deal hI0 (fun k a c e f g => by rw [pm_u_row, if_neg f]; exact sc k c) (fun j hj => by rw [pm_u_row, if_pos rfl, pm_w_ne (by omega), sc 79 (by decide)]) ?_)
      have r77 : pm_u Ic 79 101 0 77 = Ic 77 := by rw [pm_u_row, if_neg (by decide)]
      rw [r77, pm_u_at]
      exact ⟨t77, by decide, by decide, by rw [c77]; rfl, fun i hi => by rw [c77] at hi; exact absurd hi (Nat.not_lt_zero i)⟩
    have n0 : 0 ≤ pm_u Ic 79 101 0 80 4 := by rw [pm_u_row, if_neg (by decide), sc 80 (by decide)]; exact hn4
    have r154 : pm_u Ic 79 101 0 154 = I 154 := by rw [pm_u_row, if_neg (by decide), sc 154 (by decide)]
    have r155 : pm_u Ic 79 101 0 155 = I 155 := by rw [pm_u_row, if_neg (by decide), sc 155 (by decide)]
    have r80 : pm_u Ic 79 101 0 80 = I 80 := by rw [pm_u_row, if_neg (by decide), sc 80 (by decide)]
    rw [pb_303_0, pr_in, pb_303_11]
    by_cases c1 : 0 ≤ x1 ∧ x1 ≤ 3
    · have c1' : 0 ≤ x1 ∧ x1 < 4 := ⟨c1.1, by grind⟩
      rw [pm_b_t' c1, if_neg (by decide), pb_303_14, pr_in, pb_303_20]
      by_cases c2 : 0 ≤ x2 ∧ x2 ≤ 3
      · rw [pm_b_t' c2, if_neg (by decide), pb_303_23, pr_holdsRight (d := d + 17) n0 c1', r154, r155, r80, pm_b_f' (fun q => hno ⟨⟨c1', q⟩, c2⟩), pb_303_28, if_pos rfl, pb_303_31]
        exact hfin
      · rw [pm_b_f' c2, if_pos rfl, pb_303_31]
        exact hfin
    · rw [pm_b_f' c1, if_pos rfl, pb_303_31]
      exact hfin
  by_cases hh : ((0 ≤ x1 ∧ x1 < 4) ∧ I 154 x1.toNatClampNeg = 0 ∧ 0 ≤ I 155 x1.toNatClampNeg ∧ I 155 x1.toNatClampNeg < I 80 4)
  · obtain ⟨c1, c2, N0, N1⟩ := hh
    have hh : ((0 ≤ x1 ∧ x1 < 4) ∧ I 154 x1.toNatClampNeg = 0 ∧ 0 ≤ I 155 x1.toNatClampNeg ∧ I 155 x1.toNatClampNeg < I 80 4) := ⟨c1, c2, N0, N1⟩
    have nz : ¬ I 155 x1.toNatClampNeg = -3 := fun q => by rw [q] at N0; exact absurd N0 (by decide)
    rw [if_pos hh, if_neg nz, pb_170_28, px_isWithin, pb_170_34]
    by_cases c3 : 0 ≤ x2 ∧ x2 ≤ 3
    · rw [pm_b_t' c3, if_neg (by decide), pb_170_39, pb_21_0]
      have c3a := pi_le.mp c3.1
      have c3b := pi_le.mp c3.2
      rw [pi_0] at c3a
      rw [show (3 : Int32).toInt = 3 from rfl] at c3b
      generalize hN : I 155 x1.toNatClampNeg = N at N0 N1 nz
      have hb : pm_hb X b I J N (I 99 N.toNatClampNeg) (I 102 N.toNatClampNeg) (I 100 N.toNatClampNeg) := ⟨hI0, N0, N1, rfl, rfl, rfl⟩
      generalize hI1 : pm_u (pm_u Ic 70 5 N) 70 6 0 = I1
      have s1 : ∀ k, ¬ k = 70 → I1 k = Ic k := fun k h => by rw [← hI1, pm_u_row, if_neg h, pm_u_row, if_neg h]
      have hT1 : pm_tx I N (I 102 N.toNatClampNeg) (I 100 N.toNatClampNeg) I1 [] 0 := ⟨fun k a c e => by rw [s1 k a, sc k c], by rw [← hI1, pm_u_row, if_pos rfl, pm_w_ne (by decide), pm_u_at], by rw [← hI1, pm_u_at], by rw [s1 77 (by decide)]; exact t77, by rw [s1 77 (by decide), c77]; rfl, trivial⟩
      rw [px_bodyOf (d := d + 17) (D := x2) hI0 N0 N1 rfl hT1.1 hT1.2.1 c3a c3b, pb_21_16]
      -- behind the class's bodies
      have fin : ∀ (v z : Int32) (T : List Int32) (I2 : Nat → Nat → Int32), pm_tx I N (I 102 N.toNatClampNeg) (I 100 N.toNatClampNeg) I2 T z → T.length ≤ 29 → (∀ (I4 : Nat → Nat → Int32) (Q : Int32 → Int64 → pm_H → Prop), pm_tr I2 (I 99 N.toNatClampNeg) (I 102 N.toNatClampNeg) (I 100 N.toNatClampNeg) N I4 [] 0 → (∀ I5, pm_tr I2 (I 99 N.toNatClampNeg) (I 102 N.toNatClampNeg) (I 100 N.toNatClampNeg) N I5 T z → pm_wp pm_code pm_meta (d + 20) 303 128 ([.ref 79, .int x1, .int x2, .int x3, .int N, pm_unset], [.int v], (pm_Gb L b, I5, J)) Q) → (if x2 = 0 then pm_wp pm_code pm_meta (d + 20) 303 89 ([.ref 79, .int x1, .int x2, .int x3, .int N, pm_unset], [], (pm_Gb L b, I4, J)) Q else pm_wp pm_code pm_meta (d + 20) 303 97 ([.ref 79, .int x1, .int x2, .int x3, .int N, pm_unset], [], (pm_Gb L b, I4, J)) Q)) → pm_wp pm_code pm_meta (d + 19) 21 21 ([.ref 70, .int N, .int x2, .int x3, pm_unset], [.int v], (pm_Gb L b, I2, J)) (fun v w H => pm_wp pm_code pm_meta (d + 20) 170 50 ([.ref 8, .int x1, .int x2, .int x3, .int N], [.int v], H) (fun v _ H => pm_wc pm_code pm_meta (d + 20) 303 [.ref 79, .int x1, .int x2, .int x3] H (pm_ok X L b v))) := fun v z T I2 hT2 hlen hR => by
        have key : pm_wc pm_code pm_meta (d + 20) 303 [.ref 79, .int x1, .int x2, .int x3] (pm_Gb L b, I2, J) (pm_ok X L b (if z = 0 then v else -15)) := by
          have r : ∀ k, ¬ k = 70 → ¬ k = 77 → ¬ k = 78 → ¬ k = 79 → pm_u I2 79 101 0 k = I k := fun k a c e f => by rw [pm_u_row, if_neg f]; exact hT2.1 k a c e
          have r154 := r 154 (by decide) (by decide) (by decide) (by decide)
          have r155 := r 155 (by decide) (by decide) (by decide) (by decide)
          have r80 := r 80 (by decide) (by decide) (by decide) (by decide)
          have i4 : pm_in x1 4 = true := by
            have := pi_lt.mp c1.2
            exact pi_in c1.1 (by rw [show (4 : Int32).toInt = 4 from rfl] at this; omega)
          have i24 := rig_in hrig N0 N1
          rw [pb_303_0, pr_in, pb_303_11, pm_b_t' (⟨c1.1, by grind⟩ : 0 ≤ x1 ∧ x1 ≤ 3), if_neg (by decide), pb_303_14, pr_in, pb_303_20, pm_b_t' c3, if_neg (by decide), pb_303_23, pr_holdsRight (d := d + 17) (by rw [r80]; exact hn4) c1, r154, r155, r80, hN, pm_b_t' ⟨c2, N0, N1⟩, pb_303_28, if_neg (by decide), pb_303_33, r155, hN]
          refine ⟨i4, i24, i24, i24, ?_⟩
          refine hR _ _ ?_ (fun I5 h5 => ?_)
          · have q99 := r 99 (by decide) (by decide) (by decide) (by decide)
            have q102 := r 102 (by decide) (by decide) (by decide) (by decide)
            have q100 := r 100 (by decide) (by decide) (by decide) (by decide)
            refine ⟨fun k a c => by simp only [pm_u_row, a, if_false], fun j hj => ?_, ?_, ?_, ?_, ?_, ?_, ?_, trivial⟩
            · simp only [pm_u_row, if_true]
              rw [pm_w_ne (by omega), pm_w_ne (by omega), pm_w_ne (by omega), pm_w_ne (by omega), pm_w_ne (by omega), pm_w_ne (by omega)]
            · simp only [pm_u_row, if_true]
              rw [pm_w_ne (by decide), pm_w_ne (by decide), pm_w_ne (by decide), pm_w_ne (by decide), pm_w_ne (by decide), pm_w_at, if_pos rfl]; rfl
            · rw [pm_u_row, if_pos rfl, pm_w_ne (by decide), pm_u_row, if_pos rfl, pm_w_ne (by decide), pm_u_row, if_pos rfl, pm_w_ne (by decide), pm_u_row, if_pos rfl, pm_w_ne (by decide), pm_u_at, q99]
            · rw [pm_u_row, if_pos rfl, pm_w_ne (by decide), pm_u_row, if_pos rfl, pm_w_ne (by decide), pm_u_row, if_pos rfl, pm_w_ne (by decide), pm_u_at, pm_u_row, if_neg (by decide), q102]
            · rw [pm_u_row, if_pos rfl, pm_w_ne (by decide), pm_u_row, if_pos rfl, pm_w_ne (by decide), pm_u_at, pm_u_row, if_neg (by decide), pm_u_row, if_neg (by decide), q100]
            · rw [pm_u_row, if_pos rfl, pm_w_ne (by decide), pm_u_at]
            · rw [pm_u_at]
          · obtain ⟨g1, g2, g3, g4, g5, g6, g7, g8, g9⟩ := h5
            have s5 : ∀ k, ¬ k = 70 → ¬ k = 77 → ¬ k = 78 → ¬ k = 79 → ¬ k = 157 → I5 k = I k := fun k a c e f g => (g1 k f g).trans (hT2.1 k a c e)
            have hinv : pm_inv X b I5 J := by
              refine inv_deal hI0 s5 (fun j hj => by rw [g2 j hj, hT2.1 79 (by decide) (by decide) (by decide)]) (tra_of (I := I) hlen ?_ ?_ ?_ g3 g9)
              · rw [g1 77 (by decide) (by decide)]; exact hT2.2.2.2.1
              · rw [g1 77 (by decide) (by decide)]; exact hT2.2.2.2.2.1
              · rw [g1 78 (by decide) (by decide)]; exact hT2.2.2.2.2.2
            rw [pb_303_128, g8]
            by_cases cz : z = 0
            · rw [if_pos cz, if_pos cz, pb_303_142, pb_303_144]
              exact pm_okJ hinv
            · rw [if_neg cz, if_neg cz, pb_303_137, pb_303_144]
              exact pm_okJ hinv
        rw [pb_21_21, hT2.2.2.1]
        by_cases cz : z = 0
        · rw [if_pos cz] at key
          rw [if_pos cz, pb_21_35, pb_21_37, pb_170_50]
          exact key
        · rw [if_neg cz] at key
          rw [if_neg cz, pb_21_30, pb_21_37, pb_170_50]
          exact key
      have x2c : x2 = 0 ∨ x2 = 1 ∨ x2 = 2 ∨ x2 = 3 := by
        have key : ∀ n : Int32, x2.toInt = n.toInt → x2 = n := fun n h => Int32.toInt_inj.mp h
        rcases (show x2.toInt = 0 ∨ x2.toInt = 1 ∨ x2.toInt = 2 ∨ x2.toInt = 3 by omega) with q | q | q | q
        · exact Or.inl (key 0 q)
        · exact Or.inr (Or.inl (key 1 q))
        · exact Or.inr (Or.inr (Or.inl (key 2 q)))
        · exact Or.inr (Or.inr (Or.inr (key 3 q)))
      have z0 : (0 : Int32).toInt = 0 := rfl
      rcases x2c with q | q | q | q
      · subst q
        refine px_bears (d := d + 16) hb hT1 (by rw [z0]; omega) (by rw [z0]; omega) (by simp) (fun I2 hT2 => ?_)
        refine fin _ _ _ I2 hT2 (by have := (lB_len (I 99 N.toNatClampNeg) []).2; simp at this; omega) (fun I4 Q h4 h => ?_)
        rw [if_pos rfl, pb_303_89]
        refine pr_bears (d := d + 17) h4 (by simp) (fun I5 h5 => ?_)
        rw [pb_303_94]
        exact h I5 h5
      · subst q
        refine px_follows (d := d + 14) hb hT1 (by rw [z0]; omega) (by rw [z0]; omega) (by simp) (fun I2 hT2 => ?_)
        refine fin _ _ _ I2 hT2 (by have := lF_len (I 99 N.toNatClampNeg) []; simp at this; omega) (fun I4 Q h4 h => ?_)
        rw [if_neg (by decide), pb_303_97, if_pos rfl, pb_303_102]
        refine pr_followed (d := d + 15) h4 (by simp) (fun I5 h5 => ?_)
        rw [pb_303_107]
        exact h I5 h5
      · subst q
        refine px_ranked (d := d + 11) hb hT1 (by rw [z0]; omega) (by rw [z0]; omega) (by simp) (fun I2 hT2 => ?_)
        refine fin _ _ _ I2 hT2 (lR_len _) (fun I4 Q h4 h => ?_)
        rw [if_neg (by decide), pb_303_97, if_neg (by decide), pb_303_110, if_pos rfl, pb_303_115]
        refine pr_ranked (d := d + 12) h4 (by simp) (fun I5 h5 => ?_)
        rw [pb_303_120]
        exact h I5 h5
      · subst q
        refine px_parted (d := d + 15) hb hT1 (by rw [z0]; omega) (by rw [z0]; omega) (by simp) (fun I2 hT2 => ?_)
        refine fin _ _ _ I2 hT2 (lP_len _) (fun I4 Q h4 h => ?_)
        rw [if_neg (by decide), pb_303_97, if_neg (by decide), pb_303_110, if_neg (by decide), pb_303_123]
        exact pr_parted (d := d + 17) h4 (by simp) (fun I5 h5 => h I5 h5)
    · rw [pm_b_f' c3, if_pos rfl, pb_170_37]
      exact no (fun q => c3 q.2)
  · rw [if_neg hh, if_pos rfl, pb_170_37]
    exact no (fun q => hh q.1)

