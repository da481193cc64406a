/-! version. -/
theorem ver_at {t c tr cr ts cs : Nat → Int32} {n today : Int32} {act rules fr till ops sort kinds rank rops rend opis opof : Nat → Int32} (h : pg_ver t c tr cr ts cs n today act rules fr till ops sort kinds rank rops rend opis opof) {x : Int32} (h0 : 0 ≤ x) (h1 : x < n) : 0 ≤ rules x.toNatClampNeg ∧ rules x.toNatClampNeg ≤ 10 ∧ 0 ≤ c (5 * x.toNatClampNeg + 4) ∧ (c (5 * x.toNatClampNeg + 4)).toNatClampNeg + (rules x.toNatClampNeg).toNatClampNeg ≤ (tr 3).toNatClampNeg ∧ 0 ≤ tr 3 ∧ tr 3 ≤ 120 ∧ pm_ti tr 5 120 := by
  obtain ⟨_, _, _, b3, b4, _, _, _, _, b9, b10, _⟩ := h.2.2.2.1 _ (pi_tnlt h0 h1)
  exact ⟨b3, b4, b9, b10, h.1.2.2.1.2.2.1, h.1.2.2.1.2.2.2, h.1.2.2.1⟩
theorem ver_rule {t c tr cr ts cs : Nat → Int32} {n today : Int32} {act rules fr till ops sort kinds rank rops rend opis opof : Nat → Int32} (h : pg_ver t c tr cr ts cs n today act rules fr till ops sort kinds rank rops rend opis opof) {x i : Int32} (h0 : 0 ≤ x) (h1 : x < n) (h2 : 0 ≤ i) (h3 : i < rules x.toNatClampNeg) : pg_rul cr cs ((c (5 * x.toNatClampNeg + 4)).toNatClampNeg + i.toNatClampNeg) (10 * x.toNatClampNeg + i.toNatClampNeg) x.toNatClampNeg (ts 3) sort kinds rank rops rend opis opof := by
  obtain ⟨_, _, _, _, _, _, _, _, _, _, _, b11⟩ := h.2.2.2.1 _ (pi_tnlt h0 h1)
  exact b11 _ (pi_tnlt h2 h3)
/-- a rule's place behind the first one of its version -/
theorem pi_rul {f w k r : Int32} {t : Nat → Int32} (hf : 0 ≤ f) (hr : r ≤ 10) (hk0 : 0 ≤ k) (hk1 : k ≤ 30) (hw0 : k ≤ w) (hw1 : w - k < r) (hft : f.toNatClampNeg + r.toNatClampNeg ≤ (t 3).toNatClampNeg) (h0 : 0 ≤ t 3) (h120 : t 3 ≤ 120) : (f + w - k).toNatClampNeg = f.toNatClampNeg + (w - k).toNatClampNeg ∧ 0 ≤ f + w - k ∧ f + w - k < t 3 ∧ 0 ≤ w - k := by
  have e10 : (10 : Int32).toInt = 10 := rfl
  have e30 : (30 : Int32).toInt = 30 := rfl
  have e120 : (120 : Int32).toInt = 120 := rfl
  rw [pi_le, pi_0] at hf hk0 h0
  rw [pi_le] at hr hk1 hw0 h120
  have hw := pi_hi w
  have s1 : (w - k).toInt = w.toInt - k.toInt := pi_sub (by omega) (by omega)
  rw [pi_lt, s1] at hw1
  rw [pi_tn, pi_tn, pi_tn] at hft
  have hwk : w.toInt - k.toInt < 10 := by omega
  have s2 : (f + w).toInt = f.toInt + w.toInt := pi_add (by omega) (by omega)
  have s3 : (f + w - k).toInt = f.toInt + w.toInt - k.toInt := by rw [pi_sub (by omega) (by omega), s2]
  refine ⟨?_, ?_, ?_, ?_⟩
  · rw [pi_tn, pi_tn, pi_tn, s3, s1]; omega
  · rw [pi_le, pi_0, s3]; omega
  · rw [pi_lt, s3]; omega
  · rw [pi_le, pi_0, s1]; omega
theorem pi_rul2 {v w k r : Int32} (hv0 : 0 ≤ v) (hv1 : v < 12) (hr : r ≤ 10) (hk0 : 0 ≤ k) (hk1 : k ≤ 30) (hw0 : k ≤ w) (hw1 : w - k < r) : (10 * v + w - k).toNatClampNeg = 10 * v.toNatClampNeg + (w - k).toNatClampNeg ∧ pm_in (10 * v + w - k) 130 = true := by
  have e10 : (10 : Int32).toInt = 10 := rfl
  have e12 : (12 : Int32).toInt = 12 := rfl
  have e30 : (30 : Int32).toInt = 30 := rfl
  rw [pi_le, pi_0] at hv0 hk0
  rw [pi_le] at hr hk1 hw0
  rw [pi_lt] at hv1
  have hw := pi_hi w
  have s1 : (w - k).toInt = w.toInt - k.toInt := pi_sub (by omega) (by omega)
  rw [pi_lt, s1] at hw1
  have s0 : (10 * v).toInt = 10 * v.toInt := by rw [pi_mul (by rw [e10]; omega) (by rw [e10]; omega), e10]
  have s2 : (10 * v + w).toInt = 10 * v.toInt + w.toInt := by rw [pi_add (by omega) (by omega), s0]
  have s3 : (10 * v + w - k).toInt = 10 * v.toInt + w.toInt - k.toInt := by rw [pi_sub (by omega) (by omega), s2]
  refine ⟨?_, pi_in (by rw [pi_le, pi_0, s3]; omega) (by rw [s3]; omega)⟩
  rw [pi_tn, pi_tn, pi_tn, s3, s1]; omega
theorem pi_wk {w k r : Int32} (hk : k = 10 ∨ k = 30) (h0 : 0 ≤ r) (hr : r ≤ 10) (h1 : k ≤ w) (h2 : w ≤ (k - 1) + r) : w - k < r := by
  rcases hk with rfl | rfl <;> grind
theorem px_ver_4 {d L : Nat} {b : Bool} {I : Nat → Nat → Int32} {J : Nat → Nat → Int64} {r : Int32} {n today : Int32} {act rules fr till ops sort kinds rank rops rend opis opof : Nat → Int32} {Q : Int32 → Int64 → pm_H → Prop} (h : pg_ver (I 20) (I 21) (I 22) (I 23) (I 24) (I 25) n today act rules fr till ops sort kinds rank rops rend opis opof) (h0 : 0 ≤ r) (h1 : r < n) : pm_wc pm_code pm_meta d 83 [.ref 20, .int r, .int 4] (pm_Gb L b, I, J) Q ↔ Q (I 21 (5 * r.toNatClampNeg + 4)) 0 (pm_Gb L b, I, J) := by
  rw [pt_get_20_4 h.1.1, h.1.2.1, if_pos ⟨h0, h1⟩]
theorem po_version {d L : Nat} {b : Bool} {I : Nat → Nat → Int32} {J : Nat → Nat → Int64} {X : Nat → Int32} {x1 x2 : Int32} (hI : pm_inv X b I J) : pm_wc pm_code pm_meta (d + 20) 135 [.ref 8, .int x1, .int x2] (pm_Gb L b, I, J) (fun v _ H => pm_wc pm_code pm_meta (d + 20) 235 [.ref 79, .int x1, .int x2] H (pm_ok X L b v)) := by
  have hI0 := hI
  obtain ⟨⟨htod, hroa, hper, hhou, hthi, hrig, hver, hsea, hsta, hlot, hbuy, hdee, hple⟩, htxt, hrid, htmp, hshe, hshf, htra, hk, hkept, hcon⟩ := hI
  have hn1 := (per_n hper).1
  have hn2 := (hou_n hhou).1
  have hn3 := (thi_n hthi).1
  have hn4 := (rig_n hrig).1
  have hv := ver_n hver
  by_cases h1 : 0 ≤ x1 ∧ x1 < I 80 5
  · have a1 := h1.1
    have a2 := h1.2
    have i1 := ver_in hver a1 a2
    have a3 := ((pr_isPersons hv.1).mpr h1).2
    obtain ⟨v1, v2, v3, v4, v5, v6, v7⟩ := ver_at hver a1 a2
    have v12 : x1 < 12 := by have := hv.2; grind
    by_cases hw : 0 ≤ x2 ∧ x2 ≤ 3
    rcases pi_cs4 hw with rfl | rfl | rfl | rfl
    · have z1 : ¬ (10 : Int32) ≤ 0 := by decide
      have z2 : ¬ (30 : Int32) ≤ 0 := by decide
      simp only [pb_135_0, pb_135_11, pb_135_14, pb_135_16, pb_135_22, pb_135_38, pb_135_25, pb_135_50, pb_135_37, pb_135_63, pb_135_75, pb_135_119, pb_135_78, pb_135_129, pb_135_103, pb_135_151, pb_135_132, pb_135_117, pb_135_150, pb_235_0, pb_235_13, pb_235_16, pb_235_18, pb_235_33, pb_235_64, pb_235_36, pb_235_79, pb_235_114, pb_235_82, pb_235_186, pb_235_165, pb_235_158, pb_235_151, pb_235_144, pb_235_102, pb_235_111, pb_235_179, pb_235_174, pb_235_113, pb_235_185, px_has_ver hver, px_ver_0 hver, px_isWithin, pr_in, pr_in0, pm_at_in, hv.1, a1, a2, a3, i1, z1, z2, false_and, and_self, pl_0_1, pl_0_2, pl_0_3, pl_0_4, pl_0_5, pl_0_6, pl_0_7, pl_0_8, pl_0_9, pl_0_10, pl_0_11, pl_0_12, pl_0_13, pl_0_14, pl_0_15, pl_0_20, pr_isPersons hv.1, pm_u_row, pm_zr_row, pm_r_row, pm_w_at, Nat.reduceEqDiff, Nat.reduceLT, ite_true, ite_false, if_true, if_false, ite_self, Int32.reduceLE, Int32.reduceLT, pi_lt0, pm_b_eq0, pm_b_eq1, ite_not, pm_k0, pm_k1, pm_b_fit, true_and, and_true, not_true_eq_false, not_false_eq_true, ite_true, ite_false, if_true, if_false]
      with_reducible exact pm_okJ hI0
    · have z1 : ¬ (10 : Int32) ≤ 1 := by decide
      have z2 : ¬ (30 : Int32) ≤ 1 := by decide
      simp only [pb_135_0, pb_135_11, pb_135_14, pb_135_16, pb_135_22, pb_135_38, pb_135_25, pb_135_50, pb_135_37, pb_135_63, pb_135_75, pb_135_119, pb_135_78, pb_135_129, pb_135_103, pb_135_151, pb_135_132, pb_135_117, pb_135_150, pb_235_0, pb_235_13, pb_235_16, pb_235_18, pb_235_33, pb_235_64, pb_235_36, pb_235_79, pb_235_114, pb_235_82, pb_235_186, pb_235_165, pb_235_158, pb_235_151, pb_235_144, pb_235_102, pb_235_111, pb_235_179, pb_235_174, pb_235_113, pb_235_185, px_has_ver hver, px_ver_1 hver, px_isWithin, pr_in, pr_in0, pm_at_in, hv.1, a1, a2, a3, i1, z1, z2, false_and, and_self, pl_1_0, pl_1_2, pl_1_3, pl_1_4, pl_1_5, pl_1_6, pl_1_7, pl_1_8, pl_1_9, pl_1_10, pl_1_11, pl_1_12, pl_1_13, pl_1_14, pl_1_15, pl_1_20, pr_isPersons hv.1, pm_u_row, pm_zr_row, pm_r_row, pm_w_at, Nat.reduceEqDiff, Nat.reduceLT, ite_true, ite_false, if_true, if_false, ite_self, Int32.reduceLE, Int32.reduceLT, pi_lt0, pm_b_eq0, pm_b_eq1, ite_not, pm_k0, pm_k1, pm_b_fit, true_and, and_true, not_true_eq_false, not_false_eq_true, ite_true, ite_false, if_true, if_false]
      with_reducible exact pm_okJ hI0
    · have z1 : ¬ (10 : Int32) ≤ 2 := by decide
      have z2 : ¬ (30 : Int32) ≤ 2 := by decide
      simp only [pb_135_0, pb_135_11, pb_135_14, pb_135_16, pb_135_22, pb_135_38, pb_135_25, pb_135_50, pb_135_37, pb_135_63, pb_135_75, pb_135_119, pb_135_78, pb_135_129, pb_135_103, pb_135_151, pb_135_132, pb_135_117, pb_135_150, pb_235_0, pb_235_13, pb_235_16, pb_235_18, pb_235_33, pb_235_64, pb_235_36, pb_235_79, pb_235_114, pb_235_82, pb_235_186, pb_235_165, pb_235_158, pb_235_151, pb_235_144, pb_235_102, pb_235_111, pb_235_179, pb_235_174, pb_235_113, pb_235_185, px_has_ver hver, px_ver_2 hver, px_isWithin, pr_in, pr_in0, pm_at_in, hv.1, a1, a2, a3, i1, z1, z2, false_and, and_self, pl_2_0, pl_2_1, pl_2_3, pl_2_4, pl_2_5, pl_2_6, pl_2_7, pl_2_8, pl_2_9, pl_2_10, pl_2_11, pl_2_12, pl_2_13, pl_2_14, pl_2_15, pl_2_20, pr_isPersons hv.1, pm_u_row, pm_zr_row, pm_r_row, pm_w_at, Nat.reduceEqDiff, Nat.reduceLT, ite_true, ite_false, if_true, if_false, ite_self, Int32.reduceLE, Int32.reduceLT, pi_lt0, pm_b_eq0, pm_b_eq1, ite_not, pm_k0, pm_k1, pm_b_fit, true_and, and_true, not_true_eq_false, not_false_eq_true, ite_true, ite_false, if_true, if_false]
      with_reducible exact pm_okJ hI0
    · have z1 : ¬ (10 : Int32) ≤ 3 := by decide
      have z2 : ¬ (30 : Int32) ≤ 3 := by decide
      simp only [pb_135_0, pb_135_11, pb_135_14, pb_135_16, pb_135_22, pb_135_38, pb_135_25, pb_135_50, pb_135_37, pb_135_63, pb_135_75, pb_135_119, pb_135_78, pb_135_129, pb_135_103, pb_135_151, pb_135_132, pb_135_117, pb_135_150, pb_235_0, pb_235_13, pb_235_16, pb_235_18, pb_235_33, pb_235_64, pb_235_36, pb_235_79, pb_235_114, pb_235_82, pb_235_186, pb_235_165, pb_235_158, pb_235_151, pb_235_144, pb_235_102, pb_235_111, pb_235_179, pb_235_174, pb_235_113, pb_235_185, px_has_ver hver, px_ver_3 hver, px_isWithin, pr_in, pr_in0, pm_at_in, hv.1, a1, a2, a3, i1, z1, z2, false_and, and_self, pl_3_0, pl_3_1, pl_3_2, pl_3_4, pl_3_5, pl_3_6, pl_3_7, pl_3_8, pl_3_9, pl_3_10, pl_3_11, pl_3_12, pl_3_13, pl_3_14, pl_3_15, pl_3_20, pr_isPersons hv.1, pm_u_row, pm_zr_row, pm_r_row, pm_w_at, Nat.reduceEqDiff, Nat.reduceLT, ite_true, ite_false, if_true, if_false, ite_self, Int32.reduceLE, Int32.reduceLT, pi_lt0, pm_b_eq0, pm_b_eq1, ite_not, pm_k0, pm_k1, pm_b_fit, true_and, and_true, not_true_eq_false, not_false_eq_true, ite_true, ite_false, if_true, if_false]
      by_cases hf : 0 ≤ I 115 x1.toNatClampNeg <;> simp only [pm_no, hf, Int32.reduceLE, Int32.reduceLT, pi_lt0, pm_b_eq0, pm_b_eq1, ite_not, pm_k0, pm_k1, pm_b_fit, true_and, and_true, not_true_eq_false, not_false_eq_true, ite_true, ite_false, if_true, if_false] <;> with_reducible exact pm_okJ hI0
    have n0 : (x2 = 0) = False := by grind
    have n1 : (x2 = 1) = False := by grind
    have n2 : (x2 = 2) = False := by grind
    have n3 : (x2 = 3) = False := by grind
    by_cases w1 : 10 ≤ x2 ∧ x2 ≤ 9 + I 113 x1.toNatClampNeg
    · have wk : x2 - 10 < I 113 x1.toNatClampNeg := by have := w1.1; have := w1.2; grind
      obtain ⟨r1, r2, r3, r4⟩ := pi_rul (t := I 22) v3 v2 (by decide) (by decide) w1.1 wk v4 v5 v6
      obtain ⟨r5, r6⟩ := pi_rul2 (v := x1) a1 v12 v2 (by decide) (by decide) w1.1 wk
      obtain ⟨⟨q1, q2, q3⟩, _⟩ := ver_rule hver a1 a2 r4 wk
      simp only [pb_135_0, pb_135_11, pb_135_14, pb_135_16, pb_135_22, pb_135_38, pb_135_25, pb_135_50, pb_135_37, pb_135_63, pb_135_75, pb_135_119, pb_135_78, pb_135_129, pb_135_103, pb_135_151, pb_135_132, pb_135_117, pb_135_150, pb_235_0, pb_235_13, pb_235_16, pb_235_18, pb_235_33, pb_235_64, pb_235_36, pb_235_79, pb_235_114, pb_235_82, pb_235_186, pb_235_165, pb_235_158, pb_235_151, pb_235_144, pb_235_102, pb_235_111, pb_235_179, pb_235_174, pb_235_113, pb_235_185, px_has_ver hver, px_ver_1 hver, px_ver_4 hver a1 a2, pt_get_22_0 v7, pt_get_22_1 v7, pt_get_22_2 v7, px_isWithin, pr_in, pm_at_in, hv.1, a1, a2, a3, i1, hw, w1, r1, r2, r3, r5, r6, q1, q2, and_self, pr_isPersons hv.1, pm_u_row, pm_zr_row, pm_r_row, pm_w_at, Nat.reduceEqDiff, Nat.reduceLT, ite_true, ite_false, if_true, if_false, ite_self, Int32.reduceLE, Int32.reduceLT, pi_lt0, pm_b_eq0, pm_b_eq1, ite_not, pm_k0, pm_k1, pm_b_fit, true_and, and_true, not_true_eq_false, not_false_eq_true, ite_true, ite_false, if_true, if_false]
      with_reducible exact pm_okJ hI0
    · by_cases w2 : 30 ≤ x2 ∧ x2 ≤ 29 + I 113 x1.toNatClampNeg
      · have wk : x2 - 30 < I 113 x1.toNatClampNeg := by have := w2.1; have := w2.2; grind
        obtain ⟨r1, r2, r3, r4⟩ := pi_rul (t := I 22) v3 v2 (by decide) (by decide) w2.1 wk v4 v5 v6
        obtain ⟨r5, r6⟩ := pi_rul2 (v := x1) a1 v12 v2 (by decide) (by decide) w2.1 wk
        obtain ⟨⟨q1, q2, q3⟩, _⟩ := ver_rule hver a1 a2 r4 wk
        by_cases hs : I 117 (10 * x1.toNatClampNeg + (x2 - 30).toNatClampNeg) = 2
        · have hs := eq_true hs
          simp only [pb_135_0, pb_135_11, pb_135_14, pb_135_16, pb_135_22, pb_135_38, pb_135_25, pb_135_50, pb_135_37, pb_135_63, pb_135_75, pb_135_119, pb_135_78, pb_135_129, pb_135_103, pb_135_151, pb_135_132, pb_135_117, pb_135_150, pb_235_0, pb_235_13, pb_235_16, pb_235_18, pb_235_33, pb_235_64, pb_235_36, pb_235_79, pb_235_114, pb_235_82, pb_235_186, pb_235_165, pb_235_158, pb_235_151, pb_235_144, pb_235_102, pb_235_111, pb_235_179, pb_235_174, pb_235_113, pb_235_185, px_has_ver hver, px_ver_1 hver, px_ver_4 hver a1 a2, pt_get_22_0 v7, pt_get_22_1 v7, pt_get_22_2 v7, px_isWithin, pr_in, pm_at_in, hv.1, a1, a2, a3, i1, hw, w1, w2, r1, r2, r3, r5, r6, q3, hs, and_self, pr_isPersons hv.1, pm_u_row, pm_zr_row, pm_r_row, pm_w_at, Nat.reduceEqDiff, Nat.reduceLT, ite_true, ite_false, if_true, if_false, ite_self, Int32.reduceLE, Int32.reduceLT, pi_lt0, pm_b_eq0, pm_b_eq1, ite_not, pm_k0, pm_k1, pm_b_fit, true_and, and_true, not_true_eq_false, not_false_eq_true, ite_true, ite_false, if_true, if_false]
          with_reducible exact pm_okJ hI0
        · have hs := eq_false hs
          simp only [pb_135_0, pb_135_11, pb_135_14, pb_135_16, pb_135_22, pb_135_38, pb_135_25, pb_135_50, pb_135_37, pb_135_63, pb_135_75, pb_135_119, pb_135_78, pb_135_129, pb_135_103, pb_135_151, pb_135_132, pb_135_117, pb_135_150, pb_235_0, pb_235_13, pb_235_16, pb_235_18, pb_235_33, pb_235_64, pb_235_36, pb_235_79, pb_235_114, pb_235_82, pb_235_186, pb_235_165, pb_235_158, pb_235_151, pb_235_144, pb_235_102, pb_235_111, pb_235_179, pb_235_174, pb_235_113, pb_235_185, px_has_ver hver, px_ver_1 hver, px_ver_4 hver a1 a2, pt_get_22_0 v7, pt_get_22_1 v7, pt_get_22_2 v7, px_isWithin, pr_in, pm_at_in, hv.1, a1, a2, a3, i1, hw, w1, w2, r1, r2, r3, r5, r6, q3, hs, and_self, pr_isPersons hv.1, pm_u_row, pm_zr_row, pm_r_row, pm_w_at, Nat.reduceEqDiff, Nat.reduceLT, ite_true, ite_false, if_true, if_false, ite_self, Int32.reduceLE, Int32.reduceLT, pi_lt0, pm_b_eq0, pm_b_eq1, ite_not, pm_k0, pm_k1, pm_b_fit, true_and, and_true, not_true_eq_false, not_false_eq_true, ite_true, ite_false, if_true, if_false]
          with_reducible exact pm_okJ hI0
      · simp only [pb_135_0, pb_135_11, pb_135_14, pb_135_16, pb_135_22, pb_135_38, pb_135_25, pb_135_50, pb_135_37, pb_135_63, pb_135_75, pb_135_119, pb_135_78, pb_135_129, pb_135_103, pb_135_151, pb_135_132, pb_135_117, pb_135_150, pb_235_0, pb_235_13, pb_235_16, pb_235_18, pb_235_33, pb_235_64, pb_235_36, pb_235_79, pb_235_114, pb_235_82, pb_235_186, pb_235_165, pb_235_158, pb_235_151, pb_235_144, pb_235_102, pb_235_111, pb_235_179, pb_235_174, pb_235_113, pb_235_185, px_has_ver hver, px_ver_1 hver, px_ver_4 hver a1 a2, pt_get_22_0 v7, pt_get_22_1 v7, pt_get_22_2 v7, px_isWithin, pr_in, pm_at_in, hv.1, a1, a2, a3, i1, hw, w1, w2, n0, n1, n2, n3, and_self, pr_isPersons hv.1, pm_u_row, pm_zr_row, pm_r_row, pm_w_at, Nat.reduceEqDiff, Nat.reduceLT, ite_true, ite_false, if_true, if_false, ite_self, Int32.reduceLE, Int32.reduceLT, pi_lt0, pm_b_eq0, pm_b_eq1, ite_not, pm_k0, pm_k1, pm_b_fit, true_and, and_true, not_true_eq_false, not_false_eq_true, ite_true, ite_false, if_true, if_false]
        with_reducible exact pm_okJ hI0
  · simp only [pb_135_0, pb_135_11, pb_135_14, pb_135_16, pb_135_22, pb_135_38, pb_135_25, pb_135_50, pb_135_37, pb_135_63, pb_135_75, pb_135_119, pb_135_78, pb_135_129, pb_135_103, pb_135_151, pb_135_132, pb_135_117, pb_135_150, pb_235_0, pb_235_13, pb_235_16, pb_235_18, pb_235_33, pb_235_64, pb_235_36, pb_235_79, pb_235_114, pb_235_82, pb_235_186, pb_235_165, pb_235_158, pb_235_151, pb_235_144, pb_235_102, pb_235_111, pb_235_179, pb_235_174, pb_235_113, pb_235_185, px_has_ver hver, pr_in, pr_isPersons hv.1, h1, Int32.reduceLE, Int32.reduceLT, pi_lt0, pm_b_eq0, pm_b_eq1, ite_not, pm_k0, pm_k1, pm_b_fit, true_and, and_true, not_true_eq_false, not_false_eq_true, ite_true, ite_false, if_true, if_false]
    with_reducible exact pm_okJ hI0

