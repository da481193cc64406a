/-! THE SHEETS. -/
theorem pi_tn4 {x : Int32} (h0 : 0 ≤ x) (h1 : x ≤ 3) : x.toNatClampNeg < 4 := by
  rw [pi_le] at h1; have := pi_tni h0
  have e : (3 : Int32).toInt = 3 := rfl
  omega
theorem pi_tn40 {x : Int32} (h0 : 0 ≤ x) (h1 : x < 40) : x.toNatClampNeg < 40 := by
  rw [pi_lt] at h1; have := pi_tni h0
  have e : (40 : Int32).toInt = 40 := rfl
  omega
theorem she_0 {t71 c72 t73 c74 : Nat → Int32} {sort size : Nat → Int32} {cells : Nat → Int64} (h : pg_she t71 c72 t73 c74 sort size cells) {x : Int32} (h0 : 0 ≤ x) (h1 : x ≤ 3) : c72 (2 * x.toNatClampNeg + 0) = sort x.toNatClampNeg := (h.2 _ (pi_tn4 h0 h1)).1.1
theorem she_1 {t71 c72 t73 c74 : Nat → Int32} {sort size : Nat → Int32} {cells : Nat → Int64} (h : pg_she t71 c72 t73 c74 sort size cells) {x : Int32} (h0 : 0 ≤ x) (h1 : x ≤ 3) : c72 (2 * x.toNatClampNeg + 1) = size x.toNatClampNeg := (h.2 _ (pi_tn4 h0 h1)).1.2
theorem she_s {t71 c72 t73 c74 : Nat → Int32} {sort size : Nat → Int32} {cells : Nat → Int64} (h : pg_she t71 c72 t73 c74 sort size cells) {x : Int32} (h0 : 0 ≤ x) (h1 : x ≤ 3) : -1 ≤ sort x.toNatClampNeg ∧ sort x.toNatClampNeg ≤ 4 ∧ 0 ≤ size x.toNatClampNeg ∧ size x.toNatClampNeg ≤ 40 := by
  obtain ⟨_, a, b, c, d, _⟩ := h.2 _ (pi_tn4 h0 h1); exact ⟨a, b, c, d⟩
theorem she_m {t71 c72 t73 c74 : Nat → Int32} {sort size : Nat → Int32} {cells : Nat → Int64} (h : pg_she t71 c72 t73 c74 sort size cells) {x : Int32} (h0 : 0 ≤ x) (h1 : x ≤ 3) : (sort x.toNatClampNeg = -1) = (¬ 0 ≤ sort x.toNatClampNeg) := by
  have := (she_s h h0 h1).1
  grind
theorem she_2 {t71 c72 t73 c74 : Nat → Int32} {sort size : Nat → Int32} {cells : Nat → Int64} (h : pg_she t71 c72 t73 c74 sort size cells) {x i : Int32} (h0 : 0 ≤ x) (h1 : x ≤ 3) (h2 : 0 ≤ i) (h3 : i < size x.toNatClampNeg) : c74 (40 * x.toNatClampNeg + i.toNatClampNeg) = (cells (40 * x.toNatClampNeg + i.toNatClampNeg)).toInt32 := by
  have := (she_s h h0 h1).2.2.2
  exact (h.2 _ (pi_tn4 h0 h1)).2.2.2.2.2 _ (pi_tn40 h2 (by grind))
theorem pi_c40 {x i : Int32} (h0 : 0 ≤ x) (h1 : x ≤ 3) (h2 : 0 ≤ i) (h3 : i < 40) : (40 * x + i).toNatClampNeg = 40 * x.toNatClampNeg + i.toNatClampNeg ∧ pm_in (40 * x + i) 160 = true := by
  have := pi_cell (r := x) (k := i) (w := 40) (lim := 4) (n := 160) h0 (by grind) h2 h3 rfl (by decide)
  rw [Int32.mul_comm 40 x]
  exact this
theorem pi_c40a {x i z : Int32} (hz : z ≤ 40) (h0 : 0 ≤ x) (h1 : x ≤ 3) (h2 : 0 ≤ i) (h3 : i < z) : (40 * x + i).toNatClampNeg = 40 * x.toNatClampNeg + i.toNatClampNeg := (pi_c40 h0 h1 h2 (by grind)).1
theorem pi_c40b {x i z : Int32} (hz : z ≤ 40) (h0 : 0 ≤ x) (h1 : x ≤ 3) (h2 : 0 ≤ i) (h3 : i < z) : pm_in (40 * x + i) 160 = true := (pi_c40 h0 h1 h2 (by grind)).2
theorem pr_isSheet {d L : Nat} {b : Bool} {I : Nat → Nat → Int32} {J : Nat → Nat → Int64} {x : Int32} {Q : Int32 → Int64 → pm_H → Prop} : pm_wc pm_code pm_meta (d + 1) 284 [.int x] (pm_Gb L b, I, J) Q ↔ Q (pm_b (0 ≤ x ∧ x ≤ 3)) 0 (pm_Gb L b, I, J) := by
  simp only [pb_284_0, pb_284_6, pr_in, pm_b_fit, true_and]
theorem pl_m13_0 : ((-13 : Int32) = 0) = False := by decide
theorem pl_m11_0 : ((-11 : Int32) = 0) = False := by decide
theorem px_hasItem {d L : Nat} {b : Bool} {I : Nat → Nat → Int32} {J : Nat → Nat → Int64} {sort size : Nat → Int32} {cells : Nat → Int64} {Q : Int32 → Int64 → pm_H → Prop} (h : pg_she (I 71) (I 72) (I 73) (I 74) sort size cells) {x : Int32} (h0 : 0 ≤ x) (h1 : x ≤ 3) {i : Int32} : pm_wc pm_code pm_meta (d + 1) 13 [.ref 70, .int x, .int i] (pm_Gb L b, I, J) Q ↔ Q (pm_b (0 ≤ i ∧ i < size x.toNatClampNeg)) 0 (pm_Gb L b, I, J) := by
  simp only [pb_13_0, pb_13_21, pb_13_4, pb_13_22, pb_13_14, pb_13_17, pt_get_71_1, h.1.1, h.1.2.1, pi_lt4, h0, h1, and_self, she_1 h, Int32.reduceLE, Int32.reduceLT, pi_lt0, pm_b_eq0, pm_b_eq1, ite_not, pm_k0, pm_k1, pm_b_fit, true_and, and_true, not_true_eq_false, not_false_eq_true, ite_true, ite_false, if_true, if_false]
  by_cases h2 : 0 ≤ i
  · by_cases h3 : size x.toNatClampNeg ≤ i
    · rw [if_pos h2, if_pos h3, pm_b_f (fun g => Int32.not_lt.mpr h3 g.2)]
    · rw [if_pos h2, if_neg h3, pm_b_t ⟨h2, Int32.not_le.mp h3⟩]
  · rw [if_neg h2, pm_b_f (fun g => h2 g.1)]
theorem px_isMissing {d L : Nat} {b : Bool} {I : Nat → Nat → Int32} {J : Nat → Nat → Int64} {sort size : Nat → Int32} {cells : Nat → Int64} {Q : Int32 → Int64 → pm_H → Prop} (h : pg_she (I 71) (I 72) (I 73) (I 74) sort size cells) {x : Int32} (h0 : 0 ≤ x) (h1 : x ≤ 3) : pm_wc pm_code pm_meta (d + 1) 12 [.ref 70, .int x] (pm_Gb L b, I, J) Q ↔ Q (pm_b (¬ 0 ≤ sort x.toNatClampNeg)) 0 (pm_Gb L b, I, J) := by
  simp only [pb_12_0, pb_12_9, pb_12_13, pb_12_17, pb_12_18, pt_get_71_0, h.1.1, h.1.2.1, pi_lt4, h0, h1, and_self, she_0 h, she_m h, Int32.reduceLE, Int32.reduceLT, pi_lt0, pm_b_eq0, pm_b_eq1, ite_not, pm_k0, pm_k1, pm_b_fit, true_and, and_true, not_true_eq_false, not_false_eq_true, ite_true, ite_false, if_true, if_false]
  split <;> simp [pm_b, *]
theorem px_refusal {d L : Nat} {b : Bool} {I : Nat → Nat → Int32} {J : Nat → Nat → Int64} {sort size : Nat → Int32} {cells : Nat → Int64} {Q : Int32 → Int64 → pm_H → Prop} (h : pg_she (I 71) (I 72) (I 73) (I 74) sort size cells) {x : Int32} (h0 : 0 ≤ x) (h1 : x ≤ 3) {y : Int32} : pm_wc pm_code pm_meta (d + 2) 14 [.ref 70, .int x, .int y] (pm_Gb L b, I, J) Q ↔ Q (if 0 ≤ sort x.toNatClampNeg then if sort x.toNatClampNeg = y then 0 else -13 else -11) 0 (pm_Gb L b, I, J) := by
  simp only [pb_14_0, pb_14_5, pb_14_11, pb_14_8, pb_14_20, pb_14_24, pb_14_28, pb_14_30, px_isMissing h h0 h1, pt_get_71_0, h.1.1, h.1.2.1, pi_lt4, h0, h1, and_self, she_0 h, Int32.reduceLE, Int32.reduceLT, pi_lt0, pm_b_eq0, pm_b_eq1, ite_not, pm_k0, pm_k1, pm_b_fit, true_and, and_true, not_true_eq_false, not_false_eq_true, ite_true, ite_false, if_true, if_false]
  split
  · split <;> simp [*]
  · simp [*]
theorem pr_in0 {d L : Nat} {b : Bool} {I : Nat → Nat → Int32} {J : Nat → Nat → Int64} {x n : Int32} {Q : Int32 → Int64 → pm_H → Prop} (hn : 0 ≤ n) : pm_wc pm_code pm_meta d 175 [.int x, .int 0, .int (n - 1)] (pm_Gb L b, I, J) Q ↔ Q (pm_b (0 ≤ x ∧ x < n)) 0 (pm_Gb L b, I, J) := by
  simp only [pr_in, pr_isPersons hn]
theorem px_narrow {d L : Nat} {b : Bool} {I : Nat → Nat → Int32} {J : Nat → Nat → Int64} {sort size : Nat → Int32} {cells : Nat → Int64} {Q : Int32 → Int64 → pm_H → Prop} (h : pg_she (I 71) (I 72) (I 73) (I 74) sort size cells) {x : Int32} (h0 : 0 ≤ x) (h1 : x ≤ 3) {v : Int32} : pm_wc pm_code pm_meta (d + 1) 15 [.ref 70, .int x, .int v] (pm_Gb L b, I, J) Q ↔ Q (if sort x.toNatClampNeg = 0 then v.toInt8.toInt32 else if sort x.toNatClampNeg = 1 then v.toInt16.toInt32 else if sort x.toNatClampNeg = 4 then (if v = 0 then 0 else 1) else v) 0 (pm_Gb L b, I, J) := by
  simp only [pb_15_0, pb_15_9, pb_15_60, pb_15_50, pb_15_47, pb_15_44, pb_15_58, pb_15_54, pb_15_59, pt_get_71_0, h.1.1, h.1.2.1, pi_lt4, h0, h1, and_self, she_0 h, Int32.reduceLE, Int32.reduceLT, pi_lt0, pm_b_eq0, pm_b_eq1, ite_not, pm_k0, pm_k1, pm_b_fit, true_and, and_true, not_true_eq_false, not_false_eq_true, ite_true, ite_false, if_true, if_false]
  repeat' split
  all_goals simp_all
theorem pr_in04 {d L : Nat} {b : Bool} {I : Nat → Nat → Int32} {J : Nat → Nat → Int64} {x : Int32} {Q : Int32 → Int64 → pm_H → Prop} : pm_wc pm_code pm_meta d 175 [.int x, .int 0, .int 4] (pm_Gb L b, I, J) Q ↔ Q (pm_b (0 ≤ x ∧ x ≤ 4)) 0 (pm_Gb L b, I, J) := pr_in
theorem pr_narrowed {d L : Nat} {b : Bool} {I : Nat → Nat → Int32} {J : Nat → Nat → Int64} {s v : Int32} {Q : Int32 → Int64 → pm_H → Prop} : pm_wc pm_code pm_meta d 286 [.int s, .int v] (pm_Gb L b, I, J) Q ↔ Q 0 (if s = 0 then v.toInt8.toInt32.toInt64 else if s = 1 then v.toInt16.toInt32.toInt64 else if s = 4 then (if v = 0 then 0 else 1) else v.toInt64) (pm_Gb L b, I, J) := by
  simp only [pb_286_0, pb_286_4, pb_286_10, pb_286_40, pb_286_15, pb_286_21, pb_286_26, pb_286_38, pb_286_34, pb_286_30, Int32.reduceLE, Int32.reduceLT, pi_lt0, pm_b_eq0, pm_b_eq1, ite_not, pm_k0, pm_k1, pm_b_fit, true_and, and_true, not_true_eq_false, not_false_eq_true, ite_true, ite_false, if_true, if_false]
  repeat' split
  all_goals simp_all
theorem she_put {t71 c72 t73 c74 : Nat → Int32} {sort size : Nat → Int32} {cells : Nat → Int64} (h : pg_she t71 c72 t73 c74 sort size cells) {S i : Nat} {v : Int32} {w : Int64} (hi : i < 40) (hw : w.toInt32 = v) : pg_she t71 c72 t73 (pm_w c74 (40 * S + i) v) sort size (pm_w cells (40 * S + i) w) := by
  refine ⟨h.1, fun s hs => ?_⟩
  obtain ⟨a1, a2, a3, a4, a5, a6⟩ := h.2 s hs
  refine ⟨a1, a2, a3, a4, a5, fun j hj => ?_⟩
  by_cases e : s = S ∧ j = i
  · obtain ⟨rfl, rfl⟩ := e
    rw [pm_w_self, pm_w_self, hw]
  · rw [pm_w_ne (by omega), pm_w_ne (by omega)]
    exact a6 j hj
theorem po_put {d L : Nat} {b : Bool} {I : Nat → Nat → Int32} {J : Nat → Nat → Int64} {X : Nat → Int32} {x1 x2 x3 : Int32} (hI : pm_inv X b I J) : pm_wc pm_code pm_meta (d + 20) 165 [.ref 8, .int x1, .int x2, .int x3] (pm_Gb L b, I, J) (fun v _ H => pm_wc pm_code pm_meta (d + 20) 287 [.ref 79, .int x1, .int x2, .int x3] H (pm_ok X L b v)) := by
  have hI0 := hI
  obtain ⟨⟨htod, hroa, hper, hhou, hthi, hrig, hver, hsea, hsta, hlot, hbuy, hdee, hple⟩, htxt, hrid, htmp, hshe, hshf, htra, hk, hkept, hcon⟩ := hI
  have hn1 := (per_n hper).1
  have hn2 := (hou_n hhou).1
  have hn3 := (thi_n hthi).1
  have hn4 := (rig_n hrig).1
  by_cases hs : 0 ≤ x1 ∧ x1 ≤ 3
  · have hss := she_s hshe hs.1 hs.2
    have h0 := hs.1
    have h1 := hs.2
    have hs3 := hss.2.2.1
    have hs4 := hss.2.2.2
    by_cases g0 : 0 ≤ I 151 x1.toNatClampNeg
    · by_cases g2 : 0 ≤ x2 ∧ x2 < I 152 x1.toNatClampNeg
      · have g3 := g2.1
        have g4 := g2.2
        have g5 : x2 < 40 := by grind
        simp only [pb_165_0, pb_165_11, pb_165_14, pb_165_16, pb_165_24, pb_165_30, pb_165_27, pb_165_39, pb_165_42, pb_165_45, pb_165_63, pb_165_66, pb_287_0, pb_287_4, pb_287_7, pb_287_9, pb_287_21, pb_287_18, pb_287_34, pb_287_37, pb_287_40, pb_287_60, px_isWithin, pt_has_71, pt_get_71_0, pt_get_71_1, pt_get_73, pt_set_73, px_hasItem hshe hs.1 hs.2, px_isMissing hshe hs.1 hs.2, px_refusal hshe hs.1 hs.2, hshe.1.1, hshe.1.2.1, hshe.1.2.2.1, hshe.1.2.2.2,she_0 hshe, she_1 hshe,  px_narrow hshe hs.1 hs.2, pi_lt4, pr_isSheet, pr_in0, pr_narrowed, pi_c40a hs4, pi_c40b hs4, sea_in, pl_m13_0, pl_m11_0, pl_1_0, h0, h1, hs3, and_self, g0, g3, g4, g5, htod.1, hper.1.2, hhou.1.2, hthi.1.2, hrig.1.2, hver.1.2.1, hsta.1.2, hlot.1.2, hbuy.1.2, hdee.1.2, pm_u_row, pm_zr_row, pm_r_row, pm_w_at, Nat.reduceEqDiff, Nat.reduceLT, ite_true, ite_false, if_true, if_false, ite_self, Int32.reduceLE, Int32.reduceLT, pi_lt0, pm_b_eq0, pm_b_eq1, ite_not, pm_k0, pm_k1, pm_b_fit, true_and, and_true, not_true_eq_false, not_false_eq_true, ite_true, ite_false, if_true, if_false]
        refine pm_okI2 (by with_reducible rfl) ?_
        simp only [pm_inv, pm_land, pm_u_row, pm_zr_row, pm_w_at, Nat.reduceEqDiff, ite_true, ite_false, pm_kept_u, pm_kept_z, pm_kept_r, pm_r_row, ne_eq, not_false_eq_true, Nat.reduceLT, hcon, htod, hroa, hper, hhou, hthi, hrig, hver, hsea, hsta, hlot, hbuy, hdee, hple, htxt, hrid, htmp, hshe, hshf, htra, hk, hkept, true_and, and_true]
        refine she_put hshe (pi_tn40 g3 g5) ?_
        repeat' split
        all_goals simp
      · simp only [pb_165_0, pb_165_11, pb_165_14, pb_165_16, pb_165_24, pb_165_30, pb_165_27, pb_165_39, pb_165_42, pb_165_45, pb_165_63, pb_165_66, pb_287_0, pb_287_4, pb_287_7, pb_287_9, pb_287_21, pb_287_18, pb_287_34, pb_287_37, pb_287_40, pb_287_60, px_isWithin, pt_has_71, pt_get_71_0, pt_get_71_1, pt_get_73, pt_set_73, px_hasItem hshe hs.1 hs.2, px_isMissing hshe hs.1 hs.2, px_refusal hshe hs.1 hs.2, hshe.1.1, hshe.1.2.1, hshe.1.2.2.1, hshe.1.2.2.2,she_0 hshe, she_1 hshe,  px_narrow hshe hs.1 hs.2, pi_lt4, pr_isSheet, pr_in0, pr_narrowed, pi_c40a hs4, pi_c40b hs4, sea_in, pl_m13_0, pl_m11_0, pl_1_0, h0, h1, hs3, and_self, g0, g2, htod.1, hper.1.2, hhou.1.2, hthi.1.2, hrig.1.2, hver.1.2.1, hsta.1.2, hlot.1.2, hbuy.1.2, hdee.1.2, pm_u_row, pm_zr_row, pm_r_row, pm_w_at, Nat.reduceEqDiff, Nat.reduceLT, ite_true, ite_false, if_true, if_false, ite_self, Int32.reduceLE, Int32.reduceLT, pi_lt0, pm_b_eq0, pm_b_eq1, ite_not, pm_k0, pm_k1, pm_b_fit, true_and, and_true, not_true_eq_false, not_false_eq_true, ite_true, ite_false, if_true, if_false]
        with_reducible exact pm_okJ hI0
    · simp only [pb_165_0, pb_165_11, pb_165_14, pb_165_16, pb_165_24, pb_165_30, pb_165_27, pb_165_39, pb_165_42, pb_165_45, pb_165_63, pb_165_66, pb_287_0, pb_287_4, pb_287_7, pb_287_9, pb_287_21, pb_287_18, pb_287_34, pb_287_37, pb_287_40, pb_287_60, px_isWithin, pt_has_71, pt_get_71_0, pt_get_71_1, pt_get_73, pt_set_73, px_hasItem hshe hs.1 hs.2, px_isMissing hshe hs.1 hs.2, px_refusal hshe hs.1 hs.2, hshe.1.1, hshe.1.2.1, hshe.1.2.2.1, hshe.1.2.2.2,she_0 hshe, she_1 hshe,  px_narrow hshe hs.1 hs.2, pi_lt4, pr_isSheet, pr_in0, pr_narrowed, pi_c40a hs4, pi_c40b hs4, sea_in, pl_m13_0, pl_m11_0, pl_1_0, h0, h1, hs3, and_self, g0, htod.1, hper.1.2, hhou.1.2, hthi.1.2, hrig.1.2, hver.1.2.1, hsta.1.2, hlot.1.2, hbuy.1.2, hdee.1.2, pm_u_row, pm_zr_row, pm_r_row, pm_w_at, Nat.reduceEqDiff, Nat.reduceLT, ite_true, ite_false, if_true, if_false, ite_self, Int32.reduceLE, Int32.reduceLT, pi_lt0, pm_b_eq0, pm_b_eq1, ite_not, pm_k0, pm_k1, pm_b_fit, true_and, and_true, not_true_eq_false, not_false_eq_true, ite_true, ite_false, if_true, if_false]
      with_reducible exact pm_okJ hI0
  · simp only [pb_165_0, pb_165_11, pb_165_14, pb_165_16, pb_165_24, pb_165_30, pb_165_27, pb_165_39, pb_165_42, pb_165_45, pb_165_63, pb_165_66, pb_287_0, pb_287_4, pb_287_7, pb_287_9, pb_287_21, pb_287_18, pb_287_34, pb_287_37, pb_287_40, pb_287_60, pt_has_71, px_isWithin, pr_in, hshe.1.1, hshe.1.2.1, hshe.1.2.2.1, hshe.1.2.2.2, pi_lt4, pr_isSheet, hs,  Int32.reduceLE, Int32.reduceLT, pi_lt0, pm_b_eq0, pm_b_eq1, ite_not, pm_k0, pm_k1, pm_b_fit, true_and, and_true, not_true_eq_false, not_false_eq_true, ite_true, ite_false, if_true, if_false]
    first | with_reducible exact pm_okJ hI0 | (split <;> with_reducible exact pm_okJ hI0)
theorem po_item {d L : Nat} {b : Bool} {I : Nat → Nat → Int32} {J : Nat → Nat → Int64} {X : Nat → Int32} {x1 x2 x3 : Int32} (hI : pm_inv X b I J) : pm_wc pm_code pm_meta (d + 20) 166 [.ref 8, .int x1, .int x2, .int x3] (pm_Gb L b, I, J) (fun v _ H => pm_wc pm_code pm_meta (d + 20) 288 [.ref 79, .int x1, .int x2, .int x3] H (pm_ok X L b v)) := by
  have hI0 := hI
  obtain ⟨⟨htod, hroa, hper, hhou, hthi, hrig, hver, hsea, hsta, hlot, hbuy, hdee, hple⟩, htxt, hrid, htmp, hshe, hshf, htra, hk, hkept, hcon⟩ := hI
  have hn1 := (per_n hper).1
  have hn2 := (hou_n hhou).1
  have hn3 := (thi_n hthi).1
  have hn4 := (rig_n hrig).1
  by_cases hs : 0 ≤ x1 ∧ x1 ≤ 3
  · have hss := she_s hshe hs.1 hs.2
    have h0 := hs.1
    have h1 := hs.2
    have hs3 := hss.2.2.1
    have hs4 := hss.2.2.2
    by_cases gy : 0 ≤ x2 ∧ x2 ≤ 4
    · by_cases g0 : 0 ≤ I 151 x1.toNatClampNeg
      · by_cases g1 : (I 151 x1.toNatClampNeg = x2)
        · have g1 := eq_true g1
          by_cases g2 : 0 ≤ x3 ∧ x3 < I 152 x1.toNatClampNeg
          · have g3 := g2.1
            have g4 := g2.2
            have g5 : x3 < 40 := by grind
            simp only [pb_166_0, pb_166_11, pb_166_23, pb_166_14, pb_166_20, pb_166_25, pb_166_34, pb_166_44, pb_166_41, pb_166_53, pb_166_71, pb_166_56, pb_166_73, pb_166_68, pb_288_0, pb_288_4, pb_288_16, pb_288_7, pb_288_13, pb_288_18, pb_288_30, pb_288_27, pb_288_43, pb_288_40, pb_288_56, pb_288_74, pb_288_59, pb_288_76, px_isWithin, pt_has_71, pt_get_71_0, pt_get_71_1, pt_get_73, pt_set_73, px_hasItem hshe hs.1 hs.2, px_isMissing hshe hs.1 hs.2, px_refusal hshe hs.1 hs.2, hshe.1.1, hshe.1.2.1, hshe.1.2.2.1, hshe.1.2.2.2,she_0 hshe, she_1 hshe,  px_narrow hshe hs.1 hs.2, pi_lt4, pr_isSheet, pr_in0, pr_narrowed, pi_c40a hs4, pi_c40b hs4, sea_in, pl_m13_0, pl_m11_0, pl_1_0, h0, h1, hs3, and_self, pr_in04, gy, g0, g1, g3, g4, g5, she_2 hshe, htod.1, hper.1.2, hhou.1.2, hthi.1.2, hrig.1.2, hver.1.2.1, hsta.1.2, hlot.1.2, hbuy.1.2, hdee.1.2, pm_u_row, pm_zr_row, pm_r_row, pm_w_at, Nat.reduceEqDiff, Nat.reduceLT, ite_true, ite_false, if_true, if_false, ite_self, Int32.reduceLE, Int32.reduceLT, pi_lt0, pm_b_eq0, pm_b_eq1, ite_not, pm_k0, pm_k1, pm_b_fit, true_and, and_true, not_true_eq_false, not_false_eq_true, ite_true, ite_false, if_true, if_false]
            with_reducible exact pm_okJ hI0
          · simp only [pb_166_0, pb_166_11, pb_166_23, pb_166_14, pb_166_20, pb_166_25, pb_166_34, pb_166_44, pb_166_41, pb_166_53, pb_166_71, pb_166_56, pb_166_73, pb_166_68, pb_288_0, pb_288_4, pb_288_16, pb_288_7, pb_288_13, pb_288_18, pb_288_30, pb_288_27, pb_288_43, pb_288_40, pb_288_56, pb_288_74, pb_288_59, pb_288_76, px_isWithin, pt_has_71, pt_get_71_0, pt_get_71_1, pt_get_73, pt_set_73, px_hasItem hshe hs.1 hs.2, px_isMissing hshe hs.1 hs.2, px_refusal hshe hs.1 hs.2, hshe.1.1, hshe.1.2.1, hshe.1.2.2.1, hshe.1.2.2.2,she_0 hshe, she_1 hshe,  px_narrow hshe hs.1 hs.2, pi_lt4, pr_isSheet, pr_in0, pr_narrowed, pi_c40a hs4, pi_c40b hs4, sea_in, pl_m13_0, pl_m11_0, pl_1_0, h0, h1, hs3, and_self, pr_in04, gy, g0, g1, g2, htod.1, hper.1.2, hhou.1.2, hthi.1.2, hrig.1.2, hver.1.2.1, hsta.1.2, hlot.1.2, hbuy.1.2, hdee.1.2, pm_u_row, pm_zr_row, pm_r_row, pm_w_at, Nat.reduceEqDiff, Nat.reduceLT, ite_true, ite_false, if_true, if_false, ite_self, Int32.reduceLE, Int32.reduceLT, pi_lt0, pm_b_eq0, pm_b_eq1, ite_not, pm_k0, pm_k1, pm_b_fit, true_and, and_true, not_true_eq_false, not_false_eq_true, ite_true, ite_false, if_true, if_false]
            with_reducible exact pm_okJ hI0
        · have g1 := eq_false g1
          simp only [pb_166_0, pb_166_11, pb_166_23, pb_166_14, pb_166_20, pb_166_25, pb_166_34, pb_166_44, pb_166_41, pb_166_53, pb_166_71, pb_166_56, pb_166_73, pb_166_68, pb_288_0, pb_288_4, pb_288_16, pb_288_7, pb_288_13, pb_288_18, pb_288_30, pb_288_27, pb_288_43, pb_288_40, pb_288_56, pb_288_74, pb_288_59, pb_288_76, px_isWithin, pt_has_71, pt_get_71_0, pt_get_71_1, pt_get_73, pt_set_73, px_hasItem hshe hs.1 hs.2, px_isMissing hshe hs.1 hs.2, px_refusal hshe hs.1 hs.2, hshe.1.1, hshe.1.2.1, hshe.1.2.2.1, hshe.1.2.2.2,she_0 hshe, she_1 hshe,  px_narrow hshe hs.1 hs.2, pi_lt4, pr_isSheet, pr_in0, pr_narrowed, pi_c40a hs4, pi_c40b hs4, sea_in, pl_m13_0, pl_m11_0, pl_1_0, h0, h1, hs3, and_self, pr_in04, gy, g0, g1, htod.1, hper.1.2, hhou.1.2, hthi.1.2, hrig.1.2, hver.1.2.1, hsta.1.2, hlot.1.2, hbuy.1.2, hdee.1.2, pm_u_row, pm_zr_row, pm_r_row, pm_w_at, Nat.reduceEqDiff, Nat.reduceLT, ite_true, ite_false, if_true, if_false, ite_self, Int32.reduceLE, Int32.reduceLT, pi_lt0, pm_b_eq0, pm_b_eq1, ite_not, pm_k0, pm_k1, pm_b_fit, true_and, and_true, not_true_eq_false, not_false_eq_true, ite_true, ite_false, if_true, if_false]
          with_reducible exact pm_okJ hI0
      · simp only [pb_166_0, pb_166_11, pb_166_23, pb_166_14, pb_166_20, pb_166_25, pb_166_34, pb_166_44, pb_166_41, pb_166_53, pb_166_71, pb_166_56, pb_166_73, pb_166_68, pb_288_0, pb_288_4, pb_288_16, pb_288_7, pb_288_13, pb_288_18, pb_288_30, pb_288_27, pb_288_43, pb_288_40, pb_288_56, pb_288_74, pb_288_59, pb_288_76, px_isWithin, pt_has_71, pt_get_71_0, pt_get_71_1, pt_get_73, pt_set_73, px_hasItem hshe hs.1 hs.2, px_isMissing hshe hs.1 hs.2, px_refusal hshe hs.1 hs.2, hshe.1.1, hshe.1.2.1, hshe.1.2.2.1, hshe.1.2.2.2,she_0 hshe, she_1 hshe,  px_narrow hshe hs.1 hs.2, pi_lt4, pr_isSheet, pr_in0, pr_narrowed, pi_c40a hs4, pi_c40b hs4, sea_in, pl_m13_0, pl_m11_0, pl_1_0, h0, h1, hs3, and_self, pr_in04, gy, g0, htod.1, hper.1.2, hhou.1.2, hthi.1.2, hrig.1.2, hver.1.2.1, hsta.1.2, hlot.1.2, hbuy.1.2, hdee.1.2, pm_u_row, pm_zr_row, pm_r_row, pm_w_at, Nat.reduceEqDiff, Nat.reduceLT, ite_true, ite_false, if_true, if_false, ite_self, Int32.reduceLE, Int32.reduceLT, pi_lt0, pm_b_eq0, pm_b_eq1, ite_not, pm_k0, pm_k1, pm_b_fit, true_and, and_true, not_true_eq_false, not_false_eq_true, ite_true, ite_false, if_true, if_false]
        with_reducible exact pm_okJ hI0
    · simp only [pb_166_0, pb_166_11, pb_166_23, pb_166_14, pb_166_20, pb_166_25, pb_166_34, pb_166_44, pb_166_41, pb_166_53, pb_166_71, pb_166_56, pb_166_73, pb_166_68, pb_288_0, pb_288_4, pb_288_16, pb_288_7, pb_288_13, pb_288_18, pb_288_30, pb_288_27, pb_288_43, pb_288_40, pb_288_56, pb_288_74, pb_288_59, pb_288_76, px_isWithin, pt_has_71, pt_get_71_0, pt_get_71_1, pt_get_73, pt_set_73, px_hasItem hshe hs.1 hs.2, px_isMissing hshe hs.1 hs.2, px_refusal hshe hs.1 hs.2, hshe.1.1, hshe.1.2.1, hshe.1.2.2.1, hshe.1.2.2.2,she_0 hshe, she_1 hshe,  px_narrow hshe hs.1 hs.2, pi_lt4, pr_isSheet, pr_in0, pr_narrowed, pi_c40a hs4, pi_c40b hs4, sea_in, pl_m13_0, pl_m11_0, pl_1_0, h0, h1, hs3, and_self, pr_in04, gy, htod.1, hper.1.2, hhou.1.2, hthi.1.2, hrig.1.2, hver.1.2.1, hsta.1.2, hlot.1.2, hbuy.1.2, hdee.1.2, pm_u_row, pm_zr_row, pm_r_row, pm_w_at, Nat.reduceEqDiff, Nat.reduceLT, ite_true, ite_false, if_true, if_false, ite_self, Int32.reduceLE, Int32.reduceLT, pi_lt0, pm_b_eq0, pm_b_eq1, ite_not, pm_k0, pm_k1, pm_b_fit, true_and, and_true, not_true_eq_false, not_false_eq_true, ite_true, ite_false, if_true, if_false]
      with_reducible exact pm_okJ hI0
  · simp only [pb_166_0, pb_166_11, pb_166_23, pb_166_14, pb_166_20, pb_166_25, pb_166_34, pb_166_44, pb_166_41, pb_166_53, pb_166_71, pb_166_56, pb_166_73, pb_166_68, pb_288_0, pb_288_4, pb_288_16, pb_288_7, pb_288_13, pb_288_18, pb_288_30, pb_288_27, pb_288_43, pb_288_40, pb_288_56, pb_288_74, pb_288_59, pb_288_76, pt_has_71, px_isWithin, pr_in, hshe.1.1, hshe.1.2.1, hshe.1.2.2.1, hshe.1.2.2.2, pi_lt4, pr_isSheet, hs,  Int32.reduceLE, Int32.reduceLT, pi_lt0, pm_b_eq0, pm_b_eq1, ite_not, pm_k0, pm_k1, pm_b_fit, true_and, and_true, not_true_eq_false, not_false_eq_true, ite_true, ite_false, if_true, if_false]
    first | with_reducible exact pm_okJ hI0 | (split <;> with_reducible exact pm_okJ hI0)

