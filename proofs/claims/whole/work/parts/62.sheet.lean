/-! sheet. -/
def pm_zs {α : Type} (S : Nat) (z : α) (c : Nat → α) : Nat → α := fun j => if 40 * S ≤ j ∧ j < 40 * S + 40 then z else c j
theorem fd_zero {α : Type} (z : α) (S : Nat) : ∀ (m : Nat) (i : Int32) (c : Nat → α), 0 ≤ i → i < 100 → m ≤ 100 → pm_fo (fun c i => pm_w c (40 * S + i.toNatClampNeg) z) m i c = fun j => if 40 * S + i.toNatClampNeg ≤ j ∧ j < 40 * S + i.toNatClampNeg + m then z else c j := by
  intro m
  suffices H : ∀ (i : Int32) (c : Nat → α), 0 ≤ i → i.toInt + m < 1000 → pm_fo (fun c i => pm_w c (40 * S + i.toNatClampNeg) z) m i c = fun j => if 40 * S + i.toNatClampNeg ≤ j ∧ j < 40 * S + i.toNatClampNeg + m then z else c j by
    intro i c h0 h1 hm
    rw [pi_lt] at h1
    have e : (100 : Int32).toInt = 100 := rfl
    exact H i c h0 (by omega)
  induction m with
  | zero => intro i c h0 h1; funext j; rw [if_neg (by omega)]; rfl
  | succ m ih =>
    intro i c h0 h1
    have g := pi_tni h0
    have e3 : (i + 1).toNatClampNeg = i.toNatClampNeg + 1 := pi_tn1 h0 (by rw [pi_lt]; have e : (2147483647 : Int32).toInt = 2147483647 := rfl; omega)
    have e4 : 0 ≤ i + 1 := by
      have e5 : i < 100000 := by rw [pi_lt]; have e : (100000 : Int32).toInt = 100000 := rfl; omega
      grind
    have e6 := pi_tni e4
    unfold pm_fo
    rw [ih (i + 1) _ e4 (by omega)]
    funext j
    rw [e3]
    simp only [pm_w_at]
    by_cases h2 : j = 40 * S + i.toNatClampNeg
    · rw [if_pos (by omega : 40 * S + i.toNatClampNeg ≤ j ∧ _)]; split <;> simp [h2]
    · by_cases h3 : 40 * S + i.toNatClampNeg ≤ j ∧ j < 40 * S + i.toNatClampNeg + (m + 1)
      · rw [if_pos h3, if_pos (by omega)]
      · rw [if_neg h3, if_neg (by omega), if_neg h2]
theorem fd_zero40 {α : Type} (z : α) (S : Nat) (c : Nat → α) : pm_fo (fun c i => pm_w c (40 * S + i.toNatClampNeg) z) (40 : Int32).toNatClampNeg 0 c = pm_zs S z c := by
  rw [show (40 : Int32).toNatClampNeg = 40 from rfl, fd_zero z S 40 0 c (by decide) (by decide) (by decide)]
  rfl
theorem px_make {d L : Nat} {b : Bool} {I : Nat → Nat → Int32} {J : Nat → Nat → Int64} {x y z : Int32} {Q : Int32 → Int64 → pm_H → Prop} (h1 : pm_ti (I 71) 2 4) (h2 : I 71 3 = 4) (h3 : pm_ti (I 73) 40 4) (h4 : I 73 3 = 4) (h0 : 0 ≤ x) (hx : x ≤ 3) : pm_wc pm_code pm_meta (d + 1) 11 [.ref 70, .int x, .int y, .int z] (pm_Gb L b, I, J) Q ↔ Q 0 0 (pm_Gb L b, pm_r (pm_u (pm_u I 72 (2 * x.toNatClampNeg + 0) y) 72 (2 * x.toNatClampNeg + 1) z) 74 (pm_zs x.toNatClampNeg 0 (I 74)), J) := by
  simp only [pb_11_0, pb_11_10, pb_11_20, pb_11_47, pb_11_30, pb_11_41, pt_set_71_0, pt_set_71_1, h1, h2, pi_lt4, h0, hx, and_self, pm_u_row, pm_zr_row, pm_r_row, pm_w_at, Nat.reduceEqDiff, Nat.reduceLT, ite_true, ite_false, if_true, if_false, ite_self, Int32.reduceLE, Int32.reduceLT, pi_lt0, pm_b_eq0, pm_b_eq1, ite_not, pm_k0, pm_k1, pm_b_fit, true_and, and_true, not_true_eq_false, not_false_eq_true, ite_true, ite_false, if_true, if_false]
  have e := pm_r_self (pm_u (pm_u I 72 (2 * x.toNatClampNeg + 0) y) 72 (2 * x.toNatClampNeg + 1) z) 74
  have e2 : (pm_u (pm_u I 72 (2 * x.toNatClampNeg + 0) y) 72 (2 * x.toNatClampNeg + 1) z) 74 = I 74 := by simp only [pm_u_row, pm_zr_row, pm_r_row, pm_w_at, Nat.reduceEqDiff, Nat.reduceLT, ite_true, ite_false, if_true, if_false, ite_self]
  have key := pm_for (A := fun c i => pm_wp pm_code pm_meta (d + 1) 11 23 ([.ref 70, .int x, .int y, .int z, .int i], [], (pm_Gb L b, pm_r (pm_u (pm_u I 72 (2 * x.toNatClampNeg + 0) y) 72 (2 * x.toNatClampNeg + 1) z) 74 c, J)) Q) (E := fun c => Q 0 0 (pm_Gb L b, pm_r (pm_u (pm_u I 72 (2 * x.toNatClampNeg + 0) y) 72 (2 * x.toNatClampNeg + 1) z) 74 c, J)) (f := fun c i => pm_w c (40 * x.toNatClampNeg + i.toNatClampNeg) 0) (n := 40) (by decide) (by decide) (fun c i g0 => ?_) ((pm_u (pm_u I 72 (2 * x.toNatClampNeg + 0) y) 72 (2 * x.toNatClampNeg + 1) z) 74)
  · rw [e, fd_zero40, e2] at key
    exact key
  · rw [pb_11_23]
    by_cases hi : 40 ≤ i
    · simp only [hi, pb_11_0, pb_11_10, pb_11_20, pb_11_47, pb_11_30, pb_11_41, Int32.reduceLE, Int32.reduceLT, pi_lt0, pm_b_eq0, pm_b_eq1, ite_not, pm_k0, pm_k1, pm_b_fit, true_and, and_true, not_true_eq_false, not_false_eq_true, ite_true, ite_false, if_true, if_false]
    · have g1 := Int32.not_le.mp hi
      simp only [hi, pb_11_0, pb_11_10, pb_11_20, pb_11_47, pb_11_30, pb_11_41, pt_set_73, h3, h4, pi_lt4, h0, hx, g0, g1, and_self, pm_u_r, pm_u_row, pm_zr_row, pm_r_row, pm_w_at, Nat.reduceEqDiff, Nat.reduceLT, ite_true, ite_false, if_true, if_false, ite_self, Int32.reduceLE, Int32.reduceLT, pi_lt0, pm_b_eq0, pm_b_eq1, ite_not, pm_k0, pm_k1, pm_b_fit, true_and, and_true, not_true_eq_false, not_false_eq_true, ite_true, ite_false, if_true, if_false]
theorem pr_sheet_loop {d L : Nat} {b : Bool} {I : Nat → Nat → Int32} {J : Nat → Nat → Int64} {x y z : Int32} {Q : Int32 → Int64 → pm_H → Prop} (h0 : 0 ≤ x) (hx : x ≤ 3) : pm_wp pm_code pm_meta d 285 64 ([.ref 79, .int x, .int y, .int z, .int 0], [], (pm_Gb L b, I, J)) Q ↔ Q 1 0 (pm_Gb L b, I, pm_r J 153 (pm_zs x.toNatClampNeg 0 (J 153))) := by
  have e := pm_r_self J 153
  have key := pm_for (A := fun c i => pm_wp pm_code pm_meta d 285 64 ([.ref 79, .int x, .int y, .int z, .int i], [], (pm_Gb L b, I, pm_r J 153 c)) Q) (E := fun c => Q 1 0 (pm_Gb L b, I, pm_r J 153 c)) (f := fun c i => pm_w c (40 * x.toNatClampNeg + i.toNatClampNeg) 0) (n := 40) (by decide) (by decide) (fun c i g0 => ?_) (J 153)
  · rw [e, fd_zero40] at key
    exact key
  · rw [pb_285_64]
    by_cases hi : 40 ≤ i
    · simp only [hi, pb_285_0, pb_285_4, pb_285_26, pb_285_7, pb_285_13, pb_285_16, pb_285_28, pb_285_20, pb_285_39, pb_285_32, pb_285_59, pb_285_55, pb_285_36, pb_285_60, pb_285_90, pb_285_71, Int32.reduceLE, Int32.reduceLT, pi_lt0, pm_b_eq0, pm_b_eq1, ite_not, pm_k0, pm_k1, pm_b_fit, true_and, and_true, not_true_eq_false, not_false_eq_true, ite_true, ite_false, if_true, if_false]
    · have g1 := Int32.not_le.mp hi
      simp only [hi, pb_285_0, pb_285_4, pb_285_26, pb_285_7, pb_285_13, pb_285_16, pb_285_28, pb_285_20, pb_285_39, pb_285_32, pb_285_59, pb_285_55, pb_285_36, pb_285_60, pb_285_90, pb_285_71, (pi_c40 h0 hx g0 g1).1, (pi_c40 h0 hx g0 g1).2, and_self, pm_u_r, pm_u_row, pm_zr_row, pm_r_row, pm_w_at, Nat.reduceEqDiff, Nat.reduceLT, ite_true, ite_false, if_true, if_false, ite_self, Int32.reduceLE, Int32.reduceLT, pi_lt0, pm_b_eq0, pm_b_eq1, ite_not, pm_k0, pm_k1, pm_b_fit, true_and, and_true, not_true_eq_false, not_false_eq_true, ite_true, ite_false, if_true, if_false]
theorem she_sheet {t71 c72 t73 c74 : Nat → Int32} {sort size : Nat → Int32} {cells : Nat → Int64} (h : pg_she t71 c72 t73 c74 sort size cells) {S : Nat} {y z : Int32} (h0 : -1 ≤ y) (h1 : y ≤ 4) (h2 : 0 ≤ z) (h3 : z ≤ 40) : pg_she t71 (pm_w (pm_w c72 (2 * S + 0) y) (2 * S + 1) z) t73 (pm_zs S 0 c74) (pm_w sort S y) (pm_w size S z) (pm_zs S 0 cells) := by
  refine ⟨h.1, fun s hs => ?_⟩
  obtain ⟨a1, a2, a3, a4, a5, a6⟩ := h.2 s hs
  have a7 : ∀ j, j < 40 → pm_zs S 0 c74 (40 * s + j) = (pm_zs S 0 cells (40 * s + j)).toInt32 := by
    intro j hj
    unfold pm_zs
    by_cases e : 40 * S ≤ 40 * s + j ∧ 40 * s + j < 40 * S + 40
    · rw [if_pos e, if_pos e]; rfl
    · rw [if_neg e, if_neg e]; exact a6 j hj
  by_cases hk2 : s = S
  · subst hk2
    simp (disch := omega) only [pm_w_self, pm_w_ne]
    exact ⟨⟨trivial, trivial⟩, h0, h1, h2, h3, a7⟩
  · simp (disch := omega) only [pm_w_ne]
    exact ⟨a1, a2, a3, a4, a5, a7⟩
theorem pr_inm4 {d L : Nat} {b : Bool} {I : Nat → Nat → Int32} {J : Nat → Nat → Int64} {x : Int32} {Q : Int32 → Int64 → pm_H → Prop} : pm_wc pm_code pm_meta d 175 [.int x, .int (-1), .int 4] (pm_Gb L b, I, J) Q ↔ Q (pm_b (-1 ≤ x ∧ x ≤ 4)) 0 (pm_Gb L b, I, J) := pr_in
theorem pi_ltm {x : Int32} : (-1 ≤ x ∧ x ≤ 4) → (x = -1) ∨ (¬ x = -1 ∧ 0 ≤ x) := by grind
theorem po_sheet {d L : Nat} {b : Bool} {I : Nat → Nat → Int32} {J : Nat → Nat → Int64} {X : Nat → Int32} {x1 x2 x3 : Int32} (hI : pm_inv X b I J) : pm_wc pm_code pm_meta (d + 20) 164 [.ref 8, .int x1, .int x2, .int x3] (pm_Gb L b, I, J) (fun v _ H => pm_wc pm_code pm_meta (d + 20) 285 [.ref 79, .int x1, .int x2, .int x3] H (pm_ok X L b v)) := by
  have hI0 := hI
  obtain ⟨⟨htod, hroa, hper, hhou, hthi, hrig, hver, hsea, hsta, hlot, hbuy, hdee, hple⟩, htxt, hrid, htmp, hshe, hshf, htra, hk, hkept, hcon⟩ := hI
  have hn1 := (per_n hper).1
  have hn2 := (hou_n hhou).1
  have hn3 := (thi_n hthi).1
  have hn4 := (rig_n hrig).1
  by_cases hs : 0 ≤ x1 ∧ x1 ≤ 3
  · have h0 := hs.1
    have h1 := hs.2
    by_cases hw : -1 ≤ x2 ∧ x2 ≤ 4
    · rcases pi_ltm hw with e | ⟨e, e2⟩
      · have e1 := eq_true e
        have e3 : ¬ 0 ≤ x2 := by grind
        simp only [pb_164_0, pb_164_11, pb_164_23, pb_164_14, pb_164_20, pb_164_25, pb_164_38, pb_164_30, pb_164_50, pb_164_43, pb_164_36, pb_164_61, pb_164_65, pb_164_47, pb_164_66, pb_164_69, pb_285_0, pb_285_4, pb_285_26, pb_285_7, pb_285_13, pb_285_16, pb_285_28, pb_285_20, pb_285_39, pb_285_32, pb_285_59, pb_285_55, pb_285_36, pb_285_60, pb_285_90, pb_285_71, px_isWithin, pr_isSheet, pr_inm4, pr_sheet_loop h0 h1, px_make hshe.1.1 hshe.1.2.1 hshe.1.2.2.1 hshe.1.2.2.2 h0 h1, pt_has_71, pi_lt4, sea_in, h0, h1, and_self, hw, e1, e3, hshe.1.1, hshe.1.2.1, hshe.1.2.2.1, hshe.1.2.2.2, htod.1, hper.1.2, hhou.1.2, hthi.1.2, hrig.1.2, hver.1.2.1, hsta.1.2, hlot.1.2, hbuy.1.2, hdee.1.2, pm_u_row, pm_zr_row, pm_r_row, pm_w_at, Nat.reduceEqDiff, Nat.reduceLT, ite_true, ite_false, if_true, if_false, ite_self, Int32.reduceLE, Int32.reduceLT, pi_lt0, pm_b_eq0, pm_b_eq1, ite_not, pm_k0, pm_k1, pm_b_fit, true_and, and_true, not_true_eq_false, not_false_eq_true, ite_true, ite_false, if_true, if_false]
        refine pm_okI2 (by with_reducible rfl) ?_
        simp only [pm_inv, pm_land, pm_u_row, pm_zr_row, pm_w_at, Nat.reduceEqDiff, ite_true, ite_false, pm_kept_u, pm_kept_z, pm_kept_r, pm_r_row, ne_eq, not_false_eq_true, Nat.reduceLT, hcon, htod, hroa, hper, hhou, hthi, hrig, hver, hsea, hsta, hlot, hbuy, hdee, hple, htxt, hrid, htmp, hshe, hshf, htra, hk, hkept, true_and, and_true]
        with_reducible exact she_sheet hshe hw.1 hw.2 (Int32.le_refl 0) (by decide)
      · have e1 := eq_false e
        by_cases g : ¬ x3 ≤ 40
        · simp only [pb_164_0, pb_164_11, pb_164_23, pb_164_14, pb_164_20, pb_164_25, pb_164_38, pb_164_30, pb_164_50, pb_164_43, pb_164_36, pb_164_61, pb_164_65, pb_164_47, pb_164_66, pb_164_69, pb_285_0, pb_285_4, pb_285_26, pb_285_7, pb_285_13, pb_285_16, pb_285_28, pb_285_20, pb_285_39, pb_285_32, pb_285_59, pb_285_55, pb_285_36, pb_285_60, pb_285_90, pb_285_71, px_isWithin, pr_isSheet, pr_inm4, pr_sheet_loop h0 h1, px_make hshe.1.1 hshe.1.2.1 hshe.1.2.2.1 hshe.1.2.2.2 h0 h1, pt_has_71, pi_lt4, sea_in, h0, h1, and_self, hw, e1, e2, g, hshe.1.1, hshe.1.2.1, hshe.1.2.2.1, hshe.1.2.2.2, htod.1, hper.1.2, hhou.1.2, hthi.1.2, hrig.1.2, hver.1.2.1, hsta.1.2, hlot.1.2, hbuy.1.2, hdee.1.2, pm_u_row, pm_zr_row, pm_r_row, pm_w_at, Nat.reduceEqDiff, Nat.reduceLT, ite_true, ite_false, if_true, if_false, ite_self, Int32.reduceLE, Int32.reduceLT, pi_lt0, pm_b_eq0, pm_b_eq1, ite_not, pm_k0, pm_k1, pm_b_fit, true_and, and_true, not_true_eq_false, not_false_eq_true, ite_true, ite_false, if_true, if_false]
          with_reducible exact pm_okJ hI0
        · have g := Classical.not_not.mp g
          by_cases g2 : 0 ≤ x3
          · simp only [pb_164_0, pb_164_11, pb_164_23, pb_164_14, pb_164_20, pb_164_25, pb_164_38, pb_164_30, pb_164_50, pb_164_43, pb_164_36, pb_164_61, pb_164_65, pb_164_47, pb_164_66, pb_164_69, pb_285_0, pb_285_4, pb_285_26, pb_285_7, pb_285_13, pb_285_16, pb_285_28, pb_285_20, pb_285_39, pb_285_32, pb_285_59, pb_285_55, pb_285_36, pb_285_60, pb_285_90, pb_285_71, px_isWithin, pr_isSheet, pr_inm4, pr_sheet_loop h0 h1, px_make hshe.1.1 hshe.1.2.1 hshe.1.2.2.1 hshe.1.2.2.2 h0 h1, pt_has_71, pi_lt4, sea_in, h0, h1, and_self, hw, e1, e2, g, g2, hshe.1.1, hshe.1.2.1, hshe.1.2.2.1, hshe.1.2.2.2, htod.1, hper.1.2, hhou.1.2, hthi.1.2, hrig.1.2, hver.1.2.1, hsta.1.2, hlot.1.2, hbuy.1.2, hdee.1.2, pm_u_row, pm_zr_row, pm_r_row, pm_w_at, Nat.reduceEqDiff, Nat.reduceLT, ite_true, ite_false, if_true, if_false, ite_self, Int32.reduceLE, Int32.reduceLT, pi_lt0, pm_b_eq0, pm_b_eq1, ite_not, pm_k0, pm_k1, pm_b_fit, true_and, and_true, not_true_eq_false, not_false_eq_true, ite_true, ite_false, if_true, if_false]
            refine pm_okI2 (by with_reducible rfl) ?_
            simp only [pm_inv, pm_land, pm_u_row, pm_zr_row, pm_w_at, Nat.reduceEqDiff, ite_true, ite_false, pm_kept_u, pm_kept_z, pm_kept_r, pm_r_row, ne_eq, not_false_eq_true, Nat.reduceLT, hcon, htod, hroa, hper, hhou, hthi, hrig, hver, hsea, hsta, hlot, hbuy, hdee, hple, htxt, hrid, htmp, hshe, hshf, htra, hk, hkept, true_and, and_true]
            with_reducible exact she_sheet hshe hw.1 hw.2 g2 g
          · simp only [pb_164_0, pb_164_11, pb_164_23, pb_164_14, pb_164_20, pb_164_25, pb_164_38, pb_164_30, pb_164_50, pb_164_43, pb_164_36, pb_164_61, pb_164_65, pb_164_47, pb_164_66, pb_164_69, pb_285_0, pb_285_4, pb_285_26, pb_285_7, pb_285_13, pb_285_16, pb_285_28, pb_285_20, pb_285_39, pb_285_32, pb_285_59, pb_285_55, pb_285_36, pb_285_60, pb_285_90, pb_285_71, px_isWithin, pr_isSheet, pr_inm4, pr_sheet_loop h0 h1, px_make hshe.1.1 hshe.1.2.1 hshe.1.2.2.1 hshe.1.2.2.2 h0 h1, pt_has_71, pi_lt4, sea_in, h0, h1, and_self, hw, e1, e2, g, g2, hshe.1.1, hshe.1.2.1, hshe.1.2.2.1, hshe.1.2.2.2, htod.1, hper.1.2, hhou.1.2, hthi.1.2, hrig.1.2, hver.1.2.1, hsta.1.2, hlot.1.2, hbuy.1.2, hdee.1.2, pm_u_row, pm_zr_row, pm_r_row, pm_w_at, Nat.reduceEqDiff, Nat.reduceLT, ite_true, ite_false, if_true, if_false, ite_self, Int32.reduceLE, Int32.reduceLT, pi_lt0, pm_b_eq0, pm_b_eq1, ite_not, pm_k0, pm_k1, pm_b_fit, true_and, and_true, not_true_eq_false, not_false_eq_true, ite_true, ite_false, if_true, if_false]
            with_reducible exact pm_okJ hI0
    · simp only [pb_164_0, pb_164_11, pb_164_23, pb_164_14, pb_164_20, pb_164_25, pb_164_38, pb_164_30, pb_164_50, pb_164_43, pb_164_36, pb_164_61, pb_164_65, pb_164_47, pb_164_66, pb_164_69, pb_285_0, pb_285_4, pb_285_26, pb_285_7, pb_285_13, pb_285_16, pb_285_28, pb_285_20, pb_285_39, pb_285_32, pb_285_59, pb_285_55, pb_285_36, pb_285_60, pb_285_90, pb_285_71, px_isWithin, pr_isSheet, pr_inm4, pr_sheet_loop h0 h1, px_make hshe.1.1 hshe.1.2.1 hshe.1.2.2.1 hshe.1.2.2.2 h0 h1, pt_has_71, pi_lt4, sea_in, h0, h1, and_self, hw, hshe.1.1, hshe.1.2.1, hshe.1.2.2.1, hshe.1.2.2.2, htod.1, hper.1.2, hhou.1.2, hthi.1.2, hrig.1.2, hver.1.2.1, hsta.1.2, hlot.1.2, hbuy.1.2, hdee.1.2, pm_u_row, pm_zr_row, pm_r_row, pm_w_at, Nat.reduceEqDiff, Nat.reduceLT, ite_true, ite_false, if_true, if_false, ite_self, Int32.reduceLE, Int32.reduceLT, pi_lt0, pm_b_eq0, pm_b_eq1, ite_not, pm_k0, pm_k1, pm_b_fit, true_and, and_true, not_true_eq_false, not_false_eq_true, ite_true, ite_false, if_true, if_false]
      with_reducible exact pm_okJ hI0
  · simp only [pb_164_0, pb_164_11, pb_164_23, pb_164_14, pb_164_20, pb_164_25, pb_164_38, pb_164_30, pb_164_50, pb_164_43, pb_164_36, pb_164_61, pb_164_65, pb_164_47, pb_164_66, pb_164_69, pb_285_0, pb_285_4, pb_285_26, pb_285_7, pb_285_13, pb_285_16, pb_285_28, pb_285_20, pb_285_39, pb_285_32, pb_285_59, pb_285_55, pb_285_36, pb_285_60, pb_285_90, pb_285_71, pt_has_71, px_isWithin, hshe.1.1, hshe.1.2.1, hshe.1.2.2.1, hshe.1.2.2.2, pi_lt4, pr_isSheet, hs, Int32.reduceLE, Int32.reduceLT, pi_lt0, pm_b_eq0, pm_b_eq1, ite_not, pm_k0, pm_k1, pm_b_fit, true_and, and_true, not_true_eq_false, not_false_eq_true, ite_true, ite_false, if_true, if_false]
    with_reducible exact pm_okJ hI0

