/-! strike; a version ends. -/
theorem pm_fq_cg {c e : Int32 → Prop} [DecidablePred c] [DecidablePred e] {n : Int32} (hn0 : 0 ≤ n) (hn : n < 2147483647) (hce : ∀ k, 0 ≤ k → k < n → (c k ↔ e k)) : ∀ (m : Nat) (i : Int32), 0 ≤ i → i.toNatClampNeg + m = n.toNatClampNeg → pm_fq c m i = pm_fq e m i
  | 0, i, h0, hm => rfl
  | m + 1, i, h0, hm => by
    have a1 := pi_tni hn0
    have a2 := pi_tni h0
    have l : i < n := by rw [pi_lt]; omega
    have e3 : (i + 1).toNatClampNeg = i.toNatClampNeg + 1 := pi_tn1 h0 (by grind)
    have e4 : 0 ≤ i + 1 := by grind
    unfold pm_fq
    rw [pm_fq_cg hn0 hn hce m (i + 1) e4 (by omega)]
    by_cases h : c i
    · rw [if_pos h, if_pos ((hce i h0 l).mp h)]
    · rw [if_neg h, if_neg (fun g => h ((hce i h0 l).mpr g))]
theorem ends_id {act : Nat → Int32} {a today n : Int32} (hn0 : 0 ≤ n) (hn : n < 2147483647) : ∀ (m : Nat) (i : Int32) (r : Nat → Int32), 0 ≤ i → i.toNatClampNeg + m = n.toNatClampNeg → (∀ k, i ≤ k → k < n → ¬ (act k.toNatClampNeg = a ∧ ¬ 0 ≤ r k.toNatClampNeg)) → pm_fo (fun (r : Nat → Int32) (k : Int32) => if act k.toNatClampNeg = a ∧ ¬ 0 ≤ r k.toNatClampNeg then pm_w r k.toNatClampNeg today else r) m i r = r
  | 0, i, r, h0, hm, h => rfl
  | m + 1, i, r, h0, hm, h => by
    have a1 := pi_tni hn0
    have a2 := pi_tni h0
    have l : i < n := by rw [pi_lt]; omega
    have e3 : (i + 1).toNatClampNeg = i.toNatClampNeg + 1 := pi_tn1 h0 (by grind)
    have e4 : 0 ≤ i + 1 := by grind
    unfold pm_fo
    rw [if_neg (h i (Int32.le_refl _) l)]
    exact ends_id hn0 hn m (i + 1) r e4 (by omega) (fun k hk hk2 => h k (by grind) hk2)
theorem ends_fs {act till : Nat → Int32} {a today n : Int32} (hn0 : 0 ≤ n) (hn : n < 2147483647) (hu : ∀ x y : Int32, 0 ≤ x → x < y → y < n → (act x.toNatClampNeg = a ∧ ¬ 0 ≤ till x.toNatClampNeg) → ¬ (act y.toNatClampNeg = a ∧ ¬ 0 ≤ till y.toNatClampNeg)) : ∀ (m : Nat) (i : Int32), 0 ≤ i → i.toNatClampNeg + m = n.toNatClampNeg → pm_fo (fun (r : Nat → Int32) (k : Int32) => if act k.toNatClampNeg = a ∧ ¬ 0 ≤ r k.toNatClampNeg then pm_w r k.toNatClampNeg today else r) m i till = (match pm_fq (fun k => act k.toNatClampNeg = a ∧ ¬ 0 ≤ till k.toNatClampNeg) m i with | none => till | some j => pm_w till j.toNatClampNeg today)
  | 0, i, h0, hm => rfl
  | m + 1, i, h0, hm => by
    have a1 := pi_tni hn0
    have a2 := pi_tni h0
    have l : i < n := by rw [pi_lt]; omega
    have e3 : (i + 1).toNatClampNeg = i.toNatClampNeg + 1 := pi_tn1 h0 (by grind)
    have e4 : 0 ≤ i + 1 := by grind
    unfold pm_fo pm_fq
    by_cases h : act i.toNatClampNeg = a ∧ ¬ 0 ≤ till i.toNatClampNeg
    · rw [if_pos h, if_pos h]
      refine ends_id hn0 hn m (i + 1) _ e4 (by omega) (fun k hk hk2 => ?_)
      have hk0 : 0 ≤ k := by grind
      have hne : ¬ k.toNatClampNeg = i.toNatClampNeg := fun g => by
        have := (pi_tneq hk0 h0).mp g
        grind
      rw [pm_w_ne hne]
      exact hu i k h0 (by grind) hk2 h
    · rw [if_neg h, if_neg h]
      exact ends_fs hn0 hn hu m (i + 1) e4 (by omega)
theorem pf_ends {t c tr cr ts cs : Nat → Int32} {n today : Int32} {act rules fr till ops sort kinds rank rops rend opis opof : Nat → Int32} (h : pg_ver t c tr cr ts cs n today act rules fr till ops sort kinds rank rops rend opis opof) {a : Int32} : pm_fo (fun (r : Nat → Int32) (k : Int32) => if act k.toNatClampNeg = a ∧ ¬ 0 ≤ r k.toNatClampNeg then pm_w r k.toNatClampNeg today else r) n.toNatClampNeg 0 till = (if pf_inf act fr till n a today = -3 then till else pm_w till (pf_inf act fr till n a today).toNatClampNeg today) ∧ (pf_inf act fr till n a today = -3 ∨ (0 ≤ pf_inf act fr till n a today ∧ pf_inf act fr till n a today < n ∧ ¬ 0 ≤ till (pf_inf act fr till n a today).toNatClampNeg)) := by
  have hn := ver_n h
  have hl : n < 2147483647 := pi_ltb (Int32.lt_of_le_of_lt hn.2 (by decide : (12 : Int32) < 100)) (by decide)
  have cg := pm_fq_cg (c := fun k => (act k.toNatClampNeg = a ∧ fr k.toNatClampNeg ≤ today ∧ (¬ 0 ≤ till k.toNatClampNeg ∨ today < till k.toNatClampNeg))) (e := fun k => act k.toNatClampNeg = a ∧ ¬ 0 ≤ till k.toNatClampNeg) hn.1 hl (fun k h0 h1 => by
    obtain ⟨_, b1, b2, b3, b4, b5, b6, b7, b8, _⟩ := h.2.2.2.1 _ (pi_tnlt h0 h1)
    constructor
    · rintro ⟨g1, g2, g3⟩; exact ⟨g1, by grind⟩
    · rintro ⟨g1, g2⟩; exact ⟨g1, b6, Or.inl g2⟩) n.toNatClampNeg 0 (Int32.le_refl 0) (by simp)
  have hf := ends_fs (act := act) (till := till) (a := a) (today := today) hn.1 hl (fun x y h0 h1 h2 hx hy => by
    have := h.2.2.2.2 x.toNatClampNeg y.toNatClampNeg (pi_tnlt h0 h1) (pi_tnlt (by grind) h2) (by rw [hx.1, hy.1])
    exact hx.2 this.1) n.toNatClampNeg 0 (Int32.le_refl 0) (by simp)
  unfold pf_inf
  rw [cg, hf]
  cases he : pm_fq (fun k => act k.toNatClampNeg = a ∧ ¬ 0 ≤ till k.toNatClampNeg) n.toNatClampNeg 0 with
  | none => exact ⟨(if_pos rfl).symm, Or.inl rfl⟩
  | some j =>
    obtain ⟨x1, x2, x3⟩ := pm_fq_some hn.1 hl n.toNatClampNeg 0 j (Int32.le_refl 0) (by simp) he
    have x4 : ¬ j = -3 := fun g => by rw [g] at x2; exact absurd x2 (by decide)
    exact ⟨(if_neg x4).symm, Or.inr ⟨x2, x3, x1.2⟩⟩
theorem pr_ends {d L : Nat} {b : Bool} {I : Nat → Nat → Int32} {J : Nat → Nat → Int64} {a : Int32} {Q : Int32 → Int64 → pm_H → Prop} (h0 : 0 ≤ I 80 5) (h12 : I 80 5 ≤ 12) : pm_wc pm_code pm_meta d 232 [.ref 79, .int a] (pm_Gb L b, I, J) Q ↔ Q 0 0 (pm_Gb L b, pm_r I 115 (pm_fo (fun (r : Nat → Int32) (k : Int32) => if I 112 k.toNatClampNeg = a ∧ ¬ 0 ≤ r k.toNatClampNeg then pm_w r k.toNatClampNeg (I 80 0) else r) (I 80 5).toNatClampNeg 0 (I 115)), J) := by
  have hl : I 80 5 < 2147483647 := pi_ltb (Int32.lt_of_le_of_lt h12 (by decide : (12 : Int32) < 100)) (by decide)
  have key := pm_for (A := fun r i => pm_wp pm_code pm_meta d 232 2 ([.ref 79, .int a, .int i], [], (pm_Gb L b, pm_r I 115 r, J)) Q) (E := fun r => Q 0 0 (pm_Gb L b, pm_r I 115 r, J)) (f := (fun (r : Nat → Int32) (k : Int32) => if I 112 k.toNatClampNeg = a ∧ ¬ 0 ≤ r k.toNatClampNeg then pm_w r k.toNatClampNeg (I 80 0) else r)) h0 hl (fun r i h0 => ?_) (I 115)
  · rw [pm_r_self] at key
    rw [pb_232_0]
    exact key
  · rw [pb_232_2]
    by_cases hi : I 80 5 ≤ i
    · simp only [pm_r_row, Nat.reduceEqDiff, hi, if_true, if_false, pb_232_49]
    · have h1 := Int32.not_le.mp hi
      have i1 : pm_in i 13 = true := pi_in h0 (by rw [pi_lt] at h1; rw [pi_le] at h12; have e : (12 : Int32).toInt = 12 := rfl; omega)
      by_cases c1 : I 112 i.toNatClampNeg = a
      · have c1' := eq_true c1
        by_cases c2 : 0 ≤ r i.toNatClampNeg
        · simp only [hi, i1, c1', c2, pb_232_0, pb_232_49, pb_232_12, pb_232_22, pb_232_43, pb_232_31, not_true_eq_false, and_false, pm_u_row, pm_zr_row, pm_r_row, pm_w_at, Nat.reduceEqDiff, Nat.reduceLT, ite_true, ite_false, if_true, if_false, ite_self, Int32.reduceLE, Int32.reduceLT, pi_lt0, pm_b_eq0, pm_b_eq1, ite_not, pm_k0, pm_k1, pm_b_fit, true_and, and_true, not_true_eq_false, not_false_eq_true, ite_true, ite_false, if_true, if_false]
        · simp only [hi, i1, c1', c2, pb_232_0, pb_232_49, pb_232_12, pb_232_22, pb_232_43, pb_232_31, not_false_eq_true, and_self, pm_u_r, pm_u_row, pm_zr_row, pm_r_row, pm_w_at, Nat.reduceEqDiff, Nat.reduceLT, ite_true, ite_false, if_true, if_false, ite_self, Int32.reduceLE, Int32.reduceLT, pi_lt0, pm_b_eq0, pm_b_eq1, ite_not, pm_k0, pm_k1, pm_b_fit, true_and, and_true, not_true_eq_false, not_false_eq_true, ite_true, ite_false, if_true, if_false]
      · have c1' := eq_false c1
        simp only [hi, i1, c1', pb_232_0, pb_232_49, pb_232_12, pb_232_22, pb_232_43, pb_232_31, false_and, pm_u_row, pm_zr_row, pm_r_row, pm_w_at, Nat.reduceEqDiff, Nat.reduceLT, ite_true, ite_false, if_true, if_false, ite_self, Int32.reduceLE, Int32.reduceLT, pi_lt0, pm_b_eq0, pm_b_eq1, ite_not, pm_k0, pm_k1, pm_b_fit, true_and, and_true, not_true_eq_false, not_false_eq_true, ite_true, ite_false, if_true, if_false]
theorem px_end {d L : Nat} {b : Bool} {I : Nat → Nat → Int32} {J : Nat → Nat → Int64} {a : Int32} {n today : Int32} {act rules fr till ops sort kinds rank rops rend opis opof : Nat → Int32} {Q : Int32 → Int64 → pm_H → Prop} (h : pg_ver (I 20) (I 21) (I 22) (I 23) (I 24) (I 25) n today act rules fr till ops sort kinds rank rops rend opis opof) (ht : I 9 0 = today) : pm_wc pm_code pm_meta (d + 2) 43 [.ref 36, .int a] (pm_Gb L b, I, J) Q ↔ Q (pf_inf act fr till n a today) 0 (pm_Gb L b, (if 0 ≤ pf_inf act fr till n a today ∧ pf_inf act fr till n a today < n then pm_u I 21 (5 * (pf_inf act fr till n a today).toNatClampNeg + 3) today else I), J) := by
  simp only [pb_43_0, ht, px_inForce h, pb_43_12, pt_set_20_3 h.1.1, h.1.2.1, pb_43_32]
theorem po_strike {d L : Nat} {b : Bool} {I : Nat → Nat → Int32} {J : Nat → Nat → Int64} {X : Nat → Int32} {x1 : Int32} (hI : pm_inv X b I J) : pm_wc pm_code pm_meta (d + 20) 134 [.ref 8, .int x1] (pm_Gb L b, I, J) (fun v _ H => pm_wc pm_code pm_meta (d + 20) 234 [.ref 79, .int x1] H (pm_ok X L b v)) := by
  have hI0 := hI
  obtain ⟨⟨htod, hroa, hper, hhou, hthi, hrig, hver, hsea, hsta, hlot, hbuy, hdee, hple⟩, htxt, hrid, htmp, hshe, hshf, htra, hk, hkept, hcon⟩ := hI
  have hn1 := (per_n hper).1
  have hn2 := (hou_n hhou).1
  have hn3 := (thi_n hthi).1
  have hn4 := (rig_n hrig).1
  by_cases hw : 0 ≤ x1 ∧ x1 ≤ 3
  · have hv := ver_n hver
    have hu : ∀ x y : Int32, 0 ≤ x → x < y → y < I 80 5 → (I 112 x.toNatClampNeg = x1 ∧ I 114 x.toNatClampNeg ≤ I 80 0 ∧ (¬ 0 ≤ I 115 x.toNatClampNeg ∨ I 80 0 < I 115 x.toNatClampNeg)) → ¬ (I 112 y.toNatClampNeg = x1 ∧ I 114 y.toNatClampNeg ≤ I 80 0 ∧ (¬ 0 ≤ I 115 y.toNatClampNeg ∨ I 80 0 < I 115 y.toNatClampNeg)) := fun x y h0 h1 h2 hx => ver_uniq hver h0 h1 h2 hx
    have pe := pf_ends (a := x1) hver
    have ht0 := htod.2.1
    simp only [pb_134_0, pb_134_6, pb_134_9, pb_134_11, pb_134_19, px_isWithin, px_end hver htod.1, hw, and_self, Int32.reduceLE, Int32.reduceLT, pi_lt0, pm_b_eq0, pm_b_eq1, ite_not, pm_k0, pm_k1, pm_b_fit, true_and, and_true, not_true_eq_false, not_false_eq_true, ite_true, ite_false, if_true, if_false]
    rcases pe with ⟨pe, pv | ⟨p0, p1, p2⟩⟩
    · have n1 : ¬ ((0 : Int32) ≤ -3) := by decide
      simp only [pv, n1, false_and, if_false, if_true] at pe ⊢
      simp only [pb_234_0, pb_234_6, pb_234_9, pb_234_11, pb_234_22, pb_234_34, pb_234_29, pr_in, pr_inForce hv.1 hv.2 hu, pv, hw, and_self, Int32.reduceLE, Int32.reduceLT, pi_lt0, pm_b_eq0, pm_b_eq1, ite_not, pm_k0, pm_k1, pm_b_fit, true_and, and_true, not_true_eq_false, not_false_eq_true, ite_true, ite_false, if_true, if_false]
      with_reducible exact pm_okJ hI0
    · have n3 : (pf_inf (I 112) (I 114) (I 115) (I 80 5) x1 (I 80 0) = -3) = False := by grind
      simp only [p0, p1, n3, and_self, if_true, if_false] at pe ⊢
      have e1 := fun Q => pr_inForce (Q := Q) (d := d + 19) (L := L) (b := b) (I := pm_u I 21 (5 * (pf_inf (I 112) (I 114) (I 115) (I 80 5) x1 (I 80 0)).toNatClampNeg + 3) (I 80 0)) (J := J) (a := x1) (day := I 80 0) hv.1 hv.2 hu
      simp only [pm_u_row, pm_zr_row, pm_r_row, pm_w_at, Nat.reduceEqDiff, Nat.reduceLT, ite_true, ite_false, if_true, if_false, ite_self] at e1
      simp only [pb_234_0, pb_234_6, pb_234_9, pb_234_11, pb_234_22, pb_234_34, pb_234_29, pr_in, hw, and_self, pm_u_row, pm_zr_row, pm_r_row, pm_w_at, Nat.reduceEqDiff, Nat.reduceLT, ite_true, ite_false, if_true, if_false, ite_self, Int32.reduceLE, Int32.reduceLT, pi_lt0, pm_b_eq0, pm_b_eq1, ite_not, pm_k0, pm_k1, pm_b_fit, true_and, and_true, not_true_eq_false, not_false_eq_true, ite_true, ite_false, if_true, if_false, e1, n3]
      have e2 := fun Q => pr_ends (Q := Q) (d := d + 19) (L := L) (b := b) (I := pm_u I 21 (5 * (pf_inf (I 112) (I 114) (I 115) (I 80 5) x1 (I 80 0)).toNatClampNeg + 3) (I 80 0)) (J := J) (a := x1) hv.1 hv.2
      simp only [pm_u_row, pm_zr_row, pm_r_row, pm_w_at, Nat.reduceEqDiff, Nat.reduceLT, ite_true, ite_false, if_true, if_false, ite_self] at e2
      simp only [e2, pe, pb_234_6, pb_234_9, pb_234_11, pb_234_22, pb_234_34, pb_234_29, Int32.reduceLE, Int32.reduceLT, pi_lt0, pm_b_eq0, pm_b_eq1, ite_not, pm_k0, pm_k1, pm_b_fit, true_and, and_true, not_true_eq_false, not_false_eq_true, ite_true, ite_false, if_true, if_false]
      refine pm_okI2 (by with_reducible rfl) ?_
      simp only [pm_inv, pm_land, pm_u_row, pm_zr_row, pm_w_at, Nat.reduceEqDiff, ite_true, ite_false, pm_kept_u, pm_kept_z, pm_kept_r, pm_r_row, ne_eq, not_false_eq_true, Nat.reduceLT, hcon, htod, hroa, hper, hhou, hthi, hrig, hver, hsea, hsta, hlot, hbuy, hdee, hple, htxt, hrid, htmp, hshe, hshf, htra, hk, hkept, true_and, and_true]
      exact ver_end hver (pi_tnlt p0 p1) p2 ht0 rfl
  · simp only [pb_134_0, pb_134_6, pb_134_9, pb_134_11, pb_134_19, pb_234_0, pb_234_6, pb_234_9, pb_234_11, pb_234_22, pb_234_34, pb_234_29, px_isWithin, pr_in, hw, Int32.reduceLE, Int32.reduceLT, pi_lt0, pm_b_eq0, pm_b_eq1, ite_not, pm_k0, pm_k1, pm_b_fit, true_and, and_true, not_true_eq_false, not_false_eq_true, ite_true, ite_false, if_true, if_false]
    with_reducible exact pm_okJ hI0

