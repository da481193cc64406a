/-! THE CALL feed. -/
theorem fo_rel {α β : Type} {f : α → Int32 → α} {g : β → Int32 → β} {R : α → β → Int32 → Prop} {n : Int32} (hn0 : 0 ≤ n) (hn : n < 2147483647) (hs : ∀ s t i, 0 ≤ i → i < n → R s t i → R (f s i) (g t i) (i + 1)) : ∀ (m : Nat) (i : Int32) (s : α) (t : β), 0 ≤ i → i.toNatClampNeg + m = n.toNatClampNeg → R s t i → R (pm_fo f m i s) (pm_fo g m i t) n
  | 0, i, s, t, h0, hm, h => by
    have t1 := pi_tni h0
    have t2 := pi_tni hn0
    have : i = n := Int32.toInt_inj.mp (by omega)
    subst this; exact h
  | m + 1, i, s, t, h0, hm, h => by
    have t1 := pi_tni h0
    have t2 := pi_tni hn0
    have e : i < n := by rw [pi_lt]; omega
    have e3 : (i + 1).toNatClampNeg = i.toNatClampNeg + 1 := pi_tn1 h0 (Int32.lt_trans e hn)
    have e4 : 0 ≤ i + 1 := by have := pi_lt.mp e; have := pi_hi n; rw [pi_le, pi_0, pi_add (by rw [pi_1]; omega) (by rw [pi_1]; omega), pi_1]; omega
    unfold pm_fo
    exact fo_rel hn0 hn hs m (i + 1) _ _ e4 (by omega) (hs s t i h0 e h)
theorem byte_eq (z : Int64) : ((Int32.toInt8 (Int64.toInt32 z)).toInt32).toInt8.toInt32 = (Int64.toInt32 (z &&& 255)).toInt8.toInt32 := by
  rw [Int8.toInt8_toInt32]
  congr 1
  apply Int8.toBitVec.inj
  rw [Int32.toBitVec_toInt8, Int32.toBitVec_toInt8, Int64.toBitVec_toInt32, Int64.toBitVec_toInt32, Int64.toBitVec_and]
  repeat rw [BitVec.signExtend_eq_setWidth_of_le _ (by decide)]
  apply BitVec.eq_of_getLsbD_eq
  intro i hi
  rw [BitVec.getLsbD_setWidth, BitVec.getLsbD_setWidth, BitVec.getLsbD_setWidth, BitVec.getLsbD_setWidth, BitVec.getLsbD_and]
  have h255 : (255 : Int64).toBitVec.getLsbD i = true := by
    have : ∀ i, i < 8 → (255 : Int64).toBitVec.getLsbD i = true := by decide
    exact this i hi
  rw [h255, Bool.and_true]
theorem byte_rng (z : Int64) : 0 ≤ Int64.toInt32 (z &&& 255) ∧ Int64.toInt32 (z &&& 255) ≤ 255 := by
  have h : (z &&& 255).toBitVec.toNat ≤ 255 := by
    rw [Int64.toBitVec_and, BitVec.toNat_and]
    exact Nat.and_le_right
  have h2 : (Int64.toInt32 (z &&& 255)).toBitVec.toNat ≤ 255 := by
    rw [Int64.toBitVec_toInt32, BitVec.signExtend_eq_setWidth_of_le _ (by decide), BitVec.toNat_setWidth]
    exact Nat.le_trans (Nat.mod_le _ _) h
  have h3 : (Int64.toInt32 (z &&& 255)).toInt = ((Int64.toInt32 (z &&& 255)).toBitVec.toNat : Int) := by
    show (Int64.toInt32 (z &&& 255)).toBitVec.toInt = _
    rw [BitVec.toInt_eq_toNat_of_lt (by omega)]
  have e : (255 : Int32).toInt = 255 := rfl
  rw [pi_le, pi_le, pi_0, h3]; omega
theorem px_take_loop {d L : Nat} {b : Bool} {I : Nat → Nat → Int32} {J : Nat → Nat → Int64} {x1 : Int64} {x3 : Int32} {Q : Int32 → Int64 → pm_H → Prop} (l0 : 0 ≤ (I 40 1).toInt) (n0 : 0 ≤ x3) (hl : (I 40 1).toInt + x3.toInt ≤ 300) : pm_wp pm_code pm_meta d 90 21 ([.ref 40, .long x1, pm_unset, .int x3, .int 0], [], (pm_Gb L b, I, J)) Q ↔ Q 1 0 (pm_Gb L b, pm_u (pm_r I 41 (pm_fo (fun (f : Nat → Int32) (i : Int32) => pm_w f (I 40 1 + i).toNatClampNeg (((Int32.toInt8 (Int64.toInt32 (x1 >>> (Int32.toInt64 (8 * i) &&& 63)))).toInt32).toInt8.toInt32)) x3.toNatClampNeg 0 (I 41))) 40 1 (I 40 1 + x3), J) := by
  have t0 := pi_le.mp n0
  rw [pi_0] at t0
  have key := pm_for (A := fun (f : Nat → Int32) i => pm_wp pm_code pm_meta d 90 21 ([.ref 40, .long x1, pm_unset, .int x3, .int i], [], (pm_Gb L b, pm_r I 41 f, J)) Q) (E := fun f => Q 1 0 (pm_Gb L b, pm_u (pm_r I 41 f) 40 1 (I 40 1 + x3), J)) (f := (fun (f : Nat → Int32) (i : Int32) => pm_w f (I 40 1 + i).toNatClampNeg (((Int32.toInt8 (Int64.toInt32 (x1 >>> (Int32.toInt64 (8 * i) &&& 63)))).toInt32).toInt8.toInt32))) n0 (by rw [pi_lt]; have e : (2147483647 : Int32).toInt = 2147483647 := rfl; omega) (fun f i h0 => ?_) (I 41)
  · rw [pm_r_self] at key
    exact key
  · rw [pb_90_21]
    have r40 : ∀ f, pm_r I 41 f 40 = I 40 := fun f => by rw [pm_r_row, if_neg (by decide)]
    by_cases hi : x3 ≤ i
    · simp only [hi, if_true, pb_90_54, r40]
    · have h1 := Int32.not_le.mp hi
      have h2 := pi_lt.mp h1
      have h3 := pi_le.mp h0
      rw [pi_0] at h3
      have e := pi_add (a := I 40 1) (b := i) (by omega) (by omega)
      have i3 : pm_in (I 40 1 + i) 300 = true := pi_in (by rw [pi_le, pi_0, e]; omega) (by rw [e]; omega)
      simp only [hi, if_false, pb_90_27, r40, i3, true_and, pm_u_r, pm_r_row, if_true]
theorem pr_feed_loop {d L : Nat} {b : Bool} {I : Nat → Nat → Int32} {J : Nat → Nat → Int64} {x1 : Int64} {x3 : Int32} {Q : Int32 → Int64 → pm_H → Prop} (l0 : 0 ≤ (I 79 61).toInt) (n0 : 0 ≤ x3) (hl : (I 79 61).toInt + x3.toInt ≤ 300) : pm_wp pm_code pm_meta d 214 30 ([.ref 79, .long x1, pm_unset, .int x3, .int 0], [], (pm_Gb L b, I, J)) Q ↔ Q (I 79 61 + x3) 0 (pm_Gb L b, pm_u (pm_r I 138 (pm_fo (fun (g : Nat → Int32) (i : Int32) => pm_w g (I 79 61 + i).toNatClampNeg (Int64.toInt32 ((x1 >>> (Int32.toInt64 (8 * i) &&& 63)) &&& 255))) x3.toNatClampNeg 0 (I 138))) 79 61 (I 79 61 + x3), J) := by
  have t0 := pi_le.mp n0
  rw [pi_0] at t0
  have key := pm_for_i (A := fun (g : Nat → Int32) i => pm_wp pm_code pm_meta d 214 30 ([.ref 79, .long x1, pm_unset, .int x3, .int i], [], (pm_Gb L b, pm_u (pm_r I 138 g) 79 61 (I 79 61 + i), J)) Q) (E := fun g i => Q (I 79 61 + i) 0 (pm_Gb L b, pm_u (pm_r I 138 g) 79 61 (I 79 61 + i), J)) (f := (fun (g : Nat → Int32) (i : Int32) => pm_w g (I 79 61 + i).toNatClampNeg (Int64.toInt32 ((x1 >>> (Int32.toInt64 (8 * i) &&& 63)) &&& 255)))) n0 (by rw [pi_lt]; have e : (2147483647 : Int32).toInt = 2147483647 := rfl; omega) (fun g i h0 => ?_) (I 138)
  · rw [pm_r_self, Int32.add_zero] at key
    have e0 : pm_u I 79 61 (I 79 61) = I := by
      funext k j
      rw [pm_u_row]
      split
      · next e =>
        subst e
        rw [pm_w_at]
        split
        · next e2 => rw [e2]
        · rfl
      · rfl
    rw [e0] at key
    exact key
  · rw [pb_214_30]
    have u79 : ∀ g v, pm_u (pm_r I 138 g) 79 61 v 79 61 = v := fun g v => pm_u_at _ _ _ _
    by_cases hi : x3 ≤ i
    · simp only [hi, if_true, pb_214_73, u79]
    · have h1 := Int32.not_le.mp hi
      have h2 := pi_lt.mp h1
      have h3 := pi_le.mp h0
      rw [pi_0] at h3
      have e := pi_add (a := I 79 61) (b := i) (by omega) (by omega)
      have i3 : pm_in (I 79 61 + i) 300 = true := pi_in (by rw [pi_le, pi_0, e]; omega) (by rw [e]; omega)
      simp only [hi, if_false, pb_214_36, u79, i3, true_and]
      have hh : ∀ v, pm_u (pm_u (pm_u (pm_r I 138 g) 79 61 (I 79 61 + i)) 138 (I 79 61 + i).toNatClampNeg v) 79 61 ((pm_u (pm_u (pm_r I 138 g) 79 61 (I 79 61 + i)) 138 (I 79 61 + i).toNatClampNeg v) 79 61 + 1) = pm_u (pm_r I 138 (pm_w g (I 79 61 + i).toNatClampNeg v)) 79 61 (I 79 61 + (i + 1)) := fun v => by
        funext k j
        simp only [pm_u_row, pm_r_row, Nat.reduceEqDiff, if_true, if_false, pm_w_at, Int32.add_assoc]
        by_cases k1 : k = 79
        · subst k1; simp only [if_true, pm_w_at, Nat.reduceEqDiff, if_false]; split <;> rfl
        · by_cases k2 : k = 138
          · subst k2; simp only [if_true, Nat.reduceEqDiff, if_false]
          · simp only [k1, k2, if_false]
      rw [hh]
theorem po_feed {d L : Nat} {b : Bool} {I : Nat → Nat → Int32} {J : Nat → Nat → Int64} {X : Nat → Int32} {x1 : Int64} {x3 : Int32} (hI : pm_inv X b I J) : pm_wc pm_code pm_meta (d + 20) 132 [.ref 8, .long x1, .int x3] (pm_Gb L b, I, J) (fun v _ H => pm_wc pm_code pm_meta (d + 20) 214 [.ref 79, .long x1, .int x3] H (pm_ok X L b v)) := by
  have hI0 := hI
  obtain ⟨⟨htod, hroa, hper, hhou, hthi, hrig, hver, hsea, hsta, hlot, hbuy, hdee, hple⟩, htxt, hrid, htmp, hshe, hshf, htra, hk, hkept, hcon⟩ := hI
  have hn1 := (per_n hper).1
  have hn2 := (hou_n hhou).1
  have hn3 := (thi_n hthi).1
  have hn4 := (rig_n hrig).1
  have e300 : (300 : Int32).toInt = 300 := rfl
  have e8 : (8 : Int32).toInt = 8 := rfl
  have htx := htxt
  obtain ⟨tt, tl, tp0, tp1, tc⟩ := htx
  have l0 := pi_le.mp tp0
  have l1 := pi_le.mp tp1
  rw [pi_0] at l0
  by_cases h1 : 1 ≤ x3 ∧ x3 ≤ 8
  · have a1 := pi_le.mp h1.1
    have a2 := pi_le.mp h1.2
    rw [pi_1] at a1
    have n0 : 0 ≤ x3 := by rw [pi_le, pi_0]; omega
    have nn : ¬ x3 < 0 := Int32.not_lt.mpr n0
    have e := pi_add (a := I 79 61) (b := x3) (by omega) (by omega)
    by_cases h2 : I 79 61 + x3 ≤ 300
    · have h3 := pi_le.mp h2
      rw [e] at h3
      simp only [pb_132_0, px_isWithin, eq_true h1, pm_b_t, pb_132_7, pl_1_0, if_false, pb_132_12, pb_90_0, nn, pb_90_4, tl, h2, if_true, pb_90_18]
      rw [px_take_loop (by rw [tl]; exact l0) n0 (by rw [tl]; omega), tl]
      simp only [pb_132_21, pl_1_0, if_false, pb_132_24, pm_u_at, pb_132_36]
      generalize hI1 : pm_u (pm_r I 41 (pm_fo (fun (f : Nat → Int32) (i : Int32) => pm_w f (I 79 61 + i).toNatClampNeg (((Int32.toInt8 (Int64.toInt32 (x1 >>> (Int32.toInt64 (8 * i) &&& 63)))).toInt32).toInt8.toInt32)) x3.toNatClampNeg 0 (I 41))) 40 1 (I 79 61 + x3) = I1
      have r79 : I1 79 = I 79 := by rw [← hI1, pm_u_row, if_neg (by decide), pm_r_row, if_neg (by decide)]
      have r138 : I1 138 = I 138 := by rw [← hI1, pm_u_row, if_neg (by decide), pm_r_row, if_neg (by decide)]
      simp only [pb_214_0, pr_in, eq_true h1, pm_b_t, pb_214_7, pl_1_0, if_false, pb_214_12, r79, h2, if_true, pb_214_27]
      rw [pr_feed_loop (by rw [r79]; exact l0) n0 (by rw [r79]; omega)]
      simp only [r79, r138]
      refine pm_okI2 rfl ?_
      rw [← hI1]
      have tx : pg_txt (I 42) (I 44) (I 46) (I 79 61 + x3) (I 79 61 + x3) (pm_fo (fun (f : Nat → Int32) (i : Int32) => pm_w f (I 79 61 + i).toNatClampNeg (((Int32.toInt8 (Int64.toInt32 (x1 >>> (Int32.toInt64 (8 * i) &&& 63)))).toInt32).toInt8.toInt32)) x3.toNatClampNeg 0 (I 41)) (pm_fo (fun (g : Nat → Int32) (i : Int32) => pm_w g (I 79 61 + i).toNatClampNeg (Int64.toInt32 ((x1 >>> (Int32.toInt64 (8 * i) &&& 63)) &&& 255))) x3.toNatClampNeg 0 (I 138)) := by
        refine ⟨tt, rfl, by rw [pi_le, pi_0, e]; omega, h2, ?_⟩
        refine fo_rel (R := fun (f g : Nat → Int32) (i : Int32) => ∀ j : Nat, j < (I 79 61 + i).toNatClampNeg → 0 ≤ g j ∧ g j ≤ 255 ∧ f j = (g j).toInt8.toInt32) n0 (by rw [pi_lt]; have e : (2147483647 : Int32).toInt = 2147483647 := rfl; omega) (fun f g i i0 i1 hR j hj => ?_) x3.toNatClampNeg 0 (I 41) (I 138) (Int32.le_refl 0) (by simp) (fun j hj => by rw [Int32.add_zero] at hj; exact tc j hj)
        have b1 := pi_le.mp i0
        have b2 := pi_lt.mp i1
        rw [pi_0] at b1
        have e5 := pi_add (a := I 79 61) (b := i) (by omega) (by omega)
        have e6 : 0 ≤ I 79 61 + i := by rw [pi_le, pi_0, e5]; omega
        rw [← Int32.add_assoc, pi_tn1 e6 (by rw [pi_lt, e5]; have e : (2147483647 : Int32).toInt = 2147483647 := rfl; omega)] at hj
        simp only [pm_w_at]
        by_cases hjq : j = (I 79 61 + i).toNatClampNeg
        · rw [if_pos hjq, if_pos hjq]
          exact ⟨(byte_rng _).1, (byte_rng _).2, byte_eq _⟩
        · rw [if_neg hjq, if_neg hjq]
          exact hR j (by omega)
      clear hI1 r79 r138
      have hz : I 40 1 = I 79 61 := tl
      simp only [pm_inv, pm_land, pm_u_row, pm_zr_row, pm_w_at, Nat.reduceEqDiff, ite_true, ite_false, pm_kept_u, pm_kept_z, pm_kept_r, pm_r_row, ne_eq, not_false_eq_true, Nat.reduceLT, hcon, htod, hroa, hper, hhou, hthi, hrig, hver, hsea, hsta, hlot, hbuy, hdee, hple, htxt, hrid, htmp, hshe, hshf, htra, hk, hkept, true_and, and_true]
      exact tx
    · simp only [pb_132_0, px_isWithin, eq_true h1, pm_b_t, pb_132_7, pl_1_0, if_false, if_true, pb_132_12, pb_90_0, nn, pb_90_4, tl, h2, pb_90_16, pb_132_21, pb_132_34, pb_132_36, pb_214_0, pr_in, pb_214_7, pb_214_12, pb_214_24]
      with_reducible exact pm_okJ hI0
  · simp only [pb_132_0, px_isWithin, pm_b_f h1, pb_132_7, if_true, pb_132_10, pb_214_0, pr_in, pb_214_7, pb_214_10]
    with_reducible exact pm_okJ hI0

