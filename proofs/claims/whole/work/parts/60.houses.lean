/-! fall, houseOf. -/
theorem pi_in8 {p n : Int32} (h : n ≤ 8) (h0 : 0 ≤ p) (h1 : p < n) : pm_in p 8 = true := by
  rw [pi_lt] at h1; rw [pi_le] at h
  exact pi_in h0 (by have e : (8 : Int32).toInt = 8 := rfl; omega)
theorem pr_heardBy {d L : Nat} {b : Bool} {I : Nat → Nat → Int32} {J : Nat → Nat → Int64} {x : Int32} {Q : Int32 → Int64 → pm_H → Prop} (h0 : 0 ≤ I 80 2) (h8 : I 80 2 ≤ 8) (hp : ∀ i : Int32, 0 ≤ i → i < I 80 2 → 0 ≤ I 84 i.toNatClampNeg ∧ I 84 i.toNatClampNeg ≤ 9) (hx0 : 0 ≤ x) (hx1 : x < I 80 2) : pm_wc pm_code pm_meta (d + 1) 191 [.ref 79, .int x] (pm_Gb L b, I, J) Q ↔ Q (pm_fo (fun s i => if ¬ i = x ∧ 0 ≤ I 88 i.toNatClampNeg ∧ I 88 i.toNatClampNeg + I 81 (10 * (I 84 x.toNatClampNeg).toNatClampNeg + (I 84 i.toNatClampNeg).toNatClampNeg) ≤ I 80 0 then s + 1 else s) (I 80 2).toNatClampNeg 0 0) 0 (pm_Gb L b, I, J) := by
  simp only [pb_191_0, pb_191_73, pb_191_14, pb_191_67, pb_191_19, pb_191_24, pb_191_27, pb_191_64, Int32.reduceLE, Int32.reduceLT, pi_lt0, pm_b_eq0, pm_b_eq1, ite_not, pm_k0, pm_k1, pm_b_fit, true_and, and_true, not_true_eq_false, not_false_eq_true, ite_true, ite_false, if_true, if_false]
  refine (pm_for (A := fun s i => pm_wp pm_code pm_meta (d + 1) 191 4 ([.ref 79, .int x, .int s, .int i], [], (pm_Gb L b, I, J)) Q) (E := fun s => Q s 0 (pm_Gb L b, I, J)) (n := I 80 2) h0 (pi_ltb (Int32.lt_of_le_of_lt h8 (by decide : (8 : Int32) < 100)) (by decide)) (fun s i h0 => ?_) 0)
  rw [pb_191_4]
  by_cases hi : I 80 2 ≤ i
  · simp only [hi, pb_191_0, pb_191_73, pb_191_14, pb_191_67, pb_191_19, pb_191_24, pb_191_27, pb_191_64, Int32.reduceLE, Int32.reduceLT, pi_lt0, pm_b_eq0, pm_b_eq1, ite_not, pm_k0, pm_k1, pm_b_fit, true_and, and_true, not_true_eq_false, not_false_eq_true, ite_true, ite_false, if_true, if_false]
  · have h1 := Int32.not_le.mp hi
    have e1 := (pi_c10 (hp x hx0 hx1) (hp i h0 h1)).1
    have e2 := (pi_c10 (hp x hx0 hx1) (hp i h0 h1)).2.1
    have i1 := pi_in8 h8 hx0 hx1
    have i2 := pi_in8 h8 h0 h1
    by_cases c1 : i = x
    · have c1' := eq_true c1
      simp only [hi, c1', pb_191_0, pb_191_73, pb_191_14, pb_191_67, pb_191_19, pb_191_24, pb_191_27, pb_191_64, false_and, Int32.reduceLE, Int32.reduceLT, pi_lt0, pm_b_eq0, pm_b_eq1, ite_not, pm_k0, pm_k1, pm_b_fit, true_and, and_true, not_true_eq_false, not_false_eq_true, ite_true, ite_false, if_true, if_false]
    · have c1' := eq_false c1
      by_cases c2 : 0 ≤ I 88 i.toNatClampNeg
      · by_cases c3 : I 88 i.toNatClampNeg + I 81 (10 * (I 84 x.toNatClampNeg).toNatClampNeg + (I 84 i.toNatClampNeg).toNatClampNeg) ≤ I 80 0
        · have c4 := Int32.not_lt.mpr c3
          simp only [hi, c1', c2, c3, c4, pr_hasFallen, e1, e2, i1, i2, pb_191_0, pb_191_73, pb_191_14, pb_191_67, pb_191_19, pb_191_24, pb_191_27, pb_191_64, Int32.reduceLE, Int32.reduceLT, pi_lt0, pm_b_eq0, pm_b_eq1, ite_not, pm_k0, pm_k1, pm_b_fit, true_and, and_true, not_true_eq_false, not_false_eq_true, ite_true, ite_false, if_true, if_false]
        · have c4 := Int32.not_le.mp c3
          simp only [hi, c1', c2, c3, c4, pr_hasFallen, e1, e2, i1, i2, pb_191_0, pb_191_73, pb_191_14, pb_191_67, pb_191_19, pb_191_24, pb_191_27, pb_191_64, and_false, Int32.reduceLE, Int32.reduceLT, pi_lt0, pm_b_eq0, pm_b_eq1, ite_not, pm_k0, pm_k1, pm_b_fit, true_and, and_true, not_true_eq_false, not_false_eq_true, ite_true, ite_false, if_true, if_false]
      · simp only [hi, c1', c2, pr_hasFallen, i2, pb_191_0, pb_191_73, pb_191_14, pb_191_67, pb_191_19, pb_191_24, pb_191_27, pb_191_64, false_and, and_false, Int32.reduceLE, Int32.reduceLT, pi_lt0, pm_b_eq0, pm_b_eq1, ite_not, pm_k0, pm_k1, pm_b_fit, true_and, and_true, not_true_eq_false, not_false_eq_true, ite_true, ite_false, if_true, if_false]
theorem fd_split {P C1 C2 : Int32 → Prop} [DecidablePred P] [DecidablePred C1] [DecidablePred C2] {w : Int32 → Int32} {c : Int32} (hd : ∀ i, C1 i → ¬ C2 i) : ∀ (m : Nat) (i a e : Int32), pm_fo (fun s i => if P i ∧ (C1 i ∨ C2 i) then s + w i else s) m i (c + a + e) = c + pm_fo (fun s i => if P i ∧ C1 i then s + w i else s) m i a + pm_fo (fun s i => if P i ∧ C2 i then s + w i else s) m i e
  | 0, i, a, e => rfl
  | m + 1, i, a, e => by
    have ih := fd_split (P := P) (C1 := C1) (C2 := C2) (w := w) (c := c) hd m (i + 1)
    unfold pm_fo
    by_cases h : P i
    · by_cases h1 : C1 i
      · have h2 := hd i h1
        simp only [h, h1, h2, and_self, true_or, if_true, if_false, and_false]
        rw [← ih, show c + a + e + w i = c + (a + w i) + e from by grind]
      · by_cases h2 : C2 i
        · simp only [h, h1, h2, and_self, or_true, if_true, if_false, and_false]
          rw [← ih, show c + a + e + w i = c + a + (e + w i) from by grind]
        · simp only [h, h1, h2, or_self, if_false, and_false]
          exact ih a e
    · simp only [h, false_and, if_false]
      exact ih a e
theorem fo_int {A : Nat → Prop} [DecidablePred A] {w : Nat → Int32} {m : Nat} (hw : ∀ k, k < m → 0 ≤ (w k).toInt ∧ (w k).toInt ≤ 99) (hm : m ≤ 24) : ∀ (r i : Nat) (c : Int32), i + r = m → 0 ≤ c.toInt → c.toInt + 99 * r ≤ 20000 →
    (pm_fo (fun s k => if A k.toNatClampNeg then s + w k.toNatClampNeg else s) r (Int32.ofNat i) c).toInt = c.toInt + (pm_sm (fun k => if A k then (w k).toInt else 0) (i + r) - pm_sm (fun k => if A k then (w k).toInt else 0) i)
  | 0, i, c, _, _, _ => by simp only [pm_fo, Nat.add_zero]; omega
  | r + 1, i, c, h, h0, h1 => by
    have ei : (Int32.ofNat i).toInt = i := Int32.toInt_ofNat_of_lt (by omega)
    have ti : (Int32.ofNat i).toNatClampNeg = i := by
      have := pi_tni (a := Int32.ofNat i) (by rw [pi_le, pi_0, ei]; omega)
      omega
    have e2 : Int32.ofNat i + 1 = Int32.ofNat (i + 1) := by
      have e3 : (Int32.ofNat (i + 1)).toInt = (i + 1 : Nat) := Int32.toInt_ofNat_of_lt (by omega)
      refine Int32.toInt_inj.mp ?_
      rw [e3, pi_add (by rw [pi_1]; omega) (by rw [pi_1]; omega), pi_1, ei]; omega
    have g := hw i (by omega)
    unfold pm_fo
    simp only [ti, e2]
    have es : i + (r + 1) = (i + 1) + r := by omega
    have s1 : pm_sm (fun k => if A k then (w k).toInt else 0) (i + 1) = pm_sm (fun k => if A k then (w k).toInt else 0) i + (if A i then (w i).toInt else 0) := rfl
    by_cases a : A i
    · rw [if_pos a] at s1
      have ea := pi_add (a := c) (b := w i) (by omega) (by omega)
      rw [if_pos a, fo_int hw hm r (i + 1) (c + w i) (by omega) (by omega) (by omega), es, s1, ea]; omega
    · rw [if_neg a] at s1
      rw [if_neg a, fo_int hw hm r (i + 1) c (by omega) h0 (by omega), es, s1]; omega
theorem sm_le {f g : Nat → Int} : ∀ n, (∀ k, k < n → f k ≤ g k) → pm_sm f n ≤ pm_sm g n
  | 0, _ => Int.le_refl 0
  | n + 1, h => by simp only [pm_sm]; have := sm_le n (fun k hk => h k (by omega)); have := h n (by omega); omega
theorem ple_fall2 {t c : Nat → Int32} {nH nT nR x today : Int32} {coin fell had house kd worth is shown kind rh ris : Nat → Int32} (h : pg_ple nH nT nR coin fell had house worth is kind rh ris) (ht : pg_thi t c nT nH house kd worth is shown) (h24 : nT ≤ 24) (h0 : 0 ≤ nT) (hx0 : 0 ≤ x) (hx1 : x < nH) : pg_ple nH nT nR coin (pm_w fell x.toNatClampNeg today) (pm_w had x.toNatClampNeg (pm_fo (fun s i => if house i.toNatClampNeg = x ∧ (is i.toNatClampNeg = 0 ∨ is i.toNatClampNeg = 2) then s + worth i.toNatClampNeg else s) nT.toNatClampNeg 0 (coin x.toNatClampNeg))) house worth is kind rh ris := by
  refine ple_fall h ?_
  refine Int.le_trans (ple_le h _) ?_
  have gc := h.1 _ (pi_tnlt hx0 hx1)
  have a1 := pi_le.mp gc.1
  have a2 := pi_le.mp gc.2.1
  rw [pi_0] at a1
  have e1 : (9999 : Int32).toInt = 9999 := rfl
  have e24 : (24 : Int32).toInt = 24 := rfl
  have t0 := pi_tni h0
  have h24' := pi_le.mp h24
  have e := fo_int (A := fun i => house i = x ∧ (is i = 0 ∨ is i = 2)) (w := worth) (m := nT.toNatClampNeg) (fun k hk => by
    have g := h.2.1 k hk
    have a3 := pi_le.mp g.1
    have a4 := pi_le.mp g.2
    rw [pi_1] at a3
    have e2 : (99 : Int32).toInt = 99 := rfl
    omega) (by omega) nT.toNatClampNeg 0 (coin x.toNatClampNeg) (by omega) a1 (by omega)
  rw [show Int32.ofNat 0 = 0 from rfl] at e
  rw [e, Nat.zero_add]
  have : pm_pw worth house is x.toNatClampNeg nT.toNatClampNeg ≤ pm_sm (fun k => if house k = x ∧ (is k = 0 ∨ is k = 2) then (worth k).toInt else 0) nT.toNatClampNeg := by
    refine sm_le _ (fun k hk => ?_)
    have g := h.2.1 k hk
    have a3 := pi_le.mp g.1
    rw [pi_1] at a3
    have gh := (ht.2 k hk).2
    by_cases q : (house k).toNatClampNeg = x.toNatClampNeg ∧ is k = 2
    · rw [if_pos q, if_pos ⟨pi_tnj gh.1 hx0 q.1, Or.inr q.2⟩]; exact Int.le_refl _
    · rw [if_neg q]; split <;> omega
  have z : pm_sm (fun k => if house k = x ∧ (is k = 0 ∨ is k = 2) then (worth k).toInt else 0) 0 = 0 := rfl
  omega
theorem po_fall {d L : Nat} {b : Bool} {I : Nat → Nat → Int32} {J : Nat → Nat → Int64} {X : Nat → Int32} {x1 : Int32} (hI : pm_inv X b I J) : pm_wc pm_code pm_meta (d + 20) 120 [.ref 8, .int x1] (pm_Gb L b, I, J) (fun v _ H => pm_wc pm_code pm_meta (d + 20) 198 [.ref 79, .int x1] H (pm_ok X L b v)) := by
  have hI0 := hI
  obtain ⟨⟨htod, hroa, hper, hhou, hthi, hrig, hver, hsea, hsta, hlot, hbuy, hdee, hple⟩, htxt, hrid, htmp, hshe, hshf, htra, hk, hkept, hcon⟩ := hI
  have hn1 := (per_n hper).1
  have hn2 := (hou_n hhou).1
  have hn3 := (thi_n hthi).1
  have hn4 := (rig_n hrig).1
  by_cases h1 : 0 ≤ x1 ∧ x1 < I 80 2
  · have a1 := h1.1
    have a2 := h1.2
    have i1 := hou_in hhou a1 a2
    have hn24 := (thi_n hthi).2
    by_cases hf : 0 ≤ I 88 x1.toNatClampNeg
    · simp only [pb_120_0, pb_120_11, pb_120_14, pb_120_16, pb_120_24, pb_120_30, pb_120_27, pb_120_42, pb_120_51, pb_120_61, pb_120_82, pb_120_96, pb_198_0, pb_198_5, pb_198_8, pb_198_10, pb_198_15, pb_198_21, pb_198_18, pb_198_88, pb_198_40, pb_198_51, pb_198_79, pb_198_70, pb_198_60, pb_198_80, px_has_hou hhou, px_hou_0 hhou, px_hou_1 hhou, px_hou_2 hhou, px_hou_3 hhou, px_hou_4 hhou, px_hou_5 hhou, px_hou_6 hhou, px_hou_7 hhou, px_hou_8 hhou, px_hou_9 hhou, px_fallen hhou a1 a2, pr_isHouse, pr_hasFallen, hn2, a1, a2, i1, hf, and_self, Int32.reduceLE, Int32.reduceLT, pi_lt0, pm_b_eq0, pm_b_eq1, ite_not, pm_k0, pm_k1, pm_b_fit, true_and, and_true, not_true_eq_false, not_false_eq_true, ite_true, ite_false, if_true, if_false]
      with_reducible exact pm_okJ hI0
    · simp only [pb_120_0, pb_120_11, pb_120_14, pb_120_16, pb_120_24, pb_120_30, pb_120_27, pb_120_42, pb_120_51, pb_120_61, pb_120_82, pb_120_96, px_has_hou hhou, px_hou_0 hhou, px_hou_1 hhou, px_hou_2 hhou, px_hou_3 hhou, px_hou_4 hhou, px_hou_5 hhou, px_hou_6 hhou, px_hou_7 hhou, px_hou_8 hhou, px_hou_9 hhou, pt_full_14, pt_set_14_0, pt_set_14_1, pt_set_14_2, pt_set_14_3, pt_set_14_4, pt_set_14_5, pt_set_14_6, pt_set_14_7, pt_set_14_8, pt_set_14_9, pt_add_14, px_fallen hhou a1 a2, px_worth hthi, pm_at_in, a1, a2, hf, and_self, htod.1, hper.1.2, hhou.1.2, hthi.1.2, hrig.1.2, hver.1.2.1, hsta.1.2, hlot.1.2, hbuy.1.2, hdee.1.2, hper.1.1, hhou.1.1, hthi.1.1, hrig.1.1, hver.1.1, hver.1.2.2.1, hver.1.2.2.2, hsea.1.1, hroa.1.1, hsta.1.1, hlot.1.1, hbuy.1.1, hdee.1.1, ti_inc, pm_u_row, pm_zr_row, pm_r_row, pm_w_at, Nat.reduceEqDiff, Nat.reduceLT, ite_true, ite_false, if_true, if_false, ite_self, Int32.reduceLE, Int32.reduceLT, pi_lt0, pm_b_eq0, pm_b_eq1, ite_not, pm_k0, pm_k1, pm_b_fit, true_and, and_true, not_true_eq_false, not_false_eq_true, ite_true, ite_false, if_true, if_false]
      simp only [pb_198_0, pb_198_5, pb_198_8, pb_198_10, pb_198_15, pb_198_21, pb_198_18, pb_198_88, pb_198_40, pb_198_51, pb_198_79, pb_198_70, pb_198_60, pb_198_80, pr_isHouse, pr_hasFallen, pr_fall_loop, hn24, hn3, hn2, a1, a2, i1, hf, and_self, pm_u_row, pm_zr_row, pm_r_row, pm_w_at, Nat.reduceEqDiff, Nat.reduceLT, ite_true, ite_false, if_true, if_false, ite_self, Int32.reduceLE, Int32.reduceLT, pi_lt0, pm_b_eq0, pm_b_eq1, ite_not, pm_k0, pm_k1, pm_b_fit, true_and, and_true, not_true_eq_false, not_false_eq_true, ite_true, ite_false, if_true, if_false]
      have e := fd_split (P := fun i => I 94 i.toNatClampNeg = x1) (C1 := fun i => I 97 i.toNatClampNeg = 0) (C2 := fun i => I 97 i.toNatClampNeg = 2) (w := fun i => I 96 i.toNatClampNeg) (c := I 86 x1.toNatClampNeg) (fun i g => by rw [g]; decide) (I 80 3).toNatClampNeg 0 0 0
      simp only [Int32.add_zero] at e
      rw [← e]
      refine pm_okI2 (by with_reducible rfl) ?_
      simp only [pm_inv, pm_land, pm_u_row, pm_zr_row, pm_w_at, Nat.reduceEqDiff, ite_true, ite_false, pm_kept_u, pm_kept_z, pm_kept_r, pm_r_row, ne_eq, not_false_eq_true, Nat.reduceLT, hcon, htod, hroa, hper, hhou, hthi, hrig, hver, hsea, hsta, hlot, hbuy, hdee, hple, htxt, hrid, htmp, hshe, hshf, htra, hk, hkept, true_and, and_true]
      have ht0 := htod.2.1
      have ht1 := Int32.le_refl (I 80 0)
      have ht2 := pm_no_nn ht0
      with_reducible exact ⟨hou_set47 hhou ht0 ht1 ht2, ple_fall2 hple hthi hn24 hn3 a1 a2⟩
  · simp only [pb_120_0, pb_120_11, pb_120_14, pb_120_16, pb_120_24, pb_120_30, pb_120_27, pb_120_42, pb_120_51, pb_120_61, pb_120_82, pb_120_96, pb_198_0, pb_198_5, pb_198_8, pb_198_10, pb_198_15, pb_198_21, pb_198_18, pb_198_88, pb_198_40, pb_198_51, pb_198_79, pb_198_70, pb_198_60, pb_198_80, px_has_hou hhou, px_hou_0 hhou, px_hou_1 hhou, px_hou_2 hhou, px_hou_3 hhou, px_hou_4 hhou, px_hou_5 hhou, px_hou_6 hhou, px_hou_7 hhou, px_hou_8 hhou, px_hou_9 hhou, pr_isHouse, hn2, h1, Int32.reduceLE, Int32.reduceLT, pi_lt0, pm_b_eq0, pm_b_eq1, ite_not, pm_k0, pm_k1, pm_b_fit, true_and, and_true, not_true_eq_false, not_false_eq_true, ite_true, ite_false, if_true, if_false]
    with_reducible exact pm_okJ hI0
theorem pl_20_16 : ((20 : Int32) = 16) = False := by decide
theorem pl_20_17 : ((20 : Int32) = 17) = False := by decide
theorem pl_20_18 : ((20 : Int32) = 18) = False := by decide
theorem pl_20_19 : ((20 : Int32) = 19) = False := by decide
theorem ph_0 {d L : Nat} {b : Bool} {I : Nat → Nat → Int32} {J : Nat → Nat → Int64} {X : Nat → Int32} {x1 : Int32} (hI : pm_inv X b I J) (a1 : 0 ≤ x1) (a2 : x1 < I 80 2)  : pm_wc pm_code pm_meta (d + 20) 121 [.ref 8, .int x1, .int 0] (pm_Gb L b, I, J) (fun v _ H => pm_wc pm_code pm_meta (d + 20) 199 [.ref 79, .int x1, .int 0] H (pm_ok X L b v)) := by
  have hI0 := hI
  obtain ⟨⟨htod, hroa, hper, hhou, hthi, hrig, hver, hsea, hsta, hlot, hbuy, hdee, hple⟩, htxt, hrid, htmp, hshe, hshf, htra, hk, hkept, hcon⟩ := hI
  have hn1 := (per_n hper).1
  have hn2 := (hou_n hhou).1
  have hn3 := (thi_n hthi).1
  have hn4 := (rig_n hrig).1
  have i1 := hou_in hhou a1 a2
  have hn24 := (thi_n hthi).2
  have hn8 := (hou_n hhou).2
  have hp : ∀ i : Int32, 0 ≤ i → i < I 80 2 → 0 ≤ I 84 i.toNatClampNeg ∧ I 84 i.toNatClampNeg ≤ 9 := fun i g0 g1 => ⟨(hou_pl hhou g0 g1).1, (hou_pl hhou g0 g1).2.1⟩
  simp only [pb_121_0, pb_121_11, pb_121_14, pb_121_16, pb_121_22, pb_121_31, pb_121_30, pb_121_38, pb_121_54, pb_121_41, pb_121_62, pb_121_53, pb_121_78, pb_121_65, pb_121_84, pb_121_100, pb_121_77, pb_121_97, pb_121_101, pb_199_0, pb_199_5, pb_199_8, pb_199_10, pb_199_18, pb_199_78, pb_199_21, pb_199_318, pb_199_298, pb_199_277, pb_199_270, pb_199_252, pb_199_245, pb_199_224, pb_199_204, pb_199_197, pb_199_190, pb_199_183, pb_199_176, pb_199_303, pb_199_295, pb_199_286, pb_199_257, pb_199_242, pb_199_233, pb_199_209, pb_199_76, pb_199_37, pb_199_315, pb_199_306, pb_199_297, pb_199_264, pb_199_260, pb_199_244, pb_199_221, pb_199_212, pb_199_49, pb_199_67, pb_199_317, pb_199_269, pb_199_223, pb_199_63, pb_199_68, px_isWithin, px_has_hou hhou, px_hou_0 hhou, px_hou_1 hhou, px_hou_2 hhou, px_hou_3 hhou, px_hou_4 hhou, px_hou_5 hhou, px_hou_6 hhou, px_hou_7 hhou, px_hou_8 hhou, px_hou_9 hhou, px_heard hhou hroa htod a1 a2, px_manyThings hthi, pr_isHouse, pr_in, pr_hasFallen, pr_heardBy hn2 hn8 hp a1 a2, pr_houseOf_loop, hn2, hn3, hn24, hn8, pm_at_in, a1, a2, i1, and_self, pl_0_1, pl_0_2, pl_0_3, pl_0_4, pl_0_5, pl_0_6, pl_0_7, pl_0_8, pl_0_9, pl_0_10, pl_0_11, pl_0_12, pl_0_13, pl_0_14, pl_0_15, pl_0_20, htod.1, hper.1.2, hhou.1.2, hthi.1.2, hrig.1.2, hver.1.2.1, hsta.1.2, hlot.1.2, hbuy.1.2, hdee.1.2, pm_u_row, pm_zr_row, pm_r_row, pm_w_at, Nat.reduceEqDiff, Nat.reduceLT, ite_true, ite_false, if_true, if_false, ite_self, Int32.reduceLE, Int32.reduceLT, pi_lt0, pm_b_eq0, pm_b_eq1, ite_not, pm_k0, pm_k1, pm_b_fit, true_and, and_true, not_true_eq_false, not_false_eq_true, ite_true, ite_false, if_true, if_false]
  with_reducible exact pm_okJ hI0
theorem ph_1 {d L : Nat} {b : Bool} {I : Nat → Nat → Int32} {J : Nat → Nat → Int64} {X : Nat → Int32} {x1 : Int32} (hI : pm_inv X b I J) (a1 : 0 ≤ x1) (a2 : x1 < I 80 2)  : pm_wc pm_code pm_meta (d + 20) 121 [.ref 8, .int x1, .int 1] (pm_Gb L b, I, J) (fun v _ H => pm_wc pm_code pm_meta (d + 20) 199 [.ref 79, .int x1, .int 1] H (pm_ok X L b v)) := by
  have hI0 := hI
  obtain ⟨⟨htod, hroa, hper, hhou, hthi, hrig, hver, hsea, hsta, hlot, hbuy, hdee, hple⟩, htxt, hrid, htmp, hshe, hshf, htra, hk, hkept, hcon⟩ := hI
  have hn1 := (per_n hper).1
  have hn2 := (hou_n hhou).1
  have hn3 := (thi_n hthi).1
  have hn4 := (rig_n hrig).1
  have i1 := hou_in hhou a1 a2
  have hn24 := (thi_n hthi).2
  have hn8 := (hou_n hhou).2
  have hp : ∀ i : Int32, 0 ≤ i → i < I 80 2 → 0 ≤ I 84 i.toNatClampNeg ∧ I 84 i.toNatClampNeg ≤ 9 := fun i g0 g1 => ⟨(hou_pl hhou g0 g1).1, (hou_pl hhou g0 g1).2.1⟩
  simp only [pb_121_0, pb_121_11, pb_121_14, pb_121_16, pb_121_22, pb_121_31, pb_121_30, pb_121_38, pb_121_54, pb_121_41, pb_121_62, pb_121_53, pb_121_78, pb_121_65, pb_121_84, pb_121_100, pb_121_77, pb_121_97, pb_121_101, pb_199_0, pb_199_5, pb_199_8, pb_199_10, pb_199_18, pb_199_78, pb_199_21, pb_199_318, pb_199_298, pb_199_277, pb_199_270, pb_199_252, pb_199_245, pb_199_224, pb_199_204, pb_199_197, pb_199_190, pb_199_183, pb_199_176, pb_199_303, pb_199_295, pb_199_286, pb_199_257, pb_199_242, pb_199_233, pb_199_209, pb_199_76, pb_199_37, pb_199_315, pb_199_306, pb_199_297, pb_199_264, pb_199_260, pb_199_244, pb_199_221, pb_199_212, pb_199_49, pb_199_67, pb_199_317, pb_199_269, pb_199_223, pb_199_63, pb_199_68, px_isWithin, px_has_hou hhou, px_hou_0 hhou, px_hou_1 hhou, px_hou_2 hhou, px_hou_3 hhou, px_hou_4 hhou, px_hou_5 hhou, px_hou_6 hhou, px_hou_7 hhou, px_hou_8 hhou, px_hou_9 hhou, px_heard hhou hroa htod a1 a2, px_manyThings hthi, pr_isHouse, pr_in, pr_hasFallen, pr_heardBy hn2 hn8 hp a1 a2, pr_houseOf_loop, hn2, hn3, hn24, hn8, pm_at_in, a1, a2, i1, and_self, pl_1_0, pl_1_2, pl_1_3, pl_1_4, pl_1_5, pl_1_6, pl_1_7, pl_1_8, pl_1_9, pl_1_10, pl_1_11, pl_1_12, pl_1_13, pl_1_14, pl_1_15, pl_1_20, htod.1, hper.1.2, hhou.1.2, hthi.1.2, hrig.1.2, hver.1.2.1, hsta.1.2, hlot.1.2, hbuy.1.2, hdee.1.2, pm_u_row, pm_zr_row, pm_r_row, pm_w_at, Nat.reduceEqDiff, Nat.reduceLT, ite_true, ite_false, if_true, if_false, ite_self, Int32.reduceLE, Int32.reduceLT, pi_lt0, pm_b_eq0, pm_b_eq1, ite_not, pm_k0, pm_k1, pm_b_fit, true_and, and_true, not_true_eq_false, not_false_eq_true, ite_true, ite_false, if_true, if_false]
  with_reducible exact pm_okJ hI0
theorem ph_2 {d L : Nat} {b : Bool} {I : Nat → Nat → Int32} {J : Nat → Nat → Int64} {X : Nat → Int32} {x1 : Int32} (hI : pm_inv X b I J) (a1 : 0 ≤ x1) (a2 : x1 < I 80 2)  : pm_wc pm_code pm_meta (d + 20) 121 [.ref 8, .int x1, .int 2] (pm_Gb L b, I, J) (fun v _ H => pm_wc pm_code pm_meta (d + 20) 199 [.ref 79, .int x1, .int 2] H (pm_ok X L b v)) := by
  have hI0 := hI
  obtain ⟨⟨htod, hroa, hper, hhou, hthi, hrig, hver, hsea, hsta, hlot, hbuy, hdee, hple⟩, htxt, hrid, htmp, hshe, hshf, htra, hk, hkept, hcon⟩ := hI
  have hn1 := (per_n hper).1
  have hn2 := (hou_n hhou).1
  have hn3 := (thi_n hthi).1
  have hn4 := (rig_n hrig).1
  have i1 := hou_in hhou a1 a2
  have hn24 := (thi_n hthi).2
  have hn8 := (hou_n hhou).2
  have hp : ∀ i : Int32, 0 ≤ i → i < I 80 2 → 0 ≤ I 84 i.toNatClampNeg ∧ I 84 i.toNatClampNeg ≤ 9 := fun i g0 g1 => ⟨(hou_pl hhou g0 g1).1, (hou_pl hhou g0 g1).2.1⟩
  simp only [pb_121_0, pb_121_11, pb_121_14, pb_121_16, pb_121_22, pb_121_31, pb_121_30, pb_121_38, pb_121_54, pb_121_41, pb_121_62, pb_121_53, pb_121_78, pb_121_65, pb_121_84, pb_121_100, pb_121_77, pb_121_97, pb_121_101, pb_199_0, pb_199_5, pb_199_8, pb_199_10, pb_199_18, pb_199_78, pb_199_21, pb_199_318, pb_199_298, pb_199_277, pb_199_270, pb_199_252, pb_199_245, pb_199_224, pb_199_204, pb_199_197, pb_199_190, pb_199_183, pb_199_176, pb_199_303, pb_199_295, pb_199_286, pb_199_257, pb_199_242, pb_199_233, pb_199_209, pb_199_76, pb_199_37, pb_199_315, pb_199_306, pb_199_297, pb_199_264, pb_199_260, pb_199_244, pb_199_221, pb_199_212, pb_199_49, pb_199_67, pb_199_317, pb_199_269, pb_199_223, pb_199_63, pb_199_68, px_isWithin, px_has_hou hhou, px_hou_0 hhou, px_hou_1 hhou, px_hou_2 hhou, px_hou_3 hhou, px_hou_4 hhou, px_hou_5 hhou, px_hou_6 hhou, px_hou_7 hhou, px_hou_8 hhou, px_hou_9 hhou, px_heard hhou hroa htod a1 a2, px_manyThings hthi, pr_isHouse, pr_in, pr_hasFallen, pr_heardBy hn2 hn8 hp a1 a2, pr_houseOf_loop, hn2, hn3, hn24, hn8, pm_at_in, a1, a2, i1, and_self, pl_2_0, pl_2_1, pl_2_3, pl_2_4, pl_2_5, pl_2_6, pl_2_7, pl_2_8, pl_2_9, pl_2_10, pl_2_11, pl_2_12, pl_2_13, pl_2_14, pl_2_15, pl_2_20, htod.1, hper.1.2, hhou.1.2, hthi.1.2, hrig.1.2, hver.1.2.1, hsta.1.2, hlot.1.2, hbuy.1.2, hdee.1.2, pm_u_row, pm_zr_row, pm_r_row, pm_w_at, Nat.reduceEqDiff, Nat.reduceLT, ite_true, ite_false, if_true, if_false, ite_self, Int32.reduceLE, Int32.reduceLT, pi_lt0, pm_b_eq0, pm_b_eq1, ite_not, pm_k0, pm_k1, pm_b_fit, true_and, and_true, not_true_eq_false, not_false_eq_true, ite_true, ite_false, if_true, if_false]
  with_reducible exact pm_okJ hI0
theorem ph_3 {d L : Nat} {b : Bool} {I : Nat → Nat → Int32} {J : Nat → Nat → Int64} {X : Nat → Int32} {x1 : Int32} (hI : pm_inv X b I J) (a1 : 0 ≤ x1) (a2 : x1 < I 80 2)  : pm_wc pm_code pm_meta (d + 20) 121 [.ref 8, .int x1, .int 3] (pm_Gb L b, I, J) (fun v _ H => pm_wc pm_code pm_meta (d + 20) 199 [.ref 79, .int x1, .int 3] H (pm_ok X L b v)) := by
  have hI0 := hI
  obtain ⟨⟨htod, hroa, hper, hhou, hthi, hrig, hver, hsea, hsta, hlot, hbuy, hdee, hple⟩, htxt, hrid, htmp, hshe, hshf, htra, hk, hkept, hcon⟩ := hI
  have hn1 := (per_n hper).1
  have hn2 := (hou_n hhou).1
  have hn3 := (thi_n hthi).1
  have hn4 := (rig_n hrig).1
  have i1 := hou_in hhou a1 a2
  have hn24 := (thi_n hthi).2
  have hn8 := (hou_n hhou).2
  have hp : ∀ i : Int32, 0 ≤ i → i < I 80 2 → 0 ≤ I 84 i.toNatClampNeg ∧ I 84 i.toNatClampNeg ≤ 9 := fun i g0 g1 => ⟨(hou_pl hhou g0 g1).1, (hou_pl hhou g0 g1).2.1⟩
  simp only [pb_121_0, pb_121_11, pb_121_14, pb_121_16, pb_121_22, pb_121_31, pb_121_30, pb_121_38, pb_121_54, pb_121_41, pb_121_62, pb_121_53, pb_121_78, pb_121_65, pb_121_84, pb_121_100, pb_121_77, pb_121_97, pb_121_101, pb_199_0, pb_199_5, pb_199_8, pb_199_10, pb_199_18, pb_199_78, pb_199_21, pb_199_318, pb_199_298, pb_199_277, pb_199_270, pb_199_252, pb_199_245, pb_199_224, pb_199_204, pb_199_197, pb_199_190, pb_199_183, pb_199_176, pb_199_303, pb_199_295, pb_199_286, pb_199_257, pb_199_242, pb_199_233, pb_199_209, pb_199_76, pb_199_37, pb_199_315, pb_199_306, pb_199_297, pb_199_264, pb_199_260, pb_199_244, pb_199_221, pb_199_212, pb_199_49, pb_199_67, pb_199_317, pb_199_269, pb_199_223, pb_199_63, pb_199_68, px_isWithin, px_has_hou hhou, px_hou_0 hhou, px_hou_1 hhou, px_hou_2 hhou, px_hou_3 hhou, px_hou_4 hhou, px_hou_5 hhou, px_hou_6 hhou, px_hou_7 hhou, px_hou_8 hhou, px_hou_9 hhou, px_heard hhou hroa htod a1 a2, px_manyThings hthi, pr_isHouse, pr_in, pr_hasFallen, pr_heardBy hn2 hn8 hp a1 a2, pr_houseOf_loop, hn2, hn3, hn24, hn8, pm_at_in, a1, a2, i1, and_self, pl_3_0, pl_3_1, pl_3_2, pl_3_4, pl_3_5, pl_3_6, pl_3_7, pl_3_8, pl_3_9, pl_3_10, pl_3_11, pl_3_12, pl_3_13, pl_3_14, pl_3_15, pl_3_20, htod.1, hper.1.2, hhou.1.2, hthi.1.2, hrig.1.2, hver.1.2.1, hsta.1.2, hlot.1.2, hbuy.1.2, hdee.1.2, pm_u_row, pm_zr_row, pm_r_row, pm_w_at, Nat.reduceEqDiff, Nat.reduceLT, ite_true, ite_false, if_true, if_false, ite_self, Int32.reduceLE, Int32.reduceLT, pi_lt0, pm_b_eq0, pm_b_eq1, ite_not, pm_k0, pm_k1, pm_b_fit, true_and, and_true, not_true_eq_false, not_false_eq_true, ite_true, ite_false, if_true, if_false]
  with_reducible exact pm_okJ hI0
theorem ph_4 {d L : Nat} {b : Bool} {I : Nat → Nat → Int32} {J : Nat → Nat → Int64} {X : Nat → Int32} {x1 : Int32} (hI : pm_inv X b I J) (a1 : 0 ≤ x1) (a2 : x1 < I 80 2)  : pm_wc pm_code pm_meta (d + 20) 121 [.ref 8, .int x1, .int 4] (pm_Gb L b, I, J) (fun v _ H => pm_wc pm_code pm_meta (d + 20) 199 [.ref 79, .int x1, .int 4] H (pm_ok X L b v)) := by
  have hI0 := hI
  obtain ⟨⟨htod, hroa, hper, hhou, hthi, hrig, hver, hsea, hsta, hlot, hbuy, hdee, hple⟩, htxt, hrid, htmp, hshe, hshf, htra, hk, hkept, hcon⟩ := hI
  have hn1 := (per_n hper).1
  have hn2 := (hou_n hhou).1
  have hn3 := (thi_n hthi).1
  have hn4 := (rig_n hrig).1
  have i1 := hou_in hhou a1 a2
  have hn24 := (thi_n hthi).2
  have hn8 := (hou_n hhou).2
  have hp : ∀ i : Int32, 0 ≤ i → i < I 80 2 → 0 ≤ I 84 i.toNatClampNeg ∧ I 84 i.toNatClampNeg ≤ 9 := fun i g0 g1 => ⟨(hou_pl hhou g0 g1).1, (hou_pl hhou g0 g1).2.1⟩
  simp only [pb_121_0, pb_121_11, pb_121_14, pb_121_16, pb_121_22, pb_121_31, pb_121_30, pb_121_38, pb_121_54, pb_121_41, pb_121_62, pb_121_53, pb_121_78, pb_121_65, pb_121_84, pb_121_100, pb_121_77, pb_121_97, pb_121_101, pb_199_0, pb_199_5, pb_199_8, pb_199_10, pb_199_18, pb_199_78, pb_199_21, pb_199_318, pb_199_298, pb_199_277, pb_199_270, pb_199_252, pb_199_245, pb_199_224, pb_199_204, pb_199_197, pb_199_190, pb_199_183, pb_199_176, pb_199_303, pb_199_295, pb_199_286, pb_199_257, pb_199_242, pb_199_233, pb_199_209, pb_199_76, pb_199_37, pb_199_315, pb_199_306, pb_199_297, pb_199_264, pb_199_260, pb_199_244, pb_199_221, pb_199_212, pb_199_49, pb_199_67, pb_199_317, pb_199_269, pb_199_223, pb_199_63, pb_199_68, px_isWithin, px_has_hou hhou, px_hou_0 hhou, px_hou_1 hhou, px_hou_2 hhou, px_hou_3 hhou, px_hou_4 hhou, px_hou_5 hhou, px_hou_6 hhou, px_hou_7 hhou, px_hou_8 hhou, px_hou_9 hhou, px_heard hhou hroa htod a1 a2, px_manyThings hthi, pr_isHouse, pr_in, pr_hasFallen, pr_heardBy hn2 hn8 hp a1 a2, pr_houseOf_loop, hn2, hn3, hn24, hn8, pm_at_in, a1, a2, i1, and_self, pl_4_0, pl_4_1, pl_4_2, pl_4_3, pl_4_5, pl_4_6, pl_4_7, pl_4_8, pl_4_9, pl_4_10, pl_4_11, pl_4_12, pl_4_13, pl_4_14, pl_4_15, pl_4_20, htod.1, hper.1.2, hhou.1.2, hthi.1.2, hrig.1.2, hver.1.2.1, hsta.1.2, hlot.1.2, hbuy.1.2, hdee.1.2, pm_u_row, pm_zr_row, pm_r_row, pm_w_at, Nat.reduceEqDiff, Nat.reduceLT, ite_true, ite_false, if_true, if_false, ite_self, Int32.reduceLE, Int32.reduceLT, pi_lt0, pm_b_eq0, pm_b_eq1, ite_not, pm_k0, pm_k1, pm_b_fit, true_and, and_true, not_true_eq_false, not_false_eq_true, ite_true, ite_false, if_true, if_false]
  by_cases hf : 0 ≤ I 88 x1.toNatClampNeg <;> simp only [pm_no, hf, Int32.reduceLE, Int32.reduceLT, pi_lt0, pm_b_eq0, pm_b_eq1, ite_not, pm_k0, pm_k1, pm_b_fit, true_and, and_true, not_true_eq_false, not_false_eq_true, ite_true, ite_false, if_true, if_false] <;> with_reducible exact pm_okJ hI0
theorem ph_5 {d L : Nat} {b : Bool} {I : Nat → Nat → Int32} {J : Nat → Nat → Int64} {X : Nat → Int32} {x1 : Int32} (hI : pm_inv X b I J) (a1 : 0 ≤ x1) (a2 : x1 < I 80 2)  : pm_wc pm_code pm_meta (d + 20) 121 [.ref 8, .int x1, .int 5] (pm_Gb L b, I, J) (fun v _ H => pm_wc pm_code pm_meta (d + 20) 199 [.ref 79, .int x1, .int 5] H (pm_ok X L b v)) := by
  have hI0 := hI
  obtain ⟨⟨htod, hroa, hper, hhou, hthi, hrig, hver, hsea, hsta, hlot, hbuy, hdee, hple⟩, htxt, hrid, htmp, hshe, hshf, htra, hk, hkept, hcon⟩ := hI
  have hn1 := (per_n hper).1
  have hn2 := (hou_n hhou).1
  have hn3 := (thi_n hthi).1
  have hn4 := (rig_n hrig).1
  have i1 := hou_in hhou a1 a2
  have hn24 := (thi_n hthi).2
  have hn8 := (hou_n hhou).2
  have hp : ∀ i : Int32, 0 ≤ i → i < I 80 2 → 0 ≤ I 84 i.toNatClampNeg ∧ I 84 i.toNatClampNeg ≤ 9 := fun i g0 g1 => ⟨(hou_pl hhou g0 g1).1, (hou_pl hhou g0 g1).2.1⟩
  simp only [pb_121_0, pb_121_11, pb_121_14, pb_121_16, pb_121_22, pb_121_31, pb_121_30, pb_121_38, pb_121_54, pb_121_41, pb_121_62, pb_121_53, pb_121_78, pb_121_65, pb_121_84, pb_121_100, pb_121_77, pb_121_97, pb_121_101, pb_199_0, pb_199_5, pb_199_8, pb_199_10, pb_199_18, pb_199_78, pb_199_21, pb_199_318, pb_199_298, pb_199_277, pb_199_270, pb_199_252, pb_199_245, pb_199_224, pb_199_204, pb_199_197, pb_199_190, pb_199_183, pb_199_176, pb_199_303, pb_199_295, pb_199_286, pb_199_257, pb_199_242, pb_199_233, pb_199_209, pb_199_76, pb_199_37, pb_199_315, pb_199_306, pb_199_297, pb_199_264, pb_199_260, pb_199_244, pb_199_221, pb_199_212, pb_199_49, pb_199_67, pb_199_317, pb_199_269, pb_199_223, pb_199_63, pb_199_68, px_isWithin, px_has_hou hhou, px_hou_0 hhou, px_hou_1 hhou, px_hou_2 hhou, px_hou_3 hhou, px_hou_4 hhou, px_hou_5 hhou, px_hou_6 hhou, px_hou_7 hhou, px_hou_8 hhou, px_hou_9 hhou, px_heard hhou hroa htod a1 a2, px_manyThings hthi, pr_isHouse, pr_in, pr_hasFallen, pr_heardBy hn2 hn8 hp a1 a2, pr_houseOf_loop, hn2, hn3, hn24, hn8, pm_at_in, a1, a2, i1, and_self, pl_5_0, pl_5_1, pl_5_2, pl_5_3, pl_5_4, pl_5_6, pl_5_7, pl_5_8, pl_5_9, pl_5_10, pl_5_11, pl_5_12, pl_5_13, pl_5_14, pl_5_15, pl_5_20, htod.1, hper.1.2, hhou.1.2, hthi.1.2, hrig.1.2, hver.1.2.1, hsta.1.2, hlot.1.2, hbuy.1.2, hdee.1.2, pm_u_row, pm_zr_row, pm_r_row, pm_w_at, Nat.reduceEqDiff, Nat.reduceLT, ite_true, ite_false, if_true, if_false, ite_self, Int32.reduceLE, Int32.reduceLT, pi_lt0, pm_b_eq0, pm_b_eq1, ite_not, pm_k0, pm_k1, pm_b_fit, true_and, and_true, not_true_eq_false, not_false_eq_true, ite_true, ite_false, if_true, if_false]
  by_cases hf : 0 ≤ I 89 x1.toNatClampNeg <;> simp only [pm_no, hf, Int32.reduceLE, Int32.reduceLT, pi_lt0, pm_b_eq0, pm_b_eq1, ite_not, pm_k0, pm_k1, pm_b_fit, true_and, and_true, not_true_eq_false, not_false_eq_true, ite_true, ite_false, if_true, if_false] <;> with_reducible exact pm_okJ hI0
theorem ph_6 {d L : Nat} {b : Bool} {I : Nat → Nat → Int32} {J : Nat → Nat → Int64} {X : Nat → Int32} {x1 : Int32} (hI : pm_inv X b I J) (a1 : 0 ≤ x1) (a2 : x1 < I 80 2)  : pm_wc pm_code pm_meta (d + 20) 121 [.ref 8, .int x1, .int 6] (pm_Gb L b, I, J) (fun v _ H => pm_wc pm_code pm_meta (d + 20) 199 [.ref 79, .int x1, .int 6] H (pm_ok X L b v)) := by
  have hI0 := hI
  obtain ⟨⟨htod, hroa, hper, hhou, hthi, hrig, hver, hsea, hsta, hlot, hbuy, hdee, hple⟩, htxt, hrid, htmp, hshe, hshf, htra, hk, hkept, hcon⟩ := hI
  have hn1 := (per_n hper).1
  have hn2 := (hou_n hhou).1
  have hn3 := (thi_n hthi).1
  have hn4 := (rig_n hrig).1
  have i1 := hou_in hhou a1 a2
  have hn24 := (thi_n hthi).2
  have hn8 := (hou_n hhou).2
  have hp : ∀ i : Int32, 0 ≤ i → i < I 80 2 → 0 ≤ I 84 i.toNatClampNeg ∧ I 84 i.toNatClampNeg ≤ 9 := fun i g0 g1 => ⟨(hou_pl hhou g0 g1).1, (hou_pl hhou g0 g1).2.1⟩
  simp only [pb_121_0, pb_121_11, pb_121_14, pb_121_16, pb_121_22, pb_121_31, pb_121_30, pb_121_38, pb_121_54, pb_121_41, pb_121_62, pb_121_53, pb_121_78, pb_121_65, pb_121_84, pb_121_100, pb_121_77, pb_121_97, pb_121_101, pb_199_0, pb_199_5, pb_199_8, pb_199_10, pb_199_18, pb_199_78, pb_199_21, pb_199_318, pb_199_298, pb_199_277, pb_199_270, pb_199_252, pb_199_245, pb_199_224, pb_199_204, pb_199_197, pb_199_190, pb_199_183, pb_199_176, pb_199_303, pb_199_295, pb_199_286, pb_199_257, pb_199_242, pb_199_233, pb_199_209, pb_199_76, pb_199_37, pb_199_315, pb_199_306, pb_199_297, pb_199_264, pb_199_260, pb_199_244, pb_199_221, pb_199_212, pb_199_49, pb_199_67, pb_199_317, pb_199_269, pb_199_223, pb_199_63, pb_199_68, px_isWithin, px_has_hou hhou, px_hou_0 hhou, px_hou_1 hhou, px_hou_2 hhou, px_hou_3 hhou, px_hou_4 hhou, px_hou_5 hhou, px_hou_6 hhou, px_hou_7 hhou, px_hou_8 hhou, px_hou_9 hhou, px_heard hhou hroa htod a1 a2, px_manyThings hthi, pr_isHouse, pr_in, pr_hasFallen, pr_heardBy hn2 hn8 hp a1 a2, pr_houseOf_loop, hn2, hn3, hn24, hn8, pm_at_in, a1, a2, i1, and_self, pl_6_0, pl_6_1, pl_6_2, pl_6_3, pl_6_4, pl_6_5, pl_6_7, pl_6_8, pl_6_9, pl_6_10, pl_6_11, pl_6_12, pl_6_13, pl_6_14, pl_6_15, pl_6_20, htod.1, hper.1.2, hhou.1.2, hthi.1.2, hrig.1.2, hver.1.2.1, hsta.1.2, hlot.1.2, hbuy.1.2, hdee.1.2, pm_u_row, pm_zr_row, pm_r_row, pm_w_at, Nat.reduceEqDiff, Nat.reduceLT, ite_true, ite_false, if_true, if_false, ite_self, Int32.reduceLE, Int32.reduceLT, pi_lt0, pm_b_eq0, pm_b_eq1, ite_not, pm_k0, pm_k1, pm_b_fit, true_and, and_true, not_true_eq_false, not_false_eq_true, ite_true, ite_false, if_true, if_false]
  with_reducible exact pm_okJ hI0
theorem ph_7 {d L : Nat} {b : Bool} {I : Nat → Nat → Int32} {J : Nat → Nat → Int64} {X : Nat → Int32} {x1 : Int32} (hI : pm_inv X b I J) (a1 : 0 ≤ x1) (a2 : x1 < I 80 2)  : pm_wc pm_code pm_meta (d + 20) 121 [.ref 8, .int x1, .int 7] (pm_Gb L b, I, J) (fun v _ H => pm_wc pm_code pm_meta (d + 20) 199 [.ref 79, .int x1, .int 7] H (pm_ok X L b v)) := by
  have hI0 := hI
  obtain ⟨⟨htod, hroa, hper, hhou, hthi, hrig, hver, hsea, hsta, hlot, hbuy, hdee, hple⟩, htxt, hrid, htmp, hshe, hshf, htra, hk, hkept, hcon⟩ := hI
  have hn1 := (per_n hper).1
  have hn2 := (hou_n hhou).1
  have hn3 := (thi_n hthi).1
  have hn4 := (rig_n hrig).1
  have i1 := hou_in hhou a1 a2
  have hn24 := (thi_n hthi).2
  have hn8 := (hou_n hhou).2
  have hp : ∀ i : Int32, 0 ≤ i → i < I 80 2 → 0 ≤ I 84 i.toNatClampNeg ∧ I 84 i.toNatClampNeg ≤ 9 := fun i g0 g1 => ⟨(hou_pl hhou g0 g1).1, (hou_pl hhou g0 g1).2.1⟩
  by_cases hf : 0 ≤ I 88 x1.toNatClampNeg
  · simp only [pb_121_0, pb_121_11, pb_121_14, pb_121_16, pb_121_22, pb_121_31, pb_121_30, pb_121_38, pb_121_54, pb_121_41, pb_121_62, pb_121_53, pb_121_78, pb_121_65, pb_121_84, pb_121_100, pb_121_77, pb_121_97, pb_121_101, pb_199_0, pb_199_5, pb_199_8, pb_199_10, pb_199_18, pb_199_78, pb_199_21, pb_199_318, pb_199_298, pb_199_277, pb_199_270, pb_199_252, pb_199_245, pb_199_224, pb_199_204, pb_199_197, pb_199_190, pb_199_183, pb_199_176, pb_199_303, pb_199_295, pb_199_286, pb_199_257, pb_199_242, pb_199_233, pb_199_209, pb_199_76, pb_199_37, pb_199_315, pb_199_306, pb_199_297, pb_199_264, pb_199_260, pb_199_244, pb_199_221, pb_199_212, pb_199_49, pb_199_67, pb_199_317, pb_199_269, pb_199_223, pb_199_63, pb_199_68, px_isWithin, px_has_hou hhou, px_hou_0 hhou, px_hou_1 hhou, px_hou_2 hhou, px_hou_3 hhou, px_hou_4 hhou, px_hou_5 hhou, px_hou_6 hhou, px_hou_7 hhou, px_hou_8 hhou, px_hou_9 hhou, px_heard hhou hroa htod a1 a2, px_manyThings hthi, pr_isHouse, pr_in, pr_hasFallen,  pr_houseOf_loop, hn2, hn3, hn24, hn8, pm_at_in, a1, a2, i1, and_self, hf, pl_7_0, pl_7_1, pl_7_2, pl_7_3, pl_7_4, pl_7_5, pl_7_6, pl_7_8, pl_7_9, pl_7_10, pl_7_11, pl_7_12, pl_7_13, pl_7_14, pl_7_15, pl_7_20, htod.1, hper.1.2, hhou.1.2, hthi.1.2, hrig.1.2, hver.1.2.1, hsta.1.2, hlot.1.2, hbuy.1.2, hdee.1.2, pm_u_row, pm_zr_row, pm_r_row, pm_w_at, Nat.reduceEqDiff, Nat.reduceLT, ite_true, ite_false, if_true, if_false, ite_self, Int32.reduceLE, Int32.reduceLT, pi_lt0, pm_b_eq0, pm_b_eq1, ite_not, pm_k0, pm_k1, pm_b_fit, true_and, and_true, not_true_eq_false, not_false_eq_true, ite_true, ite_false, if_true, if_false]
    with_reducible exact pm_okJ hI0
  · simp only [pb_121_0, pb_121_11, pb_121_14, pb_121_16, pb_121_22, pb_121_31, pb_121_30, pb_121_38, pb_121_54, pb_121_41, pb_121_62, pb_121_53, pb_121_78, pb_121_65, pb_121_84, pb_121_100, pb_121_77, pb_121_97, pb_121_101, pb_199_0, pb_199_5, pb_199_8, pb_199_10, pb_199_18, pb_199_78, pb_199_21, pb_199_318, pb_199_298, pb_199_277, pb_199_270, pb_199_252, pb_199_245, pb_199_224, pb_199_204, pb_199_197, pb_199_190, pb_199_183, pb_199_176, pb_199_303, pb_199_295, pb_199_286, pb_199_257, pb_199_242, pb_199_233, pb_199_209, pb_199_76, pb_199_37, pb_199_315, pb_199_306, pb_199_297, pb_199_264, pb_199_260, pb_199_244, pb_199_221, pb_199_212, pb_199_49, pb_199_67, pb_199_317, pb_199_269, pb_199_223, pb_199_63, pb_199_68, px_isWithin, px_has_hou hhou, px_hou_0 hhou, px_hou_1 hhou, px_hou_2 hhou, px_hou_3 hhou, px_hou_4 hhou, px_hou_5 hhou, px_hou_6 hhou, px_hou_7 hhou, px_hou_8 hhou, px_hou_9 hhou, px_heard hhou hroa htod a1 a2, px_manyThings hthi, pr_isHouse, pr_in, pr_hasFallen,  pr_houseOf_loop, hn2, hn3, hn24, hn8, pm_at_in, a1, a2, i1, and_self, hf, pl_7_0, pl_7_1, pl_7_2, pl_7_3, pl_7_4, pl_7_5, pl_7_6, pl_7_8, pl_7_9, pl_7_10, pl_7_11, pl_7_12, pl_7_13, pl_7_14, pl_7_15, pl_7_20, htod.1, hper.1.2, hhou.1.2, hthi.1.2, hrig.1.2, hver.1.2.1, hsta.1.2, hlot.1.2, hbuy.1.2, hdee.1.2, pm_u_row, pm_zr_row, pm_r_row, pm_w_at, Nat.reduceEqDiff, Nat.reduceLT, ite_true, ite_false, if_true, if_false, ite_self, Int32.reduceLE, Int32.reduceLT, pi_lt0, pm_b_eq0, pm_b_eq1, ite_not, pm_k0, pm_k1, pm_b_fit, true_and, and_true, not_true_eq_false, not_false_eq_true, ite_true, ite_false, if_true, if_false]
    refine (pr_heardBy (d := d + 18) hn2 hn8 hp a1 a2).mpr ?_
    simp only [pb_199_0, pb_199_5, pb_199_8, pb_199_10, pb_199_18, pb_199_78, pb_199_21, pb_199_318, pb_199_298, pb_199_277, pb_199_270, pb_199_252, pb_199_245, pb_199_224, pb_199_204, pb_199_197, pb_199_190, pb_199_183, pb_199_176, pb_199_303, pb_199_295, pb_199_286, pb_199_257, pb_199_242, pb_199_233, pb_199_209, pb_199_76, pb_199_37, pb_199_315, pb_199_306, pb_199_297, pb_199_264, pb_199_260, pb_199_244, pb_199_221, pb_199_212, pb_199_49, pb_199_67, pb_199_317, pb_199_269, pb_199_223, pb_199_63, pb_199_68, Int32.reduceLE, Int32.reduceLT, pi_lt0, pm_b_eq0, pm_b_eq1, ite_not, pm_k0, pm_k1, pm_b_fit, true_and, and_true, not_true_eq_false, not_false_eq_true, ite_true, ite_false, if_true, if_false]
    with_reducible exact pm_okJ hI0
theorem ph_8 {d L : Nat} {b : Bool} {I : Nat → Nat → Int32} {J : Nat → Nat → Int64} {X : Nat → Int32} {x1 : Int32} (hI : pm_inv X b I J) (a1 : 0 ≤ x1) (a2 : x1 < I 80 2)  : pm_wc pm_code pm_meta (d + 20) 121 [.ref 8, .int x1, .int 8] (pm_Gb L b, I, J) (fun v _ H => pm_wc pm_code pm_meta (d + 20) 199 [.ref 79, .int x1, .int 8] H (pm_ok X L b v)) := by
  have hI0 := hI
  obtain ⟨⟨htod, hroa, hper, hhou, hthi, hrig, hver, hsea, hsta, hlot, hbuy, hdee, hple⟩, htxt, hrid, htmp, hshe, hshf, htra, hk, hkept, hcon⟩ := hI
  have hn1 := (per_n hper).1
  have hn2 := (hou_n hhou).1
  have hn3 := (thi_n hthi).1
  have hn4 := (rig_n hrig).1
  have i1 := hou_in hhou a1 a2
  have hn24 := (thi_n hthi).2
  have hn8 := (hou_n hhou).2
  have hp : ∀ i : Int32, 0 ≤ i → i < I 80 2 → 0 ≤ I 84 i.toNatClampNeg ∧ I 84 i.toNatClampNeg ≤ 9 := fun i g0 g1 => ⟨(hou_pl hhou g0 g1).1, (hou_pl hhou g0 g1).2.1⟩
  simp only [pb_121_0, pb_121_11, pb_121_14, pb_121_16, pb_121_22, pb_121_31, pb_121_30, pb_121_38, pb_121_54, pb_121_41, pb_121_62, pb_121_53, pb_121_78, pb_121_65, pb_121_84, pb_121_100, pb_121_77, pb_121_97, pb_121_101, pb_199_0, pb_199_5, pb_199_8, pb_199_10, pb_199_18, pb_199_78, pb_199_21, pb_199_318, pb_199_298, pb_199_277, pb_199_270, pb_199_252, pb_199_245, pb_199_224, pb_199_204, pb_199_197, pb_199_190, pb_199_183, pb_199_176, pb_199_303, pb_199_295, pb_199_286, pb_199_257, pb_199_242, pb_199_233, pb_199_209, pb_199_76, pb_199_37, pb_199_315, pb_199_306, pb_199_297, pb_199_264, pb_199_260, pb_199_244, pb_199_221, pb_199_212, pb_199_49, pb_199_67, pb_199_317, pb_199_269, pb_199_223, pb_199_63, pb_199_68, px_isWithin, px_has_hou hhou, px_hou_0 hhou, px_hou_1 hhou, px_hou_2 hhou, px_hou_3 hhou, px_hou_4 hhou, px_hou_5 hhou, px_hou_6 hhou, px_hou_7 hhou, px_hou_8 hhou, px_hou_9 hhou, px_heard hhou hroa htod a1 a2, px_manyThings hthi, pr_isHouse, pr_in, pr_hasFallen, pr_heardBy hn2 hn8 hp a1 a2, pr_houseOf_loop, hn2, hn3, hn24, hn8, pm_at_in, a1, a2, i1, and_self, pl_8_0, pl_8_1, pl_8_2, pl_8_3, pl_8_4, pl_8_5, pl_8_6, pl_8_7, pl_8_9, pl_8_10, pl_8_11, pl_8_12, pl_8_13, pl_8_14, pl_8_15, pl_8_20, htod.1, hper.1.2, hhou.1.2, hthi.1.2, hrig.1.2, hver.1.2.1, hsta.1.2, hlot.1.2, hbuy.1.2, hdee.1.2, pm_u_row, pm_zr_row, pm_r_row, pm_w_at, Nat.reduceEqDiff, Nat.reduceLT, ite_true, ite_false, if_true, if_false, ite_self, Int32.reduceLE, Int32.reduceLT, pi_lt0, pm_b_eq0, pm_b_eq1, ite_not, pm_k0, pm_k1, pm_b_fit, true_and, and_true, not_true_eq_false, not_false_eq_true, ite_true, ite_false, if_true, if_false]
  with_reducible exact pm_okJ hI0
theorem ph_9 {d L : Nat} {b : Bool} {I : Nat → Nat → Int32} {J : Nat → Nat → Int64} {X : Nat → Int32} {x1 : Int32} (hI : pm_inv X b I J) (a1 : 0 ≤ x1) (a2 : x1 < I 80 2)  : pm_wc pm_code pm_meta (d + 20) 121 [.ref 8, .int x1, .int 9] (pm_Gb L b, I, J) (fun v _ H => pm_wc pm_code pm_meta (d + 20) 199 [.ref 79, .int x1, .int 9] H (pm_ok X L b v)) := by
  have hI0 := hI
  obtain ⟨⟨htod, hroa, hper, hhou, hthi, hrig, hver, hsea, hsta, hlot, hbuy, hdee, hple⟩, htxt, hrid, htmp, hshe, hshf, htra, hk, hkept, hcon⟩ := hI
  have hn1 := (per_n hper).1
  have hn2 := (hou_n hhou).1
  have hn3 := (thi_n hthi).1
  have hn4 := (rig_n hrig).1
  have i1 := hou_in hhou a1 a2
  have hn24 := (thi_n hthi).2
  have hn8 := (hou_n hhou).2
  have hp : ∀ i : Int32, 0 ≤ i → i < I 80 2 → 0 ≤ I 84 i.toNatClampNeg ∧ I 84 i.toNatClampNeg ≤ 9 := fun i g0 g1 => ⟨(hou_pl hhou g0 g1).1, (hou_pl hhou g0 g1).2.1⟩
  simp only [pb_121_0, pb_121_11, pb_121_14, pb_121_16, pb_121_22, pb_121_31, pb_121_30, pb_121_38, pb_121_54, pb_121_41, pb_121_62, pb_121_53, pb_121_78, pb_121_65, pb_121_84, pb_121_100, pb_121_77, pb_121_97, pb_121_101, pb_199_0, pb_199_5, pb_199_8, pb_199_10, pb_199_18, pb_199_78, pb_199_21, pb_199_318, pb_199_298, pb_199_277, pb_199_270, pb_199_252, pb_199_245, pb_199_224, pb_199_204, pb_199_197, pb_199_190, pb_199_183, pb_199_176, pb_199_303, pb_199_295, pb_199_286, pb_199_257, pb_199_242, pb_199_233, pb_199_209, pb_199_76, pb_199_37, pb_199_315, pb_199_306, pb_199_297, pb_199_264, pb_199_260, pb_199_244, pb_199_221, pb_199_212, pb_199_49, pb_199_67, pb_199_317, pb_199_269, pb_199_223, pb_199_63, pb_199_68, px_isWithin, px_has_hou hhou, px_hou_0 hhou, px_hou_1 hhou, px_hou_2 hhou, px_hou_3 hhou, px_hou_4 hhou, px_hou_5 hhou, px_hou_6 hhou, px_hou_7 hhou, px_hou_8 hhou, px_hou_9 hhou, px_heard hhou hroa htod a1 a2, px_manyThings hthi, pr_isHouse, pr_in, pr_hasFallen, pr_heardBy hn2 hn8 hp a1 a2, pr_houseOf_loop, hn2, hn3, hn24, hn8, pm_at_in, a1, a2, i1, and_self, pl_9_0, pl_9_1, pl_9_2, pl_9_3, pl_9_4, pl_9_5, pl_9_6, pl_9_7, pl_9_8, pl_9_10, pl_9_11, pl_9_12, pl_9_13, pl_9_14, pl_9_15, pl_9_20, htod.1, hper.1.2, hhou.1.2, hthi.1.2, hrig.1.2, hver.1.2.1, hsta.1.2, hlot.1.2, hbuy.1.2, hdee.1.2, pm_u_row, pm_zr_row, pm_r_row, pm_w_at, Nat.reduceEqDiff, Nat.reduceLT, ite_true, ite_false, if_true, if_false, ite_self, Int32.reduceLE, Int32.reduceLT, pi_lt0, pm_b_eq0, pm_b_eq1, ite_not, pm_k0, pm_k1, pm_b_fit, true_and, and_true, not_true_eq_false, not_false_eq_true, ite_true, ite_false, if_true, if_false]
  by_cases hf : 0 ≤ I 92 x1.toNatClampNeg <;> simp only [pm_no, hf, Int32.reduceLE, Int32.reduceLT, pi_lt0, pm_b_eq0, pm_b_eq1, ite_not, pm_k0, pm_k1, pm_b_fit, true_and, and_true, not_true_eq_false, not_false_eq_true, ite_true, ite_false, if_true, if_false] <;> with_reducible exact pm_okJ hI0
theorem ph_20 {d L : Nat} {b : Bool} {I : Nat → Nat → Int32} {J : Nat → Nat → Int64} {X : Nat → Int32} {x1 : Int32} (hI : pm_inv X b I J) (a1 : 0 ≤ x1) (a2 : x1 < I 80 2)  : pm_wc pm_code pm_meta (d + 20) 121 [.ref 8, .int x1, .int 20] (pm_Gb L b, I, J) (fun v _ H => pm_wc pm_code pm_meta (d + 20) 199 [.ref 79, .int x1, .int 20] H (pm_ok X L b v)) := by
  have hI0 := hI
  obtain ⟨⟨htod, hroa, hper, hhou, hthi, hrig, hver, hsea, hsta, hlot, hbuy, hdee, hple⟩, htxt, hrid, htmp, hshe, hshf, htra, hk, hkept, hcon⟩ := hI
  have hn1 := (per_n hper).1
  have hn2 := (hou_n hhou).1
  have hn3 := (thi_n hthi).1
  have hn4 := (rig_n hrig).1
  have i1 := hou_in hhou a1 a2
  have hn24 := (thi_n hthi).2
  have hn8 := (hou_n hhou).2
  have hp : ∀ i : Int32, 0 ≤ i → i < I 80 2 → 0 ≤ I 84 i.toNatClampNeg ∧ I 84 i.toNatClampNeg ≤ 9 := fun i g0 g1 => ⟨(hou_pl hhou g0 g1).1, (hou_pl hhou g0 g1).2.1⟩
  simp only [pb_121_0, pb_121_11, pb_121_14, pb_121_16, pb_121_22, pb_121_31, pb_121_30, pb_121_38, pb_121_54, pb_121_41, pb_121_62, pb_121_53, pb_121_78, pb_121_65, pb_121_84, pb_121_100, pb_121_77, pb_121_97, pb_121_101, pb_199_0, pb_199_5, pb_199_8, pb_199_10, pb_199_18, pb_199_78, pb_199_21, pb_199_318, pb_199_298, pb_199_277, pb_199_270, pb_199_252, pb_199_245, pb_199_224, pb_199_204, pb_199_197, pb_199_190, pb_199_183, pb_199_176, pb_199_303, pb_199_295, pb_199_286, pb_199_257, pb_199_242, pb_199_233, pb_199_209, pb_199_76, pb_199_37, pb_199_315, pb_199_306, pb_199_297, pb_199_264, pb_199_260, pb_199_244, pb_199_221, pb_199_212, pb_199_49, pb_199_67, pb_199_317, pb_199_269, pb_199_223, pb_199_63, pb_199_68, px_isWithin, px_has_hou hhou, px_hou_0 hhou, px_hou_1 hhou, px_hou_2 hhou, px_hou_3 hhou, px_hou_4 hhou, px_hou_5 hhou, px_hou_6 hhou, px_hou_7 hhou, px_hou_8 hhou, px_hou_9 hhou, px_heard hhou hroa htod a1 a2, px_manyThings hthi, pr_isHouse, pr_in, pr_hasFallen, pr_heardBy hn2 hn8 hp a1 a2, pr_houseOf_loop, hn2, hn3, hn24, hn8, pm_at_in, a1, a2, i1, and_self, pl_20_0, pl_20_1, pl_20_2, pl_20_3, pl_20_4, pl_20_5, pl_20_6, pl_20_7, pl_20_8, pl_20_9, pl_20_10, pl_20_11, pl_20_12, pl_20_13, pl_20_14, pl_20_15, pl_20_16, pl_20_17, pl_20_18, pl_20_19, htod.1, hper.1.2, hhou.1.2, hthi.1.2, hrig.1.2, hver.1.2.1, hsta.1.2, hlot.1.2, hbuy.1.2, hdee.1.2, pm_u_row, pm_zr_row, pm_r_row, pm_w_at, Nat.reduceEqDiff, Nat.reduceLT, ite_true, ite_false, if_true, if_false, ite_self, Int32.reduceLE, Int32.reduceLT, pi_lt0, pm_b_eq0, pm_b_eq1, ite_not, pm_k0, pm_k1, pm_b_fit, true_and, and_true, not_true_eq_false, not_false_eq_true, ite_true, ite_false, if_true, if_false]
  by_cases hf : 0 ≤ I 88 x1.toNatClampNeg <;> simp only [hf, Int32.reduceLE, Int32.reduceLT, pi_lt0, pm_b_eq0, pm_b_eq1, ite_not, pm_k0, pm_k1, pm_b_fit, true_and, and_true, not_true_eq_false, not_false_eq_true, ite_true, ite_false, if_true, if_false] <;> with_reducible exact pm_okJ hI0
theorem ph_m {d L : Nat} {b : Bool} {I : Nat → Nat → Int32} {J : Nat → Nat → Int64} {X : Nat → Int32} {x1 x2 : Int32} (hI : pm_inv X b I J) (a1 : 0 ≤ x1) (a2 : x1 < I 80 2) (hw2 : 10 ≤ x2 ∧ x2 ≤ 15) : pm_wc pm_code pm_meta (d + 20) 121 [.ref 8, .int x1, .int x2] (pm_Gb L b, I, J) (fun v _ H => pm_wc pm_code pm_meta (d + 20) 199 [.ref 79, .int x1, .int x2] H (pm_ok X L b v)) := by
  have hI0 := hI
  obtain ⟨⟨htod, hroa, hper, hhou, hthi, hrig, hver, hsea, hsta, hlot, hbuy, hdee, hple⟩, htxt, hrid, htmp, hshe, hshf, htra, hk, hkept, hcon⟩ := hI
  have hn1 := (per_n hper).1
  have hn2 := (hou_n hhou).1
  have hn3 := (thi_n hthi).1
  have hn4 := (rig_n hrig).1
  have i1 := hou_in hhou a1 a2
  have hn24 := (thi_n hthi).2
  have hn8 := (hou_n hhou).2
  have hp : ∀ i : Int32, 0 ≤ i → i < I 80 2 → 0 ≤ I 84 i.toNatClampNeg ∧ I 84 i.toNatClampNeg ≤ 9 := fun i g0 g1 => ⟨(hou_pl hhou g0 g1).1, (hou_pl hhou g0 g1).2.1⟩
  have hw : ¬ (0 ≤ x2 ∧ x2 ≤ 9) := by grind
  have n7 : (x2 = 7) = False := by grind
  simp only [pb_121_0, pb_121_11, pb_121_14, pb_121_16, pb_121_22, pb_121_31, pb_121_30, pb_121_38, pb_121_54, pb_121_41, pb_121_62, pb_121_53, pb_121_78, pb_121_65, pb_121_84, pb_121_100, pb_121_77, pb_121_97, pb_121_101, pb_199_0, pb_199_5, pb_199_8, pb_199_10, pb_199_18, pb_199_78, pb_199_21, pb_199_318, pb_199_298, pb_199_277, pb_199_270, pb_199_252, pb_199_245, pb_199_224, pb_199_204, pb_199_197, pb_199_190, pb_199_183, pb_199_176, pb_199_303, pb_199_295, pb_199_286, pb_199_257, pb_199_242, pb_199_233, pb_199_209, pb_199_76, pb_199_37, pb_199_315, pb_199_306, pb_199_297, pb_199_264, pb_199_260, pb_199_244, pb_199_221, pb_199_212, pb_199_49, pb_199_67, pb_199_317, pb_199_269, pb_199_223, pb_199_63, pb_199_68, px_isWithin, px_has_hou hhou, px_hou_0 hhou, px_hou_1 hhou, px_hou_2 hhou, px_hou_3 hhou, px_hou_4 hhou, px_hou_5 hhou, px_hou_6 hhou, px_hou_7 hhou, px_hou_8 hhou, px_hou_9 hhou, px_heard hhou hroa htod a1 a2, px_manyThings hthi, pr_isHouse, pr_in, pr_hasFallen, pr_heardBy hn2 hn8 hp a1 a2, pr_houseOf_loop, hn2, hn3, hn24, hn8, pm_at_in, a1, a2, i1, and_self, n7, hw, hw2, htod.1, hper.1.2, hhou.1.2, hthi.1.2, hrig.1.2, hver.1.2.1, hsta.1.2, hlot.1.2, hbuy.1.2, hdee.1.2, pm_u_row, pm_zr_row, pm_r_row, pm_w_at, Nat.reduceEqDiff, Nat.reduceLT, ite_true, ite_false, if_true, if_false, ite_self, Int32.reduceLE, Int32.reduceLT, pi_lt0, pm_b_eq0, pm_b_eq1, ite_not, pm_k0, pm_k1, pm_b_fit, true_and, and_true, not_true_eq_false, not_false_eq_true, ite_true, ite_false, if_true, if_false]
  with_reducible exact pm_okJ hI0
theorem ph_n {d L : Nat} {b : Bool} {I : Nat → Nat → Int32} {J : Nat → Nat → Int64} {X : Nat → Int32} {x1 x2 : Int32} (hI : pm_inv X b I J) (a1 : 0 ≤ x1) (a2 : x1 < I 80 2) (hw : ¬ (0 ≤ x2 ∧ x2 ≤ 9)) (hw2 : ¬ (10 ≤ x2 ∧ x2 ≤ 15)) (h20 : ¬ x2 = 20) : pm_wc pm_code pm_meta (d + 20) 121 [.ref 8, .int x1, .int x2] (pm_Gb L b, I, J) (fun v _ H => pm_wc pm_code pm_meta (d + 20) 199 [.ref 79, .int x1, .int x2] H (pm_ok X L b v)) := by
  have hI0 := hI
  obtain ⟨⟨htod, hroa, hper, hhou, hthi, hrig, hver, hsea, hsta, hlot, hbuy, hdee, hple⟩, htxt, hrid, htmp, hshe, hshf, htra, hk, hkept, hcon⟩ := hI
  have hn1 := (per_n hper).1
  have hn2 := (hou_n hhou).1
  have hn3 := (thi_n hthi).1
  have hn4 := (rig_n hrig).1
  have i1 := hou_in hhou a1 a2
  have hn24 := (thi_n hthi).2
  have hn8 := (hou_n hhou).2
  have hp : ∀ i : Int32, 0 ≤ i → i < I 80 2 → 0 ≤ I 84 i.toNatClampNeg ∧ I 84 i.toNatClampNeg ≤ 9 := fun i g0 g1 => ⟨(hou_pl hhou g0 g1).1, (hou_pl hhou g0 g1).2.1⟩
  have n0 : (x2 = 0) = False := by grind
  have n1 : (x2 = 1) = False := by grind
  have n2 : (x2 = 2) = False := by grind
  have n3 : (x2 = 3) = False := by grind
  have n4 : (x2 = 4) = False := by grind
  have n5 : (x2 = 5) = False := by grind
  have n6 : (x2 = 6) = False := by grind
  have n7 : (x2 = 7) = False := by grind
  have n8 : (x2 = 8) = False := by grind
  have n9 : (x2 = 9) = False := by grind
  have n10 : (x2 = 10) = False := by grind
  have n11 : (x2 = 11) = False := by grind
  have n12 : (x2 = 12) = False := by grind
  have n13 : (x2 = 13) = False := by grind
  have n14 : (x2 = 14) = False := by grind
  have n15 : (x2 = 15) = False := by grind
  have n20 := eq_false h20
  simp only [pb_121_0, pb_121_11, pb_121_14, pb_121_16, pb_121_22, pb_121_31, pb_121_30, pb_121_38, pb_121_54, pb_121_41, pb_121_62, pb_121_53, pb_121_78, pb_121_65, pb_121_84, pb_121_100, pb_121_77, pb_121_97, pb_121_101, pb_199_0, pb_199_5, pb_199_8, pb_199_10, pb_199_18, pb_199_78, pb_199_21, pb_199_318, pb_199_298, pb_199_277, pb_199_270, pb_199_252, pb_199_245, pb_199_224, pb_199_204, pb_199_197, pb_199_190, pb_199_183, pb_199_176, pb_199_303, pb_199_295, pb_199_286, pb_199_257, pb_199_242, pb_199_233, pb_199_209, pb_199_76, pb_199_37, pb_199_315, pb_199_306, pb_199_297, pb_199_264, pb_199_260, pb_199_244, pb_199_221, pb_199_212, pb_199_49, pb_199_67, pb_199_317, pb_199_269, pb_199_223, pb_199_63, pb_199_68, px_isWithin, px_has_hou hhou, px_hou_0 hhou, px_hou_1 hhou, px_hou_2 hhou, px_hou_3 hhou, px_hou_4 hhou, px_hou_5 hhou, px_hou_6 hhou, px_hou_7 hhou, px_hou_8 hhou, px_hou_9 hhou, px_heard hhou hroa htod a1 a2, px_manyThings hthi, pr_isHouse, pr_in, pr_hasFallen, pr_heardBy hn2 hn8 hp a1 a2, pr_houseOf_loop, hn2, hn3, hn24, hn8, pm_at_in, a1, a2, i1, and_self, n0, n1, n2, n3, n4, n5, n6, n7, n8, n9, n10, n11, n12, n13, n14, n15, n20, hw, hw2, ite_self, htod.1, hper.1.2, hhou.1.2, hthi.1.2, hrig.1.2, hver.1.2.1, hsta.1.2, hlot.1.2, hbuy.1.2, hdee.1.2, pm_u_row, pm_zr_row, pm_r_row, pm_w_at, Nat.reduceEqDiff, Nat.reduceLT, ite_true, ite_false, if_true, if_false, ite_self, Int32.reduceLE, Int32.reduceLT, pi_lt0, pm_b_eq0, pm_b_eq1, ite_not, pm_k0, pm_k1, pm_b_fit, true_and, and_true, not_true_eq_false, not_false_eq_true, ite_true, ite_false, if_true, if_false]
  with_reducible exact pm_okJ hI0
theorem po_houseOf {d L : Nat} {b : Bool} {I : Nat → Nat → Int32} {J : Nat → Nat → Int64} {X : Nat → Int32} {x1 x2 : Int32} (hI : pm_inv X b I J) : pm_wc pm_code pm_meta (d + 20) 121 [.ref 8, .int x1, .int x2] (pm_Gb L b, I, J) (fun v _ H => pm_wc pm_code pm_meta (d + 20) 199 [.ref 79, .int x1, .int x2] H (pm_ok X L b v)) := by
  have hI0 := hI
  obtain ⟨⟨htod, hroa, hper, hhou, hthi, hrig, hver, hsea, hsta, hlot, hbuy, hdee, hple⟩, htxt, hrid, htmp, hshe, hshf, htra, hk, hkept, hcon⟩ := hI
  have hn1 := (per_n hper).1
  have hn2 := (hou_n hhou).1
  have hn3 := (thi_n hthi).1
  have hn4 := (rig_n hrig).1
  by_cases h1 : 0 ≤ x1 ∧ x1 < I 80 2
  · by_cases hw : 0 ≤ x2 ∧ x2 ≤ 9
    · rcases pi_cs10 hw with rfl | rfl | rfl | rfl | rfl | rfl | rfl | rfl | rfl | rfl
      · exact ph_0 hI0 h1.1 h1.2
      · exact ph_1 hI0 h1.1 h1.2
      · exact ph_2 hI0 h1.1 h1.2
      · exact ph_3 hI0 h1.1 h1.2
      · exact ph_4 hI0 h1.1 h1.2
      · exact ph_5 hI0 h1.1 h1.2
      · exact ph_6 hI0 h1.1 h1.2
      · exact ph_7 hI0 h1.1 h1.2
      · exact ph_8 hI0 h1.1 h1.2
      · exact ph_9 hI0 h1.1 h1.2
    · by_cases hw2 : 10 ≤ x2 ∧ x2 ≤ 15
      · exact ph_m hI0 h1.1 h1.2 hw2
      · by_cases h20 : x2 = 20
        · subst h20; exact ph_20 hI0 h1.1 h1.2
        · exact ph_n hI0 h1.1 h1.2 hw hw2 h20
  · simp only [pb_121_0, pb_121_11, pb_121_14, pb_121_16, pb_121_22, pb_121_31, pb_121_30, pb_121_38, pb_121_54, pb_121_41, pb_121_62, pb_121_53, pb_121_78, pb_121_65, pb_121_84, pb_121_100, pb_121_77, pb_121_97, pb_121_101, pb_199_0, pb_199_5, pb_199_8, pb_199_10, pb_199_18, pb_199_78, pb_199_21, pb_199_318, pb_199_298, pb_199_277, pb_199_270, pb_199_252, pb_199_245, pb_199_224, pb_199_204, pb_199_197, pb_199_190, pb_199_183, pb_199_176, pb_199_303, pb_199_295, pb_199_286, pb_199_257, pb_199_242, pb_199_233, pb_199_209, pb_199_76, pb_199_37, pb_199_315, pb_199_306, pb_199_297, pb_199_264, pb_199_260, pb_199_244, pb_199_221, pb_199_212, pb_199_49, pb_199_67, pb_199_317, pb_199_269, pb_199_223, pb_199_63, pb_199_68, px_has_hou hhou, px_hou_0 hhou, px_hou_1 hhou, px_hou_2 hhou, px_hou_3 hhou, px_hou_4 hhou, px_hou_5 hhou, px_hou_6 hhou, px_hou_7 hhou, px_hou_8 hhou, px_hou_9 hhou, pr_isHouse, hn2, h1, Int32.reduceLE, Int32.reduceLT, pi_lt0, pm_b_eq0, pm_b_eq1, ite_not, pm_k0, pm_k1, pm_b_fit, true_and, and_true, not_true_eq_false, not_false_eq_true, ite_true, ite_false, if_true, if_false]
    with_reducible exact pm_okJ hI0

