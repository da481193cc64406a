/-! THE CALL rightOf. -/
theorem bc_rng (n : Nat) (hn : n < 16777216) : bc1 n ≤ n ∧ bc2 (bc1 n) < 33554432 ∧ bc3 (bc2 (bc1 n)) < 33554432 := by
  have l1 : bc1 n ≤ n := Nat.sub_le _ _
  have l2 : (bc1 n &&& 858993459) ≤ bc1 n := Nat.and_le_left
  have l3 : (bc1 n / 4 &&& 858993459) ≤ bc1 n / 4 := Nat.and_le_left
  have l4 : bc2 (bc1 n) = (bc1 n &&& 858993459) + (bc1 n / 4 &&& 858993459) := rfl
  have l5 : bc3 (bc2 (bc1 n)) ≤ bc2 (bc1 n) + bc2 (bc1 n) / 16 := Nat.and_le_left
  omega
theorem px_bitCount {d L : Nat} {b : Bool} {I : Nat → Nat → Int32} {J : Nat → Nat → Int64} {n : Nat} {Q : Int32 → Int64 → pm_H → Prop} (hn : n < 16777216) : pm_wc pm_code pm_meta d 309 [.int (Int32.ofNat n)] (pm_Gb L b, I, J) Q ↔ Q (Int32.ofNat (pf_pc 24 n)) 0 (pm_Gb L b, I, J) := by
  have r := bc_rng n hn
  have t1 : Int32.ofNat n - ((Int32.toUInt32 (Int32.ofNat n) >>> (Int32.toUInt32 1 &&& Int32.toUInt32 31)).toInt32 &&& 1431655765) = Int32.ofNat (bc1 n) := by
    rw [show (1431655765 : Int32) = Int32.ofNat 1431655765 from rfl, show (1 : Int32) = Int32.ofNat 1 from rfl, hb_ushr n 1 (by omega) (by simp), hb_and _ _ (by omega) (by decide)]
    have : (n / 2 ^ 1 &&& 1431655765) ≤ n / 2 ^ 1 := Nat.and_le_left
    exact hb_sub _ _ (by omega) (by omega)
  have t2 : ((Int32.ofNat (bc1 n)) &&& 858993459) + ((Int32.toUInt32 (Int32.ofNat (bc1 n)) >>> (Int32.toUInt32 2 &&& Int32.toUInt32 31)).toInt32 &&& 858993459) = Int32.ofNat (bc2 (bc1 n)) := by
    rw [show (858993459 : Int32) = Int32.ofNat 858993459 from rfl, show (2 : Int32) = Int32.ofNat 2 from rfl, hb_ushr _ 2 (by omega) (by simp), hb_and _ _ (by omega) (by decide), hb_and _ _ (by omega) (by decide)]
    have a1 : (bc1 n &&& 858993459) ≤ bc1 n := Nat.and_le_left
    have a2 : (bc1 n / 2 ^ 2 &&& 858993459) ≤ bc1 n / 2 ^ 2 := Nat.and_le_left
    exact hb_add _ _ (by omega) (by omega)
  have t3 : ((Int32.ofNat (bc2 (bc1 n))) + (Int32.toUInt32 (Int32.ofNat (bc2 (bc1 n))) >>> (Int32.toUInt32 4 &&& Int32.toUInt32 31)).toInt32) &&& 252645135 = Int32.ofNat (bc3 (bc2 (bc1 n))) := by
    rw [show (252645135 : Int32) = Int32.ofNat 252645135 from rfl, show (4 : Int32) = Int32.ofNat 4 from rfl, hb_ushr _ 4 (by omega) (by simp), hb_add _ _ (by omega) (by omega)]
    exact hb_and _ _ (by omega) (by decide)
  have t4 : (Int32.ofNat (bc3 (bc2 (bc1 n)))) + (Int32.toUInt32 (Int32.ofNat (bc3 (bc2 (bc1 n)))) >>> (Int32.toUInt32 8 &&& Int32.toUInt32 31)).toInt32 = Int32.ofNat (bc3 (bc2 (bc1 n)) + bc3 (bc2 (bc1 n)) / 256) := by
    rw [show (8 : Int32) = Int32.ofNat 8 from rfl, hb_ushr _ 8 (by omega) (by simp)]
    exact hb_add _ _ (by omega) (by omega)
  have t5 : ((Int32.ofNat (bc3 (bc2 (bc1 n)) + bc3 (bc2 (bc1 n)) / 256)) + (Int32.toUInt32 (Int32.ofNat (bc3 (bc2 (bc1 n)) + bc3 (bc2 (bc1 n)) / 256)) >>> (Int32.toUInt32 16 &&& Int32.toUInt32 31)).toInt32) &&& 63 = Int32.ofNat (bc5 (bc3 (bc2 (bc1 n)))) := by
    rw [show (63 : Int32) = Int32.ofNat 63 from rfl, show (16 : Int32) = Int32.ofNat 16 from rfl, hb_ushr _ 16 (by omega) (by simp), hb_add _ _ (by omega) (by omega)]
    exact hb_and _ _ (by omega) (by decide)
  rw [pb_309_0, t1, t2, t3, t4, t5, bc_eq n hn]
theorem pr_ones {d L : Nat} {b : Bool} {I : Nat → Nat → Int32} {J : Nat → Nat → Int64} {n : Nat} {Q : Int32 → Int64 → pm_H → Prop} (hn : n < 16777216) : pm_wc pm_code pm_meta d 209 [.int (Int32.ofNat n)] (pm_Gb L b, I, J) Q ↔ Q (Int32.ofNat (pf_pc 24 n)) 0 (pm_Gb L b, I, J) := by
  have key : ∀ (m : Nat) (x a : Nat), x ≤ m → x < 16777216 → a + pf_pc 24 x ≤ 24 → (pm_wp pm_code pm_meta d 209 4 ([.int (Int32.ofNat n), .int (Int32.ofNat a), .int (Int32.ofNat x)], [], (pm_Gb L b, I, J)) Q ↔ Q (Int32.ofNat (a + pf_pc 24 x)) 0 (pm_Gb L b, I, J)) := by
    intro m
    induction m with
    | zero =>
      intro x a hx _ _
      have : x = 0 := by omega
      subst this
      rw [pb_209_4, if_pos (by decide), pb_209_20]
      exact Iff.rfl
    | succ m ih =>
      intro x a hx h24 ha
      by_cases x0 : x = 0
      · subst x0
        rw [pb_209_4, if_pos (by decide), pb_209_20]
        exact Iff.rfl
      · have nz : ¬ Int32.ofNat x = 0 := fun e => by
          have e1 : (Int32.ofNat x).toInt = x := Int32.toInt_ofNat_of_lt (by omega)
          rw [e, pi_0] at e1; omega
        have pl := pc_land 24 x (by omega) h24
        have le : (x &&& (x - 1)) ≤ x - 1 := Nat.and_le_right
        have pc := pc_le 24 x
        rw [pb_209_4, if_neg nz, pb_209_8, show (1 : Int32) = Int32.ofNat 1 from rfl, hb_sub _ _ (by omega) (by omega), hb_and _ _ (by omega) (by omega), hb_add _ _ (by omega) (by omega)]
        rw [ih _ _ (by omega) (by omega) (by omega), ← pl, show a + 1 + pf_pc 24 (x &&& (x - 1)) = a + (pf_pc 24 (x &&& (x - 1)) + 1) from by omega]
  rw [pb_209_0]
  exact (key n n 0 (Nat.le_refl _) hn (by have := pc_le 24 n; omega)).trans (by rw [Nat.zero_add])
theorem hb_bit : ∀ k : Nat, k < 24 → (1 : Int32) <<< (Int32.ofNat k &&& 31) = Int32.ofNat (2 ^ k) := by decide
theorem hb_or (a k : Nat) (ha : a < 16777216) (hk : k < 24) : Int32.ofNat a ||| ((1 : Int32) <<< (Int32.ofNat k &&& 31)) = Int32.ofNat (a ||| 2 ^ k) ∧ (a ||| 2 ^ k) < 16777216 := by
  have h2 : 2 ^ k < 2 ^ 24 := Nat.pow_lt_pow_right (by decide) hk
  rw [hb_bit k hk]
  exact ⟨hb_or32 _ _ (by omega) (by omega), Nat.or_lt_two_pow (n := 24) ha h2⟩
theorem fo_bits {c : Int32 → Int32 → Prop} [∀ s q, Decidable (c s q)] {n : Int32} (hn0 : 0 ≤ n) (hn : n ≤ 24) : ∀ (m : Nat) (i s : Int32), 0 ≤ i → i.toNatClampNeg + m = n.toNatClampNeg → (∃ a : Nat, s = Int32.ofNat a ∧ a < 16777216) → ∃ a : Nat, pm_fo (fun (s : Int32) (q : Int32) => if c s q then s ||| ((1 : Int32) <<< (q &&& 31)) else s) m i s = Int32.ofNat a ∧ a < 16777216
  | 0, _, _, _, _, h => h
  | m + 1, i, s, h0, hm, h => by
    have t1 := pi_tni h0
    have t2 := pi_tni hn0
    have e24 : (24 : Int32).toInt = 24 := rfl
    have h24 := pi_le.mp hn
    have e3 : (i + 1).toNatClampNeg = i.toNatClampNeg + 1 := pi_tn1 h0 (by rw [pi_lt]; have e : (2147483647 : Int32).toInt = 2147483647 := rfl; omega)
    have e4 : 0 ≤ i + 1 := by rw [pi_le, pi_0, pi_add (by rw [pi_1]; omega) (by rw [pi_1]; omega), pi_1]; omega
    unfold pm_fo
    refine fo_bits hn0 hn m (i + 1) _ e4 (by omega) ?_
    obtain ⟨a, ha, hl⟩ := h
    split
    · have z := hb_or a i.toNatClampNeg hl (by omega)
      rw [pi_ofNat h0] at z
      exact ⟨_, by rw [ha]; exact z.1, z.2⟩
    · exact ⟨a, ha, hl⟩
theorem po_rightOf {d L : Nat} {b : Bool} {I : Nat → Nat → Int32} {J : Nat → Nat → Int64} {X : Nat → Int32} {x1 x2 : Int32} (hI : pm_inv X b I J) : pm_wc pm_code pm_meta (d + 20) 129 [.ref 8, .int x1, .int x2] (pm_Gb L b, I, J) (fun v _ H => pm_wc pm_code pm_meta (d + 20) 210 [.ref 79, .int x1, .int x2] H (pm_ok X L b v)) := by
  have hI0 := hI
  obtain ⟨⟨htod, hroa, hper, hhou, hthi, hrig, hver, hsea, hsta, hlot, hbuy, hdee, hple⟩, htxt, hrid, htmp, hshe, hshf, htra, hk, hkept, hcon⟩ := hI
  have hn1 := (per_n hper).1
  have hn2 := (hou_n hhou).1
  have hn3 := (thi_n hthi).1
  have hn4 := (rig_n hrig).1
  by_cases h1 : 0 ≤ x1 ∧ x1 < I 80 4
  · obtain ⟨a1, a2⟩ := h1
    have i24 := rig_in hrig a1 a2
    by_cases y0 : x2 = 0
    · subst y0
      simp only [pb_129_0, pb_129_11, pb_129_14, pb_129_16, pb_129_23, pb_129_39, pb_129_26, pb_129_116, pb_129_102, pb_129_90, pb_129_68, pb_129_38, pb_129_115, pb_129_98, pb_129_75, pb_129_101, pb_129_89, pb_210_0, pb_210_5, pb_210_8, pb_210_10, pb_210_193, pb_210_172, pb_210_163, pb_210_138, pb_210_131, pb_210_110, pb_210_103, pb_210_96, pb_210_89, pb_210_82, pb_210_75, pb_210_68, pb_210_190, pb_210_181, pb_210_168, pb_210_142, pb_210_128, pb_210_119, pb_210_192, pb_210_171, pb_210_160, pb_210_151, pb_210_130, pb_210_162, px_has_rig hrig, px_isWithin, pr_isRight hn4, a1, a2, i24, px_rig_0 hrig, pm_at_in, pl_0_1, pl_0_2, pl_0_3, pl_0_4, pl_0_5, pl_0_6, pl_0_7, pl_0_8, pl_0_9, pl_0_10, pl_0_11, pl_0_12, pl_0_13, pl_0_14, pl_0_15, pl_0_20, pl_1_0, not_false_eq_true, not_true_eq_false, and_self, and_true, true_and, false_and, and_false, or_true, true_or, or_false, false_or, or_self, Int32.reduceLE, Int32.reduceLT, pi_lt0, pm_b_eq0, pm_b_eq1, ite_not, pm_k0, pm_k1, pm_b_fit, true_and, and_true, not_true_eq_false, not_false_eq_true, ite_true, ite_false, if_true, if_false]
      with_reducible exact pm_okJ hI0
    by_cases y1 : x2 = 1
    · subst y1
      simp only [pb_129_0, pb_129_11, pb_129_14, pb_129_16, pb_129_23, pb_129_39, pb_129_26, pb_129_116, pb_129_102, pb_129_90, pb_129_68, pb_129_38, pb_129_115, pb_129_98, pb_129_75, pb_129_101, pb_129_89, pb_210_0, pb_210_5, pb_210_8, pb_210_10, pb_210_193, pb_210_172, pb_210_163, pb_210_138, pb_210_131, pb_210_110, pb_210_103, pb_210_96, pb_210_89, pb_210_82, pb_210_75, pb_210_68, pb_210_190, pb_210_181, pb_210_168, pb_210_142, pb_210_128, pb_210_119, pb_210_192, pb_210_171, pb_210_160, pb_210_151, pb_210_130, pb_210_162, px_has_rig hrig, px_isWithin, pr_isRight hn4, a1, a2, i24, px_rig_1 hrig, pm_at_in, pl_1_0, pl_1_2, pl_1_3, pl_1_4, pl_1_5, pl_1_6, pl_1_7, pl_1_8, pl_1_9, pl_1_10, pl_1_11, pl_1_12, pl_1_13, pl_1_14, pl_1_15, pl_1_20, pl_1_0, not_false_eq_true, not_true_eq_false, and_self, and_true, true_and, false_and, and_false, or_true, true_or, or_false, false_or, or_self, Int32.reduceLE, Int32.reduceLT, pi_lt0, pm_b_eq0, pm_b_eq1, ite_not, pm_k0, pm_k1, pm_b_fit, true_and, and_true, not_true_eq_false, not_false_eq_true, ite_true, ite_false, if_true, if_false]
      with_reducible exact pm_okJ hI0
    by_cases y2 : x2 = 2
    · subst y2
      simp only [pb_129_0, pb_129_11, pb_129_14, pb_129_16, pb_129_23, pb_129_39, pb_129_26, pb_129_116, pb_129_102, pb_129_90, pb_129_68, pb_129_38, pb_129_115, pb_129_98, pb_129_75, pb_129_101, pb_129_89, pb_210_0, pb_210_5, pb_210_8, pb_210_10, pb_210_193, pb_210_172, pb_210_163, pb_210_138, pb_210_131, pb_210_110, pb_210_103, pb_210_96, pb_210_89, pb_210_82, pb_210_75, pb_210_68, pb_210_190, pb_210_181, pb_210_168, pb_210_142, pb_210_128, pb_210_119, pb_210_192, pb_210_171, pb_210_160, pb_210_151, pb_210_130, pb_210_162, px_has_rig hrig, px_isWithin, pr_isRight hn4, a1, a2, i24, px_rig_2 hrig, pm_at_in, pl_2_0, pl_2_1, pl_2_3, pl_2_4, pl_2_5, pl_2_6, pl_2_7, pl_2_8, pl_2_9, pl_2_10, pl_2_11, pl_2_12, pl_2_13, pl_2_14, pl_2_15, pl_2_20, pl_1_0, not_false_eq_true, not_true_eq_false, and_self, and_true, true_and, false_and, and_false, or_true, true_or, or_false, false_or, or_self, Int32.reduceLE, Int32.reduceLT, pi_lt0, pm_b_eq0, pm_b_eq1, ite_not, pm_k0, pm_k1, pm_b_fit, true_and, and_true, not_true_eq_false, not_false_eq_true, ite_true, ite_false, if_true, if_false]
      with_reducible exact pm_okJ hI0
    by_cases y3 : x2 = 3
    · subst y3
      simp only [pb_129_0, pb_129_11, pb_129_14, pb_129_16, pb_129_23, pb_129_39, pb_129_26, pb_129_116, pb_129_102, pb_129_90, pb_129_68, pb_129_38, pb_129_115, pb_129_98, pb_129_75, pb_129_101, pb_129_89, pb_210_0, pb_210_5, pb_210_8, pb_210_10, pb_210_193, pb_210_172, pb_210_163, pb_210_138, pb_210_131, pb_210_110, pb_210_103, pb_210_96, pb_210_89, pb_210_82, pb_210_75, pb_210_68, pb_210_190, pb_210_181, pb_210_168, pb_210_142, pb_210_128, pb_210_119, pb_210_192, pb_210_171, pb_210_160, pb_210_151, pb_210_130, pb_210_162, px_has_rig hrig, px_isWithin, pr_isRight hn4, a1, a2, i24, px_rig_3 hrig, pm_at_in, pl_3_0, pl_3_1, pl_3_2, pl_3_4, pl_3_5, pl_3_6, pl_3_7, pl_3_8, pl_3_9, pl_3_10, pl_3_11, pl_3_12, pl_3_13, pl_3_14, pl_3_15, pl_3_20, pl_1_0, not_false_eq_true, not_true_eq_false, and_self, and_true, true_and, false_and, and_false, or_true, true_or, or_false, false_or, or_self, Int32.reduceLE, Int32.reduceLT, pi_lt0, pm_b_eq0, pm_b_eq1, ite_not, pm_k0, pm_k1, pm_b_fit, true_and, and_true, not_true_eq_false, not_false_eq_true, ite_true, ite_false, if_true, if_false]
      with_reducible exact pm_okJ hI0
    by_cases y4 : x2 = 4
    · subst y4
      simp only [pb_129_0, pb_129_11, pb_129_14, pb_129_16, pb_129_23, pb_129_39, pb_129_26, pb_129_116, pb_129_102, pb_129_90, pb_129_68, pb_129_38, pb_129_115, pb_129_98, pb_129_75, pb_129_101, pb_129_89, pb_210_0, pb_210_5, pb_210_8, pb_210_10, pb_210_193, pb_210_172, pb_210_163, pb_210_138, pb_210_131, pb_210_110, pb_210_103, pb_210_96, pb_210_89, pb_210_82, pb_210_75, pb_210_68, pb_210_190, pb_210_181, pb_210_168, pb_210_142, pb_210_128, pb_210_119, pb_210_192, pb_210_171, pb_210_160, pb_210_151, pb_210_130, pb_210_162, px_has_rig hrig, px_isWithin, pr_isRight hn4, a1, a2, i24, px_rig_4 hrig, pm_at_in, pl_4_0, pl_4_1, pl_4_2, pl_4_3, pl_4_5, pl_4_6, pl_4_7, pl_4_8, pl_4_9, pl_4_10, pl_4_11, pl_4_12, pl_4_13, pl_4_14, pl_4_15, pl_4_20, pl_1_0, not_false_eq_true, not_true_eq_false, and_self, and_true, true_and, false_and, and_false, or_true, true_or, or_false, false_or, or_self, Int32.reduceLE, Int32.reduceLT, pi_lt0, pm_b_eq0, pm_b_eq1, ite_not, pm_k0, pm_k1, pm_b_fit, true_and, and_true, not_true_eq_false, not_false_eq_true, ite_true, ite_false, if_true, if_false]
      with_reducible exact pm_okJ hI0
    by_cases y5 : x2 = 5
    · subst y5
      simp only [pb_129_0, pb_129_11, pb_129_14, pb_129_16, pb_129_23, pb_129_39, pb_129_26, pb_129_116, pb_129_102, pb_129_90, pb_129_68, pb_129_38, pb_129_115, pb_129_98, pb_129_75, pb_129_101, pb_129_89, pb_210_0, pb_210_5, pb_210_8, pb_210_10, pb_210_193, pb_210_172, pb_210_163, pb_210_138, pb_210_131, pb_210_110, pb_210_103, pb_210_96, pb_210_89, pb_210_82, pb_210_75, pb_210_68, pb_210_190, pb_210_181, pb_210_168, pb_210_142, pb_210_128, pb_210_119, pb_210_192, pb_210_171, pb_210_160, pb_210_151, pb_210_130, pb_210_162, px_has_rig hrig, px_isWithin, pr_isRight hn4, a1, a2, i24, px_rig_5 hrig, pm_at_in, pl_5_0, pl_5_1, pl_5_2, pl_5_3, pl_5_4, pl_5_6, pl_5_7, pl_5_8, pl_5_9, pl_5_10, pl_5_11, pl_5_12, pl_5_13, pl_5_14, pl_5_15, pl_5_20, pl_1_0, not_false_eq_true, not_true_eq_false, and_self, and_true, true_and, false_and, and_false, or_true, true_or, or_false, false_or, or_self, Int32.reduceLE, Int32.reduceLT, pi_lt0, pm_b_eq0, pm_b_eq1, ite_not, pm_k0, pm_k1, pm_b_fit, true_and, and_true, not_true_eq_false, not_false_eq_true, ite_true, ite_false, if_true, if_false]
      with_reducible exact pm_okJ hI0
    by_cases y6 : x2 = 6
    · subst y6
      by_cases c : 0 ≤ I 106 x1.toNatClampNeg
      · have c' := pm_no_nn c
        simp only [pb_129_0, pb_129_11, pb_129_14, pb_129_16, pb_129_23, pb_129_39, pb_129_26, pb_129_116, pb_129_102, pb_129_90, pb_129_68, pb_129_38, pb_129_115, pb_129_98, pb_129_75, pb_129_101, pb_129_89, pb_210_0, pb_210_5, pb_210_8, pb_210_10, pb_210_193, pb_210_172, pb_210_163, pb_210_138, pb_210_131, pb_210_110, pb_210_103, pb_210_96, pb_210_89, pb_210_82, pb_210_75, pb_210_68, pb_210_190, pb_210_181, pb_210_168, pb_210_142, pb_210_128, pb_210_119, pb_210_192, pb_210_171, pb_210_160, pb_210_151, pb_210_130, pb_210_162, px_has_rig hrig, px_isWithin, pr_isRight hn4, a1, a2, i24, px_rig_6 hrig, pm_at_in, c, c', pl_6_0, pl_6_1, pl_6_2, pl_6_3, pl_6_4, pl_6_5, pl_6_7, pl_6_8, pl_6_9, pl_6_10, pl_6_11, pl_6_12, pl_6_13, pl_6_14, pl_6_15, pl_6_20, pl_1_0, not_false_eq_true, not_true_eq_false, and_self, and_true, true_and, false_and, and_false, or_true, true_or, or_false, false_or, or_self, Int32.reduceLE, Int32.reduceLT, pi_lt0, pm_b_eq0, pm_b_eq1, ite_not, pm_k0, pm_k1, pm_b_fit, true_and, and_true, not_true_eq_false, not_false_eq_true, ite_true, ite_false, if_true, if_false]
        with_reducible exact pm_okJ hI0
      · have c' : pm_no (I 106 x1.toNatClampNeg) = -3 := if_pos (Int32.not_le.mp c)
        simp only [pb_129_0, pb_129_11, pb_129_14, pb_129_16, pb_129_23, pb_129_39, pb_129_26, pb_129_116, pb_129_102, pb_129_90, pb_129_68, pb_129_38, pb_129_115, pb_129_98, pb_129_75, pb_129_101, pb_129_89, pb_210_0, pb_210_5, pb_210_8, pb_210_10, pb_210_193, pb_210_172, pb_210_163, pb_210_138, pb_210_131, pb_210_110, pb_210_103, pb_210_96, pb_210_89, pb_210_82, pb_210_75, pb_210_68, pb_210_190, pb_210_181, pb_210_168, pb_210_142, pb_210_128, pb_210_119, pb_210_192, pb_210_171, pb_210_160, pb_210_151, pb_210_130, pb_210_162, px_has_rig hrig, px_isWithin, pr_isRight hn4, a1, a2, i24, px_rig_6 hrig, pm_at_in, c, c', pl_6_0, pl_6_1, pl_6_2, pl_6_3, pl_6_4, pl_6_5, pl_6_7, pl_6_8, pl_6_9, pl_6_10, pl_6_11, pl_6_12, pl_6_13, pl_6_14, pl_6_15, pl_6_20, pl_1_0, not_false_eq_true, not_true_eq_false, and_self, and_true, true_and, false_and, and_false, or_true, true_or, or_false, false_or, or_self, Int32.reduceLE, Int32.reduceLT, pi_lt0, pm_b_eq0, pm_b_eq1, ite_not, pm_k0, pm_k1, pm_b_fit, true_and, and_true, not_true_eq_false, not_false_eq_true, ite_true, ite_false, if_true, if_false]
        with_reducible exact pm_okJ hI0
    by_cases y7 : x2 = 7
    · subst y7
      simp only [pb_129_0, pb_129_11, pb_129_14, pb_129_16, pb_129_23, pb_129_39, pb_129_26, pb_129_116, pb_129_102, pb_129_90, pb_129_68, pb_129_38, pb_129_115, pb_129_98, pb_129_75, pb_129_101, pb_129_89, pb_210_0, pb_210_5, pb_210_8, pb_210_10, pb_210_193, pb_210_172, pb_210_163, pb_210_138, pb_210_131, pb_210_110, pb_210_103, pb_210_96, pb_210_89, pb_210_82, pb_210_75, pb_210_68, pb_210_190, pb_210_181, pb_210_168, pb_210_142, pb_210_128, pb_210_119, pb_210_192, pb_210_171, pb_210_160, pb_210_151, pb_210_130, pb_210_162, px_has_rig hrig, px_isWithin, pr_isRight hn4, a1, a2, i24, px_rig_7 hrig, pm_at_in, pl_7_0, pl_7_1, pl_7_2, pl_7_3, pl_7_4, pl_7_5, pl_7_6, pl_7_8, pl_7_9, pl_7_10, pl_7_11, pl_7_12, pl_7_13, pl_7_14, pl_7_15, pl_7_20, pl_1_0, not_false_eq_true, not_true_eq_false, and_self, and_true, true_and, false_and, and_false, or_true, true_or, or_false, false_or, or_self, Int32.reduceLE, Int32.reduceLT, pi_lt0, pm_b_eq0, pm_b_eq1, ite_not, pm_k0, pm_k1, pm_b_fit, true_and, and_true, not_true_eq_false, not_false_eq_true, ite_true, ite_false, if_true, if_false]
      with_reducible exact pm_okJ hI0
    by_cases y8 : x2 = 8
    · subst y8
      simp only [pb_129_0, pb_129_11, pb_129_14, pb_129_16, pb_129_23, pb_129_39, pb_129_26, pb_129_116, pb_129_102, pb_129_90, pb_129_68, pb_129_38, pb_129_115, pb_129_98, pb_129_75, pb_129_101, pb_129_89, px_has_rig hrig, px_isWithin, a1, a2, pl_8_0, pl_8_1, pl_8_2, pl_8_3, pl_8_4, pl_8_5, pl_8_6, pl_8_7, pl_8_9, pl_8_10, pl_8_11, pl_8_12, pl_8_13, pl_8_14, pl_8_15, pl_8_20, pl_1_0, not_false_eq_true, not_true_eq_false, and_self, and_true, true_and, false_and, and_false, or_true, true_or, or_false, false_or, or_self, Int32.reduceLE, Int32.reduceLT, pi_lt0, pm_b_eq0, pm_b_eq1, ite_not, pm_k0, pm_k1, pm_b_fit, true_and, and_true, not_true_eq_false, not_false_eq_true, ite_true, ite_false, if_true, if_false]
      refine px_reckon (d := d + 13) hI0 (fun I1 hI1 hk h8 => ?_)
      have hrig1 := hI1.1.2.2.2.2.2.1
      have e80 : I1 80 = I 80 := hk 80 (by decide)
      have a2' : x1 < I1 80 4 := by rw [e80]; exact a2
      rw [pb_129_75, px_rig_8 hrig1 h8, pm_at_in a1 a2', pb_129_89]
      simp only [pb_210_0, pb_210_5, pb_210_8, pb_210_10, pb_210_193, pb_210_172, pb_210_163, pb_210_138, pb_210_131, pb_210_110, pb_210_103, pb_210_96, pb_210_89, pb_210_82, pb_210_75, pb_210_68, pb_210_190, pb_210_181, pb_210_168, pb_210_142, pb_210_128, pb_210_119, pb_210_192, pb_210_171, pb_210_160, pb_210_151, pb_210_130, pb_210_162, pr_isRight (I := I1) (by rw [e80]; exact hn4), e80, a1, a2, pl_8_0, pl_8_1, pl_8_2, pl_8_3, pl_8_4, pl_8_5, pl_8_6, pl_8_7, pl_8_9, pl_8_10, pl_8_11, pl_8_12, pl_8_13, pl_8_14, pl_8_15, pl_8_20, pl_1_0, not_false_eq_true, not_true_eq_false, and_self, and_true, true_and, false_and, and_false, or_true, true_or, or_false, false_or, or_self, Int32.reduceLE, Int32.reduceLT, pi_lt0, pm_b_eq0, pm_b_eq1, ite_not, pm_k0, pm_k1, pm_b_fit, true_and, and_true, not_true_eq_false, not_false_eq_true, ite_true, ite_false, if_true, if_false]
      refine pr_findGone (d := d + 13) (gr_inv hI1) (gv_inv hI1) (fun I' ag hg => ?_)
      rw [e80] at hg
      have hv := hg _ (pi_tnlt a1 a2)
      by_cases c : 0 ≤ pf_gone I1 x1.toNatClampNeg
      · have c' := pm_no_nn c
        simp only [pb_210_0, pb_210_5, pb_210_8, pb_210_10, pb_210_193, pb_210_172, pb_210_163, pb_210_138, pb_210_131, pb_210_110, pb_210_103, pb_210_96, pb_210_89, pb_210_82, pb_210_75, pb_210_68, pb_210_190, pb_210_181, pb_210_168, pb_210_142, pb_210_128, pb_210_119, pb_210_192, pb_210_171, pb_210_160, pb_210_151, pb_210_130, pb_210_162, i24, hv, c, c', pl_1_0, not_false_eq_true, not_true_eq_false, and_self, and_true, true_and, false_and, and_false, or_true, true_or, or_false, false_or, or_self, Int32.reduceLE, Int32.reduceLT, pi_lt0, pm_b_eq0, pm_b_eq1, ite_not, pm_k0, pm_k1, pm_b_fit, true_and, and_true, not_true_eq_false, not_false_eq_true, ite_true, ite_false, if_true, if_false]
        with_reducible exact pm_okJ (inv_ag hI1 ag)
      · have c' : pm_no (pf_gone I1 x1.toNatClampNeg) = -3 := if_pos (Int32.not_le.mp c)
        simp only [pb_210_0, pb_210_5, pb_210_8, pb_210_10, pb_210_193, pb_210_172, pb_210_163, pb_210_138, pb_210_131, pb_210_110, pb_210_103, pb_210_96, pb_210_89, pb_210_82, pb_210_75, pb_210_68, pb_210_190, pb_210_181, pb_210_168, pb_210_142, pb_210_128, pb_210_119, pb_210_192, pb_210_171, pb_210_160, pb_210_151, pb_210_130, pb_210_162, i24, hv, c, c', pl_1_0, not_false_eq_true, not_true_eq_false, and_self, and_true, true_and, false_and, and_false, or_true, true_or, or_false, false_or, or_self, Int32.reduceLE, Int32.reduceLT, pi_lt0, pm_b_eq0, pm_b_eq1, ite_not, pm_k0, pm_k1, pm_b_fit, true_and, and_true, not_true_eq_false, not_false_eq_true, ite_true, ite_false, if_true, if_false]
        with_reducible exact pm_okJ (inv_ag hI1 ag)
    by_cases y9 : x2 = 9
    · subst y9
      have hn24 := (rig_n hrig).2
      have t1 := pi_tnlt a1 a2
      have t2 := pi_tni a1
      have t3 := pi_le.mp hn24
      have t4 := pi_tni hn4
      have e24 : (24 : Int32).toInt = 24 := rfl
      have e3 : (x1 + 1).toNatClampNeg = x1.toNatClampNeg + 1 := pi_tn1 a1 (by rw [pi_lt]; have e : (2147483647 : Int32).toInt = 2147483647 := rfl; omega)
      have e4 : 0 ≤ x1 + 1 := by rw [pi_le, pi_0, pi_add (by rw [pi_1]; omega) (by rw [pi_1]; omega), pi_1]; omega
      obtain ⟨a, ha, hl⟩ := fo_bits (c := fun s q => I 106 q.toNatClampNeg = x1 ∨ (0 ≤ I 106 q.toNatClampNeg ∧ (s >>> (I 106 q.toNatClampNeg &&& 31)) &&& 1 = 1)) hn4 hn24 ((I 80 4).toNatClampNeg - (x1.toNatClampNeg + 1)) (x1 + 1) 0 e4 (by omega) ⟨0, rfl, by decide⟩
      simp only [pb_129_0, pb_129_11, pb_129_14, pb_129_16, pb_129_23, pb_129_39, pb_129_26, pb_129_116, pb_129_102, pb_129_90, pb_129_68, pb_129_38, pb_129_115, pb_129_98, pb_129_75, pb_129_101, pb_129_89, px_has_rig hrig, px_isWithin, a1, a2, pl_9_0, pl_9_1, pl_9_2, pl_9_3, pl_9_4, pl_9_5, pl_9_6, pl_9_7, pl_9_8, pl_9_10, pl_9_11, pl_9_12, pl_9_13, pl_9_14, pl_9_15, pl_9_20, pl_1_0, not_false_eq_true, not_true_eq_false, and_self, and_true, true_and, false_and, and_false, or_true, true_or, or_false, false_or, or_self, Int32.reduceLE, Int32.reduceLT, pi_lt0, pm_b_eq0, pm_b_eq1, ite_not, pm_k0, pm_k1, pm_b_fit, true_and, and_true, not_true_eq_false, not_false_eq_true, ite_true, ite_false, if_true, if_false]
      rw [px_hanging (d := d + 18) hrig a1 a2, ha, pb_129_98, px_bitCount hl, pb_129_101]
      simp only [pb_210_0, pb_210_5, pb_210_8, pb_210_10, pb_210_193, pb_210_172, pb_210_163, pb_210_138, pb_210_131, pb_210_110, pb_210_103, pb_210_96, pb_210_89, pb_210_82, pb_210_75, pb_210_68, pb_210_190, pb_210_181, pb_210_168, pb_210_142, pb_210_128, pb_210_119, pb_210_192, pb_210_171, pb_210_160, pb_210_151, pb_210_130, pb_210_162, pr_isRight hn4, a1, a2, pl_9_0, pl_9_1, pl_9_2, pl_9_3, pl_9_4, pl_9_5, pl_9_6, pl_9_7, pl_9_8, pl_9_10, pl_9_11, pl_9_12, pl_9_13, pl_9_14, pl_9_15, pl_9_20, pl_1_0, not_false_eq_true, not_true_eq_false, and_self, and_true, true_and, false_and, and_false, or_true, true_or, or_false, false_or, or_self, Int32.reduceLE, Int32.reduceLT, pi_lt0, pm_b_eq0, pm_b_eq1, ite_not, pm_k0, pm_k1, pm_b_fit, true_and, and_true, not_true_eq_false, not_false_eq_true, ite_true, ite_false, if_true, if_false]
      rw [pr_hangsOn hn4 hn24 a1 a2, ha, pb_210_168, pr_ones hl, pb_210_171]
      with_reducible exact pm_okJ hI0
    by_cases y10 : x2 = 10
    · subst y10
      by_cases c : 0 ≤ I 107 x1.toNatClampNeg
      · have c' := pm_no_nn c
        simp only [pb_129_0, pb_129_11, pb_129_14, pb_129_16, pb_129_23, pb_129_39, pb_129_26, pb_129_116, pb_129_102, pb_129_90, pb_129_68, pb_129_38, pb_129_115, pb_129_98, pb_129_75, pb_129_101, pb_129_89, pb_210_0, pb_210_5, pb_210_8, pb_210_10, pb_210_193, pb_210_172, pb_210_163, pb_210_138, pb_210_131, pb_210_110, pb_210_103, pb_210_96, pb_210_89, pb_210_82, pb_210_75, pb_210_68, pb_210_190, pb_210_181, pb_210_168, pb_210_142, pb_210_128, pb_210_119, pb_210_192, pb_210_171, pb_210_160, pb_210_151, pb_210_130, pb_210_162, px_has_rig hrig, px_isWithin, pr_isRight hn4, a1, a2, i24, px_rig_9 hrig, pm_at_in, c, c', pl_10_0, pl_10_1, pl_10_2, pl_10_3, pl_10_4, pl_10_5, pl_10_6, pl_10_7, pl_10_8, pl_10_9, pl_10_11, pl_10_12, pl_10_13, pl_10_14, pl_10_15, pl_10_20, pl_1_0, not_false_eq_true, not_true_eq_false, and_self, and_true, true_and, false_and, and_false, or_true, true_or, or_false, false_or, or_self, Int32.reduceLE, Int32.reduceLT, pi_lt0, pm_b_eq0, pm_b_eq1, ite_not, pm_k0, pm_k1, pm_b_fit, true_and, and_true, not_true_eq_false, not_false_eq_true, ite_true, ite_false, if_true, if_false]
        with_reducible exact pm_okJ hI0
      · have c' : pm_no (I 107 x1.toNatClampNeg) = -3 := if_pos (Int32.not_le.mp c)
        simp only [pb_129_0, pb_129_11, pb_129_14, pb_129_16, pb_129_23, pb_129_39, pb_129_26, pb_129_116, pb_129_102, pb_129_90, pb_129_68, pb_129_38, pb_129_115, pb_129_98, pb_129_75, pb_129_101, pb_129_89, pb_210_0, pb_210_5, pb_210_8, pb_210_10, pb_210_193, pb_210_172, pb_210_163, pb_210_138, pb_210_131, pb_210_110, pb_210_103, pb_210_96, pb_210_89, pb_210_82, pb_210_75, pb_210_68, pb_210_190, pb_210_181, pb_210_168, pb_210_142, pb_210_128, pb_210_119, pb_210_192, pb_210_171, pb_210_160, pb_210_151, pb_210_130, pb_210_162, px_has_rig hrig, px_isWithin, pr_isRight hn4, a1, a2, i24, px_rig_9 hrig, pm_at_in, c, c', pl_10_0, pl_10_1, pl_10_2, pl_10_3, pl_10_4, pl_10_5, pl_10_6, pl_10_7, pl_10_8, pl_10_9, pl_10_11, pl_10_12, pl_10_13, pl_10_14, pl_10_15, pl_10_20, pl_1_0, not_false_eq_true, not_true_eq_false, and_self, and_true, true_and, false_and, and_false, or_true, true_or, or_false, false_or, or_self, Int32.reduceLE, Int32.reduceLT, pi_lt0, pm_b_eq0, pm_b_eq1, ite_not, pm_k0, pm_k1, pm_b_fit, true_and, and_true, not_true_eq_false, not_false_eq_true, ite_true, ite_false, if_true, if_false]
        with_reducible exact pm_okJ hI0
    have nw : ¬ (0 ≤ x2 ∧ x2 ≤ 7) := fun q => by
      rcases k_cases q.1 q.2 with h | h | h | h | h | h | h | h <;> contradiction
    simp only [pb_129_0, pb_129_11, pb_129_14, pb_129_16, pb_129_23, pb_129_39, pb_129_26, pb_129_116, pb_129_102, pb_129_90, pb_129_68, pb_129_38, pb_129_115, pb_129_98, pb_129_75, pb_129_101, pb_129_89, pb_210_0, pb_210_5, pb_210_8, pb_210_10, pb_210_193, pb_210_172, pb_210_163, pb_210_138, pb_210_131, pb_210_110, pb_210_103, pb_210_96, pb_210_89, pb_210_82, pb_210_75, pb_210_68, pb_210_190, pb_210_181, pb_210_168, pb_210_142, pb_210_128, pb_210_119, pb_210_192, pb_210_171, pb_210_160, pb_210_151, pb_210_130, pb_210_162, px_has_rig hrig, px_isWithin, pr_isRight hn4, a1, a2, y0, y1, y2, y3, y4, y5, y6, y7, y8, y9, y10, nw, pl_1_0, not_false_eq_true, not_true_eq_false, and_self, and_true, true_and, false_and, and_false, or_true, true_or, or_false, false_or, or_self, Int32.reduceLE, Int32.reduceLT, pi_lt0, pm_b_eq0, pm_b_eq1, ite_not, pm_k0, pm_k1, pm_b_fit, true_and, and_true, not_true_eq_false, not_false_eq_true, ite_true, ite_false, if_true, if_false]
    with_reducible exact pm_okJ hI0
  · simp only [pb_129_0, pb_129_11, pb_129_14, pb_129_16, pb_129_23, pb_129_39, pb_129_26, pb_129_116, pb_129_102, pb_129_90, pb_129_68, pb_129_38, pb_129_115, pb_129_98, pb_129_75, pb_129_101, pb_129_89, pb_210_0, pb_210_5, pb_210_8, pb_210_10, pb_210_193, pb_210_172, pb_210_163, pb_210_138, pb_210_131, pb_210_110, pb_210_103, pb_210_96, pb_210_89, pb_210_82, pb_210_75, pb_210_68, pb_210_190, pb_210_181, pb_210_168, pb_210_142, pb_210_128, pb_210_119, pb_210_192, pb_210_171, pb_210_160, pb_210_151, pb_210_130, pb_210_162, px_has_rig hrig, pr_isRight hn4, h1, pl_1_0, not_false_eq_true, not_true_eq_false, and_self, and_true, true_and, false_and, and_false, or_true, true_or, or_false, false_or, or_self, Int32.reduceLE, Int32.reduceLT, pi_lt0, pm_b_eq0, pm_b_eq1, ite_not, pm_k0, pm_k1, pm_b_fit, true_and, and_true, not_true_eq_false, not_false_eq_true, ite_true, ite_false, if_true, if_false]
    with_reducible exact pm_okJ hI0

