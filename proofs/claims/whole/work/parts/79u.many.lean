/-! THE CALL many. -/
theorem hou_l {t c : Nat → Int32} {n today : Int32} {place order coin fear fell stripped due roll rollday had : Nat → Int32} (h : pg_hou t c n today place order coin fear fell stripped due roll rollday had) : n < 2147483647 := pi_ltb (Int32.lt_of_le_of_lt (hou_n h).2 (by decide : (8 : Int32) < 100)) (by decide)
theorem px_manyUnfallen {d L : Nat} {b : Bool} {I : Nat → Nat → Int32} {J : Nat → Nat → Int64} {n today : Int32} {place order coin fear fell stripped due roll rollday had : Nat → Int32} {Q : Int32 → Int64 → pm_H → Prop} (h : pg_hou (I 14) (I 15) n today place order coin fear fell stripped due roll rollday had) : pm_wc pm_code pm_meta (d + 2) 28 [.ref 9] (pm_Gb L b, I, J) Q ↔ Q (pm_fo (fun (s i : Int32) => if 0 ≤ fell i.toNatClampNeg then s else s + 1) n.toNatClampNeg 0 0) 0 (pm_Gb L b, I, J) := by
  rw [pb_28_0]
  refine pm_for (A := fun (s : Int32) i => pm_wp pm_code pm_meta (d + 2) 28 4 ([.ref 9, .int s, .int i], [], (pm_Gb L b, I, J)) Q) (E := fun s => Q s 0 (pm_Gb L b, I, J)) (hou_n h).1 (hou_l h) (fun s i h0 => ?_) 0
  rw [pb_28_4, h.1.2]
  by_cases hi : n ≤ i
  · simp only [hi, if_true, pb_28_0, pb_28_32, pb_28_15, pb_28_20, pb_28_23, pb_28_26]
  · have h1 := Int32.not_le.mp hi
    by_cases c1 : 0 ≤ fell i.toNatClampNeg
    · simp only [hi, c1, px_fallen h h0 h1, pb_28_0, pb_28_32, pb_28_15, pb_28_20, pb_28_23, pb_28_26, pi_ltn, pl_1_0, not_false_eq_true, not_true_eq_false, and_self, and_true, true_and, false_and, and_false, or_true, true_or, or_false, false_or, or_self, Int32.reduceLE, Int32.reduceLT, pi_lt0, pm_b_eq0, pm_b_eq1, ite_not, pm_k0, pm_k1, pm_b_fit, true_and, and_true, not_true_eq_false, not_false_eq_true, ite_true, ite_false, if_true, if_false]
    · simp only [hi, c1, px_fallen h h0 h1, pb_28_0, pb_28_32, pb_28_15, pb_28_20, pb_28_23, pb_28_26, pi_ltn, pl_1_0, not_false_eq_true, not_true_eq_false, and_self, and_true, true_and, false_and, and_false, or_true, true_or, or_false, false_or, or_self, Int32.reduceLE, Int32.reduceLT, pi_lt0, pm_b_eq0, pm_b_eq1, ite_not, pm_k0, pm_k1, pm_b_fit, true_and, and_true, not_true_eq_false, not_false_eq_true, ite_true, ite_false, if_true, if_false]
theorem pr_many_loop {d L : Nat} {b : Bool} {I : Nat → Nat → Int32} {J : Nat → Nat → Int64} {x1 : Int32} {Q : Int32 → Int64 → pm_H → Prop} (n0 : 0 ≤ I 80 2) (n8 : I 80 2 ≤ 8) : pm_wp pm_code pm_meta (d + 1) 305 172 ([.ref 79, .int x1, .int 0, .int 0], [], (pm_Gb L b, I, J)) Q ↔ Q (pm_fo (fun (s i : Int32) => if 0 ≤ I 88 i.toNatClampNeg then s + 1 else s) (I 80 2).toNatClampNeg 0 0) 0 (pm_Gb L b, I, J) := by
  refine pm_for (A := fun (s : Int32) i => pm_wp pm_code pm_meta (d + 1) 305 172 ([.ref 79, .int x1, .int s, .int i], [], (pm_Gb L b, I, J)) Q) (E := fun s => Q s 0 (pm_Gb L b, I, J)) n0 (pi_ltb (Int32.lt_of_le_of_lt n8 (by decide : (8 : Int32) < 100)) (by decide)) (fun s i h0 => ?_) 0
  rw [pb_305_172]
  by_cases hi : I 80 2 ≤ i
  · simp only [hi, if_true, pb_305_0, pb_305_211, pb_305_206, pb_305_170, pb_305_160, pb_305_155, pb_305_150, pb_305_142, pb_305_134, pb_305_126, pb_305_118, pb_305_111, pb_305_104, pb_305_97, pb_305_90, pb_305_83, pb_305_76, pb_305_210, pb_305_169, pb_305_204, pb_305_182, pb_305_188, pb_305_195, pb_305_191, pb_305_196]
  · have h1 := Int32.not_le.mp hi
    have i8 := pi_in8 n8 h0 h1
    by_cases c1 : 0 ≤ I 88 i.toNatClampNeg
    · simp only [hi, c1, pr_hasFallen, i8, pb_305_0, pb_305_211, pb_305_206, pb_305_170, pb_305_160, pb_305_155, pb_305_150, pb_305_142, pb_305_134, pb_305_126, pb_305_118, pb_305_111, pb_305_104, pb_305_97, pb_305_90, pb_305_83, pb_305_76, pb_305_210, pb_305_169, pb_305_204, pb_305_182, pb_305_188, pb_305_195, pb_305_191, pb_305_196, pi_ltn, pl_1_0, not_false_eq_true, not_true_eq_false, and_self, and_true, true_and, false_and, and_false, or_true, true_or, or_false, false_or, or_self, Int32.reduceLE, Int32.reduceLT, pi_lt0, pm_b_eq0, pm_b_eq1, ite_not, pm_k0, pm_k1, pm_b_fit, true_and, and_true, not_true_eq_false, not_false_eq_true, ite_true, ite_false, if_true, if_false]
    · simp only [hi, c1, pr_hasFallen, i8, pb_305_0, pb_305_211, pb_305_206, pb_305_170, pb_305_160, pb_305_155, pb_305_150, pb_305_142, pb_305_134, pb_305_126, pb_305_118, pb_305_111, pb_305_104, pb_305_97, pb_305_90, pb_305_83, pb_305_76, pb_305_210, pb_305_169, pb_305_204, pb_305_182, pb_305_188, pb_305_195, pb_305_191, pb_305_196, Int32.add_zero, pi_ltn, pl_1_0, not_false_eq_true, not_true_eq_false, and_self, and_true, true_and, false_and, and_false, or_true, true_or, or_false, false_or, or_self, Int32.reduceLE, Int32.reduceLT, pi_lt0, pm_b_eq0, pm_b_eq1, ite_not, pm_k0, pm_k1, pm_b_fit, true_and, and_true, not_true_eq_false, not_false_eq_true, ite_true, ite_false, if_true, if_false]
theorem fo_both {f : Int32 → Prop} [DecidablePred f] : ∀ (m : Nat) (i a c : Int32), pm_fo (fun (s i : Int32) => if f i then s else s + 1) m i a + pm_fo (fun (s i : Int32) => if f i then s + 1 else s) m i c = a + c + Int32.ofNat m
  | 0, i, a, c => by simp only [pm_fo]; exact (Int32.add_zero _).symm
  | m + 1, i, a, c => by
    unfold pm_fo
    have e : Int32.ofNat (m + 1) = Int32.ofNat m + 1 := by rw [Int32.ofNat_add]; rfl
    by_cases h : f i
    · rw [if_pos h, if_pos h, fo_both m (i + 1) a (c + 1), e]; grind
    · rw [if_neg h, if_neg h, fo_both m (i + 1) (a + 1) c, e]; grind
theorem unfallen_eq {n : Int32} {f : Int32 → Prop} [DecidablePred f] (h0 : 0 ≤ n) : n - pm_fo (fun (s i : Int32) => if f i then s else s + 1) n.toNatClampNeg 0 0 = pm_fo (fun (s i : Int32) => if f i then s + 1 else s) n.toNatClampNeg 0 0 := by
  have e := fo_both (f := f) n.toNatClampNeg 0 0 0
  rw [pi_ofNat h0] at e
  grind
theorem po_many {d L : Nat} {b : Bool} {I : Nat → Nat → Int32} {J : Nat → Nat → Int64} {X : Nat → Int32} {x1 : Int32} (hI : pm_inv X b I J) : pm_wc pm_code pm_meta (d + 20) 172 [.ref 8, .int x1] (pm_Gb L b, I, J) (fun v _ H => pm_wc pm_code pm_meta (d + 20) 305 [.ref 79, .int x1] H (pm_ok X L b v)) := by
  have hI0 := hI
  obtain ⟨⟨htod, hroa, hper, hhou, hthi, hrig, hver, hsea, hsta, hlot, hbuy, hdee, hple⟩, htxt, hrid, htmp, hshe, hshf, htra, hk, hkept, hcon⟩ := hI
  have hn1 := (per_n hper).1
  have hn2 := (hou_n hhou).1
  have hn3 := (thi_n hthi).1
  have hn4 := (rig_n hrig).1
  by_cases y0 : x1 = 0
  · subst y0
    simp only [pb_172_0, pb_172_240, pb_172_232, pb_172_213, pb_172_202, pb_172_194, pb_172_183, pb_172_172, pb_172_161, pb_172_150, pb_172_139, pb_172_128, pb_172_117, pb_172_106, pb_172_95, pb_172_84, pb_172_76, pb_172_239, pb_172_230, pb_305_0, pb_305_211, pb_305_206, pb_305_170, pb_305_160, pb_305_155, pb_305_150, pb_305_142, pb_305_134, pb_305_126, pb_305_118, pb_305_111, pb_305_104, pb_305_97, pb_305_90, pb_305_83, pb_305_76, pb_305_210, pb_305_169, pb_305_204, pb_305_182, pb_305_188, pb_305_195, pb_305_191, pb_305_196, pl_0_1, pl_0_2, pl_0_3, pl_0_4, pl_0_5, pl_0_6, pl_0_7, pl_0_8, pl_0_9, pl_0_10, pl_0_11, pl_0_12, pl_0_13, pl_0_14, pl_0_15, pl_0_20, if_true, if_false, htod.1, hper.1.2, hhou.1.2, hthi.1.2, hrig.1.2, hver.1.2.1, hsta.1.2, hlot.1.2, hbuy.1.2, hdee.1.2, htod.1]
    with_reducible exact pm_okJ hI0
  by_cases y1 : x1 = 1
  · subst y1
    simp only [pb_172_0, pb_172_240, pb_172_232, pb_172_213, pb_172_202, pb_172_194, pb_172_183, pb_172_172, pb_172_161, pb_172_150, pb_172_139, pb_172_128, pb_172_117, pb_172_106, pb_172_95, pb_172_84, pb_172_76, pb_172_239, pb_172_230, pb_305_0, pb_305_211, pb_305_206, pb_305_170, pb_305_160, pb_305_155, pb_305_150, pb_305_142, pb_305_134, pb_305_126, pb_305_118, pb_305_111, pb_305_104, pb_305_97, pb_305_90, pb_305_83, pb_305_76, pb_305_210, pb_305_169, pb_305_204, pb_305_182, pb_305_188, pb_305_195, pb_305_191, pb_305_196, pl_1_0, pl_1_2, pl_1_3, pl_1_4, pl_1_5, pl_1_6, pl_1_7, pl_1_8, pl_1_9, pl_1_10, pl_1_11, pl_1_12, pl_1_13, pl_1_14, pl_1_15, pl_1_20, if_true, if_false, htod.1, hper.1.2, hhou.1.2, hthi.1.2, hrig.1.2, hver.1.2.1, hsta.1.2, hlot.1.2, hbuy.1.2, hdee.1.2, htod.1]
    with_reducible exact pm_okJ hI0
  by_cases y2 : x1 = 2
  · subst y2
    simp only [pb_172_0, pb_172_240, pb_172_232, pb_172_213, pb_172_202, pb_172_194, pb_172_183, pb_172_172, pb_172_161, pb_172_150, pb_172_139, pb_172_128, pb_172_117, pb_172_106, pb_172_95, pb_172_84, pb_172_76, pb_172_239, pb_172_230, pb_305_0, pb_305_211, pb_305_206, pb_305_170, pb_305_160, pb_305_155, pb_305_150, pb_305_142, pb_305_134, pb_305_126, pb_305_118, pb_305_111, pb_305_104, pb_305_97, pb_305_90, pb_305_83, pb_305_76, pb_305_210, pb_305_169, pb_305_204, pb_305_182, pb_305_188, pb_305_195, pb_305_191, pb_305_196, pl_2_0, pl_2_1, pl_2_3, pl_2_4, pl_2_5, pl_2_6, pl_2_7, pl_2_8, pl_2_9, pl_2_10, pl_2_11, pl_2_12, pl_2_13, pl_2_14, pl_2_15, pl_2_20, if_true, if_false, htod.1, hper.1.2, hhou.1.2, hthi.1.2, hrig.1.2, hver.1.2.1, hsta.1.2, hlot.1.2, hbuy.1.2, hdee.1.2, htod.1]
    with_reducible exact pm_okJ hI0
  by_cases y3 : x1 = 3
  · subst y3
    simp only [pb_172_0, pb_172_240, pb_172_232, pb_172_213, pb_172_202, pb_172_194, pb_172_183, pb_172_172, pb_172_161, pb_172_150, pb_172_139, pb_172_128, pb_172_117, pb_172_106, pb_172_95, pb_172_84, pb_172_76, pb_172_239, pb_172_230, pb_305_0, pb_305_211, pb_305_206, pb_305_170, pb_305_160, pb_305_155, pb_305_150, pb_305_142, pb_305_134, pb_305_126, pb_305_118, pb_305_111, pb_305_104, pb_305_97, pb_305_90, pb_305_83, pb_305_76, pb_305_210, pb_305_169, pb_305_204, pb_305_182, pb_305_188, pb_305_195, pb_305_191, pb_305_196, pl_3_0, pl_3_1, pl_3_2, pl_3_4, pl_3_5, pl_3_6, pl_3_7, pl_3_8, pl_3_9, pl_3_10, pl_3_11, pl_3_12, pl_3_13, pl_3_14, pl_3_15, pl_3_20, if_true, if_false, htod.1, hper.1.2, hhou.1.2, hthi.1.2, hrig.1.2, hver.1.2.1, hsta.1.2, hlot.1.2, hbuy.1.2, hdee.1.2, htod.1]
    with_reducible exact pm_okJ hI0
  by_cases y4 : x1 = 4
  · subst y4
    simp only [pb_172_0, pb_172_240, pb_172_232, pb_172_213, pb_172_202, pb_172_194, pb_172_183, pb_172_172, pb_172_161, pb_172_150, pb_172_139, pb_172_128, pb_172_117, pb_172_106, pb_172_95, pb_172_84, pb_172_76, pb_172_239, pb_172_230, pb_305_0, pb_305_211, pb_305_206, pb_305_170, pb_305_160, pb_305_155, pb_305_150, pb_305_142, pb_305_134, pb_305_126, pb_305_118, pb_305_111, pb_305_104, pb_305_97, pb_305_90, pb_305_83, pb_305_76, pb_305_210, pb_305_169, pb_305_204, pb_305_182, pb_305_188, pb_305_195, pb_305_191, pb_305_196, pl_4_0, pl_4_1, pl_4_2, pl_4_3, pl_4_5, pl_4_6, pl_4_7, pl_4_8, pl_4_9, pl_4_10, pl_4_11, pl_4_12, pl_4_13, pl_4_14, pl_4_15, pl_4_20, if_true, if_false, htod.1, hper.1.2, hhou.1.2, hthi.1.2, hrig.1.2, hver.1.2.1, hsta.1.2, hlot.1.2, hbuy.1.2, hdee.1.2, htod.1]
    with_reducible exact pm_okJ hI0
  by_cases y5 : x1 = 5
  · subst y5
    simp only [pb_172_0, pb_172_240, pb_172_232, pb_172_213, pb_172_202, pb_172_194, pb_172_183, pb_172_172, pb_172_161, pb_172_150, pb_172_139, pb_172_128, pb_172_117, pb_172_106, pb_172_95, pb_172_84, pb_172_76, pb_172_239, pb_172_230, pb_305_0, pb_305_211, pb_305_206, pb_305_170, pb_305_160, pb_305_155, pb_305_150, pb_305_142, pb_305_134, pb_305_126, pb_305_118, pb_305_111, pb_305_104, pb_305_97, pb_305_90, pb_305_83, pb_305_76, pb_305_210, pb_305_169, pb_305_204, pb_305_182, pb_305_188, pb_305_195, pb_305_191, pb_305_196, pl_5_0, pl_5_1, pl_5_2, pl_5_3, pl_5_4, pl_5_6, pl_5_7, pl_5_8, pl_5_9, pl_5_10, pl_5_11, pl_5_12, pl_5_13, pl_5_14, pl_5_15, pl_5_20, if_true, if_false, htod.1, hper.1.2, hhou.1.2, hthi.1.2, hrig.1.2, hver.1.2.1, hsta.1.2, hlot.1.2, hbuy.1.2, hdee.1.2, htod.1]
    with_reducible exact pm_okJ hI0
  by_cases y6 : x1 = 6
  · subst y6
    simp only [pb_172_0, pb_172_240, pb_172_232, pb_172_213, pb_172_202, pb_172_194, pb_172_183, pb_172_172, pb_172_161, pb_172_150, pb_172_139, pb_172_128, pb_172_117, pb_172_106, pb_172_95, pb_172_84, pb_172_76, pb_172_239, pb_172_230, pb_305_0, pb_305_211, pb_305_206, pb_305_170, pb_305_160, pb_305_155, pb_305_150, pb_305_142, pb_305_134, pb_305_126, pb_305_118, pb_305_111, pb_305_104, pb_305_97, pb_305_90, pb_305_83, pb_305_76, pb_305_210, pb_305_169, pb_305_204, pb_305_182, pb_305_188, pb_305_195, pb_305_191, pb_305_196, pl_6_0, pl_6_1, pl_6_2, pl_6_3, pl_6_4, pl_6_5, pl_6_7, pl_6_8, pl_6_9, pl_6_10, pl_6_11, pl_6_12, pl_6_13, pl_6_14, pl_6_15, pl_6_20, if_true, if_false, htod.1, hper.1.2, hhou.1.2, hthi.1.2, hrig.1.2, hver.1.2.1, hsta.1.2, hlot.1.2, hbuy.1.2, hdee.1.2, htod.1]
    with_reducible exact pm_okJ hI0
  by_cases y7 : x1 = 7
  · subst y7
    simp only [pb_172_0, pb_172_240, pb_172_232, pb_172_213, pb_172_202, pb_172_194, pb_172_183, pb_172_172, pb_172_161, pb_172_150, pb_172_139, pb_172_128, pb_172_117, pb_172_106, pb_172_95, pb_172_84, pb_172_76, pb_172_239, pb_172_230, pb_305_0, pb_305_211, pb_305_206, pb_305_170, pb_305_160, pb_305_155, pb_305_150, pb_305_142, pb_305_134, pb_305_126, pb_305_118, pb_305_111, pb_305_104, pb_305_97, pb_305_90, pb_305_83, pb_305_76, pb_305_210, pb_305_169, pb_305_204, pb_305_182, pb_305_188, pb_305_195, pb_305_191, pb_305_196, pl_7_0, pl_7_1, pl_7_2, pl_7_3, pl_7_4, pl_7_5, pl_7_6, pl_7_8, pl_7_9, pl_7_10, pl_7_11, pl_7_12, pl_7_13, pl_7_14, pl_7_15, pl_7_20, if_true, if_false, htod.1, hper.1.2, hhou.1.2, hthi.1.2, hrig.1.2, hver.1.2.1, hsta.1.2, hlot.1.2, hbuy.1.2, hdee.1.2, htod.1]
    with_reducible exact pm_okJ hI0
  by_cases y8 : x1 = 8
  · subst y8
    simp only [pb_172_0, pb_172_240, pb_172_232, pb_172_213, pb_172_202, pb_172_194, pb_172_183, pb_172_172, pb_172_161, pb_172_150, pb_172_139, pb_172_128, pb_172_117, pb_172_106, pb_172_95, pb_172_84, pb_172_76, pb_172_239, pb_172_230, pb_305_0, pb_305_211, pb_305_206, pb_305_170, pb_305_160, pb_305_155, pb_305_150, pb_305_142, pb_305_134, pb_305_126, pb_305_118, pb_305_111, pb_305_104, pb_305_97, pb_305_90, pb_305_83, pb_305_76, pb_305_210, pb_305_169, pb_305_204, pb_305_182, pb_305_188, pb_305_195, pb_305_191, pb_305_196, pl_8_0, pl_8_1, pl_8_2, pl_8_3, pl_8_4, pl_8_5, pl_8_6, pl_8_7, pl_8_9, pl_8_10, pl_8_11, pl_8_12, pl_8_13, pl_8_14, pl_8_15, pl_8_20, if_true, if_false, htod.1, hper.1.2, hhou.1.2, hthi.1.2, hrig.1.2, hver.1.2.1, hsta.1.2, hlot.1.2, hbuy.1.2, hdee.1.2, htod.1]
    with_reducible exact pm_okJ hI0
  by_cases y9 : x1 = 9
  · subst y9
    simp only [pb_172_0, pb_172_240, pb_172_232, pb_172_213, pb_172_202, pb_172_194, pb_172_183, pb_172_172, pb_172_161, pb_172_150, pb_172_139, pb_172_128, pb_172_117, pb_172_106, pb_172_95, pb_172_84, pb_172_76, pb_172_239, pb_172_230, pb_305_0, pb_305_211, pb_305_206, pb_305_170, pb_305_160, pb_305_155, pb_305_150, pb_305_142, pb_305_134, pb_305_126, pb_305_118, pb_305_111, pb_305_104, pb_305_97, pb_305_90, pb_305_83, pb_305_76, pb_305_210, pb_305_169, pb_305_204, pb_305_182, pb_305_188, pb_305_195, pb_305_191, pb_305_196, pl_9_0, pl_9_1, pl_9_2, pl_9_3, pl_9_4, pl_9_5, pl_9_6, pl_9_7, pl_9_8, pl_9_10, pl_9_11, pl_9_12, pl_9_13, pl_9_14, pl_9_15, pl_9_20, if_true, if_false, htod.1, hper.1.2, hhou.1.2, hthi.1.2, hrig.1.2, hver.1.2.1, hsta.1.2, hlot.1.2, hbuy.1.2, hdee.1.2, htod.1]
    with_reducible exact pm_okJ hI0
  by_cases y10 : x1 = 10
  · subst y10
    simp only [pb_172_0, pb_172_240, pb_172_232, pb_172_213, pb_172_202, pb_172_194, pb_172_183, pb_172_172, pb_172_161, pb_172_150, pb_172_139, pb_172_128, pb_172_117, pb_172_106, pb_172_95, pb_172_84, pb_172_76, pb_172_239, pb_172_230, pb_305_0, pb_305_211, pb_305_206, pb_305_170, pb_305_160, pb_305_155, pb_305_150, pb_305_142, pb_305_134, pb_305_126, pb_305_118, pb_305_111, pb_305_104, pb_305_97, pb_305_90, pb_305_83, pb_305_76, pb_305_210, pb_305_169, pb_305_204, pb_305_182, pb_305_188, pb_305_195, pb_305_191, pb_305_196, pl_10_0, pl_10_1, pl_10_2, pl_10_3, pl_10_4, pl_10_5, pl_10_6, pl_10_7, pl_10_8, pl_10_9, pl_10_11, pl_10_12, pl_10_13, pl_10_14, pl_10_15, pl_10_20, if_true, if_false, hrid.2.1]
    with_reducible exact pm_okJ hI0
  by_cases y11 : x1 = 11
  · subst y11
    simp only [pb_172_0, pb_172_240, pb_172_232, pb_172_213, pb_172_202, pb_172_194, pb_172_183, pb_172_172, pb_172_161, pb_172_150, pb_172_139, pb_172_128, pb_172_117, pb_172_106, pb_172_95, pb_172_84, pb_172_76, pb_172_239, pb_172_230, pb_305_0, pb_305_211, pb_305_206, pb_305_170, pb_305_160, pb_305_155, pb_305_150, pb_305_142, pb_305_134, pb_305_126, pb_305_118, pb_305_111, pb_305_104, pb_305_97, pb_305_90, pb_305_83, pb_305_76, pb_305_210, pb_305_169, pb_305_204, pb_305_182, pb_305_188, pb_305_195, pb_305_191, pb_305_196, pl_11_0, pl_11_1, pl_11_2, pl_11_3, pl_11_4, pl_11_5, pl_11_6, pl_11_7, pl_11_8, pl_11_9, pl_11_10, pl_11_12, pl_11_13, pl_11_14, pl_11_15, pl_11_20, if_true, if_false, htxt.2.1]
    with_reducible exact pm_okJ hI0
  by_cases y12 : x1 = 12
  · subst y12
    simp only [pb_172_0, pb_172_240, pb_172_232, pb_172_213, pb_172_202, pb_172_194, pb_172_183, pb_172_172, pb_172_161, pb_172_150, pb_172_139, pb_172_128, pb_172_117, pb_172_106, pb_172_95, pb_172_84, pb_172_76, pb_172_239, pb_172_230, pb_305_0, pb_305_211, pb_305_206, pb_305_170, pb_305_160, pb_305_155, pb_305_150, pb_305_142, pb_305_134, pb_305_126, pb_305_118, pb_305_111, pb_305_104, pb_305_97, pb_305_90, pb_305_83, pb_305_76, pb_305_210, pb_305_169, pb_305_204, pb_305_182, pb_305_188, pb_305_195, pb_305_191, pb_305_196, pl_12_0, pl_12_1, pl_12_2, pl_12_3, pl_12_4, pl_12_5, pl_12_6, pl_12_7, pl_12_8, pl_12_9, pl_12_10, pl_12_11, pl_12_13, pl_12_14, pl_12_15, pl_12_20, if_true, if_false, pr_lesser, htra.2.2.2.1]
    refine pm_okI2 ?_ hI0
    by_cases z1 : I 79 101 < 30
    · have z2 : ¬ 30 < I 79 101 := fun q => by grind
      simp only [z1, z2, if_true, if_false]
    · by_cases z2 : 30 < I 79 101
      · simp only [z1, z2, if_true, if_false]
      · have : I 79 101 = 30 := by grind
        simp only [z1, z2, if_false, this]
  by_cases y13 : x1 = 13
  · subst y13
    simp only [pb_172_0, pb_172_240, pb_172_232, pb_172_213, pb_172_202, pb_172_194, pb_172_183, pb_172_172, pb_172_161, pb_172_150, pb_172_139, pb_172_128, pb_172_117, pb_172_106, pb_172_95, pb_172_84, pb_172_76, pb_172_239, pb_172_230, pl_13_0, pl_13_1, pl_13_2, pl_13_3, pl_13_4, pl_13_5, pl_13_6, pl_13_7, pl_13_8, pl_13_9, pl_13_10, pl_13_11, pl_13_12, pl_13_14, pl_13_15, pl_13_20, if_true, if_false, px_manyUnfallen hhou, hhou.1.2]
    simp only [pb_305_0, pb_305_211, pb_305_206, pb_305_170, pb_305_160, pb_305_155, pb_305_150, pb_305_142, pb_305_134, pb_305_126, pb_305_118, pb_305_111, pb_305_104, pb_305_97, pb_305_90, pb_305_83, pb_305_76, pb_305_210, pb_305_169, pb_305_204, pb_305_182, pb_305_188, pb_305_195, pb_305_191, pb_305_196, pl_13_0, pl_13_1, pl_13_2, pl_13_3, pl_13_4, pl_13_5, pl_13_6, pl_13_7, pl_13_8, pl_13_9, pl_13_10, pl_13_11, pl_13_12, pl_13_14, pl_13_15, pl_13_20, if_true, if_false, pr_many_loop (d := d + 19) hn2 (hou_n hhou).2, unfallen_eq hn2]
    with_reducible exact pm_okJ hI0
  by_cases y14 : x1 = 14
  · subst y14
    simp only [pb_172_0, pb_172_240, pb_172_232, pb_172_213, pb_172_202, pb_172_194, pb_172_183, pb_172_172, pb_172_161, pb_172_150, pb_172_139, pb_172_128, pb_172_117, pb_172_106, pb_172_95, pb_172_84, pb_172_76, pb_172_239, pb_172_230, pl_14_0, pl_14_1, pl_14_2, pl_14_3, pl_14_4, pl_14_5, pl_14_6, pl_14_7, pl_14_8, pl_14_9, pl_14_10, pl_14_11, pl_14_12, pl_14_13, pl_14_15, pl_14_20, if_true, if_false]
    refine px_reckon (d := d + 13) hI0 (fun I1 hI1 hk h8 => ?_)
    simp only [pb_172_0, pb_172_240, pb_172_232, pb_172_213, pb_172_202, pb_172_194, pb_172_183, pb_172_172, pb_172_161, pb_172_150, pb_172_139, pb_172_128, pb_172_117, pb_172_106, pb_172_95, pb_172_84, pb_172_76, pb_172_239, pb_172_230, pb_305_0, pb_305_211, pb_305_206, pb_305_170, pb_305_160, pb_305_155, pb_305_150, pb_305_142, pb_305_134, pb_305_126, pb_305_118, pb_305_111, pb_305_104, pb_305_97, pb_305_90, pb_305_83, pb_305_76, pb_305_210, pb_305_169, pb_305_204, pb_305_182, pb_305_188, pb_305_195, pb_305_191, pb_305_196, pl_14_0, pl_14_1, pl_14_2, pl_14_3, pl_14_4, pl_14_5, pl_14_6, pl_14_7, pl_14_8, pl_14_9, pl_14_10, pl_14_11, pl_14_12, pl_14_13, pl_14_15, pl_14_20, if_true, if_false]
    exact pr_goneMany (d := d + 12) (gr_inv hI1) (gv_inv hI1) (fun I' ag hg => by simp only [pb_305_0, pb_305_211, pb_305_206, pb_305_170, pb_305_160, pb_305_155, pb_305_150, pb_305_142, pb_305_134, pb_305_126, pb_305_118, pb_305_111, pb_305_104, pb_305_97, pb_305_90, pb_305_83, pb_305_76, pb_305_210, pb_305_169, pb_305_204, pb_305_182, pb_305_188, pb_305_195, pb_305_191, pb_305_196]; exact pm_okJ (inv_ag hI1 ag))
  simp only [pb_172_0, pb_172_240, pb_172_232, pb_172_213, pb_172_202, pb_172_194, pb_172_183, pb_172_172, pb_172_161, pb_172_150, pb_172_139, pb_172_128, pb_172_117, pb_172_106, pb_172_95, pb_172_84, pb_172_76, pb_172_239, pb_172_230, pb_305_0, pb_305_211, pb_305_206, pb_305_170, pb_305_160, pb_305_155, pb_305_150, pb_305_142, pb_305_134, pb_305_126, pb_305_118, pb_305_111, pb_305_104, pb_305_97, pb_305_90, pb_305_83, pb_305_76, pb_305_210, pb_305_169, pb_305_204, pb_305_182, pb_305_188, pb_305_195, pb_305_191, pb_305_196, y0, y1, y2, y3, y4, y5, y6, y7, y8, y9, y10, y11, y12, y13, y14, if_false]
  with_reducible exact pm_okJ hI0

