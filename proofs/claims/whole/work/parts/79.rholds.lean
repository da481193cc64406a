/-! A step of holds: the reference. -/
theorem pr_isSo {d L : Nat} {b : Bool} {I : Nat → Nat → Int32} {J : Nat → Nat → Int64} {op nn q : Int32} {Q : Int32 → Int64 → pm_H → Prop} (i24 : pm_in q 24 = true) (i8 : pm_in (I 100 q.toNatClampNeg) 8 = true) (i16 : pm_in (I 101 q.toNatClampNeg) 16 = true) : pm_wc pm_code pm_meta (d + 1) 238 [.ref 79, .int op, .int nn, .int q] (pm_Gb L b, I, J) Q ↔ Q (pm_b (pf_ans (I 85) (I 100) (I 102) (I 99) (I 105) (I 88) (I 101) (I 82) (I 83) q op nn = true)) 0 (pm_Gb L b, I, J) := by
  unfold pf_ans
  by_cases h4 : op = 4
  · subst h4
    by_cases c : I 85 (I 100 q.toNatClampNeg).toNatClampNeg = nn
    · simp only [pb_238_0, pb_238_103, pb_238_69, pb_238_53, pb_238_36, pb_238_120, pb_238_79, pb_238_101, pb_238_67, pb_238_63, pb_238_47, pb_238_51, pb_238_97, pb_238_102, pb_238_68, pb_238_52, i24, i8, c, if_true, decide_true, pm_b_t, Int32.reduceLE, Int32.reduceLT, pi_lt0, pm_b_eq0, pm_b_eq1, ite_not, pm_k0, pm_k1, pm_b_fit, true_and, and_true, not_true_eq_false, not_false_eq_true, ite_true, ite_false, if_true, if_false]
    · simp only [pb_238_0, pb_238_103, pb_238_69, pb_238_53, pb_238_36, pb_238_120, pb_238_79, pb_238_101, pb_238_67, pb_238_63, pb_238_47, pb_238_51, pb_238_97, pb_238_102, pb_238_68, pb_238_52, i24, i8, c, if_true, if_false, decide_false, pm_b, Bool.false_eq_true, Int32.reduceLE, Int32.reduceLT, pi_lt0, pm_b_eq0, pm_b_eq1, ite_not, pm_k0, pm_k1, pm_b_fit, true_and, and_true, not_true_eq_false, not_false_eq_true, ite_true, ite_false, if_true, if_false]
  · have h4' := eq_false h4
    by_cases h5 : op = 5
    · subst h5
      by_cases c : nn < I 102 q.toNatClampNeg
      · have c' := Int32.not_le.mpr c
        simp only [pb_238_0, pb_238_103, pb_238_69, pb_238_53, pb_238_36, pb_238_120, pb_238_79, pb_238_101, pb_238_67, pb_238_63, pb_238_47, pb_238_51, pb_238_97, pb_238_102, pb_238_68, pb_238_52, i24, pl_5_4, c, c', if_true, if_false, decide_true, pm_b_t, Int32.reduceLE, Int32.reduceLT, pi_lt0, pm_b_eq0, pm_b_eq1, ite_not, pm_k0, pm_k1, pm_b_fit, true_and, and_true, not_true_eq_false, not_false_eq_true, ite_true, ite_false, if_true, if_false]
      · have c' := Int32.not_lt.mp c
        simp only [pb_238_0, pb_238_103, pb_238_69, pb_238_53, pb_238_36, pb_238_120, pb_238_79, pb_238_101, pb_238_67, pb_238_63, pb_238_47, pb_238_51, pb_238_97, pb_238_102, pb_238_68, pb_238_52, i24, pl_5_4, c, c', if_true, if_false, decide_false, pm_b, Bool.false_eq_true, Int32.reduceLE, Int32.reduceLT, pi_lt0, pm_b_eq0, pm_b_eq1, ite_not, pm_k0, pm_k1, pm_b_fit, true_and, and_true, not_true_eq_false, not_false_eq_true, ite_true, ite_false, if_true, if_false]
    · have h5' := eq_false h5
      by_cases h6 : op = 6
      · subst h6
        by_cases c1 : I 99 q.toNatClampNeg = 2
        · by_cases c : I 88 (I 100 q.toNatClampNeg).toNatClampNeg - I 105 q.toNatClampNeg ≤ nn
          · have c' := Int32.not_lt.mpr c
            simp only [pb_238_0, pb_238_103, pb_238_69, pb_238_53, pb_238_36, pb_238_120, pb_238_79, pb_238_101, pb_238_67, pb_238_63, pb_238_47, pb_238_51, pb_238_97, pb_238_102, pb_238_68, pb_238_52, i24, i8, pl_6_4, pl_6_5, c1, c, c', and_self, if_true, if_false, decide_true, pm_b_t, Int32.reduceLE, Int32.reduceLT, pi_lt0, pm_b_eq0, pm_b_eq1, ite_not, pm_k0, pm_k1, pm_b_fit, true_and, and_true, not_true_eq_false, not_false_eq_true, ite_true, ite_false, if_true, if_false]
          · have c' := Int32.not_le.mp c
            simp only [pb_238_0, pb_238_103, pb_238_69, pb_238_53, pb_238_36, pb_238_120, pb_238_79, pb_238_101, pb_238_67, pb_238_63, pb_238_47, pb_238_51, pb_238_97, pb_238_102, pb_238_68, pb_238_52, i24, i8, pl_6_4, pl_6_5, c1, c, c', and_false, if_true, if_false, decide_false, pm_b, Bool.false_eq_true, Int32.reduceLE, Int32.reduceLT, pi_lt0, pm_b_eq0, pm_b_eq1, ite_not, pm_k0, pm_k1, pm_b_fit, true_and, and_true, not_true_eq_false, not_false_eq_true, ite_true, ite_false, if_true, if_false]
        · simp only [pb_238_0, pb_238_103, pb_238_69, pb_238_53, pb_238_36, pb_238_120, pb_238_79, pb_238_101, pb_238_67, pb_238_63, pb_238_47, pb_238_51, pb_238_97, pb_238_102, pb_238_68, pb_238_52, i24, i8, pl_6_4, pl_6_5, eq_false c1, false_and, if_true, if_false, decide_false, pm_b, Bool.false_eq_true, Int32.reduceLE, Int32.reduceLT, pi_lt0, pm_b_eq0, pm_b_eq1, ite_not, pm_k0, pm_k1, pm_b_fit, true_and, and_true, not_true_eq_false, not_false_eq_true, ite_true, ite_false, if_true, if_false]
      · have h6' := eq_false h6
        simp only [pb_238_0, pb_238_103, pb_238_69, pb_238_53, pb_238_36, pb_238_120, pb_238_79, pb_238_101, pb_238_67, pb_238_63, pb_238_47, pb_238_51, pb_238_97, pb_238_102, pb_238_68, pb_238_52, i24, i8, h4', h5', h6', if_false, pr_lives i16, pm_b_fit, true_and, decide_eq_true_eq, Int32.reduceLE, Int32.reduceLT, pi_lt0, pm_b_eq0, pm_b_eq1, ite_not, pm_k0, pm_k1, pm_b_fit, true_and, and_true, not_true_eq_false, not_false_eq_true, ite_true, ite_false, if_true, if_false]
def pm_vq : Option Int64 → Value
  | none => pm_unset
  | some w => .long w
theorem pm_vq_n : pm_vq none = pm_unset := rfl
theorem pm_vq_s (w : Int64) : pm_vq (some w) = .long w := rfl
theorem pr_holds_step {d L : Nat} {b : Bool} {I : Nat → Nat → Int32} {J : Nat → Nat → Int64} {v r q f j : Int32} {k : Nat} {u : Option Int64} {Q : Int32 → Int64 → pm_H → Prop} (ir : pm_in r 130 = true) (ij : pm_in j 1040 = true) (hj : ¬ 80 * v + I 121 r.toNatClampNeg ≤ j)
    (i24 : pm_in q 24 = true) (i8 : pm_in (I 100 q.toNatClampNeg) 8 = true) (i16 : pm_in (I 101 q.toNatClampNeg) 16 = true) (hk : k < 33554432) (o0 : 1 ≤ I 122 j.toNatClampNeg) (o1 : I 122 j.toNatClampNeg ≤ 7) :
    pm_wp pm_code pm_meta (d + 2) 239 38 ([.ref 79, .int v, .int r, .int q, .long (Int64.ofNat k), pm_unset, .int f, .int j, pm_vq u, pm_unset], [], (pm_Gb L b, I, J)) Q ↔
    pm_wp pm_code pm_meta (d + 2) 239 38 ([.ref 79, .int v, .int r, .int q, .long (Int64.ofNat (pm_evs (I 122 j.toNatClampNeg) (pf_ans (I 85) (I 100) (I 102) (I 99) (I 105) (I 88) (I 101) (I 82) (I 83) q (I 122 j.toNatClampNeg) (I 123 j.toNatClampNeg) = true) k)), pm_unset, .int f, .int (j + 1), pm_vq (some (Int64.ofNat k &&& 1)), pm_unset], [], (pm_Gb L b, I, J)) Q := by
  have hk2 : k < 67108864 := by omega
  have start : pm_wp pm_code pm_meta (d + 2) 239 38 ([.ref 79, .int v, .int r, .int q, .long (Int64.ofNat k), pm_unset, .int f, .int j, pm_vq u, pm_unset], [], (pm_Gb L b, I, J)) Q ↔ (if I 122 j.toNatClampNeg = 1 then pm_wp pm_code pm_meta (d + 2) 239 92 ([.ref 79, .int v, .int r, .int q, .long (Int64.ofNat k), pm_unset, .int f, .int j, .long (Int64.ofNat k &&& 1), pm_unset], [], (pm_Gb L b, I, J)) Q else if I 122 j.toNatClampNeg = 2 then pm_wp pm_code pm_meta (d + 2) 239 104 ([.ref 79, .int v, .int r, .int q, .long (Int64.ofNat k), pm_unset, .int f, .int j, .long (Int64.ofNat k &&& 1), pm_unset], [], (pm_Gb L b, I, J)) Q else if I 122 j.toNatClampNeg = 3 then pm_wp pm_code pm_meta (d + 2) 239 129 ([.ref 79, .int v, .int r, .int q, .long (Int64.ofNat k), pm_unset, .int f, .int j, .long (Int64.ofNat k &&& 1), pm_unset], [], (pm_Gb L b, I, J)) Q else pm_wp pm_code pm_meta (d + 2) 239 138 ([.ref 79, .int v, .int r, .int q, .long (Int64.ofNat k), pm_unset, .int f, .int j, .long (Int64.ofNat k &&& 1), pm_unset], [], (pm_Gb L b, I, J)) Q) := by
    cases u <;> (simp only [pm_vq_n, pm_vq_s]; first | rw [pb_239_38] | rw [pb_239_38b]) <;> simp only [ir, hj, if_false, true_and, pb_239_54, pb_239_54b, ij]
  rw [start, pm_vq_s]
  generalize hop : I 122 j.toNatClampNeg = op at *
  generalize hnn : I 123 j.toNatClampNeg = nn at *
  by_cases h1 : op = 1
  · subst h1
    simp only [if_true, pb_239_92, pb_239_172, er_or k hk2 (ans := (pf_ans (I 85) (I 100) (I 102) (I 99) (I 105) (I 88) (I 101) (I 82) (I 83) q 1 nn = true))]
  · by_cases h2 : op = 2
    · subst h2
      by_cases hl : k % 2 = 1
      · simp only [pl_2_1, if_true, if_false, pb_239_104, er_low k hk2, eq_true hl, pb_239_111, pb_239_124, pb_239_172, er_and1 k hk2 hl (ans := (pf_ans (I 85) (I 100) (I 102) (I 99) (I 105) (I 88) (I 101) (I 82) (I 83) q 2 nn = true))]
      · simp only [pl_2_1, if_true, if_false, pb_239_104, er_low k hk2, eq_false hl, pb_239_118, pb_239_124, pb_239_172, er_and0 k hk2 hl (ans := (pf_ans (I 85) (I 100) (I 102) (I 99) (I 105) (I 88) (I 101) (I 82) (I 83) q 2 nn = true))]
    · by_cases h3 : op = 3
      · subst h3
        simp only [pl_3_1, pl_3_2, if_true, if_false, pb_239_129, pb_239_172, er_not k hk2 (ans := (pf_ans (I 85) (I 100) (I 102) (I 99) (I 105) (I 88) (I 101) (I 82) (I 83) q 3 nn = true))]
      · have e1 := eq_false h1
        have e2 := eq_false h2
        have e3 := eq_false h3
        have ep := er_psh k hk (o := op) (ans := (pf_ans (I 85) (I 100) (I 102) (I 99) (I 105) (I 88) (I 101) (I 82) (I 83) q op nn = true)) h1 h2 h3
        simp only [e1, e2, e3, if_false, pb_239_138, ij, hop, hnn, pr_isSo i24 i8 i16, true_and, pb_239_161, pm_b_eq0]
        by_cases ha : pf_ans (I 85) (I 100) (I 102) (I 99) (I 105) (I 88) (I 101) (I 82) (I 83) q op nn = true
        · simp only [ha, not_true_eq_false, if_false, if_true, pb_239_164, pb_239_169, pb_239_172] at ep ⊢
          rw [ep]
        · simp only [ha, Bool.false_eq_true, not_false_eq_true, if_false, if_true, pb_239_168, pb_239_169, pb_239_172] at ep ⊢
          rw [ep]

