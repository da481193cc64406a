/-! THE CALLS show, prove, pension. -/
theorem gone_cg {I I1 : Nat → Nat → Int32} (h : ∀ k, ¬ k = 19 → I1 k = I k) : pf_gone I1 = pf_gone I ∧ pf_goneN I1 = pf_goneN I := by
  have e : pf_ow I1 = pf_ow I := by
    funext q
    unfold pf_ow
    simp only [h 80 (by decide), h 82 (by decide), h 83 (by decide), h 85 (by decide), h 88 (by decide), h 99 (by decide), h 100 (by decide), h 101 (by decide), h 102 (by decide), h 105 (by decide), h 106 (by decide), h 107 (by decide), h 112 (by decide), h 113 (by decide), h 114 (by decide), h 115 (by decide), h 116 (by decide), h 117 (by decide), h 118 (by decide), h 119 (by decide), h 120 (by decide), h 121 (by decide), h 122 (by decide), h 123 (by decide)]
  unfold pf_gone pf_goneN
  rw [e, h 106 (by decide), h 80 (by decide)]
  exact ⟨rfl, rfl⟩
theorem px_reckon {d L : Nat} {b : Bool} {I : Nat → Nat → Int32} {J : Nat → Nat → Int64} {X : Nat → Int32} {Q : Int32 → Int64 → pm_H → Prop} (hI : pm_inv X b I J) (hQ : ∀ I1, pm_inv X b I1 J → (∀ k, ¬ k = 19 → I1 k = I k) → (∀ j, j < (I1 80 4).toNatClampNeg → I1 19 (16 * j + 8) = pm_no (pf_gone I1 j)) → Q (pf_goneN I1) 0 (pm_Gb L b, I1, J)) : pm_wc pm_code pm_meta (d + 6) 52 [.ref 36] (pm_Gb L b, I, J) Q := by
  have hc := hI.2.2.2.2.2.2.2.2.2.2.1
  rw [px_reckonGone (gr_inv hI) (gv_inv hI) hc]
  have hk : ∀ k, ¬ k = 19 → pm_r I 19 (pf_col I (I 19)) k = I k := fun k h => by rw [pm_r_row, if_neg h]
  have z := hQ _ (inv_col (r := I) hI) hk (fun j hj => by
    rw [hk 80 (by decide)] at hj
    rw [(gone_cg hk).1, pm_r_row, if_pos rfl]
    exact col_at hj)
  rw [(gone_cg hk).2] at z
  exact z
theorem alive_eq {a d day : Int32} : (a ≤ day ∧ (pm_no d = -3 ∨ day ≤ pm_no d)) = (a ≤ day ∧ (¬ 0 ≤ d ∨ day ≤ d)) := by
  unfold pm_no
  by_cases h : d < 0
  · have : ¬ 0 ≤ d := Int32.not_le.mpr h
    simp only [h, this, if_true, true_or, not_false_eq_true]
  · have h0 := Int32.not_lt.mp h
    have : ¬ d = -3 := fun e => by rw [e] at h0; exact absurd h0 (by decide)
    simp only [h, h0, this, if_false, not_true_eq_false, false_or]
/-- the reference's show -/
theorem pr_show {d L : Nat} {b : Bool} {I : Nat → Nat → Int32} {J : Nat → Nat → Int64} {x : Nat → Nat → Int32} {x1 x2 : Int32} {Q : Int32 → Int64 → pm_H → Prop} (hI : pm_gr x I) (hV : pm_gv I I) (i24 : pm_in x1 24 = true) (i16 : pm_in x2 16 = true) (t0 : 0 ≤ x1) (t1 : x1 < I 80 3) (p0 : 0 ≤ x2) (p1 : x2 < I 80 1)
    (hQ : ∀ I', pm_ag I I' → (if I 97 x1.toNatClampNeg = 1 ∧ (pm_fq (fun i => I 99 i.toNatClampNeg = 2 ∧ ¬ 0 ≤ pf_gone I i.toNatClampNeg ∧ I 101 i.toNatClampNeg = x2 ∧ I 100 i.toNatClampNeg = I 94 x1.toNatClampNeg) (I 80 4).toNatClampNeg 0).isSome ∧ (I 82 x2.toNatClampNeg ≤ I 80 0 ∧ (¬ 0 ≤ I 83 x2.toNatClampNeg ∨ I 80 0 ≤ I 83 x2.toNatClampNeg)) then Q 1 0 (pm_Gb L b, pm_u I' 98 x1.toNatClampNeg 1, J) else Q (-4) 0 (pm_Gb L b, I', J))) : pm_wc pm_code pm_meta (d + 7) 203 [.ref 79, .int x1, .int x2] (pm_Gb L b, I, J) Q := by
  have hn := rig_n hI.2.2.2
  have n3 : 0 ≤ I 80 3 := Int32.le_of_lt (Int32.lt_of_le_of_lt t0 t1)
  have n1 : 0 ≤ I 80 1 := Int32.le_of_lt (Int32.lt_of_le_of_lt p0 p1)
  simp only [pb_203_0, pr_isThing n3, pb_203_5, pb_203_8, pr_isPerson n1, pb_203_13, t0, t1, p0, p1, and_self, pm_b_t, pl_1_0, if_false, pb_203_18]
  refine pr_findGone hI hV (fun I' ag hg => ?_)
  have hq := hQ I' ag
  have a := fun k (h : ¬ k = 79) (h2 : ¬ k = 137) => ag.1 k h h2
  rw [pb_203_24, pr_show_loop (by rw [a 80 (by decide) (by decide)]; exact hn.1) (by rw [a 80 (by decide) (by decide)]; exact hn.2) i24]
  simp only [a 80 (by decide) (by decide), a 94 (by decide) (by decide), a 99 (by decide) (by decide), a 100 (by decide) (by decide), a 101 (by decide) (by decide)]
  rw [fq_fo (c := fun i => I 99 i.toNatClampNeg = 2 ∧ ¬ 0 ≤ pf_gone I i.toNatClampNeg ∧ I 101 i.toNatClampNeg = x2 ∧ I 100 i.toNatClampNeg = I 94 x1.toNatClampNeg) (rig_l hI.2.2.2) (fun i i0 i1 => by
    rw [hg _ (pi_tnlt i0 i1)]
    constructor
    · exact fun ⟨q1, q2, q3, q4⟩ => ⟨q1, q4, q3, q2⟩
    · exact fun ⟨q1, q4, q3, q2⟩ => ⟨q1, q2, q3, q4⟩) (I 80 4).toNatClampNeg 0 (Int32.le_refl 0) hn.1 (by simp)]
  have e97 := a 97 (by decide) (by decide)
  have e82 := a 82 (by decide) (by decide)
  have e83 := a 83 (by decide) (by decide)
  have e80 := a 80 (by decide) (by decide)
  generalize (pm_fq (fun i => I 99 i.toNatClampNeg = 2 ∧ ¬ 0 ≤ pf_gone I i.toNatClampNeg ∧ I 101 i.toNatClampNeg = x2 ∧ I 100 i.toNatClampNeg = I 94 x1.toNatClampNeg) (I 80 4).toNatClampNeg 0).isSome = s at hq ⊢
  by_cases c1 : I 97 x1.toNatClampNeg = 1
  · cases s with
    | true =>
      by_cases c3 : (I 82 x2.toNatClampNeg ≤ I 80 0 ∧ (¬ 0 ≤ I 83 x2.toNatClampNeg ∨ I 80 0 ≤ I 83 x2.toNatClampNeg))
      · simp only [c1, c3, e97, e82, e83, e80, i24, i16, pr_lives, pb_203_0, pb_203_5, pb_203_16, pb_203_8, pb_203_13, pb_203_18, pb_203_24, pb_203_102, pb_203_38, pb_203_112, pb_203_130, pb_203_42, pb_203_90, pb_203_116, pb_203_53, pb_203_94, pb_203_95, pb_203_127, pb_203_69, pb_203_133, pb_203_80, pm_b_t, pl_1_0, if_true, if_false, and_self, true_and] at hq ⊢
        exact hq
      · simp only [c1, c3, e97, e82, e83, e80, i24, i16, pr_lives, pb_203_0, pb_203_5, pb_203_16, pb_203_8, pb_203_13, pb_203_18, pb_203_24, pb_203_102, pb_203_38, pb_203_112, pb_203_130, pb_203_42, pb_203_90, pb_203_116, pb_203_53, pb_203_94, pb_203_95, pb_203_127, pb_203_69, pb_203_133, pb_203_80, pm_b_f, pl_1_0, if_true, if_false, and_self, true_and, and_false, not_false_eq_true] at hq ⊢
        exact hq
    | false =>
      simp only [c1, e97, i24, pb_203_0, pb_203_5, pb_203_16, pb_203_8, pb_203_13, pb_203_18, pb_203_24, pb_203_102, pb_203_38, pb_203_112, pb_203_130, pb_203_42, pb_203_90, pb_203_116, pb_203_53, pb_203_94, pb_203_95, pb_203_127, pb_203_69, pb_203_133, pb_203_80, pl_1_0, if_true, if_false, and_self, true_and, false_and, and_false, Bool.false_eq_true] at hq ⊢
      exact hq
  · simp only [c1, e97, i24, pb_203_0, pb_203_5, pb_203_16, pb_203_8, pb_203_13, pb_203_18, pb_203_24, pb_203_102, pb_203_38, pb_203_112, pb_203_130, pb_203_42, pb_203_90, pb_203_116, pb_203_53, pb_203_94, pb_203_95, pb_203_127, pb_203_69, pb_203_133, pb_203_80, if_false, true_and, false_and] at hq ⊢
    exact hq

