/-! THE CALL deal: the bodies of the reference. -/
/-- the reference's trace -/
def pm_tr (I0 : Nat → Nat → Int32) (K A H N : Int32) (I : Nat → Nat → Int32) (T : List Int32) (z : Int32) : Prop := (∀ k, ¬ k = 79 → ¬ k = 157 → I k = I0 k) ∧ (∀ j, (j < 101 ∨ 106 < j) → I 79 j = I0 79 j) ∧ I 79 101 = Int32.ofNat T.length ∧ I 79 102 = K ∧ I 79 103 = A ∧ I 79 104 = H ∧ I 79 105 = N ∧ I 79 106 = z ∧ pf_hl (I 157) T
section
variable {d L : Nat} {b : Bool} {J : Nat → Nat → Int64} {I0 : Nat → Nat → Int32} {K N A H : Int32}
theorem pr_ran {num z : Int32} {T : List Int32} {I : Nat → Nat → Int32} {Q : Int32 → Int64 → pm_H → Prop} (hT : pm_tr I0 K A H N I T z) (hl : T.length ≤ 28) (hQ : ∀ I', pm_tr I0 K A H N I' (num :: T) z → Q 0 0 (pm_Gb L b, I', J)) : pm_wc pm_code pm_meta d 293 [.ref 79, .int num] (pm_Gb L b, I, J) Q := by
  obtain ⟨h1, h2, h3, h4, h5, h6, h7, h8, h9⟩ := hT
  have p := pi_on (j := T.length) (by omega)
  have n30 : ¬ (30 : Int32) ≤ Int32.ofNat T.length := by rw [pi_le, p.2.2, show (30 : Int32).toInt = 30 from rfl]; omega
  rw [pb_293_0, h3, if_neg n30, pb_293_9, h3, p.2.1, pb_293_19]
  refine ⟨pi_in p.1 (by rw [p.2.2]; omega), ?_⟩
  have e1 : pm_u I 157 T.length num 79 101 = Int32.ofNat T.length := by rw [pm_u_row, if_neg (by decide)]; exact h3
  rw [e1, pi_onadd (by omega)]
  have o : ∀ j, ¬ j = 101 → pm_u (pm_u I 157 T.length num) 79 101 (Int32.ofNat (T.length + 1)) 79 j = I 79 j := fun j hj => by
    rw [pm_u_row, if_pos rfl, pm_w_ne hj, pm_u_row, if_neg (by decide)]
  refine hQ _ ⟨fun k a c => by rw [pm_u_row, if_neg a, pm_u_row, if_neg c]; exact h1 k a c, fun j hj => by rw [o j (by omega)]; exact h2 j hj, by rw [pm_u_at]; rfl, by rw [o _ (by decide)]; exact h4, by rw [o _ (by decide)]; exact h5, by rw [o _ (by decide)]; exact h6, by rw [o _ (by decide)]; exact h7, by rw [o _ (by decide)]; exact h8, ?_, ?_⟩
  · rw [pm_u_row, if_neg (by decide), pm_u_row, if_pos rfl, pm_w_at, if_pos rfl]
  · refine hl_cg T (fun j hj => ?_) h9
    rw [pm_u_row, if_neg (by decide), pm_u_row, if_pos rfl, pm_w_ne (by omega)]
theorem pr_plainBears {x z : Int32} {T : List Int32} {I : Nat → Nat → Int32} {Q : Int32 → Int64 → pm_H → Prop} (hT : pm_tr I0 K A H N I T z) (hl : T.length ≤ 28) (hQ : ∀ I', pm_tr I0 K A H N I' (10 :: T) z → Q (x + A) 0 (pm_Gb L b, I', J)) : pm_wc pm_code pm_meta (d + 1) 295 [.ref 79, .int x] (pm_Gb L b, I, J) Q := by
  rw [pb_295_0]
  refine pr_ran hT (by omega) (fun I1 h1 => ?_)
  rw [pb_295_6, h1.2.2.2.2.1]
  exact hQ I1 h1
theorem pr_bears {x z : Int32} {T : List Int32} {I : Nat → Nat → Int32} {Q : Int32 → Int64 → pm_H → Prop} (hT : pm_tr I0 K A H N I T z) (hl : T.length ≤ 27) (hQ : ∀ I', pm_tr I0 K A H N I' (pf_lB K T) z → Q (pf_vB K A N x) 0 (pm_Gb L b, I', J)) : pm_wc pm_code pm_meta (d + 2) 294 [.ref 79, .int x] (pm_Gb L b, I, J) Q := by
  unfold pf_lB pf_vB at hQ
  rw [pb_294_0, hT.2.2.2.1]
  by_cases c2 : K = 2
  · rw [if_pos c2, if_pos c2] at hQ
    rw [if_pos c2, pb_294_8]
    refine pr_ran hT (by omega) (fun I1 h1 => ?_)
    rw [pb_294_14]
    refine pr_plainBears (d := d) h1 (by simp only [List.length_cons]; omega) (fun I2 h2 => ?_)
    rw [pb_294_19]
    exact hQ I2 h2
  · rw [if_neg c2, if_neg c2] at hQ
    rw [if_neg c2, pb_294_22, hT.2.2.2.1]
    by_cases c4 : K = 4
    · rw [if_pos c4, if_pos c4] at hQ
      rw [if_pos c4, pb_294_30]
      refine pr_ran hT (by omega) (fun I1 h1 => ?_)
      rw [pb_294_36]
      refine pr_plainBears (d := d) h1 (by simp only [List.length_cons]; omega) (fun I2 h2 => ?_)
      rw [pb_294_41]
      exact hQ I2 h2
    · rw [if_neg c4, if_neg c4] at hQ
      rw [if_neg c4, pb_294_45, hT.2.2.2.1]
      by_cases c6 : K = 6
      · rw [if_pos c6, if_pos c6] at hQ
        rw [if_pos c6, pb_294_54]
        refine pr_ran hT (by omega) (fun I1 h1 => ?_)
        rw [pb_294_60]
        refine pr_plainBears (d := d) h1 (by simp only [List.length_cons]; omega) (fun I2 h2 => ?_)
        rw [pb_294_65, h2.2.2.2.2.2.2.1]
        exact hQ I2 h2
      · rw [if_neg c6, if_neg c6] at hQ
        rw [if_neg c6, pb_294_71]
        refine pr_plainBears (d := d) hT (by omega) (fun I2 h2 => ?_)
        rw [pb_294_76]
        exact hQ I2 h2
theorem pr_plainFollows {x z : Int32} {T : List Int32} {I : Nat → Nat → Int32} {Q : Int32 → Int64 → pm_H → Prop} (hT : pm_tr I0 K A H N I T z) (hl : T.length ≤ 26) (hQ : ∀ I', pm_tr I0 K A H N I' (pf_lB K (11 :: T)) z → Q (pf_v1 K A N x) 0 (pm_Gb L b, I', J)) : pm_wc pm_code pm_meta (d + 3) 296 [.ref 79, .int x] (pm_Gb L b, I, J) Q := by
  rw [pb_296_0]
  refine pr_ran hT (by omega) (fun I1 h1 => ?_)
  rw [pb_296_6]
  refine pr_bears (d := d) h1 (by simp only [List.length_cons]; omega) (fun I2 h2 => ?_)
  rw [pb_296_11]
  exact hQ I2 h2
theorem pr_followed {x z : Int32} {T : List Int32} {I : Nat → Nat → Int32} {Q : Int32 → Int64 → pm_H → Prop} (hT : pm_tr I0 K A H N I T z) (hl : T.length ≤ 25) (hQ : ∀ I', pm_tr I0 K A H N I' (pf_lF K T) z → Q (pf_vF K A N x) 0 (pm_Gb L b, I', J)) : pm_wc pm_code pm_meta (d + 4) 297 [.ref 79, .int x] (pm_Gb L b, I, J) Q := by
  unfold pf_lF pf_vF at hQ
  rw [pb_297_0, hT.2.2.2.1]
  have at16 : (K = 1 ∨ K = 2) → pm_wp pm_code pm_meta (d + 4) 297 16 ([.ref 79, .int x], [], (pm_Gb L b, I, J)) Q := fun h => by
    rw [if_pos h, if_pos h] at hQ
    rw [pb_297_16]
    refine pr_ran hT (by omega) (fun I1 h1 => ?_)
    rw [pb_297_22]
    refine pr_plainFollows (d := d) h1 (by simp only [List.length_cons]; omega) (fun I2 h2 => ?_)
    rw [pb_297_27, h2.2.2.2.2.2.2.1]
    exact hQ I2 h2
  by_cases c1 : K = 1
  · rw [if_pos c1]; exact at16 (Or.inl c1)
  · rw [if_neg c1, pb_297_8, hT.2.2.2.1]
    by_cases c2 : K = 2
    · rw [if_pos c2]; exact at16 (Or.inr c2)
    · have c3 : ¬ (K = 1 ∨ K = 2) := fun h => h.elim c1 c2
      rw [if_neg c3, if_neg c3] at hQ
      rw [if_neg c2, pb_297_33, hT.2.2.2.1]
      by_cases c7 : K = 7
      · rw [if_pos c7, if_pos c7] at hQ
        rw [if_pos c7, pb_297_42]
        refine pr_ran hT (by omega) (fun I1 h1 => ?_)
        rw [pb_297_48]
        refine pr_plainFollows (d := d) h1 (by simp only [List.length_cons]; omega) (fun I2 h2 => ?_)
        rw [pb_297_54]
        exact hQ I2 h2
      · rw [if_neg c7, if_neg c7] at hQ
        rw [if_neg c7, pb_297_56]
        refine pr_plainFollows (d := d) hT (by omega) (fun I2 h2 => ?_)
        rw [pb_297_61]
        exact hQ I2 h2
theorem pr_plainRanks {x z : Int32} {T : List Int32} {I : Nat → Nat → Int32} {Q : Int32 → Int64 → pm_H → Prop} (hT : pm_tr I0 K A H N I T z) (hl : T.length ≤ 24) (hQ : ∀ I', pm_tr I0 K A H N I' (pf_l2 K T) z → Q (pf_v2 K A H N x) 0 (pm_Gb L b, I', J)) : pm_wc pm_code pm_meta (d + 5) 298 [.ref 79, .int x] (pm_Gb L b, I, J) Q := by
  rw [pb_298_0]
  refine pr_ran hT (by omega) (fun I1 h1 => ?_)
  rw [pb_298_6]
  refine pr_followed (d := d) h1 (by simp only [List.length_cons]; omega) (fun I2 h2 => ?_)
  rw [pb_298_11, h2.2.2.2.2.2.1]
  exact hQ I2 h2
theorem pr_debtRanks {x z : Int32} {T : List Int32} {I : Nat → Nat → Int32} {Q : Int32 → Int64 → pm_H → Prop} (hT : pm_tr I0 K A H N I T z) (hl : T.length ≤ 18) (hQ : ∀ I', pm_tr I0 K A H N I' (pf_l6 K T) z → Q (pf_v6 K A H N x) 0 (pm_Gb L b, I', J)) : pm_wc pm_code pm_meta (d + 6) 299 [.ref 79, .int x] (pm_Gb L b, I, J) Q := by
  rw [pb_299_0]
  refine pr_ran hT (by omega) (fun I1 h1 => ?_)
  rw [pb_299_6]
  refine pr_plainRanks (d := d) h1 (by simp only [List.length_cons]; omega) (fun I2 h2 => ?_)
  rw [pb_299_11]
  refine pr_followed (d := d + 1) h2 (by have := l2_len K (60 :: T); simp only [List.length_cons] at this; omega) (fun I3 h3 => ?_)
  rw [pb_299_18]
  exact hQ I3 h3
theorem pr_ranked {x z : Int32} {T : List Int32} {I : Nat → Nat → Int32} {Q : Int32 → Int64 → pm_H → Prop} (hT : pm_tr I0 K A H N I T z) (hl : T.length ≤ 15) (hQ : ∀ I', pm_tr I0 K A H N I' (pf_lR K T) z → Q (pf_vR K A H N x) 0 (pm_Gb L b, I', J)) : pm_wc pm_code pm_meta (d + 7) 300 [.ref 79, .int x] (pm_Gb L b, I, J) Q := by
  unfold pf_lR pf_vR at hQ
  rw [pb_300_0, hT.2.2.2.1]
  by_cases c3 : K = 3
  · rw [if_pos c3, if_pos c3] at hQ
    rw [if_pos c3, pb_300_8]
    refine pr_ran hT (by omega) (fun I1 h1 => ?_)
    rw [pb_300_14]
    refine pr_plainRanks (d := d + 1) h1 (by simp only [List.length_cons]; omega) (fun I2 h2 => ?_)
    rw [pb_300_19]
    refine pr_bears (d := d + 4) h2 (by have := l2_len K (40 :: T); simp only [List.length_cons] at this; omega) (fun I3 h3 => ?_)
    rw [pb_300_26]
    exact hQ I3 h3
  · rw [if_neg c3, if_neg c3] at hQ
    rw [if_neg c3, pb_300_28, hT.2.2.2.1]
    by_cases c6 : K = 6
    · rw [if_pos c6, if_pos c6] at hQ
      rw [if_pos c6, pb_300_37]
      refine pr_ran hT (by omega) (fun I1 h1 => ?_)
      rw [pb_300_43]
      refine pr_debtRanks (d := d) h1 (by simp only [List.length_cons]; omega) (fun I2 h2 => ?_)
      rw [pb_300_48]
      refine pr_bears (d := d + 4) h2 (by have := l6_len K (71 :: T); simp only [List.length_cons] at this; omega) (fun I3 h3 => ?_)
      rw [pb_300_55]
      exact hQ I3 h3
    · rw [if_neg c6, if_neg c6] at hQ
      rw [if_neg c6, pb_300_57, hT.2.2.2.1]
      by_cases c5 : K = 5
      · rw [if_pos c5, if_pos c5] at hQ
        rw [if_pos c5, pb_300_65]
        refine pr_debtRanks (d := d) hT (by omega) (fun I2 h2 => ?_)
        rw [pb_300_70, pb_300_78]
        exact hQ I2 h2
      · rw [if_neg c5, if_neg c5] at hQ
        rw [if_neg c5, pb_300_73]
        refine pr_plainRanks (d := d + 1) hT (by omega) (fun I2 h2 => ?_)
        rw [pb_300_78]
        exact hQ I2 h2
theorem pr_plainParts {x z : Int32} {T : List Int32} {I : Nat → Nat → Int32} {Q : Int32 → Int64 → pm_H → Prop} (hT : pm_tr I0 K A H N I T z) (hl : T.length ≤ 27) (hQ : ∀ I', pm_tr I0 K A H N I' (13 :: T) (pf_z3 A) → Q (pf_v3 A x) 0 (pm_Gb L b, I', J)) : pm_wc pm_code pm_meta (d + 1) 301 [.ref 79, .int x] (pm_Gb L b, I, J) Q := by
  have ten : (A - 10 = 0) ↔ (A = 10) := by constructor <;> intro h <;> grind
  rw [pb_301_0]
  refine pr_ran hT (by omega) (fun I1 h1 => ?_)
  rw [pb_301_6, h1.2.2.2.2.1]
  have nw : ∀ v, v = pf_z3 A → pm_tr I0 K A H N (pm_u I1 79 106 v) (13 :: T) (pf_z3 A) := fun v hv => by
    obtain ⟨g1, g2, g3, g4, g5, g6, g7, g8, g9⟩ := h1
    have o : ∀ j, ¬ j = 106 → pm_u I1 79 106 v 79 j = I1 79 j := fun j hj => by rw [pm_u_row, if_pos rfl, pm_w_ne hj]
    exact ⟨fun k a c => by rw [pm_u_row, if_neg a]; exact g1 k a c, fun j hj => by rw [o j (by omega)]; exact g2 j hj, by rw [o _ (by decide)]; exact g3, by rw [o _ (by decide)]; exact g4, by rw [o _ (by decide)]; exact g5, by rw [o _ (by decide)]; exact g6, by rw [o _ (by decide)]; exact g7, by rw [pm_u_at]; exact hv, by rw [pm_u_row, if_neg (by decide)]; exact g9⟩
  by_cases c : A = 10
  · have c' := ten.mpr c
    rw [if_pos c, pb_301_16, pb_301_21, pm_u_at, if_neg (by decide), pb_301_31, pb_301_44]
    have e : pf_v3 A x = 0 := if_pos c'
    rw [e] at hQ
    exact ⟨rfl, hQ _ (nw 1 (by unfold pf_z3; rw [if_pos c']))⟩
  · have c' : ¬ A - 10 = 0 := fun h => c (ten.mp h)
    have u103 : pm_u I1 79 106 0 79 103 = A := by rw [pm_u_row, if_pos rfl, pm_w_ne (by decide)]; exact h1.2.2.2.2.1
    rw [if_neg c, pb_301_20, pb_301_21, pm_u_at, if_pos rfl, pb_301_35, u103, pb_301_44]
    have e : pf_v3 A x = x / (A - 10) := if_neg c'
    rw [e] at hQ
    exact ⟨rfl, c', hQ _ (nw 0 (by unfold pf_z3; rw [if_neg c']))⟩
theorem pr_parted {x z : Int32} {T : List Int32} {I : Nat → Nat → Int32} {Q : Int32 → Int64 → pm_H → Prop} (hT : pm_tr I0 K A H N I T z) (hl : T.length ≤ 26) (hQ : ∀ I', pm_tr I0 K A H N I' (pf_lP K T) (pf_z3 A) → Q (pf_vP K A H x) 0 (pm_Gb L b, I', J)) : pm_wc pm_code pm_meta (d + 2) 302 [.ref 79, .int x] (pm_Gb L b, I, J) Q := by
  unfold pf_lP pf_vP at hQ
  rw [pb_302_0, hT.2.2.2.1]
  by_cases c2 : K = 2
  · rw [if_pos c2, if_pos c2] at hQ
    rw [if_pos c2, pb_302_8]
    refine pr_ran hT (by omega) (fun I1 h1 => ?_)
    rw [pb_302_14]
    refine pr_plainParts (d := d) h1 (by simp only [List.length_cons]; omega) (fun I2 h2 => ?_)
    rw [pb_302_21, h2.2.2.2.2.2.1]
    exact hQ I2 h2
  · rw [if_neg c2, if_neg c2] at hQ
    rw [if_neg c2, pb_302_27, hT.2.2.2.1]
    have at44 : (K = 5 ∨ K = 6) → pm_wp pm_code pm_meta (d + 2) 302 44 ([.ref 79, .int x], [], (pm_Gb L b, I, J)) Q := fun h => by
      rw [if_pos h, if_pos h] at hQ
      rw [pb_302_44]
      refine pr_ran hT (by omega) (fun I1 h1 => ?_)
      rw [pb_302_50]
      refine pr_plainParts (d := d) h1 (by simp only [List.length_cons]; omega) (fun I2 h2 => ?_)
      rw [pb_302_56]
      exact hQ I2 h2
    by_cases c5 : K = 5
    · rw [if_pos c5]; exact at44 (Or.inl c5)
    · rw [if_neg c5, pb_302_35, hT.2.2.2.1]
      by_cases c6 : K = 6
      · rw [if_pos c6]; exact at44 (Or.inr c6)
      · have c7 : ¬ (K = 5 ∨ K = 6) := fun h => h.elim c5 c6
        rw [if_neg c7, if_neg c7] at hQ
        rw [if_neg c6, pb_302_58]
        refine pr_plainParts (d := d) hT (by omega) (fun I2 h2 => ?_)
        rw [pb_302_63]
        exact hQ I2 h2
end

