/-! THE SEARCHES of rot and hide. -/
/-- the thing of least worth that may rot; the thing of most worth that may be hidden -/
def pf_rot (h : Int32) (house kind worth g : Nat → Int32) (best i : Int32) : Int32 := if (house i.toNatClampNeg = h ∧ kind i.toNatClampNeg = 2 ∧ (g i.toNatClampNeg = 0 ∨ g i.toNatClampNeg = 1)) ∧ (best = -3 ∨ worth i.toNatClampNeg < worth best.toNatClampNeg) then i else best
def pf_hid (h : Int32) (house kind worth g : Nat → Int32) (best i : Int32) : Int32 := if (house i.toNatClampNeg = h ∧ (kind i.toNatClampNeg = 1 ∨ kind i.toNatClampNeg = 2) ∧ g i.toNatClampNeg = 0) ∧ (best = -3 ∨ worth best.toNatClampNeg < worth i.toNatClampNeg) then i else best
def pm_bst (n best : Int32) : Prop := best = -3 ∨ (0 ≤ best ∧ best < n)
theorem bst_rot {n h best i : Int32} {house kind worth g : Nat → Int32} (hb : pm_bst n best) (h0 : 0 ≤ i) (h1 : i < n) : pm_bst n (pf_rot h house kind worth g best i) := by
  unfold pf_rot; split
  · exact Or.inr ⟨h0, h1⟩
  · exact hb
theorem bst_hid {n h best i : Int32} {house kind worth g : Nat → Int32} (hb : pm_bst n best) (h0 : 0 ≤ i) (h1 : i < n) : pm_bst n (pf_hid h house kind worth g best i) := by
  unfold pf_hid; split
  · exact Or.inr ⟨h0, h1⟩
  · exact hb
def pm_vl : Option Int32 → Value
  | none => pm_unset
  | some v => .int v
theorem pm_vl_n : pm_vl none = pm_unset := rfl
theorem pm_vl_s (v : Int32) : pm_vl (some v) = .int v := rfl
theorem pl_1_0' : ((1 : Int32) = 0) = False := by decide
theorem px_rot_loop {d L : Nat} {b : Bool} {I : Nat → Nat → Int32} {J : Nat → Nat → Int64} {x y : Int32} {n nH : Int32} {house kind worth is shown : Nat → Int32} {Q : Int32 → Int64 → pm_H → Prop} (h : pg_thi (I 16) (I 17) n nH house kind worth is shown) : pm_wp pm_code pm_meta (d + 2) 36 43 ([.ref 9, .int x, .int y, .int (-3), .int 0], [], (pm_Gb L b, I, J)) Q ↔ pm_wp pm_code pm_meta (d + 2) 36 134 ([.ref 9, .int x, .int y, .int (pm_fo (pf_rot x house kind worth is) n.toNatClampNeg 0 (-3)), .int n], [], (pm_Gb L b, I, J)) Q := by
  have hn := thi_n h
  have hl : n < 2147483647 := pi_ltb (Int32.lt_of_le_of_lt hn.2 (by decide : (24 : Int32) < 100)) (by decide)
  refine pm_for_aux (A := fun s i => pm_wp pm_code pm_meta (d + 2) 36 43 ([.ref 9, .int x, .int y, .int s, .int i], [], (pm_Gb L b, I, J)) Q) (E := fun s => pm_wp pm_code pm_meta (d + 2) 36 134 ([.ref 9, .int x, .int y, .int s, .int n], [], (pm_Gb L b, I, J)) Q) (f := pf_rot x house kind worth is) (P := fun s _ => pm_bst n s) hn.1 hl (fun s i hs h0 hin => ?_) (fun s i hs h0 h1 => bst_rot hs h0 h1) n.toNatClampNeg 0 (-3) (Or.inl rfl) (Int32.le_refl 0) (by simp)
  rw [pb_36_43]
  by_cases hi : n ≤ i
  · have e := Int32.le_antisymm hin hi
    subst e
    simp only [h.1.2, hi, Int32.reduceLE, Int32.reduceLT, pi_lt0, pm_b_eq0, pm_b_eq1, ite_not, pm_k0, pm_k1, pm_b_fit, true_and, and_true, not_true_eq_false, not_false_eq_true, ite_true, ite_false, if_true, if_false]
  · have h1 := Int32.not_le.mp hi
    have hc := h.1.2
    unfold pf_rot
    by_cases k2 : kind i.toNatClampNeg = 2 <;> by_cases h2 : house i.toNatClampNeg = x
    · by_cases i0 : is i.toNatClampNeg = 0 ∨ is i.toNatClampNeg = 1
      · rcases hs with b | ⟨b0, b1⟩
        · rcases i0 with i0 | i0 <;> simp only [hc, hi, px_thi_1 h, px_thi_2 h, px_isSo h, pm_at_in, h0, h1, k2, h2, i0, b, pl_1_0, pl_0_1, pb_36_0, pb_36_9, pb_36_36, pb_36_16, pb_36_24, pb_36_37, pb_36_55, pb_36_144, pb_36_65, pb_36_72, pb_36_69, pb_36_80, pb_36_128, pb_36_83, pb_36_97, pb_36_91, pb_36_125, pb_36_103, pb_36_94, pb_36_113, pb_36_122, and_self, and_true, true_and, false_and, and_false, or_true, true_or, or_false, false_or, ite_true, ite_false, if_true, if_false, Int32.reduceLE, Int32.reduceLT, pi_lt0, pm_b_eq0, pm_b_eq1, ite_not, pm_k0, pm_k1, pm_b_fit, true_and, and_true, not_true_eq_false, not_false_eq_true, ite_true, ite_false, if_true, if_false]
        · have b3 : (s = -3) = False := by grind
          by_cases w : worth i.toNatClampNeg < worth s.toNatClampNeg
          · have w2 := Int32.not_le.mpr w
            rcases i0 with i0 | i0 <;> simp only [hc, hi, px_thi_1 h, px_thi_2 h, px_isSo h, pm_at_in, h0, h1, b0, b1, b3, w, w2, k2, h2, i0, pl_1_0, pl_0_1, pb_36_0, pb_36_9, pb_36_36, pb_36_16, pb_36_24, pb_36_37, pb_36_55, pb_36_144, pb_36_65, pb_36_72, pb_36_69, pb_36_80, pb_36_128, pb_36_83, pb_36_97, pb_36_91, pb_36_125, pb_36_103, pb_36_94, pb_36_113, pb_36_122, and_self, and_true, true_and, false_and, and_false, or_true, true_or, or_false, false_or, ite_true, ite_false, if_true, if_false, Int32.reduceLE, Int32.reduceLT, pi_lt0, pm_b_eq0, pm_b_eq1, ite_not, pm_k0, pm_k1, pm_b_fit, true_and, and_true, not_true_eq_false, not_false_eq_true, ite_true, ite_false, if_true, if_false]
          · have w2 := Int32.not_lt.mp w
            rcases i0 with i0 | i0 <;> simp only [hc, hi, px_thi_1 h, px_thi_2 h, px_isSo h, pm_at_in, h0, h1, b0, b1, b3, w, w2, k2, h2, i0, pl_1_0, pl_0_1, pb_36_0, pb_36_9, pb_36_36, pb_36_16, pb_36_24, pb_36_37, pb_36_55, pb_36_144, pb_36_65, pb_36_72, pb_36_69, pb_36_80, pb_36_128, pb_36_83, pb_36_97, pb_36_91, pb_36_125, pb_36_103, pb_36_94, pb_36_113, pb_36_122, and_self, and_true, true_and, false_and, and_false, or_true, true_or, or_false, false_or, ite_true, ite_false, if_true, if_false, Int32.reduceLE, Int32.reduceLT, pi_lt0, pm_b_eq0, pm_b_eq1, ite_not, pm_k0, pm_k1, pm_b_fit, true_and, and_true, not_true_eq_false, not_false_eq_true, ite_true, ite_false, if_true, if_false]
      · have i2 := eq_false (fun g => i0 (Or.inl g))
        have i3 := eq_false (fun g => i0 (Or.inr g))
        simp only [hc, hi, px_thi_1 h, px_isSo h, pm_at_in, h0, h1, k2, h2, i2, i3, pb_36_0, pb_36_9, pb_36_36, pb_36_16, pb_36_24, pb_36_37, pb_36_55, pb_36_144, pb_36_65, pb_36_72, pb_36_69, pb_36_80, pb_36_128, pb_36_83, pb_36_97, pb_36_91, pb_36_125, pb_36_103, pb_36_94, pb_36_113, pb_36_122, and_self, and_true, true_and, false_and, and_false, or_true, true_or, or_false, false_or, ite_true, ite_false, if_true, if_false, Int32.reduceLE, Int32.reduceLT, pi_lt0, pm_b_eq0, pm_b_eq1, ite_not, pm_k0, pm_k1, pm_b_fit, true_and, and_true, not_true_eq_false, not_false_eq_true, ite_true, ite_false, if_true, if_false]
    · simp only [hc, hi, px_thi_1 h, px_isSo h, pm_at_in, h0, h1, k2, h2, pb_36_0, pb_36_9, pb_36_36, pb_36_16, pb_36_24, pb_36_37, pb_36_55, pb_36_144, pb_36_65, pb_36_72, pb_36_69, pb_36_80, pb_36_128, pb_36_83, pb_36_97, pb_36_91, pb_36_125, pb_36_103, pb_36_94, pb_36_113, pb_36_122, and_self, and_true, true_and, false_and, and_false, or_true, true_or, or_false, false_or, ite_true, ite_false, if_true, if_false, Int32.reduceLE, Int32.reduceLT, pi_lt0, pm_b_eq0, pm_b_eq1, ite_not, pm_k0, pm_k1, pm_b_fit, true_and, and_true, not_true_eq_false, not_false_eq_true, ite_true, ite_false, if_true, if_false]
    · simp only [hc, hi, px_thi_1 h, px_isSo h, pm_at_in, h0, h1, k2, h2, pb_36_0, pb_36_9, pb_36_36, pb_36_16, pb_36_24, pb_36_37, pb_36_55, pb_36_144, pb_36_65, pb_36_72, pb_36_69, pb_36_80, pb_36_128, pb_36_83, pb_36_97, pb_36_91, pb_36_125, pb_36_103, pb_36_94, pb_36_113, pb_36_122, and_self, and_true, true_and, false_and, and_false, or_true, true_or, or_false, false_or, ite_true, ite_false, if_true, if_false, Int32.reduceLE, Int32.reduceLT, pi_lt0, pm_b_eq0, pm_b_eq1, ite_not, pm_k0, pm_k1, pm_b_fit, true_and, and_true, not_true_eq_false, not_false_eq_true, ite_true, ite_false, if_true, if_false]
    · simp only [hc, hi, px_thi_1 h, px_isSo h, pm_at_in, h0, h1, k2, h2, pb_36_0, pb_36_9, pb_36_36, pb_36_16, pb_36_24, pb_36_37, pb_36_55, pb_36_144, pb_36_65, pb_36_72, pb_36_69, pb_36_80, pb_36_128, pb_36_83, pb_36_97, pb_36_91, pb_36_125, pb_36_103, pb_36_94, pb_36_113, pb_36_122, and_self, and_true, true_and, false_and, and_false, or_true, true_or, or_false, false_or, ite_true, ite_false, if_true, if_false, Int32.reduceLE, Int32.reduceLT, pi_lt0, pm_b_eq0, pm_b_eq1, ite_not, pm_k0, pm_k1, pm_b_fit, true_and, and_true, not_true_eq_false, not_false_eq_true, ite_true, ite_false, if_true, if_false]
def pf_hs (h : Int32) (house kind worth g : Nat → Int32) (s : Int32 × Option Int32) (i : Int32) : Int32 × Option Int32 := (pf_hid h house kind worth g s.1 i, some (kind i.toNatClampNeg))
theorem pf_hs_1 (h : Int32) (house kind worth g : Nat → Int32) : ∀ (m : Nat) (i : Int32) (s : Int32 × Option Int32), (pm_fo (pf_hs h house kind worth g) m i s).1 = pm_fo (pf_hid h house kind worth g) m i s.1
  | 0, i, s => rfl
  | m + 1, i, s => by unfold pm_fo; rw [pf_hs_1]; rfl
theorem px_hid_loop {d L : Nat} {b : Bool} {I : Nat → Nat → Int32} {J : Nat → Nat → Int64} {x : Int32} {n nH : Int32} {house kind worth is shown : Nat → Int32} {Q : Int32 → Int64 → pm_H → Prop} (h : pg_thi (I 16) (I 17) n nH house kind worth is shown) : pm_wp pm_code pm_meta (d + 2) 37 5 ([.ref 9, .int x, .int (-3), .int 0, pm_unset], [], (pm_Gb L b, I, J)) Q ↔ ∃ v, pm_wp pm_code pm_meta (d + 2) 37 87 ([.ref 9, .int x, .int (pm_fo (pf_hid x house kind worth is) n.toNatClampNeg 0 (-3)), .int n, pm_vl v], [], (pm_Gb L b, I, J)) Q := by
  have hn := thi_n h
  have hl : n < 2147483647 := pi_ltb (Int32.lt_of_le_of_lt hn.2 (by decide : (24 : Int32) < 100)) (by decide)
  have key := pm_for_aux (α := Int32 × Option Int32) (A := fun s i => pm_wp pm_code pm_meta (d + 2) 37 5 ([.ref 9, .int x, .int s.1, .int i, pm_vl s.2], [], (pm_Gb L b, I, J)) Q) (E := fun s => pm_wp pm_code pm_meta (d + 2) 37 87 ([.ref 9, .int x, .int s.1, .int n, pm_vl s.2], [], (pm_Gb L b, I, J)) Q) (f := pf_hs x house kind worth is) (P := fun s _ => pm_bst n s.1) hn.1 hl (fun s i hs h0 hin => ?_) (fun s i hs h0 h1 => bst_hid hs h0 h1) n.toNatClampNeg 0 (-3, none) (Or.inl rfl) (Int32.le_refl 0) (by simp)
  · have e := pf_hs_1 x house kind worth is n.toNatClampNeg 0 (-3, none)
    rw [e] at key
    have e2 : ∀ u v, pm_wp pm_code pm_meta (d + 2) 37 87 ([.ref 9, .int x, .int (pm_fo (pf_hid x house kind worth is) n.toNatClampNeg 0 (-3)), .int n, pm_vl u], [], (pm_Gb L b, I, J)) Q → pm_wp pm_code pm_meta (d + 2) 37 87 ([.ref 9, .int x, .int (pm_fo (pf_hid x house kind worth is) n.toNatClampNeg 0 (-3)), .int n, pm_vl v], [], (pm_Gb L b, I, J)) Q := by
      intro u v hu
      cases u <;> cases v <;> simp only [pm_vl_n, pm_vl_s] at hu ⊢ <;> (first | rw [pb_37_87] at hu | rw [pb_37_87b] at hu) <;> (first | rw [pb_37_87] | rw [pb_37_87b]) <;> simp only [pb_37_97, pb_37_97b, pt_set_16_3 h.1.1] at hu ⊢ <;> exact hu
    exact key.trans ⟨fun g => ⟨_, g⟩, fun ⟨v, g⟩ => e2 v _ g⟩
  · obtain ⟨s, v⟩ := s
    have hc := h.1.2
    by_cases hi : n ≤ i
    · have e := Int32.le_antisymm hin hi
      subst e
      cases v <;> (simp only [pm_vl_n, pm_vl_s]; first | rw [pb_37_5] | rw [pb_37_5b]) <;> simp only [hc, hi, Int32.reduceLE, Int32.reduceLT, pi_lt0, pm_b_eq0, pm_b_eq1, ite_not, pm_k0, pm_k1, pm_b_fit, true_and, and_true, not_true_eq_false, not_false_eq_true, ite_true, ite_false, if_true, if_false]
    have hs : pm_bst n s := hs
    have h1 := Int32.not_le.mp hi
    by_cases k1 : kind i.toNatClampNeg = 1 ∨ kind i.toNatClampNeg = 2
    · by_cases h2 : house i.toNatClampNeg = x
      · by_cases i0 : is i.toNatClampNeg = 0
        · rcases hs with b | ⟨b0, b1⟩
          · rcases k1 with k1 | k1 <;> cases v <;> (simp only [pm_vl_n, pm_vl_s, pf_hs, pf_hid, k1, h2, i0, b, pl_2_1, pl_1_0, and_self, and_true, true_and, false_and, and_false, or_true, true_or, or_false, false_or, ite_true, ite_false, if_true, if_false, not_true_eq_false, not_false_eq_true]; first | rw [pb_37_5] | rw [pb_37_5b]) <;> simp only [hc, hi, px_thi_1 h, px_thi_2 h, px_isSo h, pm_at_in, h0, h1, k1, h2, i0, b, pl_2_1, pl_1_0, pb_37_0, pb_37_16, pb_37_97, pb_37_25, pb_37_34, pb_37_81, pb_37_37, pb_37_52, pb_37_43, pb_37_16b, pb_37_79, pb_37_58, pb_37_49, pb_37_97b, pb_37_25b, pb_37_67, pb_37_76, and_self, and_true, true_and, false_and, and_false, or_true, true_or, or_false, false_or, ite_true, ite_false, if_true, if_false, Int32.reduceLE, Int32.reduceLT, pi_lt0, pm_b_eq0, pm_b_eq1, ite_not, pm_k0, pm_k1, pm_b_fit, true_and, and_true, not_true_eq_false, not_false_eq_true, ite_true, ite_false, if_true, if_false]
          · have b3 : (s = -3) = False := by grind
            by_cases w : worth s.toNatClampNeg < worth i.toNatClampNeg
            · have w2 := Int32.not_le.mpr w
              rcases k1 with k1 | k1 <;> cases v <;> (simp only [pm_vl_n, pm_vl_s, pf_hs, pf_hid, b0, b1, b3, w, w2, k1, h2, i0, pl_2_1, pl_1_0, and_self, and_true, true_and, false_and, and_false, or_true, true_or, or_false, false_or, ite_true, ite_false, if_true, if_false, not_true_eq_false, not_false_eq_true]; first | rw [pb_37_5] | rw [pb_37_5b]) <;> simp only [hc, hi, px_thi_1 h, px_thi_2 h, px_isSo h, pm_at_in, h0, h1, b0, b1, b3, w, w2, k1, h2, i0, pl_2_1, pl_1_0, pb_37_0, pb_37_16, pb_37_97, pb_37_25, pb_37_34, pb_37_81, pb_37_37, pb_37_52, pb_37_43, pb_37_16b, pb_37_79, pb_37_58, pb_37_49, pb_37_97b, pb_37_25b, pb_37_67, pb_37_76, and_self, and_true, true_and, false_and, and_false, or_true, true_or, or_false, false_or, ite_true, ite_false, if_true, if_false, Int32.reduceLE, Int32.reduceLT, pi_lt0, pm_b_eq0, pm_b_eq1, ite_not, pm_k0, pm_k1, pm_b_fit, true_and, and_true, not_true_eq_false, not_false_eq_true, ite_true, ite_false, if_true, if_false]
            · have w2 := Int32.not_lt.mp w
              rcases k1 with k1 | k1 <;> cases v <;> (simp only [pm_vl_n, pm_vl_s, pf_hs, pf_hid, b0, b1, b3, w, w2, k1, h2, i0, pl_2_1, pl_1_0, and_self, and_true, true_and, false_and, and_false, or_true, true_or, or_false, false_or, ite_true, ite_false, if_true, if_false, not_true_eq_false, not_false_eq_true]; first | rw [pb_37_5] | rw [pb_37_5b]) <;> simp only [hc, hi, px_thi_1 h, px_thi_2 h, px_isSo h, pm_at_in, h0, h1, b0, b1, b3, w, w2, k1, h2, i0, pl_2_1, pl_1_0, pb_37_0, pb_37_16, pb_37_97, pb_37_25, pb_37_34, pb_37_81, pb_37_37, pb_37_52, pb_37_43, pb_37_16b, pb_37_79, pb_37_58, pb_37_49, pb_37_97b, pb_37_25b, pb_37_67, pb_37_76, and_self, and_true, true_and, false_and, and_false, or_true, true_or, or_false, false_or, ite_true, ite_false, if_true, if_false, Int32.reduceLE, Int32.reduceLT, pi_lt0, pm_b_eq0, pm_b_eq1, ite_not, pm_k0, pm_k1, pm_b_fit, true_and, and_true, not_true_eq_false, not_false_eq_true, ite_true, ite_false, if_true, if_false]
        · have i0 := eq_false i0
          rcases k1 with k1 | k1 <;> cases v <;> (simp only [pm_vl_n, pm_vl_s, pf_hs, pf_hid, k1, h2, i0, pl_2_1, pl_1_0, and_self, and_true, true_and, false_and, and_false, or_true, true_or, or_false, false_or, ite_true, ite_false, if_true, if_false, not_true_eq_false, not_false_eq_true]; first | rw [pb_37_5] | rw [pb_37_5b]) <;> simp only [hc, hi, px_thi_1 h, px_thi_2 h, px_isSo h, pm_at_in, h0, h1, k1, h2, i0, pl_2_1, pl_1_0, pb_37_0, pb_37_16, pb_37_97, pb_37_25, pb_37_34, pb_37_81, pb_37_37, pb_37_52, pb_37_43, pb_37_16b, pb_37_79, pb_37_58, pb_37_49, pb_37_97b, pb_37_25b, pb_37_67, pb_37_76, and_self, and_true, true_and, false_and, and_false, or_true, true_or, or_false, false_or, ite_true, ite_false, if_true, if_false, Int32.reduceLE, Int32.reduceLT, pi_lt0, pm_b_eq0, pm_b_eq1, ite_not, pm_k0, pm_k1, pm_b_fit, true_and, and_true, not_true_eq_false, not_false_eq_true, ite_true, ite_false, if_true, if_false]
      · have h2 := eq_false h2
        rcases k1 with k1 | k1 <;> cases v <;> (simp only [pm_vl_n, pm_vl_s, pf_hs, pf_hid, k1, h2, pl_2_1, pl_1_0, and_self, and_true, true_and, false_and, and_false, or_true, true_or, or_false, false_or, ite_true, ite_false, if_true, if_false, not_true_eq_false, not_false_eq_true]; first | rw [pb_37_5] | rw [pb_37_5b]) <;> simp only [hc, hi, px_thi_1 h, px_thi_2 h, px_isSo h, pm_at_in, h0, h1, k1, h2, pl_2_1, pl_1_0, pb_37_0, pb_37_16, pb_37_97, pb_37_25, pb_37_34, pb_37_81, pb_37_37, pb_37_52, pb_37_43, pb_37_16b, pb_37_79, pb_37_58, pb_37_49, pb_37_97b, pb_37_25b, pb_37_67, pb_37_76, and_self, and_true, true_and, false_and, and_false, or_true, true_or, or_false, false_or, ite_true, ite_false, if_true, if_false, Int32.reduceLE, Int32.reduceLT, pi_lt0, pm_b_eq0, pm_b_eq1, ite_not, pm_k0, pm_k1, pm_b_fit, true_and, and_true, not_true_eq_false, not_false_eq_true, ite_true, ite_false, if_true, if_false]
    · have k1a := eq_false (fun g => k1 (Or.inl g))
      have k1b := eq_false (fun g => k1 (Or.inr g))
      by_cases h2 : house i.toNatClampNeg = x <;> by_cases i0 : is i.toNatClampNeg = 0 <;> cases v <;> (simp only [pm_vl_n, pm_vl_s, pf_hs, pf_hid, k1a, k1b, h2, i0, pl_1_0, and_self, and_true, true_and, false_and, and_false, or_true, true_or, or_false, false_or, ite_true, ite_false, if_true, if_false, not_true_eq_false, not_false_eq_true]; first | rw [pb_37_5] | rw [pb_37_5b]) <;> simp only [hc, hi, px_thi_1 h, px_thi_2 h, px_isSo h, pm_at_in, h0, h1, k1a, k1b, h2, i0, pl_1_0, pb_37_0, pb_37_16, pb_37_97, pb_37_25, pb_37_34, pb_37_81, pb_37_37, pb_37_52, pb_37_43, pb_37_16b, pb_37_79, pb_37_58, pb_37_49, pb_37_97b, pb_37_25b, pb_37_67, pb_37_76, and_self, and_true, true_and, false_and, and_false, or_true, true_or, or_false, false_or, ite_true, ite_false, if_true, if_false, Int32.reduceLE, Int32.reduceLT, pi_lt0, pm_b_eq0, pm_b_eq1, ite_not, pm_k0, pm_k1, pm_b_fit, true_and, and_true, not_true_eq_false, not_false_eq_true, ite_true, ite_false, if_true, if_false]

