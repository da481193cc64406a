/-! Which kinds a rule is of. -/
def pf_con (ks kd : Int32) : Int32 := pm_fo (fun (s k : Int32) => if s = 0 then (if (ks >>> (k &&& 31)) &&& 1 = 1 ∧ (kd = k ∨ k = 0 ∨ (k = 1 ∧ kd = 2) ∨ (k = 5 ∧ kd = 6)) then 1 else 0) else 1) 8 0 0
theorem con_tab : ∀ n, n < 256 → ∀ k, k < 8 → pf_con (Int32.ofNat n) (Int32.ofNat k) = (if Int32.ofNat n &&& pm_a2.getD k 0 = 0 then 0 else 1) := by decide +kernel
theorem pi_ofNat {x : Int32} (h0 : 0 ≤ x) : Int32.ofNat x.toNatClampNeg = x := by
  have g := pi_tni h0
  have := pi_hi x
  rw [pi_eq, Int32.toInt_ofNat_of_lt (by omega)]
  exact g
theorem con_eq {ks kd : Int32} (h0 : 0 ≤ ks) (h1 : ks ≤ 255) (h2 : 0 ≤ kd) (h3 : kd ≤ 7) : pf_con ks kd = (if ks &&& pm_a2.getD kd.toNatClampNeg 0 = 0 then 0 else 1) := by
  have g1 := pi_tni h0
  have g2 := pi_tni h2
  rw [pi_le] at h1 h3
  have e1 : (255 : Int32).toInt = 255 := rfl
  have e2 : (7 : Int32).toInt = 7 := rfl
  have := con_tab ks.toNatClampNeg (by omega) kd.toNatClampNeg (by omega)
  rw [pi_ofNat h0, pi_ofNat h2] at this
  exact this
theorem con_01 (ks kd : Int32) : pf_con ks kd = 0 ∨ pf_con ks kd = 1 := by
  have : ∀ (m : Nat) (i s : Int32), (s = 0 ∨ s = 1) → (pm_fo (fun (s k : Int32) => if s = 0 then (if (ks >>> (k &&& 31)) &&& 1 = 1 ∧ (kd = k ∨ k = 0 ∨ (k = 1 ∧ kd = 2) ∨ (k = 5 ∧ kd = 6)) then 1 else 0) else 1) m i s = 0 ∨ pm_fo (fun (s k : Int32) => if s = 0 then (if (ks >>> (k &&& 31)) &&& 1 = 1 ∧ (kd = k ∨ k = 0 ∨ (k = 1 ∧ kd = 2) ∨ (k = 5 ∧ kd = 6)) then 1 else 0) else 1) m i s = 1) := by
    intro m
    induction m with
    | zero => intro i s h; exact h
    | succ m ih =>
      intro i s h
      unfold pm_fo
      apply ih
      split
      · split
        · exact Or.inr rfl
        · exact Or.inl rfl
      · exact Or.inr rfl
  exact this 8 0 0 (Or.inl rfl)
theorem pr_concerns {d L : Nat} {b : Bool} {I : Nat → Nat → Int32} {J : Nat → Nat → Int64} {j kd : Int32} {Q : Int32 → Int64 → pm_H → Prop} (i1 : pm_in j 130 = true) : pm_wc pm_code pm_meta (d + 1) 237 [.ref 79, .int j, .int kd] (pm_Gb L b, I, J) Q ↔ Q (pf_con (I 118 j.toNatClampNeg) kd) 0 (pm_Gb L b, I, J) := by
  have key := pm_for_aux (A := fun s k => pm_wp pm_code pm_meta (d + 1) 237 5 ([.ref 79, .int j, .int kd, .int s, .int k], [], (pm_Gb L b, I, J)) Q) (E := fun s => Q s 0 (pm_Gb L b, I, J)) (f := (fun (s k : Int32) => if s = 0 then (if (I 118 j.toNatClampNeg >>> (k &&& 31)) &&& 1 = 1 ∧ (kd = k ∨ k = 0 ∨ (k = 1 ∧ kd = 2) ∨ (k = 5 ∧ kd = 6)) then 1 else 0) else 1)) (P := fun s _ => s = 0 ∨ s = 1) (n := 8) (by decide) (by decide) (fun s k hs h0 _ => ?_) (fun s k hs h0 h1 => ?_) 8 0 0 (Or.inl rfl) (Int32.le_refl 0) (by decide)
  · rw [pb_237_0]
    exact key
  · rw [pb_237_5]
    by_cases hi : 8 ≤ k
    · rcases hs with rfl | rfl <;> simp only [hi, if_true, pb_237_53, pm_k0, pm_k1, true_and]
    · rcases hs with hs | hs
      · have hs := eq_true hs
        by_cases c1 : (I 118 j.toNatClampNeg >>> (k &&& 31)) &&& 1 = 1
        · have c1 := eq_true c1
          by_cases c2 : kd = k ∨ k = 0 ∨ (k = 1 ∧ kd = 2) ∨ (k = 5 ∧ kd = 6)
          · have c2 := eq_true c2
            simp only [hi, hs, c1, c2, i1, pb_237_12, pb_237_16, pb_237_31, pr_isOfK, pb_237_38, pb_237_41, pb_237_45, pb_237_46, pl_1_0, and_self, Int32.reduceLE, Int32.reduceLT, pi_lt0, pm_b_eq0, pm_b_eq1, ite_not, pm_k0, pm_k1, pm_b_fit, true_and, and_true, not_true_eq_false, not_false_eq_true, ite_true, ite_false, if_true, if_false]
          · have c2 := eq_false c2
            simp only [hi, hs, c1, c2, i1, pb_237_12, pb_237_16, pb_237_31, pr_isOfK, pb_237_38, pb_237_41, pb_237_45, pb_237_46, pl_1_0, and_self, and_false, Int32.reduceLE, Int32.reduceLT, pi_lt0, pm_b_eq0, pm_b_eq1, ite_not, pm_k0, pm_k1, pm_b_fit, true_and, and_true, not_true_eq_false, not_false_eq_true, ite_true, ite_false, if_true, if_false]
        · have c1 := eq_false c1
          simp only [hi, hs, c1, i1, pb_237_12, pb_237_16, pb_237_45, pb_237_46, false_and, Int32.reduceLE, Int32.reduceLT, pi_lt0, pm_b_eq0, pm_b_eq1, ite_not, pm_k0, pm_k1, pm_b_fit, true_and, and_true, not_true_eq_false, not_false_eq_true, ite_true, ite_false, if_true, if_false]
      · subst hs
        simp only [hi, pb_237_12, pb_237_41, pb_237_46, pl_1_0, if_false]
  · split
    · split
      · exact Or.inr rfl
      · exact Or.inl rfl
    · exact Or.inr rfl
theorem px_isOfKind {d L : Nat} {b : Bool} {I : Nat → Nat → Int32} {J : Nat → Nat → Int64} {f kd ks : Int32} {Q : Int32 → Int64 → pm_H → Prop} (hc : ∀ j, I 2 j = pm_a2.getD j 0) (v7 : pm_ti (I 22) 5 120) (h0 : 0 ≤ f) (h1 : f < I 22 3) (hk : I 23 (5 * f.toNatClampNeg + 1) = ks) (k0 : 0 ≤ ks) (k1 : ks ≤ 255) (h2 : 0 ≤ kd) (h3 : kd ≤ 7) : pm_wc pm_code pm_meta (d + 1) 45 [.ref 36, .int f, .int kd] (pm_Gb L b, I, J) Q ↔ Q (pf_con ks kd) 0 (pm_Gb L b, I, J) := by
  have e1 : kd < 8 := by grind
  have e2 : pm_in kd 8 = true := pi_in8 (n := 8) (Int32.le_refl 8) h2 e1
  have e3 : ¬ kd < 0 := Int32.not_lt.mpr h2
  rw [con_eq k0 k1 h2 h3]
  rw [pb_45_0, if_neg e3, pb_45_4, if_pos e1, pb_45_14, pt_get_22_1 v7, if_pos ⟨h0, h1⟩, hk, pb_45_26, e2, hc]
  by_cases c1 : ks &&& pm_a2.getD kd.toNatClampNeg 0 = 0
  · rw [if_pos c1, if_pos c1, pb_45_39, pb_45_40]
    simp only [pm_k0, true_and]
  · rw [if_neg c1, if_neg c1, pb_45_35, pb_45_40]
    simp only [pm_k1, true_and]

