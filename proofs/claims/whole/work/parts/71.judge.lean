/-! judge; loops that search. -/
def pm_fq (c : Int32 → Prop) [DecidablePred c] : Nat → Int32 → Option Int32
  | 0, _ => none
  | m + 1, i => if c i then some i else pm_fq c m (i + 1)
def pm_oe (E : Prop) (R : Int32 → Prop) : Option Int32 → Prop
  | none => E
  | some i => R i
theorem pm_for_s_aux {c : Int32 → Prop} [DecidablePred c] {A : Int32 → Prop} {E : Prop} {R : Int32 → Prop} {n : Int32} (hn0 : 0 ≤ n) (hn : n < 2147483647)
    (hA : ∀ i, 0 ≤ i → i ≤ n → (A i ↔ if n ≤ i then E else if c i then R i else A (i + 1))) :
    ∀ (m : Nat) (i : Int32), 0 ≤ i → i.toNatClampNeg + m = n.toNatClampNeg → (A i ↔ pm_oe E R (pm_fq c m i))
  | 0, i, h0, hm => by
    have h1 := pi_tni hn0
    have h2 := pi_tni h0
    rw [hA i h0 (by rw [pi_le]; omega), if_pos (by rw [pi_le]; omega)]
    exact Iff.rfl
  | m + 1, i, h0, hm => by
    have h1 := pi_tni hn0
    have h2 := pi_tni h0
    have e : i < n := by rw [pi_lt]; omega
    have e3 : (i + 1).toNatClampNeg = i.toNatClampNeg + 1 := pi_tn1 h0 (by grind)
    have e4 : 0 ≤ i + 1 := by grind
    rw [hA i h0 (Int32.le_of_lt e), if_neg (Int32.not_le.mpr e)]
    unfold pm_fq
    by_cases hc : c i
    · rw [if_pos hc, if_pos hc]; exact Iff.rfl
    · rw [if_neg hc, if_neg hc]; exact pm_for_s_aux hn0 hn hA m (i + 1) e4 (by omega)
/-- a search from 0 to below n -/
theorem pm_for_s {c : Int32 → Prop} [DecidablePred c] {A : Int32 → Prop} {E : Prop} {R : Int32 → Prop} {n : Int32} (hn0 : 0 ≤ n) (hn : n < 2147483647)
    (hA : ∀ i, 0 ≤ i → i ≤ n → (A i ↔ if n ≤ i then E else if c i then R i else A (i + 1))) : A 0 ↔ pm_oe E R (pm_fq c n.toNatClampNeg 0) :=
  pm_for_s_aux hn0 hn hA n.toNatClampNeg 0 (Int32.le_refl 0) (by simp)
theorem pm_fq_some {c : Int32 → Prop} [DecidablePred c] {n : Int32} (hn0 : 0 ≤ n) (hn : n < 2147483647) : ∀ (m : Nat) (i j : Int32), 0 ≤ i → i.toNatClampNeg + m = n.toNatClampNeg → pm_fq c m i = some j → c j ∧ i ≤ j ∧ j < n
  | 0, i, j, h0, hm, h => by cases h
  | m + 1, i, j, h0, hm, h => by
    have h1 := pi_tni hn0
    have h2 := pi_tni h0
    have e : i < n := by rw [pi_lt]; omega
    have e3 : (i + 1).toNatClampNeg = i.toNatClampNeg + 1 := pi_tn1 h0 (by grind)
    have e4 : 0 ≤ i + 1 := by grind
    unfold pm_fq at h
    by_cases hc : c i
    · rw [if_pos hc] at h; cases h; exact ⟨hc, Int32.le_refl _, e⟩
    · rw [if_neg hc] at h
      obtain ⟨a, b, c⟩ := pm_fq_some hn0 hn m (i + 1) j e4 (by omega) h
      exact ⟨a, by grind, c⟩
theorem pm_fq_none {c : Int32 → Prop} [DecidablePred c] {n : Int32} (hn0 : 0 ≤ n) (hn : n < 2147483647) : ∀ (m : Nat) (i j : Int32), 0 ≤ i → i.toNatClampNeg + m = n.toNatClampNeg → pm_fq c m i = none → i ≤ j → j < n → ¬ c j
  | 0, i, j, h0, hm, h, h1, h2 => by
    have a1 := pi_tni hn0
    have a2 := pi_tni h0
    rw [pi_le] at h1; rw [pi_lt] at h2
    omega
  | m + 1, i, j, h0, hm, h, h1, h2 => by
    have a1 := pi_tni hn0
    have a2 := pi_tni h0
    have e : i < n := by rw [pi_lt]; omega
    have e3 : (i + 1).toNatClampNeg = i.toNatClampNeg + 1 := pi_tn1 h0 (by grind)
    have e4 : 0 ≤ i + 1 := by grind
    unfold pm_fq at h
    by_cases hc : c i
    · rw [if_pos hc] at h; cases h
    · rw [if_neg hc] at h
      by_cases e5 : j = i
      · rw [e5]; exact hc
      · exact pm_fq_none hn0 hn m (i + 1) j e4 (by omega) h (by grind) h2
theorem rid_2 {t49 c50 t51 c52 t53 t55 : Nat → Int32} {has rode rows : Int32} {a b c d : Nat → Int32} (h : pg_rid t49 c50 t51 c52 t53 t55 has rode rows a b c d) {x : Int32} (h0 : 0 ≤ x) (h1 : x < rode) : c52 (2 * x.toNatClampNeg + 0) = a x.toNatClampNeg ∧ c52 (2 * x.toNatClampNeg + 1) = b x.toNatClampNeg := h.2.2.2.2.2.2 _ (pi_tnlt h0 h1)
theorem px_firstWrong {d L : Nat} {b : Bool} {I : Nat → Nat → Int32} {J : Nat → Nat → Int64} {X : Nat → Int32} {Q : Int32 → Int64 → pm_H → Prop} (hI : pm_inv X b I J) : pm_wc pm_code pm_meta (d + 1) 74 [.ref 48] (pm_Gb L b, I, J) Q ↔ pm_oe (Q (if I 79 84 ≤ I 79 85 then -1 else I 79 85) 0 (pm_Gb L b, I, J)) (fun i => Q i 0 (pm_Gb L b, I, J)) (pm_fq (fun i => ¬ (I 146 i.toNatClampNeg = I 144 i.toNatClampNeg ∧ I 147 i.toNatClampNeg = I 145 i.toNatClampNeg)) (I 79 85).toNatClampNeg 0) := by
  have hI0 := hI
  obtain ⟨⟨htod, hroa, hper, hhou, hthi, hrig, hver, hsea, hsta, hlot, hbuy, hdee, hple⟩, htxt, hrid, htmp, hshe, hshf, htra, hk, hkept, hcon⟩ := hI
  have hn1 := (per_n hper).1
  have hn2 := (hou_n hhou).1
  have hn3 := (thi_n hthi).1
  have hn4 := (rig_n hrig).1
  obtain ⟨rn1, rn2, rn3, rn4⟩ := rid_n hrid
  have hrid0 := hrid
  obtain ⟨⟨tr1, tr2, _⟩, cr1, cr2, cr3, _⟩ := hrid
  rw [pb_74_0]
  refine pm_for_s (A := fun i => pm_wp pm_code pm_meta (d + 1) 74 2 ([.ref 48, .int i], [], (pm_Gb L b, I, J)) Q) rn1 (pi_ltb (Int32.lt_of_le_of_lt rn2 (by decide : (7 : Int32) < 100)) (by decide)) (fun i h0 hin => ?_)
  rw [pb_74_2, cr1]
  by_cases hi : I 79 85 ≤ i
  · simp only [hi, if_true, pb_74_65, pb_74_92, pb_74_82, pb_74_93, cr1, cr2]
    split <;> rfl
  · have h1 := Int32.not_le.mp hi
    have h2 : i < I 79 84 := by rw [pi_lt] at h1 ⊢; rw [pi_le] at cr3; omega
    have e1 := rid_0 hrid0 h0 h1
    have e2 := rid_1 hrid0 h0 h1
    obtain ⟨e3, e4⟩ := rid_2 hrid0 h0 h2
    by_cases c1 : I 146 i.toNatClampNeg = I 144 i.toNatClampNeg
    · have c1' := eq_true c1
      by_cases c2 : I 147 i.toNatClampNeg = I 145 i.toNatClampNeg
      · have c2' := eq_true c2
        simp only [hi, pb_74_0, pb_74_65, pb_74_13, pb_74_92, pb_74_82, pb_74_22, pb_74_93, pb_74_31, pb_74_36, pb_74_34, pb_74_45, pb_74_54, pb_74_59, pb_74_57, pt_get_49_0 tr1, pt_get_49_1 tr1, pt_get_51_0 tr2, pt_get_51_1 tr2, cr1, cr2, h0, h1, h2, e1, e2, e3, e4, c1', c2', and_self, Int32.reduceLE, Int32.reduceLT, pi_lt0, pm_b_eq0, pm_b_eq1, ite_not, pm_k0, pm_k1, pm_b_fit, true_and, and_true, not_true_eq_false, not_false_eq_true, ite_true, ite_false, if_true, if_false]
      · have c2' := eq_false c2
        simp only [hi, pb_74_0, pb_74_65, pb_74_13, pb_74_92, pb_74_82, pb_74_22, pb_74_93, pb_74_31, pb_74_36, pb_74_34, pb_74_45, pb_74_54, pb_74_59, pb_74_57, pt_get_49_0 tr1, pt_get_49_1 tr1, pt_get_51_0 tr2, pt_get_51_1 tr2, cr1, cr2, h0, h1, h2, e1, e2, e3, e4, c1', c2', and_self, and_false, Int32.reduceLE, Int32.reduceLT, pi_lt0, pm_b_eq0, pm_b_eq1, ite_not, pm_k0, pm_k1, pm_b_fit, true_and, and_true, not_true_eq_false, not_false_eq_true, ite_true, ite_false, if_true, if_false]
    · have c1' := eq_false c1
      simp only [hi, pb_74_0, pb_74_65, pb_74_13, pb_74_92, pb_74_82, pb_74_22, pb_74_93, pb_74_31, pb_74_36, pb_74_34, pb_74_45, pb_74_54, pb_74_59, pb_74_57, pt_get_49_0 tr1, pt_get_49_1 tr1, pt_get_51_0 tr2, pt_get_51_1 tr2, cr1, cr2, h0, h1, h2, e1, e2, e3, e4, c1', and_self, false_and, Int32.reduceLE, Int32.reduceLT, pi_lt0, pm_b_eq0, pm_b_eq1, ite_not, pm_k0, pm_k1, pm_b_fit, true_and, and_true, not_true_eq_false, not_false_eq_true, ite_true, ite_false, if_true, if_false]
theorem pr_judge_loop {d L : Nat} {b : Bool} {I : Nat → Nat → Int32} {J : Nat → Nat → Int64} {Q : Int32 → Int64 → pm_H → Prop} (h0 : 0 ≤ I 79 85) (h7 : I 79 85 ≤ 7) : pm_wp pm_code pm_meta d 269 12 ([.ref 79, .int 0], [], (pm_Gb L b, I, J)) Q ↔ pm_oe (Q (if I 79 84 ≤ I 79 85 then 0 else I 79 85 + 1) 0 (pm_Gb L b, I, J)) (fun i => Q (i + 1) 0 (pm_Gb L b, I, J)) (pm_fq (fun i => ¬ (I 146 i.toNatClampNeg = I 144 i.toNatClampNeg ∧ I 147 i.toNatClampNeg = I 145 i.toNatClampNeg)) (I 79 85).toNatClampNeg 0) := by
  refine pm_for_s (A := fun i => pm_wp pm_code pm_meta d 269 12 ([.ref 79, .int i], [], (pm_Gb L b, I, J)) Q) h0 (pi_ltb (Int32.lt_of_le_of_lt h7 (by decide : (7 : Int32) < 100)) (by decide)) (fun i h0 hin => ?_)
  rw [pb_269_12]
  by_cases hi : I 79 85 ≤ i
  · simp only [hi, if_true, pb_269_60, pb_269_80, pb_269_71, pb_269_81]
    split <;> rfl
  · have h1 := Int32.not_le.mp hi
    have i1 := rid_in h7 h0 h1
    by_cases c1 : I 146 i.toNatClampNeg = I 144 i.toNatClampNeg
    · have c1' := eq_true c1
      by_cases c2 : I 147 i.toNatClampNeg = I 145 i.toNatClampNeg
      · have c2' := eq_true c2
        simp only [hi, pb_269_0, pb_269_7, pb_269_10, pb_269_60, pb_269_20, pb_269_80, pb_269_71, pb_269_35, pb_269_50, pb_269_81, pb_269_54, i1, c1', c2', and_self, Int32.reduceLE, Int32.reduceLT, pi_lt0, pm_b_eq0, pm_b_eq1, ite_not, pm_k0, pm_k1, pm_b_fit, true_and, and_true, not_true_eq_false, not_false_eq_true, ite_true, ite_false, if_true, if_false]
      · have c2' := eq_false c2
        simp only [hi, pb_269_0, pb_269_7, pb_269_10, pb_269_60, pb_269_20, pb_269_80, pb_269_71, pb_269_35, pb_269_50, pb_269_81, pb_269_54, i1, c1', c2', and_self, and_false, Int32.reduceLE, Int32.reduceLT, pi_lt0, pm_b_eq0, pm_b_eq1, ite_not, pm_k0, pm_k1, pm_b_fit, true_and, and_true, not_true_eq_false, not_false_eq_true, ite_true, ite_false, if_true, if_false]
    · have c1' := eq_false c1
      simp only [hi, pb_269_0, pb_269_7, pb_269_10, pb_269_60, pb_269_20, pb_269_80, pb_269_71, pb_269_35, pb_269_50, pb_269_81, pb_269_54, i1, c1', and_self, false_and, Int32.reduceLE, Int32.reduceLT, pi_lt0, pm_b_eq0, pm_b_eq1, ite_not, pm_k0, pm_k1, pm_b_fit, true_and, and_true, not_true_eq_false, not_false_eq_true, ite_true, ite_false, if_true, if_false]
theorem po_judge {d L : Nat} {b : Bool} {I : Nat → Nat → Int32} {J : Nat → Nat → Int64} {X : Nat → Int32} (hI : pm_inv X b I J) : pm_wc pm_code pm_meta (d + 20) 154 [.ref 8] (pm_Gb L b, I, J) (fun v _ H => pm_wc pm_code pm_meta (d + 20) 269 [.ref 79] H (pm_ok X L b v)) := by
  have hI0 := hI
  obtain ⟨⟨htod, hroa, hper, hhou, hthi, hrig, hver, hsea, hsta, hlot, hbuy, hdee, hple⟩, htxt, hrid, htmp, hshe, hshf, htra, hk, hkept, hcon⟩ := hI
  have hn1 := (per_n hper).1
  have hn2 := (hou_n hhou).1
  have hn3 := (thi_n hthi).1
  have hn4 := (rig_n hrig).1
  obtain ⟨rn1, rn2, rn3, rn4⟩ := rid_n hrid
  have cr2 := hrid.2.2.1
  have hh := hrid.2.2.2.2.1
  by_cases hr : I 79 84 = 0
  · have hr1 := eq_true hr
    have hh2 : I 79 83 = 0 := by rw [hh, if_pos hr]
    simp only [pb_154_0, pb_154_13, pb_154_18, pb_154_27, pb_154_25, pb_269_0, pb_269_7, pb_269_10, pb_269_60, pb_269_20, pb_269_80, pb_269_71, pb_269_35, pb_269_50, pb_269_81, pb_269_54, cr2, hr1, hh2, Int32.reduceLE, Int32.reduceLT, pi_lt0, pm_b_eq0, pm_b_eq1, ite_not, pm_k0, pm_k1, pm_b_fit, true_and, and_true, not_true_eq_false, not_false_eq_true, ite_true, ite_false, if_true, if_false]
    with_reducible exact pm_okJ hI0
  · have hr1 := eq_false hr
    have hh2 : (I 79 83 = 0) = False := by rw [hh, if_neg hr]; decide
    simp only [pb_154_0, pb_154_18, cr2, hr1, if_false, px_firstWrong hI0]
    cases hf : pm_fq (fun i => ¬ (I 146 i.toNatClampNeg = I 144 i.toNatClampNeg ∧ I 147 i.toNatClampNeg = I 145 i.toNatClampNeg)) (I 79 85).toNatClampNeg 0 with
    | none =>
      simp only [pm_oe, pb_154_25, pb_154_27, pb_269_0, pb_269_10, hh2, if_false, pr_judge_loop rn1 rn2, hf]
      by_cases hle : I 79 84 ≤ I 79 85
      · simp only [hle, if_true]
        exact pm_okI2 (by decide) hI0
      · simp only [hle, if_false]
        with_reducible exact pm_okJ hI0
    | some i =>
      simp only [pm_oe, pb_154_25, pb_154_27, pb_269_0, pb_269_10, hh2, if_false, pr_judge_loop rn1 rn2, hf]
      with_reducible exact pm_okJ hI0

