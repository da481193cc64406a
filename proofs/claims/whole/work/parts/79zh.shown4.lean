/-! THE CALL shown. -/
theorem pr_shownOf {d L : Nat} {b : Bool} {I : Nat → Nat → Int32} {J : Nat → Nat → Int64} {x1 : Int32} {Q : Int32 → Int64 → pm_H → Prop} (hr : pg_rig (I 18) (I 19) (I 80 4) (I 80 1) (I 80 2) (I 80 3) (I 99) (I 100) (I 101) (I 102) (I 103) (I 104) (I 105) (I 106) (I 107) (I 108) (I 109) (I 110) (I 111)) (hp : pg_per (I 12) (I 13) (I 80 1) (I 82) (I 83)) (hs : pg_sta (I 28) (I 29) (I 80 6) (I 80 1) (I 125) (I 126) (I 127)) (hro : pg_roa (I 10) (I 11) (I 81)) (q0 : 0 ≤ x1) (q1 : x1 < I 80 4) (hk : I 99 x1.toNatClampNeg = 2) (hQ : Q (if (pm_fq (fun i : Int32 => ¬ (I 82 ((I 111 (3 * x1.toNatClampNeg + (i).toNatClampNeg))).toNatClampNeg ≤ (I 105 x1.toNatClampNeg) ∧ (¬ 0 ≤ I 83 ((I 111 (3 * x1.toNatClampNeg + (i).toNatClampNeg))).toNatClampNeg ∨ (I 105 x1.toNatClampNeg) ≤ I 83 ((I 111 (3 * x1.toNatClampNeg + (i).toNatClampNeg))).toNatClampNeg))) (I 110 x1.toNatClampNeg).toNatClampNeg 0).isSome = true then (1 : Int32) else if (0 ≤ I 108 x1.toNatClampNeg ∧ (I 105 x1.toNatClampNeg) < I 124 (I 108 x1.toNatClampNeg).toNatClampNeg) then 2 else if (pm_fq (fun i : Int32 => (pm_fq (fun k : Int32 => pf_apart (I 125) (I 126) (I 127) (I 81) (I 80 6) (I 111 (3 * x1.toNatClampNeg + (k).toNatClampNeg)) (I 111 (3 * x1.toNatClampNeg + (i).toNatClampNeg)) (I 105 x1.toNatClampNeg) = true) i.toNatClampNeg 0).isSome = true) (I 110 x1.toNatClampNeg).toNatClampNeg 0).isSome = true then 3 else if (0 ≤ I 109 x1.toNatClampNeg ∧ (I 105 x1.toNatClampNeg) + 180 < I 109 x1.toNatClampNeg) then 4 else 0) 0 (pm_Gb L b, I, J)) : pm_wp pm_code pm_meta (d + 4) 259 38 ([.ref 79, .int x1, .int (I 105 x1.toNatClampNeg), .int 0, .int 0, .int 0, pm_unset], [], (pm_Gb L b, I, J)) Q := by
  have g := hr.2 _ (pi_tnlt q0 q1)
  have w0 : 0 ≤ (I 110 x1.toNatClampNeg) := g.2.2.2.2.2.2.2.2.2.2.2.2.2.2.2.2.2.2.2.2.1
  have w3 : (I 110 x1.toNatClampNeg) ≤ 3 := g.2.2.2.2.2.2.2.2.2.2.2.2.2.2.2.2.2.2.2.2.2.1
  have s3 : I 108 x1.toNatClampNeg ≤ 3 := g.2.2.2.2.2.2.2.2.2.2.2.2.2.2.2.2.2.2.2.1
  have dr : 0 ≤ (I 105 x1.toNatClampNeg) ∧ (I 105 x1.toNatClampNeg) ≤ 3599 := g.2.2.2.2.2.2.2.2.2.2.2.2.2.2.2.2.1 hk
  have wl : (I 110 x1.toNatClampNeg) < 2147483647 := pi_ltb (Int32.lt_of_le_of_lt w3 (by decide : (3 : Int32) < 100)) (by decide)
  have tw := pi_tni w0
  have i24 := rig_in hr q0 q1
  have n24 := (rig_n hr).2
  have pw : ∀ i, 0 ≤ i → i < (I 110 x1.toNatClampNeg) → 0 ≤ (I 111 (3 * x1.toNatClampNeg + (i).toNatClampNeg)) ∧ (I 111 (3 * x1.toNatClampNeg + (i).toNatClampNeg)) < I 80 1 := fun i i0 i1 => (g.2.1 _ (pi_tnlt i0 i1)).2
  have ix : ∀ i, 0 ≤ i → i < (I 110 x1.toNatClampNeg) → (3 * x1 + i).toNatClampNeg = 3 * x1.toNatClampNeg + i.toNatClampNeg ∧ pm_in (3 * x1 + i) 72 = true := fun i i0 i1 => pi_c3 n24 q0 q1 i0 (Int32.lt_of_lt_of_le i1 w3)
  have bit : ∀ (p : Prop) [Decidable p], pm_b p = 0 ∨ pm_b p = 1 := fun p _ => by
    unfold pm_b; split
    · exact Or.inr rfl
    · exact Or.inl rfl
  have inner : ∀ (i x3 : Int32), 0 ≤ i → i < (I 110 x1.toNatClampNeg) → ∀ (m : Nat) (k s : Int32), 0 ≤ k → k.toNatClampNeg + m = i.toNatClampNeg → (s = 0 ∨ s = 1) → pm_wp pm_code pm_meta (d + 4) 259 136 ([.ref 79, .int x1, .int (I 105 x1.toNatClampNeg), .int x3, .int (if s = 1 then 1 else pm_b ((pm_fq (fun k : Int32 => pf_apart (I 125) (I 126) (I 127) (I 81) (I 80 6) (I 111 (3 * x1.toNatClampNeg + (k).toNatClampNeg)) (I 111 (3 * x1.toNatClampNeg + (i).toNatClampNeg)) (I 105 x1.toNatClampNeg) = true) m k).isSome = true)), .int i, .int i], [], (pm_Gb L b, I, J)) Q → pm_wp pm_code pm_meta (d + 4) 259 81 ([.ref 79, .int x1, .int (I 105 x1.toNatClampNeg), .int x3, .int s, .int i, .int k], [], (pm_Gb L b, I, J)) Q := by
    intro i x3 i0 i1 m
    induction m with
    | zero =>
      intro k s h0 hm hs1 h
      have t1 := pi_tni h0
      have t2 := pi_tni i0
      have ek : k = i := Int32.toInt_inj.mp (by omega)
      have hs2 : (if s = 1 then 1 else pm_b ((pm_fq (fun k : Int32 => pf_apart (I 125) (I 126) (I 127) (I 81) (I 80 6) (I 111 (3 * x1.toNatClampNeg + (k).toNatClampNeg)) (I 111 (3 * x1.toNatClampNeg + (i).toNatClampNeg)) (I 105 x1.toNatClampNeg) = true) 0 k).isSome = true)) = s := by
        rcases hs1 with e | e <;> subst e <;> rfl
      rw [hs2] at h
      rw [pb_259_81, if_pos (by rw [ek]; exact Int32.le_refl _), ek]
      exact h
    | succ m ih =>
      intro k s h0 hm hs1 h
      have t1 := pi_tni h0
      have t2 := pi_tni i0
      have e : k < i := by rw [pi_lt]; omega
      have hk : ¬ i ≤ k := Int32.not_le.mpr e
      have e3 : (k + 1).toNatClampNeg = k.toNatClampNeg + 1 := pi_tn1 h0 (Int32.lt_trans e (Int32.lt_trans i1 wl))
      have e4 : 0 ≤ k + 1 := by have := pi_lt.mp e; have := pi_hi i; rw [pi_le, pi_0, pi_add (by rw [pi_1]; omega) (by rw [pi_1]; omega), pi_1]; omega
      have k1 : k < (I 110 x1.toNatClampNeg) := Int32.lt_trans e i1
      rw [pb_259_81, if_neg hk, pb_259_88]
      rcases hs1 with es | es
      · subst es
        rw [if_neg (by decide)] at h
        rw [if_pos rfl, pb_259_93, (ix k h0 k1).1, (ix i i0 i1).1]
        refine ⟨(ix k h0 k1).2, (ix i i0 i1).2, ?_⟩
        refine pr_areApart (d := d + 1) hs hro dr.1 dr.2 ?_
        rw [pb_259_120]
        by_cases c : pf_apart (I 125) (I 126) (I 127) (I 81) (I 80 6) (I 111 (3 * x1.toNatClampNeg + (k).toNatClampNeg)) (I 111 (3 * x1.toNatClampNeg + (i).toNatClampNeg)) (I 105 x1.toNatClampNeg) = true
        · have hf : pm_fq (fun k : Int32 => pf_apart (I 125) (I 126) (I 127) (I 81) (I 80 6) (I 111 (3 * x1.toNatClampNeg + (k).toNatClampNeg)) (I 111 (3 * x1.toNatClampNeg + (i).toNatClampNeg)) (I 105 x1.toNatClampNeg) = true) (m + 1) k = some k := if_pos c
          rw [hf, pm_b_t' (is_some _)] at h
          rw [pm_b_t' c, if_neg (by decide), pb_259_123, pb_259_128]
          exact ih (k + 1) 1 e4 (by omega) (Or.inr rfl) (by rw [if_pos rfl]; exact h)
        · have hf : pm_fq (fun k : Int32 => pf_apart (I 125) (I 126) (I 127) (I 81) (I 80 6) (I 111 (3 * x1.toNatClampNeg + (k).toNatClampNeg)) (I 111 (3 * x1.toNatClampNeg + (i).toNatClampNeg)) (I 105 x1.toNatClampNeg) = true) (m + 1) k = pm_fq (fun k : Int32 => pf_apart (I 125) (I 126) (I 127) (I 81) (I 80 6) (I 111 (3 * x1.toNatClampNeg + (k).toNatClampNeg)) (I 111 (3 * x1.toNatClampNeg + (i).toNatClampNeg)) (I 105 x1.toNatClampNeg) = true) m (k + 1) := if_neg c
          rw [hf] at h
          rw [pm_b_f' c, if_pos rfl, pb_259_127, pb_259_128]
          exact ih (k + 1) 0 e4 (by omega) (Or.inl rfl) (by rw [if_neg (by decide)]; exact h)
      · subst es
        rw [if_pos rfl] at h
        rw [if_neg (by decide), pb_259_123, pb_259_128]
        exact ih (k + 1) 1 e4 (by omega) (Or.inr rfl) (by rw [if_pos rfl]; exact h)
  have outer : ∀ (m : Nat) (i x3 x4 : Int32) (D : Option Int32), 0 ≤ i → i.toNatClampNeg + m = (I 110 x1.toNatClampNeg).toNatClampNeg → (x3 = 0 ∨ x3 = 1) → (x4 = 0 ∨ x4 = 1) → (∀ (x5 : Int32) (D' : Option Int32), pm_wp pm_code pm_meta (d + 4) 259 142 ([.ref 79, .int x1, .int (I 105 x1.toNatClampNeg), .int (if x3 = 1 then 1 else pm_b ((pm_fq (fun i : Int32 => ¬ (I 82 ((I 111 (3 * x1.toNatClampNeg + (i).toNatClampNeg))).toNatClampNeg ≤ (I 105 x1.toNatClampNeg) ∧ (¬ 0 ≤ I 83 ((I 111 (3 * x1.toNatClampNeg + (i).toNatClampNeg))).toNatClampNeg ∨ (I 105 x1.toNatClampNeg) ≤ I 83 ((I 111 (3 * x1.toNatClampNeg + (i).toNatClampNeg))).toNatClampNeg))) m i).isSome = true)), .int (if x4 = 1 then 1 else pm_b ((pm_fq (fun i : Int32 => (pm_fq (fun k : Int32 => pf_apart (I 125) (I 126) (I 127) (I 81) (I 80 6) (I 111 (3 * x1.toNatClampNeg + (k).toNatClampNeg)) (I 111 (3 * x1.toNatClampNeg + (i).toNatClampNeg)) (I 105 x1.toNatClampNeg) = true) i.toNatClampNeg 0).isSome = true) m i).isSome = true)), .int x5, pm_vl D'], [], (pm_Gb L b, I, J)) Q) → pm_wp pm_code pm_meta (d + 4) 259 38 ([.ref 79, .int x1, .int (I 105 x1.toNatClampNeg), .int x3, .int x4, .int i, pm_vl D], [], (pm_Gb L b, I, J)) Q := by
    intro m
    induction m with
    | zero =>
      intro i x3 x4 D h0 hm h3 h4 h
      have t1 := pi_tni h0
      have hi : (I 110 x1.toNatClampNeg) ≤ i := by rw [pi_le]; omega
      have e3 : (if x3 = 1 then 1 else pm_b ((pm_fq (fun i : Int32 => ¬ (I 82 ((I 111 (3 * x1.toNatClampNeg + (i).toNatClampNeg))).toNatClampNeg ≤ (I 105 x1.toNatClampNeg) ∧ (¬ 0 ≤ I 83 ((I 111 (3 * x1.toNatClampNeg + (i).toNatClampNeg))).toNatClampNeg ∨ (I 105 x1.toNatClampNeg) ≤ I 83 ((I 111 (3 * x1.toNatClampNeg + (i).toNatClampNeg))).toNatClampNeg))) 0 i).isSome = true)) = x3 := by rcases h3 with e | e <;> subst e <;> rfl
      have e4 : (if x4 = 1 then 1 else pm_b ((pm_fq (fun i : Int32 => (pm_fq (fun k : Int32 => pf_apart (I 125) (I 126) (I 127) (I 81) (I 80 6) (I 111 (3 * x1.toNatClampNeg + (k).toNatClampNeg)) (I 111 (3 * x1.toNatClampNeg + (i).toNatClampNeg)) (I 105 x1.toNatClampNeg) = true) i.toNatClampNeg 0).isSome = true) 0 i).isSome = true)) = x4 := by rcases h4 with e | e <;> subst e <;> rfl
      have q := h i D
      rw [e3, e4] at q
      cases D <;> simp only [pm_vl_n, pm_vl_s] at q ⊢ <;> first | (rw [pb_259_38, if_pos hi]; exact ⟨i24, q⟩) | (rw [pb_259_38b, if_pos hi]; exact ⟨i24, q⟩)
    | succ m ih =>
      intro i x3 x4 D h0 hm h3 h4 h
      have t1 := pi_tni h0
      have e : i < (I 110 x1.toNatClampNeg) := by rw [pi_lt]; omega
      have hi : ¬ (I 110 x1.toNatClampNeg) ≤ i := Int32.not_le.mpr e
      have e3 : (i + 1).toNatClampNeg = i.toNatClampNeg + 1 := pi_tn1 h0 (Int32.lt_trans e wl)
      have e4 : 0 ≤ i + 1 := by have := pi_lt.mp e; have := pi_hi ((I 110 x1.toNatClampNeg)); rw [pi_le, pi_0, pi_add (by rw [pi_1]; omega) (by rw [pi_1]; omega), pi_1]; omega
      have at81 : ∀ (b3 : Int32), (b3 = (if x3 = 1 then 1 else pm_b ((fun i : Int32 => ¬ (I 82 ((I 111 (3 * x1.toNatClampNeg + (i).toNatClampNeg))).toNatClampNeg ≤ (I 105 x1.toNatClampNeg) ∧ (¬ 0 ≤ I 83 ((I 111 (3 * x1.toNatClampNeg + (i).toNatClampNeg))).toNatClampNeg ∨ (I 105 x1.toNatClampNeg) ≤ I 83 ((I 111 (3 * x1.toNatClampNeg + (i).toNatClampNeg))).toNatClampNeg))) i))) → pm_wp pm_code pm_meta (d + 4) 259 81 ([.ref 79, .int x1, .int (I 105 x1.toNatClampNeg), .int b3, .int x4, .int i, .int 0], [], (pm_Gb L b, I, J)) Q := fun b3 hb => by
        refine inner i b3 h0 e i.toNatClampNeg 0 x4 (Int32.le_refl 0) (by simp) h4 ?_
        rw [pb_259_136]
        refine ih (i + 1) b3 _ (some i) e4 (by omega) ?_ ?_ (fun x5 D' => ?_)
        · rw [hb]
          rcases h3 with q | q
          · rw [if_neg (by rw [q]; decide)]; exact bit _
          · rw [if_pos q]; exact Or.inr rfl
        · rcases h4 with q | q
          · rw [if_neg (by rw [q]; decide)]; exact bit _
          · rw [if_pos q]; exact Or.inr rfl
        · have q := h x5 D'
          have z3 : (if x3 = 1 then 1 else pm_b ((pm_fq (fun i : Int32 => ¬ (I 82 ((I 111 (3 * x1.toNatClampNeg + (i).toNatClampNeg))).toNatClampNeg ≤ (I 105 x1.toNatClampNeg) ∧ (¬ 0 ≤ I 83 ((I 111 (3 * x1.toNatClampNeg + (i).toNatClampNeg))).toNatClampNeg ∨ (I 105 x1.toNatClampNeg) ≤ I 83 ((I 111 (3 * x1.toNatClampNeg + (i).toNatClampNeg))).toNatClampNeg))) (m + 1) i).isSome = true)) = (if b3 = 1 then 1 else pm_b ((pm_fq (fun i : Int32 => ¬ (I 82 ((I 111 (3 * x1.toNatClampNeg + (i).toNatClampNeg))).toNatClampNeg ≤ (I 105 x1.toNatClampNeg) ∧ (¬ 0 ≤ I 83 ((I 111 (3 * x1.toNatClampNeg + (i).toNatClampNeg))).toNatClampNeg ∨ (I 105 x1.toNatClampNeg) ≤ I 83 ((I 111 (3 * x1.toNatClampNeg + (i).toNatClampNeg))).toNatClampNeg))) m (i + 1)).isSome = true)) := by
            rcases h3 with q | q
            · subst q
              rw [if_neg (by decide)] at hb ⊢
              by_cases c : (fun i : Int32 => ¬ (I 82 ((I 111 (3 * x1.toNatClampNeg + (i).toNatClampNeg))).toNatClampNeg ≤ (I 105 x1.toNatClampNeg) ∧ (¬ 0 ≤ I 83 ((I 111 (3 * x1.toNatClampNeg + (i).toNatClampNeg))).toNatClampNeg ∨ (I 105 x1.toNatClampNeg) ≤ I 83 ((I 111 (3 * x1.toNatClampNeg + (i).toNatClampNeg))).toNatClampNeg))) i
              · have hf : pm_fq (fun i : Int32 => ¬ (I 82 ((I 111 (3 * x1.toNatClampNeg + (i).toNatClampNeg))).toNatClampNeg ≤ (I 105 x1.toNatClampNeg) ∧ (¬ 0 ≤ I 83 ((I 111 (3 * x1.toNatClampNeg + (i).toNatClampNeg))).toNatClampNeg ∨ (I 105 x1.toNatClampNeg) ≤ I 83 ((I 111 (3 * x1.toNatClampNeg + (i).toNatClampNeg))).toNatClampNeg))) (m + 1) i = some i := if_pos c
                rw [hf, hb, pm_b_t' c, if_pos rfl, pm_b_t' (is_some _)]
              · have hf : pm_fq (fun i : Int32 => ¬ (I 82 ((I 111 (3 * x1.toNatClampNeg + (i).toNatClampNeg))).toNatClampNeg ≤ (I 105 x1.toNatClampNeg) ∧ (¬ 0 ≤ I 83 ((I 111 (3 * x1.toNatClampNeg + (i).toNatClampNeg))).toNatClampNeg ∨ (I 105 x1.toNatClampNeg) ≤ I 83 ((I 111 (3 * x1.toNatClampNeg + (i).toNatClampNeg))).toNatClampNeg))) (m + 1) i = pm_fq (fun i : Int32 => ¬ (I 82 ((I 111 (3 * x1.toNatClampNeg + (i).toNatClampNeg))).toNatClampNeg ≤ (I 105 x1.toNatClampNeg) ∧ (¬ 0 ≤ I 83 ((I 111 (3 * x1.toNatClampNeg + (i).toNatClampNeg))).toNatClampNeg ∨ (I 105 x1.toNatClampNeg) ≤ I 83 ((I 111 (3 * x1.toNatClampNeg + (i).toNatClampNeg))).toNatClampNeg))) m (i + 1) := if_neg c
                rw [hf, hb, pm_b_f' c, if_neg (by decide)]
            · subst q
              rw [if_pos rfl] at hb ⊢
              rw [hb, if_pos rfl]
          have z4 : (if x4 = 1 then 1 else pm_b ((pm_fq (fun i : Int32 => (pm_fq (fun k : Int32 => pf_apart (I 125) (I 126) (I 127) (I 81) (I 80 6) (I 111 (3 * x1.toNatClampNeg + (k).toNatClampNeg)) (I 111 (3 * x1.toNatClampNeg + (i).toNatClampNeg)) (I 105 x1.toNatClampNeg) = true) i.toNatClampNeg 0).isSome = true) (m + 1) i).isSome = true)) = (if (if x4 = 1 then 1 else pm_b ((pm_fq (fun k : Int32 => pf_apart (I 125) (I 126) (I 127) (I 81) (I 80 6) (I 111 (3 * x1.toNatClampNeg + (k).toNatClampNeg)) (I 111 (3 * x1.toNatClampNeg + (i).toNatClampNeg)) (I 105 x1.toNatClampNeg) = true) i.toNatClampNeg 0).isSome = true)) = 1 then 1 else pm_b ((pm_fq (fun i : Int32 => (pm_fq (fun k : Int32 => pf_apart (I 125) (I 126) (I 127) (I 81) (I 80 6) (I 111 (3 * x1.toNatClampNeg + (k).toNatClampNeg)) (I 111 (3 * x1.toNatClampNeg + (i).toNatClampNeg)) (I 105 x1.toNatClampNeg) = true) i.toNatClampNeg 0).isSome = true) m (i + 1)).isSome = true)) := by
            rcases h4 with q | q
            · subst q
              have n01 : ¬ (0 : Int32) = 1 := by decide
              simp only [n01, if_false]
              by_cases c : (pm_fq (fun k : Int32 => pf_apart (I 125) (I 126) (I 127) (I 81) (I 80 6) (I 111 (3 * x1.toNatClampNeg + (k).toNatClampNeg)) (I 111 (3 * x1.toNatClampNeg + (i).toNatClampNeg)) (I 105 x1.toNatClampNeg) = true) i.toNatClampNeg 0).isSome = true
              · have hf : pm_fq (fun i : Int32 => (pm_fq (fun k : Int32 => pf_apart (I 125) (I 126) (I 127) (I 81) (I 80 6) (I 111 (3 * x1.toNatClampNeg + (k).toNatClampNeg)) (I 111 (3 * x1.toNatClampNeg + (i).toNatClampNeg)) (I 105 x1.toNatClampNeg) = true) i.toNatClampNeg 0).isSome = true) (m + 1) i = some i := if_pos c
                rw [hf, pm_b_t' c, if_pos rfl, pm_b_t' (is_some _)]
              · have hf : pm_fq (fun i : Int32 => (pm_fq (fun k : Int32 => pf_apart (I 125) (I 126) (I 127) (I 81) (I 80 6) (I 111 (3 * x1.toNatClampNeg + (k).toNatClampNeg)) (I 111 (3 * x1.toNatClampNeg + (i).toNatClampNeg)) (I 105 x1.toNatClampNeg) = true) i.toNatClampNeg 0).isSome = true) (m + 1) i = pm_fq (fun i : Int32 => (pm_fq (fun k : Int32 => pf_apart (I 125) (I 126) (I 127) (I 81) (I 80 6) (I 111 (3 * x1.toNatClampNeg + (k).toNatClampNeg)) (I 111 (3 * x1.toNatClampNeg + (i).toNatClampNeg)) (I 105 x1.toNatClampNeg) = true) i.toNatClampNeg 0).isSome = true) m (i + 1) := if_neg c
                rw [hf, pm_b_f' c, if_neg (by decide)]
            · subst q
              rw [if_pos rfl, if_pos rfl, if_pos rfl]
          rw [z3, z4] at q
          exact q
      have i16 := per_in hp (pw i h0 e).1 (pw i h0 e).2
      rcases h3 with q | q
      · subst q
        have z := at81 _ rfl
        rw [if_neg (by decide)] at z
        by_cases c : (I 82 ((I 111 (3 * x1.toNatClampNeg + (i).toNatClampNeg))).toNatClampNeg ≤ (I 105 x1.toNatClampNeg) ∧ (¬ 0 ≤ I 83 ((I 111 (3 * x1.toNatClampNeg + (i).toNatClampNeg))).toNatClampNeg ∨ (I 105 x1.toNatClampNeg) ≤ I 83 ((I 111 (3 * x1.toNatClampNeg + (i).toNatClampNeg))).toNatClampNeg))
        · rw [pm_b_f' (not_not_intro c)] at z
          cases D <;> simp only [pm_vl_n, pm_vl_s] <;> (first | rw [pb_259_38, if_neg hi, pb_259_49, if_pos rfl, pb_259_53, (ix i h0 e).1, pr_lives i16] | rw [pb_259_38b, if_neg hi, pb_259_49b, if_pos rfl, pb_259_53b, (ix i h0 e).1, pr_lives i16]) <;> refine ⟨i24, (ix i h0 e).2, ?_⟩ <;> rw [pm_b_t' c] <;> first | (rw [pb_259_69, if_neg (by decide), pb_259_76, pb_259_77]; exact z) | (rw [pb_259_69b, if_neg (by decide), pb_259_76b, pb_259_77b]; exact z)
        · rw [pm_b_t' c] at z
          cases D <;> simp only [pm_vl_n, pm_vl_s] <;> (first | rw [pb_259_38, if_neg hi, pb_259_49, if_pos rfl, pb_259_53, (ix i h0 e).1, pr_lives i16] | rw [pb_259_38b, if_neg hi, pb_259_49b, if_pos rfl, pb_259_53b, (ix i h0 e).1, pr_lives i16]) <;> refine ⟨i24, (ix i h0 e).2, ?_⟩ <;> rw [pm_b_f' c] <;> first | (rw [pb_259_69, if_pos rfl, pb_259_72, pb_259_77]; exact z) | (rw [pb_259_69b, if_pos rfl, pb_259_72b, pb_259_77b]; exact z)
      · subst q
        have z := at81 _ rfl
        rw [if_pos rfl] at z
        cases D <;> simp only [pm_vl_n, pm_vl_s] <;> first | (rw [pb_259_38, if_neg hi, pb_259_49, if_neg (by decide), pb_259_72, pb_259_77]; exact ⟨i24, z⟩) | (rw [pb_259_38b, if_neg hi, pb_259_49b, if_neg (by decide), pb_259_72b, pb_259_77b]; exact ⟨i24, z⟩)
  refine outer (I 110 x1.toNatClampNeg).toNatClampNeg 0 0 0 none (Int32.le_refl 0) (by simp) (Or.inl rfl) (Or.inl rfl) (fun x5 D => ?_)
  rw [if_neg (by decide), if_neg (by decide)]
  by_cases c1 : (pm_fq (fun i : Int32 => ¬ (I 82 ((I 111 (3 * x1.toNatClampNeg + (i).toNatClampNeg))).toNatClampNeg ≤ (I 105 x1.toNatClampNeg) ∧ (¬ 0 ≤ I 83 ((I 111 (3 * x1.toNatClampNeg + (i).toNatClampNeg))).toNatClampNeg ∨ (I 105 x1.toNatClampNeg) ≤ I 83 ((I 111 (3 * x1.toNatClampNeg + (i).toNatClampNeg))).toNatClampNeg))) (I 110 x1.toNatClampNeg).toNatClampNeg 0).isSome = true
  · rw [if_pos c1] at hQ
    rw [pm_b_t' c1]
    cases D <;> simp only [pm_vl_n, pm_vl_s] <;> first | (rw [pb_259_142, if_neg (by decide), pb_259_146]; exact hQ) | (rw [pb_259_142b, if_neg (by decide), pb_259_146b]; exact hQ)
  · rw [if_neg c1] at hQ
    rw [pm_b_f' c1]
    have at174 : (¬ (0 ≤ I 108 x1.toNatClampNeg ∧ (I 105 x1.toNatClampNeg) < I 124 (I 108 x1.toNatClampNeg).toNatClampNeg)) → pm_wp pm_code pm_meta (d + 4) 259 174 ([.ref 79, .int x1, .int (I 105 x1.toNatClampNeg), .int 0, .int (pm_b ((pm_fq (fun i : Int32 => (pm_fq (fun k : Int32 => pf_apart (I 125) (I 126) (I 127) (I 81) (I 80 6) (I 111 (3 * x1.toNatClampNeg + (k).toNatClampNeg)) (I 111 (3 * x1.toNatClampNeg + (i).toNatClampNeg)) (I 105 x1.toNatClampNeg) = true) i.toNatClampNeg 0).isSome = true) (I 110 x1.toNatClampNeg).toNatClampNeg 0).isSome = true)), .int x5, pm_vl D], [], (pm_Gb L b, I, J)) Q := fun hn => by
      rw [if_neg hn] at hQ
      by_cases c3 : (pm_fq (fun i : Int32 => (pm_fq (fun k : Int32 => pf_apart (I 125) (I 126) (I 127) (I 81) (I 80 6) (I 111 (3 * x1.toNatClampNeg + (k).toNatClampNeg)) (I 111 (3 * x1.toNatClampNeg + (i).toNatClampNeg)) (I 105 x1.toNatClampNeg) = true) i.toNatClampNeg 0).isSome = true) (I 110 x1.toNatClampNeg).toNatClampNeg 0).isSome = true
      · rw [if_pos c3] at hQ
        rw [pm_b_t' c3]
        cases D <;> simp only [pm_vl_n, pm_vl_s] <;> first | (rw [pb_259_174, if_neg (by decide), pb_259_179, pb_259_202]; exact hQ) | (rw [pb_259_174b, if_neg (by decide), pb_259_179b, pb_259_202b]; exact hQ)
      · rw [if_neg c3] at hQ
        rw [pm_b_f' c3]
        by_cases c4 : I 109 x1.toNatClampNeg ≤ (I 105 x1.toNatClampNeg) + 180
        · rw [if_neg (fun q => Int32.not_lt.mpr c4 q.2)] at hQ
          cases D <;> simp only [pm_vl_n, pm_vl_s] <;> first | (rw [pb_259_174, if_pos rfl, pb_259_183, if_pos c4, pb_259_201, pb_259_202]; exact ⟨i24, hQ⟩) | (rw [pb_259_174b, if_pos rfl, pb_259_183b, if_pos c4, pb_259_201b, pb_259_202b]; exact ⟨i24, hQ⟩)
        · have c5 : 0 ≤ I 109 x1.toNatClampNeg := by
            have d0 := pi_le.mp dr.1
            have d1 := pi_le.mp dr.2
            have e36 : (3599 : Int32).toInt = 3599 := rfl
            have e18 : (180 : Int32).toInt = 180 := rfl
            rw [pi_0] at d0
            have ea := pi_add (a := (I 105 x1.toNatClampNeg)) (b := 180) (by omega) (by omega)
            have := pi_lt.mp (Int32.not_le.mp c4)
            rw [pi_le, pi_0]; omega
          rw [if_pos ⟨c5, Int32.not_le.mp c4⟩] at hQ
          cases D <;> simp only [pm_vl_n, pm_vl_s] <;> first | (rw [pb_259_174, if_pos rfl, pb_259_183, if_neg c4, pb_259_197, pb_259_202]; exact ⟨i24, hQ⟩) | (rw [pb_259_174b, if_pos rfl, pb_259_183b, if_neg c4, pb_259_197b, pb_259_202b]; exact ⟨i24, hQ⟩)
    by_cases c6 : 0 ≤ I 108 x1.toNatClampNeg
    · have n6 := Int32.not_lt.mpr c6
      have i4 := sea_in c6 s3
      by_cases c7 : I 124 (I 108 x1.toNatClampNeg).toNatClampNeg ≤ (I 105 x1.toNatClampNeg)
      · have z := at174 (fun q => Int32.not_lt.mpr c7 q.2)
        cases D <;> simp only [pm_vl_n, pm_vl_s] at z ⊢ <;> first | (rw [pb_259_142, if_pos rfl, pb_259_148, if_neg n6, pb_259_157, if_pos c7]; exact ⟨i24, i24, i4, z⟩) | (rw [pb_259_142b, if_pos rfl, pb_259_148b, if_neg n6, pb_259_157b, if_pos c7]; exact ⟨i24, i24, i4, z⟩)
      · rw [if_pos ⟨c6, Int32.not_le.mp c7⟩] at hQ
        cases D <;> simp only [pm_vl_n, pm_vl_s] <;> first | (rw [pb_259_142, if_pos rfl, pb_259_148, if_neg n6, pb_259_157, if_neg c7, pb_259_172]; exact ⟨i24, i24, i4, hQ⟩) | (rw [pb_259_142b, if_pos rfl, pb_259_148b, if_neg n6, pb_259_157b, if_neg c7, pb_259_172b]; exact ⟨i24, i24, i4, hQ⟩)
    · have n6 := Int32.not_le.mp c6
      have z := at174 (fun q => c6 q.1)
      cases D <;> simp only [pm_vl_n, pm_vl_s] at z ⊢ <;> first | (rw [pb_259_142, if_pos rfl, pb_259_148, if_pos n6]; exact ⟨i24, z⟩) | (rw [pb_259_142b, if_pos rfl, pb_259_148b, if_pos n6]; exact ⟨i24, z⟩)
theorem ap_both {A : Int32 → Int32 → Prop} [∀ i j, Decidable (A i j)] {w : Int32} (w0 : 0 ≤ w) (wl : w < 2147483647) : ((pm_fq (fun i : Int32 => (pm_fq (fun j => A i j) (w.toNatClampNeg - (i.toNatClampNeg + 1)) (i + 1)).isSome = true) w.toNatClampNeg 0).isSome = true) ↔ ((pm_fq (fun i : Int32 => (pm_fq (fun k => A k i) i.toNatClampNeg 0).isSome = true) w.toNatClampNeg 0).isSome = true) := by
  have tw := pi_tni w0
  rw [fq_ex w0 wl _ 0 (Int32.le_refl 0) (by simp), fq_ex w0 wl _ 0 (Int32.le_refl 0) (by simp)]
  have nx : ∀ i : Int32, 0 ≤ i → i < w → 0 ≤ i + 1 ∧ (i + 1).toNatClampNeg = i.toNatClampNeg + 1 ∧ (i + 1).toInt = i.toInt + 1 := fun i i0 i1 => by
    have a := pi_lt.mp i1
    have c := pi_lt.mp wl
    have e : (2147483647 : Int32).toInt = 2147483647 := rfl
    have a0 := pi_le.mp i0
    rw [pi_0] at a0
    have ea : (i + 1).toInt = i.toInt + 1 := by rw [pi_add (by rw [pi_1]; omega) (by rw [pi_1]; omega), pi_1]
    exact ⟨by rw [pi_le, pi_0, ea]; omega, pi_tn1 i0 (Int32.lt_trans i1 wl), ea⟩
  constructor
  · rintro ⟨i, i0, i1, h⟩
    have t1 := pi_tni i0
    have a := pi_lt.mp i1
    have g := nx i i0 i1
    obtain ⟨j, j0, j1, hj⟩ := (fq_ex w0 wl _ (i + 1) g.1 (by omega)).mp h
    have b0 := pi_le.mp j0
    have a0 := pi_le.mp i0
    rw [pi_0] at a0
    have j00 : 0 ≤ j := by rw [pi_le, pi_0]; omega
    refine ⟨j, j00, j1, ?_⟩
    exact (fq_ex j00 (Int32.lt_trans j1 wl) _ 0 (Int32.le_refl 0) (by simp)).mpr ⟨i, i0, by rw [pi_lt]; omega, hj⟩
  · rintro ⟨j, j0, j1, h⟩
    obtain ⟨i, i0, i1, hi⟩ := (fq_ex j0 (Int32.lt_trans j1 wl) _ 0 (Int32.le_refl 0) (by simp)).mp h
    have i2 := Int32.lt_trans i1 j1
    have g := nx i i0 i2
    have t1 := pi_tni i0
    have a := pi_lt.mp i2
    have a2 := pi_lt.mp i1
    exact ⟨i, i0, i2, (fq_ex w0 wl _ (i + 1) g.1 (by omega)).mpr ⟨j, by rw [pi_le]; omega, j1, hi⟩⟩
theorem po_shown {d L : Nat} {b : Bool} {I : Nat → Nat → Int32} {J : Nat → Nat → Int64} {X : Nat → Int32} {x1 : Int32} (hI : pm_inv X b I J) : pm_wc pm_code pm_meta (d + 20) 147 [.ref 8, .int x1] (pm_Gb L b, I, J) (fun v _ H => pm_wc pm_code pm_meta (d + 20) 259 [.ref 79, .int x1] H (pm_ok X L b v)) := by
  have hI0 := hI
  obtain ⟨⟨htod, hroa, hper, hhou, hthi, hrig, hver, hsea, hsta, hlot, hbuy, hdee, hple⟩, htxt, hrid, htmp, hshe, hshf, htra, hk, hkept, hcon⟩ := hI
  have hn1 := (per_n hper).1
  have hn2 := (hou_n hhou).1
  have hn3 := (thi_n hthi).1
  have hn4 := (rig_n hrig).1
  by_cases h1 : 0 ≤ x1 ∧ x1 < I 80 4
  · obtain ⟨q0, q1⟩ := h1
    have i24 := rig_in hrig q0 q1
    by_cases c1 : I 99 x1.toNatClampNeg = 2
    · simp only [pb_147_0, px_has_rig hrig, pb_147_11, q0, q1, and_self, pm_b_t, pl_1_0, if_false, pb_147_16, px_isLease hrig, pm_at_in, c1, pb_147_24, pb_147_27]
      refine px_shownOf (d := d + 15) hrig hper hsta hroa hsea q0 q1 ?_
      rw [pb_147_35, pb_147_40]
      simp only [pb_259_0, pr_isRight hn4, pb_259_5, q0, q1, and_self, pm_b_t, pl_1_0, if_false, pb_259_10, i24, true_and, c1, if_true, pb_259_23]
      refine pr_shownOf (d := d + 16) hrig hper hsta hroa q0 q1 c1 ?_
      refine pm_okI2 ?_ hI0
      have g := hrig.2 _ (pi_tnlt q0 q1)
      have w0 : 0 ≤ (I 110 x1.toNatClampNeg) := g.2.2.2.2.2.2.2.2.2.2.2.2.2.2.2.2.2.2.2.2.1
      have w3 : (I 110 x1.toNatClampNeg) ≤ 3 := g.2.2.2.2.2.2.2.2.2.2.2.2.2.2.2.2.2.2.2.2.2.1
      have wl : (I 110 x1.toNatClampNeg) < 2147483647 := pi_ltb (Int32.lt_of_le_of_lt w3 (by decide : (3 : Int32) < 100)) (by decide)
      have ab := ap_both (A := fun i j => pf_apart (I 125) (I 126) (I 127) (I 81) (I 80 6) (I 111 (3 * x1.toNatClampNeg + (i).toNatClampNeg)) (I 111 (3 * x1.toNatClampNeg + (j).toNatClampNeg)) (I 105 x1.toNatClampNeg) = true) w0 wl
      split
      · rfl
      · split
        · rfl
        · by_cases z : (pm_fq (fun i : Int32 => (pm_fq (fun j : Int32 => pf_apart (I 125) (I 126) (I 127) (I 81) (I 80 6) (I 111 (3 * x1.toNatClampNeg + (i).toNatClampNeg)) (I 111 (3 * x1.toNatClampNeg + (j).toNatClampNeg)) (I 105 x1.toNatClampNeg) = true) ((I 110 x1.toNatClampNeg).toNatClampNeg - (i.toNatClampNeg + 1)) (i + 1)).isSome = true) (I 110 x1.toNatClampNeg).toNatClampNeg 0).isSome = true
          · rw [if_pos z, if_pos (ab.mp z)]
          · rw [if_neg z, if_neg (fun q => z (ab.mpr q))]
    · simp only [pb_147_0, px_has_rig hrig, pb_147_11, q0, q1, and_self, pm_b_t, pm_b_f c1, pl_1_0, if_false, if_true, pb_147_16, px_isLease hrig, pm_at_in, c1, pm_b_eq0, not_false_eq_true, pb_147_24, pb_147_38, pb_147_40, pb_259_0, pr_isRight hn4, pb_259_5, pb_259_10, i24, true_and, pb_259_20]
      with_reducible exact pm_okJ hI0
  · simp only [pb_147_0, px_has_rig hrig, pb_147_11, pm_b_f h1, if_true, pb_147_14, pb_259_0, pr_isRight hn4, pb_259_5, pb_259_8]
    with_reducible exact pm_okJ hI0

