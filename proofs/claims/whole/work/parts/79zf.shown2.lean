/-! Whether stays kept two from meeting: the reference. -/
theorem pr_areApart {d L : Nat} {b : Bool} {I : Nat → Nat → Int32} {J : Nat → Nat → Int64} {one other day : Int32} {nP : Int32} {Q : Int32 → Int64 → pm_H → Prop} {t cc tr cr : Nat → Int32} (hs : pg_sta t cc (I 80 6) nP (I 125) (I 126) (I 127)) (hr : pg_roa tr cr (I 81)) (d0 : 0 ≤ day) (d1 : day ≤ 3599) (hQ : Q (pm_b (pf_apart (I 125) (I 126) (I 127) (I 81) (I 80 6) one other day = true)) 0 (pm_Gb L b, I, J)) : pm_wc pm_code pm_meta (d + 2) 258 [.ref 79, .int one, .int other, .int day] (pm_Gb L b, I, J) Q := by
  have hn0 := (sta_n hs).1
  have hn := sta_l hs
  -- the inner search; where the first one is another one nothing is found
  have inner : ∀ (i : Int32), 0 ≤ i → i < I 80 6 → ∀ (m : Nat) (j : Int32), 0 ≤ j → j.toNatClampNeg + m = (I 80 6).toNatClampNeg → ((∀ x6, pm_wp pm_code pm_meta (d + 2) 258 85 ([.ref 79, .int one, .int other, .int day, .int (pm_b (I 125 i.toNatClampNeg = one ∧ (pm_fq (fun j => I 125 j.toNatClampNeg = other ∧ pf_meet (I 126) (I 127) (I 81) day i j = false) m j).isSome = true)), .int i, .int x6], [], (pm_Gb L b, I, J)) Q) → pm_wp pm_code pm_meta (d + 2) 258 21 ([.ref 79, .int one, .int other, .int day, .int 0, .int i, .int j], [], (pm_Gb L b, I, J)) Q) := by
    intro i i0 i1 m
    have ii := pi_in24 (sta_n hs).2 i0 i1
    induction m with
    | zero =>
      intro j h0 hm hQ
      have t1 := pi_tni h0
      have t2 := pi_tni hn0
      have hj : I 80 6 ≤ j := by rw [pi_le]; omega
      have q := hQ j
      rw [pm_b_f' (fun g => absurd g.2 (by simp [pm_fq]))] at q
      rw [pb_258_21, if_pos hj]; exact q
    | succ m ih =>
      intro j h0 hm hQ
      have t1 := pi_tni h0
      have t2 := pi_tni hn0
      have e : j < I 80 6 := by rw [pi_lt]; omega
      have hj : ¬ I 80 6 ≤ j := Int32.not_le.mpr e
      have e3 : (j + 1).toNatClampNeg = j.toNatClampNeg + 1 := pi_tn1 h0 (Int32.lt_trans e hn)
      have e4 : 0 ≤ j + 1 := by have := pi_lt.mp e; have := pi_hi (I 80 6); rw [pi_le, pi_0, pi_add (by rw [pi_1]; omega) (by rw [pi_1]; omega), pi_1]; omega
      have ij := pi_in24 (sta_n hs).2 h0 e
      rw [pb_258_21, if_neg hj, pb_258_33, if_pos rfl, pb_258_38]
      refine ⟨ii, ?_⟩
      have no : (¬ (I 125 i.toNatClampNeg = one ∧ I 125 j.toNatClampNeg = other ∧ pf_meet (I 126) (I 127) (I 81) day i j = false)) → pm_wp pm_code pm_meta (d + 2) 258 76 ([.ref 79, .int one, .int other, .int day, .int 0, .int i, .int j], [], (pm_Gb L b, I, J)) Q := fun hno => by
        rw [pb_258_76, pb_258_77]
        refine ih (j + 1) e4 (by omega) (fun x6 => ?_)
        have q := hQ x6
        by_cases c1 : I 125 i.toNatClampNeg = one
        · have hf : pm_fq (fun j => I 125 j.toNatClampNeg = other ∧ pf_meet (I 126) (I 127) (I 81) day i j = false) (m + 1) j = pm_fq (fun j => I 125 j.toNatClampNeg = other ∧ pf_meet (I 126) (I 127) (I 81) day i j = false) m (j + 1) := if_neg (fun g => hno ⟨c1, g⟩)
          rw [hf] at q; exact q
        · rw [pm_b_f' (fun g => c1 g.1)] at q ⊢; exact q
      by_cases c1 : I 125 i.toNatClampNeg = one
      · rw [if_pos c1, pb_258_49]
        refine ⟨ij, ?_⟩
        by_cases c2 : I 125 j.toNatClampNeg = other
        · rw [if_pos c2, pb_258_60, pr_canMeet (d := d) hs hr d0 d1 i0 i1 h0 e, pb_258_69]
          by_cases c3 : pf_meet (I 126) (I 127) (I 81) day i j = true
          · rw [pm_b_t' c3, if_neg (by decide)]
            exact no (fun g => by rw [c3] at g; exact absurd g.2.2 (by decide))
          · have c4 : pf_meet (I 126) (I 127) (I 81) day i j = false := by simpa using c3
            rw [pm_b_f' c3, if_pos rfl, pb_258_72, pb_258_77, pb_258_21]
            have hf : pm_fq (fun j => I 125 j.toNatClampNeg = other ∧ pf_meet (I 126) (I 127) (I 81) day i j = false) (m + 1) j = some j := if_pos ⟨c2, c4⟩
            have q := hQ (j + 1)
            rw [hf, pm_b_t' ⟨c1, rfl⟩] at q
            by_cases hj2 : I 80 6 ≤ j + 1
            · rw [if_pos hj2]; exact q
            · rw [if_neg hj2, pb_258_33, if_neg (by decide)]; exact q
        · rw [if_neg c2]; exact no (fun g => c2 g.2.1)
      · rw [if_neg c1]; exact no (fun g => c1 g.1)
  have outer : ∀ (m : Nat) (i s : Int32) (D : Option Int32), 0 ≤ i → i.toNatClampNeg + m = (I 80 6).toNatClampNeg → (s = 0 ∨ s = 1) → Q (if s = 1 then 1 else pm_b ((pm_fq (fun i => I 125 i.toNatClampNeg = one ∧ (pm_fq (fun j => I 125 j.toNatClampNeg = other ∧ pf_meet (I 126) (I 127) (I 81) day i j = false) (I 80 6).toNatClampNeg 0).isSome = true) m i).isSome = true)) 0 (pm_Gb L b, I, J) → pm_wp pm_code pm_meta (d + 2) 258 6 ([.ref 79, .int one, .int other, .int day, .int s, .int i, pm_vl D], [], (pm_Gb L b, I, J)) Q := by
    intro m
    induction m with
    | zero =>
      intro i s D h0 hm hs1 hQ
      have t1 := pi_tni h0
      have t2 := pi_tni hn0
      have hi : I 80 6 ≤ i := by rw [pi_le]; omega
      rcases hs1 with e | e <;> subst e <;> cases D <;> simp only [pm_vl_n, pm_vl_s] <;> (first | rw [pb_258_6, if_pos hi, pb_258_91] | rw [pb_258_6b, if_pos hi, pb_258_91b]) <;> exact ⟨rfl, hQ⟩
    | succ m ih =>
      intro i s D h0 hm hs1 hQ
      have t1 := pi_tni h0
      have t2 := pi_tni hn0
      have e : i < I 80 6 := by rw [pi_lt]; omega
      have hi : ¬ I 80 6 ≤ i := Int32.not_le.mpr e
      have e3 : (i + 1).toNatClampNeg = i.toNatClampNeg + 1 := pi_tn1 h0 (Int32.lt_trans e hn)
      have e4 : 0 ≤ i + 1 := by have := pi_lt.mp e; have := pi_hi (I 80 6); rw [pi_le, pi_0, pi_add (by rw [pi_1]; omega) (by rw [pi_1]; omega), pi_1]; omega
      have at85 : ∀ x6 s', (s' = 0 ∨ s' = 1) → Q (if s' = 1 then 1 else pm_b ((pm_fq (fun i => I 125 i.toNatClampNeg = one ∧ (pm_fq (fun j => I 125 j.toNatClampNeg = other ∧ pf_meet (I 126) (I 127) (I 81) day i j = false) (I 80 6).toNatClampNeg 0).isSome = true) m (i + 1)).isSome = true)) 0 (pm_Gb L b, I, J) → pm_wp pm_code pm_meta (d + 2) 258 85 ([.ref 79, .int one, .int other, .int day, .int s', .int i, .int x6], [], (pm_Gb L b, I, J)) Q := fun x6 s' h1 h2 => by
        rw [pb_258_85]
        exact ih (i + 1) s' (some x6) e4 (by omega) h1 h2
      have at21 : pm_wp pm_code pm_meta (d + 2) 258 21 ([.ref 79, .int one, .int other, .int day, .int s, .int i, .int 0], [], (pm_Gb L b, I, J)) Q := by
        rcases hs1 with e | e
        · subst e
          refine inner i h0 (Int32.not_le.mp hi) (I 80 6).toNatClampNeg 0 (Int32.le_refl 0) (by simp) (fun x6 => at85 x6 _ ?_ ?_)
          · unfold pm_b; split
            · exact Or.inr rfl
            · exact Or.inl rfl
          · rw [if_neg (by decide)] at hQ
            by_cases c : I 125 i.toNatClampNeg = one ∧ (pm_fq (fun j => I 125 j.toNatClampNeg = other ∧ pf_meet (I 126) (I 127) (I 81) day i j = false) (I 80 6).toNatClampNeg 0).isSome = true
            · have hf : pm_fq (fun i => I 125 i.toNatClampNeg = one ∧ (pm_fq (fun j => I 125 j.toNatClampNeg = other ∧ pf_meet (I 126) (I 127) (I 81) day i j = false) (I 80 6).toNatClampNeg 0).isSome = true) (m + 1) i = some i := if_pos c
              rw [hf] at hQ
              rw [pm_b_t' c, if_pos rfl]
              exact hQ
            · have hf : pm_fq (fun i => I 125 i.toNatClampNeg = one ∧ (pm_fq (fun j => I 125 j.toNatClampNeg = other ∧ pf_meet (I 126) (I 127) (I 81) day i j = false) (I 80 6).toNatClampNeg 0).isSome = true) (m + 1) i = pm_fq (fun i => I 125 i.toNatClampNeg = one ∧ (pm_fq (fun j => I 125 j.toNatClampNeg = other ∧ pf_meet (I 126) (I 127) (I 81) day i j = false) (I 80 6).toNatClampNeg 0).isSome = true) m (i + 1) := if_neg c
              rw [hf] at hQ
              rw [pm_b_f' c, if_neg (by decide)]
              exact hQ
        · subst e
          rw [pb_258_21]
          by_cases hj : I 80 6 ≤ 0
          · rw [if_pos hj]; exact at85 0 1 (Or.inr rfl) hQ
          · rw [if_neg hj, pb_258_33, if_neg (by decide)]; exact at85 0 1 (Or.inr rfl) hQ
      cases D <;> simp only [pm_vl_n, pm_vl_s] <;> first | (rw [pb_258_6, if_neg hi, pb_258_18]; exact at21) | (rw [pb_258_6b, if_neg hi, pb_258_18b]; exact at21)
  rw [pb_258_0]
  refine outer (I 80 6).toNatClampNeg 0 0 none (Int32.le_refl 0) (by simp) (Or.inl rfl) ?_
  rw [if_neg (by decide)]
  exact hQ

