/-! What shows that a lease was dated back: the class. -/
theorem is_some {α : Type} (z : α) : (some z).isSome = true := rfl
theorem px_rig_w {d L : Nat} {b : Bool} {I : Nat → Nat → Int32} {J : Nat → Nat → Int64} {x1 i : Int32} {nn nP nH nT : Int32} {kind house person amount frr to is leans proved seals told wit witOf : Nat → Int32} {Q : Int32 → Int64 → pm_H → Prop} (hr : pg_rig (I 18) (I 19) nn nP nH nT kind house person amount frr to is leans proved seals told wit witOf) (q0 : 0 ≤ x1) (q1 : x1 < nn) (i0 : 0 ≤ i) (i1 : i < (wit x1.toNatClampNeg)) : pm_wc pm_code pm_meta d 83 [.ref 18, .int x1, .int (13 + i)] (pm_Gb L b, I, J) Q ↔ Q (witOf (3 * x1.toNatClampNeg + (i).toNatClampNeg)) 0 (pm_Gb L b, I, J) := by
  have g := hr.2 _ (pi_tnlt q0 q1)
  have w3 : (wit x1.toNatClampNeg) ≤ 3 := g.2.2.2.2.2.2.2.2.2.2.2.2.2.2.2.2.2.2.2.2.2.1
  have i3 : i < 3 := Int32.lt_of_lt_of_le i1 w3
  have p := pi_tn13 i0 i3
  rw [pt_get_18 hr.1.1, hr.1.2, if_pos ⟨⟨q0, q1⟩, p.2.1, p.2.2⟩, p.1, (g.2.1 _ (pi_tnlt i0 i1)).1]
theorem px_shownOf {d L : Nat} {b : Bool} {I : Nat → Nat → Int32} {J : Nat → Nat → Int64} {x1 : Int32} {nn nP nH nT : Int32} {kind house person amount frr to is leans proved seals told wit witOf : Nat → Int32} {born died : Nat → Int32} {nS nQ : Int32} {sp pl sd roads sfrom : Nat → Int32} {Q : Int32 → Int64 → pm_H → Prop} (hr : pg_rig (I 18) (I 19) nn nP nH nT kind house person amount frr to is leans proved seals told wit witOf) (hp : pg_per (I 12) (I 13) nP born died) (hs : pg_sta (I 28) (I 29) nS nQ sp pl sd) (hro : pg_roa (I 10) (I 11) roads) (hse : pg_sea (I 26) (I 27) sfrom) (q0 : 0 ≤ x1) (q1 : x1 < nn) (hQ : Q (if (pm_fq (fun i : Int32 => ¬ (born ((witOf (3 * x1.toNatClampNeg + (i).toNatClampNeg))).toNatClampNeg ≤ (is x1.toNatClampNeg) ∧ (¬ 0 ≤ died ((witOf (3 * x1.toNatClampNeg + (i).toNatClampNeg))).toNatClampNeg ∨ (is x1.toNatClampNeg) ≤ died ((witOf (3 * x1.toNatClampNeg + (i).toNatClampNeg))).toNatClampNeg))) (wit x1.toNatClampNeg).toNatClampNeg 0).isSome = true then (1 : Int32) else if (0 ≤ seals x1.toNatClampNeg ∧ (is x1.toNatClampNeg) < sfrom (seals x1.toNatClampNeg).toNatClampNeg) then 2 else if (pm_fq (fun i : Int32 => (pm_fq (fun j : Int32 => pf_apart sp pl sd roads nS (witOf (3 * x1.toNatClampNeg + (i).toNatClampNeg)) (witOf (3 * x1.toNatClampNeg + (j).toNatClampNeg)) (is x1.toNatClampNeg) = true) ((wit x1.toNatClampNeg).toNatClampNeg - (i.toNatClampNeg + 1)) (i + 1)).isSome = true) (wit x1.toNatClampNeg).toNatClampNeg 0).isSome = true then 3 else if (0 ≤ told x1.toNatClampNeg ∧ (is x1.toNatClampNeg) + 180 < told x1.toNatClampNeg) then 4 else 0) 0 (pm_Gb L b, I, J)) : pm_wc pm_code pm_meta (d + 4) 58 [.ref 9, .int x1] (pm_Gb L b, I, J) Q := by
  have g := hr.2 _ (pi_tnlt q0 q1)
  have w0 : 0 ≤ (wit x1.toNatClampNeg) := g.2.2.2.2.2.2.2.2.2.2.2.2.2.2.2.2.2.2.2.2.1
  have w3 : (wit x1.toNatClampNeg) ≤ 3 := g.2.2.2.2.2.2.2.2.2.2.2.2.2.2.2.2.2.2.2.2.2.1
  have s3 : seals x1.toNatClampNeg ≤ 3 := g.2.2.2.2.2.2.2.2.2.2.2.2.2.2.2.2.2.2.2.1
  have wl : (wit x1.toNatClampNeg) < 2147483647 := pi_ltb (Int32.lt_of_le_of_lt w3 (by decide : (3 : Int32) < 100)) (by decide)
  have tw := pi_tni w0
  have pw : ∀ i, 0 ≤ i → i < (wit x1.toNatClampNeg) → 0 ≤ (witOf (3 * x1.toNatClampNeg + (i).toNatClampNeg)) ∧ (witOf (3 * x1.toNatClampNeg + (i).toNatClampNeg)) < nP := fun i i0 i1 => (g.2.1 _ (pi_tnlt i0 i1)).2
  have dead : pm_wp pm_code pm_meta (d + 4) 58 25 ([.ref 9, .int x1, .int (is x1.toNatClampNeg), .int (wit x1.toNatClampNeg), .int 0, pm_unset, pm_unset, pm_unset, pm_unset], [], (pm_Gb L b, I, J)) Q ↔ pm_oe (pm_wp pm_code pm_meta (d + 4) 58 60 ([.ref 9, .int x1, .int (is x1.toNatClampNeg), .int (wit x1.toNatClampNeg), .int (wit x1.toNatClampNeg), pm_unset, pm_unset, pm_unset, pm_unset], [], (pm_Gb L b, I, J)) Q) (fun _ => Q 1 0 (pm_Gb L b, I, J)) (pm_fq (fun i : Int32 => ¬ (born ((witOf (3 * x1.toNatClampNeg + (i).toNatClampNeg))).toNatClampNeg ≤ (is x1.toNatClampNeg) ∧ (¬ 0 ≤ died ((witOf (3 * x1.toNatClampNeg + (i).toNatClampNeg))).toNatClampNeg ∨ (is x1.toNatClampNeg) ≤ died ((witOf (3 * x1.toNatClampNeg + (i).toNatClampNeg))).toNatClampNeg))) (wit x1.toNatClampNeg).toNatClampNeg 0) := by
    refine pm_for_s (A := fun i => pm_wp pm_code pm_meta (d + 4) 58 25 ([.ref 9, .int x1, .int (is x1.toNatClampNeg), .int (wit x1.toNatClampNeg), .int i, pm_unset, pm_unset, pm_unset, pm_unset], [], (pm_Gb L b, I, J)) Q) w0 wl (fun i h0 hin => ?_)
    rw [pb_58_25]
    by_cases hi : (wit x1.toNatClampNeg) ≤ i
    · have ei : i = (wit x1.toNatClampNeg) := Int32.le_antisymm hin hi
      rw [if_pos hi, if_pos hi, ei]
    · have h1 := Int32.not_le.mp hi
      rw [if_neg hi, if_neg hi, pb_58_31, px_rig_w hr q0 q1 h0 h1, pb_58_45, px_isAlive hp]
      have pp := pw i h0 h1
      simp only [pm_at_in pp.1 pp.2, alive_eq, pb_58_49, pm_b_eq0]
      by_cases c : (born ((witOf (3 * x1.toNatClampNeg + (i).toNatClampNeg))).toNatClampNeg ≤ (is x1.toNatClampNeg) ∧ (¬ 0 ≤ died ((witOf (3 * x1.toNatClampNeg + (i).toNatClampNeg))).toNatClampNeg ∨ (is x1.toNatClampNeg) ≤ died ((witOf (3 * x1.toNatClampNeg + (i).toNatClampNeg))).toNatClampNeg))
      · simp only [eq_true c, not_true_eq_false, if_false, pb_58_54]
      · simp only [eq_false c, not_false_eq_true, if_true, pb_58_52]
  have last : ∀ (x5 : Int32) (D : Option (Int32 × Option (Int32 × Int32))), Q (if (0 ≤ told x1.toNatClampNeg ∧ (is x1.toNatClampNeg) + 180 < told x1.toNatClampNeg) then 4 else 0) 0 (pm_Gb L b, I, J) → pm_wp pm_code pm_meta (d + 4) 58 172 ([.ref 9, .int x1, .int (is x1.toNatClampNeg), .int (wit x1.toNatClampNeg), .int (pm_no (seals x1.toNatClampNeg)), .int x5, pm_vl (D.map (·.1)), pm_vl ((D.bind (·.2)).map (·.1)), pm_vl ((D.bind (·.2)).map (·.2))], [], (pm_Gb L b, I, J)) Q := fun x5 D h => by
    have e : (pm_no (told x1.toNatClampNeg) = -3) = ¬ 0 ≤ told x1.toNatClampNeg := pm_no_eq
    by_cases c1 : 0 ≤ told x1.toNatClampNeg
    · have e2 : pm_no (told x1.toNatClampNeg) = told x1.toNatClampNeg := pm_no_nn c1
      have e3 : ¬ told x1.toNatClampNeg = -3 := fun q => by rw [q] at c1; exact absurd c1 (by decide)
      by_cases c2 : told x1.toNatClampNeg ≤ (is x1.toNatClampNeg) + 180
      · rw [if_neg (fun q => Int32.not_lt.mpr c2 q.2)] at h
        rcases D with _ | ⟨a, _ | ⟨x, y⟩⟩ <;> simp only [Option.map, Option.bind, pm_vl_n, pm_vl_s] <;> (first | rw [pb_58_172] | rw [pb_58_172b] | rw [pb_58_172c]) <;> simp only [px_rig_11 hr, pm_at_in q0 q1, e2, pb_58_182, pb_58_182b, pb_58_182c, e3, if_false, pb_58_191, pb_58_191b, pb_58_191c, c2, if_true, pb_58_205, pb_58_205b, pb_58_205c, pb_58_206, pb_58_206b, pb_58_206c] <;> exact h
      · rw [if_pos ⟨c1, Int32.not_le.mp c2⟩] at h
        rcases D with _ | ⟨a, _ | ⟨x, y⟩⟩ <;> simp only [Option.map, Option.bind, pm_vl_n, pm_vl_s] <;> (first | rw [pb_58_172] | rw [pb_58_172b] | rw [pb_58_172c]) <;> simp only [px_rig_11 hr, pm_at_in q0 q1, e2, pb_58_182, pb_58_182b, pb_58_182c, e3, if_false, pb_58_191, pb_58_191b, pb_58_191c, c2, pb_58_201, pb_58_201b, pb_58_201c, pb_58_206, pb_58_206b, pb_58_206c] <;> exact h
    · rw [if_neg (fun q => c1 q.1)] at h
      rcases D with _ | ⟨a, _ | ⟨x, y⟩⟩ <;> simp only [Option.map, Option.bind, pm_vl_n, pm_vl_s] <;> (first | rw [pb_58_172] | rw [pb_58_172b] | rw [pb_58_172c]) <;> simp only [px_rig_11 hr, pm_at_in q0 q1, pb_58_182, pb_58_182b, pb_58_182c, e, c1, not_false_eq_true, if_true, pb_58_205, pb_58_205b, pb_58_205c, pb_58_206, pb_58_206b, pb_58_206c] <;> exact h
  have inner : ∀ i : Int32, 0 ≤ i → i < (wit x1.toNatClampNeg) → ∀ (m : Nat) (j : Int32) (E : Option (Int32 × Int32)), 0 ≤ j → j.toNatClampNeg + m = (wit x1.toNatClampNeg).toNatClampNeg → (if (pm_fq (fun j : Int32 => pf_apart sp pl sd roads nS (witOf (3 * x1.toNatClampNeg + (i).toNatClampNeg)) (witOf (3 * x1.toNatClampNeg + (j).toNatClampNeg)) (is x1.toNatClampNeg) = true) m j).isSome = true then Q 3 0 (pm_Gb L b, I, J) else ∀ (x6 : Int32) (E' : Option (Int32 × Int32)), pm_wp pm_code pm_meta (d + 4) 58 166 ([.ref 9, .int x1, .int (is x1.toNatClampNeg), .int (wit x1.toNatClampNeg), .int (pm_no (seals x1.toNatClampNeg)), .int i, .int x6, pm_vl (Option.map (·.1) E'), pm_vl (Option.map (·.2) E')], [], (pm_Gb L b, I, J)) Q) → pm_wp pm_code pm_meta (d + 4) 58 110 ([.ref 9, .int x1, .int (is x1.toNatClampNeg), .int (wit x1.toNatClampNeg), .int (pm_no (seals x1.toNatClampNeg)), .int i, .int j, pm_vl (E.map (·.1)), pm_vl (E.map (·.2))], [], (pm_Gb L b, I, J)) Q := by
    intro i i0 i1 m
    induction m with
    | zero =>
      intro j E h0 hm h
      have t1 := pi_tni h0
      have hj : (wit x1.toNatClampNeg) ≤ j := by rw [pi_le]; omega
      rw [if_neg (by simp [pm_fq])] at h
      have q := h j E
      rcases E with _ | ⟨x, y⟩ <;> simp only [Option.map, pm_vl_n, pm_vl_s] at q ⊢ <;> first | (rw [pb_58_110, if_pos hj]; exact q) | (rw [pb_58_110b, if_pos hj]; exact q)
    | succ m ih =>
      intro j E h0 hm h
      have t1 := pi_tni h0
      have e : j < (wit x1.toNatClampNeg) := by rw [pi_lt]; omega
      have hj : ¬ (wit x1.toNatClampNeg) ≤ j := Int32.not_le.mpr e
      have e3 : (j + 1).toNatClampNeg = j.toNatClampNeg + 1 := pi_tn1 h0 (Int32.lt_trans e wl)
      have e4 : 0 ≤ j + 1 := by have := pi_lt.mp e; have := pi_hi (wit x1.toNatClampNeg); rw [pi_le, pi_0, pi_add (by rw [pi_1]; omega) (by rw [pi_1]; omega), pi_1]; omega
      by_cases c : pf_apart sp pl sd roads nS (witOf (3 * x1.toNatClampNeg + (i).toNatClampNeg)) (witOf (3 * x1.toNatClampNeg + (j).toNatClampNeg)) (is x1.toNatClampNeg) = true
      · have hf : pm_fq (fun j : Int32 => pf_apart sp pl sd roads nS (witOf (3 * x1.toNatClampNeg + (i).toNatClampNeg)) (witOf (3 * x1.toNatClampNeg + (j).toNatClampNeg)) (is x1.toNatClampNeg) = true) (m + 1) j = some j := if_pos c
        rw [hf, if_pos (is_some _)] at h
        rcases E with _ | ⟨x, y⟩ <;> simp only [Option.map, pm_vl_n, pm_vl_s] <;> (first | rw [pb_58_110, if_neg hj, pb_58_116] | rw [pb_58_110b, if_neg hj, pb_58_116b]) <;> simp only [px_rig_w hr q0 q1 i0 i1, px_rig_w hr q0 q1 h0 e, pb_58_129, pb_58_129b, pb_58_144, pb_58_144b, px_areApart (d := d) hs hro, pm_b_t' c, pb_58_155, pl_1_0, if_false, pb_58_158] <;> exact h
      · have hf : pm_fq (fun j : Int32 => pf_apart sp pl sd roads nS (witOf (3 * x1.toNatClampNeg + (i).toNatClampNeg)) (witOf (3 * x1.toNatClampNeg + (j).toNatClampNeg)) (is x1.toNatClampNeg) = true) (m + 1) j = pm_fq (fun j : Int32 => pf_apart sp pl sd roads nS (witOf (3 * x1.toNatClampNeg + (i).toNatClampNeg)) (witOf (3 * x1.toNatClampNeg + (j).toNatClampNeg)) (is x1.toNatClampNeg) = true) m (j + 1) := if_neg c
        rw [hf] at h
        have z := ih (j + 1) (some ((witOf (3 * x1.toNatClampNeg + (i).toNatClampNeg)), (witOf (3 * x1.toNatClampNeg + (j).toNatClampNeg)))) e4 (by omega) h
        simp only [Option.map, pm_vl_s] at z
        rcases E with _ | ⟨x, y⟩ <;> simp only [Option.map, pm_vl_n, pm_vl_s] <;> (first | rw [pb_58_110, if_neg hj, pb_58_116] | rw [pb_58_110b, if_neg hj, pb_58_116b]) <;> simp only [px_rig_w hr q0 q1 i0 i1, px_rig_w hr q0 q1 h0 e, pb_58_129, pb_58_129b, pb_58_144, pb_58_144b, px_areApart (d := d) hs hro, pm_b_f' c, pb_58_155, if_true, pb_58_160] <;> exact z
  have outer : ∀ (m : Nat) (i : Int32) (D : Option (Int32 × Option (Int32 × Int32))), 0 ≤ i → i.toNatClampNeg + m = (wit x1.toNatClampNeg).toNatClampNeg → (if (pm_fq (fun i : Int32 => (pm_fq (fun j : Int32 => pf_apart sp pl sd roads nS (witOf (3 * x1.toNatClampNeg + (i).toNatClampNeg)) (witOf (3 * x1.toNatClampNeg + (j).toNatClampNeg)) (is x1.toNatClampNeg) = true) ((wit x1.toNatClampNeg).toNatClampNeg - (i.toNatClampNeg + 1)) (i + 1)).isSome = true) m i).isSome = true then Q 3 0 (pm_Gb L b, I, J) else Q (if (0 ≤ told x1.toNatClampNeg ∧ (is x1.toNatClampNeg) + 180 < told x1.toNatClampNeg) then 4 else 0) 0 (pm_Gb L b, I, J)) → pm_wp pm_code pm_meta (d + 4) 58 98 ([.ref 9, .int x1, .int (is x1.toNatClampNeg), .int (wit x1.toNatClampNeg), .int (pm_no (seals x1.toNatClampNeg)), .int i, pm_vl (D.map (·.1)), pm_vl ((D.bind (·.2)).map (·.1)), pm_vl ((D.bind (·.2)).map (·.2))], [], (pm_Gb L b, I, J)) Q := by
    intro m
    induction m with
    | zero =>
      intro i D h0 hm h
      have t1 := pi_tni h0
      have hi : (wit x1.toNatClampNeg) ≤ i := by rw [pi_le]; omega
      rw [if_neg (by simp [pm_fq])] at h
      have q := last i D h
      rcases D with _ | ⟨a, _ | ⟨x, y⟩⟩ <;> simp only [Option.map, Option.bind, pm_vl_n, pm_vl_s] at q ⊢ <;> first | (rw [pb_58_98, if_pos hi]; exact q) | (rw [pb_58_98b, if_pos hi]; exact q) | (rw [pb_58_98c, if_pos hi]; exact q)
    | succ m ih =>
      intro i D h0 hm h
      have t1 := pi_tni h0
      have e : i < (wit x1.toNatClampNeg) := by rw [pi_lt]; omega
      have hi : ¬ (wit x1.toNatClampNeg) ≤ i := Int32.not_le.mpr e
      have e3 : (i + 1).toNatClampNeg = i.toNatClampNeg + 1 := pi_tn1 h0 (Int32.lt_trans e wl)
      have e4 : 0 ≤ i + 1 := by have := pi_lt.mp e; have := pi_hi (wit x1.toNatClampNeg); rw [pi_le, pi_0, pi_add (by rw [pi_1]; omega) (by rw [pi_1]; omega), pi_1]; omega
      have go : ∀ (E : Option (Int32 × Int32)), pm_wp pm_code pm_meta (d + 4) 58 110 ([.ref 9, .int x1, .int (is x1.toNatClampNeg), .int (wit x1.toNatClampNeg), .int (pm_no (seals x1.toNatClampNeg)), .int i, .int (i + 1), pm_vl (Option.map (·.1) E), pm_vl (Option.map (·.2) E)], [], (pm_Gb L b, I, J)) Q := fun E => by
        refine inner i h0 e ((wit x1.toNatClampNeg).toNatClampNeg - (i.toNatClampNeg + 1)) (i + 1) E e4 (by omega) ?_
        by_cases c : (pm_fq (fun j : Int32 => pf_apart sp pl sd roads nS (witOf (3 * x1.toNatClampNeg + (i).toNatClampNeg)) (witOf (3 * x1.toNatClampNeg + (j).toNatClampNeg)) (is x1.toNatClampNeg) = true) ((wit x1.toNatClampNeg).toNatClampNeg - (i.toNatClampNeg + 1)) (i + 1)).isSome = true
        · have hf : pm_fq (fun i : Int32 => (pm_fq (fun j : Int32 => pf_apart sp pl sd roads nS (witOf (3 * x1.toNatClampNeg + (i).toNatClampNeg)) (witOf (3 * x1.toNatClampNeg + (j).toNatClampNeg)) (is x1.toNatClampNeg) = true) ((wit x1.toNatClampNeg).toNatClampNeg - (i.toNatClampNeg + 1)) (i + 1)).isSome = true) (m + 1) i = some i := if_pos c
          rw [hf, if_pos (is_some _)] at h
          rw [if_pos c]; exact h
        · have hf : pm_fq (fun i : Int32 => (pm_fq (fun j : Int32 => pf_apart sp pl sd roads nS (witOf (3 * x1.toNatClampNeg + (i).toNatClampNeg)) (witOf (3 * x1.toNatClampNeg + (j).toNatClampNeg)) (is x1.toNatClampNeg) = true) ((wit x1.toNatClampNeg).toNatClampNeg - (i.toNatClampNeg + 1)) (i + 1)).isSome = true) (m + 1) i = pm_fq (fun i : Int32 => (pm_fq (fun j : Int32 => pf_apart sp pl sd roads nS (witOf (3 * x1.toNatClampNeg + (i).toNatClampNeg)) (witOf (3 * x1.toNatClampNeg + (j).toNatClampNeg)) (is x1.toNatClampNeg) = true) ((wit x1.toNatClampNeg).toNatClampNeg - (i.toNatClampNeg + 1)) (i + 1)).isSome = true) m (i + 1) := if_neg c
          rw [hf] at h
          rw [if_neg c]
          intro x6 E'
          have z := ih (i + 1) (some (x6, E')) e4 (by omega) h
          rcases E' with _ | ⟨x, y⟩ <;> simp only [Option.map, Option.bind, pm_vl_n, pm_vl_s] at z ⊢ <;> first | (rw [pb_58_166]; exact z) | (rw [pb_58_166b]; exact z)
      rcases D with _ | ⟨a, _ | ⟨x, y⟩⟩
      · have z := go none
        simp only [Option.map, Option.bind, pm_vl_n, pm_vl_s] at z ⊢
        rw [pb_58_98, if_neg hi, pb_58_104]; exact z
      · have z := go none
        simp only [Option.map, Option.bind, pm_vl_n, pm_vl_s] at z ⊢
        rw [pb_58_98b, if_neg hi, pb_58_104b]; exact z
      · have z := go (some (x, y))
        simp only [Option.map, Option.bind, pm_vl_n, pm_vl_s] at z ⊢
        rw [pb_58_98c, if_neg hi, pb_58_104c]; exact z
  simp only [pb_58_0, px_rig_7 hr, px_rig_12 hr, pm_at_in q0 q1, pb_58_10, pb_58_21]
  rw [dead]
  cases hd : pm_fq (fun i : Int32 => ¬ (born ((witOf (3 * x1.toNatClampNeg + (i).toNatClampNeg))).toNatClampNeg ≤ (is x1.toNatClampNeg) ∧ (¬ 0 ≤ died ((witOf (3 * x1.toNatClampNeg + (i).toNatClampNeg))).toNatClampNeg ∨ (is x1.toNatClampNeg) ≤ died ((witOf (3 * x1.toNatClampNeg + (i).toNatClampNeg))).toNatClampNeg))) (wit x1.toNatClampNeg).toNatClampNeg 0 with
  | some z =>
    rw [hd, if_pos (is_some _)] at hQ
    exact hQ
  | none =>
    rw [hd, if_neg (by decide)] at hQ
    show pm_wp pm_code pm_meta (d + 4) 58 60 ([.ref 9, .int x1, .int (is x1.toNatClampNeg), .int (wit x1.toNatClampNeg), .int (wit x1.toNatClampNeg), pm_unset, pm_unset, pm_unset, pm_unset], [], (pm_Gb L b, I, J)) Q
    have at95 : (if (pm_fq (fun i : Int32 => (pm_fq (fun j : Int32 => pf_apart sp pl sd roads nS (witOf (3 * x1.toNatClampNeg + (i).toNatClampNeg)) (witOf (3 * x1.toNatClampNeg + (j).toNatClampNeg)) (is x1.toNatClampNeg) = true) ((wit x1.toNatClampNeg).toNatClampNeg - (i.toNatClampNeg + 1)) (i + 1)).isSome = true) (wit x1.toNatClampNeg).toNatClampNeg 0).isSome = true then Q 3 0 (pm_Gb L b, I, J) else Q (if (0 ≤ told x1.toNatClampNeg ∧ (is x1.toNatClampNeg) + 180 < told x1.toNatClampNeg) then 4 else 0) 0 (pm_Gb L b, I, J)) → pm_wp pm_code pm_meta (d + 4) 58 95 ([.ref 9, .int x1, .int (is x1.toNatClampNeg), .int (wit x1.toNatClampNeg), .int (pm_no (seals x1.toNatClampNeg)), pm_unset, pm_unset, pm_unset, pm_unset], [], (pm_Gb L b, I, J)) Q := fun h => by
      have z := outer (wit x1.toNatClampNeg).toNatClampNeg 0 none (Int32.le_refl 0) (by simp) h
      rw [pb_58_95]
      exact z
    have go : (¬ (0 ≤ seals x1.toNatClampNeg ∧ (is x1.toNatClampNeg) < sfrom (seals x1.toNatClampNeg).toNatClampNeg)) → (if (pm_fq (fun i : Int32 => (pm_fq (fun j : Int32 => pf_apart sp pl sd roads nS (witOf (3 * x1.toNatClampNeg + (i).toNatClampNeg)) (witOf (3 * x1.toNatClampNeg + (j).toNatClampNeg)) (is x1.toNatClampNeg) = true) ((wit x1.toNatClampNeg).toNatClampNeg - (i.toNatClampNeg + 1)) (i + 1)).isSome = true) (wit x1.toNatClampNeg).toNatClampNeg 0).isSome = true then Q 3 0 (pm_Gb L b, I, J) else Q (if (0 ≤ told x1.toNatClampNeg ∧ (is x1.toNatClampNeg) + 180 < told x1.toNatClampNeg) then 4 else 0) 0 (pm_Gb L b, I, J)) := fun hn => by
      rw [if_neg hn] at hQ
      split
      · next c => rw [if_pos c] at hQ; exact hQ
      · next c => rw [if_neg c] at hQ; exact hQ
    rw [pb_58_60, px_rig_10 hr, pm_at_in q0 q1, pb_58_70]
    by_cases c1 : 0 ≤ seals x1.toNatClampNeg
    · have e2 : pm_no (seals x1.toNatClampNeg) = seals x1.toNatClampNeg := pm_no_nn c1
      have e3 : ¬ pm_no (seals x1.toNatClampNeg) = -3 := by rw [e2]; exact fun q => by rw [q] at c1; exact absurd c1 (by decide)
      have s4 : seals x1.toNatClampNeg < 4 := by grind
      have sv : (seals x1.toNatClampNeg).toNatClampNeg < 4 := pi_tnlt (b := 4) c1 s4
      rw [if_neg e3, pb_58_79, e2, pt_get_26_0 hse.1.1, hse.1.2, if_pos ⟨c1, s4⟩, hse.2 _ sv, pb_58_89]
      by_cases c2 : sfrom (seals x1.toNatClampNeg).toNatClampNeg ≤ (is x1.toNatClampNeg)
      · rw [if_pos c2]
        have z := at95 (go (fun q => Int32.not_lt.mpr c2 q.2))
        rw [e2] at z; exact z
      · rw [if_neg c2, pb_58_93]
        rw [if_pos ⟨c1, Int32.not_le.mp c2⟩] at hQ
        exact hQ
    · have e3 : pm_no (seals x1.toNatClampNeg) = -3 := if_pos (Int32.not_le.mp c1)
      rw [if_pos e3]
      exact at95 (go (fun q => c1 q.1))

