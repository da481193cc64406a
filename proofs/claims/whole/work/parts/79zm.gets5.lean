/-! THE CALL gets. -/
theorem st_cg {I I1 : Nat → Nat → Int32} (h : ∀ k, 80 ≤ k → k < 136 → I1 k = I k) (q : Int32) : (pf_st I1 q = pf_st I q) ∧ pf_rk I1 q = pf_rk I q ∧ pf_tk I1 q = pf_tk I q := by
  refine ⟨?_, ?_, ?_⟩
  · unfold pf_st; simp only [h 80 (by decide) (by decide), h 82 (by decide) (by decide), h 83 (by decide) (by decide), h 85 (by decide) (by decide), h 88 (by decide) (by decide), h 99 (by decide) (by decide), h 100 (by decide) (by decide), h 101 (by decide) (by decide), h 102 (by decide) (by decide), h 105 (by decide) (by decide), h 112 (by decide) (by decide), h 113 (by decide) (by decide), h 114 (by decide) (by decide), h 115 (by decide) (by decide), h 116 (by decide) (by decide), h 117 (by decide) (by decide), h 118 (by decide) (by decide), h 119 (by decide) (by decide), h 120 (by decide) (by decide), h 121 (by decide) (by decide), h 122 (by decide) (by decide), h 123 (by decide) (by decide)]
  · unfold pf_rk; simp only [h 80 (by decide) (by decide), h 82 (by decide) (by decide), h 83 (by decide) (by decide), h 85 (by decide) (by decide), h 88 (by decide) (by decide), h 99 (by decide) (by decide), h 100 (by decide) (by decide), h 101 (by decide) (by decide), h 102 (by decide) (by decide), h 105 (by decide) (by decide), h 112 (by decide) (by decide), h 113 (by decide) (by decide), h 114 (by decide) (by decide), h 115 (by decide) (by decide), h 116 (by decide) (by decide), h 117 (by decide) (by decide), h 118 (by decide) (by decide), h 119 (by decide) (by decide), h 120 (by decide) (by decide), h 121 (by decide) (by decide), h 122 (by decide) (by decide), h 123 (by decide) (by decide), h 119 (by decide) (by decide)]
  · unfold pf_tk; simp only [h 99 (by decide) (by decide), h 96 (by decide) (by decide), h 105 (by decide) (by decide), h 102 (by decide) (by decide)]
def pm_a7 (I0 I : Nat → Nat → Int32) : Prop := (∀ k, ¬ k = 79 → I k = I0 k) ∧ ∀ j, ¬ j = 70 → I 79 j = I0 79 j
theorem a7_refl {I : Nat → Nat → Int32} : pm_a7 I I := ⟨fun _ _ => rfl, fun _ _ => rfl⟩
theorem a7_u {I0 I : Nat → Nat → Int32} {t : Int32} (h : pm_a7 I0 I) : pm_a7 I0 (pm_u I 79 70 t) := by
  refine ⟨fun k h1 => ?_, fun j hj => ?_⟩
  · rw [pm_u_row, if_neg h1]; exact h.1 k h1
  · rw [pm_u_row, if_pos rfl, pm_w_ne hj]; exact h.2 j hj
theorem pr_isDebt {d L : Nat} {b : Bool} {I : Nat → Nat → Int32} {J : Nat → Nat → Int64} {q : Int32} {Q : Int32 → Int64 → pm_H → Prop} (hV : pm_gv I I) (i24 : pm_in q 24 = true) (i8 : pm_in (I 100 q.toNatClampNeg) 8 = true) (i16 : pm_in (I 101 q.toNatClampNeg) 16 = true)
    (hQ : ∀ I', pm_a7 I I' → Q (pm_b ((I 99 q.toNatClampNeg = 5 ∨ I 99 q.toNatClampNeg = 6) ∧ 0 ≤ I 88 (I 100 q.toNatClampNeg).toNatClampNeg ∧ pf_st I q)) 0 (pm_Gb L b, I', J)) : pm_wc pm_code pm_meta (d + 6) 246 [.ref 79, .int q] (pm_Gb L b, I, J) Q := by
  have hst : ∀ (Q : Int32 → Int64 → pm_H → Prop), pm_wc pm_code pm_meta (d + 5) 241 [.ref 79, .int q] (pm_Gb L b, I, J) Q ↔ Q (pm_b (pf_st I q)) 0 (pm_Gb L b, pm_u I 79 70 _, J) := fun Q => pr_doesStand (Q := Q) (d := d) hV i24 i8 i16
  have at21 : (I 99 q.toNatClampNeg = 5 ∨ I 99 q.toNatClampNeg = 6) → pm_wp pm_code pm_meta (d + 6) 246 21 ([.ref 79, .int q], [], (pm_Gb L b, I, J)) Q := fun hk => by
    rw [pb_246_21]
    refine ⟨i24, ?_⟩
    rw [pr_hasFallen]
    refine ⟨i8, ?_⟩
    rw [pb_246_31]
    by_cases c : 0 ≤ I 88 (I 100 q.toNatClampNeg).toNatClampNeg
    · rw [pm_b_t' c, if_neg (by decide), pb_246_34, hst, pb_246_39]
      by_cases c2 : pf_st I q
      · have z := fun t => hQ _ (a7_u (t := t) a7_refl)
        rw [pm_b_t' ⟨hk, c, c2⟩] at z
        rw [pm_b_t' c2, if_neg (by decide), pb_246_42, pb_246_47]
        exact ⟨rfl, z _⟩
      · have z := fun t => hQ _ (a7_u (t := t) a7_refl)
        rw [pm_b_f' (fun g => c2 g.2.2)] at z
        rw [pm_b_f' c2, if_pos rfl, pb_246_46, pb_246_47]
        exact ⟨rfl, z _⟩
    · have z := hQ _ a7_refl
      rw [pm_b_f' (fun g => c g.2.1)] at z
      rw [pm_b_f' c, if_pos rfl, pb_246_46, pb_246_47]
      exact ⟨rfl, z⟩
  rw [pb_246_0]
  refine ⟨i24, ?_⟩
  by_cases c1 : I 99 q.toNatClampNeg = 5
  · rw [if_pos c1]; exact at21 (Or.inl c1)
  · rw [if_neg c1, pb_246_10]
    refine ⟨i24, ?_⟩
    by_cases c2 : I 99 q.toNatClampNeg = 6
    · rw [if_pos c2]; exact at21 (Or.inr c2)
    · have z := hQ _ a7_refl
      rw [pm_b_f' (fun g => g.1.elim c1 c2)] at z
      rw [if_neg c2, pb_246_46, pb_246_47]
      exact ⟨rfl, z⟩
/-- the same but for what the gathering changes -/
def pm_g4 (I0 I : Nat → Nat → Int32) : Prop := (∀ k, ¬ k = 79 → ¬ k = 139 → ¬ k = 140 → ¬ k = 141 → I k = I0 k) ∧ ∀ j, ¬ j = 70 → I 79 j = I0 79 j
theorem g4_gv {I0 I : Nat → Nat → Int32} (hI : pm_gv I0 I0) (h : pm_g4 I0 I) : pm_gv I I := by
  unfold pm_gv at hI ⊢
  simp only [h.1 20 (by decide) (by decide) (by decide) (by decide), h.1 21 (by decide) (by decide) (by decide) (by decide), h.1 22 (by decide) (by decide) (by decide) (by decide), h.1 23 (by decide) (by decide) (by decide) (by decide), h.1 24 (by decide) (by decide) (by decide) (by decide), h.1 25 (by decide) (by decide) (by decide) (by decide), h.1 80 (by decide) (by decide) (by decide) (by decide), h.1 112 (by decide) (by decide) (by decide) (by decide), h.1 113 (by decide) (by decide) (by decide) (by decide), h.1 114 (by decide) (by decide) (by decide) (by decide), h.1 115 (by decide) (by decide) (by decide) (by decide), h.1 116 (by decide) (by decide) (by decide) (by decide), h.1 117 (by decide) (by decide) (by decide) (by decide), h.1 118 (by decide) (by decide) (by decide) (by decide), h.1 119 (by decide) (by decide) (by decide) (by decide), h.1 120 (by decide) (by decide) (by decide) (by decide), h.1 121 (by decide) (by decide) (by decide) (by decide), h.1 122 (by decide) (by decide) (by decide) (by decide), h.1 123 (by decide) (by decide) (by decide) (by decide)]
  exact hI
theorem g4_a7 {I0 I I1 : Nat → Nat → Int32} (h : pm_g4 I0 I) (h2 : pm_a7 I I1) : pm_g4 I0 I1 := ⟨fun k a c e f => (h2.1 k a).trans (h.1 k a c e f), fun j hj => (h2.2 j hj).trans (h.2 j hj)⟩
theorem g4_u {I0 I : Nat → Nat → Int32} {a k : Nat} {v : Int32} (ha : a = 139 ∨ a = 140 ∨ a = 141) (h : pm_g4 I0 I) : pm_g4 I0 (pm_u I a k v) := by
  refine ⟨fun j h1 h2 h3 h4 => ?_, fun j hj => ?_⟩
  · rw [pm_u_row, if_neg (by omega)]; exact h.1 j h1 h2 h3 h4
  · rw [pm_u_row, if_neg (by omega)]; exact h.2 j hj
theorem pr_gather_loop {d L : Nat} {b : Bool} {J : Nat → Nat → Int64} {X : Nat → Int32} {I0 : Nat → Nat → Int32} {h : Int32} {Q : Int32 → Int64 → pm_H → Prop} (hI : pm_inv X b I0 J) (hf : 0 ≤ I0 88 h.toNatClampNeg)
    (hQ : ∀ I', pm_g4 I0 I' → (∀ j : Nat, j < (I0 80 4).toNatClampNeg → I' 141 j = pf_g0 I0 h (Int32.ofNat j) ∧ I' 140 j = pf_g1 I0 h (Int32.ofNat j) ∧ I' 139 j = pf_g2 I0 h (Int32.ofNat j)) → pm_wp pm_code pm_meta (d + 7) 247 144 ([.ref 79, .int h, .int (pf_cn I0 h (I0 80 4).toNatClampNeg), .int (I0 80 4)], [], (pm_Gb L b, I', J)) Q) :
    ∀ (m k : Nat) (I : Nat → Nat → Int32), k + m = (I0 80 4).toNatClampNeg → pm_g4 I0 I → (∀ j : Nat, j < k → I 141 j = pf_g0 I0 h (Int32.ofNat j) ∧ I 140 j = pf_g1 I0 h (Int32.ofNat j) ∧ I 139 j = pf_g2 I0 h (Int32.ofNat j)) →
    pm_wp pm_code pm_meta (d + 7) 247 9 ([.ref 79, .int h, .int (pf_cn I0 h k), .int (Int32.ofNat k)], [], (pm_Gb L b, I, J)) Q := by
  have hV := gv_inv hI
  have hI0 := hI
  obtain ⟨⟨htod, hroa, hper, hhou, hthi, hrig, hver, hsea, hsta, hlot, hbuy, hdee, hple⟩, htxt, hrid, htmp, hshe, hshf, htra, hk, hkept, hcon⟩ := hI
  have hn1 := (per_n hper).1
  have hn2 := (hou_n hhou).1
  have hn3 := (thi_n hthi).1
  have hn4 := (rig_n hrig).1
  have hn := rig_n hrig
  have t1 := pi_tni hn.1
  have t2 := pi_le.mp hn.2
  have e24 : (24 : Int32).toInt = 24 := rfl
  intro m
  induction m with
  | zero =>
    intro k I hm hs hh
    have hk : k = (I0 80 4).toNatClampNeg := by omega
    have p := pi_on (j := k) (by omega)
    have ek : Int32.ofNat k = I0 80 4 := Int32.toInt_inj.mp (by rw [p.2.2]; omega)
    have hi : I 80 4 ≤ Int32.ofNat k := by rw [hs.1 80 (by decide) (by decide) (by decide) (by decide), ek]; exact Int32.le_refl _
    rw [hk] at hh
    have z := hQ I hs hh
    rw [← hk] at z
    rw [pb_247_9, if_pos hi, ek]
    exact z
  | succ m ih =>
    intro k I hm hs hh
    have p := pi_on (j := k) (by omega)
    have ek := pi_onadd (j := k) (by omega)
    have lk : Int32.ofNat k < I0 80 4 := pi_onlt (by omega) (by omega)
    have hi : ¬ I 80 4 ≤ Int32.ofNat k := by rw [hs.1 80 (by decide) (by decide) (by decide) (by decide)]; exact Int32.not_le.mpr lk
    have i24 := rig_in hrig p.1 lk
    have g := (hrig.2 _ (pi_tnlt p.1 lk)).2.2
    have i8 := hou_in hhou g.2.2.1 g.2.2.2.1
    have i16 := per_in hper g.2.2.2.2.1 g.2.2.2.2.2.1
    rw [pb_247_9, if_neg hi, pb_247_19]
    refine ⟨i24, i24, i24, i24, ?_⟩
    generalize hI1 : pm_u (pm_u (pm_u I 139 (Int32.ofNat k).toNatClampNeg 0) 140 (Int32.ofNat k).toNatClampNeg 0) 141 (Int32.ofNat k).toNatClampNeg (-1) = I1
    have s1 : pm_g4 I0 I1 := by rw [← hI1]; exact g4_u (by simp) (g4_u (by simp) (g4_u (by simp) hs))
    have o1 : ∀ j, ¬ j = k → I1 139 j = I 139 j ∧ I1 140 j = I 140 j ∧ I1 141 j = I 141 j := fun j hj => by
      rw [← hI1, p.2.1]
      simp only [pm_u_row, Nat.reduceEqDiff, if_true, if_false]
      exact ⟨pm_w_ne hj, pm_w_ne hj, pm_w_ne hj⟩
    have n1 : I1 139 k = 0 ∧ I1 140 k = 0 ∧ I1 141 k = -1 := by
      rw [← hI1, p.2.1]
      simp only [pm_u_row, Nat.reduceEqDiff, if_true, if_false, pm_w_at]
      exact ⟨trivial, trivial, trivial⟩
    have e1 := fun j (a : ¬ j = 79) (c : ¬ j = 139) (e : ¬ j = 140) (f : ¬ j = 141) => s1.1 j a c e f
    have e100 := e1 100 (by decide) (by decide) (by decide) (by decide)
    have no : ∀ I2, pm_a7 I1 I2 → ¬ pf_db I0 h (Int32.ofNat k) → pm_wp pm_code pm_meta (d + 7) 247 138 ([.ref 79, .int h, .int (pf_cn I0 h k), .int (Int32.ofNat k)], [], (pm_Gb L b, I2, J)) Q := fun I2 ha hno => by
      have ec : pf_cn I0 h (k + 1) = pf_cn I0 h k := by
        show pf_cn I0 h k - pf_g2 I0 h (Int32.ofNat k) = _
        unfold pf_g2
        rw [if_neg hno]; grind
      have z := ih (k + 1) I2 (by omega) (g4_a7 s1 ha) (fun j hj => by
        rw [ha.1 141 (by decide), ha.1 140 (by decide), ha.1 139 (by decide)]
        by_cases ej : j = k
        · subst ej
          unfold pf_g0 pf_g1 pf_g2
          rw [if_neg hno, if_neg hno, if_neg hno]
          exact ⟨n1.2.2, n1.2.1, n1.1⟩
        · have o := o1 j ej
          rw [o.1, o.2.1, o.2.2]; exact hh j (by omega))
      rw [ec] at z
      rw [pb_247_138, ek]
      exact z
    rw [e100]
    by_cases c1 : I0 100 (Int32.ofNat k).toNatClampNeg = h
    · rw [if_pos c1, pb_247_50]
      have st := st_cg (I := I0) (I1 := I1) (fun j h1 h2 => e1 j (by omega) (by omega) (by omega) (by omega)) (Int32.ofNat k)
      refine pr_isDebt (d := d) (g4_gv hV s1) i24 (by rw [e100]; exact i8) (by rw [e1 101 (by decide) (by decide) (by decide) (by decide)]; exact i16) (fun I2 ha => ?_)
      have e2 := fun j (h1 : ¬ j = 79) (c : ¬ j = 139) (e : ¬ j = 140) (f : ¬ j = 141) => (ha.1 j h1).trans (e1 j h1 c e f)
      have e99 := e1 99 (by decide) (by decide) (by decide) (by decide)
      have e88 := e1 88 (by decide) (by decide) (by decide) (by decide)
      rw [pb_247_55]
      by_cases c2 : pf_db I0 h (Int32.ofNat k)
      · have hyes := c2
        rw [pm_b_t' ⟨by rw [e99]; exact c2.2.1, by rw [e88, e100, c1]; exact hf, by rw [st.1]; exact c2.2.2⟩, if_neg (by decide), pb_247_58]
        refine ⟨i24, ?_⟩
        have f99 := e2 99 (by decide) (by decide) (by decide) (by decide)
        have f102 := e2 102 (by decide) (by decide) (by decide) (by decide)
        have at98 : pm_wp pm_code pm_meta (d + 7) 247 98 ([.ref 79, .int h, .int (pf_cn I0 h k), .int (Int32.ofNat k)], [.int (pf_tk I0 (Int32.ofNat k)), .int (Int32.ofNat k), .ref 139], (pm_Gb L b, I2, J)) Q := by
          rw [pb_247_98]
          refine ⟨i24, i24, i24, i24, ?_⟩
          have u1 : pm_u I2 139 (Int32.ofNat k).toNatClampNeg (pf_tk I0 (Int32.ofNat k)) 102 (Int32.ofNat k).toNatClampNeg = I0 102 (Int32.ofNat k).toNatClampNeg := by rw [pm_u_row, if_neg (by decide), f102]
          rw [u1, pm_u_at]
          generalize hI3 : pm_u (pm_u I2 139 (Int32.ofNat k).toNatClampNeg (pf_tk I0 (Int32.ofNat k))) 140 (Int32.ofNat k).toNatClampNeg (I0 102 (Int32.ofNat k).toNatClampNeg - pf_tk I0 (Int32.ofNat k)) = I3
          have s3 : pm_g4 I0 I3 := by rw [← hI3]; exact g4_u (by simp) (g4_u (by simp) (g4_a7 s1 ha))
          have e3 := fun j (a : ¬ j = 79) (c : ¬ j = 139) (e : ¬ j = 140) (f : ¬ j = 141) => s3.1 j a c e f
          have st3 := st_cg (I := I0) (I1 := I3) (fun j h1 h2 => e3 j (by omega) (by omega) (by omega) (by omega)) (Int32.ofNat k)
          have rko : ∀ (Q : Int32 → Int64 → pm_H → Prop), pm_wc pm_code pm_meta (d + 6) 244 [.ref 79, .int (Int32.ofNat k)] (pm_Gb L b, I3, J) Q ↔ Q (pf_rk I3 (Int32.ofNat k)) 0 (pm_Gb L b, pm_u I3 79 70 _, J) := fun Q => pr_rankOf (Q := Q) (d := d + 1) (g4_gv hV s3) i24 (by rw [e3 100 (by decide) (by decide) (by decide) (by decide)]; exact i8) (by rw [e3 101 (by decide) (by decide) (by decide) (by decide)]; exact i16)
          rw [rko, st3.2.1, pb_247_128]
          refine ⟨i24, i24, ?_⟩
          have v139 : ∀ t, pm_u (pm_u I3 79 70 t) 141 (Int32.ofNat k).toNatClampNeg (pf_rk I0 (Int32.ofNat k)) 139 (Int32.ofNat k).toNatClampNeg = pf_tk I0 (Int32.ofNat k) := fun t => by
            rw [pm_u_row, if_neg (by decide), pm_u_row, if_neg (by decide), ← hI3, pm_u_row, if_neg (by decide), pm_u_at]
          rw [v139, pb_247_138, ek]
          have ec : pf_cn I0 h (k + 1) = pf_cn I0 h k - pf_tk I0 (Int32.ofNat k) := by
            show pf_cn I0 h k - pf_g2 I0 h (Int32.ofNat k) = _
            unfold pf_g2
            rw [if_pos hyes]
          have z := fun t => ih (k + 1) (pm_u (pm_u I3 79 70 t) 141 (Int32.ofNat k).toNatClampNeg (pf_rk I0 (Int32.ofNat k))) (by omega) (g4_u (by simp) (g4_a7 s3 (a7_u a7_refl))) (fun j hj => by
            have r141 : pm_u (pm_u I3 79 70 t) 141 (Int32.ofNat k).toNatClampNeg (pf_rk I0 (Int32.ofNat k)) 141 = pm_w (I1 141) k (pf_rk I0 (Int32.ofNat k)) := by
              rw [pm_u_row, if_pos rfl, pm_u_row, if_neg (by decide), ← hI3, pm_u_row, if_neg (by decide), pm_u_row, if_neg (by decide), ha.1 141 (by decide), p.2.1]
            have r140 : pm_u (pm_u I3 79 70 t) 141 (Int32.ofNat k).toNatClampNeg (pf_rk I0 (Int32.ofNat k)) 140 = pm_w (I1 140) k (I0 102 k - pf_tk I0 (Int32.ofNat k)) := by
              rw [pm_u_row, if_neg (by decide), pm_u_row, if_neg (by decide), ← hI3, pm_u_row, if_pos rfl, pm_u_row, if_neg (by decide), ha.1 140 (by decide), p.2.1]
            have r139 : pm_u (pm_u I3 79 70 t) 141 (Int32.ofNat k).toNatClampNeg (pf_rk I0 (Int32.ofNat k)) 139 = pm_w (I1 139) k (pf_tk I0 (Int32.ofNat k)) := by
              rw [pm_u_row, if_neg (by decide), pm_u_row, if_neg (by decide), ← hI3, pm_u_row, if_neg (by decide), pm_u_row, if_pos rfl, ha.1 139 (by decide), p.2.1]
            rw [r141, r140, r139]
            simp only [pm_w_at]
            by_cases ej : j = k
            · subst ej
              unfold pf_g0 pf_g1 pf_g2
              rw [if_pos hyes, if_pos hyes, if_pos hyes, p.2.1]
              simp only [if_true]
              exact ⟨trivial, trivial, trivial⟩
            · have o := o1 j ej
              rw [if_neg ej, if_neg ej, if_neg ej, o.1, o.2.1, o.2.2]; exact hh j (by omega))
          rw [ec] at z
          exact z _
        rw [f99]
        by_cases c6 : I0 99 (Int32.ofNat k).toNatClampNeg = 6
        · have pl := hple.2.2.1 _ (pi_tnlt p.1 lk) c6
          have i24t := thi_in hthi pl.1 pl.2.1
          rw [if_pos c6, pb_247_74, e2 105 (by decide) (by decide) (by decide) (by decide), e2 96 (by decide) (by decide) (by decide) (by decide), f102]
          refine ⟨i24, i24, i24t, ?_⟩
          rw [pr_lesser, pb_247_94]
          have et : pf_tk I0 (Int32.ofNat k) = (if I0 96 (I0 105 (Int32.ofNat k).toNatClampNeg).toNatClampNeg < I0 102 (Int32.ofNat k).toNatClampNeg then I0 96 (I0 105 (Int32.ofNat k).toNatClampNeg).toNatClampNeg else I0 102 (Int32.ofNat k).toNatClampNeg) := if_pos c6
          rw [← et]
          exact at98
        · have et : pf_tk I0 (Int32.ofNat k) = 0 := if_neg c6
          rw [et] at at98
          rw [if_neg c6, pb_247_97]
          exact at98
      · rw [pm_b_f' (fun q => c2 ⟨c1, by have := q.1; rwa [e99] at this, by have := q.2.2; rwa [st.1] at this⟩), if_pos rfl]
        exact no I2 ha c2
    · rw [if_neg c1]
      exact no I1 a7_refl (fun q => c1 q.1)
theorem cn_rng {X : Nat → Int32} {b : Bool} {I : Nat → Nat → Int32} {J : Nat → Nat → Int64} (hI : pm_inv X b I J) {h : Int32} (h0 : 0 ≤ h) (h1 : h < I 80 2) (hf : 0 ≤ I 88 h.toNatClampNeg) : 0 ≤ (pf_cn I h (I 80 4).toNatClampNeg).toInt := by
  have hI' := hI
  have hI0 := hI
  obtain ⟨⟨htod, hroa, hper, hhou, hthi, hrig, hver, hsea, hsta, hlot, hbuy, hdee, hple⟩, htxt, hrid, htmp, hshe, hshf, htra, hk, hkept, hcon⟩ := hI
  have hn1 := (per_n hper).1
  have hn2 := (hou_n hhou).1
  have hn3 := (thi_n hthi).1
  have hn4 := (rig_n hrig).1
  have hn := rig_n hrig
  have t1 := pi_tni hn.1
  have t2 := pi_le.mp hn.2
  have e24 : (24 : Int32).toInt = 24 := rfl
  have had := (hple.1 _ (pi_tnlt h0 h1)).2.2 hf
  have nn : ∀ q : Nat, q < (I 80 4).toNatClampNeg → 0 ≤ (if I 99 q = 6 ∧ (I 100 q).toNatClampNeg = h.toNatClampNeg then (I 96 (I 105 q).toNatClampNeg).toInt else 0) := fun q hq => by
    split
    · next c =>
      have p := hple.2.2.1 q hq c.1
      have w := hple.2.1 _ (pi_tnlt p.1 p.2.1)
      have w1 := pi_le.mp w.1
      rw [pi_1] at w1; omega
    · exact Int.le_refl 0
  have mono : ∀ m q : Nat, q + m = (I 80 4).toNatClampNeg → pm_pl (I 96) (I 99) (I 100) (I 105) h.toNatClampNeg q ≤ pm_pl (I 96) (I 99) (I 100) (I 105) h.toNatClampNeg (I 80 4).toNatClampNeg := by
    intro m
    induction m with
    | zero => intro q e; rw [show q = (I 80 4).toNatClampNeg by omega]; exact Int.le_refl _
    | succ m ih =>
      intro q e
      refine Int.le_trans ?_ (ih (q + 1) (by omega))
      have := nn q (by omega)
      show _ ≤ pm_pl (I 96) (I 99) (I 100) (I 105) h.toNatClampNeg q + _
      omega
  have pos : ∀ q : Nat, q ≤ (I 80 4).toNatClampNeg → 0 ≤ pm_pl (I 96) (I 99) (I 100) (I 105) h.toNatClampNeg q := by
    intro q
    induction q with
    | zero => intro _; exact Int.le_refl 0
    | succ q ih =>
      intro hq
      have a := ih (by omega)
      have c := nn q (by omega)
      show 0 ≤ pm_pl (I 96) (I 99) (I 100) (I 105) h.toNatClampNeg q + _
      omega
  have key : ∀ q : Nat, q ≤ (I 80 4).toNatClampNeg → (I 93 h.toNatClampNeg).toInt - pm_pl (I 96) (I 99) (I 100) (I 105) h.toNatClampNeg q ≤ (pf_cn I h q).toInt ∧ (pf_cn I h q).toInt ≤ (I 93 h.toNatClampNeg).toInt := by
    intro q
    induction q with
    | zero => intro _; exact ⟨by show _ - 0 ≤ _; rw [Int.sub_zero]; exact Int.le_refl _, Int.le_refl _⟩
    | succ q ih =>
      intro hq
      have a := ih (by omega)
      have p := pi_on (j := q) (by omega)
      have lq : Int32.ofNat q < I 80 4 := pi_onlt (by omega) (by omega)
      have tk := tk_rng hI' p.1 lq
      have c := nn q (by omega)
      have mm := mono ((I 80 4).toNatClampNeg - q) q (by omega)
      have mm1 := mono ((I 80 4).toNatClampNeg - (q + 1)) (q + 1) (by omega)
      have hd := pi_hi (I 93 h.toNatClampNeg)
      have e1 : pm_pl (I 96) (I 99) (I 100) (I 105) h.toNatClampNeg (q + 1) = pm_pl (I 96) (I 99) (I 100) (I 105) h.toNatClampNeg q + (if I 99 q = 6 ∧ (I 100 q).toNatClampNeg = h.toNatClampNeg then (I 96 (I 105 q).toNatClampNeg).toInt else 0) := rfl
      have g2 : 0 ≤ (pf_g2 I h (Int32.ofNat q)).toInt ∧ (pf_g2 I h (Int32.ofNat q)).toInt ≤ (if I 99 q = 6 ∧ (I 100 q).toNatClampNeg = h.toNatClampNeg then (I 96 (I 105 q).toNatClampNeg).toInt else 0) := by
        unfold pf_g2
        by_cases cd : pf_db I h (Int32.ofNat q)
        · rw [if_pos cd]
          refine ⟨tk.1, ?_⟩
          have ch := cd.1
          rw [p.2.1] at ch tk
          by_cases c6 : I 99 q = 6
          · rw [if_pos ⟨c6, by rw [ch]⟩]; exact tk.2.2.2.2.2 c6
          · rw [if_neg (fun g => c6 g.1)]
            have : pf_tk I (Int32.ofNat q) = 0 := by unfold pf_tk; rw [p.2.1, if_neg c6]
            rw [this]; decide
        · rw [if_neg cd]; exact ⟨by decide, by rw [pi_0]; exact c⟩
      have sb := pi_sub (a := pf_cn I h q) (b := pf_g2 I h (Int32.ofNat q)) (by omega) (by omega)
      have ec : pf_cn I h (q + 1) = pf_cn I h q - pf_g2 I h (Int32.ofNat q) := rfl
      rw [ec, sb]; omega
  have := key (I 80 4).toNatClampNeg (Nat.le_refl _)
  omega

