/-! The reference's reckoning of the days as a whole. -/
theorem ag_70 {I0 I : Nat → Nat → Int32} {t : Int32} (h : pm_ag I0 I) : pm_ag I0 (pm_u I 79 70 t) := by
  refine ⟨fun k h1 h2 => ?_, fun j hj => ?_⟩
  · rw [pm_u_row, if_neg h1]; exact h.1 k h1 h2
  · rw [pm_u_row, if_pos rfl, pm_w_ne hj]; exact h.2 j hj
theorem ag_137 {I0 I : Nat → Nat → Int32} {q : Nat} {t : Int32} (h : pm_ag I0 I) : pm_ag I0 (pm_u I 137 q t) := by
  refine ⟨fun k h1 h2 => ?_, fun j hj => ?_⟩
  · rw [pm_u_row, if_neg h2]; exact h.1 k h1 h2
  · rw [pm_u_row, if_neg (by decide)]; exact h.2 j hj
theorem pr_goneL {d L : Nat} {b : Bool} {J : Nat → Nat → Int64} {x I0 : Nat → Nat → Int32} {Q : Int32 → Int64 → pm_H → Prop} (hI : pm_gr x I0) (hV : pm_gv I0 I0)
    (hQ : ∀ I', pm_ag I0 I' → (∀ j, j < (I0 80 4).toNatClampNeg → I' 137 j = pf_gone I0 j) → Q 0 0 (pm_Gb L b, I', J)) : ∀ (m : Nat) (q : Int32) (D : Option (Int32 × Int32)) (I : Nat → Nat → Int32),
    pm_ag I0 I → 0 ≤ q → q.toNatClampNeg + m = (I0 80 4).toNatClampNeg → (∀ j, j < q.toNatClampNeg → I 137 j = pf_gr (pf_ow I0) (I0 106) q.toNatClampNeg j) →
    pm_wp pm_code pm_meta (d + 6) 207 2 ([.ref 79, .int q, pm_vl (D.map (·.1)), pm_vl (D.map (·.2))], [], (pm_Gb L b, I, J)) Q := by
  intro m
  induction m with
  | zero =>
    intro q D I ag q0 hm hg
    have hIa := gr_ag hI ag
    have e80 : I 80 = I0 80 := ag.1 80 (by decide) (by decide)
    have t1 := pi_tni q0
    have n0 := (rig_n hIa.2.2.2).1
    have t2 := pi_tni n0
    rw [e80] at t2
    have hi : I 80 4 ≤ q := by rw [pi_le, e80]; omega
    have hq := hQ I ag (fun j hj => by rw [hg j (by omega)]; unfold pf_gone; rw [show q.toNatClampNeg = (I0 80 4).toNatClampNeg by omega])
    cases D with
    | none => simp only [Option.map, pm_vl_n]; rw [pb_207_2, if_pos hi, pb_207_174]; exact hq
    | some D => simp only [Option.map, pm_vl_s]; rw [pb_207_2b, if_pos hi, pb_207_174b]; exact hq
  | succ m ih =>
    intro q D I ag q0 hm hg
    have hver := gv_ag hV ag
    obtain ⟨htod, hper, hhou, hrig⟩ := gr_ag hI ag
    have e80 : I 80 = I0 80 := ag.1 80 (by decide) (by decide)
    have hn := rig_n hrig
    have e24 : (24 : Int32).toInt = 24 := rfl
    have t1 := pi_tni q0
    have t2 := pi_tni hn.1
    have t3 := pi_le.mp hn.2
    have q1 : q < I 80 4 := by rw [pi_lt]; rw [e80] at t2 t3 ⊢; omega
    have e5 : (q + 1).toNatClampNeg = q.toNatClampNeg + 1 := pi_tn1 q0 (by rw [pi_lt]; have := pi_lt.mp q1; have e : (2147483647 : Int32).toInt = 2147483647 := rfl; omega)
    have e6 : 0 ≤ q + 1 := by have := pi_lt.mp q1; rw [pi_le, pi_0, pi_add (by rw [pi_1]; omega) (by rw [pi_1]; omega), pi_1]; omega
    have g := (hrig.2 _ (pi_tnlt q0 q1)).2.2
    have gl := g.2.2.2.2.2.2.2.2.2.2.2.2
    have hl : I 106 q.toNatClampNeg < q := by rw [pi_lt]; have := gl.2.1; omega
    have i24 := rig_in hrig q0 q1
    have i8 := hou_in hhou g.2.2.1 g.2.2.2.1
    have i16 := per_in hper g.2.2.2.2.1 g.2.2.2.2.2.1
    have lp : ∀ j : Int32, 0 ≤ j → j < I 80 4 → -1 ≤ I 107 j.toNatClampNeg ∧ I 107 j.toNatClampNeg ≤ 3599 := fun j j0 j1 => by
      have := (hrig.2 _ (pi_tnlt j0 j1)).2.2
      obtain ⟨_, _, _, _, _, _, _, _, _, _, _, _, _, _, _, _, _, _, _, _, a1, a2, _⟩ := this
      exact ⟨a1, a2⟩
    have hf9 : I 88 (I 100 q.toNatClampNeg).toNatClampNeg ≤ 3599 := by
      have hg := (hhou.2 _ (pi_tnlt g.2.2.1 g.2.2.2.1)).2
      exact Int32.le_trans hg.2.2.2.1 htod.2.2
    have rng := gr_rng (B := pf_ow I0) (leans := I0 106) (N := (I0 80 4).toNatClampNeg) (fun q hq => ow_rng hI hq) q.toNatClampNeg (by omega)
    have hgl : 0 ≤ I 106 q.toNatClampNeg → I 137 (I 106 q.toNatClampNeg).toNatClampNeg = pf_gr (pf_ow I0) (I0 106) q.toNatClampNeg (I 106 q.toNatClampNeg).toNatClampNeg := fun h0 => hg _ (pi_tnlt h0 hl)
    refine (pr_gone1 (d := d) (L := L) (b := b) (I := I) (J := J) (q := q) (D := D) (Q := Q) hver i24 i8 i16 hn.1 hn.2 lp q0 q1 hf9 hl (fun h0 => by rw [hgl h0]; exact rng _)).mpr ?_
    have hv : (pf_e (pf_own (I 88 (I 100 q.toNatClampNeg).toNatClampNeg) (pf_rf (I 117) (I 119) 0 (pf_tl (pf_ans (I 85) (I 100) (I 102) (I 99) (I 105) (I 88) (I 101) (I 82) (I 83) q) (I 112) (I 113) (I 114) (I 115) (I 117) (I 118) (I 120) (I 121) (I 122) (I 123) (I 80 5) (I 88 (I 100 q.toNatClampNeg).toNatClampNeg) (I 99 q.toNatClampNeg) 0 4)) (pf_dis (I 99) (I 105) (I 107) (I 80 4) q)) (if 0 ≤ I 106 q.toNatClampNeg then I 137 (I 106 q.toNatClampNeg).toNatClampNeg else -1)) = pf_gr (pf_ow I0) (I0 106) (q.toNatClampNeg + 1) q.toNatClampNeg := by
      rw [gr_succ, pm_w_at, if_pos rfl, pi_ofNat q0]
      have e1 : (pf_own (I 88 (I 100 q.toNatClampNeg).toNatClampNeg) (pf_rf (I 117) (I 119) 0 (pf_tl (pf_ans (I 85) (I 100) (I 102) (I 99) (I 105) (I 88) (I 101) (I 82) (I 83) q) (I 112) (I 113) (I 114) (I 115) (I 117) (I 118) (I 120) (I 121) (I 122) (I 123) (I 80 5) (I 88 (I 100 q.toNatClampNeg).toNatClampNeg) (I 99 q.toNatClampNeg) 0 4)) (pf_dis (I 99) (I 105) (I 107) (I 80 4) q)) = pf_ow I0 q := by
        unfold pf_ow
        simp only [ag.1 80 (by decide) (by decide), ag.1 82 (by decide) (by decide), ag.1 83 (by decide) (by decide), ag.1 85 (by decide) (by decide), ag.1 88 (by decide) (by decide), ag.1 99 (by decide) (by decide), ag.1 100 (by decide) (by decide), ag.1 101 (by decide) (by decide), ag.1 102 (by decide) (by decide), ag.1 105 (by decide) (by decide), ag.1 106 (by decide) (by decide), ag.1 107 (by decide) (by decide), ag.1 112 (by decide) (by decide), ag.1 113 (by decide) (by decide), ag.1 114 (by decide) (by decide), ag.1 115 (by decide) (by decide), ag.1 116 (by decide) (by decide), ag.1 117 (by decide) (by decide), ag.1 118 (by decide) (by decide), ag.1 119 (by decide) (by decide), ag.1 120 (by decide) (by decide), ag.1 121 (by decide) (by decide), ag.1 122 (by decide) (by decide), ag.1 123 (by decide) (by decide)]
      rw [e1, ag.1 106 (by decide) (by decide)]
      rw [ag.1 106 (by decide) (by decide)] at hgl
      by_cases h0 : 0 ≤ I0 106 q.toNatClampNeg
      · rw [if_pos h0, if_pos h0, hgl h0]
      · rw [if_neg h0, if_neg h0]
    rw [hv]
    have ag2 : pm_ag I0 (if 0 ≤ I 88 (I 100 q.toNatClampNeg).toNatClampNeg then pm_u I 79 70 (pf_why (pf_tl (pf_ans (I 85) (I 100) (I 102) (I 99) (I 105) (I 88) (I 101) (I 82) (I 83) q) (I 112) (I 113) (I 114) (I 115) (I 117) (I 118) (I 120) (I 121) (I 122) (I 123) (I 80 5) (I 88 (I 100 q.toNatClampNeg).toNatClampNeg) (I 99 q.toNatClampNeg) 0 4)) else I) := by
      split
      · exact ag_70 ag
      · exact ag
    have r137 : (if 0 ≤ I 88 (I 100 q.toNatClampNeg).toNatClampNeg then pm_u I 79 70 (pf_why (pf_tl (pf_ans (I 85) (I 100) (I 102) (I 99) (I 105) (I 88) (I 101) (I 82) (I 83) q) (I 112) (I 113) (I 114) (I 115) (I 117) (I 118) (I 120) (I 121) (I 122) (I 123) (I 80 5) (I 88 (I 100 q.toNatClampNeg).toNatClampNeg) (I 99 q.toNatClampNeg) 0 4)) else I) 137 = I 137 := by
      split
      · exact pm_u_off (by decide)
      · rfl
    generalize (if 0 ≤ I 88 (I 100 q.toNatClampNeg).toNatClampNeg then pm_u I 79 70 (pf_why (pf_tl (pf_ans (I 85) (I 100) (I 102) (I 99) (I 105) (I 88) (I 101) (I 82) (I 83) q) (I 112) (I 113) (I 114) (I 115) (I 117) (I 118) (I 120) (I 121) (I 122) (I 123) (I 80 5) (I 88 (I 100 q.toNatClampNeg).toNatClampNeg) (I 99 q.toNatClampNeg) 0 4)) else I) = I2 at ag2 r137 ⊢
    refine ih (q + 1) (some (_, _)) _ (ag_137 ag2) e6 (by omega) (fun j hj => ?_)
    rw [e5] at hj ⊢
    rw [pm_u_row, if_pos rfl, pm_w_at]
    split
    · next e => rw [e]
    · next e => rw [r137, hg j (by omega), gr_succ, pm_w_ne e]
theorem pr_findGone {d L : Nat} {b : Bool} {I : Nat → Nat → Int32} {J : Nat → Nat → Int64} {x : Nat → Nat → Int32} {Q : Int32 → Int64 → pm_H → Prop} (hI : pm_gr x I) (hV : pm_gv I I)
    (hQ : ∀ I', pm_ag I I' → (∀ j, j < (I 80 4).toNatClampNeg → I' 137 j = pf_gone I j) → Q 0 0 (pm_Gb L b, I', J)) : pm_wc pm_code pm_meta (d + 6) 207 [.ref 79] (pm_Gb L b, I, J) Q := by
  rw [pb_207_0]
  exact pr_goneL hI hV hQ (I 80 4).toNatClampNeg 0 none I ag_refl (Int32.le_refl 0) (by simp) (fun j hj => absurd hj (Nat.not_lt_zero _))

