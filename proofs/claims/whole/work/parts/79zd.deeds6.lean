/-! THE CALLS title, quarrels, owed. -/
theorem wr_stop {fr to day amount : Nat → Int32} {D person : Int32} : ∀ (l : List Nat) (has o q s : Int32), (∀ x ∈ l, ¬ day x ≤ D) → (pf_wr fr to day amount D person l has o q s).1 = o ∧ (pf_wr fr to day amount D person l has o q s).2.2 = s
  | [], _, _, _, _, _ => ⟨rfl, rfl⟩
  | x :: l, has, o, q, s, h => by
    unfold pf_wr
    have hx := h x (by simp)
    have hl := fun y hy => h y (List.mem_cons_of_mem x hy)
    split
    · exact wr_stop l _ _ _ _ hl
    · first | exact wr_stop l _ _ _ _ hl | (rw [if_neg hx]; exact wr_stop l _ _ _ _ hl)
theorem walk_eq {fr to day amount : Nat → Int32} {D person : Int32} : ∀ (l : List Nat) (first : Bool) (h q q2 s : Int32), (first = true ↔ h = -3) → l.Pairwise (fun a c => day a ≤ day c) → (∀ x ∈ l, 0 ≤ to x) →
    (pf_wx fr to day amount D person l first h q s).1 = (pf_wr fr to day amount D person l h h q2 s).1 ∧ (pf_wx fr to day amount D person l first h q s).2.2 = (pf_wr fr to day amount D person l h h q2 s).2.2 ∧ ((∀ x ∈ l, day x ≤ D) → q = q2 → (pf_wx fr to day amount D person l first h q s).2.1 = (pf_wr fr to day amount D person l h h q2 s).2.1)
  | [], _, _, _, _, _, _, _, _ => ⟨rfl, rfl, fun _ e => e⟩
  | x :: l, first, h, q, q2, s, hf, hs, ht => by
    have hs2 := List.pairwise_cons.mp hs
    have tl := fun y hy => ht y (List.mem_cons_of_mem x hy)
    by_cases c : day x ≤ D
    · unfold pf_wx pf_wr
      rw [if_pos c, if_pos c]
      by_cases c1 : first = false ∧ ¬ fr x = h
      · have c2 : ¬ h = -3 ∧ ¬ fr x = h := ⟨fun e => by have := hf.mpr e; rw [c1.1] at this; exact absurd this (by decide), c1.2⟩
        rw [if_pos c1, if_pos c2]
        have hf2 : (false = true ↔ h = -3) := ⟨fun e => absurd e (by decide), fun e => absurd e c2.1⟩
        have z := walk_eq (fr := fr) (amount := amount) (D := D) (person := person) l false h (q + 1) (q2 + 1) s hf2 hs2.2 tl
        exact ⟨z.1, z.2.1, fun g e => z.2.2 (fun y hy => g y (List.mem_cons_of_mem x hy)) (by rw [e])⟩
      · have c2 : ¬ (¬ h = -3 ∧ ¬ fr x = h) := fun g => c1 ⟨by
          cases first with
          | true => exact absurd (hf.mp rfl) g.1
          | false => rfl, g.2⟩
        rw [if_neg c1, if_neg c2]
        have tx := ht x (by simp)
        have hf2 : (false = true ↔ to x = -3) := ⟨fun e => absurd e (by decide), fun e => by rw [e] at tx; exact absurd tx (by decide)⟩
        have es : s + (if fr x = person then amount x else 0) = (if fr x = person then s + amount x else s) := by
          split
          · rfl
          · exact Int32.add_zero _
        rw [es]
        have z := walk_eq (fr := fr) (amount := amount) (D := D) (person := person) l false (to x) q q2 (if fr x = person then s + amount x else s) hf2 hs2.2 tl
        exact ⟨z.1, z.2.1, fun g e => z.2.2 (fun y hy => g y (List.mem_cons_of_mem x hy)) e⟩
    · have hx : pf_wx fr to day amount D person (x :: l) first h q s = (h, q, s) := if_neg c
      have hr := wr_stop (fr := fr) (to := to) (day := day) (amount := amount) (D := D) (person := person) (x :: l) h h q2 s (fun y hy => by
        rcases List.mem_cons.mp hy with e | e
        · subst e; exact c
        · exact fun g => c (Int32.le_trans (hs2.1 y e) g))
      rw [hx]
      exact ⟨hr.1.symm, hr.2.symm, fun g _ => absurd (g x (by simp)) c⟩
theorem px_follow {d L : Nat} {b : Bool} {I : Nat → Nat → Int32} {J : Nat → Nat → Int64} {x1 x2 x3 x4 : Int32} {n : Int32} {field fr to day amount known : Nat → Int32} {Q : Int32 → Int64 → pm_H → Prop} (hd : pg_dee (I 34) (I 35) n field fr to day amount known) (ht : pm_ti (I 65) 1 24)
    (hQ : ∀ I', (∀ k, ¬ k = 64 → ¬ k = 65 → ¬ k = 66 → I' k = I k) → pm_ti (I' 65) 1 24 → (I' 64 2, I' 64 3, I' 64 4) = pf_wx fr to day amount x2 x4 (pf_lnr day (fun k => field k = x1 ∧ known k ≤ x3) n.toNatClampNeg).reverse true (-3) 0 0 → Q 0 0 (pm_Gb L b, I', J)) :
    pm_wc pm_code pm_meta (d + 2) 8 [.ref 64, .int x1, .int x2, .int x3, .int x4] (pm_Gb L b, I, J) Q := by
  have hn := dee_n hd
  have e24 : (24 : Int32).toInt = 24 := rfl
  have t1 := pi_tni hn.1
  have t2 := pi_le.mp hn.2
  have ll := lnr_len (day := day) (E := fun k => field k = x1 ∧ known k ≤ x3) n.toNatClampNeg
  rw [pb_8_0]
  refine px_lineUp hd ht (fun I1 hs1 ht1 hc1 hh1 => ?_)
  rw [pb_8_6]
  generalize hI2 : pm_u (pm_u (pm_u I1 64 2 (-3)) 64 3 0) 64 4 0 = I2
  have r2 : ∀ k, ¬ k = 64 → I2 k = I1 k := fun k h => by rw [← hI2, pm_u_row, if_neg h, pm_u_row, if_neg h, pm_u_row, if_neg h]
  have v4 : I2 64 4 = 0 := by rw [← hI2]; exact pm_u_at _ _ _ _
  have v3 : I2 64 3 = 0 := by rw [← hI2, pm_u_row, if_pos rfl, pm_w_ne (by decide), pm_u_at]
  have v2 : I2 64 2 = -3 := by rw [← hI2, pm_u_row, if_pos rfl, pm_w_ne (by decide), pm_u_row, if_pos rfl, pm_w_ne (by decide), pm_u_at]
  have hd2 : pg_dee (I2 34) (I2 35) n field fr to day amount known := by
    rw [r2 34 (by decide), r2 35 (by decide), hs1 34 (by decide) (by decide), hs1 35 (by decide) (by decide)]; exact hd
  refine px_follow_loop (I0 := I2) (x2 := x2) (x3 := x3) (x4 := x4) hd2 (by rw [r2 65 (by decide)]; exact ht1) (pf_lnr day (fun k => field k = x1 ∧ known k ≤ x3) n.toNatClampNeg).reverse (by rw [r2 65 (by decide), hc1, List.length_reverse]) (by rw [r2 66 (by decide), List.reverse_reverse]; exact hh1) (fun x hx => ((lnr_mem _).mp (List.mem_reverse.mp hx)).1) (by rw [List.length_reverse]; omega) (pf_lnr day (fun k => field k = x1 ∧ known k ≤ x3) n.toNatClampNeg).reverse [] none I2 (by simp) (fun _ _ => rfl) (fun I' h1 h2 => ?_)
  refine hQ I' (fun k g1 g2 g3 => by rw [h1 k g1, r2 k g1, hs1 k g2 g3]) (by rw [h1 65 (by decide), r2 65 (by decide)]; exact ht1) ?_
  rw [h2, v2, v3, v4]
  rfl
theorem pr_follows {d L : Nat} {b : Bool} {I : Nat → Nat → Int32} {J : Nat → Nat → Int64} {x1 x2 x3 x4 : Int32} {Q : Int32 → Int64 → pm_H → Prop} (n0 : 0 ≤ I 80 9) (n24 : I 80 9 ≤ 24)
    (hQ : ∀ I', (∀ k, ¬ k = 79 → I' k = I k) → (∀ j, ¬ j = 89 → ¬ j = 90 → ¬ j = 91 → I' 79 j = I 79 j) → (I' 79 89, I' 79 90, I' 79 91) = pf_wr (I 131) (I 132) (I 133) (I 134) x2 x4 (pf_lnr (I 133) (fun k => I 130 k = x1 ∧ I 135 k ≤ x3) (I 80 9).toNatClampNeg).reverse (-3) (-3) 0 0 → Q 0 0 (pm_Gb L b, I', J)) :
    pm_wc pm_code pm_meta d 278 [.ref 79, .int x1, .int x2, .int x3, .int x4] (pm_Gb L b, I, J) Q := by
  rw [pb_278_0]
  generalize hI2 : pm_u (pm_u (pm_u I 79 89 (-3)) 79 90 0) 79 91 0 = I2
  have r2 : ∀ k, ¬ k = 79 → I2 k = I k := fun k h => by rw [← hI2, pm_u_row, if_neg h, pm_u_row, if_neg h, pm_u_row, if_neg h]
  have r3 : ∀ j, ¬ j = 89 → ¬ j = 90 → ¬ j = 91 → I2 79 j = I 79 j := fun j h1 h2 h3 => by
    rw [← hI2, pm_u_row, if_pos rfl, pm_w_ne h3, pm_u_row, if_pos rfl, pm_w_ne h2, pm_u_row, if_pos rfl, pm_w_ne h1]
  have v4 : I2 79 91 = 0 := by rw [← hI2]; exact pm_u_at _ _ _ _
  have v3 : I2 79 90 = 0 := by rw [← hI2, pm_u_row, if_pos rfl, pm_w_ne (by decide), pm_u_at]
  have v2 : I2 79 89 = -3 := by rw [← hI2, pm_u_row, if_pos rfl, pm_w_ne (by decide), pm_u_row, if_pos rfl, pm_w_ne (by decide), pm_u_at]
  refine pr_follows_loop (I0 := I) (x3 := x3) n0 n24 (pf_lnr (I 133) (fun k => I 130 k = x1 ∧ I 135 k ≤ x3) (I 80 9).toNatClampNeg).reverse (fun x => ?_) ?_ (pf_lnr (I 133) (fun k => I 130 k = x1 ∧ I 135 k ≤ x3) (I 80 9).toNatClampNeg).reverse [] none (-3) none I2 (by simp) (Or.inl ⟨rfl, rfl⟩) r2 r3 (fun I' h1 h2 h3 => hQ I' h1 h2 (by rw [h3, v2, v3, v4]))
  · rw [List.mem_reverse]; exact lnr_mem _
  · rw [List.pairwise_reverse]; exact lnr_sorted _
theorem pr_isField' {d L : Nat} {b : Bool} {I : Nat → Nat → Int32} {J : Nat → Nat → Int64} {x : Int32} {Q : Int32 → Int64 → pm_H → Prop} : pm_wc pm_code pm_meta (d + 1) 276 [.int x] (pm_Gb L b, I, J) Q ↔ Q (pm_b (0 ≤ x ∧ x ≤ 5)) 0 (pm_Gb L b, I, J) := by
  rw [pb_276_0, pr_in, pb_276_6]
  simp only [pm_b_fit, true_and]
theorem inv_65 {X : Nat → Int32} {b : Bool} {I I' : Nat → Nat → Int32} {J : Nat → Nat → Int64} (hI : pm_inv X b I J) (h : ∀ k, ¬ k = 64 → ¬ k = 65 → ¬ k = 66 → I' k = I k) (ht : pm_ti (I' 65) 1 24) : pm_inv X b I' J := by
  have e : I' = pm_r (pm_r (pm_r I 64 (I' 64)) 65 (I' 65)) 66 (I' 66) := by
    funext k j
    simp only [pm_r_row]
    by_cases h1 : k = 66
    · subst h1; rw [if_pos rfl]
    · by_cases h2 : k = 65
      · subst h2; rw [if_neg h1, if_pos rfl]
      · by_cases h3 : k = 64
        · subst h3; rw [if_neg h1, if_neg h2, if_pos rfl]
        · rw [if_neg h1, if_neg h2, if_neg h3, h k h3 h2 h1]
  rw [e]
  have hI0 := hI
  obtain ⟨⟨htod, hroa, hper, hhou, hthi, hrig, hver, hsea, hsta, hlot, hbuy, hdee, hple⟩, htxt, hrid, htmp, hshe, hshf, htra, hk, hkept, hcon⟩ := hI
  have hn1 := (per_n hper).1
  have hn2 := (hou_n hhou).1
  have hn3 := (thi_n hthi).1
  have hn4 := (rig_n hrig).1
  simp only [pm_inv, pm_land, pm_u_row, pm_zr_row, pm_w_at, Nat.reduceEqDiff, ite_true, ite_false, pm_kept_u, pm_kept_z, pm_kept_r, pm_r_row, ne_eq, not_false_eq_true, Nat.reduceLT, hcon, htod, hroa, hper, hhou, hthi, hrig, hver, hsea, hsta, hlot, hbuy, hdee, hple, htxt, hrid, htmp, hshe, hshf, htra, hk, hkept, true_and, and_true]
  exact ⟨htmp.1, htmp.2.1, htmp.2.2.1, htmp.2.2.2.1, ht, htmp.2.2.2.2.2⟩
theorem inv_79 {X : Nat → Int32} {b : Bool} {I I' : Nat → Nat → Int32} {J : Nat → Nat → Int64} (hI : pm_inv X b I J) (h : ∀ k, ¬ k = 79 → I' k = I k) (h2 : ∀ j, ¬ j = 89 → ¬ j = 90 → ¬ j = 91 → I' 79 j = I 79 j) : pm_inv X b I' J := by
  have e : I' = pm_u (pm_u (pm_u I 79 89 (I' 79 89)) 79 90 (I' 79 90)) 79 91 (I' 79 91) := by
    funext k j
    simp only [pm_u_row]
    by_cases h1 : k = 79
    · subst h1
      simp only [if_true, pm_w_at]
      by_cases k1 : j = 91
      · subst k1; rw [if_pos rfl]
      · by_cases k2 : j = 90
        · subst k2; rw [if_neg k1, if_pos rfl]
        · by_cases k3 : j = 89
          · subst k3; rw [if_neg k1, if_neg k2, if_pos rfl]
          · rw [if_neg k1, if_neg k2, if_neg k3, h2 j k3 k2 k1]
    · simp only [h1, if_false]; rw [h k h1]
  rw [e]
  have hI0 := hI
  obtain ⟨⟨htod, hroa, hper, hhou, hthi, hrig, hver, hsea, hsta, hlot, hbuy, hdee, hple⟩, htxt, hrid, htmp, hshe, hshf, htra, hk, hkept, hcon⟩ := hI
  have hn1 := (per_n hper).1
  have hn2 := (hou_n hhou).1
  have hn3 := (thi_n hthi).1
  have hn4 := (rig_n hrig).1
  simp only [pm_inv, pm_land, pm_u_row, pm_zr_row, pm_w_at, Nat.reduceEqDiff, ite_true, ite_false, pm_kept_u, pm_kept_z, pm_kept_r, pm_r_row, ne_eq, not_false_eq_true, Nat.reduceLT, hcon, htod, hroa, hper, hhou, hthi, hrig, hver, hsea, hsta, hlot, hbuy, hdee, hple, htxt, hrid, htmp, hshe, hshf, htra, hk, hkept, true_and, and_true]
theorem deeds_eq {t c : Nat → Int32} {n : Int32} {field fr to day amount known : Nat → Int32} (hd : pg_dee t c n field fr to day amount known) {f k D person : Int32} :
    (pf_wx fr to day amount D person (pf_lnr day (fun j => field j = f ∧ known j ≤ k) n.toNatClampNeg).reverse true (-3) 0 0).1 = (pf_wr fr to day amount D person (pf_lnr day (fun j => field j = f ∧ known j ≤ k) n.toNatClampNeg).reverse (-3) (-3) 0 0).1 ∧ (pf_wx fr to day amount D person (pf_lnr day (fun j => field j = f ∧ known j ≤ k) n.toNatClampNeg).reverse true (-3) 0 0).2.2 = (pf_wr fr to day amount D person (pf_lnr day (fun j => field j = f ∧ known j ≤ k) n.toNatClampNeg).reverse (-3) (-3) 0 0).2.2 ∧ (D = 3599 → (pf_wx fr to day amount D person (pf_lnr day (fun j => field j = f ∧ known j ≤ k) n.toNatClampNeg).reverse true (-3) 0 0).2.1 = (pf_wr fr to day amount D person (pf_lnr day (fun j => field j = f ∧ known j ≤ k) n.toNatClampNeg).reverse (-3) (-3) 0 0).2.1) := by
  have mem : ∀ x ∈ (pf_lnr day (fun j => field j = f ∧ known j ≤ k) n.toNatClampNeg).reverse, x < n.toNatClampNeg := fun x hx => ((lnr_mem _).mp (List.mem_reverse.mp hx)).1
  have z := walk_eq (fr := fr) (to := to) (day := day) (amount := amount) (D := D) (person := person) (pf_lnr day (fun j => field j = f ∧ known j ≤ k) n.toNatClampNeg).reverse true (-3) 0 0 0 (by simp) (by
    rw [List.pairwise_reverse]
    refine List.Pairwise.imp (fun h => ?_) (lnr_sorted _)
    rcases h with h | h
    · exact Int32.le_of_lt h
    · rw [h.1]; exact Int32.le_refl _) (fun x hx => (hd.2 x (mem x hx)).2.2.1)
  exact ⟨z.1, z.2.1, fun e => z.2.2 (fun x hx => by rw [e]; exact (hd.2 x (mem x hx)).2.2.2.2) rfl⟩
theorem po_title {d L : Nat} {b : Bool} {I : Nat → Nat → Int32} {J : Nat → Nat → Int64} {X : Nat → Int32} {x1 x2 x3 : Int32} (hI : pm_inv X b I J) : pm_wc pm_code pm_meta (d + 20) 160 [.ref 8, .int x1, .int x2, .int x3] (pm_Gb L b, I, J) (fun v _ H => pm_wc pm_code pm_meta (d + 20) 279 [.ref 79, .int x1, .int x2, .int x3] H (pm_ok X L b v)) := by
  have hI0 := hI
  obtain ⟨⟨htod, hroa, hper, hhou, hthi, hrig, hver, hsea, hsta, hlot, hbuy, hdee, hple⟩, htxt, hrid, htmp, hshe, hshf, htra, hk, hkept, hcon⟩ := hI
  have hn1 := (per_n hper).1
  have hn2 := (hou_n hhou).1
  have hn3 := (thi_n hthi).1
  have hn4 := (rig_n hrig).1
  by_cases hc : (0 ≤ x1 ∧ x1 ≤ 5) ∧ (0 ≤ x2 ∧ x2 ≤ 3599) ∧ (0 ≤ x3 ∧ x3 ≤ I 80 0)
  · simp only [pb_160_0, px_isWithin, hc.1, pb_160_6, pb_160_9, px_isDay, hc.2.1, pb_160_13, pb_160_16, htod.1, hc.2.2, pb_160_28, pb_160_33, pl_1_0, not_false_eq_true, not_true_eq_false, and_self, and_true, true_and, false_and, and_false, or_true, true_or, or_false, false_or, or_self, Int32.reduceLE, Int32.reduceLT, pi_lt0, pm_b_eq0, pm_b_eq1, ite_not, pm_k0, pm_k1, pm_b_fit, true_and, and_true, not_true_eq_false, not_false_eq_true, ite_true, ite_false, if_true, if_false]
    refine px_follow (d := d + 17) hdee htmp.2.2.2.2.1 (fun I1 h1 h2 h3 => ?_)
    have hI1 := inv_65 hI0 h1 h2
    have r := fun k (g1 : ¬ k = 64) (g2 : ¬ k = 65) (g3 : ¬ k = 66) => h1 k g1 g2 g3
    have e80 := r 80 (by decide) (by decide) (by decide)
    have q0 : 0 ≤ I1 80 1 := by rw [e80]; exact hn1
    rw [pb_160_45]
    simp only [pb_279_0, pr_isField', hc.1, pb_279_4, pb_279_7, pr_isDay, hc.2.1, pb_279_11, pb_279_14, pr_in, hc.2.2, pb_279_25, pb_279_30, e80, pl_1_0, not_false_eq_true, not_true_eq_false, and_self, and_true, true_and, false_and, and_false, or_true, true_or, or_false, false_or, or_self, Int32.reduceLE, Int32.reduceLT, pi_lt0, pm_b_eq0, pm_b_eq1, ite_not, pm_k0, pm_k1, pm_b_fit, true_and, and_true, not_true_eq_false, not_false_eq_true, ite_true, ite_false, if_true, if_false]
    refine pr_follows (d := d + 19) (by rw [e80]; exact (dee_n hdee).1) (by rw [e80]; exact (dee_n hdee).2) (fun I2 g1 g2 g3 => ?_)
    rw [pb_279_39]
    refine pm_okI2 ?_ (inv_79 hI1 g1 g2)
    simp only [e80, r 130 (by decide) (by decide) (by decide), r 131 (by decide) (by decide) (by decide), r 132 (by decide) (by decide) (by decide), r 133 (by decide) (by decide) (by decide), r 134 (by decide) (by decide) (by decide), r 135 (by decide) (by decide) (by decide)] at g3
    have z := deeds_eq hdee (f := x1) (k := x3) (D := x2) (person := (-3))
    rw [← h3, ← g3] at z
    exact z.1.symm
  · by_cases c1 : 0 ≤ x1 ∧ x1 ≤ 5
    · by_cases c2 : 0 ≤ x2 ∧ x2 ≤ 3599
      · have c3 : ¬ (0 ≤ x3 ∧ x3 ≤ I 80 0) := fun q => hc ⟨c1, c2, q⟩
        simp only [pb_160_0, pb_160_6, pb_160_31, pb_160_9, pb_160_13, pb_160_16, pb_160_28, pb_160_33, pb_160_45, pb_279_0, pb_279_4, pb_279_28, pb_279_7, pb_279_11, pb_279_14, pb_279_25, pb_279_30, pb_279_39, px_isWithin, px_isDay, pr_isField', pr_isDay, pr_in, htod.1, c1, c2, c3, pl_1_0, not_false_eq_true, not_true_eq_false, and_self, and_true, true_and, false_and, and_false, or_true, true_or, or_false, false_or, or_self, Int32.reduceLE, Int32.reduceLT, pi_lt0, pm_b_eq0, pm_b_eq1, ite_not, pm_k0, pm_k1, pm_b_fit, true_and, and_true, not_true_eq_false, not_false_eq_true, ite_true, ite_false, if_true, if_false]
        with_reducible exact pm_okJ hI0
      · simp only [pb_160_0, pb_160_6, pb_160_31, pb_160_9, pb_160_13, pb_160_16, pb_160_28, pb_160_33, pb_160_45, pb_279_0, pb_279_4, pb_279_28, pb_279_7, pb_279_11, pb_279_14, pb_279_25, pb_279_30, pb_279_39, px_isWithin, px_isDay, pr_isField', pr_isDay, pr_in, htod.1, c1, c2, pl_1_0, not_false_eq_true, not_true_eq_false, and_self, and_true, true_and, false_and, and_false, or_true, true_or, or_false, false_or, or_self, Int32.reduceLE, Int32.reduceLT, pi_lt0, pm_b_eq0, pm_b_eq1, ite_not, pm_k0, pm_k1, pm_b_fit, true_and, and_true, not_true_eq_false, not_false_eq_true, ite_true, ite_false, if_true, if_false]
        with_reducible exact pm_okJ hI0
    · simp only [pb_160_0, pb_160_6, pb_160_31, pb_160_9, pb_160_13, pb_160_16, pb_160_28, pb_160_33, pb_160_45, pb_279_0, pb_279_4, pb_279_28, pb_279_7, pb_279_11, pb_279_14, pb_279_25, pb_279_30, pb_279_39, px_isWithin, px_isDay, pr_isField', pr_isDay, pr_in, htod.1, c1, pl_1_0, not_false_eq_true, not_true_eq_false, and_self, and_true, true_and, false_and, and_false, or_true, true_or, or_false, false_or, or_self, Int32.reduceLE, Int32.reduceLT, pi_lt0, pm_b_eq0, pm_b_eq1, ite_not, pm_k0, pm_k1, pm_b_fit, true_and, and_true, not_true_eq_false, not_false_eq_true, ite_true, ite_false, if_true, if_false]
      with_reducible exact pm_okJ hI0
theorem po_quarrels {d L : Nat} {b : Bool} {I : Nat → Nat → Int32} {J : Nat → Nat → Int64} {X : Nat → Int32} {x1 x2 : Int32} (hI : pm_inv X b I J) : pm_wc pm_code pm_meta (d + 20) 161 [.ref 8, .int x1, .int x2] (pm_Gb L b, I, J) (fun v _ H => pm_wc pm_code pm_meta (d + 20) 280 [.ref 79, .int x1, .int x2] H (pm_ok X L b v)) := by
  have hI0 := hI
  obtain ⟨⟨htod, hroa, hper, hhou, hthi, hrig, hver, hsea, hsta, hlot, hbuy, hdee, hple⟩, htxt, hrid, htmp, hshe, hshf, htra, hk, hkept, hcon⟩ := hI
  have hn1 := (per_n hper).1
  have hn2 := (hou_n hhou).1
  have hn3 := (thi_n hthi).1
  have hn4 := (rig_n hrig).1
  by_cases hc : (0 ≤ x1 ∧ x1 ≤ 5) ∧ (0 ≤ x2 ∧ x2 ≤ I 80 0)
  · simp only [pb_161_0, px_isWithin, hc.1, pb_161_6, pb_161_9, htod.1, hc.2, pb_161_21, pb_161_26, pl_1_0, not_false_eq_true, not_true_eq_false, and_self, and_true, true_and, false_and, and_false, or_true, true_or, or_false, false_or, or_self, Int32.reduceLE, Int32.reduceLT, pi_lt0, pm_b_eq0, pm_b_eq1, ite_not, pm_k0, pm_k1, pm_b_fit, true_and, and_true, not_true_eq_false, not_false_eq_true, ite_true, ite_false, if_true, if_false]
    refine px_follow (d := d + 17) hdee htmp.2.2.2.2.1 (fun I1 h1 h2 h3 => ?_)
    have hI1 := inv_65 hI0 h1 h2
    have r := fun k (g1 : ¬ k = 64) (g2 : ¬ k = 65) (g3 : ¬ k = 66) => h1 k g1 g2 g3
    have e80 := r 80 (by decide) (by decide) (by decide)
    have q0 : 0 ≤ I1 80 1 := by rw [e80]; exact hn1
    rw [pb_161_40]
    simp only [pb_280_0, pr_isField', hc.1, pb_280_4, pb_280_7, pr_in, hc.2, pb_280_18, pb_280_23, e80, pl_1_0, not_false_eq_true, not_true_eq_false, and_self, and_true, true_and, false_and, and_false, or_true, true_or, or_false, false_or, or_self, Int32.reduceLE, Int32.reduceLT, pi_lt0, pm_b_eq0, pm_b_eq1, ite_not, pm_k0, pm_k1, pm_b_fit, true_and, and_true, not_true_eq_false, not_false_eq_true, ite_true, ite_false, if_true, if_false]
    refine pr_follows (d := d + 19) (by rw [e80]; exact (dee_n hdee).1) (by rw [e80]; exact (dee_n hdee).2) (fun I2 g1 g2 g3 => ?_)
    rw [pb_280_34]
    refine pm_okI2 ?_ (inv_79 hI1 g1 g2)
    simp only [e80, r 130 (by decide) (by decide) (by decide), r 131 (by decide) (by decide) (by decide), r 132 (by decide) (by decide) (by decide), r 133 (by decide) (by decide) (by decide), r 134 (by decide) (by decide) (by decide), r 135 (by decide) (by decide) (by decide)] at g3
    have z := deeds_eq hdee (f := x1) (k := x2) (D := 3599) (person := (-3))
    rw [← h3, ← g3] at z
    exact (z.2.2 rfl).symm
  · by_cases c1 : 0 ≤ x1 ∧ x1 ≤ 5
    · have c3 : ¬ (0 ≤ x2 ∧ x2 ≤ I 80 0) := fun q => hc ⟨c1, q⟩
      simp only [pb_161_0, pb_161_6, pb_161_24, pb_161_9, pb_161_21, pb_161_26, pb_161_40, pb_280_0, pb_280_4, pb_280_21, pb_280_7, pb_280_18, pb_280_23, pb_280_34, px_isWithin, pr_isField', pr_in, htod.1, c1, c3, pl_1_0, not_false_eq_true, not_true_eq_false, and_self, and_true, true_and, false_and, and_false, or_true, true_or, or_false, false_or, or_self, Int32.reduceLE, Int32.reduceLT, pi_lt0, pm_b_eq0, pm_b_eq1, ite_not, pm_k0, pm_k1, pm_b_fit, true_and, and_true, not_true_eq_false, not_false_eq_true, ite_true, ite_false, if_true, if_false]
      with_reducible exact pm_okJ hI0
    · simp only [pb_161_0, pb_161_6, pb_161_24, pb_161_9, pb_161_21, pb_161_26, pb_161_40, pb_280_0, pb_280_4, pb_280_21, pb_280_7, pb_280_18, pb_280_23, pb_280_34, px_isWithin, pr_isField', pr_in, htod.1, c1, pl_1_0, not_false_eq_true, not_true_eq_false, and_self, and_true, true_and, false_and, and_false, or_true, true_or, or_false, false_or, or_self, Int32.reduceLE, Int32.reduceLT, pi_lt0, pm_b_eq0, pm_b_eq1, ite_not, pm_k0, pm_k1, pm_b_fit, true_and, and_true, not_true_eq_false, not_false_eq_true, ite_true, ite_false, if_true, if_false]
      with_reducible exact pm_okJ hI0
theorem po_owed {d L : Nat} {b : Bool} {I : Nat → Nat → Int32} {J : Nat → Nat → Int64} {X : Nat → Int32} {x1 x2 x3 x4 : Int32} (hI : pm_inv X b I J) : pm_wc pm_code pm_meta (d + 20) 162 [.ref 8, .int x1, .int x2, .int x3, .int x4] (pm_Gb L b, I, J) (fun v _ H => pm_wc pm_code pm_meta (d + 20) 281 [.ref 79, .int x1, .int x2, .int x3, .int x4] H (pm_ok X L b v)) := by
  have hI0 := hI
  obtain ⟨⟨htod, hroa, hper, hhou, hthi, hrig, hver, hsea, hsta, hlot, hbuy, hdee, hple⟩, htxt, hrid, htmp, hshe, hshf, htra, hk, hkept, hcon⟩ := hI
  have hn1 := (per_n hper).1
  have hn2 := (hou_n hhou).1
  have hn3 := (thi_n hthi).1
  have hn4 := (rig_n hrig).1
  by_cases hc : (0 ≤ x1 ∧ x1 < I 80 1) ∧ (0 ≤ x2 ∧ x2 ≤ 5) ∧ (0 ≤ x3 ∧ x3 ≤ 3599) ∧ (0 ≤ x4 ∧ x4 ≤ I 80 0)
  · simp only [pb_162_0, px_has_per hper, hc.1, pb_162_11, pb_162_14, px_isWithin, hc.2.1, pb_162_20, pb_162_25, px_isDay, hc.2.2.1, pb_162_29, pb_162_32, htod.1, hc.2.2.2, pb_162_45, pb_162_50, pl_1_0, not_false_eq_true, not_true_eq_false, and_self, and_true, true_and, false_and, and_false, or_true, true_or, or_false, false_or, or_self, Int32.reduceLE, Int32.reduceLT, pi_lt0, pm_b_eq0, pm_b_eq1, ite_not, pm_k0, pm_k1, pm_b_fit, true_and, and_true, not_true_eq_false, not_false_eq_true, ite_true, ite_false, if_true, if_false]
    refine px_follow (d := d + 17) hdee htmp.2.2.2.2.1 (fun I1 h1 h2 h3 => ?_)
    have hI1 := inv_65 hI0 h1 h2
    have r := fun k (g1 : ¬ k = 64) (g2 : ¬ k = 65) (g3 : ¬ k = 66) => h1 k g1 g2 g3
    have e80 := r 80 (by decide) (by decide) (by decide)
    have q0 : 0 ≤ I1 80 1 := by rw [e80]; exact hn1
    rw [pb_162_62]
    simp only [pb_281_0, pr_isPerson q0, hc.1, pb_281_5, pb_281_8, pr_isField', hc.2.1, pb_281_12, pb_281_15, pr_isDay, hc.2.2.1, pb_281_19, pb_281_22, pr_in, hc.2.2.2, pb_281_34, pb_281_39, e80, pl_1_0, not_false_eq_true, not_true_eq_false, and_self, and_true, true_and, false_and, and_false, or_true, true_or, or_false, false_or, or_self, Int32.reduceLE, Int32.reduceLT, pi_lt0, pm_b_eq0, pm_b_eq1, ite_not, pm_k0, pm_k1, pm_b_fit, true_and, and_true, not_true_eq_false, not_false_eq_true, ite_true, ite_false, if_true, if_false]
    refine pr_follows (d := d + 19) (by rw [e80]; exact (dee_n hdee).1) (by rw [e80]; exact (dee_n hdee).2) (fun I2 g1 g2 g3 => ?_)
    rw [pb_281_48]
    refine pm_okI2 ?_ (inv_79 hI1 g1 g2)
    simp only [e80, r 130 (by decide) (by decide) (by decide), r 131 (by decide) (by decide) (by decide), r 132 (by decide) (by decide) (by decide), r 133 (by decide) (by decide) (by decide), r 134 (by decide) (by decide) (by decide), r 135 (by decide) (by decide) (by decide)] at g3
    have z := deeds_eq hdee (f := x2) (k := x4) (D := x3) (person := x1)
    rw [← h3, ← g3] at z
    exact z.2.1.symm
  · by_cases c0 : 0 ≤ x1 ∧ x1 < I 80 1
    · by_cases c1 : 0 ≤ x2 ∧ x2 ≤ 5
      · by_cases c2 : 0 ≤ x3 ∧ x3 ≤ 3599
        · have c3 : ¬ (0 ≤ x4 ∧ x4 ≤ I 80 0) := fun q => hc ⟨c0, c1, c2, q⟩
          simp only [pb_162_0, pb_162_11, pb_162_23, pb_162_14, pb_162_20, pb_162_25, pb_162_29, pb_162_48, pb_162_32, pb_162_45, pb_162_50, pb_162_62, pb_281_0, pb_281_5, pb_281_37, pb_281_8, pb_281_12, pb_281_15, pb_281_19, pb_281_22, pb_281_34, pb_281_39, pb_281_48, px_has_per hper, pr_isPerson hn1, px_isWithin, px_isDay, pr_isField', pr_isDay, pr_in, htod.1, c0, c1, c2, c3, pl_1_0, not_false_eq_true, not_true_eq_false, and_self, and_true, true_and, false_and, and_false, or_true, true_or, or_false, false_or, or_self, Int32.reduceLE, Int32.reduceLT, pi_lt0, pm_b_eq0, pm_b_eq1, ite_not, pm_k0, pm_k1, pm_b_fit, true_and, and_true, not_true_eq_false, not_false_eq_true, ite_true, ite_false, if_true, if_false]
          with_reducible exact pm_okJ hI0
        · simp only [pb_162_0, pb_162_11, pb_162_23, pb_162_14, pb_162_20, pb_162_25, pb_162_29, pb_162_48, pb_162_32, pb_162_45, pb_162_50, pb_162_62, pb_281_0, pb_281_5, pb_281_37, pb_281_8, pb_281_12, pb_281_15, pb_281_19, pb_281_22, pb_281_34, pb_281_39, pb_281_48, px_has_per hper, pr_isPerson hn1, px_isWithin, px_isDay, pr_isField', pr_isDay, pr_in, htod.1, c0, c1, c2, pl_1_0, not_false_eq_true, not_true_eq_false, and_self, and_true, true_and, false_and, and_false, or_true, true_or, or_false, false_or, or_self, Int32.reduceLE, Int32.reduceLT, pi_lt0, pm_b_eq0, pm_b_eq1, ite_not, pm_k0, pm_k1, pm_b_fit, true_and, and_true, not_true_eq_false, not_false_eq_true, ite_true, ite_false, if_true, if_false]
          with_reducible exact pm_okJ hI0
      · simp only [pb_162_0, pb_162_11, pb_162_23, pb_162_14, pb_162_20, pb_162_25, pb_162_29, pb_162_48, pb_162_32, pb_162_45, pb_162_50, pb_162_62, pb_281_0, pb_281_5, pb_281_37, pb_281_8, pb_281_12, pb_281_15, pb_281_19, pb_281_22, pb_281_34, pb_281_39, pb_281_48, px_has_per hper, pr_isPerson hn1, px_isWithin, px_isDay, pr_isField', pr_isDay, pr_in, htod.1, c0, c1, pl_1_0, not_false_eq_true, not_true_eq_false, and_self, and_true, true_and, false_and, and_false, or_true, true_or, or_false, false_or, or_self, Int32.reduceLE, Int32.reduceLT, pi_lt0, pm_b_eq0, pm_b_eq1, ite_not, pm_k0, pm_k1, pm_b_fit, true_and, and_true, not_true_eq_false, not_false_eq_true, ite_true, ite_false, if_true, if_false]
        with_reducible exact pm_okJ hI0
    · simp only [pb_162_0, pb_162_11, pb_162_23, pb_162_14, pb_162_20, pb_162_25, pb_162_29, pb_162_48, pb_162_32, pb_162_45, pb_162_50, pb_162_62, pb_281_0, pb_281_5, pb_281_37, pb_281_8, pb_281_12, pb_281_15, pb_281_19, pb_281_22, pb_281_34, pb_281_39, pb_281_48, px_has_per hper, pr_isPerson hn1, px_isWithin, px_isDay, pr_isField', pr_isDay, pr_in, htod.1, c0, pl_1_0, not_false_eq_true, not_true_eq_false, and_self, and_true, true_and, false_and, and_false, or_true, true_or, or_false, false_or, or_self, Int32.reduceLE, Int32.reduceLT, pi_lt0, pm_b_eq0, pm_b_eq1, ite_not, pm_k0, pm_k1, pm_b_fit, true_and, and_true, not_true_eq_false, not_false_eq_true, ite_true, ite_false, if_true, if_false]
      with_reducible exact pm_okJ hI0

