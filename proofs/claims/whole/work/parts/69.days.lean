/-! THE CALL days: the whole. -/
theorem ver_mono {t c tr cr ts cs : Nat → Int32} {n today today2 : Int32} {act rules fr till ops sort kinds rank rops rend opis opof : Nat → Int32} (h : pg_ver t c tr cr ts cs n today act rules fr till ops sort kinds rank rops rend opis opof) (hle : today ≤ today2) : pg_ver t c tr cr ts cs n today2 act rules fr till ops sort kinds rank rops rend opis opof := by
  obtain ⟨h1, h2, h3, h4, h5⟩ := h
  refine ⟨h1, h2, h3, fun v hv => ?_, h5⟩
  obtain ⟨a1, a2, a3, a4, a5, a6, a7, a8, a9, a10⟩ := h4 v hv
  exact ⟨a1, a2, a3, a4, a5, a6, Int32.le_trans a7 hle, a8, Int32.le_trans a9 hle, a10⟩
theorem px_days_loop {d L : Nat} {b : Bool} {I : Nat → Nat → Int32} {J : Nat → Nat → Int64} {X : Nat → Int32} {x : Int32} {Q : Int32 → Int64 → pm_H → Prop} (hI : pm_inv X b I J) (hx : 0 ≤ x) (hxt : (I 80 0).toInt + x.toInt ≤ 3599)
    (hq : ∀ c, pg_thi (I 16) c (I 80 3) (I 80 2) (I 94) (I 95) (I 96) (pm_fo (fun (s : Int32 × (Nat → Int32)) (_ : Int32) => (s.1 + 1, pf_day (s.1 + 1) (I 89) (I 80 2) (I 88) (I 84) (I 81) (I 87) (I 94) (I 95) (I 96) (I 80 3) s.2)) x.toNatClampNeg 0 (I 80 0, I 97)).2 (I 98) → Q (pm_fo (fun (s : Int32 × (Nat → Int32)) (_ : Int32) => (s.1 + 1, pf_day (s.1 + 1) (I 89) (I 80 2) (I 88) (I 84) (I 81) (I 87) (I 94) (I 95) (I 96) (I 80 3) s.2)) x.toNatClampNeg 0 (I 80 0, I 97)).1 0 (pm_Gb L b, pm_r (pm_u I 9 0 (pm_fo (fun (s : Int32 × (Nat → Int32)) (_ : Int32) => (s.1 + 1, pf_day (s.1 + 1) (I 89) (I 80 2) (I 88) (I 84) (I 81) (I 87) (I 94) (I 95) (I 96) (I 80 3) s.2)) x.toNatClampNeg 0 (I 80 0, I 97)).1) 17 c, J)) : pm_wp pm_code pm_meta (d + 4) 115 33 ([.ref 8, .int x, .int 0], [], (pm_Gb L b, I, J)) Q := by
  have hI0 := hI
  obtain ⟨⟨htod, hroa, hper, hhou, hthi, hrig, hver, hsea, hsta, hlot, hbuy, hdee, hple⟩, htxt, hrid, htmp, hshe, hshf, htra, hk, hkept, hcon⟩ := hI
  have hn1 := (per_n hper).1
  have hn2 := (hou_n hhou).1
  have hn3 := (thi_n hthi).1
  have hn4 := (rig_n hrig).1
  have ht0 := htod.2.1
  rw [pi_le, pi_0] at ht0
  have hl : x < 2147483647 := by rw [pi_lt]; have e : (2147483647 : Int32).toInt = 2147483647 := rfl; omega
  have e0 : pm_r (pm_u I 9 0 (I 80 0)) 17 (I 17) = I := by
    funext a j
    simp only [pm_r_row, pm_u_row]
    by_cases e : a = 17
    · subst e; simp
    · by_cases e2 : a = 9
      · subst e2
        simp only [e, if_false, if_true, pm_w_at]
        split
        · next h => rw [h]; exact htod.1.symm
        · rfl
      · simp only [e, e2, if_false]
  have key := pm_for_imp (α := Int32 × (Nat → Int32)) (A := fun s i => ∀ c, pg_thi (I 16) c (I 80 3) (I 80 2) (I 94) (I 95) (I 96) s.2 (I 98) → pm_wp pm_code pm_meta (d + 4) 115 33 ([.ref 8, .int x, .int i], [], (pm_Gb L b, pm_r (pm_u I 9 0 s.1) 17 c, J)) Q) (E := fun s => ∀ c, pg_thi (I 16) c (I 80 3) (I 80 2) (I 94) (I 95) (I 96) s.2 (I 98) → Q s.1 0 (pm_Gb L b, pm_r (pm_u I 9 0 s.1) 17 c, J)) (f := (fun (s : Int32 × (Nat → Int32)) (_ : Int32) => (s.1 + 1, pf_day (s.1 + 1) (I 89) (I 80 2) (I 88) (I 84) (I 81) (I 87) (I 94) (I 95) (I 96) (I 80 3) s.2))) (P := fun s i => s.1.toInt = (I 80 0).toInt + i.toInt) hx hl (fun s i hs h0 hin hA c hc => ?_) (fun s i hs h0 h1 => ?_) x.toNatClampNeg 0 (I 80 0, I 97) (by rw [pi_0]; simp) (Int32.le_refl 0) (by simp) hq (I 17) hthi
  · rw [e0] at key; exact key
  · obtain ⟨t, g⟩ := s
    have hs : t.toInt = (I 80 0).toInt + i.toInt := hs
    rw [pb_115_33]
    by_cases hi : x ≤ i
    · rw [if_pos hi] at hA
      rw [if_pos hi, pb_115_51]
      have := hA c hc
      simp only [pm_u_row, pm_zr_row, pm_r_row, pm_w_at, Nat.reduceEqDiff, Nat.reduceLT, ite_true, ite_false, if_true, if_false, ite_self] at this ⊢
      exact this
    · rw [if_neg hi] at hA
      rw [if_neg hi, pb_115_38]
      have h1 := Int32.not_le.mp hi
      rw [pi_le, pi_0] at h0
      rw [pi_lt] at h1
      have tle : I 80 0 ≤ t := by rw [pi_le]; omega
      have tlt : t < 3599 := by rw [pi_lt]; have e : (3599 : Int32).toInt = 3599 := rfl; omega
      have td : pg_tod t t := ⟨rfl, by rw [pi_le, pi_0]; omega, Int32.le_of_lt tlt⟩
      refine px_goOn (d := d) (t := t) (n := I 80 3) (nH := I 80 2) (house := I 94) (kind := I 95) (worth := I 96) (g := g) (shown := I 98) (place := I 84) (order := I 85) (coin := I 86) (fear := I 87) (fell := I 88) (stripped := I 89) (due := I 90) (roll := I 91) (rollday := I 92) (had := I 93) (roads := I 81) (I := pm_r (pm_u I 9 0 t) 17 c) ?_ ?_ ?_ ?_ tlt (fun c' hc' => ?_)
      · simp only [pm_u_row, pm_zr_row, pm_r_row, pm_w_at, Nat.reduceEqDiff, Nat.reduceLT, ite_true, ite_false, if_true, if_false, ite_self]; exact hc
      · simp only [pm_u_row, pm_zr_row, pm_r_row, pm_w_at, Nat.reduceEqDiff, Nat.reduceLT, ite_true, ite_false, if_true, if_false, ite_self]; exact hou_mono hhou tle
      · simp only [pm_u_row, pm_zr_row, pm_r_row, pm_w_at, Nat.reduceEqDiff, Nat.reduceLT, ite_true, ite_false, if_true, if_false, ite_self]; exact td
      · simp only [pm_u_row, pm_zr_row, pm_r_row, pm_w_at, Nat.reduceEqDiff, Nat.reduceLT, ite_true, ite_false, if_true, if_false, ite_self]; exact hroa
      · simp only [pm_u_row, pm_zr_row, pm_r_row, pm_w_at, Nat.reduceEqDiff, Nat.reduceLT, ite_true, ite_false, if_true, if_false, ite_self] at hc'
        have u1 : pm_r (pm_u (pm_r (pm_u I 9 0 t) 17 c) 9 0 (t + 1)) 17 c' = pm_r (pm_u I 9 0 (t + 1)) 17 c' := by
          funext a j
          simp only [pm_r_row, pm_u_row]
          by_cases e : a = 17
          · subst e; simp
          · by_cases e2 : a = 9
            · subst e2; simp only [e, if_false, if_true, pm_w_at]; split <;> rfl
            · simp only [e, e2, if_false]
        rw [u1, pb_115_45]
        exact hA c' hc'
  · obtain ⟨t, g⟩ := s
    have hs : t.toInt = (I 80 0).toInt + i.toInt := hs
    rw [pi_lt] at h1
    rw [pi_le, pi_0] at h0
    show (t + 1).toInt = (I 80 0).toInt + (i + 1).toInt
    rw [pi_add (by rw [pi_1]; omega) (by rw [pi_1]; omega), pi_add (by rw [pi_1]; omega) (by rw [pi_1]; omega), pi_1]; omega
theorem fo_today {I : Nat → Nat → Int32} {x : Int32} (h0 : 0 ≤ (I 80 0).toInt) (hx : 0 ≤ x) (hxt : (I 80 0).toInt + x.toInt ≤ 3599) : (pm_fo (fun (s : Int32 × (Nat → Int32)) (_ : Int32) => (s.1 + 1, pf_day (s.1 + 1) (I 89) (I 80 2) (I 88) (I 84) (I 81) (I 87) (I 94) (I 95) (I 96) (I 80 3) s.2)) x.toNatClampNeg 0 (I 80 0, I 97)).1.toInt = (I 80 0).toInt + x.toInt := by
  have hl : x < 2147483647 := by rw [pi_lt]; have e : (2147483647 : Int32).toInt = 2147483647 := rfl; omega
  refine pm_fd_inv (f := (fun (s : Int32 × (Nat → Int32)) (_ : Int32) => (s.1 + 1, pf_day (s.1 + 1) (I 89) (I 80 2) (I 88) (I 84) (I 81) (I 87) (I 94) (I 95) (I 96) (I 80 3) s.2))) (P := fun s i => s.1.toInt = (I 80 0).toInt + i.toInt) hx hl (fun s i hs h0 h1 => ?_) x.toNatClampNeg 0 (I 80 0, I 97) (by rw [pi_0]; simp) (Int32.le_refl 0) (by simp)
  obtain ⟨t, g⟩ := s
  have hs : t.toInt = (I 80 0).toInt + i.toInt := hs
  rw [pi_lt] at h1
  rw [pi_le, pi_0] at h0
  show (t + 1).toInt = (I 80 0).toInt + (i + 1).toInt
  rw [pi_add (by rw [pi_1]; omega) (by rw [pi_1]; omega), pi_add (by rw [pi_1]; omega) (by rw [pi_1]; omega), pi_1]; omega
theorem rot_b {h : Int32} {house kind worth g : Nat → Int32} (m : Nat) (i : Int32) : (pm_fo (pf_rot h house kind worth g) m i (-3)) = -3 ∨ (g (pm_fo (pf_rot h house kind worth g) m i (-3)).toNatClampNeg = 0 ∨ g (pm_fo (pf_rot h house kind worth g) m i (-3)).toNatClampNeg = 1) := by
  refine fo_inv (P := fun s : Int32 => s = -3 ∨ (g s.toNatClampNeg = 0 ∨ g s.toNatClampNeg = 1)) (fun s i hs => ?_) m i (-3) (Or.inl rfl)
  unfold pf_rot
  split
  · next c => exact Or.inr c.1.2.2
  · exact hs
theorem hid_b {h : Int32} {house kind worth g : Nat → Int32} (m : Nat) (i : Int32) : (pm_fo (pf_hid h house kind worth g) m i (-3)) = -3 ∨ g (pm_fo (pf_hid h house kind worth g) m i (-3)).toNatClampNeg = 0 := by
  refine fo_inv (P := fun s : Int32 => s = -3 ∨ g s.toNatClampNeg = 0) (fun s i hs => ?_) m i (-3) (Or.inl rfl)
  unfold pf_hid
  split
  · next c => exact Or.inr c.1.2.2
  · exact hs
theorem rg_2 {t : Int32} {str house kind worth : Nat → Int32} {n : Int32} {g : Nat → Int32} {h : Int32} {k : Nat} (hk : g k = 2) : pf_rg t str house kind worth n g (fun j => j) g h k = 2 := by
  unfold pf_rg
  split
  · split
    · exact hk
    · next c =>
      rw [pm_w_at]
      split
      · next e =>
        subst e
        rcases (rot_b (h := h) (house := house) (kind := kind) (worth := worth) (g := g) n.toNatClampNeg 0).resolve_left c with q | q <;> (rw [q] at hk; exact absurd hk (by decide))
      · exact hk
  · exact hk
theorem hg_2 {t nH : Int32} {fell place roads fear house kind worth : Nat → Int32} {n : Int32} {g : Nat → Int32} {h : Int32} {k : Nat} (hk : g k = 2) : pf_hg t nH fell place roads fear house kind worth n g (fun j => j) g h k = 2 := by
  unfold pf_hg
  split
  · split
    · exact hk
    · next c =>
      rw [pm_w_at]
      split
      · next e =>
        subst e
        have q := (hid_b (h := h) (house := house) (kind := kind) (worth := worth) (g := g) n.toNatClampNeg 0).resolve_left c
        rw [q] at hk; exact absurd hk (by decide)
      · exact hk
  · exact hk
theorem day_2 {t : Int32} {str : Nat → Int32} {nH : Int32} {fell place roads fear house kind worth : Nat → Int32} {n : Int32} {g : Nat → Int32} {k : Nat} (hk : g k = 2) : pf_day t str nH fell place roads fear house kind worth n g k = 2 := by
  unfold pf_day
  refine fo_inv (P := fun (s : Nat → Int32) => s k = 2) (fun s i hs => hg_2 hs) _ _ _ ?_
  exact fo_inv (P := fun (s : Nat → Int32) => s k = 2) (fun s i hs => rg_2 hs) _ _ _ hk
theorem days_2 {I : Nat → Nat → Int32} (m : Nat) (k : Nat) (hk : I 97 k = 2) : (pm_fo (fun (s : Int32 × (Nat → Int32)) (_ : Int32) => (s.1 + 1, pf_day (s.1 + 1) (I 89) (I 80 2) (I 88) (I 84) (I 81) (I 87) (I 94) (I 95) (I 96) (I 80 3) s.2)) m 0 (I 80 0, I 97)).2 k = 2 :=
  fo_inv (P := fun (s : Int32 × (Nat → Int32)) => s.2 k = 2) (fun s i hs => day_2 hs) m 0 _ hk
theorem po_days {d L : Nat} {b : Bool} {I : Nat → Nat → Int32} {J : Nat → Nat → Int64} {X : Nat → Int32} {x1 : Int32} (hI : pm_inv X b I J) : pm_wc pm_code pm_meta (d + 20) 115 [.ref 8, .int x1] (pm_Gb L b, I, J) (fun v _ H => pm_wc pm_code pm_meta (d + 20) 193 [.ref 79, .int x1] H (pm_ok X L b v)) := by
  have hI0 := hI
  obtain ⟨⟨htod, hroa, hper, hhou, hthi, hrig, hver, hsea, hsta, hlot, hbuy, hdee, hple⟩, htxt, hrid, htmp, hshe, hshf, htra, hk, hkept, hcon⟩ := hI
  have hn1 := (per_n hper).1
  have hn2 := (hou_n hhou).1
  have hn3 := (thi_n hthi).1
  have hn4 := (rig_n hrig).1
  by_cases hw : 1 ≤ x1 ∧ x1 ≤ 400
  · have ht0 := htod.2.1
    have ht1 := htod.2.2
    have e1 : (3599 : Int32).toInt = 3599 := rfl
    have e2 : (400 : Int32).toInt = 400 := rfl
    have w1 := hw.1
    have w2 := hw.2
    have z1 := pi_le.mp ht0
    have z2 := pi_le.mp ht1
    have z3 := pi_le.mp w1
    have z4 := pi_le.mp w2
    rw [pi_0] at z1
    rw [pi_1] at z3
    have z5 : (I 80 0 + x1).toInt = (I 80 0).toInt + x1.toInt := pi_add (by omega) (by omega)
    by_cases hs : I 80 0 + x1 ≤ 3599
    · have z6 := pi_le.mp hs
      have hx0 : 0 ≤ x1 := by rw [pi_le, pi_0]; omega
      have hxt : (I 80 0).toInt + x1.toInt ≤ 3599 := by omega
      simp only [pb_115_0, pb_115_8, pb_115_13, pb_115_31, px_isWithin, htod.1, hw, hs, Int32.reduceLE, Int32.reduceLT, pi_lt0, pm_b_eq0, pm_b_eq1, ite_not, pm_k0, pm_k1, pm_b_fit, true_and, and_true, not_true_eq_false, not_false_eq_true, ite_true, ite_false, if_true, if_false, and_self]
      refine px_days_loop (d := d + 16) hI0 hx0 hxt (fun c hc => ?_)
      have fo := fo_today (I := I) z1 hx0 hxt
      have hple2 := ple_is hple (fun k hk => days_2 (I := I) x1.toNatClampNeg k hk)
      generalize hF : pm_fo (fun (s : Int32 × (Nat → Int32)) (_ : Int32) => (s.1 + 1, pf_day (s.1 + 1) (I 89) (I 80 2) (I 88) (I 84) (I 81) (I 87) (I 94) (I 95) (I 96) (I 80 3) s.2)) x1.toNatClampNeg 0 (I 80 0, I 97) = R at hc fo hple2 ⊢
      simp only [pb_193_0, pb_193_8, pb_193_13, pb_193_30, pr_in, hw, hs, pm_u_row, pm_zr_row, pm_r_row, pm_w_at, Nat.reduceEqDiff, Nat.reduceLT, ite_true, ite_false, if_true, if_false, ite_self, Int32.reduceLE, Int32.reduceLT, pi_lt0, pm_b_eq0, pm_b_eq1, ite_not, pm_k0, pm_k1, pm_b_fit, true_and, and_true, not_true_eq_false, not_false_eq_true, ite_true, ite_false, if_true, if_false, and_self]
      refine (pr_days_loop (d := d + 17) (I := pm_r (pm_u I 9 0 R.1) 17 c) (by simpa only [pm_u_row, pm_zr_row, pm_r_row, pm_w_at, Nat.reduceEqDiff, Nat.reduceLT, ite_true, ite_false, if_true, if_false, ite_self] using hn2) (by simpa only [pm_u_row, pm_zr_row, pm_r_row, pm_w_at, Nat.reduceEqDiff, Nat.reduceLT, ite_true, ite_false, if_true, if_false, ite_self] using (hou_n hhou).2) (by simpa only [pm_u_row, pm_zr_row, pm_r_row, pm_w_at, Nat.reduceEqDiff, Nat.reduceLT, ite_true, ite_false, if_true, if_false, ite_self] using fun i g0 g1 => ⟨(hou_pl hhou g0 g1).1, (hou_pl hhou g0 g1).2.1⟩) (by simpa only [pm_u_row, pm_zr_row, pm_r_row, pm_w_at, Nat.reduceEqDiff, Nat.reduceLT, ite_true, ite_false, if_true, if_false, ite_self] using hn3) (by simpa only [pm_u_row, pm_zr_row, pm_r_row, pm_w_at, Nat.reduceEqDiff, Nat.reduceLT, ite_true, ite_false, if_true, if_false, ite_self] using (thi_n hthi).2) hx0 w2).mpr ?_
      simp only [pm_u_row, pm_zr_row, pm_r_row, pm_w_at, Nat.reduceEqDiff, Nat.reduceLT, ite_true, ite_false, if_true, if_false, ite_self]
      rw [hF]
      refine pm_okI2 (by with_reducible rfl) ?_
      have le : I 80 0 ≤ R.1 := by rw [pi_le]; omega
      have tt : pg_tod R.1 R.1 := ⟨rfl, by rw [pi_le, pi_0]; omega, by rw [pi_le]; omega⟩
      simp only [pm_inv, pm_land, pm_u_row, pm_zr_row, pm_w_at, Nat.reduceEqDiff, ite_true, ite_false, pm_kept_u, pm_kept_z, pm_kept_r, pm_r_row, ne_eq, not_false_eq_true, Nat.reduceLT, hcon, htod, hroa, hper, hhou, hthi, hrig, hver, hsea, hsta, hlot, hbuy, hdee, hple, htxt, hrid, htmp, hshe, hshf, htra, hk, hkept, true_and, and_true]
      exact ⟨tt, hou_mono hhou le, hc, ver_mono hver le, hple2⟩
    · simp only [pb_115_0, pb_115_8, pb_115_13, pb_115_28, pb_193_0, pb_193_8, pb_193_13, pb_193_27, pr_in, px_isWithin, htod.1, hw, hs, Int32.reduceLE, Int32.reduceLT, pi_lt0, pm_b_eq0, pm_b_eq1, ite_not, pm_k0, pm_k1, pm_b_fit, true_and, and_true, not_true_eq_false, not_false_eq_true, ite_true, ite_false, if_true, if_false, and_self]
      with_reducible exact pm_okJ hI0
  · simp only [pb_115_0, pb_115_8, pb_115_11, pb_115_13, pb_115_31, pb_115_28, pb_115_51, pb_115_38, pb_115_45, pb_193_0, pb_193_8, pb_193_11, pb_193_13, pb_193_30, pb_193_27, pb_193_99, pb_193_37, pb_193_70, pb_193_59, pb_193_64, pb_193_93, pb_193_82, pb_193_87, pb_193_99b, pb_193_37b, px_isWithin, pr_in, hw, Int32.reduceLE, Int32.reduceLT, pi_lt0, pm_b_eq0, pm_b_eq1, ite_not, pm_k0, pm_k1, pm_b_fit, true_and, and_true, not_true_eq_false, not_false_eq_true, ite_true, ite_false, if_true, if_false]
    with_reducible exact pm_okJ hI0

