/-! From which day the rights are gone: both loops as wholes. -/
def pf_ow (r : Nat → Nat → Int32) (q : Int32) : Int32 := (pf_own (r 88 (r 100 q.toNatClampNeg).toNatClampNeg) (pf_rf (r 117) (r 119) 0 (pf_tl (pf_ans (r 85) (r 100) (r 102) (r 99) (r 105) (r 88) (r 101) (r 82) (r 83) q) (r 112) (r 113) (r 114) (r 115) (r 117) (r 118) (r 120) (r 121) (r 122) (r 123) (r 80 5) (r 88 (r 100 q.toNatClampNeg).toNatClampNeg) (r 99 q.toNatClampNeg) 0 4)) (pf_dis (r 99) (r 105) (r 107) (r 80 4) q))
def pf_gone (r : Nat → Nat → Int32) : Nat → Int32 := pf_gr (pf_ow r) (r 106) (r 80 4).toNatClampNeg
def pf_goneN (r : Nat → Nat → Int32) : Int32 := pf_gm (pf_gr (pf_ow r) (r 106)) (r 80 4).toNatClampNeg 0 0
def pf_col (r : Nat → Nat → Int32) (c : Nat → Int32) : Nat → Int32 := pf_cr (pf_gr (pf_ow r) (r 106)) (r 80 4).toNatClampNeg 0 c
theorem gr_lt {B : Int32 → Int32} {leans : Nat → Int32} {j : Nat} : ∀ n, j < n → pf_gr B leans n j = pf_gr B leans (j + 1) j
  | 0, h => absurd h (Nat.not_lt_zero _)
  | n + 1, h => by
    by_cases e : j = n
    · subst e; rfl
    · rw [gr_succ, pm_w_ne e]; exact gr_lt n (by omega)
theorem gr_rng {B : Int32 → Int32} {leans : Nat → Int32} {N : Nat} (hB : ∀ q : Nat, q < N → -1 ≤ B (Int32.ofNat q) ∧ B (Int32.ofNat q) ≤ 3599) : ∀ n, n ≤ N → ∀ j, -1 ≤ pf_gr B leans n j ∧ pf_gr B leans n j ≤ 3599
  | 0, _, _ => ⟨(by decide : (-1 : Int32) ≤ -1), (by decide : (-1 : Int32) ≤ 3599)⟩
  | n + 1, h, j => by
    have ih := gr_rng (leans := leans) hB n (by omega)
    rw [gr_succ, pm_w_at]
    split
    · refine e_rng (hB n (by omega)) ?_
      split
      · exact ih _
      · exact ⟨by decide, by decide⟩
    · exact ih j
theorem cr_off {g : Nat → Nat → Int32} {x : Nat} (hx : ¬ x % 16 = 8) : ∀ (m q : Nat) (c : Nat → Int32), pf_cr g m q c x = c x
  | 0, _, _ => rfl
  | m + 1, q, c => by
    show pf_cr g m (q + 1) _ x = c x
    rw [cr_off hx m (q + 1), pm_w_ne (by omega)]
theorem cr_lt {g : Nat → Nat → Int32} {j : Nat} : ∀ (m q : Nat) (c : Nat → Int32), j < q → pf_cr g m q c (16 * j + 8) = c (16 * j + 8)
  | 0, _, _, _ => rfl
  | m + 1, q, c, h => by
    show pf_cr g m (q + 1) _ _ = _
    rw [cr_lt m (q + 1) _ (by omega), pm_w_ne (by omega)]
theorem cr_at {g : Nat → Nat → Int32} {j : Nat} : ∀ (m q : Nat) (c : Nat → Int32), q ≤ j → j < q + m → pf_cr g m q c (16 * j + 8) = pm_no (g (j + 1) j)
  | 0, q, c, h, h2 => by omega
  | m + 1, q, c, h, h2 => by
    show pf_cr g m (q + 1) _ _ = _
    by_cases e : j = q
    · subst e; rw [cr_lt m (j + 1) _ (by omega), pm_w_at, if_pos rfl]
    · exact cr_at m (q + 1) _ (by omega) (by omega)
theorem col_at {r : Nat → Nat → Int32} {c : Nat → Int32} {j : Nat} (h : j < (r 80 4).toNatClampNeg) : pf_col r c (16 * j + 8) = pm_no (pf_gone r j) := by
  unfold pf_col pf_gone
  rw [cr_at _ 0 c (Nat.zero_le _) (by omega), gr_lt _ h]
theorem rig_cr {t : Nat → Int32} {nn nP nH nT : Int32} {kind house person amount frr to is leans proved seals told wit witOf : Nat → Int32} {g : Nat → Nat → Int32} : ∀ (m q : Nat) (c : Nat → Int32), pg_rig t c nn nP nH nT kind house person amount frr to is leans proved seals told wit witOf → pg_rig t (pf_cr g m q c) nn nP nH nT kind house person amount frr to is leans proved seals told wit witOf
  | 0, _, _, h => h
  | m + 1, q, c, h => rig_cr m (q + 1) _ (rig_col8 h)
/-- the groups that the reckoning of the days rests on -/
def pm_gr (x r : Nat → Nat → Int32) : Prop := pg_tod (x 9 0) (r 80 0) ∧ pg_per (x 12) (x 13) (r 80 1) (r 82) (r 83) ∧
  pg_hou (x 14) (x 15) (r 80 2) (r 80 0) (r 84) (r 85) (r 86) (r 87) (r 88) (r 89) (r 90) (r 91) (r 92) (r 93) ∧
  pg_rig (x 18) (x 19) (r 80 4) (r 80 1) (r 80 2) (r 80 3) (r 99) (r 100) (r 101) (r 102) (r 103) (r 104) (r 105) (r 106) (r 107) (r 108) (r 109) (r 110) (r 111)
def pm_gv (x r : Nat → Nat → Int32) : Prop := pg_ver (x 20) (x 21) (x 22) (x 23) (x 24) (x 25) (r 80 5) (r 80 0) (r 112) (r 113) (r 114) (r 115) (r 116) (r 117) (r 118) (r 119) (r 120) (r 121) (r 122) (r 123)
theorem gr_inv {X : Nat → Int32} {b : Bool} {I : Nat → Nat → Int32} {J : Nat → Nat → Int64} (hI : pm_inv X b I J) : pm_gr I I := ⟨hI.1.1, hI.1.2.2.1, hI.1.2.2.2.1, hI.1.2.2.2.2.2.1⟩
theorem gv_inv {X : Nat → Int32} {b : Bool} {I : Nat → Nat → Int32} {J : Nat → Nat → Int64} (hI : pm_inv X b I J) : pm_gv I I := hI.1.2.2.2.2.2.2.1
theorem inv_col {X : Nat → Int32} {b : Bool} {r I : Nat → Nat → Int32} {J : Nat → Nat → Int64} (hI : pm_inv X b I J) : pm_inv X b (pm_r I 19 (pf_col r (I 19))) J := by
  have hI0 := hI
  obtain ⟨⟨htod, hroa, hper, hhou, hthi, hrig, hver, hsea, hsta, hlot, hbuy, hdee, hple⟩, htxt, hrid, htmp, hshe, hshf, htra, hk, hkept, hcon⟩ := hI
  have hn1 := (per_n hper).1
  have hn2 := (hou_n hhou).1
  have hn3 := (thi_n hthi).1
  have hn4 := (rig_n hrig).1
  have h := rig_cr (g := pf_gr (pf_ow r) (r 106)) (r 80 4).toNatClampNeg 0 _ hrig
  simp only [pm_inv, pm_land, pm_u_row, pm_zr_row, pm_w_at, Nat.reduceEqDiff, ite_true, ite_false, pm_kept_u, pm_kept_z, pm_kept_r, pm_r_row, ne_eq, not_false_eq_true, Nat.reduceLT, hcon, htod, hroa, hper, hhou, hthi, hrig, hver, hsea, hsta, hlot, hbuy, hdee, hple, htxt, hrid, htmp, hshe, hshf, htra, hk, hkept, true_and, and_true]
  exact h
theorem px_reckonGone {d L : Nat} {b : Bool} {I : Nat → Nat → Int32} {J : Nat → Nat → Int64} {r : Nat → Nat → Int32} {Q : Int32 → Int64 → pm_H → Prop} (h : pm_gr I r) (hv : pm_gv I r) (hc : ∀ j, I 2 j = pm_a2.getD j 0) : pm_wc pm_code pm_meta (d + 6) 52 [.ref 36] (pm_Gb L b, I, J) Q ↔ Q (pf_goneN r) 0 (pm_Gb L b, pm_r I 19 (pf_col r (I 19)), J) := by
  obtain ⟨htod, hper, hhou, hrig⟩ := h
  rw [pb_52_0]
  have z := px_goneL (d := d) (L := L) (b := b) (J := J) (Q := Q) (r 80 4).toNatClampNeg 0 0 none I hv hrig hhou hper hc (fun j hj => absurd hj (Nat.not_lt_zero _)) (Int32.le_refl 0) (by simp)
  exact z
/-- the same but for what the reference's reckoning changes -/
def pm_ag (I0 I : Nat → Nat → Int32) : Prop := (∀ k, ¬ k = 79 → ¬ k = 137 → I k = I0 k) ∧ ∀ j, ¬ j = 70 → I 79 j = I0 79 j
theorem ag_refl {I : Nat → Nat → Int32} : pm_ag I I := ⟨fun _ _ _ => rfl, fun _ _ => rfl⟩
theorem ag_eq {I0 I : Nat → Nat → Int32} (h : pm_ag I0 I) : I = pm_r (pm_u I0 79 70 (I 79 70)) 137 (I 137) := by
  funext k j
  simp only [pm_r_row, pm_u_row]
  by_cases e1 : k = 137
  · subst e1; simp only [if_true]
  · by_cases e2 : k = 79
    · subst e2
      simp only [e1, if_false, if_true, pm_w_at]
      split
      · next e => rw [e]
      · next e => exact h.2 j e
    · simp only [e1, e2, if_false]; rw [h.1 k e2 e1]
theorem inv_ag {X : Nat → Int32} {b : Bool} {I0 I : Nat → Nat → Int32} {J : Nat → Nat → Int64} (hI : pm_inv X b I0 J) (h : pm_ag I0 I) : pm_inv X b I J := by
  rw [ag_eq h]
  have hI0 := hI
  obtain ⟨⟨htod, hroa, hper, hhou, hthi, hrig, hver, hsea, hsta, hlot, hbuy, hdee, hple⟩, htxt, hrid, htmp, hshe, hshf, htra, hk, hkept, hcon⟩ := hI
  have hn1 := (per_n hper).1
  have hn2 := (hou_n hhou).1
  have hn3 := (thi_n hthi).1
  have hn4 := (rig_n hrig).1
  simp only [pm_inv, pm_land, pm_u_row, pm_zr_row, pm_w_at, Nat.reduceEqDiff, ite_true, ite_false, pm_kept_u, pm_kept_z, pm_kept_r, pm_r_row, ne_eq, not_false_eq_true, Nat.reduceLT, hcon, htod, hroa, hper, hhou, hthi, hrig, hver, hsea, hsta, hlot, hbuy, hdee, hple, htxt, hrid, htmp, hshe, hshf, htra, hk, hkept, true_and, and_true]
theorem gr_ag {x I0 I : Nat → Nat → Int32} (hI : pm_gr x I0) (h : pm_ag I0 I) : pm_gr x I := by
  unfold pm_gr at hI ⊢
  simp only [h.1 80 (by decide) (by decide), h.1 82 (by decide) (by decide), h.1 83 (by decide) (by decide), h.1 84 (by decide) (by decide), h.1 85 (by decide) (by decide), h.1 86 (by decide) (by decide), h.1 87 (by decide) (by decide), h.1 88 (by decide) (by decide), h.1 89 (by decide) (by decide), h.1 90 (by decide) (by decide), h.1 91 (by decide) (by decide), h.1 92 (by decide) (by decide), h.1 93 (by decide) (by decide), h.1 99 (by decide) (by decide), h.1 100 (by decide) (by decide), h.1 101 (by decide) (by decide), h.1 102 (by decide) (by decide), h.1 103 (by decide) (by decide), h.1 104 (by decide) (by decide), h.1 105 (by decide) (by decide), h.1 106 (by decide) (by decide), h.1 107 (by decide) (by decide), h.1 108 (by decide) (by decide), h.1 109 (by decide) (by decide), h.1 110 (by decide) (by decide), h.1 111 (by decide) (by decide)]
  exact hI
theorem gv_ag {I0 I : Nat → Nat → Int32} (hI : pm_gv I0 I0) (h : pm_ag I0 I) : pm_gv I I := by
  unfold pm_gv at hI ⊢
  simp only [h.1 20 (by decide) (by decide), h.1 21 (by decide) (by decide), h.1 22 (by decide) (by decide), h.1 23 (by decide) (by decide), h.1 24 (by decide) (by decide), h.1 25 (by decide) (by decide), h.1 80 (by decide) (by decide), h.1 112 (by decide) (by decide), h.1 113 (by decide) (by decide), h.1 114 (by decide) (by decide), h.1 115 (by decide) (by decide), h.1 116 (by decide) (by decide), h.1 117 (by decide) (by decide), h.1 118 (by decide) (by decide), h.1 119 (by decide) (by decide), h.1 120 (by decide) (by decide), h.1 121 (by decide) (by decide), h.1 122 (by decide) (by decide), h.1 123 (by decide) (by decide)]
  exact hI
theorem ow_rng {x I : Nat → Nat → Int32} (hI : pm_gr x I) {q : Nat} (hq : q < (I 80 4).toNatClampNeg) : -1 ≤ pf_ow I (Int32.ofNat q) ∧ pf_ow I (Int32.ofNat q) ≤ 3599 := by
  obtain ⟨htod, hper, hhou, hrig⟩ := hI
  have hn4 := (rig_n hrig).1
  have t1 := pi_tni hn4
  have t2 := pi_le.mp (rig_n hrig).2
  have e24 : (24 : Int32).toInt = 24 := rfl
  have eq : (Int32.ofNat q).toInt = q := Int32.toInt_ofNat_of_lt (by omega)
  have q0 : 0 ≤ Int32.ofNat q := by rw [pi_le, pi_0, eq]; omega
  have q1 : Int32.ofNat q < I 80 4 := by rw [pi_lt, eq]; omega
  have g := (hrig.2 _ (pi_tnlt q0 q1)).2.2
  have hg := (hhou.2 _ (pi_tnlt g.2.2.1 g.2.2.2.1)).2
  have ht := htod.2.2
  have lp : ∀ j : Int32, 0 ≤ j → j < I 80 4 → -1 ≤ I 107 j.toNatClampNeg ∧ I 107 j.toNatClampNeg ≤ 3599 := fun j j0 j1 => by
    have := (hrig.2 _ (pi_tnlt j0 j1)).2.2
    obtain ⟨_, _, _, _, _, _, _, _, _, _, _, _, _, _, _, _, _, _, _, _, a1, a2, _⟩ := this
    exact ⟨a1, a2⟩
  unfold pf_ow pf_own
  refine e_rng ?_ ?_
  · split
    · exact ⟨hg.2.2.1, Int32.le_trans hg.2.2.2.1 ht⟩
    · exact ⟨by decide, by decide⟩
  · unfold pf_dis
    have q2 : 0 ≤ Int32.ofNat q + 1 := by rw [pi_le, pi_0, pi_add (by rw [pi_1]; omega) (by rw [pi_1]; omega), pi_1]; omega
    have q3 : (Int32.ofNat q + 1).toNatClampNeg = (Int32.ofNat q).toNatClampNeg + 1 := pi_tn1 q0 (by rw [pi_lt, eq]; have e : (2147483647 : Int32).toInt = 2147483647 := rfl; omega)
    refine dis_rng hn4 (pi_ltb (Int32.lt_of_le_of_lt (rig_n hrig).2 (by decide : (24 : Int32) < 100)) (by decide)) lp _ _ _ q2 ?_ ⟨by decide, by decide⟩
    have := pi_tni q0
    omega

