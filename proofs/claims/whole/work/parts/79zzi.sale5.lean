/-! THE CALL sale. -/
theorem ps_fl_0 {co s : Nat → Nat} (h : ∀ b, s b = 0) : ∀ n, ps_fl co s n = 0
  | 0 => rfl
  | n + 1 => by unfold ps_fl; rw [ps_fl_0 h n, h n, if_pos (Nat.zero_le _)]
theorem ps_cm_0 {co s : Nat → Nat} (h : ∀ b, s b = 0) : ∀ n, ps_cm co s n = 0
  | 0 => rfl
  | n + 1 => by unfold ps_cm; rw [ps_cm_0 h n, h n, Nat.zero_min]
theorem px_sales {d L : Nat} {b : Bool} {I : Nat → Nat → Int32} {J : Nat → Nat → Int64} {gN : Nat} {nL nB : Int32} {price coin : Nat → Int32} (hl : pg_lot (I 30) (I 31) nL price) (hb : pg_buy (I 32) (I 33) nB coin)
    (t58 : pm_ti (I 58) 1 3) (c58 : I 58 3 = 3) (t60 : pm_ti (I 60) 1 7) (c60 : I 60 3 = 7) (t62 : pm_ti (I 62) 1 7) (g9 : gN ≤ 900) {Q : Int32 → Int64 → pm_H → Prop}
    (hQ : ∀ I', (∀ k, ¬ k = 57 → ¬ k = 59 → ¬ k = 61 → ¬ k = 62 → ¬ k = 63 → I' k = I k) → pm_ti (I' 62) 1 7 → (¬ I' 57 7 = 0 → I' 62 3 = 7) → ps_st nL.toNatClampNeg nB.toNatClampNeg (I' 57) (I' 63) (ps_T gN (nB.toNatClampNeg + 1) nB.toNatClampNeg (ps_n 99 price) (ps_n 300 coin) nL.toNatClampNeg 0 0 none) → Q (I' 57 7) 0 (pm_Gb L b, I', J)) :
    pm_wc pm_code pm_meta (d + 9) 76 [.ref 57, .int (Int32.ofNat gN)] (pm_Gb L b, I, J) Q := by
  have nL0 : 0 ≤ nL := by have := hl.1.2 ▸ hl.1.1.2.2.1; exact this
  have nL7 : nL ≤ 7 := by have := hl.1.2 ▸ hl.1.1.2.2.2; exact this
  have l1 := pi_tni nL0
  have l2 := pi_le.mp nL7
  have e7 : (7 : Int32).toInt = 7 := rfl
  have e3 : (3 : Int32).toInt = 3 := rfl
  have eL : Int32.ofNat nL.toNatClampNeg = nL := pi_ofNat nL0
  have pr9 : ∀ k, (ps_n 99 price) k ≤ 99 := ps_n_le
  have prat : ∀ k, k < nL.toNatClampNeg → Int32.ofNat ((ps_n 99 price) k) = price k := fun k hk => by
    have z := (hl.2 k hk).2
    exact ps_n_at (Int32.le_trans (by decide) z.1) z.2 rfl
  rw [pb_76_0]
  generalize hI1 : pm_u (pm_u I 57 4 (Int32.ofNat gN)) 57 7 0 = I1
  have k1 : ∀ k, ¬ k = 57 → I1 k = I k := fun k h => by rw [← hI1, pm_u_row, if_neg h, pm_u_row, if_neg h]
  have a4 : I1 57 4 = Int32.ofNat gN := by rw [← hI1, pm_u_row, if_pos rfl, pm_w_ne (by decide), pm_u_at]
  have a7 : I1 57 7 = 0 := by rw [← hI1, pm_u_at]
  -- the sums
  have zero : ∀ (k c : Nat) (I' : Nat → Nat → Int32), c + k = 3 → (∀ r, ¬ r = 59 → I' r = I1 r) → (∀ j, j < c → I' 59 j = 0) → pm_wp pm_code pm_meta (d + 9) 76 51 ([.ref 57, .int (Int32.ofNat gN), .int (Int32.ofNat (ps_rest (ps_n 99 price) nL.toNatClampNeg 0)), .int (Int32.ofNat c)], [], (pm_Gb L b, I', J)) Q := by
    intro k
    induction k with
    | zero =>
      intro c I' hk fr hz
      have r := fun k h (h5 : ¬ k = 57) => (fr k h).trans (k1 k h5)
      have z0 : ∀ j, ps_ld (nB.toNatClampNeg + 1) (ps_n 99 price) 0 0 j = 0 := fun _ => rfl
      rw [pb_76_51, show c = 3 by omega, if_pos (by decide), pb_76_72]
      have z := px_tryAll (L := L) (b := b) (J := J) (I0 := I') (gN := gN) (nL := nL) (nB := nB) (price := price) (coin := coin) (by rw [r 30 (by decide) (by decide), r 31 (by decide) (by decide)]; exact hl) (by rw [r 32 (by decide) (by decide), r 33 (by decide) (by decide)]; exact hb) (by rw [r 58 (by decide) (by decide)]; exact t58) (by rw [r 58 (by decide) (by decide)]; exact c58) (by rw [r 60 (by decide) (by decide)]; exact t60) (by rw [r 60 (by decide) (by decide)]; exact c60) (by rw [fr 57 (by decide)]; exact a4) g9 nL.toNatClampNeg 0 0 (d + 7) I' none
        (fun v w H => pm_wp pm_code pm_meta (d + 9) 76 80 ([.ref 57, .int (Int32.ofNat gN), .int (Int32.ofNat (ps_rest (ps_n 99 price) nL.toNatClampNeg 0)), .int (Int32.ofNat 3)], [], H) Q) (by omega) (by omega) ⟨fun _ _ _ _ _ _ => rfl, fun _ _ _ _ => rfl, by rw [r 62 (by decide) (by decide)]; exact t62, fun h => absurd (by rw [fr 57 (by decide)]; exact a7) h⟩ ⟨fun c1 hc1 => by
          rw [hz c1 (by have := hb.1.2 ▸ hb.1.1.2.2.2; have := pi_le.mp this; have := pi_tni (hb.1.2 ▸ hb.1.1.2.2.1); omega)]; rfl, fun j hj => absurd hj (Nat.not_lt_zero _), by rw [fr 57 (by decide)]; exact a7⟩ (fun I2 f2 x2 => ?_)
      · rw [ps_fl_0 z0, ps_cm_0 z0] at z
        exact z
      · have e57 : I2 57 7 = 0 ∨ I2 57 7 = 1 := by
          have q := x2.2.2
          rcases hT : (ps_T gN (nB.toNatClampNeg + 1) nB.toNatClampNeg (ps_n 99 price) (ps_n 300 coin) nL.toNatClampNeg 0 0 none) with _ | q1
          · rw [hT] at q; exact Or.inl q
          · rw [hT] at q; exact Or.inr q.1
        rw [pb_76_80]
        refine ⟨by rcases e57 with e | e <;> rw [e] <;> decide, ?_⟩
        exact hQ I2 (fun k h1 h2 h3 h4 h5 => (f2.1 k h1 h2 h3 h4 h5).trans (r k h2 h1)) f2.2.2.1 f2.2.2.2 x2.2.2
    | succ k ih =>
      intro c I' hk fr hz
      have g := on_n (a := c) (by omega)
      have r58 : I' 58 = I 58 := (fr 58 (by decide)).trans (k1 58 (by decide))
      rw [pb_76_51, if_neg (by rw [pi_le, g.2.2, e3]; omega), pb_76_56, pt_set_58_0 (by rw [r58]; exact t58), r58, if_pos ⟨g.1, by rw [c58, pi_lt, g.2.2, e3]; omega⟩, pb_76_66, on_s, g.2.1]
      refine ih (c + 1) _ (by omega) (fun r h => by rw [pm_u_row, if_neg h]; exact fr r h) (fun j hj => ?_)
      rw [pm_u_row, if_pos rfl, pm_w_at]
      by_cases e : j = 1 * c + 0
      · rw [if_pos e]
      · rw [if_neg e]; exact hz j (by omega)
  have sums : ∀ (k l acc : Nat), l + k = nL.toNatClampNeg → acc + ps_rest (ps_n 99 price) k l = ps_rest (ps_n 99 price) nL.toNatClampNeg 0 → pm_wp pm_code pm_meta (d + 9) 76 14 ([.ref 57, .int (Int32.ofNat gN), .int (Int32.ofNat acc), .int (Int32.ofNat l)], [], (pm_Gb L b, I1, J)) Q := by
    intro k
    induction k with
    | zero =>
      intro l acc hk ha
      have ha' : acc + 0 = ps_rest (ps_n 99 price) nL.toNatClampNeg 0 := ha
      rw [pb_76_14, k1 30 (by decide), hl.1.2, show l = nL.toNatClampNeg by omega, eL, if_pos (Int32.le_refl _), pb_76_49, show acc = ps_rest (ps_n 99 price) nL.toNatClampNeg 0 by omega]
      exact zero 3 0 I1 (by omega) (fun _ _ => rfl) (fun j hj => absurd hj (Nat.not_lt_zero _))
    | succ k ih =>
      intro l acc hk ha
      have ha' : acc + ((ps_n 99 price) l + ps_rest (ps_n 99 price) k (l + 1)) = ps_rest (ps_n 99 price) nL.toNatClampNeg 0 := ha
      have bd := ps_rest_bd pr9 nL.toNatClampNeg 0
      have g := on_n (a := l) (by omega)
      have l30 : Int32.ofNat l < nL := pi_onlt (by omega) (by omega)
      rw [pb_76_14, k1 30 (by decide), hl.1.2, if_neg (Int32.not_le.mpr l30), pb_76_28, px_lot_0 (n := nL) (price := price) (by rw [k1 30 (by decide), k1 31 (by decide)]; exact hl), pm_at_in g.1 l30, g.2.1, ← prat l (by omega), pb_76_41, hb_add _ _ (by omega) (by omega), on_s]
      exact ih (l + 1) _ (by omega) (by omega)
  exact sums nL.toNatClampNeg 0 0 (by omega) (by omega)
theorem inv_57 {X : Nat → Int32} {b : Bool} {I I' : Nat → Nat → Int32} {J : Nat → Nat → Int64} (hI : pm_inv X b I J) (h : ∀ k, ¬ k = 57 → ¬ k = 59 → ¬ k = 61 → ¬ k = 62 → ¬ k = 63 → I' k = I k) (ht : pm_ti (I' 62) 1 7) : pm_inv X b I' J := by
  have e : I' = pm_r (pm_r (pm_r (pm_r (pm_r I 57 (I' 57)) 59 (I' 59)) 61 (I' 61)) 62 (I' 62)) 63 (I' 63) := by
    funext k j
    simp only [pm_r_row]
    by_cases h1 : k = 63
    · subst h1; rw [if_pos rfl]
    · by_cases h2 : k = 62
      · subst h2; rw [if_neg h1, if_pos rfl]
      · by_cases h3 : k = 61
        · subst h3; rw [if_neg h1, if_neg h2, if_pos rfl]
        · by_cases h4 : k = 59
          · subst h4; rw [if_neg h1, if_neg h2, if_neg h3, if_pos rfl]
          · by_cases h5 : k = 57
            · subst h5; rw [if_neg h1, if_neg h2, if_neg h3, if_neg h4, if_pos rfl]
            · rw [if_neg h1, if_neg h2, if_neg h3, if_neg h4, if_neg h5, h k h5 h4 h3 h2 h1]
  rw [e]
  have hI0 := hI
  obtain ⟨⟨htod, hroa, hper, hhou, hthi, hrig, hver, hsea, hsta, hlot, hbuy, hdee, hple⟩, htxt, hrid, htmp, hshe, hshf, htra, hk, hkept, hcon⟩ := hI
  have hn1 := (per_n hper).1
  have hn2 := (hou_n hhou).1
  have hn3 := (thi_n hthi).1
  have hn4 := (rig_n hrig).1
  simp only [pm_inv, pm_land, pm_u_row, pm_zr_row, pm_w_at, Nat.reduceEqDiff, ite_true, ite_false, pm_kept_u, pm_kept_z, pm_kept_r, pm_r_row, ne_eq, not_false_eq_true, Nat.reduceLT, hcon, htod, hroa, hper, hhou, hthi, hrig, hver, hsea, hsta, hlot, hbuy, hdee, hple, htxt, hrid, htmp, hshe, hshf, htra, hk, hkept, true_and, and_true]
  exact ⟨htmp.1, htmp.2.1, htmp.2.2.1, ht, htmp.2.2.2.2⟩
theorem inv_fq {X : Nat → Int32} {b : Bool} {I I' : Nat → Nat → Int32} {J : Nat → Nat → Int64} (hI : pm_inv X b I J) (h : ps_fq I I') : pm_inv X b I' J := by
  have e : I' = pm_r (pm_u (pm_u I 79 87 (I' 79 87)) 79 88 (I' 79 88)) 148 (I' 148) := by
    funext k j
    simp only [pm_r_row, pm_u_row]
    by_cases h1 : k = 148
    · subst h1; rw [if_pos rfl]
    · rw [if_neg h1]
      by_cases h2 : k = 79
      · subst h2
        simp only [if_true, pm_w_at]
        by_cases k1 : j = 88
        · subst k1; rw [if_pos rfl]
        · by_cases k2 : j = 87
          · subst k2; rw [if_neg k1, if_pos rfl]
          · rw [if_neg k1, if_neg k2, h.2 j k2 k1]
      · simp only [h2, if_false]; rw [h.1 k h1 h2]
  rw [e]
  have hI0 := hI
  obtain ⟨⟨htod, hroa, hper, hhou, hthi, hrig, hver, hsea, hsta, hlot, hbuy, hdee, hple⟩, htxt, hrid, htmp, hshe, hshf, htra, hk, hkept, hcon⟩ := hI
  have hn1 := (per_n hper).1
  have hn2 := (hou_n hhou).1
  have hn3 := (thi_n hthi).1
  have hn4 := (rig_n hrig).1
  simp only [pm_inv, pm_land, pm_u_row, pm_zr_row, pm_w_at, Nat.reduceEqDiff, ite_true, ite_false, pm_kept_u, pm_kept_z, pm_kept_r, pm_r_row, ne_eq, not_false_eq_true, Nat.reduceLT, hcon, htod, hroa, hper, hhou, hthi, hrig, hver, hsea, hsta, hlot, hbuy, hdee, hple, htxt, hrid, htmp, hshe, hshf, htra, hk, hkept, true_and, and_true]
theorem po_sale {d L : Nat} {b : Bool} {I : Nat → Nat → Int32} {J : Nat → Nat → Int64} {X : Nat → Int32} {x1 x2 : Int32} (hI : pm_inv X b I J) : pm_wc pm_code pm_meta (d + 20) 158 [.ref 8, .int x1, .int x2] (pm_Gb L b, I, J) (fun v _ H => pm_wc pm_code pm_meta (d + 20) 275 [.ref 79, .int x1, .int x2] H (pm_ok X L b v)) := by
  have hI0 := hI
  have hl : pg_lot (I 30) (I 31) (I 80 7) (I 128) := hI.1.2.2.2.2.2.2.2.2.2.1
  have hb : pg_buy (I 32) (I 33) (I 80 8) (I 129) := hI.1.2.2.2.2.2.2.2.2.2.2.1
  have htmp := hI.2.2.2.1
  have e30 : I 30 3 = I 80 7 := hl.1.2
  have nL0 : 0 ≤ I 80 7 := by have := hl.1.2 ▸ hl.1.1.2.2.1; exact this
  have nL7 : I 80 7 ≤ 7 := by have := hl.1.2 ▸ hl.1.1.2.2.2; exact this
  have nB0 : 0 ≤ I 80 8 := by have := hb.1.2 ▸ hb.1.1.2.2.1; exact this
  have nB3 : I 80 8 ≤ 3 := by have := hb.1.2 ▸ hb.1.1.2.2.2; exact this
  have l1 := pi_tni nL0
  have l2 := pi_le.mp nL7
  have b1 := pi_tni nB0
  have b2 := pi_le.mp nB3
  have e7 : (7 : Int32).toInt = 7 := rfl
  have e3 : (3 : Int32).toInt = 3 := rfl
  have eL : I 80 7 = Int32.ofNat (I 80 7).toNatClampNeg := (pi_ofNat nL0).symm
  have eB : I 80 8 = Int32.ofNat (I 80 8).toNatClampNeg := (pi_ofNat nB0).symm
  have no : ¬ ((0 ≤ x1 ∧ x1 ≤ 900) ∧ ((0 ≤ x2 ∧ x2 ≤ 1) ∨ (10 ≤ x2 ∧ x2 ≤ 9 + I 80 7))) → pm_wc pm_code pm_meta (d + 20) 275 [.ref 79, .int x1, .int x2] (pm_Gb L b, I, J) (pm_ok X L b (-1)) := fun h => by
    rw [pb_275_0, pr_in, pb_275_8]
    by_cases c1 : 0 ≤ x1 ∧ x1 ≤ 900
    · rw [pm_b_t' c1, if_neg (by decide), pb_275_11, pr_in, pb_275_17]
      have c2 : ¬ (0 ≤ x2 ∧ x2 ≤ 1) := fun q => h ⟨c1, Or.inl q⟩
      have c3 : ¬ (10 ≤ x2 ∧ x2 ≤ 9 + I 80 7) := fun q => h ⟨c1, Or.inr q⟩
      rw [pm_b_f' c2, if_pos rfl, pb_275_20, pr_in, pb_275_36, pm_b_f' c3, if_pos rfl, pb_275_39]
      exact pm_okJ hI0
    · rw [pm_b_f' c1, if_pos rfl, pb_275_39]
      exact pm_okJ hI0
  rw [pb_158_0, e30, px_isWithin, pb_158_19, px_isWithin, pb_158_28]
  by_cases c1 : 0 ≤ x1 ∧ x1 ≤ 900
  · rw [pm_b_t' c1, if_neg (by decide), pb_158_31, px_isWithin, pb_158_37]
    have go : ((0 ≤ x2 ∧ x2 ≤ 1) ∨ (10 ≤ x2 ∧ x2 ≤ 9 + I 80 7)) → pm_wp pm_code pm_meta (d + 20) 158 46 ([.ref 8, .int x1, .int x2, .int (pm_b (10 ≤ x2 ∧ x2 ≤ 9 + I 80 7))], [], (pm_Gb L b, I, J)) (fun v _ H => pm_wc pm_code pm_meta (d + 20) 275 [.ref 79, .int x1, .int x2] H (pm_ok X L b v)) := fun hx => by
      have x1p := pi_tni c1.1
      have x19 := pi_le.mp c1.2
      rw [show (900 : Int32).toInt = 900 from rfl] at x19
      have ex1 : x1 = Int32.ofNat x1.toNatClampNeg := (pi_ofNat c1.1).symm
      generalize hgN : x1.toNatClampNeg = gN at ex1 x1p
      subst ex1
      rw [pb_158_46]
      refine px_sales (d := d + 10) (nL := I 80 7) (nB := I 80 8) (price := I 128) (coin := I 129) hl hb htmp.2.1.1 htmp.2.1.2 htmp.2.2.1.1 htmp.2.2.1.2 htmp.2.2.2.1 (by omega) (fun I2 f2 t62 c62 s2 => ?_)
      have hI2 : pm_inv X b I2 J := inv_57 hI0 f2 t62
      have r80 : I2 80 = I 80 := f2 80 (by decide) (by decide) (by decide) (by decide) (by decide)
      have r128 : I2 128 = I 128 := f2 128 (by decide) (by decide) (by decide) (by decide) (by decide)
      have r129 : I2 129 = I 129 := f2 129 (by decide) (by decide) (by decide) (by decide) (by decide)
      have ref : ∀ v, v = ps_an (I 80 8).toNatClampNeg (I 80 7).toNatClampNeg x2 (ps_T gN ((I 80 8).toNatClampNeg + 1) (I 80 8).toNatClampNeg (ps_n 99 (I 128)) (ps_n 300 (I 129)) (I 80 7).toNatClampNeg 0 0 none) → pm_wc pm_code pm_meta (d + 20) 275 [.ref 79, .int (Int32.ofNat gN), .int x2] (pm_Gb L b, I2, J) (pm_ok X L b v) := fun v hv => by
        refine pr_sale (d := d + 18) (NL := (I 80 7).toNatClampNeg) (NB := (I 80 8).toNatClampNeg) (PR := ps_n 99 (I 128)) (CO := ps_n 300 (I 129)) (by rw [r80]; exact eL) (by rw [r80]; exact eB) (by omega) (by omega) ps_n_le ps_n_le (fun k hk => ?_) (fun k hk => ?_) (by omega) (by rw [← eL]; exact hx) (fun I3 f3 => ?_)
        · rw [r128]
          have z := (hl.2 k hk).2
          exact (ps_n_at (Int32.le_trans (by decide) z.1) z.2 rfl).symm
        · rw [r129]
          have z := (hb.2 k hk).2
          exact (ps_n_at z.1 z.2 rfl).symm
        · rw [← hv]
          exact pm_okJ (inv_fq hI2 f3)
      rw [pb_158_54]
      generalize hT : ps_T gN ((I 80 8).toNatClampNeg + 1) (I 80 8).toNatClampNeg (ps_n 99 (I 128)) (ps_n 300 (I 129)) (I 80 7).toNatClampNeg 0 0 none = T at s2 ref
      rcases T with _ | ⟨f1, c0, w1⟩
      · have s2' : I2 57 7 = 0 := s2
        rw [if_pos s2', pb_158_57]
        exact ref _ rfl
      · obtain ⟨g7, g5, g6, gb1, gb2, g63⟩ := s2
        have n7 : ¬ I2 57 7 = 0 := by rw [g7]; decide
        rw [if_neg n7, pb_158_60]
        by_cases c3 : 10 ≤ x2 ∧ x2 ≤ 9 + I 80 7
        · have q1 := pi_le.mp c3.1
          have q2 := pi_le.mp c3.2
          rw [show (10 : Int32).toInt = 10 from rfl] at q1
          have e9 : (9 + I 80 7).toInt = 9 + (I 80 7).toInt := by
            rw [pi_add (by rw [show (9 : Int32).toInt = 9 from rfl]; omega) (by rw [show (9 : Int32).toInt = 9 from rfl]; omega)]; rfl
          rw [e9] at q2
          have em : (x2 - 10).toInt = x2.toInt - 10 := by rw [pi_sub (by rw [show (10 : Int32).toInt = 10 from rfl]; omega) (by rw [show (10 : Int32).toInt = 10 from rfl]; omega)]; rfl
          have m0 : 0 ≤ x2 - 10 := by rw [pi_le, pi_0, em]; omega
          have mt := pi_tni m0
          have n0 : ¬ x2 = 0 := fun z => by rw [z, pi_0] at q1; omega
          have n1 : ¬ x2 = 1 := fun z => by rw [z, pi_1] at q1; omega
          have e1 : 1 * (x2 - 10).toNatClampNeg + 0 = (x2 - 10).toNatClampNeg := by omega
          rw [pm_b_t' c3, if_neg (by decide), pb_158_64, pb_79_0, pt_get_62_0 t62, c62 n7, if_pos (⟨m0, by rw [pi_lt, em, e7]; omega⟩ : 0 ≤ x2 - 10 ∧ x2 - 10 < 7), e1, pb_79_9, pb_158_75]
          refine ref _ ?_
          rw [an_some]
          rw [if_neg n0, if_neg n1]
          exact g63 _ (by omega)
        · have c2 := hx.resolve_right c3
          rw [pm_b_f' c3, if_pos rfl, pb_158_76]
          by_cases e : x2 = 0
          · rw [if_pos e, pb_158_80, pb_158_97]
            refine ref _ ?_
            rw [an_some]
            rw [if_pos e, g5]
          · have e1 : x2 = 1 := by
              have q1 := pi_le.mp c2.1
              have q2 := pi_le.mp c2.2
              rw [pi_0] at q1
              rw [pi_1] at q2
              have : ¬ x2.toInt = 0 := fun z => e (Int32.toInt_inj.mp z)
              exact Int32.toInt_inj.mp (by rw [pi_1]; omega)
            rw [if_neg e, pb_158_90, pb_158_97]
            refine ref _ ?_
            rw [an_some]
            rw [if_neg e, if_pos e1, g6]
    by_cases c2 : 0 ≤ x2 ∧ x2 ≤ 1
    · rw [pm_b_t' c2, if_neg (by decide)]
      exact go (Or.inl c2)
    · rw [pm_b_f' c2, if_pos rfl, pb_158_40]
      by_cases c3 : 10 ≤ x2 ∧ x2 ≤ 9 + I 80 7
      · have g := go (Or.inr c3)
        rw [pm_b_t' c3] at g ⊢
        rw [if_neg (by decide)]
        exact g
      · rw [pm_b_f' c3, if_pos rfl, pb_158_44]
        exact no (fun q => q.2.elim c2 c3)
  · rw [pm_b_f' c1, if_pos rfl, pb_158_44]
    exact no (fun q => c1 q.1)

