/-! THE CALL order: the call. -/
theorem fo_nm {p : Nat → Prop} [DecidablePred p] {c : Int32 → Prop} [DecidablePred c] (hc : ∀ k, k < 8 → (c (Int32.ofNat k) ↔ ¬ p k)) : ∀ (m k : Nat), k + m ≤ 8 → pm_fo (fun (s i : Int32) => if c i then s else s + 1) m (Int32.ofNat k) (Int32.ofNat (pf_nm p k)) = Int32.ofNat (pf_nm p (k + m))
  | 0, k, _ => rfl
  | m + 1, k, h => by
    have nl := nm_le (p := p) k
    unfold pm_fo
    have e : (if c (Int32.ofNat k) then Int32.ofNat (pf_nm p k) else Int32.ofNat (pf_nm p k) + 1) = Int32.ofNat (pf_nm p (k + 1)) := by
      conv => rhs; unfold pf_nm
      by_cases c1 : p k
      · rw [if_pos c1, if_neg (fun q => (hc k (by omega)).mp q c1), pi_onadd (by omega)]
      · rw [if_neg c1, if_pos ((hc k (by omega)).mpr c1)]
    rw [e, pi_onadd (by omega), fo_nm hc m (k + 1) (by omega), show k + 1 + m = k + (m + 1) by omega]
theorem pr_all {d L : Nat} {b : Bool} {I : Nat → Nat → Int32} {J : Nat → Nat → Int64} {x1 : Int32} {Q : Int32 → Int64 → pm_H → Prop} (n0 : 0 ≤ I 80 2) (n8 : I 80 2 ≤ 8)
    (hQ : pm_wp pm_code pm_meta (d + 1) 283 38 ([.ref 79, .int x1, .int (Int32.ofNat (pf_mk (fun k => ¬ 0 ≤ I 88 k) (I 80 2).toNatClampNeg)), .int (I 80 2), pm_unset, pm_unset, pm_unset], [], (pm_Gb L b, I, J)) Q) : pm_wc pm_code pm_meta (d + 1) 283 [.ref 79, .int x1] (pm_Gb L b, I, J) Q := by
  have t1 := pi_tni n0
  have t2 := pi_le.mp n8
  have e8 : (8 : Int32).toInt = 8 := rfl
  have key : ∀ (m k : Nat), k + m = (I 80 2).toNatClampNeg → pm_wp pm_code pm_meta (d + 1) 283 4 ([.ref 79, .int x1, .int (Int32.ofNat (pf_mk (fun k => ¬ 0 ≤ I 88 k) k)), .int (Int32.ofNat k), pm_unset, pm_unset, pm_unset], [], (pm_Gb L b, I, J)) Q := by
    intro m
    induction m with
    | zero =>
      intro k hk
      have ek : k = (I 80 2).toNatClampNeg := by omega
      have p := pi_on (j := k) (by omega)
      have hi : I 80 2 ≤ Int32.ofNat k := by rw [pi_le, p.2.2]; omega
      have e : Int32.ofNat (I 80 2).toNatClampNeg = I 80 2 := pi_ofNat n0
      rw [pb_283_4, if_pos hi, ek, e]
      exact hQ
    | succ m ih =>
      intro k hk
      have p := pi_on (j := k) (by omega)
      have lk : Int32.ofNat k < I 80 2 := pi_onlt (by omega) (by omega)
      have ek := pi_onadd (j := k) (by omega)
      have i8 := pi_in8 n8 p.1 lk
      have lt := mk_lt (p := fun k => ¬ 0 ≤ I 88 k) k
      have l2 : 2 ^ k ≤ 2 ^ 8 := Nat.pow_le_pow_right (by decide) (by omega)
      have z := hb_or (pf_mk (fun k => ¬ 0 ≤ I 88 k) k) k (by omega) (by omega)
      have z' := z.1
      have q := ih (k + 1) (by omega)
      by_cases c : 0 ≤ I 88 k
      · have em : pf_mk (fun k => ¬ 0 ≤ I 88 k) (k + 1) = pf_mk (fun k => ¬ 0 ≤ I 88 k) k := if_neg (fun h => h c)
        have cc : pm_b (0 ≤ I 88 k) = 1 := pm_b_t' c
        rw [em, ← ek] at q
        rw [pb_283_4, if_neg (Int32.not_le.mpr lk), pb_283_14, pr_hasFallen]
        refine ⟨i8, ?_⟩
        rw [p.2.1, cc, pb_283_20, if_neg (by decide), pb_283_23, pb_283_30, Int32.or_zero]
        exact q
      · have em : pf_mk (fun k => ¬ 0 ≤ I 88 k) (k + 1) = pf_mk (fun k => ¬ 0 ≤ I 88 k) k ||| 2 ^ k := if_pos c
        have cc : pm_b (0 ≤ I 88 k) = 0 := pm_b_f' c
        rw [em, ← ek] at q
        rw [pb_283_4, if_neg (Int32.not_le.mpr lk), pb_283_14, pr_hasFallen]
        refine ⟨i8, ?_⟩
        rw [p.2.1, cc, pb_283_20, if_pos rfl, pb_283_27, pb_283_30, z']
        exact q
  rw [pb_283_0]
  exact key (I 80 2).toNatClampNeg 0 (by omega)
theorem brr_cg {nn : Int32} {kind house amount leans fell g g' : Nat → Int32} {t : Nat} (n0 : 0 ≤ nn) (nl : nn < 2147483647) (h : ∀ j, j < nn.toNatClampNeg → g j = g' j) : pf_brr kind house amount leans fell g nn t = pf_brr kind house amount leans fell g' nn t := by
  unfold pf_brr
  refine fo_cg0 n0 nl (fun s q q0 q1 => ?_)
  rw [h _ (pi_tnlt q0 q1)]
theorem inv_69 {X : Nat → Int32} {b : Bool} {I : Nat → Nat → Int32} {J : Nat → Nat → Int64} {f : Nat → Int32} (hI : pm_inv X b I J) : pm_inv X b (pm_r I 69 f) J := by
  have hI0 := hI
  obtain ⟨⟨htod, hroa, hper, hhou, hthi, hrig, hver, hsea, hsta, hlot, hbuy, hdee, hple⟩, htxt, hrid, htmp, hshe, hshf, htra, hk, hkept, hcon⟩ := hI
  have hn1 := (per_n hper).1
  have hn2 := (hou_n hhou).1
  have hn3 := (thi_n hthi).1
  have hn4 := (rig_n hrig).1
  simp only [pm_inv, pm_land, pm_u_row, pm_zr_row, pm_w_at, Nat.reduceEqDiff, ite_true, ite_false, pm_kept_u, pm_kept_z, pm_kept_r, pm_r_row, ne_eq, not_false_eq_true, Nat.reduceLT, hcon, htod, hroa, hper, hhou, hthi, hrig, hver, hsea, hsta, hlot, hbuy, hdee, hple, htxt, hrid, htmp, hshe, hshf, htra, hk, hkept, true_and, and_true]
theorem inv_149 {X : Nat → Int32} {b : Bool} {I : Nat → Nat → Int32} {J : Nat → Nat → Int64} {br mo : Nat → Int32} (hI : pm_inv X b I J) : pm_inv X b (pm_r (pm_r I 149 br) 150 mo) J := by
  have hI0 := hI
  obtain ⟨⟨htod, hroa, hper, hhou, hthi, hrig, hver, hsea, hsta, hlot, hbuy, hdee, hple⟩, htxt, hrid, htmp, hshe, hshf, htra, hk, hkept, hcon⟩ := hI
  have hn1 := (per_n hper).1
  have hn2 := (hou_n hhou).1
  have hn3 := (thi_n hthi).1
  have hn4 := (rig_n hrig).1
  simp only [pm_inv, pm_land, pm_u_row, pm_zr_row, pm_w_at, Nat.reduceEqDiff, ite_true, ite_false, pm_kept_u, pm_kept_z, pm_kept_r, pm_r_row, ne_eq, not_false_eq_true, Nat.reduceLT, hcon, htod, hroa, hper, hhou, hthi, hrig, hver, hsea, hsta, hlot, hbuy, hdee, hple, htxt, hrid, htmp, hshe, hshf, htra, hk, hkept, true_and, and_true]
theorem po_order {d L : Nat} {b : Bool} {I : Nat → Nat → Int32} {J : Nat → Nat → Int64} {X : Nat → Int32} {x1 : Int32} (hI : pm_inv X b I J) : pm_wc pm_code pm_meta (d + 20) 163 [.ref 8, .int x1] (pm_Gb L b, I, J) (fun v _ H => pm_wc pm_code pm_meta (d + 20) 283 [.ref 79, .int x1] H (pm_ok X L b v)) := by
  have hI0 := hI
  have hhou := hI.1.2.2.2.1
  have n0 := (hou_n hhou).1
  have n8 := (hou_n hhou).2
  have t1 := pi_tni n0
  have t2 := pi_le.mp n8
  have e8 : (8 : Int32).toInt = 8 := rfl
  have nl := hou_l hhou
  have lU := mk_lt (p := fun k => ¬ 0 ≤ I 88 k) (I 80 2).toNatClampNeg
  have l2 : 2 ^ (I 80 2).toNatClampNeg ≤ 2 ^ 8 := Nat.pow_le_pow_right (by decide) (by omega)
  have nmn := nm_le (p := fun k => ¬ 0 ≤ I 88 k) (I 80 2).toNatClampNeg
  have enm : pm_fo (fun (s i : Int32) => if 0 ≤ I 88 i.toNatClampNeg then s else s + 1) (I 80 2).toNatClampNeg 0 0 = Int32.ofNat (pf_nm (fun k => ¬ 0 ≤ I 88 k) (I 80 2).toNatClampNeg) := by
    have z := fo_nm (p := fun k => ¬ 0 ≤ I 88 k) (c := fun i => 0 ≤ I 88 i.toNatClampNeg) (fun k hk => by rw [(pi_on (j := k) (by omega)).2.1]; exact Classical.not_not.symm) (I 80 2).toNatClampNeg 0 (by omega)
    rw [Nat.zero_add] at z
    exact z
  have epc := mk_pc (p := fun k => ¬ 0 ≤ I 88 k) (I 80 2).toNatClampNeg (by omega)
  have pn := pi_on (j := pf_nm (fun k => ¬ 0 ≤ I 88 k) (I 80 2).toNatClampNeg) (by omega)
  rw [pb_163_0, px_manyUnfallen (d := d + 17) hhou, pb_163_9, enm, px_isWithin, pb_163_12]
  by_cases h1 : 0 ≤ x1 ∧ x1 ≤ Int32.ofNat (pf_nm (fun k => ¬ 0 ≤ I 88 k) (I 80 2).toNatClampNeg)
  · obtain ⟨x, hx, hxn⟩ : ∃ x : Nat, x1 = Int32.ofNat x ∧ x ≤ pf_nm (fun k => ¬ 0 ≤ I 88 k) (I 80 2).toNatClampNeg := by
      refine ⟨x1.toNatClampNeg, (pi_ofNat h1.1).symm, ?_⟩
      have a := pi_tni h1.1
      have c := pi_le.mp h1.2
      rw [pn.2.2] at c
      omega
    have px := pi_on (j := x) (by omega)
    rw [pm_b_t' h1, if_neg (by decide), pb_163_17]
    refine px_reckon (d := d + 13) hI0 (fun I1 hI1 hk h8 => ?_)
    have eI : pm_r I1 69 (I1 69) = I1 := by
      funext k j
      rw [pm_r_row]
      by_cases k1 : k = 69
      · subst k1; rw [if_pos rfl]
      · rw [if_neg k1]
    have hhou1 := hI1.1.2.2.2.1
    have hrig1 := hI1.1.2.2.2.2.2.1
    have htmp1 := hI1.2.2.2.1
    have hR := fun (Q : Int32 → Int64 → pm_H → Prop) => px_orderReckon (d := d + 15) (L := L) (b := b) (J := J) (Q := Q) (I0 := I1) (g := pf_gone I1) (f := I1 69) hrig1 h8 hhou1 rfl htmp1.2.2.2.2.2.1 htmp1.2.2.2.2.2.2
    simp only [eI] at hR
    rw [pb_163_24]
    refine hR _ (fun f hf => ?_)
    -- the reference, after the class
    have hI2 : pm_inv X b (pm_r I1 69 f) J := inv_69 hI1
    obtain ⟨I2, e2⟩ : ∃ I2, I2 = pm_r I1 69 f := ⟨_, rfl⟩
    have r2 : ∀ k, ¬ k = 69 → I2 k = I1 k := fun k h => by rw [e2, pm_r_row, if_neg h]
    have r269 : I2 69 = f := by rw [e2, pm_r_row, if_pos rfl]
    rw [← e2] at hI2 ⊢
    have k2 : ∀ k, ¬ k = 19 → ¬ k = 69 → I2 k = I k := fun k h h' => (r2 k h').trans (hk k h)
    have cg := (gone_cg2 (I := I1) (I1 := I2) (fun k h h' => r2 k (by omega))).1
    -- the class's side to its answer
    have ref : ∀ v, (∀ br mo : Nat → Int32, (∀ t, t < 256 → pf_in t (pf_mk (fun k => ¬ 0 ≤ I 88 k) (I 80 2).toNatClampNeg) → pf_mb f (I 80 2) (pf_mk (fun k => 0 ≤ I 88 k) (I 80 2).toNatClampNeg ||| t) = mo t ∧ 0 ≤ mo t ∧ (¬ t = 0 → f (pf_mk (fun k => 0 ≤ I 88 k) (I 80 2).toNatClampNeg ||| t) = br t + mo t) ∧ 0 ≤ br t + mo t) → (if x = 0 then mo 0 else pf_hst (pf_nb f (I 80 2)) x (pf_mk (fun k => 0 ≤ I 88 k) (I 80 2).toNatClampNeg) (-3)) = v) → pm_wc pm_code pm_meta (d + 20) 283 [.ref 79, .int x1] (pm_Gb L b, I2, J) (pm_ok X L b v) := by
      intro v hv
      refine pr_all (d := d + 19) (by rw [k2 80 (by decide) (by decide)]; exact n0) (by rw [k2 80 (by decide) (by decide)]; exact n8) ?_
      rw [k2 80 (by decide) (by decide), k2 88 (by decide) (by decide), pb_283_38, pr_ones (by omega), pb_283_44, pr_in, epc, pm_b_t' h1, pb_283_47, if_neg (by decide), pb_283_52]
      refine pr_findGone (d := d + 13) (gr_inv hI2) (gv_inv hI2) (fun I' ag hg => ?_)
      have hI' := inv_ag hI2 ag
      have k' : ∀ k, ¬ k = 19 → ¬ k = 69 → ¬ k = 79 → ¬ k = 137 → I' k = I k := fun k h h' h3 h4 => (ag.1 k h3 h4).trans (k2 k h h')
      have eI' : pm_r (pm_r I' 149 (I' 149)) 150 (I' 150) = I' := by
        funext k j
        simp only [pm_r_row]
        by_cases z1 : k = 150
        · subst z1; rw [if_pos rfl]
        · rw [if_neg z1]
          by_cases z2 : k = 149
          · subst z2; rw [if_pos rfl]
          · rw [if_neg z2]
      have hrig' := hI'.1.2.2.2.2.2.1
      have hhou' := hI'.1.2.2.2.1
      have e80 := k' 80 (by decide) (by decide) (by decide) (by decide)
      have e88 := k' 88 (by decide) (by decide) (by decide) (by decide)
      have S := pr_orderSets (d := d + 18) (L := L) (b := b) (J := J) (I0 := I') (x1 := x1) (U := pf_mk (fun k => ¬ 0 ≤ I 88 k) (I 80 2).toNatClampNeg) (Q := pm_ok X L b v) hrig' hhou' (by omega) (fun br mo D hok => ?_) 256 (I' 149) (I' 150) none (Nat.le_refl _) (fun t h1 h2 => by omega)
      · rw [eI', show Int32.ofNat 256 - 1 = 255 from by decide] at S
        simp only [Option.map, Option.bind, pm_vl_n] at S
        rw [pb_283_56]
        exact S
      · -- the sets told
        have same : ∀ t, pf_brr (I' 99) (I' 100) (I' 102) (I' 106) (I' 88) (I' 137) (I' 80 4) t = pf_brr (I' 99) (I' 100) (I' 102) (I' 106) (I' 88) (pf_gone I1) (I' 80 4) t := fun t => brr_cg (rig_n hrig').1 (rig_l hrig') (fun j hj => by
          rw [← cg]
          exact hg j (by rw [← ag.1 80 (by decide) (by decide)]; exact hj))
        have hok' : pf_rok (pf_brr (I1 99) (I1 100) (I1 102) (I1 106) (I1 88) (pf_gone I1) (I1 80 4)) (pf_mk (fun k => ¬ 0 ≤ I1 88 k) (I1 80 2).toNatClampNeg) 0 br mo := fun t h1 h2 h3 => by
          have z := hok t h1 h2 (by rw [hk 80 (by decide), hk 88 (by decide)] at h3; exact h3)
          rw [same, e80, e88, k' 99 (by decide) (by decide) (by decide) (by decide), k' 100 (by decide) (by decide) (by decide) (by decide), k' 102 (by decide) (by decide) (by decide) (by decide), k' 106 (by decide) (by decide) (by decide) (by decide)] at z
          rw [hk 80 (by decide), hk 88 (by decide), hk 99 (by decide), hk 100 (by decide), hk 102 (by decide), hk 106 (by decide)]
          exact z
        have rel := set_rel (f := f) (br := br) (mo := mo) hrig1 rfl (by rw [hk 80 (by decide)]; exact n8) (by rw [hk 80 (by decide)]; exact n0) hf hok'
        rw [hk 80 (by decide), hk 88 (by decide)] at rel
        have rel' : ∀ t, t < 256 → pf_in t (pf_mk (fun k => ¬ 0 ≤ I 88 k) (I 80 2).toNatClampNeg) → pf_mb f (I 80 2) (pf_mk (fun k => 0 ≤ I 88 k) (I 80 2).toNatClampNeg ||| t) = mo t ∧ 0 ≤ mo t ∧ (¬ t = 0 → f (pf_mk (fun k => 0 ≤ I 88 k) (I 80 2).toNatClampNeg ||| t) = br t + mo t) ∧ 0 ≤ br t + mo t := fun t ht hin => by
          have z := rel (255 - t) t (by omega) hin
          refine ⟨z.1, z.2.1, z.2.2.2, ?_⟩
          have w := hok' t (Nat.zero_le _) ht (by rw [hk 80 (by decide), hk 88 (by decide)]; exact hin)
          have bb := brr_ok (g := pf_gone I1) (fell := I1 88) (t := t) hrig1
          rw [← w.1] at bb
          have q1 := pi_le.mp bb.1
          have q2 := pi_le.mp z.2.1
          have q3 := z.2.2.1
          have q4 := bb.2
          rw [pi_0] at q1 q2
          rw [pi_le, pi_0, pi_add (by omega) (by omega)]
          omega
        have hvv := hv br mo rel'
        have hfin : pm_inv X b (pm_r (pm_r I' 149 br) 150 mo) J := inv_149 hI'
        have r150 : pm_r (pm_r I' 149 br) 150 mo 150 = mo := by rw [pm_r_row, if_pos rfl]
        by_cases cx : x = 0
        · have cx1 : x1 = 0 := by rw [hx, cx]; rfl
          rw [if_pos cx] at hvv
          rcases D with _ | ⟨a, c, _ | e⟩ <;> simp only [Option.map, Option.bind, pm_vl_n, pm_vl_s] <;> first | (rw [pb_283_201, if_pos cx1, pb_283_205, r150]; exact pm_okI2 hvv hfin) | (rw [pb_283_201b, if_pos cx1, pb_283_205b, r150]; exact pm_okI2 hvv hfin) | (rw [pb_283_201c, if_pos cx1, pb_283_205c, r150]; exact pm_okI2 hvv hfin)
        · have cx1 : ¬ x1 = 0 := fun q => by
            rw [hx, show (0 : Int32) = Int32.ofNat 0 from rfl] at q
            exact cx (hb_inj (by omega) (by omega) q)
          rw [if_neg cx] at hvv
          have st : ∀ E : Option Int32, pm_wp pm_code pm_meta (d + 20) 283 221 ([.ref 79, .int x1, .int (Int32.ofNat (pf_mk (fun k => ¬ 0 ≤ I 88 k) (I 80 2).toNatClampNeg)), .int 0, .int (-3), .int 0, pm_vl E], [], (pm_Gb L b, pm_r (pm_r I' 149 br) 150 mo, J)) (pm_ok X L b v) := fun E => by
            have z := pr_steps (d := d + 20) (L := L) (b := b) (J := J) (I0 := I') (n := I 80 2) (x := x) (f := f) (br := br) (mo := mo) (fell := I 88) (Q := pm_ok X L b v) n0 n8 (by rw [epc]; exact hxn) rel' x 0 0 (-3) E (by omega) (fun k hk => by rw [Nat.zero_testBit] at hk; exact absurd hk (by decide)) (by decide) (by rw [Nat.or_zero]; exact pm_okI2 hvv hfin)
            rw [← hx] at z
            exact z
          have st0 := st (D.bind (·.2.2))
          have st1 := st none
          rcases D with _ | ⟨a, c, _ | e⟩ <;> simp only [Option.map, Option.bind, pm_vl_n, pm_vl_s] at st0 st1 ⊢ <;> first | (rw [pb_283_201, if_neg cx1, pb_283_212]; exact st1) | (rw [pb_283_201b, if_neg cx1, pb_283_212b]; exact st1) | (rw [pb_283_201c, if_neg cx1, pb_283_212c]; exact st0)
    -- the class's answer
    have hh2 : pg_hou (I2 14) (I2 15) (I 80 2) (I1 80 0) (I1 84) (I1 85) (I1 86) (I1 87) (I 88) (I1 89) (I1 90) (I1 91) (I1 92) (I1 93) := by
      rw [r2 14 (by decide), r2 15 (by decide), ← hk 80 (by decide), ← hk 88 (by decide)]; exact hhou1
    have z0 : ∀ t : Nat, pf_in 0 t := fun t k hk => by rw [Nat.zero_testBit] at hk; exact absurd hk (by decide)
    rw [hk 80 (by decide), hk 88 (by decide), pb_163_32]
    by_cases cx : x = 0
    · have cx1 : x1 = 0 := by rw [hx, cx]; rfl
      rw [if_pos cx1, pb_163_37, pb_163_51]
      refine ref _ (fun br mo rel => ?_)
      rw [if_pos cx]
      have z := (rel 0 (by decide) (z0 _)).1
      rw [Nat.or_zero] at z
      exact z.symm
    · have cx1 : ¬ x1 = 0 := fun q => by
        rw [hx, show (0 : Int32) = Int32.ofNat 0 from rfl] at q
        exact cx (hb_inj (by omega) (by omega) q)
      have e1 : x1 - 1 = Int32.ofNat (x - 1) := by
        rw [hx, show (1 : Int32) = Int32.ofNat 1 from rfl, hb_sub _ _ (by omega) (by omega)]
      rw [if_neg cx1, pb_163_41, e1]
      refine px_houseAt (d := d + 16) hh2 (by rw [r2 68 (by decide)]; exact htmp1.2.2.2.2.2.1) (by rw [r2 68 (by decide)]; exact htmp1.2.2.2.2.2.2) (by omega) (by omega) ?_
      rw [pb_163_51]
      refine ref _ (fun br mo rel => ?_)
      rw [if_neg cx, r269]
  · rw [pm_b_f' h1, if_pos rfl, pb_163_15]
    refine pr_all (d := d + 19) n0 n8 ?_
    rw [pb_283_38, pr_ones (by omega), pb_283_44, pr_in, epc, pm_b_f' h1, pb_283_47, if_pos rfl, pb_283_50]
    exact pm_okJ hI0

