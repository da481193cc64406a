/-! THE CALL read. -/
theorem inv_bad {I I2 : Nat → Nat → Int32} {J : Nat → Nat → Int64} {X : Nat → Int32} {b : Bool} (hI : pm_inv X b I J) (xe : rd_XE I I2) : pm_inv X b (pm_u I2 79 61 0) J := by
  obtain ⟨a1, a2, a3, a4, a5⟩ := xe
  have hver := hI.1.2.2.2.2.2.2.1
  have z : ∀ r, ¬ r = 79 → pm_u I2 79 61 0 r = I2 r := fun r hr => by rw [pm_u_row, if_neg hr]
  have zz : ∀ r, ¬ r = 40 → ¬ (42 ≤ r ∧ r ≤ 47) → ¬ r = 79 → pm_u I2 79 61 0 r = I r := fun r c1 c2 c3 => by rw [z r c3, a1 r c1 c2]
  refine inv_fin hI (fun r hr => zz r (by omega) (by omega) (by omega)) (fun j _ => by rw [zz 80 (by decide) (by decide) (by decide)]) (fun j hj => ?_) rfl ⟨?_, ?_, ?_, ?_, pm_u_at _ _ _ _⟩ ?_
  · rw [pm_u_row, if_pos rfl, pm_w_ne (by omega), a1 79 (by decide) (by decide)]
  · rw [z 42 (by decide)]; exact a2
  · rw [z 44 (by decide)]; exact a3
  · rw [z 46 (by decide)]; exact a4
  · rw [z 40 (by decide)]; exact a5
  · rw [zz 20 (by decide) (by decide) (by decide), zz 21 (by decide) (by decide) (by decide), zz 22 (by decide) (by decide) (by decide), zz 23 (by decide) (by decide) (by decide), zz 24 (by decide) (by decide) (by decide), zz 25 (by decide) (by decide) (by decide), zz 80 (by decide) (by decide) (by decide), zz 112 (by decide) (by decide) (by decide), zz 113 (by decide) (by decide) (by decide), zz 114 (by decide) (by decide) (by decide), zz 115 (by decide) (by decide) (by decide), zz 116 (by decide) (by decide) (by decide), zz 117 (by decide) (by decide) (by decide), zz 118 (by decide) (by decide) (by decide), zz 119 (by decide) (by decide) (by decide), zz 120 (by decide) (by decide) (by decide), zz 121 (by decide) (by decide) (by decide), zz 122 (by decide) (by decide) (by decide), zz 123 (by decide) (by decide) (by decide)]
    exact hver
theorem po_read {d L : Nat} {b : Bool} {I : Nat → Nat → Int32} {J : Nat → Nat → Int64} {X : Nat → Int32} {x1 : Int32} (hI : pm_inv X b I J) : pm_wc pm_code pm_meta (d + 40) 133 [.ref 8, .int x1] (pm_Gb L b, I, J) (fun v _ H => pm_wc pm_code pm_meta (d + 40) 233 [.ref 79, .int x1] H (pm_ok X L b v)) := by
  have hver := hI.1.2.2.2.2.2.2.1
  have htod := hI.1.1
  have hcon := hI.2.2.2.2.2.2.2.2.2
  obtain ⟨⟨t42, t44, t46⟩, hlen, h0, h300, hb⟩ := hI.2.1
  have hv := ver_n hver
  obtain ⟨n, hn⟩ : ∃ n : Nat, n = (I 79 61).toNatClampNeg := ⟨_, rfl⟩
  obtain ⟨sl, hsl⟩ : ∃ n : Nat, n = (I 80 5).toNatClampNeg := ⟨_, rfl⟩
  obtain ⟨c, hc⟩ : ∃ c : Nat → Nat, ∀ p, c p = (I 138 p).toNatClampNeg := ⟨fun p => (I 138 p).toNatClampNeg, fun _ => rfl⟩
  obtain ⟨r0, hr0⟩ : ∃ n : Nat, n = (I 22 3).toNatClampNeg := ⟨_, rfl⟩
  obtain ⟨s0, hs0⟩ : ∃ n : Nat, n = (I 24 3).toNatClampNeg := ⟨_, rfl⟩
  have h61 : I 79 61 = Int32.ofNat n := by rw [hn, pi_ofNat h0]
  have h80 : I 80 5 = Int32.ofNat sl := by rw [hsl, pi_ofNat hv.1]
  have h22 : I 22 3 = Int32.ofNat r0 := by rw [hr0, pi_ofNat hver.1.2.2.1.2.2.1]
  have h24 : I 24 3 = Int32.ofNat s0 := by rw [hs0, pi_ofNat hver.1.2.2.2.2.2.1]
  have n3 : n ≤ 300 := by have a := pi_tni h0; have e : (300 : Int32).toInt = 300 := rfl; have q := pi_le.mp h300; omega
  have sl12 : sl ≤ 12 := by have a := pi_tni hv.1; have e : (12 : Int32).toInt = 12 := rfl; have q := pi_le.mp hv.2; omega
  have r0l : r0 ≤ 10 * sl := by rw [hr0, hsl]; exact hver.2.1
  have s0l : s0 ≤ 100 * sl := by rw [hs0, hsl]; exact hver.2.2.1
  have cb : ∀ p, p < n → c p ≤ 255 := fun p hp => by
    obtain ⟨q0, q1, q2⟩ := hb p (by omega)
    have a := pi_tni q0; have e : (255 : Int32).toInt = 255 := rfl; have q := pi_le.mp q1
    rw [hc]; omega
  have h138 : ∀ p, p < n → I 138 p = Int32.ofNat (c p) := fun p hp => by rw [hc, pi_ofNat (hb p (by omega)).1]
  have xx : rd_XX c n I := ⟨hcon.2.2.2.2.1, hcon.2.2.2.2.2, by rw [hlen]; exact h61, fun p hp => by
    rw [(hb p (by omega)).2.2, h138 p hp]
    exact byte_and (c p) (by have := cb p hp; omega), t42, t44, t46⟩
  have yyOf : ∀ S : Nat → Nat → Int32, S 79 = I 79 → S 138 = I 138 → S 80 = I 80 → rd_YY c n sl S := fun S e1 e2 e3 => ⟨by rw [e1]; exact h61, fun p hp => by rw [e2]; exact h138 p hp, by rw [e3]; exact h80, sl12⟩
  have g := on_n (a := sl) (by omega)
  have p13 : pm_in (Int32.ofNat sl) 13 = true := pi_in g.1 (by rw [g.2.2]; omega)
  have bad : ∀ I2, rd_XE I I2 → ¬ (0 ≤ x1 ∧ x1 ≤ 3) → pm_wc pm_code pm_meta (d + 40) 233 [.ref 79, .int x1] (pm_Gb L b, I2, J) (pm_ok X L b (-1)) := fun I2 xe hw => by
    rw [pb_233_0, pr_in, pm_b_f' hw, pb_233_6, if_pos rfl, pb_233_9]
    exact pm_okI2 rfl (inv_bad hI xe)
  rw [pb_133_0]
  rcases rd_text cb n3 sl with ⟨N, ops, rs, iv, TX, TR⟩ | ⟨N, f, TX, TR⟩
  · refine TX (d + 11) L b I J _ xx (fun I0 I1 f0 tk h => ?_)
    have xe := xe_of f0 tk (xr_yf h)
    have z1 : ∀ r, ¬ r = 40 → pm_u I1 40 1 0 r = I1 r := fun r hr => by rw [pm_u_row, if_neg hr]
    have lo80 : ops.length ≤ 75 := by have := iv.1; have := (pt_le (c := c) (n := n) N).2.2; omega
    rw [pb_133_7, px_isWithin]
    generalize pm_u I1 40 1 0 = I2 at xe z1 ⊢
    by_cases hw : 0 ≤ x1 ∧ x1 ≤ 3
    · have e20 : I2 20 = I 20 := xe.1 20 (by decide) (by decide)
      have yy := yyOf I2 (xe.1 79 (by decide) (by decide)) (xe.1 138 (by decide) (by decide)) (xe.1 80 (by decide) (by decide))
      rw [pm_b_t' hw, pb_133_22, if_neg (by decide), pb_133_27, if_pos rfl, pb_133_38, pt_full_20 (by rw [e20]; exact hver.1.1), pb_133_48]
      by_cases s12 : sl = 12
      · have ge : 12 ≤ I2 20 3 := by rw [e20, hver.1.2.1, h80, s12]; decide
        rw [pm_b_t' ge, if_neg (by decide), pb_133_51, pb_233_0, pr_in, pm_b_t' hw, pb_233_6, if_neg (by decide)]
        refine TR (d + 18) L b I2 J _ x1 yy (fun I3 J3 h3 => ?_)
        obtain ⟨re, eJ⟩ := re_of h3.1
        have m68 : (pm_u I3 79 61 0) 79 68 < 0 := by
          rw [pm_u_row, if_pos rfl, pm_w_ne (by decide), h3.2.2.2.2.2.2.2.1]; decide
        have m69 : (pm_u I3 79 61 0) 79 69 = 12 := by
          rw [pm_u_row, if_pos rfl, pm_w_ne (by decide), re.2.2.1, s12]; rfl
        rw [pb_233_86, if_pos m68, pb_233_106, if_pos m69, pb_233_115]
        exact pm_okI2 rfl (inv_no hI h80 sl12 xe re eJ)
      · have nf : ¬ 12 ≤ I2 20 3 := by rw [e20, hver.1.2.1, h80, show (12 : Int32) = Int32.ofNat 12 from rfl, on_le (by omega) (by omega)]; omega
        have c44 : I2 44 3 = Int32.ofNat rs.length := by rw [z1 44 (by decide)]; exact h.2.2.2.1
        have c46 : I2 46 3 = Int32.ofNat ops.length := by rw [z1 46 (by decide)]; exact h.2.2.2.2.2.2.2.2.2.1
        have hver2 : pg_ver (I2 20) (I2 21) (I2 22) (I2 23) (I2 24) (I2 25) (Int32.ofNat sl) (I 80 0) (I 112) (I 113) (I 114) (I 115) (I 116) (I 117) (I 118) (I 119) (I 120) (I 121) (I 122) (I 123) := by
          rw [← h80, xe.1 20 (by decide) (by decide), xe.1 21 (by decide) (by decide), xe.1 22 (by decide) (by decide), xe.1 23 (by decide) (by decide), xe.1 24 (by decide) (by decide), xe.1 25 (by decide) (by decide)]
          exact hver
        rw [pm_b_f' nf, if_pos rfl]
        refine px_add (d := d + 37) (sl := sl) (r0 := r0) (s0 := s0) (m := ops.length) (k := rs.length) hver2 (by rw [xe.1 9 (by decide) (by decide)]; exact htod.1) (by omega) xe.2.2.2.1 c46 (by omega) xe.2.2.1 c44 iv.2.1 (by rw [xe.1 24 (by decide) (by decide)]; exact h24) (by rw [xe.1 22 (by decide) (by decide)]; exact h22) r0l s0l (fun I9 f9 t1 t2 t3 t5 t4 t6 u21 u23 u25 n21 n23 n25 => ?_)
        have e9 : ∀ r, ¬ (20 ≤ r ∧ r ≤ 25) → ¬ r = 40 → ¬ (42 ≤ r ∧ r ≤ 47) → I9 r = I r := fun r a e f => by rw [f9 r a, xe.1 r e f]
        rw [pb_233_0, pr_in, pm_b_t' hw, pb_233_6, if_neg (by decide)]
        refine TR (d + 18) L b I9 J _ x1 (yyOf I9 (e9 79 (by decide) (by decide) (by decide)) (e9 138 (by decide) (by decide) (by decide)) (e9 80 (by decide) (by decide) (by decide))) (fun I3 J3 h3 => ?_)
        obtain ⟨re, eJ⟩ := re_of h3.1
        have m68 : (pm_u I3 79 61 0) 79 68 < 0 := by
          rw [pm_u_row, if_pos rfl, pm_w_ne (by decide), h3.2.2.2.2.2.2.2.1]; decide
        have e69 : (pm_u I3 79 61 0) 79 69 = Int32.ofNat sl := by
          rw [pm_u_row, if_pos rfl, pm_w_ne (by decide), re.2.2.1]
        have m69 : ¬ (pm_u I3 79 61 0) 79 69 = 12 := by
          rw [e69, show (12 : Int32) = Int32.ofNat 12 from rfl, on_eq (by omega) (by omega)]; exact s12
        have k3 : ∀ r, ¬ r = 79 → ¬ r = 113 → ¬ (116 ≤ r ∧ r ≤ 123) → ¬ (20 ≤ r ∧ r ≤ 25) → ¬ r = 40 → ¬ (42 ≤ r ∧ r ≤ 47) → (pm_u I3 79 61 0) r = I r := fun r q1 q2 q3 q4 q5 q6 => by rw [pm_u_row, if_neg q1, re.1 r q1 q2 q3, e9 r q4 q5 q6]
        have k80 := k3 80 (by decide) (by decide) (by decide) (by decide) (by decide) (by decide)
        have k112 := k3 112 (by decide) (by decide) (by decide) (by decide) (by decide) (by decide)
        have k115 := k3 115 (by decide) (by decide) (by decide) (by decide) (by decide) (by decide)
        rw [pb_233_86, if_pos m68, pb_233_106, if_neg m69, pb_233_118, pr_ends (by rw [k80]; exact hv.1) (by rw [k80]; exact hv.2), k112, k80, k115]
        obtain ⟨T, hT⟩ : ∃ T : Nat → Int32, T = pm_fo (fun (r : Nat → Int32) (k : Int32) => if I 112 k.toNatClampNeg = x1 ∧ ¬ 0 ≤ r k.toNatClampNeg then pm_w r k.toNatClampNeg (I 80 0) else r) (I 80 5).toNatClampNeg 0 (I 115) := ⟨_, rfl⟩
        rw [← hT]
        have fin := inv_yes (x1 := x1) (sl := sl) (r0 := r0) (s0 := s0) (rs := rs) (ops := ops) (T := T) hI hw h80 (by omega) xe f9 re eJ iv (by omega) h22 h24 r0l s0l t1 t2 t3 t5 t4 t6
          (fun j hj => by have q := u21 j hj; rw [xe.1 21 (by decide) (by decide), ← h80] at q; exact q)
          (fun j hj => by rw [u23 j hj, xe.1 23 (by decide) (by decide)]) (fun j hj => by rw [u25 j hj, xe.1 25 (by decide) (by decide)]) n21
          (fun m x hx => by
            obtain ⟨q0, q1, q2, q3, q4⟩ := n23 m (List.getElem?_eq_some_iff.mp hx).1
            obtain ⟨w0, w1, w2, w3, w4⟩ := h.2.2.2.2.1 m x hx
            rw [q0, q1, q2, q3, q4, z1 45 (by decide), w0, w1, w2, w3, w4]
            exact ⟨rfl, rfl, rfl, rfl, rfl⟩)
          (fun m x hx => by
            obtain ⟨q0, q1⟩ := n25 m (List.getElem?_eq_some_iff.mp hx).1
            obtain ⟨w0, w1⟩ := h.2.2.2.2.2.2.2.2.2.2 m x hx
            rw [q0, q1, z1 47 (by decide), w0, w1]
            exact ⟨rfl, rfl⟩)
          h3.2.1 h3.2.2.1 h3.2.2.2.2.2.2.2.2.2.2.2.1 hT
        have y69 : (pm_r (pm_u I3 79 61 0) 115 T) 79 69 = Int32.ofNat sl := by rw [pm_r_row, if_neg (by decide)]; exact e69
        have y80 : (pm_r (pm_u I3 79 61 0) 115 T) 80 = I 80 := by rw [pm_r_row, if_neg (by decide)]; exact k80
        generalize pm_r (pm_u I3 79 61 0) 115 T = P at y69 y80 fin ⊢
        have o1 : ∀ v, (pm_u P 112 sl v) 79 69 = Int32.ofNat sl := fun v => by rw [pm_u_row, if_neg (by decide)]; exact y69
        have o2 : ∀ v, (pm_u P 112 sl v) 80 0 = I 80 0 := fun v => by rw [pm_u_row, if_neg (by decide), y80]
        have o3 : ∀ v w, (pm_u (pm_u P 112 sl v) 114 sl w) 79 69 = Int32.ofNat sl := fun v w => by rw [pm_u_row, if_neg (by decide)]; exact o1 v
        have o4 : ∀ v w u, (pm_u (pm_u (pm_u P 112 sl v) 114 sl w) 115 sl u) 80 5 = Int32.ofNat sl := fun v w u => by rw [pm_u_row, if_neg (by decide), pm_u_row, if_neg (by decide), pm_u_row, if_neg (by decide), y80]; exact h80
        have o5 : ∀ v w u t, (pm_u (pm_u (pm_u (pm_u P 112 sl v) 114 sl w) 115 sl u) 80 5 t) 79 69 = Int32.ofNat sl := fun v w u t => by rw [pm_u_row, if_neg (by decide), pm_u_row, if_neg (by decide)]; exact o3 v w
        simp only [pb_233_123, y69, g.2.1, o1, o2, o3, o4, o5, p13, true_and]
        exact pm_okI2 rfl fin
    · rw [pm_b_f' hw, pb_133_22, if_pos rfl, pb_133_25]
      exact bad I2 xe hw
  · refine TX (d + 11) L b I J _ xx (fun I0 I1 f0 tk h => ?_)
    have xe := xe_of f0 tk h
    rw [pb_133_7, px_isWithin]
    generalize pm_u I1 40 1 0 = I2 at xe ⊢
    have gs := on_n (a := rd_s c n f) (by have := (pt_le (c := c) (n := n) f).2.2; omega)
    by_cases hw : 0 ≤ x1 ∧ x1 ≤ 3
    · have yy := yyOf I2 (xe.1 79 (by decide) (by decide)) (xe.1 138 (by decide) (by decide)) (xe.1 80 (by decide) (by decide))
      have ne : ¬ Int32.ofNat (rd_s c n f) = -3 := fun q => by have := gs.1; rw [q] at this; exact absurd this (by decide)
      rw [pm_b_t' hw, pb_133_22, if_neg (by decide), pb_133_27, if_neg ne, pb_133_33, pb_233_0, pr_in, pm_b_t' hw, pb_233_6, if_neg (by decide)]
      refine TR (d + 18) L b I2 J _ x1 yy (fun I3 J3 h3 => ?_)
      obtain ⟨re, eJ⟩ := re_of h3.1
      have e68 : (pm_u I3 79 61 0) 79 68 = Int32.ofNat (rd_s c n f) := by
        rw [pm_u_row, if_pos rfl, pm_w_ne (by decide), h3.2.1]
      have m68 : ¬ (pm_u I3 79 61 0) 79 68 < 0 := by rw [e68]; exact Int32.not_lt.mpr gs.1
      rw [pb_233_86, if_neg m68, pb_233_98, e68]
      exact pm_okI2 rfl (inv_no hI h80 sl12 xe re eJ)
    · rw [pm_b_f' hw, pb_133_22, if_pos rfl, pb_133_25]
      exact bad I2 xe hw

