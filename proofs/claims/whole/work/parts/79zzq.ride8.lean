/-! THE CALL ride, at last. -/
theorem po_ride {d L : Nat} {b : Bool} {I : Nat → Nat → Int32} {J : Nat → Nat → Int64} {X : Nat → Int32} {x1 x2 x3 : Int32} (hI : pm_inv X b I J) : pm_wc pm_code pm_meta (d + 20) 150 [.ref 8, .int x1, .int x2, .int x3] (pm_Gb L b, I, J) (fun v _ H => pm_wc pm_code pm_meta (d + 20) 264 [.ref 79, .int x1, .int x2, .int x3] H (pm_ok X L b v)) := by
  have hI0 := hI
  obtain ⟨⟨htod, hroa, hper, hhou, _⟩, htxt, hrid, _⟩ := hI
  have e14 : I 14 3 = I 80 2 := hhou.1.2
  have n0 := (hou_n hhou).1
  have n8 := (hou_n hhou).2
  have t1 := pi_tni n0
  have t2 := pi_le.mp n8
  have e8 : (8 : Int32).toInt = 8 := rfl
  have eN : I 80 2 = Int32.ofNat (I 80 2).toNatClampNeg := (pi_ofNat n0).symm
  have e2N : (1 : Int32) <<< (I 80 2 &&& 31) = Int32.ofNat (2 ^ (I 80 2).toNatClampNeg) := by
    have z := hb_bit (I 80 2).toNatClampNeg (by omega)
    rw [← eN] at z; exact z
  have l2N : 2 ^ (I 80 2).toNatClampNeg ≤ 2 ^ 8 := Nat.pow_le_pow_right (by decide) (by omega)
  have l256 : (2 : Nat) ^ 8 = 256 := by decide
  have g2N := on_n (a := 2 ^ (I 80 2).toNatClampNeg) (by omega)
  have bad : ∀ I' : Nat → Nat → Int32, I' = I → pm_wp pm_code pm_meta (d + 20) 264 41 ([.ref 79, .int x1, .int x2, .int x3, pm_unset, pm_unset, pm_unset, pm_unset, pm_unset], [], (pm_Gb L b, I', J)) (pm_ok X L b (-1)) := fun I' e => by
    rw [pb_264_41, e]
    exact pm_okJ hI0
  have two : ∀ z : Int32, z < 0 ↔ ¬ 0 ≤ z := fun z => Int32.not_le.symm
  rw [pb_150_0, px_isPlace, pb_150_4]
  by_cases c1 : 0 ≤ x1 ∧ x1 ≤ 9
  · rw [pm_b_t' c1, if_neg (by decide), pb_150_7, px_isWithin, pb_150_13]
    by_cases c2 : 0 ≤ x3 ∧ x3 ≤ 2
    · rw [pm_b_t' c2, if_neg (by decide), pb_150_18]
      by_cases c3 : x2 < 0
      · rw [if_pos c3, pb_150_47, pb_264_0, pr_isPlace, pb_264_4, pm_b_t' c1, if_neg (by decide), pb_264_7, pr_in, pb_264_13, pm_b_t' c2, if_neg (by decide), pb_264_16, if_pos c3]
        exact bad I rfl
      · have c3' : 0 ≤ x2 := Int32.not_lt.mp c3
        have s1 := pi_tni c3'
        have ex2 : x2 = Int32.ofNat x2.toNatClampNeg := (pi_ofNat c3').symm
        rw [if_neg c3, pb_150_22, e14, e2N]
        by_cases c4 : Int32.ofNat (2 ^ (I 80 2).toNatClampNeg) ≤ x2
        · rw [if_pos c4, pb_150_47, pb_264_0, pr_isPlace, pb_264_4, pm_b_t' c1, if_neg (by decide), pb_264_7, pr_in, pb_264_13, pm_b_t' c2, if_neg (by decide), pb_264_16, if_neg c3, pb_264_20, e2N, if_pos c4]
          exact bad I rfl
        · have hS : x2.toNatClampNeg < 2 ^ (I 80 2).toNatClampNeg := by
            rw [pi_le, g2N.2.2] at c4; omega
          generalize hSS : x2.toNatClampNeg = S at *
          subst ex2
          have s24 : S < 16777216 := by omega
          rw [if_neg c4, pb_150_38, px_bitCount s24, pb_150_42]
          have pc24 := pc_le 24 S
          generalize hM : pf_pc 24 S = M at pc24 ⊢
          have i7 : (Int32.ofNat (M) ≤ 7) = (M ≤ 7) := by
            rw [show (7 : Int32) = Int32.ofNat 7 from rfl, on_le (by omega) (by omega)]
          have ref0 : ∀ (I' : Nat → Nat → Int32) (v : Int32), I' 80 = I 80 → ((if M ≤ 7 then pm_wp pm_code pm_meta (d + 20) 264 43 ([.ref 79, .int x1, .int (Int32.ofNat S), .int x3, pm_unset, pm_unset, pm_unset, pm_unset, pm_unset], [], (pm_Gb L b, I', J)) (pm_ok X L b v) else pm_wp pm_code pm_meta (d + 20) 264 41 ([.ref 79, .int x1, .int (Int32.ofNat S), .int x3, pm_unset, pm_unset, pm_unset, pm_unset, pm_unset], [], (pm_Gb L b, I', J)) (pm_ok X L b v))) → pm_wc pm_code pm_meta (d + 20) 264 [.ref 79, .int x1, .int (Int32.ofNat S), .int x3] (pm_Gb L b, I', J) (pm_ok X L b v) := fun I' v e80 h => by
            rw [pb_264_0, pr_isPlace, pb_264_4, pm_b_t' c1, if_neg (by decide), pb_264_7, pr_in, pb_264_13, pm_b_t' c2, if_neg (by decide), pb_264_16, if_neg c3, pb_264_20, e80, e2N, if_neg c4, pb_264_32, pr_ones s24, pb_264_36, hM]
            by_cases c5 : M ≤ 7
            · rw [if_pos (by rw [i7]; exact c5)]; rw [if_pos c5] at h; exact h
            · rw [if_neg (by rw [i7]; exact c5)]; rw [if_neg c5] at h; exact h
          by_cases c5 : M ≤ 7
          · rw [if_pos (by rw [i7]; exact c5), pb_150_49]
            by_cases c6 : Int32.ofNat S = 0
            · rw [if_pos c6, pb_150_53]
              refine ref0 I _ rfl ?_
              rw [if_pos c5, pb_264_43, if_pos c6, pb_264_47]
              exact pm_okJ hI0
            · rw [if_neg c6]
              have p9 := pi_le.mp c1.2
              have p0 := pi_tni c1.1
              rw [show (9 : Int32).toInt = 9 from rfl] at p9
              have ex1 : x1 = Int32.ofNat x1.toNatClampNeg := (pi_ofNat c1.1).symm
              generalize hP : x1.toNatClampNeg = P at *
              subst ex1
              have M1 : 1 ≤ M := by
                by_cases q : M = 0
                · exact absurd (by rw [pc_0 s24 (hM.trans q)]; rfl) c6
                · omega
              -- the day
              have t0a := pi_tni htod.2.1
              have t0b := pi_le.mp htod.2.2
              rw [show (3599 : Int32).toInt = 3599 from rfl] at t0b
              have eT : I 80 0 = Int32.ofNat (I 80 0).toNatClampNeg := (pi_ofNat htod.2.1).symm
              generalize hT0 : (I 80 0).toNatClampNeg = t0 at *
              generalize hNH : (I 80 2).toNatClampNeg = NH at *
              have plat : ∀ h, h < NH → I 84 h = Int32.ofNat ((ps_n 9 (I 84)) h) := fun h hh => by
                have z := (hhou.2 h (by omega)).2
                exact (ps_n_at z.1 z.2.1 rfl).symm
              have rdat : ∀ k, k < 100 → I 81 k = Int32.ofNat ((ps_n 20 (I 81)) k) := fun k hk => by
                have z := (hroa.2 k hk).2
                exact (ps_n_at z.1 z.2 rfl).symm
              rw [pb_150_56, pb_70_0]
              generalize hI1 : pm_u (pm_u I 48 5 (-1)) 48 6 0 = I1
              have k1 : ∀ k, ¬ k = 48 → I1 k = I k := fun k h => by rw [← hI1, pm_u_row, if_neg h, pm_u_row, if_neg h]
              have e9 : I1 9 0 = Int32.ofNat t0 := by rw [k1 9 (by decide), htod.1, eT]
              rw [e9]
              have z := px_tryRide (L := L) (b := b) (J := J) (I0 := I1) (p0 := P) (t0 := t0) (M := M) (nH := I 80 2) (today := I 80 0) (roads := I 81) (place := I 84) (order := I 85) (coin := I 86) (fear := I 87) (fell := I 88) (stripped := I 89) (due := I 90) (roll := I 91) (rollday := I 92) (had := I 93) (by rw [k1 14 (by decide), k1 15 (by decide)]; exact hhou) (by rw [k1 10 (by decide), k1 11 (by decide)]; exact hroa) (by omega) c5 (by rw [k1 53 (by decide)]; exact hrid.1.2.2.1) (by rw [k1 53 (by decide)]; exact hrid.1.2.2.2.1) (by omega) M S [] (d + 16) I1 none
                (fun v' w' H => pm_wp pm_code pm_meta (d + 19) 70 25 ([.ref 48, .int (Int32.ofNat P), .int (Int32.ofNat S), pm_unset, pm_unset, pm_unset, pm_unset, pm_unset, pm_unset], [], H) (fun v w H => pm_wp pm_code pm_meta (d + 20) 150 65 ([.ref 8, .int (Int32.ofNat P), .int (Int32.ofNat S), .int x3], [], H) (fun v _ H => pm_wc pm_code pm_meta (d + 20) 264 [.ref 79, .int (Int32.ofNat P), .int (Int32.ofNat S), .int x3] H (pm_ok X L b v)))) (by omega) (by show 0 + M = M; omega) (by rw [hNH]; exact hS) hM ⟨fun _ _ _ _ _ => rfl, fun _ _ _ => rfl, by rw [k1 55 (by decide)]; exact hrid.1.2.2.2.2⟩ (fun j x hx => absurd hx (by simp)) (fun x hx => absurd hx (by simp)) (by show I1 48 5 = -1; rw [← hI1, pm_u_row, if_pos rfl, pm_w_ne (by decide), pm_u_at]) (fun I2 f2 h54 s2 => ?_)
              · exact z
              rw [hNH] at s2
              have lz := as_pcn (S := S) (n := NH) (by omega) hS
              rw [hM] at lz
              have nn := pw_some (E := pw_E (ps_n 9 (I 84)) (ps_n 20 (I 81)) (pw_tm (I 90) t0) P) (n := NH) M (fun i => S.testBit i) [] none lz
              have ref2 : ∀ (I4 : Nat → Nat → Int32) (vv : Int32), (∀ k, 79 ≤ k → I4 k = I k) → (∀ I6 v, pw_rs (pw_E (ps_n 9 (I 84)) (ps_n 20 (I 81)) (pw_tm (I 90) t0) P) M NH (I6 79) (I6 143) (some v) → pw_T (pw_E (ps_n 9 (I 84)) (ps_n 20 (I 81)) (pw_tm (I 90) t0) P) NH M (fun i => S.testBit i) [] none = some v → (∀ k, ¬ k = 79 → ¬ k = 142 → ¬ k = 143 → ¬ k = 144 → ¬ k = 145 → ¬ k = 146 → ¬ k = 147 → I6 k = I4 k) → (∀ j, ¬ j = 76 → ¬ j = 77 → ¬ j = 78 → ¬ j = 83 → ¬ j = 84 → ¬ j = 85 → I6 79 j = I 79 j) → I6 79 83 = 1 → I6 79 84 = Int32.ofNat M → I6 79 85 = Int32.ofNat M → pw_row (I6 144) (I6 145) (ps_n 9 (I 84)) (ps_n 20 (I 81)) (pw_tm (I 90) t0) P t0 M v → pw_row (I6 146) (I6 147) (ps_n 9 (I 84)) (ps_n 20 (I 81)) (pw_tm (I 90) t0) P t0 M v → pm_inv X b I6 J ∧ vv = (if x3 = 0 then I6 79 77 else if x3 = 1 then I6 79 78 else 10000000 + Int32.ofNat (pw_dg v))) → pm_wc pm_code pm_meta (d + 20) 264 [.ref 79, .int (Int32.ofNat P), .int (Int32.ofNat S), .int x3] (pm_Gb L b, I4, J) (pm_ok X L b vv) := fun I4 vv k4 hv => by
                refine ref0 I4 vv (k4 80 (by decide)) ?_
                rw [if_pos c5, pb_264_43, if_neg c6, pb_264_50]
                refine pr_findRide (d := d + 18) (NH := NH) (M := M) (t0 := t0) (pl := (ps_n 9 (I 84))) (rd := (ps_n 20 (I 81))) (due := I 90) (tm := pw_tm (I 90) t0) (by omega) M1 c5 (by omega) (by omega) ps_n_le ps_n_le (fun _ _ => rfl) (by rw [k4 80 (by decide)]; exact eT) (by rw [k4 80 (by decide)]; exact eN) (by rw [k4 84 (by decide)]; exact plat) (by rw [k4 81 (by decide)]; exact rdat) (by rw [k4 90 (by decide)]; exact fun _ _ => rfl) hS hM (fun I5 f5 s5 => ?_)
                rcases hTT : pw_T (pw_E (ps_n 9 (I 84)) (ps_n 20 (I 81)) (pw_tm (I 90) t0) P) NH M (fun i => S.testBit i) [] none with _ | v
                · exact absurd hTT nn
                rw [hTT] at s5
                have e80 : I5 80 0 = Int32.ofNat t0 := by rw [f5.1 80 (by decide) (by decide) (by decide), k4 80 (by decide)]; exact eT
                rw [pb_264_56, e80]
                refine pr_rows (d := d + 20) (pl := (ps_n 9 (I 84))) (rd := (ps_n 20 (I 81))) (tm := pw_tm (I 90) t0) (NH := NH) (M := M) (by omega) c5 (by omega) (by omega) ps_n_le ps_n_le (by rw [f5.1 84 (by decide) (by decide) (by decide), k4 84 (by decide)]; exact plat) (by rw [f5.1 81 (by decide) (by decide) (by decide), k4 81 (by decide)]; exact rdat) s5.2.2.2.1 s5.2.2.2.2 f5.2.2 s5.2.2.1 (fun I6 x4 x5 x7 x8 k6 r1 r2 => ?_)
                have e76 : I6 79 76 = Int32.ofNat M := by rw [k6 79 (by decide) (by decide) (by decide) (by decide)]; exact f5.2.2
                have a84 : (pm_u I6 79 83 1) 79 76 = Int32.ofNat M := by rw [pm_u_row, if_pos rfl, pm_w_ne (by decide)]; exact e76
                have a85 : (pm_u (pm_u I6 79 83 1) 79 84 (Int32.ofNat M)) 79 76 = Int32.ofNat M := by rw [pm_u_row, if_pos rfl, pm_w_ne (by decide)]; exact a84
                generalize hI7 : pm_u (pm_u (pm_u I6 79 83 1) 79 84 (Int32.ofNat M)) 79 85 (Int32.ofNat M) = I7
                have k7 : ∀ k, ¬ k = 79 → I7 k = I6 k := fun k h => by rw [← hI7, pm_u_row, if_neg h, pm_u_row, if_neg h, pm_u_row, if_neg h]
                have j7 : ∀ j, ¬ j = 83 → ¬ j = 84 → ¬ j = 85 → I7 79 j = I5 79 j := fun j q1 q2 q3 => by
                  rw [← hI7, pm_u_row, if_pos rfl, pm_w_ne q3, pm_u_row, if_pos rfl, pm_w_ne q2, pm_u_row, if_pos rfl, pm_w_ne q1, k6 79 (by decide) (by decide) (by decide) (by decide)]
                have fin := hv I7 v ⟨by rw [j7 77 (by decide) (by decide) (by decide)]; exact s5.1, by rw [j7 78 (by decide) (by decide) (by decide)]; exact s5.2.1, by rw [k7 143 (by decide), k6 143 (by decide) (by decide) (by decide) (by decide)]; exact s5.2.2.1, s5.2.2.2⟩ hTT
                  (fun k q1 q2 q3 q4 q5 q6 q7 => by rw [k7 k q1, k6 k q4 q5 q6 q7]; exact f5.1 k q1 q2 q3) (fun j q1 q2 q3 q4 q5 q6 => by rw [j7 j q4 q5 q6, f5.2.1 j q1 q2 q3, k4 79 (by decide)])
                  (by rw [← hI7, pm_u_row, if_pos rfl, pm_w_ne (by decide), pm_u_row, if_pos rfl, pm_w_ne (by decide), pm_u_at]) (by rw [← hI7, pm_u_row, if_pos rfl, pm_w_ne (by decide), pm_u_at]) (by rw [← hI7, pm_u_at])
                  (by rw [k7 144 (by decide), k7 145 (by decide)]; exact r1) (by rw [k7 146 (by decide), k7 147 (by decide)]; exact r2)
                rcases x8 with _ | x8
                · rw [pm_vl_n, pb_264_178, a84, a85, hI7]
                  by_cases q0 : x3 = 0
                  · rw [if_pos q0] at fin ⊢
                    rw [pb_264_203, pb_264_228, fin.2]
                    exact pm_okJ fin.1
                  · rw [if_neg q0] at fin ⊢
                    rw [pb_264_210]
                    by_cases q1 : x3 = 1
                    · rw [if_pos q1] at fin ⊢
                      rw [pb_264_215, pb_264_228, fin.2]
                      exact pm_okJ fin.1
                    · rw [if_neg q1] at fin ⊢
                      rw [pb_264_222, pb_264_228, fin.2]
                      exact pm_okJ fin.1
                · rw [pm_vl_s, pb_264_178b, a84, a85, hI7]
                  by_cases q0 : x3 = 0
                  · rw [if_pos q0] at fin ⊢
                    rw [pb_264_203b, pb_264_228b, fin.2]
                    exact pm_okJ fin.1
                  · rw [if_neg q0] at fin ⊢
                    rw [pb_264_210b]
                    by_cases q1 : x3 = 1
                    · rw [if_pos q1] at fin ⊢
                      rw [pb_264_215b, pb_264_228b, fin.2]
                      exact pm_okJ fin.1
                    · rw [if_neg q1] at fin ⊢
                      rw [pb_264_222b, pb_264_228b, fin.2]
                      exact pm_okJ fin.1
              rcases hTT : pw_T (pw_E (ps_n 9 (I 84)) (ps_n 20 (I 81)) (pw_tm (I 90) t0) P) NH M (fun i => S.testBit i) [] none with _ | v
              · exact absurd hTT nn
              rw [hTT] at s2
              obtain ⟨w1, w2, w3, w4, w5, w6⟩ := s2
              have k2 : ∀ k, ¬ k = 48 → ¬ k = 54 → ¬ k = 55 → ¬ k = 56 → I2 k = I k := fun k q1 q2 q3 q4 => (f2.1 k q1 q2 q3 q4).trans (k1 k q1)
              have t49 : pm_ti (I2 49) 2 7 := by rw [k2 49 (by decide) (by decide) (by decide) (by decide)]; exact hrid.1.1
              rw [pb_70_25, pt_cut_49]
              have go : ∀ I3 : Nat → Nat → Int32, (∀ k, ¬ k = 49 → I3 k = I2 k) → pm_ti (I3 49) 2 7 → I3 49 3 = 0 → pm_wp pm_code pm_meta (d + 19) 70 33 ([.ref 48, .int (Int32.ofNat P), .int (Int32.ofNat S), pm_unset, pm_unset, pm_unset, pm_unset, pm_unset, pm_unset], [], (pm_Gb L b, I3, J)) (fun v w H => pm_wp pm_code pm_meta (d + 20) 150 65 ([.ref 8, .int (Int32.ofNat P), .int (Int32.ofNat S), .int x3], [], H) (fun v _ H => pm_wc pm_code pm_meta (d + 20) 264 [.ref 79, .int (Int32.ofNat P), .int (Int32.ofNat S), .int x3] H (pm_ok X L b v))) := fun I3 k3 t3 c3 => by
                have k3' : ∀ k, ¬ k = 49 → ¬ k = 48 → ¬ k = 54 → ¬ k = 55 → ¬ k = 56 → I3 k = I k := fun k q0 q1 q2 q3 q4 => (k3 k q0).trans (k2 k q1 q2 q3 q4)
                have e9' : I3 9 0 = Int32.ofNat t0 := by rw [k3' 9 (by decide) (by decide) (by decide) (by decide) (by decide), htod.1, eT]
                rw [pb_70_33, e9']
                refine px_rideRows (d := d + 18) (M := M) (NH := NH) (pl := (ps_n 9 (I 84))) (rd := (ps_n 20 (I 81))) (tm := pw_tm (I 90) t0) (nH := I 80 2) (today := I 80 0) (roads := I 81) (place := I 84) (order := I 85) (coin := I 86) (fear := I 87) (fell := I 88) (stripped := I 89) (due := I 90) (roll := I 91) (rollday := I 92) (had := I 93) (v := v) (by rw [k3' 14 (by decide) (by decide) (by decide) (by decide) (by decide), k3' 15 (by decide) (by decide) (by decide) (by decide) (by decide)]; exact hhou) (by rw [k3' 10 (by decide) (by decide) (by decide) (by decide) (by decide), k3' 11 (by decide) (by decide) (by decide) (by decide) (by decide)]; exact hroa) (by omega) c5 (by omega) (by omega) ps_n_le ps_n_le eN plat rdat w5 w6 t3 c3 (by rw [k3' 51 (by decide) (by decide) (by decide) (by decide) (by decide)]; exact hrid.1.2.1) (by rw [k3 55 (by decide)]; exact f2.2.2) (by rw [k3 55 (by decide)]; exact w3) (by rw [k3 56 (by decide)]; exact w4) (fun I4 k4 u49 u51 d49 d51 r50 r52 => ?_)
                have k4' : ∀ k, ¬ k = 48 → ¬ k = 49 → ¬ k = 50 → ¬ k = 51 → ¬ k = 52 → ¬ k = 54 → ¬ k = 55 → ¬ k = 56 → I4 k = I k := fun k a1 a2 a3 a4 a5 a6 a7 a8 => (k4 k a2 a3 a4 a5).trans (k3' k a2 a1 a6 a7 a8)
                have a48 : I4 48 = I2 48 := (k4 48 (by decide) (by decide) (by decide) (by decide)).trans (k3 48 (by decide))
                have a55 : I4 55 = I2 55 := (k4 55 (by decide) (by decide) (by decide) (by decide)).trans (k3 55 (by decide))
                have a56 : I4 56 = I2 56 := (k4 56 (by decide) (by decide) (by decide) (by decide)).trans (k3 56 (by decide))
                have final : ∀ vv : Int32, vv = (if x3 = 0 then Int32.ofNat (pw_E (ps_n 9 (I 84)) (ps_n 20 (I 81)) (pw_tm (I 90) t0) P v).2 else if x3 = 1 then Int32.ofNat (pw_E (ps_n 9 (I 84)) (ps_n 20 (I 81)) (pw_tm (I 90) t0) P v).1 else 10000000 + Int32.ofNat (pw_dg v)) → pm_wc pm_code pm_meta (d + 20) 264 [.ref 79, .int (Int32.ofNat P), .int (Int32.ofNat S), .int x3] (pm_Gb L b, I4, J) (pm_ok X L b vv) := fun vv hvv => by
                  refine ref2 I4 vv (fun k hk => k4' k (by omega) (by omega) (by omega) (by omega) (by omega) (by omega) (by omega) (by omega)) (fun I6 v' s6 hv' k6 j6 b83 b84 b85 r144 r146 => ?_)
                  have ev : v' = v := by rw [hTT] at hv'; exact (Option.some.inj hv').symm
                  subst ev
                  refine ⟨inv_ride hI0 (fun k a1 a2 a3 a4 a5 a6 a7 a8 a9 a10 a11 a12 a13 a14 a15 => (k6 k a9 a10 a11 a12 a13 a14 a15).trans (k4' k a1 a2 a3 a4 a5 a6 a7 a8)) j6 ?_, ?_⟩
                  · have q6 : ∀ k, k < 79 → I6 k = I4 k := fun k hk => k6 k (by omega) (by omega) (by omega) (by omega) (by omega) (by omega) (by omega)
                    have gM := on_n (a := M) (by omega)
                    have nz : ¬ Int32.ofNat M = 0 := on_z (by omega) (by omega)
                    have at_ : ∀ i, i < M → ∃ x, v'[i]? = some x := fun i hi => ⟨_, List.getElem?_eq_getElem (by omega)⟩
                    refine ⟨⟨by rw [q6 49 (by omega)]; exact u49, by rw [q6 51 (by omega)]; exact u51, by rw [q6 53 (by omega), k4' 53 (by decide) (by decide) (by decide) (by decide) (by decide) (by decide) (by decide) (by decide)]; exact hrid.1.2.2.1, by rw [q6 53 (by omega), k4' 53 (by decide) (by decide) (by decide) (by decide) (by decide) (by decide) (by decide) (by decide)]; exact hrid.1.2.2.2.1, by rw [q6 55 (by omega), a55]; exact f2.2.2⟩, by rw [q6 49 (by omega), d49, b85], by rw [q6 51 (by omega), d51, b84], by rw [b84, b85]; exact Int32.le_refl _, by rw [b83, b84, if_neg nz], fun i hi => ?_, fun i hi => ?_⟩
                    · rw [b85, gM.2.1] at hi
                      obtain ⟨x, hx⟩ := at_ i hi
                      have A := r50 i x hi hx
                      have C := r146 i x hi hx
                      rw [q6 50 (by omega)]
                      exact ⟨A.1.trans C.1.symm, A.2.trans C.2.symm⟩
                    · rw [b84, gM.2.1] at hi
                      obtain ⟨x, hx⟩ := at_ i hi
                      have A := r52 i x hi hx
                      have C := r144 i x hi hx
                      rw [q6 52 (by omega)]
                      exact ⟨A.1.trans C.1.symm, A.2.trans C.2.symm⟩
                  · rw [hvv, s6.1, s6.2.1]
                rw [pb_150_65]
                by_cases q0 : x3 = 0
                · rw [if_pos q0, pb_150_92, a48, w1]
                  exact final _ (by rw [if_pos q0])
                · rw [if_neg q0]
                  by_cases q1 : x3 = 1
                  · rw [if_pos q1, pb_150_100, a48, w2, k4' 9 (by decide) (by decide) (by decide) (by decide) (by decide) (by decide) (by decide) (by decide), htod.1, eT]
                    have bb := ev_bd (tm := pw_tm (I 90) t0) (pl := (ps_n 9 (I 84))) (rd := (ps_n 20 (I 81))) ps_n_le ps_n_le v P 0 0 (by omega)
                    have be : (pw_E (ps_n 9 (I 84)) (ps_n 20 (I 81)) (pw_tm (I 90) t0) P v).1 ≤ 147 := by
                      show (pw_ev (ps_n 9 (I 84)) (ps_n 20 (I 81)) (pw_tm (I 90) t0) P 0 0 v).2.1 ≤ 147
                      omega
                    rw [hb_sub _ _ (by omega) (by omega), Nat.add_sub_cancel_left]
                    exact final _ (by rw [if_neg q0, if_pos q1])
                  · rw [if_neg q1, pb_150_116]
                    refine px_digits (d := d + 18) (M := M) (v := v) c5 w5 (fun x hx => by have := w6 x hx; omega) (by rw [a55]; exact f2.2.2) (by rw [a55]; exact w3) (by rw [a56]; exact w4) ?_
                    rw [pb_150_123]
                    exact final _ (by rw [if_neg q0, if_neg q1])
              by_cases cc : (0 : Int32) ≤ 0 ∧ 0 < I2 49 3
              · rw [if_pos cc]
                refine go _ (fun k h => by rw [pm_u_row, if_neg h]) ?_ (by rw [pm_u_at])
                rw [pm_u_row, if_pos rfl]
                exact pm_ti_w t49 (by decide) (by decide)
              · rw [if_neg cc]
                refine go I2 (fun _ _ => rfl) t49 ?_
                have q1 := pi_le.mp t49.2.2.1
                rw [pi_0] at q1
                have q2 : ¬ (0 : Int32) < I2 49 3 := fun q => cc ⟨Int32.le_refl _, q⟩
                rw [pi_lt, pi_0] at q2
                exact Int32.toInt_inj.mp (by rw [pi_0]; omega)
          · rw [if_neg (by rw [i7]; exact c5), pb_150_47]
            refine ref0 I _ rfl ?_
            rw [if_neg c5]
            exact bad I rfl
    · rw [pm_b_f' c2, if_pos rfl, pb_150_16, pb_264_0, pr_isPlace, pb_264_4, pm_b_t' c1, if_neg (by decide), pb_264_7, pr_in, pb_264_13, pm_b_f' c2, if_pos rfl]
      exact bad I rfl
  · rw [pm_b_f' c1, if_pos rfl, pb_150_16, pb_264_0, pr_isPlace, pb_264_4, pm_b_f' c1, if_pos rfl]
    exact bad I rfl

