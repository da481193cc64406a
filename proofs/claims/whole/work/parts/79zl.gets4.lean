/-! What goes to the debts: they are gathered. -/
abbrev pf_st (r : Nat → Nat → Int32) (q : Int32) : Prop := pf_rf (r 117) (r 119) 0 (pf_tl (pf_ans (r 85) (r 100) (r 102) (r 99) (r 105) (r 88) (r 101) (r 82) (r 83) q) (r 112) (r 113) (r 114) (r 115) (r 117) (r 118) (r 120) (r 121) (r 122) (r 123) (r 80 5) (r 88 (r 100 q.toNatClampNeg).toNatClampNeg) (r 99 q.toNatClampNeg) 0 4) = 0
def pf_rk (r : Nat → Nat → Int32) (q : Int32) : Int32 := pf_rnk (pf_rf (r 117) (r 119) 1 (pf_tl (pf_ans (r 85) (r 100) (r 102) (r 99) (r 105) (r 88) (r 101) (r 82) (r 83) q) (r 112) (r 113) (r 114) (r 115) (r 117) (r 118) (r 120) (r 121) (r 122) (r 123) (r 80 5) (r 88 (r 100 q.toNatClampNeg).toNatClampNeg) (r 99 q.toNatClampNeg) 1 4))
/-- whether a right is one of the debts of a house that fell -/
abbrev pf_db (r : Nat → Nat → Int32) (h q : Int32) : Prop := r 100 q.toNatClampNeg = h ∧ (r 99 q.toNatClampNeg = 5 ∨ r 99 q.toNatClampNeg = 6) ∧ pf_st r q
def pf_tk (r : Nat → Nat → Int32) (q : Int32) : Int32 := if r 99 q.toNatClampNeg = 6 then (if r 96 (r 105 q.toNatClampNeg).toNatClampNeg < r 102 q.toNatClampNeg then r 96 (r 105 q.toNatClampNeg).toNatClampNeg else r 102 q.toNatClampNeg) else 0
def pf_g0 (r : Nat → Nat → Int32) (h q : Int32) : Int32 := if pf_db r h q then pf_rk r q else -1
def pf_g1 (r : Nat → Nat → Int32) (h q : Int32) : Int32 := if pf_db r h q then r 102 q.toNatClampNeg - pf_tk r q else 0
def pf_g2 (r : Nat → Nat → Int32) (h q : Int32) : Int32 := if pf_db r h q then pf_tk r q else 0
def pf_cn (r : Nat → Nat → Int32) (h : Int32) : Nat → Int32
  | 0 => r 93 h.toNatClampNeg
  | q + 1 => pf_cn r h q - pf_g2 r h (Int32.ofNat q)
theorem px_isDebt {d L : Nat} {b : Bool} {I : Nat → Nat → Int32} {J : Nat → Nat → Int64} {q : Int32} {nn nP nH nT : Int32} {kind house person amount frr to is leans proved seals told wit witOf : Nat → Int32} {Q : Int32 → Int64 → pm_H → Prop} (hr : pg_rig (I 18) (I 19) nn nP nH nT kind house person amount frr to is leans proved seals told wit witOf) (q0 : 0 ≤ q) (q1 : q < nn) : pm_wc pm_code pm_meta (d + 1) 51 [.ref 36, .int q] (pm_Gb L b, I, J) Q ↔ Q (pm_b (kind q.toNatClampNeg = 5 ∨ kind q.toNatClampNeg = 6)) 0 (pm_Gb L b, I, J) := by
  rw [pb_51_0, px_rig_0 hr, pm_at_in q0 q1, pb_51_12]
  by_cases c1 : kind q.toNatClampNeg = 5
  · rw [if_pos c1, pb_51_24, pb_51_29, pm_b_t' (Or.inl c1)]; simp
  · rw [if_neg c1, pb_51_18]
    by_cases c2 : kind q.toNatClampNeg = 6
    · rw [if_pos c2, pb_51_24, pb_51_29, pm_b_t' (Or.inr c2)]; simp
    · rw [if_neg c2, pb_51_28, pb_51_29, pm_b_f' (fun z => z.elim c1 c2)]; simp
theorem tk_rng {X : Nat → Int32} {b : Bool} {I : Nat → Nat → Int32} {J : Nat → Nat → Int64} (hI : pm_inv X b I J) {q : Int32} (q0 : 0 ≤ q) (q1 : q < I 80 4) : 0 ≤ (pf_tk I q).toInt ∧ (pf_tk I q).toInt ≤ (I 102 q.toNatClampNeg).toInt ∧ 0 ≤ (I 102 q.toNatClampNeg).toInt ∧ (I 102 q.toNatClampNeg).toInt ≤ 999 ∧ (I 102 q.toNatClampNeg - pf_tk I q).toInt = (I 102 q.toNatClampNeg).toInt - (pf_tk I q).toInt ∧ (I 99 q.toNatClampNeg = 6 → (pf_tk I q).toInt ≤ (I 96 (I 105 q.toNatClampNeg).toNatClampNeg).toInt) := by
  have hI0 := hI
  obtain ⟨⟨htod, hroa, hper, hhou, hthi, hrig, hver, hsea, hsta, hlot, hbuy, hdee, hple⟩, htxt, hrid, htmp, hshe, hshf, htra, hk, hkept, hcon⟩ := hI
  have hn1 := (per_n hper).1
  have hn2 := (hou_n hhou).1
  have hn3 := (thi_n hthi).1
  have hn4 := (rig_n hrig).1
  have g := (hrig.2 _ (pi_tnlt q0 q1)).2.2
  obtain ⟨_, _, _, _, _, _, a1, a2, _⟩ := g
  rw [pi_le, pi_1] at a1
  rw [pi_le, show (999 : Int32).toInt = 999 from rfl] at a2
  have key : 0 ≤ (pf_tk I q).toInt ∧ (pf_tk I q).toInt ≤ (I 102 q.toNatClampNeg).toInt ∧ (I 99 q.toNatClampNeg = 6 → (pf_tk I q).toInt ≤ (I 96 (I 105 q.toNatClampNeg).toNatClampNeg).toInt) := by
    unfold pf_tk
    by_cases c : I 99 q.toNatClampNeg = 6
    · have p := hple.2.2.1 _ (pi_tnlt q0 q1) c
      have w := hple.2.1 _ (pi_tnlt p.1 p.2.1)
      have w1 := pi_le.mp w.1
      rw [pi_1] at w1
      rw [if_pos c]
      split
      · next h => rw [pi_lt] at h; exact ⟨by omega, by omega, fun _ => Int.le_refl _⟩
      · next h =>
        have h' := pi_le.mp (Int32.not_lt.mp h)
        exact ⟨by omega, Int.le_refl _, fun _ => h'⟩
    · rw [if_neg c]; exact ⟨by decide, by rw [pi_0]; omega, fun e => absurd e c⟩
  exact ⟨key.1, key.2.1, by omega, a2, pi_sub (by omega) (by omega), key.2.2⟩
theorem px_gather_loop {d L : Nat} {b : Bool} {J : Nat → Nat → Int64} {X : Nat → Int32} {I0 : Nat → Nat → Int32} {h : Int32} {Q : Int32 → Int64 → pm_H → Prop} (hI : pm_inv X b I0 J) (hf : 0 ≤ I0 88 h.toNatClampNeg)
    (hQ : ∀ I', (∀ k, ¬ k = 38 → ¬ k = 39 → I' k = I0 k) → pm_ti (I' 38) 3 24 → I' 38 3 = I0 80 4 → (∀ j : Nat, j < (I0 80 4).toNatClampNeg → I' 39 (3 * j + 0) = pf_g0 I0 h (Int32.ofNat j) ∧ I' 39 (3 * j + 1) = pf_g1 I0 h (Int32.ofNat j) ∧ I' 39 (3 * j + 2) = pf_g2 I0 h (Int32.ofNat j)) → Q (pf_cn I0 h (I0 80 4).toNatClampNeg) 0 (pm_Gb L b, I', J)) :
    ∀ (m k : Nat) (D : Option (Int32 × Option (Int32 × Int32))) (I : Nat → Nat → Int32), k + m = (I0 80 4).toNatClampNeg → (∀ k, ¬ k = 38 → ¬ k = 39 → I k = I0 k) → pm_ti (I 38) 3 24 → I 38 3 = Int32.ofNat k → (∀ j : Nat, j < k → I 39 (3 * j + 0) = pf_g0 I0 h (Int32.ofNat j) ∧ I 39 (3 * j + 1) = pf_g1 I0 h (Int32.ofNat j) ∧ I 39 (3 * j + 2) = pf_g2 I0 h (Int32.ofNat j)) →
    pm_wp pm_code pm_meta (d + 6) 2 24 ([.ref 37, .int h, .int (pf_cn I0 h k), .int (Int32.ofNat k), pm_vl (D.map (·.1)), pm_vl ((D.bind (·.2)).map (·.1)), pm_vl ((D.bind (·.2)).map (·.2))], [], (pm_Gb L b, I, J)) Q := by
  have hI0 := hI
  obtain ⟨⟨htod, hroa, hper, hhou, hthi, hrig, hver, hsea, hsta, hlot, hbuy, hdee, hple⟩, htxt, hrid, htmp, hshe, hshf, htra, hk, hkept, hcon⟩ := hI
  have hn1 := (per_n hper).1
  have hn2 := (hou_n hhou).1
  have hn3 := (thi_n hthi).1
  have hn4 := (rig_n hrig).1
  have hn := rig_n hrig
  have t1 := pi_tni hn.1
  have t2 := pi_le.mp hn.2
  have e24 : (24 : Int32).toInt = 24 := rfl
  intro m
  induction m with
  | zero =>
    intro k D I hm hs ht hc hh
    have hk : k = (I0 80 4).toNatClampNeg := by omega
    have p := pi_on (j := k) (by omega)
    have ek : Int32.ofNat k = I0 80 4 := Int32.toInt_inj.mp (by rw [p.2.2]; omega)
    have hi : I 18 3 ≤ Int32.ofNat k := by rw [hs 18 (by decide) (by decide), hrig.1.2, ek]; exact Int32.le_refl _
    rw [hk] at hh
    have z := hQ I hs ht (by rw [hc, ek]) hh
    rw [← hk] at z
    rcases D with _ | ⟨a, _ | ⟨x, y⟩⟩ <;> simp only [Option.map, Option.bind, pm_vl_n, pm_vl_s] <;> first | (rw [pb_2_24, if_pos hi, pb_2_223]; exact z) | (rw [pb_2_24b, if_pos hi, pb_2_223b]; exact z) | (rw [pb_2_24c, if_pos hi, pb_2_223c]; exact z)
  | succ m ih =>
    intro k D I hm hs ht hc hh
    have p := pi_on (j := k) (by omega)
    have ek := pi_onadd (j := k) (by omega)
    have lk : Int32.ofNat k < I0 80 4 := pi_onlt (by omega) (by omega)
    have hi : ¬ I 18 3 ≤ Int32.ofNat k := by rw [hs 18 (by decide) (by decide), hrig.1.2]; exact Int32.not_le.mpr lk
    have l24 : I 38 3 < 24 := by rw [hc, pi_lt, p.2.2, e24]; omega
    have g := (hrig.2 _ (pi_tnlt p.1 lk)).2.2
    rw [p.2.1] at g
    -- behind the new row
    generalize hI1 : pm_u (pm_u (pm_zr I 39 (3 * (I 38 3).toNatClampNeg) (3 * (I 38 3).toNatClampNeg + 3)) 38 3 (I 38 3 + 1)) 39 (3 * (Int32.ofNat k).toNatClampNeg + 0) (-1) = I1
    have s1 : ∀ k, ¬ k = 38 → ¬ k = 39 → I1 k = I0 k := fun j h1 h2 => by rw [← hI1, pm_u_row, if_neg h2, pm_u_row, if_neg h1, pm_zr_row, if_neg h2]; exact hs j h1 h2
    have e38 : I1 38 = pm_w (I 38) 3 (I 38 3 + 1) := by rw [← hI1, pm_u_row, if_neg (by decide), pm_u_row, if_pos rfl, pm_zr_row, if_neg (by decide)]
    have c38 : I1 38 3 = Int32.ofNat (k + 1) := by rw [e38, pm_w_at, if_pos rfl, hc, ek]
    have p1 := pi_on (j := k + 1) (by omega)
    have t38 : pm_ti (I1 38) 3 24 := by
      rw [e38, hc, ek]
      exact pm_ti_w ht p1.1 (by rw [pi_le, p1.2.2, e24]; omega)
    have o39 : ∀ j : Nat, j < 3 * k → I1 39 j = I 39 j := fun j hj => by
      rw [← hI1, pm_u_row, if_pos rfl, p.2.1, pm_w_ne (by omega), pm_u_row, if_neg (by decide), pm_zr_row, if_pos rfl, hc, p.2.1]
      unfold pm_zw
      rw [if_neg (by omega)]
    have n39 : I1 39 (3 * k + 0) = -1 ∧ I1 39 (3 * k + 1) = 0 ∧ I1 39 (3 * k + 2) = 0 := by
      rw [← hI1, pm_u_row, if_pos rfl, p.2.1, pm_u_row, if_neg (by decide), pm_zr_row, if_pos rfl, hc, p.2.1]
      refine ⟨by rw [pm_w_at, if_pos rfl], ?_, ?_⟩ <;> (rw [pm_w_ne (by omega)]; unfold pm_zw; rw [if_pos (by omega)])
    have hrig1 : pg_rig (I1 18) (I1 19) (I0 80 4) (I0 80 1) (I0 80 2) (I0 80 3) (I0 99) (I0 100) (I0 101) (I0 102) (I0 103) (I0 104) (I0 105) (I0 106) (I0 107) (I0 108) (I0 109) (I0 110) (I0 111) := by rw [s1 18 (by decide) (by decide), s1 19 (by decide) (by decide)]; exact hrig
    have hthi1 : pg_thi (I1 16) (I1 17) (I0 80 3) (I0 80 2) (I0 94) (I0 95) (I0 96) (I0 97) (I0 98) := by rw [s1 16 (by decide) (by decide), s1 17 (by decide) (by decide)]; exact hthi
    have hhou1 : pg_hou (I1 14) (I1 15) (I0 80 2) (I0 80 0) (I0 84) (I0 85) (I0 86) (I0 87) (I0 88) (I0 89) (I0 90) (I0 91) (I0 92) (I0 93) := by rw [s1 14 (by decide) (by decide), s1 15 (by decide) (by decide)]; exact hhou
    have hper1 : pg_per (I1 12) (I1 13) (I0 80 1) (I0 82) (I0 83) := by rw [s1 12 (by decide) (by decide), s1 13 (by decide) (by decide)]; exact hper
    have hver1 : pg_ver (I1 20) (I1 21) (I1 22) (I1 23) (I1 24) (I1 25) (I0 80 5) (I0 80 0) (I0 112) (I0 113) (I0 114) (I0 115) (I0 116) (I0 117) (I0 118) (I0 119) (I0 120) (I0 121) (I0 122) (I0 123) := by
      rw [s1 20 (by decide) (by decide), s1 21 (by decide) (by decide), s1 22 (by decide) (by decide), s1 23 (by decide) (by decide), s1 24 (by decide) (by decide), s1 25 (by decide) (by decide)]; exact hver
    have hc1 : ∀ j, I1 2 j = pm_a2.getD j 0 := by rw [s1 2 (by decide) (by decide)]; exact hcon.2.1
    -- no debt: the next one
    have no : ∀ (E : Option (Int32 × Int32)), ¬ pf_db I0 h (Int32.ofNat k) → pm_wp pm_code pm_meta (d + 6) 2 24 ([.ref 37, .int h, .int (pf_cn I0 h k), .int (Int32.ofNat (k + 1)), .int (Int32.ofNat k), pm_vl (E.map (·.1)), pm_vl (E.map (·.2))], [], (pm_Gb L b, I1, J)) Q := fun E hno => by
      have ec : pf_cn I0 h (k + 1) = pf_cn I0 h k := by
        show pf_cn I0 h k - pf_g2 I0 h (Int32.ofNat k) = _
        unfold pf_g2
        rw [if_neg hno]; grind
      have z := ih (k + 1) (some (Int32.ofNat k, E)) I1 (by omega) s1 t38 c38 (fun j hj => by
        by_cases ej : j = k
        · subst ej
          unfold pf_g0 pf_g1 pf_g2
          rw [if_neg hno, if_neg hno, if_neg hno]
          exact n39
        · rw [o39 _ (by omega), o39 _ (by omega), o39 _ (by omega)]; exact hh j (by omega))
      rw [ec] at z
      exact z
    have yes : ∀ (x5 x6 : Int32), pf_db I0 h (Int32.ofNat k) → pm_wp pm_code pm_meta (d + 6) 2 24 ([.ref 37, .int h, .int (pf_cn I0 h k - pf_tk I0 (Int32.ofNat k)), .int (Int32.ofNat (k + 1)), .int (Int32.ofNat k), .int x5, .int x6], [], (pm_Gb L b, pm_u (pm_u (pm_u I1 39 (3 * k + 0) (pf_rk I0 (Int32.ofNat k))) 39 (3 * k + 1) (I0 102 k - pf_tk I0 (Int32.ofNat k))) 39 (3 * k + 2) (pf_tk I0 (Int32.ofNat k)), J)) Q := fun x5 x6 hyes => by
      have ec : pf_cn I0 h (k + 1) = pf_cn I0 h k - pf_tk I0 (Int32.ofNat k) := by
        show pf_cn I0 h k - pf_g2 I0 h (Int32.ofNat k) = _
        unfold pf_g2
        rw [if_pos hyes]
      have z := ih (k + 1) (some (Int32.ofNat k, some (x5, x6))) (pm_u (pm_u (pm_u I1 39 (3 * k + 0) (pf_rk I0 (Int32.ofNat k))) 39 (3 * k + 1) (I0 102 k - pf_tk I0 (Int32.ofNat k))) 39 (3 * k + 2) (pf_tk I0 (Int32.ofNat k))) (by omega) (fun j h1 h2 => by rw [pm_u_row, if_neg h2, pm_u_row, if_neg h2, pm_u_row, if_neg h2]; exact s1 j h1 h2) (by rw [pm_u_row, if_neg (by decide), pm_u_row, if_neg (by decide), pm_u_row, if_neg (by decide)]; exact t38) (by rw [pm_u_row, if_neg (by decide), pm_u_row, if_neg (by decide), pm_u_row, if_neg (by decide)]; exact c38) (fun j hj => by
        rw [pm_u_row, if_pos rfl, pm_u_row, if_pos rfl, pm_u_row, if_pos rfl]
        by_cases ej : j = k
        · subst ej
          unfold pf_g0 pf_g1 pf_g2
          rw [if_pos hyes, if_pos hyes, if_pos hyes]
          refine ⟨by rw [pm_w_ne (by omega), pm_w_ne (by omega), pm_w_at, if_pos rfl], by rw [pm_w_ne (by omega), pm_w_at, if_pos rfl, p.2.1], by rw [pm_w_at, if_pos rfl]⟩
        · rw [pm_w_ne (by omega), pm_w_ne (by omega), pm_w_ne (by omega), pm_w_ne (by omega), pm_w_ne (by omega), pm_w_ne (by omega), pm_w_ne (by omega), pm_w_ne (by omega), pm_w_ne (by omega), o39 _ (by omega), o39 _ (by omega), o39 _ (by omega)]; exact hh j (by omega))
      rw [ec] at z
      exact z
    have at58 : ∀ (E : Option (Int32 × Int32)), pm_wp pm_code pm_meta (d + 6) 2 58 ([.ref 37, .int h, .int (pf_cn I0 h k), .int (Int32.ofNat k), .int (Int32.ofNat k), pm_vl (E.map (·.1)), pm_vl (E.map (·.2))], [], (pm_Gb L b, I1, J)) Q := fun E => by
      have isd := fun (Q : Int32 → Int64 → pm_H → Prop) => px_isDebt (Q := Q) (d := d + 4) (L := L) (b := b) (J := J) (q := Int32.ofNat k) hrig1 p.1 lk
      by_cases c1 : I0 100 k = h
      · by_cases c2 : I0 99 k = 5 ∨ I0 99 k = 6
        · have hf' : 0 ≤ I0 88 (I0 100 (Int32.ofNat k).toNatClampNeg).toNatClampNeg := by rw [p.2.1, c1]; exact hf
          have iss : ∀ (Q : Int32 → Int64 → pm_H → Prop), pm_wc pm_code pm_meta (d + 5) 49 [.ref 36, .int (Int32.ofNat k)] (pm_Gb L b, I1, J) Q ↔ Q (pm_b (pf_st I0 (Int32.ofNat k))) 0 (pm_Gb L b, I1, J) := fun Q => px_isStanding (Q := Q) (d := d) (L := L) (b := b) (I := I1) (J := J) hver1 hrig1 hhou1 hper1 hc1 p.1 lk hf'
          by_cases c3 : pf_st I0 (Int32.ofNat k)
          · have hyes : pf_db I0 h (Int32.ofNat k) := ⟨by rw [p.2.1]; exact c1, by rw [p.2.1]; exact c2, c3⟩
            have rko : ∀ (Q : Int32 → Int64 → pm_H → Prop), pm_wc pm_code pm_meta (d + 5) 50 [.ref 36, .int (Int32.ofNat k)] (pm_Gb L b, I1, J) Q ↔ Q (pf_rk I0 (Int32.ofNat k)) 0 (pm_Gb L b, I1, J) := fun Q => px_rankOf (Q := Q) (d := d) (L := L) (b := b) (I := I1) (J := J) hver1 hrig1 hhou1 hper1 hc1 p.1 lk hf'
            have lk1 : 0 ≤ Int32.ofNat k ∧ Int32.ofNat k < I1 38 3 := ⟨p.1, by rw [c38, pi_lt, p.2.2, p1.2.2]; omega⟩
            have a38 : ∀ j v, pm_u I1 39 j v 38 = I1 38 := fun j v => by rw [pm_u_row, if_neg (by decide)]
            have a38' : ∀ j v j' v', pm_u (pm_u I1 39 j v) 39 j' v' 38 = I1 38 := fun j v j' v' => by rw [pm_u_row, if_neg (by decide), a38]
            have at167 : ∀ x6, x6 = pf_tk I0 (Int32.ofNat k) → pm_wp pm_code pm_meta (d + 6) 2 167 ([.ref 37, .int h, .int (pf_cn I0 h k), .int (Int32.ofNat k), .int (Int32.ofNat k), .int (I0 102 k), .int x6], [], (pm_Gb L b, I1, J)) Q := fun x6 e6 => by
              subst e6
              rw [pb_2_167, rko, pb_2_187, pt_set_38_0 t38, if_pos lk1, pb_2_190, pt_set_38_1 (by rw [a38]; exact t38), if_pos (by rw [a38]; exact lk1), pb_2_205, pt_set_38_2 (by rw [a38']; exact t38), if_pos (by rw [a38']; exact lk1), pb_2_217b, ek, p.2.1]
              exact yes _ _ hyes
            have s3' : pm_b (pf_st I0 (Int32.ofNat k)) = 1 := pm_b_t' c3
            have ne3 : ¬ pm_b (pf_st I0 (Int32.ofNat k)) = 0 := by rw [s3']; decide
            have at114 : pm_wp pm_code pm_meta (d + 6) 2 131 ([.ref 37, .int h, .int (pf_cn I0 h k), .int (Int32.ofNat k), .int (Int32.ofNat k), .int (I0 102 k), .int 0], [.int (I0 99 k)], (pm_Gb L b, I1, J)) Q := by
              rw [pb_2_131]
              by_cases c6 : I0 99 k = 6
              · have pl := hple.2.2.1 k (by omega) c6
                rw [if_pos c6, pb_2_136, px_rig_7 hrig1, pm_at_in p.1 lk, p.2.1, pb_2_158, px_thi_2 hthi1, pm_at_in pl.1 pl.2.1, pb_2_162, px_min, pb_2_165]
                refine at167 _ ?_
                unfold pf_tk
                rw [p.2.1, if_pos c6]
              · rw [if_neg c6]
                refine at167 0 ?_
                unfold pf_tk
                rw [p.2.1, if_neg c6]
            cases E <;> simp only [Option.map, pm_vl_n, pm_vl_s] <;> (first | rw [pb_2_58, px_rig_1 hrig1, pm_at_in p.1 lk, p.2.1, pb_2_70, if_pos c1, pb_2_77, isd, p.2.1, pm_b_t' c2, pb_2_85, if_neg (by decide), pb_2_88, iss] | rw [pb_2_58b, px_rig_1 hrig1, pm_at_in p.1 lk, p.2.1, pb_2_70b, if_pos c1, pb_2_77b, isd, p.2.1, pm_b_t' c2, pb_2_85b, if_neg (by decide), pb_2_88b, iss]) <;> (first | rw [pb_2_96] | rw [pb_2_96b]) <;> (rw [if_neg ne3]) <;> (first | rw [pb_2_102, px_rig_3 hrig1, pm_at_in p.1 lk, p.2.1, pb_2_114, px_rig_0 hrig1, pm_at_in p.1 lk, p.2.1] | rw [pb_2_102b, px_rig_3 hrig1, pm_at_in p.1 lk, p.2.1, pb_2_114b, px_rig_0 hrig1, pm_at_in p.1 lk, p.2.1]) <;> exact at114
          · have z := no E (fun q => c3 q.2.2)
            have s3' : pm_b (pf_st I0 (Int32.ofNat k)) = 0 := pm_b_f' c3
            cases E <;> simp only [Option.map, pm_vl_n, pm_vl_s] at z ⊢ <;> (first | rw [pb_2_58, px_rig_1 hrig1, pm_at_in p.1 lk, p.2.1, pb_2_70, if_pos c1, pb_2_77, isd, p.2.1, pm_b_t' c2, pb_2_85, if_neg (by decide), pb_2_88, iss] | rw [pb_2_58b, px_rig_1 hrig1, pm_at_in p.1 lk, p.2.1, pb_2_70b, if_pos c1, pb_2_77b, isd, p.2.1, pm_b_t' c2, pb_2_85b, if_neg (by decide), pb_2_88b, iss]) <;> (first | rw [pb_2_96] | rw [pb_2_96b]) <;> rw [if_pos s3'] <;> (first | rw [pb_2_99, pb_2_217, ek] | rw [pb_2_99b, pb_2_217b, ek]) <;> exact z
        · have z := no E (fun q => c2 (by have := q.2.1; rwa [p.2.1] at this))
          cases E <;> simp only [Option.map, pm_vl_n, pm_vl_s] at z ⊢ <;> first | (rw [pb_2_58, px_rig_1 hrig1, pm_at_in p.1 lk, p.2.1, pb_2_70, if_pos c1, pb_2_77, isd, p.2.1, pm_b_f' c2, pb_2_85, if_pos rfl, pb_2_217, ek]; exact z) | (rw [pb_2_58b, px_rig_1 hrig1, pm_at_in p.1 lk, p.2.1, pb_2_70b, if_pos c1, pb_2_77b, isd, p.2.1, pm_b_f' c2, pb_2_85b, if_pos rfl, pb_2_217b, ek]; exact z)
      · have z := no E (fun q => c1 (by have := q.1; rwa [p.2.1] at this))
        cases E <;> simp only [Option.map, pm_vl_n, pm_vl_s] at z ⊢ <;> first | (rw [pb_2_58, px_rig_1 hrig1, pm_at_in p.1 lk, p.2.1, pb_2_70, if_neg c1, pb_2_74, pb_2_217, ek]; exact z) | (rw [pb_2_58b, px_rig_1 hrig1, pm_at_in p.1 lk, p.2.1, pb_2_70b, if_neg c1, pb_2_74b, pb_2_217b, ek]; exact z)
    have hadd : (I 38 3) = Int32.ofNat k := hc
    have tz : pm_ti (pm_u (pm_zr I 39 (3 * (I 38 3).toNatClampNeg) (3 * (I 38 3).toNatClampNeg + 3)) 38 3 (I 38 3 + 1) 38) 3 24 := by
      rw [pm_u_row, if_pos rfl, pm_zr_row, if_neg (by decide), hc, ek]
      exact pm_ti_w ht p1.1 (by rw [pi_le, p1.2.2, e24]; omega)
    have lz : 0 ≤ Int32.ofNat k ∧ Int32.ofNat k < pm_u (pm_zr I 39 (3 * (I 38 3).toNatClampNeg) (3 * (I 38 3).toNatClampNeg + 3)) 38 3 (I 38 3 + 1) 38 3 := ⟨p.1, by rw [pm_u_at, hc, ek, pi_lt, p.2.2, p1.2.2]; omega⟩
    have go : pm_wc pm_code pm_meta (d + 5) 84 [.ref 38, .int (Int32.ofNat k), .int 0, .int (-1)] (pm_Gb L b, pm_u (pm_zr I 39 (3 * (I 38 3).toNatClampNeg) (3 * (I 38 3).toNatClampNeg + 3)) 38 3 (I 38 3 + 1), J) (fun _ _ H => H = (pm_Gb L b, I1, J)) := by
      rw [pt_set_38_0 tz, if_pos lz, hI1]
    rcases D with _ | ⟨a, E⟩
    · have z := at58 none
      simp only [Option.map, Option.bind, pm_vl_n, pm_vl_s] at z ⊢
      rw [pb_2_24, if_neg hi, pb_2_38, pt_add_38 ht l24, pb_2_45, hc, pt_set_38_0 (by rw [hc] at tz; exact tz), if_pos (by rw [hc] at lz; exact lz)]
      rw [hc] at hI1
      rw [hI1]
      exact z
    · have z := at58 E
      rw [hc] at hI1 tz lz
      cases E <;> simp only [Option.map, Option.bind, pm_vl_n, pm_vl_s] at z ⊢ <;> first | (rw [pb_2_24b, if_neg hi, pb_2_38b, pt_add_38 ht l24, pb_2_45b, hc, pt_set_38_0 tz, if_pos lz, hI1]; exact z) | (rw [pb_2_24c, if_neg hi, pb_2_38c, pt_add_38 ht l24, pb_2_45c, hc, pt_set_38_0 tz, if_pos lz, hI1]; exact z)

