/-! THE CALL ride: the class's search. -/
theorem hb_clr {S h : Nat} (hS : S < 16777216) (hh : h < 24) (hb : S.testBit h = true) : Int32.ofNat S &&& (((1 : Int32) <<< (Int32.ofNat h &&& 31)) ^^^ (-1)) = Int32.ofNat (S ^^^ 2 ^ h) := by
  have em : (-1 : Int32).toBitVec = BitVec.allOnes 32 := by decide
  rw [hb_bit h hh]
  apply Int32.toBitVec.inj
  rw [Int32.toBitVec_and, Int32.toBitVec_xor, em, hb_32, hb_32, hb_32]
  apply BitVec.eq_of_getLsbD_eq
  intro i hi
  rw [BitVec.getLsbD_and, BitVec.getLsbD_xor, BitVec.getLsbD_allOnes, BitVec.getLsbD_ofNat, BitVec.getLsbD_ofNat, BitVec.getLsbD_ofNat, Nat.testBit_xor, Nat.testBit_two_pow]
  simp only [hi, decide_true, Bool.true_and]
  by_cases e : h = i
  · subst e; rw [hb]; simp
  · rw [decide_eq_false e]; simp
theorem cl_bit {S h : Nat} (hb : S.testBit h = true) : (fun i => (S ^^^ 2 ^ h).testBit i) = pw_cl (fun i => S.testBit i) h := by
  funext i
  rw [Nat.testBit_xor, Nat.testBit_two_pow]
  by_cases e : i = h
  · subst e; rw [cl_at, hb]; simp
  · rw [cl_ne e, decide_eq_false (fun q => e q.symm)]; simp
theorem pc_cl {S h : Nat} (hh : h < 24) (hb : S.testBit h = true) : pf_pc 24 S = pf_pc 24 (S ^^^ 2 ^ h) + 1 := by
  have a := as_pc (S := S) 24 0
  have c := as_pc (S := S ^^^ 2 ^ h) 24 0
  rw [Nat.pow_zero, Nat.div_one] at a c
  rw [← a, ← c, cl_bit hb]
  exact as_len hh hb
theorem pc_0 {S : Nat} (hS : S < 16777216) (h : pf_pc 24 S = 0) : S = 0 := by
  have a := as_pc (S := S) 24 0
  rw [Nat.pow_zero, Nat.div_one, h] at a
  have z := List.eq_nil_of_length_eq_zero a
  apply Nat.eq_of_testBit_eq
  intro i
  rw [Nat.zero_testBit]
  by_cases hi : i < 24
  · cases e : S.testBit i with
    | false => rfl
    | true =>
      rw [as_split (P := (fun i => S.testBit i)) hi e] at z
      simp at z
  · exact Nat.testBit_lt_two_pow (Nat.lt_of_lt_of_le hS (Nat.le_trans (show 16777216 ≤ 2 ^ 24 by decide) (Nat.pow_le_pow_right (show 0 < 2 by decide) (show 24 ≤ i by omega))))
def pw_tm (due : Nat → Int32) (t0 h c : Nat) : Bool := decide (¬ due h < Int32.ofNat (t0 + c))
def pw_E (pl rd : Nat → Nat) (tm : Nat → Nat → Bool) (p0 : Nat) (w : List Nat) : Nat × Nat := ((pw_ev pl rd tm p0 0 0 w).2.1, (pw_ev pl rd tm p0 0 0 w).2.2)
def pw_st (E : List Nat → Nat × Nat) (t0 M nH : Nat) (r48 r55 r56 : Nat → Int32) : Option (List Nat) → Prop
  | none => r48 5 = -1
  | some v => r48 5 = Int32.ofNat (E v).2 ∧ r48 6 = Int32.ofNat (t0 + (E v).1) ∧ r55 3 = Int32.ofNat M ∧ pw_h r56 v ∧ v.length = M ∧ ∀ x ∈ v, x < nH
def pw_fr (I0 I : Nat → Nat → Int32) : Prop := (∀ k, ¬ k = 48 → ¬ k = 54 → ¬ k = 55 → ¬ k = 56 → I k = I0 k) ∧ (∀ j, ¬ j = 5 → ¬ j = 6 → I 48 j = I0 48 j) ∧ pm_ti (I 55) 1 7
theorem h_app {f : Nat → Int32} {w t : List Nat} (h : pw_h f (w ++ t)) : pw_h f w := fun j x hx => h j x (by rw [List.getElem?_append_left (by have := (List.getElem?_eq_some_iff.mp hx).1; exact this)]; exact hx)
theorem h_snoc {f : Nat → Int32} {w : List Nat} {x : Nat} (h : pw_h f w) : pw_h (pm_w f w.length (Int32.ofNat x)) (w ++ [x]) := fun j y hy => by
  rw [pm_w_at]
  by_cases e : j = w.length
  · subst e
    rw [if_pos rfl]
    simp at hy
    rw [hy]
  · rw [if_neg e]
    have l := (List.getElem?_eq_some_iff.mp hy).1
    simp at l
    rw [List.getElem?_append_left (by omega)] at hy
    exact h j y hy
theorem px_tryRide {L : Nat} {b : Bool} {J : Nat → Nat → Int64} {I0 : Nat → Nat → Int32} {p0 t0 M : Nat} {nH today : Int32} {roads place order coin fear fell stripped due roll rollday had : Nat → Int32}
    (hhou : pg_hou (I0 14) (I0 15) nH today place order coin fear fell stripped due roll rollday had) (hroa : pg_roa (I0 10) (I0 11) roads) (h0 : t0 ≤ 3599) (hM : M ≤ 7) (t53 : pm_ti (I0 53) 1 7) (c53 : I0 53 3 = 7) (p9 : p0 ≤ 9) :
    ∀ (m S : Nat) (w : List Nat) (D : Nat) (I : Nat → Nat → Int32) (st : Option (List Nat)) (Q : Int32 → Int64 → pm_H → Prop), m ≤ D → w.length + m = M → S < 2 ^ nH.toNatClampNeg → pf_pc 24 S = m → pw_fr I0 I → pw_h (I 54) w → (∀ x ∈ w, x < nH.toNatClampNeg) → pw_st (pw_E (ps_n 9 place) (ps_n 20 roads) (pw_tm due t0) p0) t0 M nH.toNatClampNeg (I 48) (I 55) (I 56) st →
      (∀ I', pw_fr I0 I' → pw_h (I' 54) w → pw_st (pw_E (ps_n 9 place) (ps_n 20 roads) (pw_tm due t0) p0) t0 M nH.toNatClampNeg (I' 48) (I' 55) (I' 56) (pw_T (pw_E (ps_n 9 place) (ps_n 20 roads) (pw_tm due t0) p0) nH.toNatClampNeg m (fun i => S.testBit i) w st) → Q 0 0 (pm_Gb L b, I', J)) →
      pm_wc pm_code pm_meta (D + 2) 71 [.ref 48, .int (Int32.ofNat w.length), .int (Int32.ofNat (pw_ev (ps_n 9 place) (ps_n 20 roads) (pw_tm due t0) p0 0 0 w).1), .int (Int32.ofNat S), .int (Int32.ofNat (t0 + (pw_ev (ps_n 9 place) (ps_n 20 roads) (pw_tm due t0) p0 0 0 w).2.1)), .int (Int32.ofNat (pw_ev (ps_n 9 place) (ps_n 20 roads) (pw_tm due t0) p0 0 0 w).2.2)] (pm_Gb L b, I, J) Q := by
  have n0 := (hou_n hhou).1
  have n8 := (hou_n hhou).2
  have t1 := pi_tni n0
  have t2 := pi_le.mp n8
  have e8 : (8 : Int32).toInt = 8 := rfl
  have e7 : (7 : Int32).toInt = 7 := rfl
  have pl9 : ∀ h, (ps_n 9 place) h ≤ 9 := ps_n_le
  have rd20 : ∀ k, (ps_n 20 roads) k ≤ 20 := ps_n_le
  have bd := fun w => ev_bd (tm := (pw_tm due t0)) pl9 rd20 w p0 0 0 p9
  have plat : ∀ h, h < nH.toNatClampNeg → Int32.ofNat ((ps_n 9 place) h) = place h := fun h hh => by
    have z := (hhou.2 h hh).2
    exact ps_n_at z.1 z.2.1 rfl
  have rdat : ∀ k, k < 100 → Int32.ofNat ((ps_n 20 roads) k) = roads k := fun k hk => by
    have z := (hroa.2 k hk).2
    exact ps_n_at z.1 z.2 rfl
  have S24 : ∀ S, S < 2 ^ nH.toNatClampNeg → S < 16777216 := fun S h => Nat.lt_of_lt_of_le h (Nat.le_trans (Nat.pow_le_pow_right (by decide) (show nH.toNatClampNeg ≤ 24 by omega)) (by decide))
  intro m
  induction m with
  | zero =>
    intro S w D I st Q hD hw hS hp fr h54 wn hst hQ
    have s0 : S = 0 := pc_0 (S24 S hS) hp
    obtain ⟨b1, b2, b3⟩ := bd w
    rw [pb_71_0, if_pos (by rw [s0]; rfl), pb_71_4]
    -- it stays
    have stay : (pw_T (pw_E (ps_n 9 place) (ps_n 20 roads) (pw_tm due t0) p0) nH.toNatClampNeg 0 (fun i => S.testBit i) w st) = st → pm_wp pm_code pm_meta (D + 2) 71 13 ([.ref 48, .int (Int32.ofNat w.length), .int (Int32.ofNat (pw_ev (ps_n 9 place) (ps_n 20 roads) (pw_tm due t0) p0 0 0 w).1), .int (Int32.ofNat S), .int (Int32.ofNat (t0 + (pw_ev (ps_n 9 place) (ps_n 20 roads) (pw_tm due t0) p0 0 0 w).2.1)), .int (Int32.ofNat (pw_ev (ps_n 9 place) (ps_n 20 roads) (pw_tm due t0) p0 0 0 w).2.2), pm_unset, pm_unset, pm_unset, pm_unset], [], (pm_Gb L b, I, J)) Q := fun e => by
      rw [pb_71_13]
      exact hQ I fr h54 (by rw [e]; exact hst)
    -- it is taken
    have take : (pw_T (pw_E (ps_n 9 place) (ps_n 20 roads) (pw_tm due t0) p0) nH.toNatClampNeg 0 (fun i => S.testBit i) w st) = some w → pm_wp pm_code pm_meta (D + 1) 72 25 ([.ref 48, .int (Int32.ofNat w.length), .int (Int32.ofNat (t0 + (pw_ev (ps_n 9 place) (ps_n 20 roads) (pw_tm due t0) p0 0 0 w).2.1)), .int (Int32.ofNat (pw_ev (ps_n 9 place) (ps_n 20 roads) (pw_tm due t0) p0 0 0 w).2.2)], [], (pm_Gb L b, I, J)) (fun v w' H => pm_wp pm_code pm_meta (D + 2) 71 13 ([.ref 48, .int (Int32.ofNat w.length), .int (Int32.ofNat (pw_ev (ps_n 9 place) (ps_n 20 roads) (pw_tm due t0) p0 0 0 w).1), .int (Int32.ofNat S), .int (Int32.ofNat (t0 + (pw_ev (ps_n 9 place) (ps_n 20 roads) (pw_tm due t0) p0 0 0 w).2.1)), .int (Int32.ofNat (pw_ev (ps_n 9 place) (ps_n 20 roads) (pw_tm due t0) p0 0 0 w).2.2), pm_unset, pm_unset, pm_unset, pm_unset], [], H) Q) := fun e => by
      rw [pb_72_25]
      generalize hI1 : pm_u (pm_u I 48 5 (Int32.ofNat (pw_ev (ps_n 9 place) (ps_n 20 roads) (pw_tm due t0) p0 0 0 w).2.2)) 48 6 (Int32.ofNat (t0 + (pw_ev (ps_n 9 place) (ps_n 20 roads) (pw_tm due t0) p0 0 0 w).2.1)) = I1
      have k1 : ∀ k, ¬ k = 48 → I1 k = I k := fun k h => by rw [← hI1, pm_u_row, if_neg h, pm_u_row, if_neg h]
      have r53 : I1 53 = I0 53 := (k1 53 (by decide)).trans (fr.1 53 (by decide) (by decide) (by decide) (by decide))
      have r55 : I1 55 = I 55 := k1 55 (by decide)
      have g := on_n (a := w.length) (by omega)
      rw [pt_copy_55 (by rw [r55]; exact fr.2.2) (by rw [r53]; exact t53), pb_72_46, pt_cut_55, pb_72_54, pb_71_13]
      generalize hI2 : pm_u (pm_r I1 56 (fun j => if j < 1 * (I1 53 3).toNatClampNeg then I1 54 j else I1 56 j)) 55 3 (I1 53 3) = I2
      have a55 : I2 55 3 = 7 := by rw [← hI2, pm_u_at, r53, c53]
      have b55 : pm_ti (I2 55) 1 7 := by rw [← hI2, pm_u_row, if_pos rfl, pm_r_row, if_neg (by decide), r55, r53, c53]; exact pm_ti_w fr.2.2 (by decide) (by decide)
      have k2 : ∀ k, ¬ k = 55 → ¬ k = 56 → I2 k = I1 k := fun k h h' => by rw [← hI2, pm_u_row, if_neg h, pm_r_row, if_neg h']
      have a56 : ∀ j, j < 7 → I2 56 j = I1 54 j := fun j hj => by
        rw [← hI2, pm_u_row, if_neg (by decide), pm_r_row, if_pos rfl, r53, c53]
        exact if_pos (by rw [show (7 : Int32).toNatClampNeg = 7 from rfl]; omega)
      have fin : ∀ I3 : Nat → Nat → Int32, (∀ k, ¬ k = 55 → I3 k = I2 k) → pm_ti (I3 55) 1 7 → I3 55 3 = Int32.ofNat M → Q 0 0 (pm_Gb L b, I3, J) := fun I3 k3 t3 c3 => by
        refine hQ I3 ⟨fun k q1 q2 q3 q4 => ?_, fun j q1 q2 => ?_, t3⟩ (fun j x hx => ?_) ?_
        · rw [k3 k q3, k2 k q3 q4, k1 k q1]; exact fr.1 k q1 q2 q3 q4
        · rw [k3 48 (by decide), k2 48 (by decide) (by decide), ← hI1, pm_u_row, if_pos rfl, pm_w_ne q2, pm_u_row, if_pos rfl, pm_w_ne q1]; exact fr.2.1 j q1 q2
        · rw [k3 54 (by decide), k2 54 (by decide) (by decide), k1 54 (by decide)]; exact h54 j x hx
        · rw [e]
          refine ⟨?_, ?_, c3, fun j x hx => ?_, by omega, wn⟩
          · rw [k3 48 (by decide), k2 48 (by decide) (by decide), ← hI1, pm_u_row, if_pos rfl, pm_w_ne (by decide), pm_u_at]; rfl
          · rw [k3 48 (by decide), k2 48 (by decide) (by decide), ← hI1, pm_u_at]; rfl
          · have l := (List.getElem?_eq_some_iff.mp hx).1
            rw [k3 56 (by decide), a56 j (by omega), k1 54 (by decide)]; exact h54 j x hx
      by_cases c : 0 ≤ Int32.ofNat w.length ∧ Int32.ofNat w.length < I2 55 3
      · rw [if_pos c]
        refine fin _ (fun k h => by rw [pm_u_row, if_neg h]) ?_ ?_
        · rw [pm_u_row, if_pos rfl]
          exact pm_ti_w b55 g.1 (by rw [pi_le, g.2.2, e7]; omega)
        · rw [pm_u_at, show w.length = M by omega]
      · rw [if_neg c]
        refine fin _ (fun _ _ => rfl) b55 ?_
        have c' : ¬ Int32.ofNat w.length < 7 := fun q => c ⟨g.1, by rw [a55]; exact q⟩
        rw [pi_lt, g.2.2, e7] at c'
        rw [a55, show M = 7 by omega]; rfl
    rcases st with _ | v
    · have h5 : I 48 5 = -1 := hst
      have gn := on_n (a := (pw_ev (ps_n 9 place) (ps_n 20 roads) (pw_tm due t0) p0 0 0 w).2.2) (by omega)
      have l0 := pi_le.mp gn.1
      rw [pi_0] at l0
      rw [pb_72_0, h5, if_neg (by rw [pi_lt, show (-1 : Int32).toInt = -1 from rfl]; omega), pb_72_8, h5, if_neg (fun q => by rw [q, show (-1 : Int32).toInt = -1 from rfl] at l0; omega)]
      exact take rfl
    · obtain ⟨h5, h6, h7, h8, h9, h10⟩ := hst
      obtain ⟨v1, v2, v3⟩ := bd v
      have E1 : ((pw_E (ps_n 9 place) (ps_n 20 roads) (pw_tm due t0) p0) v).1 = (pw_ev (ps_n 9 place) (ps_n 20 roads) (pw_tm due t0) p0 0 0 v).2.1 := rfl
      have E2 : ((pw_E (ps_n 9 place) (ps_n 20 roads) (pw_tm due t0) p0) v).2 = (pw_ev (ps_n 9 place) (ps_n 20 roads) (pw_tm due t0) p0 0 0 v).2.2 := rfl
      have F1 : ((pw_E (ps_n 9 place) (ps_n 20 roads) (pw_tm due t0) p0) w).1 = (pw_ev (ps_n 9 place) (ps_n 20 roads) (pw_tm due t0) p0 0 0 w).2.1 := rfl
      have F2 : ((pw_E (ps_n 9 place) (ps_n 20 roads) (pw_tm due t0) p0) w).2 = (pw_ev (ps_n 9 place) (ps_n 20 roads) (pw_tm due t0) p0 0 0 w).2.2 := rfl
      have up : (pw_T (pw_E (ps_n 9 place) (ps_n 20 roads) (pw_tm due t0) p0) nH.toNatClampNeg 0 (fun i => S.testBit i) w (some v)) = if ((pw_E (ps_n 9 place) (ps_n 20 roads) (pw_tm due t0) p0) v).2 < ((pw_E (ps_n 9 place) (ps_n 20 roads) (pw_tm due t0) p0) w).2 ∨ (((pw_E (ps_n 9 place) (ps_n 20 roads) (pw_tm due t0) p0) v).2 = ((pw_E (ps_n 9 place) (ps_n 20 roads) (pw_tm due t0) p0) w).2 ∧ ((pw_E (ps_n 9 place) (ps_n 20 roads) (pw_tm due t0) p0) w).1 < ((pw_E (ps_n 9 place) (ps_n 20 roads) (pw_tm due t0) p0) v).1) then some w else some v := rfl
      rw [E1, E2, F1, F2] at up
      rw [E2] at h5
      rw [E1] at h6
      rw [pb_72_0, h5]
      by_cases c1 : (pw_ev (ps_n 9 place) (ps_n 20 roads) (pw_tm due t0) p0 0 0 w).2.2 < (pw_ev (ps_n 9 place) (ps_n 20 roads) (pw_tm due t0) p0 0 0 v).2.2
      · rw [if_pos (by rw [on_lt (by omega) (by omega)]; exact c1), pb_72_24]
        exact stay (by rw [up, if_neg (by omega)])
      · rw [if_neg (by rw [on_lt (by omega) (by omega)]; exact c1), pb_72_8, h5]
        by_cases c2 : (pw_ev (ps_n 9 place) (ps_n 20 roads) (pw_tm due t0) p0 0 0 w).2.2 = (pw_ev (ps_n 9 place) (ps_n 20 roads) (pw_tm due t0) p0 0 0 v).2.2
        · rw [if_pos (by rw [c2]), pb_72_16, h6]
          by_cases c3 : (pw_ev (ps_n 9 place) (ps_n 20 roads) (pw_tm due t0) p0 0 0 w).2.1 < (pw_ev (ps_n 9 place) (ps_n 20 roads) (pw_tm due t0) p0 0 0 v).2.1
          · rw [if_pos (by rw [on_lt (by omega) (by omega)]; omega)]
            exact take (by rw [up, if_pos (by omega)])
          · rw [if_neg (by rw [on_lt (by omega) (by omega)]; omega), pb_72_24]
            exact stay (by rw [up, if_neg (by omega)])
        · rw [if_neg (by rw [on_eq (by omega) (by omega)]; exact c2)]
          exact take (by rw [up, if_pos (by omega)])
  | succ m ih =>
    intro S w D I st Q hD hw hS hp fr h54 wn hst hQ
    obtain ⟨D, rfl⟩ : ∃ E, D = E + 1 := ⟨D - 1, by omega⟩
    obtain ⟨b1, b2, b3⟩ := bd w
    have s24 := S24 S hS
    have snz : ¬ Int32.ofNat S = 0 := fun q => by
      have : S = 0 := hb_inj (by omega) (by omega) q
      rw [this] at hp
      exact absurd hp (by rw [show pf_pc 24 0 = 0 from by decide]; omega)
    have g7 : ¬ (7 : Int32) ≤ Int32.ofNat w.length := by rw [show (7 : Int32) = Int32.ofNat 7 from rfl, on_le (by omega) (by omega)]; omega
    have pc24 : m + 1 ≤ 24 := by rw [← hp]; exact pc_le 24 S
    have ea := hb_add (pw_ev (ps_n 9 place) (ps_n 20 roads) (pw_tm due t0) p0 0 0 w).2.2 (m + 1) (by omega) (by omega)
    rw [pb_71_0, if_neg snz, pb_71_14, if_neg g7, pb_71_20, px_bitCount s24, hp, pb_71_26, ea]
    have at34 : (pw_T (pw_E (ps_n 9 place) (ps_n 20 roads) (pw_tm due t0) p0) nH.toNatClampNeg (m + 1) (fun i => S.testBit i) w st) = st → pm_wp pm_code pm_meta (D + 1 + 2) 71 34 ([.ref 48, .int (Int32.ofNat w.length), .int (Int32.ofNat (pw_ev (ps_n 9 place) (ps_n 20 roads) (pw_tm due t0) p0 0 0 w).1), .int (Int32.ofNat S), .int (Int32.ofNat (t0 + (pw_ev (ps_n 9 place) (ps_n 20 roads) (pw_tm due t0) p0 0 0 w).2.1)), .int (Int32.ofNat (pw_ev (ps_n 9 place) (ps_n 20 roads) (pw_tm due t0) p0 0 0 w).2.2), pm_unset, pm_unset, pm_unset, pm_unset], [], (pm_Gb L b, I, J)) Q := fun e => by
      rw [pb_71_34]
      exact hQ I fr h54 (by rw [e]; exact hst)
    have r14 : ∀ I', pw_fr I0 I' → pg_hou (I' 14) (I' 15) nH today place order coin fear fell stripped due roll rollday had := fun I' f => by
      rw [f.1 14 (by decide) (by decide) (by decide) (by decide), f.1 15 (by decide) (by decide) (by decide) (by decide)]; exact hhou
    have r10 : ∀ I', pw_fr I0 I' → pg_roa (I' 10) (I' 11) roads := fun I' f => by
      rw [f.1 10 (by decide) (by decide) (by decide) (by decide), f.1 11 (by decide) (by decide) (by decide) (by decide)]; exact hroa
    have inner : ∀ (k h : Nat) (I : Nat → Nat → Int32) (st : Option (List Nat)) (E : Option (Int32 × Int32 × Int32)), h + k = nH.toNatClampNeg → pw_fr I0 I → pw_h (I 54) w → pw_st (pw_E (ps_n 9 place) (ps_n 20 roads) (pw_tm due t0) p0) t0 M nH.toNatClampNeg (I 48) (I 55) (I 56) st →
        (∀ I', pw_fr I0 I' → pw_h (I' 54) w → pw_st (pw_E (ps_n 9 place) (ps_n 20 roads) (pw_tm due t0) p0) t0 M nH.toNatClampNeg (I' 48) (I' 55) (I' 56) (ps_fb (fun h st => bif S.testBit h then (pw_T (pw_E (ps_n 9 place) (ps_n 20 roads) (pw_tm due t0) p0) nH.toNatClampNeg m (pw_cl (fun i => S.testBit i) h) (w ++ [h]) st) else st) k h st) → Q 0 0 (pm_Gb L b, I', J)) →
        pm_wp pm_code pm_meta (D + 1 + 2) 71 38 ([.ref 48, .int (Int32.ofNat w.length), .int (Int32.ofNat (pw_ev (ps_n 9 place) (ps_n 20 roads) (pw_tm due t0) p0 0 0 w).1), .int (Int32.ofNat S), .int (Int32.ofNat (t0 + (pw_ev (ps_n 9 place) (ps_n 20 roads) (pw_tm due t0) p0 0 0 w).2.1)), .int (Int32.ofNat (pw_ev (ps_n 9 place) (ps_n 20 roads) (pw_tm due t0) p0 0 0 w).2.2), .int (Int32.ofNat h), pm_vl (E.map (·.1)), pm_vl (E.map (·.2.1)), pm_vl (E.map (·.2.2))], [], (pm_Gb L b, I, J)) Q := by
      intro k
      induction k with
      | zero =>
        intro h I st E hk fr h54 hst hQ
        have c : I 14 3 ≤ Int32.ofNat h := by
          rw [(r14 I fr).1.2, show h = nH.toNatClampNeg by omega, pi_ofNat n0]; exact Int32.le_refl _
        rcases E with _ | ⟨a1, a2, a3⟩ <;> simp only [Option.map, pm_vl_n, pm_vl_s]
        · rw [pb_71_38, if_pos c, pb_71_167]; exact hQ I fr h54 hst
        · rw [pb_71_38b, if_pos c, pb_71_167b]; exact hQ I fr h54 hst
      | succ k ihk =>
        intro h I st E hk fr h54 hst hQ
        have g := pi_on (j := h) (by omega)
        have lh : Int32.ofNat h < nH := pi_onlt (by omega) (by omega)
        have c : ¬ I 14 3 ≤ Int32.ofNat h := by rw [(r14 I fr).1.2]; exact Int32.not_le.mpr lh
        cases hb : S.testBit h with
        | false =>
          have t0' := (bt_nat0 (S := S) (k := h) s24 (by omega)).mpr hb
          have z := ihk (h + 1) I st E (by omega) fr h54 hst (fun I' f' w' s' => hQ I' f' w' (by rw [ps_fb_s, hb, cond_false]; exact s'))
          rcases E with _ | ⟨a1, a2, a3⟩ <;> simp only [Option.map, pm_vl_n, pm_vl_s] at z ⊢
          · rw [pb_71_38, if_neg c, pb_71_53, if_pos t0', pb_71_62, pb_71_161, on_s]; exact z
          · rw [pb_71_38b, if_neg c, pb_71_53b, if_pos t0', pb_71_62b, pb_71_161b, on_s]; exact z
        | true =>
          have t0' : ¬ ((Int32.ofNat S >>> (Int32.ofNat h &&& 31)) &&& 1 = 0) := by
            rw [bt_nat0 (S := S) (k := h) s24 (by omega), hb]; decide
          have gp := on_n (a := (pw_ev (ps_n 9 place) (ps_n 20 roads) (pw_tm due t0) p0 0 0 w).1) (by omega)
          have pp := pl9 h
          have gh := on_n (a := (ps_n 9 place) h) (by omega)
          have rr := rd20 (10 * (pw_ev (ps_n 9 place) (ps_n 20 roads) (pw_tm due t0) p0 0 0 w).1 + (ps_n 9 place) h)
          have er : roads (10 * (pw_ev (ps_n 9 place) (ps_n 20 roads) (pw_tm due t0) p0 0 0 w).1 + (ps_n 9 place) h) = Int32.ofNat ((ps_n 20 roads) (10 * (pw_ev (ps_n 9 place) (ps_n 20 roads) (pw_tm due t0) p0 0 0 w).1 + (ps_n 9 place) h)) := (rdat _ (by omega)).symm
          have ed := hb_add (t0 + (pw_ev (ps_n 9 place) (ps_n 20 roads) (pw_tm due t0) p0 0 0 w).2.1) ((ps_n 20 roads) (10 * (pw_ev (ps_n 9 place) (ps_n 20 roads) (pw_tm due t0) p0 0 0 w).1 + (ps_n 9 place) h)) (by omega) (by omega)
          have evs : (pw_ev (ps_n 9 place) (ps_n 20 roads) (pw_tm due t0) p0 0 0 (w ++ [h])) = ((ps_n 9 place) h, (pw_ev (ps_n 9 place) (ps_n 20 roads) (pw_tm due t0) p0 0 0 w).2.1 + (ps_n 20 roads) (10 * (pw_ev (ps_n 9 place) (ps_n 20 roads) (pw_tm due t0) p0 0 0 w).1 + (ps_n 9 place) h) + 1, (pw_ev (ps_n 9 place) (ps_n 20 roads) (pw_tm due t0) p0 0 0 w).2.2 + (bif (pw_tm due t0) h ((pw_ev (ps_n 9 place) (ps_n 20 roads) (pw_tm due t0) p0 0 0 w).2.1 + (ps_n 20 roads) (10 * (pw_ev (ps_n 9 place) (ps_n 20 roads) (pw_tm due t0) p0 0 0 w).1 + (ps_n 9 place) h)) then 1 else 0)) := by rw [ev_app]; rfl
          have e1 : (0 : Int32) ≤ Int32.ofNat (pw_ev (ps_n 9 place) (ps_n 20 roads) (pw_tm due t0) p0 0 0 w).1 ∧ Int32.ofNat (pw_ev (ps_n 9 place) (ps_n 20 roads) (pw_tm due t0) p0 0 0 w).1 ≤ 9 := ⟨gp.1, by rw [pi_le, gp.2.2, show (9 : Int32).toInt = 9 from rfl]; omega⟩
          have e2 : (0 : Int32) ≤ Int32.ofNat ((ps_n 9 place) h) ∧ Int32.ofNat ((ps_n 9 place) h) ≤ 9 := ⟨gh.1, by rw [pi_le, gh.2.2, show (9 : Int32).toInt = 9 from rfl]; omega⟩
          have gw := on_n (a := w.length) (by omega)
          have r53 := fr.1 53 (by decide) (by decide) (by decide) (by decide)
          have i53 : 0 ≤ Int32.ofNat w.length ∧ Int32.ofNat w.length < I 53 3 := ⟨gw.1, by rw [r53, c53, pi_lt, gw.2.2, e7]; omega⟩
          have pcl := pc_cl (S := S) (h := h) (by omega) hb
          have h2lt : 2 ^ h < 2 ^ nH.toNatClampNeg := Nat.pow_lt_pow_right (by decide) (by omega)
          -- behind the comparison
          have at122 : ∀ v : Nat, v = (bif (pw_tm due t0) h ((pw_ev (ps_n 9 place) (ps_n 20 roads) (pw_tm due t0) p0 0 0 w).2.1 + (ps_n 20 roads) (10 * (pw_ev (ps_n 9 place) (ps_n 20 roads) (pw_tm due t0) p0 0 0 w).1 + (ps_n 9 place) h)) then 1 else 0) → ∀ I1 : Nat → Nat → Int32, I1 = pm_u I 54 w.length (Int32.ofNat h) →
              pm_wp pm_code pm_meta (D + 1 + 2) 71 135 ([.ref 48, .int (Int32.ofNat w.length), .int (Int32.ofNat (pw_ev (ps_n 9 place) (ps_n 20 roads) (pw_tm due t0) p0 0 0 w).1), .int (Int32.ofNat S), .int (Int32.ofNat (t0 + (pw_ev (ps_n 9 place) (ps_n 20 roads) (pw_tm due t0) p0 0 0 w).2.1)), .int (Int32.ofNat (pw_ev (ps_n 9 place) (ps_n 20 roads) (pw_tm due t0) p0 0 0 w).2.2), .int (Int32.ofNat h), .int (Int32.ofNat ((ps_n 9 place) h)), .int (Int32.ofNat (t0 + (pw_ev (ps_n 9 place) (ps_n 20 roads) (pw_tm due t0) p0 0 0 w).2.1 + (ps_n 20 roads) (10 * (pw_ev (ps_n 9 place) (ps_n 20 roads) (pw_tm due t0) p0 0 0 w).1 + (ps_n 9 place) h))), .int (Int32.ofNat v)], [], (pm_Gb L b, I1, J)) Q := fun v hv I1 hI1 => by
            have v1 : v ≤ 1 := by rw [hv]; cases (pw_tm due t0) h ((pw_ev (ps_n 9 place) (ps_n 20 roads) (pw_tm due t0) p0 0 0 w).2.1 + (ps_n 20 roads) (10 * (pw_ev (ps_n 9 place) (ps_n 20 roads) (pw_tm due t0) p0 0 0 w).1 + (ps_n 9 place) h)) <;> decide
            have f1 : pw_fr I0 I1 := by
              rw [hI1]
              exact ⟨fun k q1 q2 q3 q4 => by rw [pm_u_row, if_neg q2]; exact fr.1 k q1 q2 q3 q4, fun j q1 q2 => by rw [pm_u_row, if_neg (by decide)]; exact fr.2.1 j q1 q2, by rw [pm_u_row, if_neg (by decide)]; exact fr.2.2⟩
            have hn : pw_h (I1 54) (w ++ [h]) := by rw [hI1, pm_u_row, if_pos rfl]; exact h_snoc h54
            have s1 : pw_st (pw_E (ps_n 9 place) (ps_n 20 roads) (pw_tm due t0) p0) t0 M nH.toNatClampNeg (I1 48) (I1 55) (I1 56) st := by rw [hI1, pm_u_row, if_neg (by decide), pm_u_row, if_neg (by decide), pm_u_row, if_neg (by decide)]; exact hst
            rw [pb_71_135, on_s, on_s, hb_clr s24 (by omega) hb, hb_add _ _ (by omega) (by omega)]
            have z := ih (S ^^^ 2 ^ h) (w ++ [h]) D I1 st (fun v' w' H => pm_wp pm_code pm_meta (D + 1 + 2) 71 161 ([.ref 48, .int (Int32.ofNat w.length), .int (Int32.ofNat (pw_ev (ps_n 9 place) (ps_n 20 roads) (pw_tm due t0) p0 0 0 w).1), .int (Int32.ofNat S), .int (Int32.ofNat (t0 + (pw_ev (ps_n 9 place) (ps_n 20 roads) (pw_tm due t0) p0 0 0 w).2.1)), .int (Int32.ofNat (pw_ev (ps_n 9 place) (ps_n 20 roads) (pw_tm due t0) p0 0 0 w).2.2), .int (Int32.ofNat h), .int (Int32.ofNat ((ps_n 9 place) h)), .int (Int32.ofNat (t0 + (pw_ev (ps_n 9 place) (ps_n 20 roads) (pw_tm due t0) p0 0 0 w).2.1 + (ps_n 20 roads) (10 * (pw_ev (ps_n 9 place) (ps_n 20 roads) (pw_tm due t0) p0 0 0 w).1 + (ps_n 9 place) h))), .int (Int32.ofNat v)], [], H) Q) (by omega) (by rw [List.length_append]; show w.length + 1 + m = M; omega) (Nat.xor_lt_two_pow hS h2lt) (by omega) f1 hn (fun x hx => by
              rcases List.mem_append.mp hx with q | q
              · exact wn x q
              · rw [List.mem_singleton.mp q]; omega) s1 (fun I' f' w' s' => by
              have z := ihk (h + 1) I' _ (some (Int32.ofNat ((ps_n 9 place) h), Int32.ofNat (t0 + (pw_ev (ps_n 9 place) (ps_n 20 roads) (pw_tm due t0) p0 0 0 w).2.1 + (ps_n 20 roads) (10 * (pw_ev (ps_n 9 place) (ps_n 20 roads) (pw_tm due t0) p0 0 0 w).1 + (ps_n 9 place) h)), Int32.ofNat v)) (by omega) f' (h_app w') s' (fun I'' f'' w'' s'' => hQ I'' f'' w'' (by
                rw [cl_bit hb] at s''
                rw [ps_fb_s, hb, cond_true]
                exact s''))
              simp only [Option.map, pm_vl_s] at z
              rw [pb_71_161b, on_s]
              exact z)
            have el : (w ++ [h]).length = w.length + 1 := by rw [List.length_append]; rfl
            rw [el, evs] at z
            rw [← hv] at z
            rw [show t0 + (pw_ev (ps_n 9 place) (ps_n 20 roads) (pw_tm due t0) p0 0 0 w).2.1 + (ps_n 20 roads) (10 * (pw_ev (ps_n 9 place) (ps_n 20 roads) (pw_tm due t0) p0 0 0 w).1 + (ps_n 9 place) h) + 1 = t0 + ((pw_ev (ps_n 9 place) (ps_n 20 roads) (pw_tm due t0) p0 0 0 w).2.1 + (ps_n 20 roads) (10 * (pw_ev (ps_n 9 place) (ps_n 20 roads) (pw_tm due t0) p0 0 0 w).1 + (ps_n 9 place) h) + 1) by omega]
            exact z
          have tm1 : due h < Int32.ofNat (t0 + (pw_ev (ps_n 9 place) (ps_n 20 roads) (pw_tm due t0) p0 0 0 w).2.1 + (ps_n 20 roads) (10 * (pw_ev (ps_n 9 place) (ps_n 20 roads) (pw_tm due t0) p0 0 0 w).1 + (ps_n 9 place) h)) → 0 = (bif (pw_tm due t0) h ((pw_ev (ps_n 9 place) (ps_n 20 roads) (pw_tm due t0) p0 0 0 w).2.1 + (ps_n 20 roads) (10 * (pw_ev (ps_n 9 place) (ps_n 20 roads) (pw_tm due t0) p0 0 0 w).1 + (ps_n 9 place) h)) then 1 else 0) := fun q => by
            have : (pw_tm due t0) h ((pw_ev (ps_n 9 place) (ps_n 20 roads) (pw_tm due t0) p0 0 0 w).2.1 + (ps_n 20 roads) (10 * (pw_ev (ps_n 9 place) (ps_n 20 roads) (pw_tm due t0) p0 0 0 w).1 + (ps_n 9 place) h)) = false := decide_eq_false (fun z => z (by rw [← Nat.add_assoc]; exact q))
            rw [this]; rfl
          have tm2 : ¬ due h < Int32.ofNat (t0 + (pw_ev (ps_n 9 place) (ps_n 20 roads) (pw_tm due t0) p0 0 0 w).2.1 + (ps_n 20 roads) (10 * (pw_ev (ps_n 9 place) (ps_n 20 roads) (pw_tm due t0) p0 0 0 w).1 + (ps_n 9 place) h)) → 1 = (bif (pw_tm due t0) h ((pw_ev (ps_n 9 place) (ps_n 20 roads) (pw_tm due t0) p0 0 0 w).2.1 + (ps_n 20 roads) (10 * (pw_ev (ps_n 9 place) (ps_n 20 roads) (pw_tm due t0) p0 0 0 w).1 + (ps_n 9 place) h)) then 1 else 0) := fun q => by
            have : (pw_tm due t0) h ((pw_ev (ps_n 9 place) (ps_n 20 roads) (pw_tm due t0) p0 0 0 w).2.1 + (ps_n 20 roads) (10 * (pw_ev (ps_n 9 place) (ps_n 20 roads) (pw_tm due t0) p0 0 0 w).1 + (ps_n 9 place) h)) = true := decide_eq_true (by rw [← Nat.add_assoc]; exact q)
            rw [this]; rfl
          have e54 : 1 * (Int32.ofNat w.length).toNatClampNeg + 0 = w.length := by rw [gw.2.1]; omega
          rcases E with _ | ⟨a1, a2, a3⟩ <;> simp only [Option.map, pm_vl_n, pm_vl_s]
          · rw [pb_71_38, if_neg c, pb_71_53, if_neg t0', pb_71_65, px_hou_0 (r14 I fr), pm_at_in g.1 lh, g.2.1, ← plat h (by omega), pb_71_78, px_road (r10 I fr) e1 e2, gp.2.1, gh.2.1, er, pb_71_95, ed, px_hou_6 (r14 I fr), pm_at_in g.1 lh, g.2.1, pb_71_114]
            by_cases q : due h < Int32.ofNat (t0 + (pw_ev (ps_n 9 place) (ps_n 20 roads) (pw_tm due t0) p0 0 0 w).2.1 + (ps_n 20 roads) (10 * (pw_ev (ps_n 9 place) (ps_n 20 roads) (pw_tm due t0) p0 0 0 w).1 + (ps_n 9 place) h))
            · rw [if_pos q, pb_71_121, pb_71_122, pt_set_53_0 (by rw [r53]; exact t53), if_pos i53, e54]
              exact at122 0 (tm1 q) _ rfl
            · rw [if_neg q, pb_71_117, pb_71_122, pt_set_53_0 (by rw [r53]; exact t53), if_pos i53, e54]
              exact at122 1 (tm2 q) _ rfl
          · rw [pb_71_38b, if_neg c, pb_71_53b, if_neg t0', pb_71_65b, px_hou_0 (r14 I fr), pm_at_in g.1 lh, g.2.1, ← plat h (by omega), pb_71_78b, px_road (r10 I fr) e1 e2, gp.2.1, gh.2.1, er, pb_71_95b, ed, px_hou_6 (r14 I fr), pm_at_in g.1 lh, g.2.1, pb_71_114b]
            by_cases q : due h < Int32.ofNat (t0 + (pw_ev (ps_n 9 place) (ps_n 20 roads) (pw_tm due t0) p0 0 0 w).2.1 + (ps_n 20 roads) (10 * (pw_ev (ps_n 9 place) (ps_n 20 roads) (pw_tm due t0) p0 0 0 w).1 + (ps_n 9 place) h))
            · rw [if_pos q, pb_71_121b, pb_71_122b, pt_set_53_0 (by rw [r53]; exact t53), if_pos i53, e54]
              exact at122 0 (tm1 q) _ rfl
            · rw [if_neg q, pb_71_117b, pb_71_122b, pt_set_53_0 (by rw [r53]; exact t53), if_pos i53, e54]
              exact at122 1 (tm2 q) _ rfl
    have at35 : pm_wp pm_code pm_meta (D + 1 + 2) 71 35 ([.ref 48, .int (Int32.ofNat w.length), .int (Int32.ofNat (pw_ev (ps_n 9 place) (ps_n 20 roads) (pw_tm due t0) p0 0 0 w).1), .int (Int32.ofNat S), .int (Int32.ofNat (t0 + (pw_ev (ps_n 9 place) (ps_n 20 roads) (pw_tm due t0) p0 0 0 w).2.1)), .int (Int32.ofNat (pw_ev (ps_n 9 place) (ps_n 20 roads) (pw_tm due t0) p0 0 0 w).2.2), pm_unset, pm_unset, pm_unset, pm_unset], [], (pm_Gb L b, I, J)) Q := by
      rw [pb_71_35]
      exact inner nH.toNatClampNeg 0 I st none (by omega) fr h54 hst hQ
    rcases st with _ | v
    · have h5 : I 48 5 = -1 := hst
      have gn := on_n (a := (pw_ev (ps_n 9 place) (ps_n 20 roads) (pw_tm due t0) p0 0 0 w).2.2 + (m + 1)) (by omega)
      have l0 := pi_le.mp gn.1
      rw [pi_0] at l0
      rw [h5, if_pos (by rw [pi_le, show (-1 : Int32).toInt = -1 from rfl]; omega)]
      exact at35
    · obtain ⟨v1, v2, v3⟩ := bd v
      have h5 : I 48 5 = Int32.ofNat (pw_ev (ps_n 9 place) (ps_n 20 roads) (pw_tm due t0) p0 0 0 v).2.2 := hst.1
      have vl := hst.2.2.2.2.1
      rw [h5]
      by_cases c : (pw_ev (ps_n 9 place) (ps_n 20 roads) (pw_tm due t0) p0 0 0 v).2.2 ≤ (pw_ev (ps_n 9 place) (ps_n 20 roads) (pw_tm due t0) p0 0 0 w).2.2 + (m + 1)
      · rw [if_pos (by rw [on_le (by omega) (by omega)]; exact c)]
        exact at35
      · rw [if_neg (by rw [on_le (by omega) (by omega)]; exact c)]
        refine at34 (pw_prune (fun w h => ?_) (m + 1) _ w v (by show (pw_ev (ps_n 9 place) (ps_n 20 roads) (pw_tm due t0) p0 0 0 w).2.2 + (m + 1) < (pw_ev (ps_n 9 place) (ps_n 20 roads) (pw_tm due t0) p0 0 0 v).2.2; omega))
        show (pw_ev (ps_n 9 place) (ps_n 20 roads) (pw_tm due t0) p0 0 0 (w ++ [h])).2.2 ≤ (pw_ev (ps_n 9 place) (ps_n 20 roads) (pw_tm due t0) p0 0 0 w).2.2 + 1
        rw [ev_app]
        show (pw_ev (ps_n 9 place) (ps_n 20 roads) (pw_tm due t0) p0 0 0 w).2.2 + (bif _ then 1 else 0) ≤ _
        generalize (pw_tm due t0) h _ = q
        cases q <;> simp

