/-! The deeds of a field in their order: the class, on. -/
/-- the same but for the rows a and c -/
def pm_sm2 (a c : Nat) (I0 I : Nat → Nat → Int32) : Prop := ∀ k, ¬ k = a → ¬ k = c → I k = I0 k
theorem px_lineUp_loop {d L : Nat} {b : Bool} {J : Nat → Nat → Int64} {I0 : Nat → Nat → Int32} {x1 x2 : Int32} {n : Int32} {field fr to day amount known : Nat → Int32} {Q : Int32 → Int64 → pm_H → Prop} (hd : pg_dee (I0 34) (I0 35) n field fr to day amount known)
    (hQ : ∀ I', pm_sm2 65 66 I0 I' → pm_ti (I' 65) 1 24 → I' 65 3 = Int32.ofNat (pf_lnr day (fun k => field k = x1 ∧ known k ≤ x2) n.toNatClampNeg).length → pf_hold (I' 66) (pf_lnr day (fun k => field k = x1 ∧ known k ≤ x2) n.toNatClampNeg) → Q 0 0 (pm_Gb L b, I', J)) :
    ∀ (m k : Nat) (D : Option (Int32 × Int32)) (I : Nat → Nat → Int32), k + m = n.toNatClampNeg → pm_sm2 65 66 I0 I → pm_ti (I 65) 1 24 → I 65 3 = Int32.ofNat (pf_lnr day (fun k => field k = x1 ∧ known k ≤ x2) k).length → pf_hold (I 66) (pf_lnr day (fun k => field k = x1 ∧ known k ≤ x2) k) →
    pm_wp pm_code pm_meta (d + 1) 9 10 ([.ref 64, .int x1, .int x2, .int (Int32.ofNat k), pm_vl (D.map (·.1)), pm_vl (D.map (·.2))], [], (pm_Gb L b, I, J)) Q := by
  have hn := dee_n hd
  have e24 : (24 : Int32).toInt = 24 := rfl
  have t1 := pi_tni hn.1
  have t2 := pi_le.mp hn.2
  intro m
  induction m with
  | zero =>
    intro k D I hm hs ht hc hh
    have hd' : pg_dee (I 34) (I 35) n field fr to day amount known := by rw [hs 34 (by decide) (by decide), hs 35 (by decide) (by decide)]; exact hd
    have hk : k = n.toNatClampNeg := by omega
    have p := pi_on (j := k) (by omega)
    have hi : n ≤ Int32.ofNat k := by rw [pi_le, p.2.2]; omega
    rw [hk] at hc hh
    have q := hQ I hs ht hc hh
    cases D <;> simp only [Option.map, pm_vl_n, pm_vl_s] <;> first | (rw [pb_9_10, hd'.1.2, if_pos hi, pb_9_160]; exact q) | (rw [pb_9_10b, hd'.1.2, if_pos hi, pb_9_160b]; exact q)
  | succ m ih =>
    intro k D I hm hs ht hc hh
    have hd' : pg_dee (I 34) (I 35) n field fr to day amount known := by rw [hs 34 (by decide) (by decide), hs 35 (by decide) (by decide)]; exact hd
    have p := pi_on (j := k) (by omega)
    have hi : ¬ n ≤ Int32.ofNat k := by rw [pi_le, p.2.2]; omega
    have lk : Int32.ofNat k < n := Int32.not_le.mp hi
    have ek := pi_onadd (j := k) (by omega)
    have ll := lnr_len (day := day) (E := (fun k => field k = x1 ∧ known k ≤ x2)) k
    by_cases c : field k = x1 ∧ known k ≤ x2
    · obtain ⟨c1, c2⟩ := c
      have eln : pf_lnr day (fun k => field k = x1 ∧ known k ≤ x2) (k + 1) = pf_ins day k (pf_lnr day (fun k => field k = x1 ∧ known k ≤ x2) k) := if_pos ⟨c1, c2⟩
      have pl := pi_on (j := (pf_lnr day (fun k => field k = x1 ∧ known k ≤ x2) k).length) (by omega)
      have l24 : I 65 3 < 24 := by rw [hc, pi_lt, pl.2.2, e24]; omega
      have goal80 : pm_wp pm_code pm_meta (d + 1) 9 82 ([.ref 64, .int x1, .int x2, .int (Int32.ofNat k), .int (day k), .int (Int32.ofNat (pf_lnr day (fun k => field k = x1 ∧ known k ≤ x2) k).length)], [], (pm_Gb L b, pm_u (pm_zr I 66 (1 * (I 65 3).toNatClampNeg) (1 * (I 65 3).toNatClampNeg + 1)) 65 3 (I 65 3 + 1), J)) Q := by
        generalize hI1 : pm_u (pm_zr I 66 (1 * (I 65 3).toNatClampNeg) (1 * (I 65 3).toNatClampNeg + 1)) 65 3 (I 65 3 + 1) = I1
        have s1 : ∀ k, ¬ k = 65 → ¬ k = 66 → I1 k = I k := fun k h1 h2 => by rw [← hI1, pm_u_row, if_neg h1, pm_zr_row, if_neg h2]
        have e65 : I1 65 = pm_w (I 65) 3 (I 65 3 + 1) := by rw [← hI1, pm_u_row, if_pos rfl, pm_zr_row, if_neg (by decide)]
        have e66 : ∀ j, j < (pf_lnr day (fun k => field k = x1 ∧ known k ≤ x2) k).length → I1 66 j = I 66 j := fun j hj => by
          rw [← hI1, pm_u_row, if_neg (by decide), pm_zr_row, if_pos rfl, hc, pl.2.1]
          unfold pm_zw
          rw [if_neg (by omega)]
        have t65 : pm_ti (I1 65) 1 24 := by
          rw [e65]
          have l24' := pi_lt.mp l24
          have l0' := pi_le.mp ht.2.2.1
          rw [pi_0] at l0'
          have ea := pi_add (a := I 65 3) (b := 1) (by rw [pi_1]; omega) (by rw [pi_1]; omega)
          rw [pi_1] at ea
          exact pm_ti_w ht (by rw [pi_le, pi_0, ea]; omega) (by rw [pi_le, ea]; omega)
        have c65 : I1 65 3 = Int32.ofNat ((pf_lnr day (fun k => field k = x1 ∧ known k ≤ x2) k).length + 1) := by
          rw [e65, pm_w_at, if_pos rfl, hc, pi_onadd (by omega)]
        have pl1 := pi_on (j := (pf_lnr day (fun k => field k = x1 ∧ known k ≤ x2) k).length + 1) (by omega)
        have hd1 : pg_dee (I1 34) (I1 35) n field fr to day amount known := by rw [s1 34 (by decide) (by decide), s1 35 (by decide) (by decide)]; exact hd'
        rw [← pm_r_self I1 66]
        refine px_shift (I := I1) (k := k) hd1 t65 (by omega) (pf_lnr day (fun k => field k = x1 ∧ known k ≤ x2) k) (I1 66) (by rw [c65, pl1.2.1]; omega) (fun x hx => by have := ((lnr_mem k).mp hx).1; omega) (hold_cg _ (fun j hj => (e66 j hj).symm) hh) rfl (fun f' p' h1 h2 => ?_)
        rw [pb_9_154b, ek]
        refine ih (k + 1) (some (day k, p')) (pm_r I1 66 f') (by omega) (fun j h1 h2 => ?_) ?_ ?_ ?_
        · rw [pm_r_row, if_neg h2, s1 j h1 h2]; exact hs j h1 h2
        · rw [pm_r_row, if_neg (by decide)]; exact t65
        · rw [pm_r_row, if_neg (by decide), c65, eln, ins_len]
        · rw [pm_r_row, if_pos rfl, eln]; exact h1
      cases D <;> simp only [Option.map, pm_vl_n, pm_vl_s] <;> (first | rw [pb_9_10] | rw [pb_9_10b]) <;> simp only [hd'.1.2, hi, if_false, pb_9_0, pb_9_8, pb_9_160, pb_9_24, pb_9_36, pb_9_40, pb_9_154, pb_9_52, pb_9_59, pb_9_56, pb_9_71, pb_9_80, pb_9_143, pb_9_87, pb_9_154b, pb_9_106, pb_9_110, pb_9_160b, pb_9_24b, pb_9_115, pb_9_36b, pb_9_134, pb_9_40b, pb_9_137, pb_9_52b, pb_9_59b, pb_9_56b, pb_9_71b, pb_9_80b, px_dee_0 hd', px_dee_3 hd', px_dee_5 hd', pm_at_in p.1 lk, p.2.1, c1, c2, if_true, pt_add_65 ht l24] <;> (rw [hc] at goal80 ⊢; exact goal80)
    · have eln : pf_lnr day (fun k => field k = x1 ∧ known k ≤ x2) (k + 1) = pf_lnr day (fun k => field k = x1 ∧ known k ≤ x2) k := if_neg c
      have z := ih (k + 1) D I (by omega) hs ht (by rw [eln]; exact hc) (by rw [eln]; exact hh)
      by_cases c1 : field k = x1
      · have c2 : ¬ known k ≤ x2 := fun q => c ⟨c1, q⟩
        cases D <;> simp only [Option.map, pm_vl_n, pm_vl_s] at z ⊢ <;> (first | rw [pb_9_10] | rw [pb_9_10b]) <;> simp only [hd'.1.2, hi, if_false, pb_9_0, pb_9_8, pb_9_160, pb_9_24, pb_9_36, pb_9_40, pb_9_154, pb_9_52, pb_9_59, pb_9_56, pb_9_71, pb_9_80, pb_9_143, pb_9_87, pb_9_154b, pb_9_106, pb_9_110, pb_9_160b, pb_9_24b, pb_9_115, pb_9_36b, pb_9_134, pb_9_40b, pb_9_137, pb_9_52b, pb_9_59b, pb_9_56b, pb_9_71b, pb_9_80b, px_dee_0 hd', px_dee_5 hd', pm_at_in p.1 lk, p.2.1, c1, c2, if_true, ek] <;> exact z
      · cases D <;> simp only [Option.map, pm_vl_n, pm_vl_s] at z ⊢ <;> (first | rw [pb_9_10] | rw [pb_9_10b]) <;> simp only [hd'.1.2, hi, if_false, pb_9_0, pb_9_8, pb_9_160, pb_9_24, pb_9_36, pb_9_40, pb_9_154, pb_9_52, pb_9_59, pb_9_56, pb_9_71, pb_9_80, pb_9_143, pb_9_87, pb_9_154b, pb_9_106, pb_9_110, pb_9_160b, pb_9_24b, pb_9_115, pb_9_36b, pb_9_134, pb_9_40b, pb_9_137, pb_9_52b, pb_9_59b, pb_9_56b, pb_9_71b, pb_9_80b, px_dee_0 hd', pm_at_in p.1 lk, p.2.1, c1, ek] <;> exact z
theorem px_lineUp {d L : Nat} {b : Bool} {I : Nat → Nat → Int32} {J : Nat → Nat → Int64} {x1 x2 : Int32} {n : Int32} {field fr to day amount known : Nat → Int32} {Q : Int32 → Int64 → pm_H → Prop} (hd : pg_dee (I 34) (I 35) n field fr to day amount known) (ht : pm_ti (I 65) 1 24)
    (hQ : ∀ I', pm_sm2 65 66 I I' → pm_ti (I' 65) 1 24 → I' 65 3 = Int32.ofNat (pf_lnr day (fun k => field k = x1 ∧ known k ≤ x2) n.toNatClampNeg).length → pf_hold (I' 66) (pf_lnr day (fun k => field k = x1 ∧ known k ≤ x2) n.toNatClampNeg) → Q 0 0 (pm_Gb L b, I', J)) :
    pm_wc pm_code pm_meta (d + 1) 9 [.ref 64, .int x1, .int x2] (pm_Gb L b, I, J) Q := by
  rw [pb_9_0, pt_cut_65, pb_9_8]
  have e0 : (if 0 ≤ (0 : Int32) ∧ 0 < I 65 3 then pm_u I 65 3 0 else I) = pm_r I 65 (pm_w (I 65) 3 0) := by
    split
    · funext k j
      rw [pm_u_row, pm_r_row]
    · next h =>
      have z : I 65 3 = 0 := Int32.le_antisymm (Int32.not_lt.mp (fun q => h ⟨Int32.le_refl 0, q⟩)) ht.2.2.1
      funext k j
      rw [pm_r_row]
      split
      · next e =>
        subst e
        rw [pm_w_at]
        split
        · next e2 => rw [e2, z]
        · rfl
      · rfl
  rw [e0]
  refine px_lineUp_loop hd hQ n.toNatClampNeg 0 none _ (by omega) (fun k h1 h2 => by rw [pm_r_row, if_neg h1]) ?_ ?_ trivial
  · rw [pm_r_row, if_pos rfl]; exact pm_ti_w ht (Int32.le_refl 0) (by decide)
  · rw [pm_r_row, if_pos rfl, pm_w_at, if_pos rfl]; rfl

