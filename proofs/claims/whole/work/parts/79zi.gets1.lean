/-! What goes to the debts: the class, rank by rank. -/
def pf_give (s : Nat → Int32) (q : Nat) (v : Int32) : Nat → Int32 := pm_w (pm_w s (3 * q + 1) (s (3 * q + 1) - v)) (3 * q + 2) (s (3 * q + 2) + v)
def pf_xw (n k : Int32) (s : Nat → Int32) : Int32 := pm_fo (fun (t q : Int32) => if s (3 * q.toNatClampNeg + 0) = k then t + s (3 * q.toNatClampNeg + 1) else t) n.toNatClampNeg 0 0
def pf_xa (n k : Int32) (s : Nat → Int32) : Nat → Int32 := pm_fo (fun (s : Nat → Int32) (q : Int32) => if s (3 * q.toNatClampNeg + 0) = k then pf_give s q.toNatClampNeg (s (3 * q.toNatClampNeg + 1)) else s) n.toNatClampNeg 0 s
def pf_xp (n k coin all : Int32) (s : Nat → Int32) : (Nat → Int32) × Int32 := pm_fo (fun (z : (Nat → Int32) × Int32) (q : Int32) => if z.1 (3 * q.toNatClampNeg + 0) = k then (pf_give z.1 q.toNatClampNeg (coin * z.1 (3 * q.toNatClampNeg + 1) / all), z.2 - coin * z.1 (3 * q.toNatClampNeg + 1) / all) else z) n.toNatClampNeg 0 (s, coin)
def pf_xl1 (k : Int32) (z : (Nat → Int32) × Int32) (q : Int32) : (Nat → Int32) × Int32 := if 0 < z.2 ∧ z.1 (3 * q.toNatClampNeg + 0) = k ∧ ¬ z.1 (3 * q.toNatClampNeg + 1) = 0 then (pf_give z.1 q.toNatClampNeg 1, z.2 + -1) else z
def pf_xl (n k : Int32) (z : (Nat → Int32) × Int32) : (Nat → Int32) × Int32 := pm_fo (pf_xl1 k) n.toNatClampNeg 0 z
def pf_xs (n : Int32) (z : (Nat → Int32) × Int32) (k : Int32) : (Nat → Int32) × Int32 := if z.2 < pf_xw n k z.1 then ((pf_xl n k (pf_xp n k z.2 (pf_xw n k z.1) z.1)).1, 0) else (pf_xa n k z.1, z.2 - pf_xw n k z.1)
section
variable {d L : Nat} {b : Bool} {I : Nat → Nat → Int32} {J : Nat → Nat → Int64} {Q : Int32 → Int64 → pm_H → Prop} {n : Int32}
theorem sh_l (ht : pm_ti (I 38) 3 24) (hc : I 38 3 = n) : 0 ≤ n ∧ n < 2147483647 := by
  rw [← hc]
  exact ⟨ht.2.2.1, pi_ltb (Int32.lt_of_le_of_lt ht.2.2.2 (by decide : (24 : Int32) < 100)) (by decide)⟩
theorem px_give {s : Nat → Int32} {q v : Int32} (ht : pm_ti (I 38) 3 24) (hc : I 38 3 = n) (q0 : 0 ≤ q) (q1 : q < n) : pm_wc pm_code pm_meta (d + 1) 4 [.ref 37, .int q, .int v] (pm_Gb L b, pm_r I 39 s, J) Q ↔ Q 0 0 (pm_Gb L b, pm_r I 39 (pf_give s q.toNatClampNeg v), J) := by
  have r38 : ∀ s, pm_r I 39 s 38 = I 38 := fun s => by rw [pm_r_row, if_neg (by decide)]
  have ht' : ∀ s, pm_ti (pm_r I 39 s 38) 3 24 := fun s => by rw [r38]; exact ht
  have r39 : ∀ s, pm_r I 39 s 39 = s := fun s => by rw [pm_r_row, if_pos rfl]
  have c : 0 ≤ q ∧ q < n := ⟨q0, q1⟩
  simp only [pb_4_0, pt_get_38_1 (ht' _), r38, hc, c, and_self, if_true, r39, pb_4_15, pt_set_38_1 (ht' _), pm_u_r, pb_4_20, pt_get_38_2 (ht' _), pb_4_35, pt_set_38_2 (ht' _), pb_4_40]
  rw [pm_w_ne (by omega)]
  exact Iff.rfl
theorem px_wanted {s : Nat → Int32} {k : Int32} (ht : pm_ti (I 38) 3 24) (hc : I 38 3 = n) : pm_wc pm_code pm_meta (d + 1) 3 [.ref 37, .int k] (pm_Gb L b, pm_r I 39 s, J) Q ↔ Q (pf_xw n k s) 0 (pm_Gb L b, pm_r I 39 s, J) := by
  have r38 : pm_r I 39 s 38 = I 38 := by rw [pm_r_row, if_neg (by decide)]
  have ht' : pm_ti (pm_r I 39 s 38) 3 24 := by rw [r38]; exact ht
  have r39 : pm_r I 39 s 39 = s := by rw [pm_r_row, if_pos rfl]
  rw [pb_3_0]
  refine pm_for (A := fun (t : Int32) q => pm_wp pm_code pm_meta (d + 1) 3 4 ([.ref 37, .int k, .int t, .int q], [], (pm_Gb L b, pm_r I 39 s, J)) Q) (E := fun t => Q t 0 (pm_Gb L b, pm_r I 39 s, J)) (sh_l ht hc).1 (sh_l ht hc).2 (fun t q h0 => ?_) 0
  rw [pb_3_4, r38, hc]
  by_cases hi : n ≤ q
  · simp only [hi, if_true, pb_3_46]
  · have c : 0 ≤ q ∧ q < n := ⟨h0, Int32.not_le.mp hi⟩
    simp only [hi, if_false, pb_3_15, pt_get_38_0 ht', r38, hc, c, and_self, if_true, r39, pb_3_24]
    by_cases c1 : s (3 * q.toNatClampNeg + 0) = k
    · simp only [c1, if_true, pb_3_28, pt_get_38_1 ht', r38, hc, c, and_self, r39, pb_3_38, pb_3_40]
    · simp only [c1, if_false, pb_3_40]
theorem px_payAll {s : Nat → Int32} {k : Int32} (ht : pm_ti (I 38) 3 24) (hc : I 38 3 = n) : pm_wc pm_code pm_meta (d + 2) 5 [.ref 37, .int k] (pm_Gb L b, pm_r I 39 s, J) Q ↔ Q 0 0 (pm_Gb L b, pm_r I 39 (pf_xa n k s), J) := by
  have r38 : ∀ s, pm_r I 39 s 38 = I 38 := fun s => by rw [pm_r_row, if_neg (by decide)]
  have ht' : ∀ s, pm_ti (pm_r I 39 s 38) 3 24 := fun s => by rw [r38]; exact ht
  have r39 : ∀ s, pm_r I 39 s 39 = s := fun s => by rw [pm_r_row, if_pos rfl]
  rw [pb_5_0]
  refine pm_for (A := fun (s : Nat → Int32) q => pm_wp pm_code pm_meta (d + 2) 5 2 ([.ref 37, .int k, .int q], [], (pm_Gb L b, pm_r I 39 s, J)) Q) (E := fun s => Q 0 0 (pm_Gb L b, pm_r I 39 s, J)) (sh_l ht hc).1 (sh_l ht hc).2 (fun s q h0 => ?_) s
  rw [pb_5_2, r38, hc]
  by_cases hi : n ≤ q
  · simp only [hi, if_true, pb_5_46]
  · have c : 0 ≤ q ∧ q < n := ⟨h0, Int32.not_le.mp hi⟩
    simp only [hi, if_false, pb_5_13, pt_get_38_0 (ht' _), r38, hc, c, and_self, if_true, r39, pb_5_22]
    by_cases c1 : s (3 * q.toNatClampNeg + 0) = k
    · simp only [c1, if_true, pb_5_26, pt_get_38_1 (ht' _), r38, hc, c, and_self, r39, pb_5_37, px_give (d := d) ht hc c.1 c.2, pb_5_40]
    · simp only [c1, if_false, pb_5_40]
theorem xl_stop {k : Int32} : ∀ (m : Nat) (q : Int32) (z : (Nat → Int32) × Int32), ¬ 0 < z.2 → pm_fo (pf_xl1 k) m q z = z
  | 0, _, _, _ => rfl
  | m + 1, q, z, h => by
    have e : pf_xl1 k z q = z := if_neg (fun g => h g.1)
    unfold pm_fo
    rw [e]
    exact xl_stop m (q + 1) z h
theorem px_payParts {s : Nat → Int32} {k coin all : Int32} (ht : pm_ti (I 38) 3 24) (hc : I 38 3 = n) (h1 : 0 < all) : pm_wc pm_code pm_meta (d + 2) 6 [.ref 37, .int k, .int coin, .int all] (pm_Gb L b, pm_r I 39 s, J) Q ↔ Q 0 0 (pm_Gb L b, pm_r I 39 (pf_xl n k (pf_xp n k coin all s)).1, J) := by
  have r38 : ∀ s, pm_r I 39 s 38 = I 38 := fun s => by rw [pm_r_row, if_neg (by decide)]
  have ht' : ∀ s, pm_ti (pm_r I 39 s 38) 3 24 := fun s => by rw [r38]; exact ht
  have r39 : ∀ s, pm_r I 39 s 39 = s := fun s => by rw [pm_r_row, if_pos rfl]
  have nz : ¬ all = 0 := fun e => by rw [e] at h1; exact absurd h1 (by decide)
  have lp := sh_l ht hc
  have up : ∀ (m : Nat) (q : Int32) (z : (Nat → Int32) × Int32) (D : Option Int32), 0 ≤ q → q.toNatClampNeg + m = n.toNatClampNeg → (pm_wp pm_code pm_meta (d + 2) 6 80 ([.ref 37, .int k, .int coin, .int all, .int z.2, .int q, pm_vl D], [], (pm_Gb L b, pm_r I 39 z.1, J)) Q ↔ Q 0 0 (pm_Gb L b, pm_r I 39 (pm_fo (pf_xl1 k) m q z).1, J)) := by
    intro m
    induction m with
    | zero =>
      intro q z D h0 hm
      have t1 := pi_tni h0
      have t2 := pi_tni lp.1
      have hi : n ≤ q := by rw [pi_le]; omega
      cases D <;> simp only [pm_vl_n, pm_vl_s] <;> (first | rw [pb_6_80] | rw [pb_6_80b]) <;> simp only [r38, hc, hi, if_true, pb_6_143, pb_6_143b, pm_fo]
    | succ m ih =>
      intro q z D h0 hm
      have t1 := pi_tni h0
      have t2 := pi_tni lp.1
      have e : q < n := by rw [pi_lt]; omega
      have hi : ¬ n ≤ q := Int32.not_le.mpr e
      have e3 : (q + 1).toNatClampNeg = q.toNatClampNeg + 1 := pi_tn1 h0 (Int32.lt_trans e lp.2)
      have e4 : 0 ≤ q + 1 := by have := pi_lt.mp e; have := pi_hi n; rw [pi_le, pi_0, pi_add (by rw [pi_1]; omega) (by rw [pi_1]; omega), pi_1]; omega
      have c : 0 ≤ q ∧ q < n := ⟨h0, e⟩
      have nx : pm_fo (pf_xl1 k) (m + 1) q z = pm_fo (pf_xl1 k) m (q + 1) (pf_xl1 k z q) := rfl
      by_cases g : 0 < z.2
      · have g' : ¬ z.2 ≤ 0 := Int32.not_le.mpr g
        have z1 := fun z' => ih (q + 1) z' D e4 (by omega)
        by_cases c1 : z.1 (3 * q.toNatClampNeg + 0) = k
        · by_cases c2 : z.1 (3 * q.toNatClampNeg + 1) = 0
          · have e1 : pf_xl1 k z q = z := if_neg (fun g => g.2.2 c2)
            have z2 := z1 z
            rw [nx, e1]
            cases D <;> simp only [pm_vl_n, pm_vl_s] at z2 ⊢ <;> (first | rw [pb_6_80] | rw [pb_6_80b]) <;> simp only [r38, hc, hi, if_false, pb_6_92, pb_6_92b, g', pb_6_97, pb_6_97b, pt_get_38_0 (ht' _), c, and_self, if_true, r39, pb_6_107, pb_6_107b, c1, pb_6_111, pb_6_111b, pt_get_38_1 (ht' _), pb_6_121, pb_6_121b, c2, pb_6_124, pb_6_124b, pb_6_137, pb_6_137b] <;> exact z2
          · have e1 : pf_xl1 k z q = (pf_give z.1 q.toNatClampNeg 1, z.2 + -1) := if_pos ⟨g, c1, c2⟩
            have z2 := z1 (pf_give z.1 q.toNatClampNeg 1, z.2 + -1)
            rw [nx, e1]
            cases D <;> simp only [pm_vl_n, pm_vl_s] at z2 ⊢ <;> (first | rw [pb_6_80] | rw [pb_6_80b]) <;> simp only [r38, hc, hi, if_false, pb_6_92, pb_6_92b, g', pb_6_97, pb_6_97b, pt_get_38_0 (ht' _), c, and_self, if_true, r39, pb_6_107, pb_6_107b, c1, pb_6_111, pb_6_111b, pt_get_38_1 (ht' _), pb_6_121, pb_6_121b, c2, pb_6_127, pb_6_127b, px_give (d := d) ht hc c.1 c.2, pb_6_134, pb_6_134b, pb_6_137, pb_6_137b] <;> exact z2
        · have e1 : pf_xl1 k z q = z := if_neg (fun g => c1 g.2.1)
          have z2 := z1 z
          rw [nx, e1]
          cases D <;> simp only [pm_vl_n, pm_vl_s] at z2 ⊢ <;> (first | rw [pb_6_80] | rw [pb_6_80b]) <;> simp only [r38, hc, hi, if_false, pb_6_92, pb_6_92b, g', pb_6_97, pb_6_97b, pt_get_38_0 (ht' _), c, and_self, if_true, r39, pb_6_107, pb_6_107b, c1, pb_6_137, pb_6_137b] <;> exact z2
      · have g' : z.2 ≤ 0 := Int32.not_lt.mp g
        rw [xl_stop _ _ _ g]
        cases D <;> simp only [pm_vl_n, pm_vl_s] <;> (first | rw [pb_6_80] | rw [pb_6_80b]) <;> simp only [r38, hc, hi, if_false, pb_6_92, pb_6_92b, g', if_true, pb_6_143, pb_6_143b]
  have parts : ∀ (m : Nat) (q : Int32) (z : (Nat → Int32) × Int32) (D : Option Int32), 0 ≤ q → q.toNatClampNeg + m = n.toNatClampNeg → (pm_wp pm_code pm_meta (d + 2) 6 11 ([.ref 37, .int k, .int coin, .int all, .int z.2, .int q, pm_vl D], [], (pm_Gb L b, pm_r I 39 z.1, J)) Q ↔ Q 0 0 (pm_Gb L b, pm_r I 39 (pf_xl n k (pm_fo (fun (z : (Nat → Int32) × Int32) (q : Int32) => if z.1 (3 * q.toNatClampNeg + 0) = k then (pf_give z.1 q.toNatClampNeg (coin * z.1 (3 * q.toNatClampNeg + 1) / all), z.2 - coin * z.1 (3 * q.toNatClampNeg + 1) / all) else z) m q z)).1, J)) := by
    intro m
    induction m with
    | zero =>
      intro q z D h0 hm
      have t1 := pi_tni h0
      have t2 := pi_tni lp.1
      have hi : n ≤ q := by rw [pi_le]; omega
      have u := up n.toNatClampNeg 0 z D (Int32.le_refl 0) (by simp)
      cases D <;> simp only [pm_vl_n, pm_vl_s] at u ⊢ <;> (first | rw [pb_6_11] | rw [pb_6_11b]) <;> simp only [r38, hc, hi, if_true, pb_6_77, pb_6_77b, pm_fo] <;> exact u
    | succ m ih =>
      intro q z D h0 hm
      have t1 := pi_tni h0
      have t2 := pi_tni lp.1
      have e : q < n := by rw [pi_lt]; omega
      have hi : ¬ n ≤ q := Int32.not_le.mpr e
      have e3 : (q + 1).toNatClampNeg = q.toNatClampNeg + 1 := pi_tn1 h0 (Int32.lt_trans e lp.2)
      have e4 : 0 ≤ q + 1 := by have := pi_lt.mp e; have := pi_hi n; rw [pi_le, pi_0, pi_add (by rw [pi_1]; omega) (by rw [pi_1]; omega), pi_1]; omega
      have c : 0 ≤ q ∧ q < n := ⟨h0, e⟩
      unfold pm_fo
      by_cases c1 : z.1 (3 * q.toNatClampNeg + 0) = k
      · have z2 := ih (q + 1) (pf_give z.1 q.toNatClampNeg (coin * z.1 (3 * q.toNatClampNeg + 1) / all), z.2 - coin * z.1 (3 * q.toNatClampNeg + 1) / all) (some (coin * z.1 (3 * q.toNatClampNeg + 1) / all)) e4 (by omega)
        simp only [pm_vl_s] at z2
        rw [if_pos c1]
        cases D <;> simp only [pm_vl_n, pm_vl_s] <;> (first | rw [pb_6_11] | rw [pb_6_11b]) <;> simp only [r38, hc, hi, if_false, pb_6_23, pb_6_23b, pt_get_38_0 (ht' _), c, and_self, if_true, r39, pb_6_33, pb_6_33b, c1, pb_6_40, pb_6_40b, pt_get_38_1 (ht' _), pb_6_51, pb_6_51b, nz, not_false_eq_true, true_and, px_give (d := d) ht hc c.1 c.2, pb_6_64, pb_6_71b] <;> exact z2
      · have z2 := ih (q + 1) z D e4 (by omega)
        rw [if_neg c1]
        cases D <;> simp only [pm_vl_n, pm_vl_s] at z2 ⊢ <;> (first | rw [pb_6_11] | rw [pb_6_11b]) <;> simp only [r38, hc, hi, if_false, pb_6_23, pb_6_23b, pt_get_38_0 (ht' _), c, and_self, if_true, r39, pb_6_33, pb_6_33b, c1, pb_6_37, pb_6_37b, pb_6_71, pb_6_71b] <;> exact z2
  rw [pb_6_0, if_pos h1, pb_6_5]
  exact parts n.toNatClampNeg 0 (s, coin) none (Int32.le_refl 0) (by simp)
end

