/-! What goes to the debts: the reference, rank by rank; the class's ranks. -/
/-- so many steps of a loop, from 0 on -/
def pf_it {α : Type} (f : α → Int32 → α) (z : α) : Nat → α
  | 0 => z
  | k + 1 => f (pf_it f z k) (Int32.ofNat k)
def pf_rw (r w : Nat → Int32) (n k : Int32) : Int32 := pm_fo (fun (t q : Int32) => t + (if r q.toNatClampNeg = k then w q.toNatClampNeg else 0)) n.toNatClampNeg 0 0
def pf_ra (r w : Nat → Int32) (n k : Int32) (g : Nat → Int32) : Nat → Int32 := pm_fo (fun (g : Nat → Int32) (q : Int32) => pm_w g q.toNatClampNeg (g q.toNatClampNeg + (if r q.toNatClampNeg = k then w q.toNatClampNeg else 0))) n.toNatClampNeg 0 g
def pf_rp1 (r w : Nat → Int32) (k coin all : Int32) (z : (Nat → Int32) × Int32) (q : Int32) : (Nat → Int32) × Int32 := if r q.toNatClampNeg = k then (pm_w z.1 q.toNatClampNeg (z.1 q.toNatClampNeg + w q.toNatClampNeg * coin / all), z.2 - w q.toNatClampNeg * coin / all) else z
def pf_rl1 (r am : Nat → Int32) (k : Int32) (z : (Nat → Int32) × Int32) (q : Int32) : (Nat → Int32) × Int32 := if 0 < z.2 ∧ r q.toNatClampNeg = k ∧ ¬ am q.toNatClampNeg ≤ z.1 q.toNatClampNeg then (pm_w z.1 q.toNatClampNeg (z.1 q.toNatClampNeg + 1), z.2 + -1) else z
def pf_rs (r w am : Nat → Int32) (n : Int32) (z : (Nat → Int32) × Int32) (k : Int32) : (Nat → Int32) × Int32 := if z.2 < pf_rw r w n k then ((pm_fo (pf_rl1 r am k) n.toNatClampNeg 0 (pm_fo (pf_rp1 r w k z.2 (pf_rw r w n k)) n.toNatClampNeg 0 (z.1, z.2))).1, 0) else (pf_ra r w n k z.1, z.2 - pf_rw r w n k)
theorem rl_stop {r am : Nat → Int32} {k : Int32} : ∀ (m : Nat) (q : Int32) (z : (Nat → Int32) × Int32), ¬ 0 < z.2 → pm_fo (pf_rl1 r am k) m q z = z
  | 0, _, _, _ => rfl
  | m + 1, q, z, h => by
    have e : pf_rl1 r am k z q = z := if_neg (fun g => h g.1)
    unfold pm_fo
    rw [e]
    exact rl_stop m (q + 1) z h
section
variable {d L : Nat} {b : Bool} {I : Nat → Nat → Int32} {J : Nat → Nat → Int64} {Q : Int32 → Int64 → pm_H → Prop} {n : Int32}
theorem pr_paysRank {g : Nat → Int32} {k coin : Int32} (en : I 80 4 = n) (n0 : 0 ≤ n) (n24 : n ≤ 24) (hz : coin < pf_rw (I 141) (I 140) n k → ¬ pf_rw (I 141) (I 140) n k = 0)
    (hQ : Q (pf_rs (I 141) (I 140) (I 102) n (g, coin) k).2 0 (pm_Gb L b, pm_r I 139 (pf_rs (I 141) (I 140) (I 102) n (g, coin) k).1, J)) : pm_wc pm_code pm_meta d 248 [.ref 79, .int k, .int coin] (pm_Gb L b, pm_r I 139 g, J) Q := by
  have nl : n < 2147483647 := pi_ltb (Int32.lt_of_le_of_lt n24 (by decide : (24 : Int32) < 100)) (by decide)
  have r1 : ∀ g k, ¬ k = 139 → pm_r I 139 g k = I k := fun g k h => by rw [pm_r_row, if_neg h]
  have r139 : ∀ g, pm_r I 139 g 139 = g := fun g => by rw [pm_r_row, if_pos rfl]
  have e80 : ∀ g, pm_r I 139 g 80 4 = n := fun g => by rw [r1 g 80 (by decide), en]
  have w1 : pm_wp pm_code pm_meta d 248 5 ([.ref 79, .int k, .int coin, .int 0, .int 0, pm_unset, pm_unset], [], (pm_Gb L b, pm_r I 139 g, J)) Q ↔ pm_wp pm_code pm_meta d 248 47 ([.ref 79, .int k, .int coin, .int (pf_rw (I 141) (I 140) n k), .int n, pm_unset, pm_unset], [], (pm_Gb L b, pm_r I 139 g, J)) Q := by
    refine pm_for_i (A := fun (t : Int32) q => pm_wp pm_code pm_meta d 248 5 ([.ref 79, .int k, .int coin, .int t, .int q, pm_unset, pm_unset], [], (pm_Gb L b, pm_r I 139 g, J)) Q) (E := fun t q => pm_wp pm_code pm_meta d 248 47 ([.ref 79, .int k, .int coin, .int t, .int q, pm_unset, pm_unset], [], (pm_Gb L b, pm_r I 139 g, J)) Q) n0 nl (fun t q h0 => ?_) 0
    rw [pb_248_5, e80]
    by_cases hi : n ≤ q
    · simp only [hi, if_true]
    · have i1 := pi_in24 n24 h0 (Int32.not_le.mp hi)
      by_cases c1 : I 141 q.toNatClampNeg = k
      · simp only [hi, if_false, pb_248_16, i1, true_and, r1 g 141 (by decide), r1 g 140 (by decide), c1, if_true, pb_248_28, pb_248_39]
      · simp only [hi, if_false, pb_248_16, i1, true_and, r1 g 141 (by decide), c1, pb_248_38, pb_248_39]
  rw [pb_248_0, w1, pb_248_47]
  by_cases hc : coin < pf_rw (I 141) (I 140) n k
  · have nz := hz hc
    have es : pf_rs (I 141) (I 140) (I 102) n (g, coin) k = ((pm_fo (pf_rl1 (I 141) (I 102) k) n.toNatClampNeg 0 (pm_fo (pf_rp1 (I 141) (I 140) k coin (pf_rw (I 141) (I 140) n k)) n.toNatClampNeg 0 (g, coin))).1, 0) := if_pos hc
    rw [es] at hQ
    rw [if_pos hc]
    generalize pf_rw (I 141) (I 140) n k = all at hQ nz ⊢
    have up : ∀ (m : Nat) (q : Int32) (z : (Nat → Int32) × Int32) (D : Option Int32), 0 ≤ q → q.toNatClampNeg + m = n.toNatClampNeg → (pm_wp pm_code pm_meta d 248 177 ([.ref 79, .int k, .int coin, .int all, .int z.2, .int q, pm_vl D], [], (pm_Gb L b, pm_r I 139 z.1, J)) Q ↔ Q 0 0 (pm_Gb L b, pm_r I 139 (pm_fo (pf_rl1 (I 141) (I 102) k) m q z).1, J)) := by
      intro m
      induction m with
      | zero =>
        intro q z D h0 hm
        have t1 := pi_tni h0
        have t2 := pi_tni n0
        have hi : n ≤ q := by rw [pi_le]; omega
        cases D <;> simp only [pm_vl_n, pm_vl_s] <;> (first | rw [pb_248_177] | rw [pb_248_177b]) <;> simp only [e80, hi, if_true, pb_248_241, pb_248_241b, pm_fo]
      | succ m ih =>
        intro q z D h0 hm
        have t1 := pi_tni h0
        have t2 := pi_tni n0
        have e : q < n := by rw [pi_lt]; omega
        have hi : ¬ n ≤ q := Int32.not_le.mpr e
        have e3 : (q + 1).toNatClampNeg = q.toNatClampNeg + 1 := pi_tn1 h0 (Int32.lt_trans e nl)
        have e4 : 0 ≤ q + 1 := by have := pi_lt.mp e; have := pi_hi n; rw [pi_le, pi_0, pi_add (by rw [pi_1]; omega) (by rw [pi_1]; omega), pi_1]; omega
        have i1 := pi_in24 n24 h0 e
        have nx : pm_fo (pf_rl1 (I 141) (I 102) k) (m + 1) q z = pm_fo (pf_rl1 (I 141) (I 102) k) m (q + 1) (pf_rl1 (I 141) (I 102) k z q) := rfl
        by_cases g0 : 0 < z.2
        · have g' : ¬ z.2 ≤ 0 := Int32.not_le.mpr g0
          by_cases c1 : I 141 q.toNatClampNeg = k
          · by_cases c2 : I 102 q.toNatClampNeg ≤ z.1 q.toNatClampNeg
            · have e1 : pf_rl1 (I 141) (I 102) k z q = z := if_neg (fun g => g.2.2 c2)
              have z2 := ih (q + 1) z D e4 (by omega)
              rw [nx, e1]
              cases D <;> simp only [pm_vl_n, pm_vl_s] at z2 ⊢ <;> (first | rw [pb_248_177] | rw [pb_248_177b]) <;> simp only [e80, hi, if_false, pb_248_188, pb_248_188b, g', pb_248_193, pb_248_193b, i1, true_and, r1 _ 141 (by decide), c1, if_true, pb_248_204, pb_248_204b, r1 _ 102 (by decide), r139, c2, pb_248_235, pb_248_235b] <;> exact z2
            · have e1 : pf_rl1 (I 141) (I 102) k z q = (pm_w z.1 q.toNatClampNeg (z.1 q.toNatClampNeg + 1), z.2 + -1) := if_pos ⟨g0, c1, c2⟩
              have z2 := ih (q + 1) (pm_w z.1 q.toNatClampNeg (z.1 q.toNatClampNeg + 1), z.2 + -1) D e4 (by omega)
              rw [nx, e1]
              cases D <;> simp only [pm_vl_n, pm_vl_s] at z2 ⊢ <;> (first | rw [pb_248_177] | rw [pb_248_177b]) <;> simp only [e80, hi, if_false, pb_248_188, pb_248_188b, g', pb_248_193, pb_248_193b, i1, true_and, r1 _ 141 (by decide), c1, if_true, pb_248_204, pb_248_204b, r1 _ 102 (by decide), r139, c2, pb_248_221, pb_248_221b, pm_u_r, pb_248_235, pb_248_235b] <;> exact z2
          · have e1 : pf_rl1 (I 141) (I 102) k z q = z := if_neg (fun g => c1 g.2.1)
            have z2 := ih (q + 1) z D e4 (by omega)
            rw [nx, e1]
            cases D <;> simp only [pm_vl_n, pm_vl_s] at z2 ⊢ <;> (first | rw [pb_248_177] | rw [pb_248_177b]) <;> simp only [e80, hi, if_false, pb_248_188, pb_248_188b, g', pb_248_193, pb_248_193b, i1, true_and, r1 _ 141 (by decide), c1, pb_248_235, pb_248_235b] <;> exact z2
        · have g' : z.2 ≤ 0 := Int32.not_lt.mp g0
          rw [rl_stop _ _ _ g0]
          cases D <;> simp only [pm_vl_n, pm_vl_s] <;> (first | rw [pb_248_177] | rw [pb_248_177b]) <;> simp only [e80, hi, if_false, pb_248_188, pb_248_188b, g', if_true, pb_248_241, pb_248_241b]
    have parts : ∀ (m : Nat) (q : Int32) (z : (Nat → Int32) × Int32) (D : Option Int32), 0 ≤ q → q.toNatClampNeg + m = n.toNatClampNeg → (pm_wp pm_code pm_meta d 248 114 ([.ref 79, .int k, .int coin, .int all, .int z.2, .int q, pm_vl D], [], (pm_Gb L b, pm_r I 139 z.1, J)) Q ↔ Q 0 0 (pm_Gb L b, pm_r I 139 (pm_fo (pf_rl1 (I 141) (I 102) k) n.toNatClampNeg 0 (pm_fo (pf_rp1 (I 141) (I 140) k coin all) m q z)).1, J)) := by
      intro m
      induction m with
      | zero =>
        intro q z D h0 hm
        have t1 := pi_tni h0
        have t2 := pi_tni n0
        have hi : n ≤ q := by rw [pi_le]; omega
        have u := up n.toNatClampNeg 0 z D (Int32.le_refl 0) (by simp)
        cases D <;> simp only [pm_vl_n, pm_vl_s] at u ⊢ <;> (first | rw [pb_248_114] | rw [pb_248_114b]) <;> simp only [e80, hi, if_true, pb_248_174, pb_248_174b, pm_fo] <;> exact u
      | succ m ih =>
        intro q z D h0 hm
        have t1 := pi_tni h0
        have t2 := pi_tni n0
        have e : q < n := by rw [pi_lt]; omega
        have hi : ¬ n ≤ q := Int32.not_le.mpr e
        have e3 : (q + 1).toNatClampNeg = q.toNatClampNeg + 1 := pi_tn1 h0 (Int32.lt_trans e nl)
        have e4 : 0 ≤ q + 1 := by have := pi_lt.mp e; have := pi_hi n; rw [pi_le, pi_0, pi_add (by rw [pi_1]; omega) (by rw [pi_1]; omega), pi_1]; omega
        have i1 := pi_in24 n24 h0 e
        have nx : pm_fo (pf_rp1 (I 141) (I 140) k coin all) (m + 1) q z = pm_fo (pf_rp1 (I 141) (I 140) k coin all) m (q + 1) (pf_rp1 (I 141) (I 140) k coin all z q) := rfl
        by_cases c1 : I 141 q.toNatClampNeg = k
        · have e1 : pf_rp1 (I 141) (I 140) k coin all z q = (pm_w z.1 q.toNatClampNeg (z.1 q.toNatClampNeg + I 140 q.toNatClampNeg * coin / all), z.2 - I 140 q.toNatClampNeg * coin / all) := if_pos c1
          have z2 := ih (q + 1) (pm_w z.1 q.toNatClampNeg (z.1 q.toNatClampNeg + I 140 q.toNatClampNeg * coin / all), z.2 - I 140 q.toNatClampNeg * coin / all) (some (I 140 q.toNatClampNeg * coin / all)) e4 (by omega)
          simp only [pm_vl_s] at z2
          rw [nx, e1]
          cases D <;> simp only [pm_vl_n, pm_vl_s] <;> (first | rw [pb_248_114] | rw [pb_248_114b]) <;> simp only [e80, hi, if_false, pb_248_125, pb_248_125b, i1, true_and, r1 _ 141 (by decide), c1, if_true, pb_248_136, pb_248_136b, nz, not_false_eq_true, r1 _ 140 (by decide), r139, pm_u_r, pb_248_168b] <;> exact z2
        · have e1 : pf_rp1 (I 141) (I 140) k coin all z q = z := if_neg c1
          have z2 := ih (q + 1) z D e4 (by omega)
          rw [nx, e1]
          cases D <;> simp only [pm_vl_n, pm_vl_s] at z2 ⊢ <;> (first | rw [pb_248_114] | rw [pb_248_114b]) <;> simp only [e80, hi, if_false, pb_248_125, pb_248_125b, i1, true_and, r1 _ 141 (by decide), c1, pb_248_168, pb_248_168b] <;> exact z2
    rw [pb_248_111]
    exact (parts n.toNatClampNeg 0 (g, coin) none (Int32.le_refl 0) (by simp)).mpr hQ
  · have es : pf_rs (I 141) (I 140) (I 102) n (g, coin) k = (pf_ra (I 141) (I 140) n k g, coin - pf_rw (I 141) (I 140) n k) := if_neg hc
    rw [es] at hQ
    rw [if_neg hc, pb_248_55]
    generalize pf_rw (I 141) (I 140) n k = all at hQ ⊢
    have key := pm_for (A := fun (g : Nat → Int32) q => pm_wp pm_code pm_meta d 248 58 ([.ref 79, .int k, .int coin, .int all, .int coin, .int q, pm_unset], [], (pm_Gb L b, pm_r I 139 g, J)) Q) (E := fun g => Q (coin - all) 0 (pm_Gb L b, pm_r I 139 g, J)) (f := fun (g : Nat → Int32) (q : Int32) => pm_w g q.toNatClampNeg (g q.toNatClampNeg + (if I 141 q.toNatClampNeg = k then I 140 q.toNatClampNeg else 0))) n0 nl (fun g q h0 => ?_) g
    · exact key.mpr hQ
    · rw [pb_248_58, e80]
      by_cases hi : n ≤ q
      · simp only [hi, if_true, pb_248_107]
      · have i1 := pi_in24 n24 h0 (Int32.not_le.mp hi)
        by_cases c1 : I 141 q.toNatClampNeg = k
        · simp only [hi, if_false, pb_248_69, i1, true_and, r1 _ 141 (by decide), r1 _ 140 (by decide), r139, c1, if_true, pb_248_88, pb_248_99, pm_u_r]
        · simp only [hi, if_false, pb_248_69, i1, true_and, r1 _ 141 (by decide), r139, c1, pb_248_98, pb_248_99, pm_u_r]
theorem pi_10lt {i : Int32} : (9 < i) = (10 ≤ i) := by
  rw [pi_lt, pi_le, eq_iff_iff, show (9 : Int32).toInt = 9 from rfl, show (10 : Int32).toInt = 10 from rfl]; omega
theorem pr_ranks {g : Nat → Int32} {x1 coin : Int32} (en : I 80 4 = n) (n0 : 0 ≤ n) (n24 : n ≤ 24) (hz : ∀ j, j < 10 → (pf_it (pf_rs (I 141) (I 140) (I 102) n) (g, coin) j).2 < pf_rw (I 141) (I 140) n (Int32.ofNat j) → ¬ pf_rw (I 141) (I 140) n (Int32.ofNat j) = 0)
    (hQ : Q 0 0 (pm_Gb L b, pm_r I 139 (pf_it (pf_rs (I 141) (I 140) (I 102) n) (g, coin) 10).1, J)) : pm_wp pm_code pm_meta (d + 1) 247 146 ([.ref 79, .int x1, .int coin, .int 0], [], (pm_Gb L b, pm_r I 139 g, J)) Q := by
  have key : ∀ (m j : Nat), j + m = 10 → pm_wp pm_code pm_meta (d + 1) 247 146 ([.ref 79, .int x1, .int (pf_it (pf_rs (I 141) (I 140) (I 102) n) (g, coin) j).2, .int (Int32.ofNat j)], [], (pm_Gb L b, pm_r I 139 (pf_it (pf_rs (I 141) (I 140) (I 102) n) (g, coin) j).1, J)) Q := by
    intro m
    induction m with
    | zero =>
      intro j hj
      have : j = 10 := by omega
      subst this
      rw [pb_247_146, if_pos (by decide), pb_247_165]
      exact hQ
    | succ m ih =>
      intro j hj
      have p := pi_on (j := j) (by omega)
      have h10 : ¬ (10 : Int32) ≤ Int32.ofNat j := by rw [pi_le, p.2.2, show (10 : Int32).toInt = 10 from rfl]; omega
      rw [pb_247_146, if_neg h10, pb_247_152]
      refine pr_paysRank en n0 n24 (hz j (by omega)) ?_
      rw [pb_247_158, pi_onadd (by omega)]
      exact ih (j + 1) (by omega)
  exact key 10 0 (by omega)
theorem px_ranks {s : Nat → Int32} {x1 coin : Int32} (ht : pm_ti (I 38) 3 24) (hc : I 38 3 = n) (hz : ∀ j, j < 10 → (pf_it (pf_xs n) (s, coin) j).2 < pf_xw n (Int32.ofNat j) (pf_it (pf_xs n) (s, coin) j).1 → 0 < pf_xw n (Int32.ofNat j) (pf_it (pf_xs n) (s, coin) j).1)
    (hQ : ∀ D, pm_wp pm_code pm_meta (d + 3) 1 67 ([.ref 37, .int x1, .int (pf_it (pf_xs n) (s, coin) 10).2, .int 10, .int D], [], (pm_Gb L b, pm_r I 39 (pf_it (pf_xs n) (s, coin) 10).1, J)) Q) : pm_wp pm_code pm_meta (d + 3) 1 19 ([.ref 37, .int x1, .int coin, .int 0, pm_unset], [], (pm_Gb L b, pm_r I 39 s, J)) Q := by
  have key : ∀ (m j : Nat) (D : Option Int32), j + m = 10 → (j = 0 ∨ ∃ v, D = some v) → pm_wp pm_code pm_meta (d + 3) 1 19 ([.ref 37, .int x1, .int (pf_it (pf_xs n) (s, coin) j).2, .int (Int32.ofNat j), pm_vl D], [], (pm_Gb L b, pm_r I 39 (pf_it (pf_xs n) (s, coin) j).1, J)) Q := by
    intro m
    induction m with
    | zero =>
      intro j D hj hD
      have : j = 10 := by omega
      subst this
      obtain ⟨v, e⟩ := hD.resolve_left (by decide)
      subst e
      simp only [pm_vl_s]
      rw [pb_1_19b, if_pos (by decide)]
      exact hQ v
    | succ m ih =>
      intro j D hj _
      have p := pi_on (j := j) (by omega)
      have h10 : ¬ (9 : Int32) < Int32.ofNat j := by rw [pi_lt, p.2.2, show (9 : Int32).toInt = 9 from rfl]; omega
      have z0 := hz j (by omega)
      have nx : pf_it (pf_xs n) (s, coin) (j + 1) = pf_xs n (pf_it (pf_xs n) (s, coin) j) (Int32.ofNat j) := rfl
      have z1 := fun v => ih (j + 1) (some v) (by omega) (Or.inr ⟨v, rfl⟩)
      rw [nx] at z1
      generalize pf_it (pf_xs n) (s, coin) j = z at z0 z1 ⊢
      by_cases c : z.2 < pf_xw n (Int32.ofNat j) z.1
      · have es : pf_xs n z (Int32.ofNat j) = ((pf_xl n (Int32.ofNat j) (pf_xp n (Int32.ofNat j) z.2 (pf_xw n (Int32.ofNat j) z.1) z.1)).1, 0) := if_pos c
        rw [es] at z1
        have z2 := z1 (pf_xw n (Int32.ofNat j) z.1)
        simp only [pm_vl_s] at z2
        cases D <;> simp only [pm_vl_n, pm_vl_s] <;> (first | rw [pb_1_19, if_neg h10, pb_1_25] | rw [pb_1_19b, if_neg h10, pb_1_25b]) <;> rw [px_wanted (d := d + 1) ht hc] <;> (first | rw [pb_1_30] | rw [pb_1_30b]) <;> rw [if_pos c, pb_1_51, px_payParts (d := d) ht hc (z0 c), pb_1_59, pb_1_61, pi_onadd (by omega)] <;> exact z2
      · have es : pf_xs n z (Int32.ofNat j) = (pf_xa n (Int32.ofNat j) z.1, z.2 - pf_xw n (Int32.ofNat j) z.1) := if_neg c
        rw [es] at z1
        have z2 := z1 (pf_xw n (Int32.ofNat j) z.1)
        simp only [pm_vl_s] at z2
        cases D <;> simp only [pm_vl_n, pm_vl_s] <;> (first | rw [pb_1_19, if_neg h10, pb_1_25] | rw [pb_1_19b, if_neg h10, pb_1_25b]) <;> rw [px_wanted (d := d + 1) ht hc] <;> (first | rw [pb_1_30] | rw [pb_1_30b]) <;> rw [if_neg c, pb_1_38, px_payAll (d := d) ht hc, pb_1_43, pb_1_61, pi_onadd (by omega)] <;> exact z2
  have z := key 10 0 none (by omega) (Or.inl rfl)
  simp only [pm_vl_n] at z
  exact z
end

