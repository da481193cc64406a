/-! What goes to the debts: class and reference alike. -/
theorem pi_mulb {a c : Int32} (h0 : 0 ≤ a.toInt * c.toInt) (h1 : a.toInt * c.toInt < 2147483648) : (a * c).toInt = a.toInt * c.toInt := by
  rw [Int32.toInt_mul]
  exact Int.bmod_eq_of_le (by omega) (by omega)
theorem pi_divb {a c : Int32} (h0 : 0 ≤ a.toInt) (h1 : 0 < c.toInt) : (a / c).toInt = a.toInt / c.toInt := by
  rw [Int32.toInt_div, Int.tdiv_eq_ediv_of_nonneg h0]
  have h2 : 0 ≤ a.toInt / c.toInt := Int.ediv_nonneg h0 (by omega)
  have h3 : a.toInt / c.toInt ≤ a.toInt := Int.ediv_le_self _ h0
  have := pi_hi a
  exact Int.bmod_eq_of_le (by omega) (by omega)
theorem part_rng {c w all : Int32} (w0 : 0 ≤ w.toInt) (w1 : w.toInt ≤ 999) (c0 : 0 ≤ c.toInt) (c1 : c.toInt < all.toInt) (a1 : all.toInt ≤ 23976) : 0 ≤ (c * w / all).toInt ∧ (c * w / all).toInt ≤ w.toInt := by
  have m0 : 0 ≤ c.toInt * w.toInt := Int.mul_nonneg c0 w0
  have m1 : c.toInt * w.toInt ≤ 23976 * 999 := Int.mul_le_mul (by omega) w1 w0 (by omega)
  have e := pi_mulb m0 (by omega)
  have e2 := pi_divb (a := c * w) (c := all) (by rw [e]; exact m0) (by omega)
  rw [e] at e2
  rw [e2]
  refine ⟨Int.ediv_nonneg m0 (by omega), ?_⟩
  refine Int.ediv_le_of_le_mul (by omega) ?_
  rw [Int.mul_comm]
  exact Int.mul_le_mul_of_nonneg_left (by omega) w0
section
variable {n : Int32} {r w am : Nat → Int32}
theorem rw_rng (n0 : 0 ≤ n) (n24 : n ≤ 24) {k : Int32} (hw : ∀ q : Nat, q < n.toNatClampNeg → r q = k → 0 ≤ (w q).toInt ∧ (w q).toInt ≤ 999) : 0 ≤ (pf_rw r w n k).toInt ∧ (pf_rw r w n k).toInt ≤ 23976 := by
  have nl : n < 2147483647 := pi_ltb (Int32.lt_of_le_of_lt n24 (by decide : (24 : Int32) < 100)) (by decide)
  have e24 := pi_le.mp n24
  rw [show (24 : Int32).toInt = 24 from rfl] at e24
  have z := pm_fd_inv (f := fun (t q : Int32) => t + (if r q.toNatClampNeg = k then w q.toNatClampNeg else 0)) (P := fun t q => 0 ≤ t.toInt ∧ t.toInt ≤ 999 * q.toInt) n0 nl (fun t q hs h0 h1 => by
    have g := hw _ (pi_tnlt h0 h1)
    have a1 := pi_lt.mp h1
    have a0 := pi_le.mp h0
    rw [pi_0] at a0
    have eq : (q + 1).toInt = q.toInt + 1 := by rw [pi_add (by rw [pi_1]; omega) (by rw [pi_1]; omega), pi_1]
    show 0 ≤ (t + (if r q.toNatClampNeg = k then w q.toNatClampNeg else 0)).toInt ∧ (t + (if r q.toNatClampNeg = k then w q.toNatClampNeg else 0)).toInt ≤ 999 * (q + 1).toInt
    by_cases c : r q.toNatClampNeg = k
    · rw [if_pos c, eq]
      have g := g c
      have ea := pi_add (a := t) (b := w q.toNatClampNeg) (by omega) (by omega)
      omega
    · rw [if_neg c, eq, Int32.add_zero]; omega) n.toNatClampNeg 0 0 (by rw [pi_0]; simp) (Int32.le_refl 0) (by simp)
  unfold pf_rw
  have := pi_le.mp n24
  rw [show (24 : Int32).toInt = 24 from rfl] at this
  omega
/-- class and reference before rank k -/
def pf_rel (r w am : Nat → Int32) (n : Int32) (k : Int) (zx zr : (Nat → Int32) × Int32) : Prop := zx.2 = zr.2 ∧ 0 ≤ zx.2.toInt ∧ ∀ q : Nat, q < n.toNatClampNeg →
  zx.1 (3 * q + 0) = r q ∧ zx.1 (3 * q + 2) = zr.1 q ∧ (k ≤ (r q).toInt → zx.1 (3 * q + 1) = w q ∧ 0 ≤ (w q).toInt ∧ (am q).toInt = (zr.1 q).toInt + (w q).toInt ∧ 0 ≤ (zr.1 q).toInt ∧ (am q).toInt ≤ 999)
theorem give_at {s : Nat → Int32} {p q : Nat} {v : Int32} : pf_give s p v (3 * q + 0) = s (3 * q + 0) ∧ pf_give s p v (3 * q + 1) = (if q = p then s (3 * q + 1) - v else s (3 * q + 1)) ∧ pf_give s p v (3 * q + 2) = (if q = p then s (3 * q + 2) + v else s (3 * q + 2)) := by
  unfold pf_give
  refine ⟨by rw [pm_w_ne (by omega), pm_w_ne (by omega)], ?_, ?_⟩
  · rw [pm_w_ne (by omega), pm_w_at]
    by_cases e : q = p
    · subst e; rw [if_pos rfl, if_pos rfl]
    · rw [if_neg (by omega), if_neg e]
  · rw [pm_w_at]
    by_cases e : q = p
    · subst e; rw [if_pos rfl, if_pos rfl]
    · rw [if_neg (by omega), if_neg e, pm_w_ne (by omega)]
theorem rel_step (n0 : 0 ≤ n) (n24 : n ≤ 24) {k : Nat} (k10 : k < 10) {zx zr : (Nat → Int32) × Int32} (h : pf_rel r w am n k zx zr) :
    pf_rel r w am n ((k + 1 : Nat) : Int) (pf_xs n zx (Int32.ofNat k)) (pf_rs r w am n zr (Int32.ofNat k)) ∧ (zx.2 < pf_xw n (Int32.ofNat k) zx.1 → 0 < pf_xw n (Int32.ofNat k) zx.1) ∧ (zr.2 < pf_rw r w n (Int32.ofNat k) → ¬ pf_rw r w n (Int32.ofNat k) = 0) := by
  have nl : n < 2147483647 := pi_ltb (Int32.lt_of_le_of_lt n24 (by decide : (24 : Int32) < 100)) (by decide)
  have pk := pi_on (j := k) (by omega)
  obtain ⟨h1, h2, h3⟩ := h
  have ck : ∀ q : Nat, r q = Int32.ofNat k → (r q).toInt = k := fun q e => by rw [e, pk.2.2]
  have hxw : pf_xw n (Int32.ofNat k) zx.1 = pf_rw r w n (Int32.ofNat k) := by
    unfold pf_xw pf_rw
    refine fo_cg0 n0 nl (fun t q q0 q1 => ?_)
    have g := h3 _ (pi_tnlt q0 q1)
    rw [g.1]
    by_cases c : r q.toNatClampNeg = Int32.ofNat k
    · rw [if_pos c, if_pos c, (g.2.2 (by rw [ck _ c]; exact Int.le_refl _)).1]
    · rw [if_neg c, if_neg c, Int32.add_zero]
  have hrng := rw_rng (r := r) (w := w) n0 n24 (k := Int32.ofNat k) (fun q hq c => by
    have g := (h3 q hq).2.2 (by rw [ck _ c]; exact Int.le_refl _)
    exact ⟨g.2.1, by omega⟩)
  rw [hxw]
  refine ⟨?_, fun c => ?_, fun c e => ?_⟩
  · unfold pf_xs pf_rs
    rw [hxw, h1]
    by_cases c : zr.2 < pf_rw r w n (Int32.ofNat k)
    · rw [if_pos c, if_pos c]
      refine ⟨rfl, Int.le_refl _, ?_⟩
      have c' := pi_lt.mp c
      rw [h1] at h2
      generalize pf_rw r w n (Int32.ofNat k) = all at c' hrng ⊢
      -- the parts
      have hp := fo_rel (f := fun (z : (Nat → Int32) × Int32) (q : Int32) => if z.1 (3 * q.toNatClampNeg + 0) = Int32.ofNat k then (pf_give z.1 q.toNatClampNeg (zr.2 * z.1 (3 * q.toNatClampNeg + 1) / all), z.2 - zr.2 * z.1 (3 * q.toNatClampNeg + 1) / all) else z) (g := pf_rp1 r w (Int32.ofNat k) zr.2 all)
        (R := fun zx zr i => zx.2 = zr.2 ∧ ∀ q : Nat, q < n.toNatClampNeg → zx.1 (3 * q + 0) = r q ∧ zx.1 (3 * q + 2) = zr.1 q ∧ (k ≤ (r q).toInt → 0 ≤ (zx.1 (3 * q + 1)).toInt ∧ 0 ≤ (w q).toInt ∧ (am q).toInt = (zr.1 q).toInt + (zx.1 (3 * q + 1)).toInt ∧ 0 ≤ (zr.1 q).toInt ∧ (am q).toInt ≤ 999 ∧ ((k < (r q).toInt ∨ i.toNatClampNeg ≤ q) → zx.1 (3 * q + 1) = w q)))
        n0 nl (fun z y i i0 i1 hR => by
          obtain ⟨a1, a2⟩ := hR
          have gi := a2 _ (pi_tnlt i0 i1)
          have e5 : (i + 1).toNatClampNeg = i.toNatClampNeg + 1 := pi_tn1 i0 (Int32.lt_trans i1 nl)
          unfold pf_rp1
          rw [gi.1]
          by_cases c1 : r i.toNatClampNeg = Int32.ofNat k
          · rw [if_pos c1, if_pos c1]
            have g := gi.2.2 (by rw [ck _ c1]; exact Int.le_refl _)
            have ew := g.2.2.2.2.2 (Or.inr (Nat.le_refl _))
            have wr : 0 ≤ (w i.toNatClampNeg).toInt ∧ (w i.toNatClampNeg).toInt ≤ 999 := by rw [ew] at g; omega
            have pr := part_rng (c := zr.2) (all := all) wr.1 wr.2 h2 c' hrng.2
            rw [ew, Int32.mul_comm (w i.toNatClampNeg) zr.2]
            generalize zr.2 * w i.toNatClampNeg / all = pt at pr ⊢
            refine ⟨by show z.2 - pt = y.2 - pt; rw [a1], fun q hq => ?_⟩
            have gq := a2 q hq
            have gv := give_at (s := z.1) (p := i.toNatClampNeg) (q := q) (v := pt)
            show pf_give z.1 i.toNatClampNeg pt (3 * q + 0) = r q ∧ pf_give z.1 i.toNatClampNeg pt (3 * q + 2) = pm_w y.1 i.toNatClampNeg (y.1 i.toNatClampNeg + pt) q ∧ (k ≤ (r q).toInt → 0 ≤ (pf_give z.1 i.toNatClampNeg pt (3 * q + 1)).toInt ∧ 0 ≤ (w q).toInt ∧ (am q).toInt = (pm_w y.1 i.toNatClampNeg (y.1 i.toNatClampNeg + pt) q).toInt + (pf_give z.1 i.toNatClampNeg pt (3 * q + 1)).toInt ∧ 0 ≤ (pm_w y.1 i.toNatClampNeg (y.1 i.toNatClampNeg + pt) q).toInt ∧ (am q).toInt ≤ 999 ∧ ((k < (r q).toInt ∨ (i + 1).toNatClampNeg ≤ q) → pf_give z.1 i.toNatClampNeg pt (3 * q + 1) = w q))
            rw [gv.1, gv.2.1, gv.2.2, pm_w_at, e5]
            by_cases eq : q = i.toNatClampNeg
            · subst eq
              simp only [if_true]
              have s1 := pi_sub (a := w i.toNatClampNeg) (b := pt) (by omega) (by omega)
              have s2 := pi_add (a := y.1 i.toNatClampNeg) (b := pt) (by omega) (by rw [ew] at g; omega)
              rw [ew] at g ⊢
              refine ⟨gi.1, by rw [gi.2.1], fun _ => ⟨by rw [s1]; omega, wr.1, by rw [s1, s2]; omega, by rw [s2]; omega, g.2.2.2.2.1, fun hor => ?_⟩⟩
              exfalso
              have := ck _ c1
              omega
            · rw [if_neg eq, if_neg eq, if_neg eq]
              exact ⟨gq.1, gq.2.1, fun hk => ⟨(gq.2.2 hk).1, (gq.2.2 hk).2.1, (gq.2.2 hk).2.2.1, (gq.2.2 hk).2.2.2.1, (gq.2.2 hk).2.2.2.2.1, fun hor => (gq.2.2 hk).2.2.2.2.2 (by omega)⟩⟩
          · rw [if_neg c1, if_neg c1]
            refine ⟨a1, fun q hq => ?_⟩
            have gq := a2 q hq
            refine ⟨gq.1, gq.2.1, fun hk => ⟨(gq.2.2 hk).1, (gq.2.2 hk).2.1, (gq.2.2 hk).2.2.1, (gq.2.2 hk).2.2.2.1, (gq.2.2 hk).2.2.2.2.1, fun hor => (gq.2.2 hk).2.2.2.2.2 (by omega)⟩⟩) n.toNatClampNeg 0 (zx.1, zr.2) (zr.1, zr.2) (Int32.le_refl 0) (by simp) ⟨rfl, fun q hq => by
          have g := h3 q hq
          refine ⟨g.1, g.2.1, fun hk => ?_⟩
          have g2 := g.2.2 hk
          show 0 ≤ (zx.1 (3 * q + 1)).toInt ∧ _
          rw [g2.1]
          exact ⟨g2.2.1, g2.2.1, g2.2.2.1, g2.2.2.2.1, g2.2.2.2.2, fun _ => rfl⟩⟩
      -- what is left
      have hl := fo_rel (f := pf_xl1 (Int32.ofNat k)) (g := pf_rl1 r am (Int32.ofNat k))
        (R := fun zx zr _ => zx.2 = zr.2 ∧ ∀ q : Nat, q < n.toNatClampNeg → zx.1 (3 * q + 0) = r q ∧ zx.1 (3 * q + 2) = zr.1 q ∧ (k ≤ (r q).toInt → 0 ≤ (zx.1 (3 * q + 1)).toInt ∧ 0 ≤ (w q).toInt ∧ (am q).toInt = (zr.1 q).toInt + (zx.1 (3 * q + 1)).toInt ∧ 0 ≤ (zr.1 q).toInt ∧ (am q).toInt ≤ 999 ∧ (k < (r q).toInt → zx.1 (3 * q + 1) = w q)))
        n0 nl (fun z y i i0 i1 hR => by
          obtain ⟨a1, a2⟩ := hR
          have gi := a2 _ (pi_tnlt i0 i1)
          unfold pf_xl1 pf_rl1
          rw [gi.1, a1]
          by_cases c1 : r i.toNatClampNeg = Int32.ofNat k
          · have g := gi.2.2 (by rw [ck _ c1]; exact Int.le_refl _)
            have ez : (z.1 (3 * i.toNatClampNeg + 1) = 0) ↔ (am i.toNatClampNeg ≤ y.1 i.toNatClampNeg) := by
              rw [pi_le]
              constructor
              · intro e
                have : (z.1 (3 * i.toNatClampNeg + 1)).toInt = 0 := by rw [e]; rfl
                omega
              · intro e
                exact Int32.toInt_inj.mp (by rw [pi_0]; omega)
            by_cases c2 : 0 < y.2
            · by_cases c3 : z.1 (3 * i.toNatClampNeg + 1) = 0
              · rw [if_neg (fun q => q.2.2 c3), if_neg (fun q => q.2.2 (ez.mp c3))]
                exact ⟨a1, a2⟩
              · rw [if_pos ⟨c2, c1, c3⟩, if_pos ⟨c2, c1, fun q => c3 (ez.mpr q)⟩]
                have nz : 0 < (z.1 (3 * i.toNatClampNeg + 1)).toInt := by
                  have : ¬ (z.1 (3 * i.toNatClampNeg + 1)).toInt = 0 := fun e => c3 (Int32.toInt_inj.mp (by rw [pi_0]; exact e))
                  omega
                refine ⟨rfl, fun q hq => ?_⟩
                have gq := a2 q hq
                have gv := give_at (s := z.1) (p := i.toNatClampNeg) (q := q) (v := 1)
                show pf_give z.1 i.toNatClampNeg 1 (3 * q + 0) = r q ∧ pf_give z.1 i.toNatClampNeg 1 (3 * q + 2) = pm_w y.1 i.toNatClampNeg (y.1 i.toNatClampNeg + 1) q ∧ (k ≤ (r q).toInt → 0 ≤ (pf_give z.1 i.toNatClampNeg 1 (3 * q + 1)).toInt ∧ 0 ≤ (w q).toInt ∧ (am q).toInt = (pm_w y.1 i.toNatClampNeg (y.1 i.toNatClampNeg + 1) q).toInt + (pf_give z.1 i.toNatClampNeg 1 (3 * q + 1)).toInt ∧ 0 ≤ (pm_w y.1 i.toNatClampNeg (y.1 i.toNatClampNeg + 1) q).toInt ∧ (am q).toInt ≤ 999 ∧ (k < (r q).toInt → pf_give z.1 i.toNatClampNeg 1 (3 * q + 1) = w q))
                rw [gv.1, gv.2.1, gv.2.2, pm_w_at]
                by_cases eq : q = i.toNatClampNeg
                · subst eq
                  simp only [if_true]
                  have s1 := pi_sub (a := z.1 (3 * i.toNatClampNeg + 1)) (b := 1) (by rw [pi_1]; omega) (by rw [pi_1]; omega)
                  have s2 := pi_add (a := y.1 i.toNatClampNeg) (b := 1) (by rw [pi_1]; omega) (by rw [pi_1]; omega)
                  rw [pi_1] at s1 s2
                  refine ⟨gi.1, by rw [gi.2.1], fun _ => ⟨by rw [s1]; omega, g.2.1, by rw [s1, s2]; omega, by rw [s2]; omega, g.2.2.2.2.1, fun hor => ?_⟩⟩
                  exfalso
                  have := ck _ c1
                  omega
                · rw [if_neg eq, if_neg eq, if_neg eq]
                  exact gq
            · rw [if_neg (fun q => c2 q.1), if_neg (fun q => c2 q.1)]
              exact ⟨a1, a2⟩
          · rw [if_neg (fun q => c1 q.2.1), if_neg (fun q => c1 q.2.1)]
            exact ⟨a1, a2⟩) n.toNatClampNeg 0 _ _ (Int32.le_refl 0) (by simp) ⟨hp.1, fun q hq => by
          have g := hp.2 q hq
          exact ⟨g.1, g.2.1, fun hk => ⟨(g.2.2 hk).1, (g.2.2 hk).2.1, (g.2.2 hk).2.2.1, (g.2.2 hk).2.2.2.1, (g.2.2 hk).2.2.2.2.1, fun hor => (g.2.2 hk).2.2.2.2.2 (Or.inl hor)⟩⟩⟩
      intro q hq
      have g := hl.2 q hq
      refine ⟨g.1, g.2.1, fun hk => ?_⟩
      have g2 := g.2.2 (by omega)
      have e1 := g2.2.2.2.2.2 (by omega)
      refine ⟨e1, g2.2.1, ?_, g2.2.2.2.1, g2.2.2.2.2.1⟩
      have := g2.2.2.1
      rw [e1] at this
      exact this
    · rw [if_neg c, if_neg c]
      have c' := pi_le.mp (Int32.not_lt.mp c)
      rw [h1] at h2
      have sb := pi_sub (a := zr.2) (b := pf_rw r w n (Int32.ofNat k)) (by omega) (by have := pi_hi zr.2; omega)
      refine ⟨rfl, by show 0 ≤ (zr.2 - pf_rw r w n (Int32.ofNat k)).toInt; rw [sb]; omega, ?_⟩
      have ha := fo_rel (f := fun (s : Nat → Int32) (q : Int32) => if s (3 * q.toNatClampNeg + 0) = Int32.ofNat k then pf_give s q.toNatClampNeg (s (3 * q.toNatClampNeg + 1)) else s) (g := fun (g : Nat → Int32) (q : Int32) => pm_w g q.toNatClampNeg (g q.toNatClampNeg + (if r q.toNatClampNeg = Int32.ofNat k then w q.toNatClampNeg else 0)))
        (R := fun s g i => ∀ q : Nat, q < n.toNatClampNeg → s (3 * q + 0) = r q ∧ s (3 * q + 2) = g q ∧ (k ≤ (r q).toInt → (k < (r q).toInt ∨ i.toNatClampNeg ≤ q) → s (3 * q + 1) = w q ∧ 0 ≤ (w q).toInt ∧ (am q).toInt = (g q).toInt + (w q).toInt ∧ 0 ≤ (g q).toInt ∧ (am q).toInt ≤ 999))
        n0 nl (fun s g i i0 i1 hR => by
          have gi := hR _ (pi_tnlt i0 i1)
          have e5 : (i + 1).toNatClampNeg = i.toNatClampNeg + 1 := pi_tn1 i0 (Int32.lt_trans i1 nl)
          intro q hq
          have gq := hR q hq
          show (if s (3 * i.toNatClampNeg + 0) = Int32.ofNat k then pf_give s i.toNatClampNeg (s (3 * i.toNatClampNeg + 1)) else s) (3 * q + 0) = r q ∧ (if s (3 * i.toNatClampNeg + 0) = Int32.ofNat k then pf_give s i.toNatClampNeg (s (3 * i.toNatClampNeg + 1)) else s) (3 * q + 2) = pm_w g i.toNatClampNeg (g i.toNatClampNeg + (if r i.toNatClampNeg = Int32.ofNat k then w i.toNatClampNeg else 0)) q ∧ (k ≤ (r q).toInt → (k < (r q).toInt ∨ (i + 1).toNatClampNeg ≤ q) → (if s (3 * i.toNatClampNeg + 0) = Int32.ofNat k then pf_give s i.toNatClampNeg (s (3 * i.toNatClampNeg + 1)) else s) (3 * q + 1) = w q ∧ 0 ≤ (w q).toInt ∧ (am q).toInt = (pm_w g i.toNatClampNeg (g i.toNatClampNeg + (if r i.toNatClampNeg = Int32.ofNat k then w i.toNatClampNeg else 0)) q).toInt + (w q).toInt ∧ 0 ≤ (pm_w g i.toNatClampNeg (g i.toNatClampNeg + (if r i.toNatClampNeg = Int32.ofNat k then w i.toNatClampNeg else 0)) q).toInt ∧ (am q).toInt ≤ 999)
          rw [gi.1, e5, pm_w_at]
          by_cases c1 : r i.toNatClampNeg = Int32.ofNat k
          · have gv := give_at (s := s) (p := i.toNatClampNeg) (q := q) (v := s (3 * i.toNatClampNeg + 1))
            rw [if_pos c1, if_pos c1, gv.1, gv.2.1, gv.2.2]
            by_cases eq : q = i.toNatClampNeg
            · subst eq
              simp only [if_true]
              have gg := gi.2.2 (by rw [ck _ c1]; exact Int.le_refl _) (Or.inr (Nat.le_refl _))
              refine ⟨gi.1, by rw [gi.2.1, gg.1], fun _ hor => ?_⟩
              exfalso
              have := ck _ c1
              omega
            · rw [if_neg eq, if_neg eq, if_neg eq]
              exact ⟨gq.1, gq.2.1, fun hk hor => gq.2.2 hk (by omega)⟩
          · rw [if_neg c1, if_neg c1, Int32.add_zero]
            by_cases eq : q = i.toNatClampNeg
            · subst eq
              rw [if_pos rfl]
              exact ⟨gq.1, gq.2.1, fun hk hor => gq.2.2 hk (by omega)⟩
            · rw [if_neg eq]
              exact ⟨gq.1, gq.2.1, fun hk hor => gq.2.2 hk (by omega)⟩) n.toNatClampNeg 0 zx.1 zr.1 (Int32.le_refl 0) (by simp) (fun q hq => ⟨(h3 q hq).1, (h3 q hq).2.1, fun hk _ => (h3 q hq).2.2 hk⟩)
      intro q hq
      have g := ha q hq
      exact ⟨g.1, g.2.1, fun hk => g.2.2 (by omega) (Or.inl (by omega))⟩
  · have c' := pi_lt.mp c
    rw [pi_lt, pi_0]; omega
  · have c' := pi_lt.mp c
    rw [h1] at h2
    rw [e, pi_0] at c'
    omega
theorem rel_all (n0 : 0 ≤ n) (n24 : n ≤ 24) {zx zr : (Nat → Int32) × Int32} (h : pf_rel r w am n 0 zx zr) : ∀ k : Nat, k ≤ 10 → pf_rel r w am n (k : Int) (pf_it (pf_xs n) zx k) (pf_it (pf_rs r w am n) zr k)
  | 0, _ => h
  | k + 1, hk => (rel_step n0 n24 (by omega) (rel_all n0 n24 h k (by omega))).1
end

