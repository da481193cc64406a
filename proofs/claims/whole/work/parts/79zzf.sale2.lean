/-! THE CALL sale: the class's search. -/
theorem on_le {a c : Nat} (ha : a < 67108864) (hc : c < 67108864) : (Int32.ofNat a ≤ Int32.ofNat c) = (a ≤ c) := by
  have e1 : (Int32.ofNat a).toInt = a := Int32.toInt_ofNat_of_lt (by omega)
  have e2 : (Int32.ofNat c).toInt = c := Int32.toInt_ofNat_of_lt (by omega)
  rw [pi_le, e1, e2]
  exact propext ⟨fun h => by omega, fun h => by omega⟩
theorem on_lt {a c : Nat} (ha : a < 67108864) (hc : c < 67108864) : (Int32.ofNat a < Int32.ofNat c) = (a < c) := by
  have e1 : (Int32.ofNat a).toInt = a := Int32.toInt_ofNat_of_lt (by omega)
  have e2 : (Int32.ofNat c).toInt = c := Int32.toInt_ofNat_of_lt (by omega)
  rw [pi_lt, e1, e2]
  exact propext ⟨fun h => by omega, fun h => by omega⟩
theorem on_eq {a c : Nat} (ha : a < 67108864) (hc : c < 67108864) : (Int32.ofNat a = Int32.ofNat c) = (a = c) := propext ⟨hb_inj ha hc, fun h => by rw [h]⟩
theorem on_min {a c : Nat} (ha : a < 67108864) (hc : c < 67108864) : (if Int32.ofNat c < Int32.ofNat a then Int32.ofNat c else Int32.ofNat a) = Int32.ofNat (min a c) := by
  by_cases h : c < a
  · rw [if_pos (by rw [on_lt hc ha]; exact h), Nat.min_eq_right (by omega)]
  · rw [if_neg (by rw [on_lt hc ha]; exact h), Nat.min_eq_left (by omega)]
/-- a row as small numbers -/
def ps_n (m : Nat) (f : Nat → Int32) (k : Nat) : Nat := min m (f k).toNatClampNeg
theorem ps_n_le {m : Nat} {f : Nat → Int32} : ∀ k, ps_n m f k ≤ m := fun k => Nat.min_le_left _ _
theorem ps_n_at {m : Nat} {f : Nat → Int32} {k : Nat} {v : Int32} (h0 : 0 ≤ f k) (h1 : f k ≤ v) (hv : v.toInt = m) : Int32.ofNat (ps_n m f k) = f k := by
  have a := pi_le.mp h1
  have e := pi_tni h0
  unfold ps_n
  rw [Nat.min_eq_right (by omega), pi_ofNat h0]
def ps_dgo (B lot p j : Nat) : Int32 := if ps_dg (B + 1) lot p j = B then -9 else Int32.ofNat (ps_dg (B + 1) lot p j)
/-- the best so far -/
def ps_st (L B : Nat) (r57 r63 : Nat → Int32) : Option (Nat × Nat × Nat) → Prop
  | none => r57 7 = 0
  | some q => r57 7 = 1 ∧ r57 5 = Int32.ofNat q.1 ∧ r57 6 = Int32.ofNat q.2.1 ∧ q.1 ≤ 3 ∧ q.2.1 ≤ 900 ∧ ∀ j, j < L → r63 j = ps_dgo B L q.2.2 j
def ps_xs (L B : Nat) (pr : Nat → Nat) (I : Nat → Nat → Int32) (lot p : Nat) (st : Option (Nat × Nat × Nat)) : Prop :=
  (∀ c, c < B → I 59 c = Int32.ofNat (ps_ld (B + 1) pr lot p c)) ∧ (∀ j, j < lot → I 61 j = ps_dgo B lot p j) ∧ ps_st L B (I 57) (I 63) st
/-- what the search leaves alone -/
def ps_fr (I0 I : Nat → Nat → Int32) : Prop := (∀ k, ¬ k = 57 → ¬ k = 59 → ¬ k = 61 → ¬ k = 62 → ¬ k = 63 → I k = I0 k) ∧ (∀ j, ¬ j = 5 → ¬ j = 6 → ¬ j = 7 → I 57 j = I0 57 j) ∧ pm_ti (I 62) 1 7 ∧ (¬ I 57 7 = 0 → I 62 3 = 7)
theorem px_better {d L : Nat} {b : Bool} {I : Nat → Nat → Int32} {J : Nat → Nat → Int64} {NL B gN f c : Nat} {st : Option (Nat × Nat × Nat)} {Q : Int32 → Int64 → pm_H → Prop} (hg : I 57 4 = Int32.ofNat gN) (g9 : gN ≤ 900) (hst : ps_st NL B (I 57) (I 63) st) (hf : f ≤ 3) (hc : c ≤ 5000) : pm_wc pm_code pm_meta d 78 [.ref 57, .int (Int32.ofNat f), .int (Int32.ofNat c)] (pm_Gb L b, I, J) Q ↔ Q (bif ps_cb gN st f c then 1 else 0) 0 (pm_Gb L b, I, J) := by
  by_cases g : gN ≤ c
  · rw [pb_78_0, hg, if_pos (by rw [on_le (by omega) (by omega)]; exact g), pb_78_10]
    rcases st with _ | ⟨f0, c0, w0⟩
    · have h7 : I 57 7 = 0 := hst
      have e : ps_cb gN none f c = true := by simp [ps_cb, g]
      rw [if_pos h7, pb_78_25, e]; rfl
    · obtain ⟨h7, h5, h6, b1, b2, _⟩ := hst
      have n7 : ¬ I 57 7 = 0 := by rw [h7]; decide
      have h5' : I 57 5 = Int32.ofNat f0 := h5
      have h6' : I 57 6 = Int32.ofNat c0 := h6
      have b1' : f0 ≤ 3 := b1
      have b2' : c0 ≤ 900 := b2
      rw [if_neg n7, pb_78_17, h5']
      by_cases c1 : f0 ≤ f
      · rw [if_pos (by rw [on_le (by omega) (by omega)]; exact c1), pb_78_27, h5']
        by_cases c2 : f = f0
        · rw [if_pos (by rw [c2]), pb_78_35, h6']
          by_cases c3 : c ≤ c0
          · have e : ps_cb gN (some (f0, c0, w0)) f c = false := by simp [ps_cb, g]; omega
            rw [if_pos (by rw [on_le (by omega) (by omega)]; exact c3), pb_78_47, pb_78_48, e]
            exact ⟨fun h => h.2, fun h => ⟨by decide, h⟩⟩
          · have e : ps_cb gN (some (f0, c0, w0)) f c = true := by simp [ps_cb, g]; omega
            rw [if_neg (by rw [on_le (by omega) (by omega)]; exact c3), pb_78_43, pb_78_48, e]
            exact ⟨fun h => h.2, fun h => ⟨by decide, h⟩⟩
        · have e : ps_cb gN (some (f0, c0, w0)) f c = false := by simp [ps_cb, g]; omega
          rw [if_neg (by rw [on_eq (by omega) (by omega)]; exact c2), pb_78_47, pb_78_48, e]
          exact ⟨fun h => h.2, fun h => ⟨by decide, h⟩⟩
      · have e : ps_cb gN (some (f0, c0, w0)) f c = true := by simp [ps_cb, g]; omega
        rw [if_neg (by rw [on_le (by omega) (by omega)]; exact c1), pb_78_25, e]; rfl
  · have e : ps_cb gN st f c = false := by simp [ps_cb, g]
    rw [pb_78_0, hg, if_neg (by rw [on_le (by omega) (by omega)]; exact g), pb_78_8, e]; rfl
theorem ps_dgo_c {B lot p c j : Nat} (hc : c < B + 1) (hj : j < lot) : ps_dgo B (lot + 1) (p * (B + 1) + c) j = ps_dgo B lot p j := by
  unfold ps_dgo
  rw [ps_dg_c hc hj]
theorem ps_dgo_l {B lot p c : Nat} (hc : c < B + 1) : ps_dgo B (lot + 1) (p * (B + 1) + c) lot = if c = B then -9 else Int32.ofNat c := by
  unfold ps_dgo
  rw [ps_dg_l hc]
/-- from a child back to its place -/
theorem ps_back {L B : Nat} {pr : Nat → Nat} {I I' : Nat → Nat → Int32} {lot p c : Nat} {st : Option (Nat × Nat × Nat)} (hc : c < B + 1) (h : ps_xs L B pr I (lot + 1) (p * (B + 1) + c) st)
    (h57 : I' 57 = I 57) (h61 : I' 61 = I 61) (h63 : I' 63 = I 63) (h59 : ∀ k, k < B → I' 59 k = if k = c then Int32.ofNat (ps_ld (B + 1) pr lot p c) else I 59 k) : ps_xs L B pr I' lot p st := by
  refine ⟨fun k hk => ?_, fun j hj => ?_, ?_⟩
  · rw [h59 k hk]
    by_cases e : k = c
    · rw [if_pos e, e]
    · rw [if_neg e, h.1 k hk, ps_ld_c hc, if_neg (fun q => e q.symm), Nat.add_zero]
  · rw [h61, h.2.1 j (by omega), ps_dgo_c hc hj]
  · rw [h57, h63]; exact h.2.2
/-- from a place to its child -/
theorem ps_down {L B : Nat} {pr : Nat → Nat} {I I' : Nat → Nat → Int32} {lot p c : Nat} {st : Option (Nat × Nat × Nat)} (hc : c < B + 1) (h : ps_xs L B pr I lot p st)
    (h57 : I' 57 = I 57) (h63 : I' 63 = I 63) (h61 : ∀ j, I' 61 j = if j = lot then (if c = B then -9 else Int32.ofNat c) else I 61 j) (h59 : ∀ k, k < B → I' 59 k = if k = c then Int32.ofNat (ps_ld (B + 1) pr lot p c + pr lot) else I 59 k) : ps_xs L B pr I' (lot + 1) (p * (B + 1) + c) st := by
  refine ⟨fun k hk => ?_, fun j hj => ?_, ?_⟩
  · rw [h59 k hk, ps_ld_c hc]
    by_cases e : k = c
    · rw [if_pos e, e, if_pos rfl]
    · rw [if_neg e, h.1 k hk, if_neg (fun q => e q.symm)]; rfl
  · rw [h61]
    by_cases e : j = lot
    · rw [if_pos e, e, ps_dgo_l hc]
    · rw [if_neg e, h.2.1 j (by omega), ps_dgo_c hc (by omega)]
  · rw [h57, h63]; exact h.2.2
theorem px_tryAll {L : Nat} {b : Bool} {J : Nat → Nat → Int64} {I0 : Nat → Nat → Int32} {gN : Nat} {nL nB : Int32} {price coin : Nat → Int32} (hl : pg_lot (I0 30) (I0 31) nL price) (hb : pg_buy (I0 32) (I0 33) nB coin)
    (t58 : pm_ti (I0 58) 1 3) (c58 : I0 58 3 = 3) (t60 : pm_ti (I0 60) 1 7) (c60 : I0 60 3 = 7) (hg : I0 57 4 = Int32.ofNat gN) (g9 : gN ≤ 900) :
    ∀ (m lot p D : Nat) (I : Nat → Nat → Int32) (st : Option (Nat × Nat × Nat)) (Q : Int32 → Int64 → pm_H → Prop), m ≤ D → lot + m = nL.toNatClampNeg → ps_fr I0 I → ps_xs nL.toNatClampNeg nB.toNatClampNeg (ps_n 99 price) I lot p st →
      (∀ I', ps_fr I0 I' → ps_xs nL.toNatClampNeg nB.toNatClampNeg (ps_n 99 price) I' lot p (ps_T gN (nB.toNatClampNeg + 1) nB.toNatClampNeg (ps_n 99 price) (ps_n 300 coin) m lot p st) → Q 0 0 (pm_Gb L b, I', J)) →
      pm_wc pm_code pm_meta (D + 1) 77 [.ref 57, .int (Int32.ofNat lot), .int (Int32.ofNat (ps_fl (ps_n 300 coin) (ps_ld (nB.toNatClampNeg + 1) (ps_n 99 price) lot p) nB.toNatClampNeg)), .int (Int32.ofNat (ps_cm (ps_n 300 coin) (ps_ld (nB.toNatClampNeg + 1) (ps_n 99 price) lot p) nB.toNatClampNeg)), .int (Int32.ofNat (ps_rest (ps_n 99 price) m lot))] (pm_Gb L b, I, J) Q := by
  have nL0 : 0 ≤ nL := by have := hl.1.2 ▸ hl.1.1.2.2.1; exact this
  have nL7 : nL ≤ 7 := by have := hl.1.2 ▸ hl.1.1.2.2.2; exact this
  have nB0 : 0 ≤ nB := by have := hb.1.2 ▸ hb.1.1.2.2.1; exact this
  have nB3 : nB ≤ 3 := by have := hb.1.2 ▸ hb.1.1.2.2.2; exact this
  have l1 := pi_tni nL0
  have l2 := pi_le.mp nL7
  have b1 := pi_tni nB0
  have b2 := pi_le.mp nB3
  have e7 : (7 : Int32).toInt = 7 := rfl
  have e3 : (3 : Int32).toInt = 3 := rfl
  have eL : Int32.ofNat nL.toNatClampNeg = nL := pi_ofNat nL0
  have eB : Int32.ofNat nB.toNatClampNeg = nB := pi_ofNat nB0
  have pr9 : ∀ k, (ps_n 99 price) k ≤ 99 := ps_n_le
  have co9 : ∀ k, (ps_n 300 coin) k ≤ 300 := ps_n_le
  have prat : ∀ k, k < nL.toNatClampNeg → Int32.ofNat ((ps_n 99 price) k) = price k := fun k hk => by
    have z := (hl.2 k hk).2
    exact ps_n_at (Int32.le_trans (by decide) z.1) z.2 rfl
  have coat : ∀ k, k < nB.toNatClampNeg → Int32.ofNat ((ps_n 300 coin) k) = coin k := fun k hk => by
    have z := (hb.2 k hk).2
    exact ps_n_at z.1 z.2 rfl
  have fbd : ∀ l p, (ps_fl (ps_n 300 coin) (ps_ld (nB.toNatClampNeg + 1) (ps_n 99 price) l p) nB.toNatClampNeg) ≤ 3 := fun l p => by have := ps_fl_bd (co := (ps_n 300 coin)) (s := (ps_ld (nB.toNatClampNeg + 1) (ps_n 99 price) l p)) nB.toNatClampNeg; omega
  have cbd : ∀ l p, (ps_cm (ps_n 300 coin) (ps_ld (nB.toNatClampNeg + 1) (ps_n 99 price) l p) nB.toNatClampNeg) ≤ 900 := fun l p => by have := ps_cm_bd (s := (ps_ld (nB.toNatClampNeg + 1) (ps_n 99 price) l p)) co9 nB.toNatClampNeg; omega
  intro m
  induction m with
  | zero =>
    intro lot p D I st Q hD hlot fr xs hQ
    have ea := hb_add (ps_cm (ps_n 300 coin) (ps_ld (nB.toNatClampNeg + 1) (ps_n 99 price) lot p) nB.toNatClampNeg) (ps_rest (ps_n 99 price) 0 lot) (by have := cbd lot p; omega) (by have := ps_rest_bd pr9 0 lot; omega)
    have hg' : I 57 4 = Int32.ofNat gN := (fr.2.1 4 (by decide) (by decide) (by decide)).trans hg
    rw [pb_77_0, ea, px_better (c := (ps_cm (ps_n 300 coin) (ps_ld (nB.toNatClampNeg + 1) (ps_n 99 price) lot p) nB.toNatClampNeg) + ps_rest (ps_n 99 price) 0 lot) hg' g9 xs.2.2 (fbd lot p) (by have := cbd lot p; have := ps_rest_bd pr9 0 lot; omega), pb_77_9]
    by_cases c : ps_cb gN st (ps_fl (ps_n 300 coin) (ps_ld (nB.toNatClampNeg + 1) (ps_n 99 price) lot p) nB.toNatClampNeg) ((ps_cm (ps_n 300 coin) (ps_ld (nB.toNatClampNeg + 1) (ps_n 99 price) lot p) nB.toNatClampNeg) + ps_rest (ps_n 99 price) 0 lot) = true
    · have n30 : ¬ Int32.ofNat lot < I 30 3 := by
        rw [fr.1 30 (by decide) (by decide) (by decide) (by decide) (by decide), hl.1.2, show lot = nL.toNatClampNeg by omega, eL]
        exact fun h => Int32.lt_irrefl h
      have r62 : pm_u (pm_u (pm_u I 57 7 1) 57 5 (Int32.ofNat (ps_fl (ps_n 300 coin) (ps_ld (nB.toNatClampNeg + 1) (ps_n 99 price) lot p) nB.toNatClampNeg))) 57 6 (Int32.ofNat (ps_cm (ps_n 300 coin) (ps_ld (nB.toNatClampNeg + 1) (ps_n 99 price) lot p) nB.toNatClampNeg)) 62 = I 62 := by simp only [pm_u_row, show ¬ (62 : Nat) = 57 by decide, if_false]
      have r60 : pm_u (pm_u (pm_u I 57 7 1) 57 5 (Int32.ofNat (ps_fl (ps_n 300 coin) (ps_ld (nB.toNatClampNeg + 1) (ps_n 99 price) lot p) nB.toNatClampNeg))) 57 6 (Int32.ofNat (ps_cm (ps_n 300 coin) (ps_ld (nB.toNatClampNeg + 1) (ps_n 99 price) lot p) nB.toNatClampNeg)) 60 = I0 60 := by simp only [pm_u_row, show ¬ (60 : Nat) = 57 by decide, if_false]; exact fr.1 60 (by decide) (by decide) (by decide) (by decide) (by decide)
      rw [c, cond_true, if_neg (by decide), pb_77_13, if_neg n30, pb_77_27, pt_copy_62 (by rw [r62]; exact fr.2.2.1) (by rw [r60]; exact t60), pb_77_53, r60, c60]
      refine hQ _ ⟨fun k k1 k2 k3 k4 k5 => ?_, fun j j1 j2 j3 => ?_, ?_, fun _ => ?_⟩ ⟨fun k hk => ?_, fun j hj => ?_, ?_⟩
      · simp only [pm_u_row, pm_r_row, k1, k4, k5, if_false]
        exact fr.1 k k1 k2 k3 k4 k5
      · simp only [pm_u_row, pm_r_row, show ¬ (57 : Nat) = 62 by decide, show ¬ (57 : Nat) = 63 by decide, if_false, if_true, pm_w_at, j1, j2, j3]
        exact fr.2.1 j j1 j2 j3
      · rw [pm_u_row, if_pos rfl, pm_r_row, if_neg (by decide), r62]
        exact pm_ti_w fr.2.2.1 (by decide) (by decide)
      · rw [pm_u_row, if_pos rfl, pm_w_at, if_pos rfl]
      · simp only [pm_u_row, pm_r_row, show ¬ (59 : Nat) = 62 by decide, show ¬ (59 : Nat) = 63 by decide, show ¬ (59 : Nat) = 57 by decide, if_false]
        exact xs.1 k hk
      · simp only [pm_u_row, pm_r_row, show ¬ (61 : Nat) = 62 by decide, show ¬ (61 : Nat) = 63 by decide, show ¬ (61 : Nat) = 57 by decide, if_false]
        exact xs.2.1 j hj
      · have eT : (ps_T gN (nB.toNatClampNeg + 1) nB.toNatClampNeg (ps_n 99 price) (ps_n 300 coin) 0 lot p st) = some ((ps_fl (ps_n 300 coin) (ps_ld (nB.toNatClampNeg + 1) (ps_n 99 price) lot p) nB.toNatClampNeg), (ps_cm (ps_n 300 coin) (ps_ld (nB.toNatClampNeg + 1) (ps_n 99 price) lot p) nB.toNatClampNeg), p) := by
          unfold ps_T ps_up
          have c' : ps_cb gN st (ps_fl (ps_n 300 coin) (ps_ld (nB.toNatClampNeg + 1) (ps_n 99 price) lot p) nB.toNatClampNeg) (ps_cm (ps_n 300 coin) (ps_ld (nB.toNatClampNeg + 1) (ps_n 99 price) lot p) nB.toNatClampNeg) = true := c
          rw [c']; rfl
        rw [eT]
        refine ⟨?_, ?_, ?_, fbd lot p, cbd lot p, fun j hj => ?_⟩
        · simp [pm_u_row, pm_r_row, pm_w_at]
        · simp [pm_u_row, pm_r_row, pm_w_at]
        · simp [pm_u_row, pm_r_row, pm_w_at]
        · have h7 : j < 1 * (7 : Int32).toNatClampNeg := by
            rw [show (7 : Int32).toNatClampNeg = 7 from rfl]; omega
          simp only [pm_u_row, pm_r_row, show ¬ (63 : Nat) = 62 by decide, show ¬ (61 : Nat) = 57 by decide, if_false, if_true, h7]
          have z := xs.2.1 j (by omega)
          rw [show lot = nL.toNatClampNeg by omega] at z
          exact z
    · have c' := Bool.eq_false_iff.mpr c
      rw [c', cond_false, if_pos rfl, pb_77_12]
      refine hQ I fr ?_
      rw [ps_prune 0 lot p c']
      exact xs
  | succ m ih =>
    intro lot p D I st Q hD hlot fr xs hQ
    obtain ⟨D, rfl⟩ : ∃ E, D = E + 1 := ⟨D - 1, by omega⟩
    have ea := hb_add (ps_cm (ps_n 300 coin) (ps_ld (nB.toNatClampNeg + 1) (ps_n 99 price) lot p) nB.toNatClampNeg) (ps_rest (ps_n 99 price) (m + 1) lot) (by have := cbd lot p; omega) (by have := ps_rest_bd pr9 (m + 1) lot; omega)
    have hg' : I 57 4 = Int32.ofNat gN := (fr.2.1 4 (by decide) (by decide) (by decide)).trans hg
    rw [pb_77_0, ea, px_better (c := (ps_cm (ps_n 300 coin) (ps_ld (nB.toNatClampNeg + 1) (ps_n 99 price) lot p) nB.toNatClampNeg) + ps_rest (ps_n 99 price) (m + 1) lot) hg' g9 xs.2.2 (fbd lot p) (by have := cbd lot p; have := ps_rest_bd pr9 (m + 1) lot; omega), pb_77_9]
    by_cases c : ps_cb gN st (ps_fl (ps_n 300 coin) (ps_ld (nB.toNatClampNeg + 1) (ps_n 99 price) lot p) nB.toNatClampNeg) ((ps_cm (ps_n 300 coin) (ps_ld (nB.toNatClampNeg + 1) (ps_n 99 price) lot p) nB.toNatClampNeg) + ps_rest (ps_n 99 price) (m + 1) lot) = true
    · have pl := pi_on (j := lot) (by omega)
      have l30 : Int32.ofNat lot < nL := pi_onlt (by omega) (by omega)
      have il : (0 ≤ Int32.ofNat lot ∧ Int32.ofNat lot < I0 60 3) := ⟨pl.1, by rw [c60, pi_lt, pl.2.2, e7]; omega⟩
      have eprice : price lot = Int32.ofNat ((ps_n 99 price) lot) := (prat lot (by omega)).symm
      have erest : Int32.ofNat (ps_rest (ps_n 99 price) (m + 1) lot) - Int32.ofNat ((ps_n 99 price) lot) = Int32.ofNat (ps_rest (ps_n 99 price) m (lot + 1)) := by
        have e : ps_rest (ps_n 99 price) (m + 1) lot = (ps_n 99 price) lot + ps_rest (ps_n 99 price) m (lot + 1) := rfl
        rw [hb_sub _ _ (by have := ps_rest_bd pr9 (m + 1) lot; omega) (by omega), e, Nat.add_sub_cancel_left]
      have inner : ∀ (k bb : Nat) (I : Nat → Nat → Int32) (st : Option (Nat × Nat × Nat)) (E : Option (Int32 × Int32 × Int32 × Int32 × Int32)), bb + k = nB.toNatClampNeg → ps_fr I0 I → ps_xs nL.toNatClampNeg nB.toNatClampNeg (ps_n 99 price) I lot p st →
          (∀ I', ps_fr I0 I' → ps_xs nL.toNatClampNeg nB.toNatClampNeg (ps_n 99 price) I' lot p (ps_fb (fun c st => (ps_T gN (nB.toNatClampNeg + 1) nB.toNatClampNeg (ps_n 99 price) (ps_n 300 coin) m (lot + 1) (p * (nB.toNatClampNeg + 1) + c) st)) (k + 1) bb st) → Q 0 0 (pm_Gb L b, I', J)) →
          pm_wp pm_code pm_meta (D + 1 + 1) 77 71 ([.ref 57, .int (Int32.ofNat lot), .int (Int32.ofNat (ps_fl (ps_n 300 coin) (ps_ld (nB.toNatClampNeg + 1) (ps_n 99 price) lot p) nB.toNatClampNeg)), .int (Int32.ofNat (ps_cm (ps_n 300 coin) (ps_ld (nB.toNatClampNeg + 1) (ps_n 99 price) lot p) nB.toNatClampNeg)), .int (Int32.ofNat (ps_rest (ps_n 99 price) (m + 1) lot)), .int (Int32.ofNat ((ps_n 99 price) lot)), .int (Int32.ofNat bb), pm_vl (E.map (·.1)), pm_vl (E.map (·.2.1)), pm_vl (E.map (·.2.2.1)), pm_vl (E.map (·.2.2.2.1)), pm_vl (E.map (·.2.2.2.2))], [], (pm_Gb L b, I, J)) Q := by
        intro k
        induction k with
        | zero =>
          intro bb I st E hbb fr xs hQ
          have ebb : bb = nB.toNatClampNeg := by omega
          have r32 := fr.1 32 (by decide) (by decide) (by decide) (by decide) (by decide)
          have r60 := fr.1 60 (by decide) (by decide) (by decide) (by decide) (by decide)
          have hi : I 32 3 ≤ Int32.ofNat bb := by rw [r32, hb.1.2, ebb, eB]; exact Int32.le_refl _
          have e0 : 1 * (Int32.ofNat lot).toNatClampNeg + 0 = lot := by rw [pl.2.1]; omega
          have cF : (ps_fl (ps_n 300 coin) (ps_ld (nB.toNatClampNeg + 1) (ps_n 99 price) (lot + 1) (p * (nB.toNatClampNeg + 1) + nB.toNatClampNeg)) nB.toNatClampNeg) = (ps_fl (ps_n 300 coin) (ps_ld (nB.toNatClampNeg + 1) (ps_n 99 price) lot p) nB.toNatClampNeg) := ps_fl_cg nB.toNatClampNeg (fun b hb => by rw [ps_ld_c (by omega), if_neg (by omega), Nat.add_zero])
          have cC : (ps_cm (ps_n 300 coin) (ps_ld (nB.toNatClampNeg + 1) (ps_n 99 price) (lot + 1) (p * (nB.toNatClampNeg + 1) + nB.toNatClampNeg)) nB.toNatClampNeg) = (ps_cm (ps_n 300 coin) (ps_ld (nB.toNatClampNeg + 1) (ps_n 99 price) lot p) nB.toNatClampNeg) := ps_cm_cg nB.toNatClampNeg (fun b hb => by rw [ps_ld_c (by omega), if_neg (by omega), Nat.add_zero])
          have at219 : ∀ (Z : pm_C → Prop), True := fun _ => trivial
          have call : ∀ (V : Int32 → Int64 → pm_H → Prop), (∀ I', ps_fr I0 I' → ps_xs nL.toNatClampNeg nB.toNatClampNeg (ps_n 99 price) I' lot p (ps_T gN (nB.toNatClampNeg + 1) nB.toNatClampNeg (ps_n 99 price) (ps_n 300 coin) m (lot + 1) (p * (nB.toNatClampNeg + 1) + nB.toNatClampNeg) st) → V 0 0 (pm_Gb L b, I', J)) → pm_wc pm_code pm_meta (D + 1) 77 [.ref 57, .int (Int32.ofNat lot + 1), .int (Int32.ofNat (ps_fl (ps_n 300 coin) (ps_ld (nB.toNatClampNeg + 1) (ps_n 99 price) lot p) nB.toNatClampNeg)), .int (Int32.ofNat (ps_cm (ps_n 300 coin) (ps_ld (nB.toNatClampNeg + 1) (ps_n 99 price) lot p) nB.toNatClampNeg)), .int (Int32.ofNat (ps_rest (ps_n 99 price) (m + 1) lot) - Int32.ofNat ((ps_n 99 price) lot))] (pm_Gb L b, pm_u I 61 lot (-9), J) V := fun V hV => by
            rw [pi_onadd (by omega), erest, ← cF, ← cC]
            refine ih (lot + 1) (p * (nB.toNatClampNeg + 1) + nB.toNatClampNeg) D _ st V (by omega) (by omega) ⟨fun k k1 k2 k3 k4 k5 => ?_, fun j j1 j2 j3 => ?_, ?_, ?_⟩ (ps_down (I := I) (by omega) xs ?_ ?_ (fun j => ?_) (fun k hk => ?_)) (fun I' fr' xs' => hV I' fr' (ps_back (I := I') (by omega) xs' rfl rfl rfl (fun k hk => ?_)))
            · rw [pm_u_row, if_neg k3]; exact fr.1 k k1 k2 k3 k4 k5
            · rw [pm_u_row, if_neg (by decide)]; exact fr.2.1 j j1 j2 j3
            · rw [pm_u_row, if_neg (by decide)]; exact fr.2.2.1
            · rw [pm_u_row, if_neg (by decide), pm_u_row, if_neg (by decide)]; exact fr.2.2.2
            · rw [pm_u_row, if_neg (by decide)]
            · rw [pm_u_row, if_neg (by decide)]
            · rw [pm_u_row, if_pos rfl, pm_w_at, if_pos rfl]
            · rw [pm_u_row, if_neg (by decide), if_neg (by omega)]
            · rw [if_neg (by omega)]
          have hQ' : ∀ I', ps_fr I0 I' → ps_xs nL.toNatClampNeg nB.toNatClampNeg (ps_n 99 price) I' lot p (ps_T gN (nB.toNatClampNeg + 1) nB.toNatClampNeg (ps_n 99 price) (ps_n 300 coin) m (lot + 1) (p * (nB.toNatClampNeg + 1) + nB.toNatClampNeg) st) → Q 0 0 (pm_Gb L b, I', J) := fun I' fr' xs' => hQ I' fr' (by rw [ebb]; exact xs')
          rcases E with _ | ⟨a1, a2, a3, a4, a5⟩ <;> simp only [Option.map, pm_vl_n, pm_vl_s]
          · rw [pb_77_71, if_pos hi, pb_77_219, pt_set_60_0 (by rw [r60]; exact t60), r60, if_pos il, e0, pb_77_230]
            refine call _ (fun I' fr' xs' => ?_)
            rw [pb_77_244]
            exact hQ' I' fr' xs'
          · rw [pb_77_71b, if_pos hi, pb_77_219b, pt_set_60_0 (by rw [r60]; exact t60), r60, if_pos il, e0, pb_77_230b]
            refine call _ (fun I' fr' xs' => ?_)
            rw [pb_77_244b]
            exact hQ' I' fr' xs'
        | succ k ihk =>
          intro bb I st E hbb fr xs hQ
          have pb := pi_on (j := bb) (by omega)
          have r32 := fr.1 32 (by decide) (by decide) (by decide) (by decide) (by decide)
          have r33 := fr.1 33 (by decide) (by decide) (by decide) (by decide) (by decide)
          have r58 := fr.1 58 (by decide) (by decide) (by decide) (by decide) (by decide)
          have r60 := fr.1 60 (by decide) (by decide) (by decide) (by decide) (by decide)
          have lb : Int32.ofNat bb < nB := pi_onlt (by omega) (by omega)
          have hi : ¬ I 32 3 ≤ Int32.ofNat bb := by rw [r32, hb.1.2]; exact Int32.not_le.mpr lb
          have ib : 0 ≤ Int32.ofNat bb ∧ Int32.ofNat bb < I0 58 3 := ⟨pb.1, by rw [c58, pi_lt, pb.2.2, e3]; omega⟩
          have hbuy : pg_buy (I 32) (I 33) nB coin := by rw [r32, r33]; exact hb
          have eco : coin bb = Int32.ofNat ((ps_n 300 coin) bb) := (coat bb (by omega)).symm
          have ebf : I 59 bb = Int32.ofNat ((ps_ld (nB.toNatClampNeg + 1) (ps_n 99 price) lot p) bb) := xs.1 bb (by omega)
          have ldb := ps_ld_bd (K := (nB.toNatClampNeg + 1)) pr9 lot p bb
          have pr9l := pr9 lot
          have co9b := co9 bb
          have eaf : Int32.ofNat ((ps_ld (nB.toNatClampNeg + 1) (ps_n 99 price) lot p) bb) + Int32.ofNat ((ps_n 99 price) lot) = Int32.ofNat ((ps_ld (nB.toNatClampNeg + 1) (ps_n 99 price) lot p) bb + (ps_n 99 price) lot) := hb_add _ _ (by omega) (by omega)
          have e1 : 1 * (Int32.ofNat bb).toNatClampNeg + 0 = bb := by rw [pb.2.1]; omega
          have e0 : 1 * (Int32.ofNat lot).toNatClampNeg + 0 = lot := by rw [pl.2.1]; omega
          have ldc : ∀ c, (ps_ld (nB.toNatClampNeg + 1) (ps_n 99 price) (lot + 1) (p * (nB.toNatClampNeg + 1) + bb)) c = (ps_ld (nB.toNatClampNeg + 1) (ps_n 99 price) lot p) c + (if bb = c then (ps_n 99 price) lot else 0) := fun c => ps_ld_c (by omega)
          have ldne : ∀ c, ¬ c = bb → (ps_ld (nB.toNatClampNeg + 1) (ps_n 99 price) (lot + 1) (p * (nB.toNatClampNeg + 1) + bb)) c = (ps_ld (nB.toNatClampNeg + 1) (ps_n 99 price) lot p) c := fun c hc => by rw [ldc, if_neg (fun q => hc q.symm), Nat.add_zero]
          have ldeq : (ps_ld (nB.toNatClampNeg + 1) (ps_n 99 price) (lot + 1) (p * (nB.toNatClampNeg + 1) + bb)) bb = (ps_ld (nB.toNatClampNeg + 1) (ps_n 99 price) lot p) bb + (ps_n 99 price) lot := by rw [ldc, if_pos rfl]
          have uF := ps_fl_up (co := (ps_n 300 coin)) ldne nB.toNatClampNeg (by omega)
          have uC := ps_cm_up (co := (ps_n 300 coin)) ldne nB.toNatClampNeg (by omega)
          rw [ldeq] at uF uC
          have fb1 := fbd lot p
          have cb1 := cbd lot p
          have at170 : ∀ (fal : Nat), (ps_fl (ps_n 300 coin) (ps_ld (nB.toNatClampNeg + 1) (ps_n 99 price) lot p) nB.toNatClampNeg) + fal = (ps_fl (ps_n 300 coin) (ps_ld (nB.toNatClampNeg + 1) (ps_n 99 price) (lot + 1) (p * (nB.toNatClampNeg + 1) + bb)) nB.toNatClampNeg) → pm_wp pm_code pm_meta (D + 1 + 1) 77 170 ([.ref 57, .int (Int32.ofNat lot), .int (Int32.ofNat (ps_fl (ps_n 300 coin) (ps_ld (nB.toNatClampNeg + 1) (ps_n 99 price) lot p) nB.toNatClampNeg)), .int (Int32.ofNat (ps_cm (ps_n 300 coin) (ps_ld (nB.toNatClampNeg + 1) (ps_n 99 price) lot p) nB.toNatClampNeg)), .int (Int32.ofNat (ps_rest (ps_n 99 price) (m + 1) lot)), .int (Int32.ofNat ((ps_n 99 price) lot)), .int (Int32.ofNat bb), .int (Int32.ofNat ((ps_n 300 coin) bb)), .int (Int32.ofNat ((ps_ld (nB.toNatClampNeg + 1) (ps_n 99 price) lot p) bb)), .int (Int32.ofNat ((ps_ld (nB.toNatClampNeg + 1) (ps_n 99 price) lot p) bb + (ps_n 99 price) lot)), .int (Int32.ofNat fal), .int (Int32.ofNat (min ((ps_ld (nB.toNatClampNeg + 1) (ps_n 99 price) lot p) bb + (ps_n 99 price) lot) ((ps_n 300 coin) bb)) - Int32.ofNat (min ((ps_ld (nB.toNatClampNeg + 1) (ps_n 99 price) lot p) bb) ((ps_n 300 coin) bb)))], [], (pm_Gb L b, pm_u I 59 bb (Int32.ofNat ((ps_ld (nB.toNatClampNeg + 1) (ps_n 99 price) lot p) bb + (ps_n 99 price) lot)), J)) Q := fun fal hfal => by
            have r60' : pm_u I 59 bb (Int32.ofNat ((ps_ld (nB.toNatClampNeg + 1) (ps_n 99 price) lot p) bb + (ps_n 99 price) lot)) 60 = I0 60 := by rw [pm_u_row, if_neg (by decide)]; exact r60
            have em : Int32.ofNat (min ((ps_ld (nB.toNatClampNeg + 1) (ps_n 99 price) lot p) bb + (ps_n 99 price) lot) ((ps_n 300 coin) bb)) - Int32.ofNat (min ((ps_ld (nB.toNatClampNeg + 1) (ps_n 99 price) lot p) bb) ((ps_n 300 coin) bb)) = Int32.ofNat (min ((ps_ld (nB.toNatClampNeg + 1) (ps_n 99 price) lot p) bb + (ps_n 99 price) lot) ((ps_n 300 coin) bb) - min ((ps_ld (nB.toNatClampNeg + 1) (ps_n 99 price) lot p) bb) ((ps_n 300 coin) bb)) := hb_sub _ _ (by omega) (by omega)
            have ef : Int32.ofNat (ps_fl (ps_n 300 coin) (ps_ld (nB.toNatClampNeg + 1) (ps_n 99 price) lot p) nB.toNatClampNeg) + Int32.ofNat fal = Int32.ofNat (ps_fl (ps_n 300 coin) (ps_ld (nB.toNatClampNeg + 1) (ps_n 99 price) (lot + 1) (p * (nB.toNatClampNeg + 1) + bb)) nB.toNatClampNeg) := by
              have := fbd (lot + 1) (p * (nB.toNatClampNeg + 1) + bb)
              rw [hb_add _ _ (by omega) (by omega), hfal]
            have ec : Int32.ofNat (ps_cm (ps_n 300 coin) (ps_ld (nB.toNatClampNeg + 1) (ps_n 99 price) lot p) nB.toNatClampNeg) + Int32.ofNat (min ((ps_ld (nB.toNatClampNeg + 1) (ps_n 99 price) lot p) bb + (ps_n 99 price) lot) ((ps_n 300 coin) bb) - min ((ps_ld (nB.toNatClampNeg + 1) (ps_n 99 price) lot p) bb) ((ps_n 300 coin) bb)) = Int32.ofNat (ps_cm (ps_n 300 coin) (ps_ld (nB.toNatClampNeg + 1) (ps_n 99 price) (lot + 1) (p * (nB.toNatClampNeg + 1) + bb)) nB.toNatClampNeg) := by
              rw [hb_add _ _ (by omega) (by omega)]
              congr 1
              omega
            rw [pb_77_170, pt_set_60_0 (by rw [r60']; exact t60), r60', if_pos il, e0, pb_77_181, pi_onadd (by omega), em, ef, ec, erest]
            refine ih (lot + 1) (p * (nB.toNatClampNeg + 1) + bb) D _ st _ (by omega) (by omega) ⟨fun k k1 k2 k3 k4 k5 => ?_, fun j j1 j2 j3 => ?_, ?_, ?_⟩ (ps_down (I := I) (by omega) xs ?_ ?_ (fun j => ?_) (fun k hk => ?_)) (fun I' fr' xs' => ?_)
            · rw [pm_u_row, if_neg k3, pm_u_row, if_neg k2]; exact fr.1 k k1 k2 k3 k4 k5
            · rw [pm_u_row, if_neg (by decide), pm_u_row, if_neg (by decide)]; exact fr.2.1 j j1 j2 j3
            · rw [pm_u_row, if_neg (by decide), pm_u_row, if_neg (by decide)]; exact fr.2.2.1
            · simp only [pm_u_row, show ¬ (57 : Nat) = 61 by decide, show ¬ (57 : Nat) = 59 by decide, show ¬ (62 : Nat) = 61 by decide, show ¬ (62 : Nat) = 59 by decide, if_false]; exact fr.2.2.2
            · rw [pm_u_row, if_neg (by decide), pm_u_row, if_neg (by decide)]
            · rw [pm_u_row, if_neg (by decide), pm_u_row, if_neg (by decide)]
            · have e61 : pm_u I 59 bb (Int32.ofNat ((ps_ld (nB.toNatClampNeg + 1) (ps_n 99 price) lot p) bb + (ps_n 99 price) lot)) 61 = I 61 := by rw [pm_u_row, if_neg (by decide)]
              rw [pm_u_row, if_pos rfl, pm_w_at, e61, if_neg (show ¬ bb = nB.toNatClampNeg by omega)]
            · rw [pm_u_row, if_neg (by decide), pm_u_row, if_pos rfl, pm_w_at]
            · have r58' := fr'.1 58 (by decide) (by decide) (by decide) (by decide) (by decide)
              rw [pb_77_201, pt_set_58_0 (by rw [r58']; exact t58), r58', if_pos ib, e1, pb_77_213, pi_onadd (by omega)]
              have z := ihk (bb + 1) (pm_u I' 59 bb (Int32.ofNat ((ps_ld (nB.toNatClampNeg + 1) (ps_n 99 price) lot p) bb))) (ps_T gN (nB.toNatClampNeg + 1) nB.toNatClampNeg (ps_n 99 price) (ps_n 300 coin) m (lot + 1) (p * (nB.toNatClampNeg + 1) + bb) st) (some (Int32.ofNat ((ps_n 300 coin) bb), Int32.ofNat ((ps_ld (nB.toNatClampNeg + 1) (ps_n 99 price) lot p) bb), Int32.ofNat ((ps_ld (nB.toNatClampNeg + 1) (ps_n 99 price) lot p) bb + (ps_n 99 price) lot), Int32.ofNat fal, Int32.ofNat (min ((ps_ld (nB.toNatClampNeg + 1) (ps_n 99 price) lot p) bb + (ps_n 99 price) lot) ((ps_n 300 coin) bb) - min ((ps_ld (nB.toNatClampNeg + 1) (ps_n 99 price) lot p) bb) ((ps_n 300 coin) bb)))) (by omega) ⟨fun k k1 k2 k3 k4 k5 => by rw [pm_u_row, if_neg k2]; exact fr'.1 k k1 k2 k3 k4 k5, fun j j1 j2 j3 => by rw [pm_u_row, if_neg (by decide)]; exact fr'.2.1 j j1 j2 j3, by rw [pm_u_row, if_neg (by decide)]; exact fr'.2.2.1, by rw [pm_u_row, if_neg (by decide), pm_u_row, if_neg (by decide)]; exact fr'.2.2.2⟩ (ps_back (I := I') (by omega) xs' (by rw [pm_u_row, if_neg (by decide)]) (by rw [pm_u_row, if_neg (by decide)]) (by rw [pm_u_row, if_neg (by decide)]) (fun k hk => by rw [pm_u_row, if_pos rfl, pm_w_at])) (fun I'' fr'' xs'' => hQ I'' fr'' xs'')
              simp only [Option.map, pm_vl_s] at z
              exact z
          have fin := at170
          rcases E with _ | ⟨a1, a2, a3, a4, a5⟩ <;> simp only [Option.map, pm_vl_n, pm_vl_s]
          · rw [pb_77_71, if_neg hi, pb_77_86, px_buy_0 hbuy, pm_at_in pb.1 lb, pb.2.1, eco, pb_77_99, pt_get_58_0 (by rw [r58]; exact t58), r58, if_pos ib, e1, ebf, pb_77_111, eaf]
            by_cases c1 : (ps_n 300 coin) bb < (ps_ld (nB.toNatClampNeg + 1) (ps_n 99 price) lot p) bb
            · rw [if_pos (by rw [on_lt (by omega) (by omega)]; exact c1), pb_77_138, pb_77_139, px_min, on_min (by omega) (by omega), pb_77_148, px_min, on_min (by omega) (by omega), pb_77_155, pt_set_58_0 (by rw [r58]; exact t58), r58, if_pos ib, e1]
              exact at170 0 (by rw [if_neg (by omega), if_neg (by omega)] at uF; omega)
            · rw [if_neg (by rw [on_lt (by omega) (by omega)]; exact c1), pb_77_127]
              by_cases c2 : (ps_ld (nB.toNatClampNeg + 1) (ps_n 99 price) lot p) bb + (ps_n 99 price) lot ≤ (ps_n 300 coin) bb
              · rw [if_pos (by rw [on_le (by omega) (by omega)]; exact c2), pb_77_138, pb_77_139, px_min, on_min (by omega) (by omega), pb_77_148, px_min, on_min (by omega) (by omega), pb_77_155, pt_set_58_0 (by rw [r58]; exact t58), r58, if_pos ib, e1]
                exact at170 0 (by rw [if_pos (by omega), if_pos (by omega)] at uF; omega)
              · rw [if_neg (by rw [on_le (by omega) (by omega)]; exact c2), pb_77_134, pb_77_139, px_min, on_min (by omega) (by omega), pb_77_148, px_min, on_min (by omega) (by omega), pb_77_155, pt_set_58_0 (by rw [r58]; exact t58), r58, if_pos ib, e1]
                exact at170 1 (by rw [if_pos (by omega), if_neg (by omega)] at uF; omega)
          · rw [pb_77_71b, if_neg hi, pb_77_86b, px_buy_0 hbuy, pm_at_in pb.1 lb, pb.2.1, eco, pb_77_99b, pt_get_58_0 (by rw [r58]; exact t58), r58, if_pos ib, e1, ebf, pb_77_111b, eaf]
            by_cases c1 : (ps_n 300 coin) bb < (ps_ld (nB.toNatClampNeg + 1) (ps_n 99 price) lot p) bb
            · rw [if_pos (by rw [on_lt (by omega) (by omega)]; exact c1), pb_77_138b, pb_77_139b, px_min, on_min (by omega) (by omega), pb_77_148b, px_min, on_min (by omega) (by omega), pb_77_155b, pt_set_58_0 (by rw [r58]; exact t58), r58, if_pos ib, e1]
              exact at170 0 (by rw [if_neg (by omega), if_neg (by omega)] at uF; omega)
            · rw [if_neg (by rw [on_lt (by omega) (by omega)]; exact c1), pb_77_127b]
              by_cases c2 : (ps_ld (nB.toNatClampNeg + 1) (ps_n 99 price) lot p) bb + (ps_n 99 price) lot ≤ (ps_n 300 coin) bb
              · rw [if_pos (by rw [on_le (by omega) (by omega)]; exact c2), pb_77_138b, pb_77_139b, px_min, on_min (by omega) (by omega), pb_77_148b, px_min, on_min (by omega) (by omega), pb_77_155b, pt_set_58_0 (by rw [r58]; exact t58), r58, if_pos ib, e1]
                exact at170 0 (by rw [if_pos (by omega), if_pos (by omega)] at uF; omega)
              · rw [if_neg (by rw [on_le (by omega) (by omega)]; exact c2), pb_77_134b, pb_77_139b, px_min, on_min (by omega) (by omega), pb_77_148b, px_min, on_min (by omega) (by omega), pb_77_155b, pt_set_58_0 (by rw [r58]; exact t58), r58, if_pos ib, e1]
                exact at170 1 (by rw [if_pos (by omega), if_neg (by omega)] at uF; omega)
      have r30 := fr.1 30 (by decide) (by decide) (by decide) (by decide) (by decide)
      have r31 := fr.1 31 (by decide) (by decide) (by decide) (by decide) (by decide)
      rw [c, cond_true, if_neg (by decide), pb_77_13, if_pos (by rw [r30, hl.1.2]; exact l30), pb_77_54, px_lot_0 (n := nL) (price := price) (by rw [r30, r31]; exact hl), pm_at_in pl.1 l30, pl.2.1, eprice, pb_77_66]
      exact inner nB.toNatClampNeg 0 I st none (by omega) fr xs hQ
    · have c' := Bool.eq_false_iff.mpr c
      rw [c', cond_false, if_pos rfl, pb_77_12]
      refine hQ I fr ?_
      rw [ps_prune (m + 1) lot p c']
      exact xs

