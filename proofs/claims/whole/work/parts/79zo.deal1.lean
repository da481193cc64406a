/-! THE CALL deal: the bodies of the class. -/
def pf_hl (f : Nat → Int32) : List Int32 → Prop
  | [] => True
  | x :: r => f r.length = x ∧ pf_hl f r
theorem hl_cg {f g : Nat → Int32} : ∀ r : List Int32, (∀ j, j < r.length → f j = g j) → pf_hl f r → pf_hl g r
  | [], _, _ => trivial
  | x :: r, h, hh => ⟨(h r.length (by simp)).symm.trans hh.1, hl_cg r (fun j hj => h j (by simp; omega)) hh.2⟩
def pf_lB (K : Int32) (T : List Int32) : List Int32 := if K = 2 then 10 :: 30 :: T else if K = 4 then 10 :: 50 :: T else if K = 6 then 10 :: 70 :: T else 10 :: T
def pf_lF (K : Int32) (T : List Int32) : List Int32 := if K = 1 ∨ K = 2 then pf_lB K (11 :: 20 :: T) else if K = 7 then pf_lB K (11 :: 80 :: T) else pf_lB K (11 :: T)
def pf_l2 (K : Int32) (T : List Int32) : List Int32 := pf_lF K (12 :: T)
def pf_l6 (K : Int32) (T : List Int32) : List Int32 := pf_lF K (pf_l2 K (60 :: T))
def pf_lR (K : Int32) (T : List Int32) : List Int32 := if K = 3 then pf_lB K (pf_l2 K (40 :: T)) else if K = 6 then pf_lB K (pf_l6 K (71 :: T)) else if K = 5 then pf_l6 K T else pf_l2 K T
def pf_lP (K : Int32) (T : List Int32) : List Int32 := if K = 2 then 13 :: 31 :: T else if K = 5 ∨ K = 6 then 13 :: 61 :: T else 13 :: T
def pf_vB (K A N x : Int32) : Int32 := if K = 2 then (x + A) * 2 else if K = 4 then x + A - 7 else if K = 6 then x + A + N else x + A
def pf_v1 (K A N x : Int32) : Int32 := pf_vB K A N x * 3
def pf_vF (K A N x : Int32) : Int32 := if K = 1 ∨ K = 2 then pf_v1 K A N x ^^^ N else if K = 7 then 0 - pf_v1 K A N x else pf_v1 K A N x
def pf_v2 (K A H N x : Int32) : Int32 := pf_vF K A N x - H
def pf_v6 (K A H N x : Int32) : Int32 := pf_v2 K A H N x - pf_vF K A N 2
def pf_vR (K A H N x : Int32) : Int32 := if K = 3 then pf_v2 K A H N x + pf_vB K A N 1 else if K = 6 then pf_v6 K A H N x ^^^ pf_vB K A N 0 else if K = 5 then pf_v6 K A H N x else pf_v2 K A H N x
def pf_v3 (A x : Int32) : Int32 := if A - 10 = 0 then 0 else x / (A - 10)
def pf_z3 (A : Int32) : Int32 := if A - 10 = 0 then 1 else 0
def pf_vP (K A H x : Int32) : Int32 := if K = 2 then pf_v3 A (x + 1) + H else if K = 5 ∨ K = 6 then 0 - pf_v3 A x else pf_v3 A x
theorem lB_len (K : Int32) (T : List Int32) : T.length + 1 ≤ (pf_lB K T).length ∧ (pf_lB K T).length ≤ T.length + 2 := by
  unfold pf_lB
  repeat' split
  all_goals simp
theorem lF_len (K : Int32) (T : List Int32) : (pf_lF K T).length ≤ T.length + 4 := by
  unfold pf_lF
  split
  · have := (lB_len K (11 :: 20 :: T)).2; simp at this; omega
  · split
    · have := (lB_len K (11 :: 80 :: T)).2; simp at this; omega
    · have := (lB_len K (11 :: T)).2; simp at this; omega
theorem l2_len (K : Int32) (T : List Int32) : (pf_l2 K T).length ≤ T.length + 5 := by
  unfold pf_l2
  have := lF_len K (12 :: T); simp at this; omega
theorem l6_len (K : Int32) (T : List Int32) : (pf_l6 K T).length ≤ T.length + 10 := by
  unfold pf_l6
  have := lF_len K (pf_l2 K (60 :: T))
  have h2 := l2_len K (60 :: T); simp at h2; omega
/-- the class's trace -/
def pm_tx (I0 : Nat → Nat → Int32) (N A H : Int32) (I : Nat → Nat → Int32) (T : List Int32) (z : Int32) : Prop := (∀ k, ¬ k = 70 → ¬ k = 77 → ¬ k = 78 → I k = I0 k) ∧ I 70 5 = N ∧ I 70 6 = z ∧ pm_ti (I 77) 1 30 ∧ I 77 3 = Int32.ofNat T.length ∧ pf_hl (I 78) T
section
variable {d L : Nat} {b : Bool} {J : Nat → Nat → Int64} {X : Nat → Int32} {I0 : Nat → Nat → Int32} {K N A H z : Int32}
theorem px_bhead {x l num : Int32} {T : List Int32} {I : Nat → Nat → Int32} {Q : Int32 → Int64 → pm_H → Prop} (hI : pm_inv X b I0 J) (N0 : 0 ≤ N) (N1 : N < I0 80 4) (hA : I0 102 N.toNatClampNeg = A) (hH : I0 100 N.toNatClampNeg = H) (hT : pm_tx I0 N A H I T z) (l0 : 0 ≤ l.toInt) (l1 : l.toInt ≤ 8) (hl : T.length ≤ 28)
    (hQ : ∀ I', pm_tx I0 N A H I' (num :: T) z → pm_wp pm_code pm_meta (d + 1) 23 63 ([.ref 70, .int num, .int x, .int l, .int (l + 1), .int A, .int H], [], (pm_Gb L b, I', J)) Q) : pm_wc pm_code pm_meta (d + 1) 23 [.ref 70, .int num, .int x, .int l] (pm_Gb L b, I, J) Q := by
  obtain ⟨h1, h2, h3, h4, h5, h6⟩ := hT
  have hrig := hI.1.2.2.2.2.2.1
  have hr : pg_rig (I 18) (I 19) (I0 80 4) (I0 80 1) (I0 80 2) (I0 80 3) (I0 99) (I0 100) (I0 101) (I0 102) (I0 103) (I0 104) (I0 105) (I0 106) (I0 107) (I0 108) (I0 109) (I0 110) (I0 111) := by rw [h1 18 (by decide) (by decide) (by decide), h1 19 (by decide) (by decide) (by decide)]; exact hrig
  have p := pi_on (j := T.length) (by omega)
  have p1 := pi_on (j := T.length + 1) (by omega)
  have e30 : (30 : Int32).toInt = 30 := rfl
  have l8 : l ≤ 8 := by rw [pi_le, show (8 : Int32).toInt = 8 from rfl]; exact l1
  have hn : I 77 3 < 30 := by rw [h5, pi_lt, p.2.2, e30]; omega
  rw [pb_23_0, if_pos l8, pb_23_8, h2, px_rig_3 hr, pm_at_in N0 N1, hA, pb_23_28, h2, px_rig_1 hr, pm_at_in N0 N1, hH, pb_23_45, pt_add_77 h4 hn, pb_23_58, h5, p.2.1, pi_onadd (by omega)]
  have t77 : pm_ti (pm_u (pm_zr I 78 (1 * T.length) (1 * T.length + 1)) 77 3 (Int32.ofNat (T.length + 1)) 77) 1 30 := by
    rw [pm_u_row, if_pos rfl, pm_zr_row, if_neg (by decide)]
    exact pm_ti_w h4 p1.1 (by rw [pi_le, p1.2.2, e30]; omega)
  have c77 : 0 ≤ Int32.ofNat T.length ∧ Int32.ofNat T.length < pm_u (pm_zr I 78 (1 * T.length) (1 * T.length + 1)) 77 3 (Int32.ofNat (T.length + 1)) 77 3 := ⟨p.1, by rw [pm_u_at, pi_lt, p.2.2, p1.2.2]; omega⟩
  rw [pt_set_77_0 t77, if_pos c77, p.2.1]
  refine hQ _ ⟨fun k a c e => ?_, ?_, ?_, ?_, ?_, ?_, ?_⟩
  · rw [pm_u_row, if_neg e, pm_u_row, if_neg c, pm_zr_row, if_neg e]; exact h1 k a c e
  · rw [pm_u_row, if_neg (by decide), pm_u_row, if_neg (by decide), pm_zr_row, if_neg (by decide)]; exact h2
  · rw [pm_u_row, if_neg (by decide), pm_u_row, if_neg (by decide), pm_zr_row, if_neg (by decide)]; exact h3
  · rw [pm_u_row, if_neg (by decide)]; exact t77
  · rw [pm_u_row, if_neg (by decide), pm_u_at]; rfl
  · rw [pm_u_row, if_pos rfl, pm_w_at, if_pos (by omega)]
  · refine hl_cg T (fun j hj => ?_) h6
    rw [pm_u_row, if_pos rfl, pm_w_ne (by omega), pm_u_row, if_neg (by decide), pm_zr_row, if_pos rfl]
    unfold pm_zw
    rw [if_neg (by omega)]
theorem px_bodyOf {D : Int32} {I : Nat → Nat → Int32} {Q : Int32 → Int64 → pm_H → Prop} (hI : pm_inv X b I0 J) (N0 : 0 ≤ N) (N1 : N < I0 80 4) (hK : I0 99 N.toNatClampNeg = K) (hs : ∀ k, ¬ k = 70 → ¬ k = 77 → ¬ k = 78 → I k = I0 k) (h2 : I 70 5 = N) (D0 : 0 ≤ D.toInt) (D1 : D.toInt ≤ 3) : pm_wc pm_code pm_meta (d + 1) 22 [.ref 70, .int D] (pm_Gb L b, I, J) Q ↔ Q (pm_a4.getD (8 * D.toNatClampNeg + K.toNatClampNeg) 0) 0 (pm_Gb L b, I, J) := by
  have hrig := hI.1.2.2.2.2.2.1
  have g := (hrig.2 _ (pi_tnlt N0 N1)).2.2
  rw [hK] at g
  have k0 := pi_le.mp g.1
  have k7 := pi_le.mp g.2.1
  rw [pi_0] at k0
  rw [show (7 : Int32).toInt = 7 from rfl] at k7
  have hr : pg_rig (I 18) (I 19) (I0 80 4) (I0 80 1) (I0 80 2) (I0 80 3) (I0 99) (I0 100) (I0 101) (I0 102) (I0 103) (I0 104) (I0 105) (I0 106) (I0 107) (I0 108) (I0 109) (I0 110) (I0 111) := by rw [hs 18 (by decide) (by decide) (by decide), hs 19 (by decide) (by decide) (by decide)]; exact hrig
  have e8 : (8 : Int32).toInt = 8 := rfl
  have em := pi_mul (a := D) (b := 8) (by rw [e8]; omega) (by rw [e8]; omega)
  rw [e8] at em
  have ea := pi_add (a := D * 8) (b := K) (by omega) (by omega)
  have a0 : 0 ≤ D * 8 + K := by rw [pi_le, pi_0]; omega
  have t := pi_tni a0
  have tD := pi_tni (a := D) (by rw [pi_le, pi_0]; exact D0)
  have tK := pi_tni (a := K) g.1
  have et : (D * 8 + K).toNatClampNeg = 8 * D.toNatClampNeg + K.toNatClampNeg := by omega
  have hc := hI.2.2.2.2.2.2.2.2.2.2.2.2.1
  rw [pb_22_0, h2, px_rig_0 hr, pm_at_in N0 N1, hK, pb_22_19, if_neg (Int32.not_lt.mpr a0), pb_22_25, if_neg (Int32.not_le.mpr (by rw [pi_lt, show (32 : Int32).toInt = 32 from rfl]; omega)), pb_22_33, hs 4 (by decide) (by decide) (by decide), hc, et, pb_22_42]
  have : pm_in (D * 8 + K) 32 = true := pi_in a0 (by omega)
  simp only [this, true_and]
end

