/-! THE CALL read: the invariant when a version is added. -/
theorem inv_yes {I I2 I9 I3 : Nat → Nat → Int32} {J J3 : Nat → Nat → Int64} {X : Nat → Int32} {b : Bool} {x1 : Int32} {sl r0 s0 : Nat} {c : Nat → Nat} {n N : Nat} {ops : List (Nat × Nat)} {rs : List (Nat × Nat × Nat × Nat × Nat)}
    (hI : pm_inv X b I J) (hw : 0 ≤ x1 ∧ x1 ≤ 3) (h80 : I 80 5 = Int32.ofNat sl) (sl12 : sl < 12) (xe : rd_XE I I2) (f9 : ∀ r, ¬ (20 ≤ r ∧ r ≤ 25) → I9 r = I2 r) (re : rd_RE sl I9 I3) (eJ : J3 153 = J 153) (iv : rd_iv c n N ops rs) (lo80 : ops.length ≤ 80)
    (hr0 : I 22 3 = Int32.ofNat r0) (hs0 : I 24 3 = Int32.ofNat s0) (r0l : r0 ≤ 10 * sl) (s0l : s0 ≤ 100 * sl)
    (t1 : pm_ti (I9 20) 5 12) (t2 : I9 20 3 = Int32.ofNat (sl + 1)) (t3 : pm_ti (I9 22) 5 120) (t5 : I9 22 3 = Int32.ofNat (r0 + rs.length)) (t4 : pm_ti (I9 24) 2 1200) (t6 : I9 24 3 = Int32.ofNat (s0 + ops.length))
    (u21 : ∀ j, j < 5 * sl → I9 21 j = (if 0 ≤ pf_inf (I 112) (I 114) (I 115) (I 80 5) x1 (I 80 0) ∧ pf_inf (I 112) (I 114) (I 115) (I 80 5) x1 (I 80 0) < I 80 5 then pm_w (I 21) (5 * (pf_inf (I 112) (I 114) (I 115) (I 80 5) x1 (I 80 0)).toNatClampNeg + 3) (I 80 0) else I 21) j)
    (u23 : ∀ j, j < 5 * r0 → I9 23 j = I 23 j) (u25 : ∀ j, j < 2 * s0 → I9 25 j = I 25 j)
    (n21 : I9 21 (5 * sl + 0) = x1 ∧ I9 21 (5 * sl + 1) = Int32.ofNat rs.length ∧ I9 21 (5 * sl + 2) = I 80 0 ∧ I9 21 (5 * sl + 3) = -3 ∧ I9 21 (5 * sl + 4) = Int32.ofNat r0)
    (n23 : ∀ m x, rs[m]? = some x → I9 23 (5 * (r0 + m) + 0) = Int32.ofNat x.1 ∧ I9 23 (5 * (r0 + m) + 1) = Int32.ofNat x.2.1 ∧ I9 23 (5 * (r0 + m) + 2) = (if x.1 = 2 then Int32.ofNat x.2.2.1 else -3) ∧ I9 23 (5 * (r0 + m) + 3) = Int32.ofNat s0 + Int32.ofNat x.2.2.2.1 ∧ I9 23 (5 * (r0 + m) + 4) = Int32.ofNat s0 + Int32.ofNat x.2.2.2.2)
    (n25 : ∀ m x, ops[m]? = some x → I9 25 (2 * (s0 + m) + 0) = pm_opw (Int32.ofNat x.1) ∧ I9 25 (2 * (s0 + m) + 1) = Int32.ofNat x.2)
    (n113 : I3 113 sl = Int32.ofNat rs.length)
    (n_r : ∀ m x, rs[m]? = some x → I3 117 (10 * sl + m) = Int32.ofNat x.1 ∧ I3 118 (10 * sl + m) = Int32.ofNat x.2.1 ∧ I3 119 (10 * sl + m) = (if x.1 = 2 then Int32.ofNat x.2.2.1 else -1) ∧ I3 120 (10 * sl + m) = Int32.ofNat x.2.2.2.1 ∧ I3 121 (10 * sl + m) = Int32.ofNat x.2.2.2.2)
    (n_o : ∀ m x, ops[m]? = some x → I3 122 (80 * sl + m) = Int32.ofNat x.1 ∧ I3 123 (80 * sl + m) = Int32.ofNat x.2)
    {T : Nat → Int32} (hT : T = pm_fo (fun (r : Nat → Int32) (k : Int32) => if I 112 k.toNatClampNeg = x1 ∧ ¬ 0 ≤ r k.toNatClampNeg then pm_w r k.toNatClampNeg (I 80 0) else r) (I 80 5).toNatClampNeg 0 (I 115)) :
    pm_inv X b (pm_u (pm_u (pm_u (pm_u (pm_r (pm_u I3 79 61 0) 115 T) 112 sl x1) 114 sl (I 80 0)) 115 sl (-1)) 80 5 (Int32.ofNat sl + 1)) J3 := by
  obtain ⟨a1, a2, a3, a4, a5⟩ := xe
  obtain ⟨b1, b2, b3, b4, b5, b6⟩ := re
  have hver := hI.1.2.2.2.2.2.2.1
  have ht0 : 0 ≤ I 80 0 := hI.1.1.2.1
  have hv := ver_n hver
  have hl := ver_l hver
  have pe := pf_ends (a := x1) hver
  have g := on_n (a := sl) (by omega)
  rw [← hT] at pe
  generalize hC : (if 0 ≤ pf_inf (I 112) (I 114) (I 115) (I 80 5) x1 (I 80 0) ∧ pf_inf (I 112) (I 114) (I 115) (I 80 5) x1 (I 80 0) < I 80 5 then pm_w (I 21) (5 * (pf_inf (I 112) (I 114) (I 115) (I 80 5) x1 (I 80 0)).toNatClampNeg + 3) (I 80 0) else I 21) = C at u21
  have hver3 : pg_ver (I 20) C (I 22) (I 23) (I 24) (I 25) (I 80 5) (I 80 0) (I 112) (I 113) (I 114) T (I 116) (I 117) (I 118) (I 119) (I 120) (I 121) (I 122) (I 123) := by
    rcases pe with ⟨pe, pv | ⟨p0, p1, p2⟩⟩
    · rw [pv] at hC pe
      rw [if_neg (fun q => absurd q.1 (by decide))] at hC
      rw [if_pos rfl] at pe
      rw [pe, ← hC]; exact hver
    · have n3 : ¬ pf_inf (I 112) (I 114) (I 115) (I 80 5) x1 (I 80 0) = -3 := fun q => by rw [q] at p0; exact absurd p0 (by decide)
      rw [if_neg n3] at pe
      rw [if_pos ⟨p0, p1⟩] at hC
      rw [pe, ← hC]
      exact ver_end hver (pi_tnlt p0 p1) p2 ht0 rfl
  have hall : ∀ v, v < sl → I 112 v = x1 → 0 ≤ T v := fun v hv2 ha => by
    rw [hT]
    exact ends_ge hv.1 hl ht0 (I 80 5).toNatClampNeg 0 (I 115) (Int32.le_refl 0) (by simp) v (by rw [h80, g.2.1]; exact hv2) ha (fun q => absurd q (by simp))
  have c9 : ∀ r, ¬ (20 ≤ r ∧ r ≤ 25) → ¬ r = 40 → ¬ (42 ≤ r ∧ r ≤ 47) → I9 r = I r := fun r p q s => by rw [f9 r p, a1 r q s]
  have c3 : ∀ r, ¬ r = 40 → ¬ (42 ≤ r ∧ r ≤ 47) → ¬ r = 79 → ¬ r = 113 → ¬ (116 ≤ r ∧ r ≤ 123) → ¬ (20 ≤ r ∧ r ≤ 25) → I3 r = I r := fun r q1 q2 q3 q4 q5 q6 => by rw [b1 r q3 q4 q5, c9 r q6 q1 q2]
  generalize hF : pm_u (pm_u (pm_u (pm_u (pm_r (pm_u I3 79 61 0) 115 T) 112 sl x1) 114 sl (I 80 0)) 115 sl (-1)) 80 5 (Int32.ofNat sl + 1) = F
  have z : ∀ r, ¬ r = 79 → ¬ r = 80 → ¬ r = 112 → ¬ r = 114 → ¬ r = 115 → F r = I3 r := fun r q1 q2 q3 q4 q5 => by
    rw [← hF, pm_u_row, if_neg q2, pm_u_row, if_neg q5, pm_u_row, if_neg q4, pm_u_row, if_neg q3, pm_r_row, if_neg q5, pm_u_row, if_neg q1]
  have f79 : F 79 = pm_w (I3 79) 61 0 := by rw [← hF, pm_u_row, if_neg (by decide), pm_u_row, if_neg (by decide), pm_u_row, if_neg (by decide), pm_u_row, if_neg (by decide), pm_r_row, if_neg (by decide), pm_u_row, if_pos rfl]
  have i80 : I3 80 = I 80 := c3 80 (by decide) (by decide) (by decide) (by decide) (by decide) (by decide)
  have f80 : F 80 = pm_w (I 80) 5 (Int32.ofNat sl + 1) := by
    rw [← hF, pm_u_row, if_pos rfl, pm_u_row, if_neg (by decide), pm_u_row, if_neg (by decide), pm_u_row, if_neg (by decide), pm_r_row, if_neg (by decide), pm_u_row, if_neg (by decide), i80]
  have f112 : F 112 = pm_w (I 112) sl x1 := by rw [← hF, pm_u_row, if_neg (by decide), pm_u_row, if_neg (by decide), pm_u_row, if_neg (by decide), pm_u_row, if_pos rfl, pm_r_row, if_neg (by decide), pm_u_row, if_neg (by decide), c3 112 (by decide) (by decide) (by decide) (by decide) (by decide) (by decide)]
  have f114 : F 114 = pm_w (I 114) sl (I 80 0) := by rw [← hF, pm_u_row, if_neg (by decide), pm_u_row, if_neg (by decide), pm_u_row, if_pos rfl, pm_u_row, if_neg (by decide), pm_r_row, if_neg (by decide), pm_u_row, if_neg (by decide), c3 114 (by decide) (by decide) (by decide) (by decide) (by decide) (by decide)]
  have f115 : F 115 = pm_w T sl (-1) := by rw [← hF, pm_u_row, if_neg (by decide), pm_u_row, if_pos rfl, pm_u_row, if_neg (by decide), pm_u_row, if_neg (by decide), pm_r_row, if_pos rfl]
  refine inv_fin hI (fun r hr => ?_) (fun j hj => ?_) (fun j hj => ?_) eJ ⟨?_, ?_, ?_, ?_, ?_⟩ ?_
  · rw [z r (by omega) (by omega) (by omega) (by omega) (by omega)]
    exact c3 r (by omega) (by omega) (by omega) (by omega) (by omega) (by omega)
  · rw [f80, pm_w_ne hj]
  · rw [f79, pm_w_ne (by omega), b2 j hj, c9 79 (by decide) (by decide) (by decide)]
  · rw [z 42 (by decide) (by decide) (by decide) (by decide) (by decide), b1 42 (by decide) (by decide) (by decide), f9 42 (by decide)]; exact a2
  · rw [z 44 (by decide) (by decide) (by decide) (by decide) (by decide), b1 44 (by decide) (by decide) (by decide), f9 44 (by decide)]; exact a3
  · rw [z 46 (by decide) (by decide) (by decide) (by decide) (by decide), b1 46 (by decide) (by decide) (by decide), f9 46 (by decide)]; exact a4
  · rw [z 40 (by decide) (by decide) (by decide) (by decide) (by decide), b1 40 (by decide) (by decide) (by decide), f9 40 (by decide)]; exact a5
  · rw [f79, pm_w_at, if_pos rfl]
  · have e20 : F 20 = I9 20 := by rw [z 20 (by decide) (by decide) (by decide) (by decide) (by decide), b1 20 (by decide) (by decide) (by decide)]
    have e21 : F 21 = I9 21 := by rw [z 21 (by decide) (by decide) (by decide) (by decide) (by decide), b1 21 (by decide) (by decide) (by decide)]
    have e22 : F 22 = I9 22 := by rw [z 22 (by decide) (by decide) (by decide) (by decide) (by decide), b1 22 (by decide) (by decide) (by decide)]
    have e23 : F 23 = I9 23 := by rw [z 23 (by decide) (by decide) (by decide) (by decide) (by decide), b1 23 (by decide) (by decide) (by decide)]
    have e24 : F 24 = I9 24 := by rw [z 24 (by decide) (by decide) (by decide) (by decide) (by decide), b1 24 (by decide) (by decide) (by decide)]
    have e25 : F 25 = I9 25 := by rw [z 25 (by decide) (by decide) (by decide) (by decide) (by decide), b1 25 (by decide) (by decide) (by decide)]
    have zr : ∀ r, r = 113 ∨ (116 ≤ r ∧ r ≤ 123) → F r = I3 r := fun r hr => z r (by omega) (by omega) (by omega) (by omega) (by omega)
    have e805 : F 80 5 = Int32.ofNat (sl + 1) := by rw [f80, pm_w_at, if_pos rfl, on_s]
    have e800 : F 80 0 = I 80 0 := by rw [f80, pm_w_ne (by decide)]
    rw [e20, e21, e22, e23, e24, e25, e805, e800, f112, f114, f115, zr 113 (by decide), zr 116 (by decide), zr 117 (by decide), zr 118 (by decide), zr 119 (by decide), zr 120 (by decide), zr 121 (by decide), zr 122 (by decide), zr 123 (by decide)]
    refine ver_new (a := x1) (sl := sl) (r0 := r0) (s0 := s0) hver3 h80 sl12 ht0 hw hr0 hs0 r0l s0l iv (by omega) hall t1 t2 t3 t4 t5 t6 u21 u23 u25 (fun v hv => pm_w_ne (by omega)) (fun v hv => ?_) (fun v hv => pm_w_ne (by omega)) (fun v hv => pm_w_ne (by omega)) (fun j hj => ?_) (fun j hj => ?_) (by rw [pm_w_at, if_pos rfl]) n113 (by rw [pm_w_at, if_pos rfl]) (by rw [pm_w_at, if_pos rfl]) n21 n23 n25 n_r n_o lo80
    · rw [b4 v (by omega), c9 113 (by decide) (by decide) (by decide)]
    · rw [b6 117 (by decide) (by decide) j hj, b6 118 (by decide) (by decide) j hj, b6 119 (by decide) (by decide) j hj, b6 120 (by decide) (by decide) j hj, b6 121 (by decide) (by decide) j hj, c9 117 (by decide) (by decide) (by decide), c9 118 (by decide) (by decide) (by decide), c9 119 (by decide) (by decide) (by decide), c9 120 (by decide) (by decide) (by decide), c9 121 (by decide) (by decide) (by decide)]
      exact ⟨rfl, rfl, rfl, rfl, rfl⟩
    · rw [(b5 j hj).1, (b5 j hj).2, c9 122 (by decide) (by decide) (by decide), c9 123 (by decide) (by decide) (by decide)]
      exact ⟨rfl, rfl⟩

