/-! THE CALL read: the class adds a version. -/
theorem px_add {d L : Nat} {b : Bool} {I : Nat → Nat → Int32} {J : Nat → Nat → Int64} {Q : Int32 → Int64 → pm_H → Prop} {x1 x2 today : Int32} {sl r0 s0 k m : Nat} {act rules fr till ops sort kinds rank rops rend opis opof : Nat → Int32}
    (h : pg_ver (I 20) (I 21) (I 22) (I 23) (I 24) (I 25) (Int32.ofNat sl) today act rules fr till ops sort kinds rank rops rend opis opof) (ht : I 9 0 = today) (sl12 : sl < 12)
    (t46 : pm_ti (I 46) 2 100) (c46 : I 46 3 = Int32.ofNat m) (hm : m ≤ 100) (t44 : pm_ti (I 44) 5 10) (c44 : I 44 3 = Int32.ofNat k) (hk : k ≤ 10) (c24 : I 24 3 = Int32.ofNat s0) (c22 : I 22 3 = Int32.ofNat r0) (r0l : r0 ≤ 10 * sl) (s0l : s0 ≤ 100 * sl)
    (hQ : ∀ I', (∀ r, ¬ (20 ≤ r ∧ r ≤ 25) → I' r = I r) → pm_ti (I' 20) 5 12 → I' 20 3 = Int32.ofNat (sl + 1) → pm_ti (I' 22) 5 120 → I' 22 3 = Int32.ofNat (r0 + k) → pm_ti (I' 24) 2 1200 → I' 24 3 = Int32.ofNat (s0 + m) →
      (∀ j, j < 5 * sl → I' 21 j = (if 0 ≤ pf_inf act fr till (Int32.ofNat sl) x1 today ∧ pf_inf act fr till (Int32.ofNat sl) x1 today < Int32.ofNat sl then pm_w (I 21) (5 * (pf_inf act fr till (Int32.ofNat sl) x1 today).toNatClampNeg + 3) today else I 21) j) →
      (∀ j, j < 5 * r0 → I' 23 j = I 23 j) → (∀ j, j < 2 * s0 → I' 25 j = I 25 j) →
      (I' 21 (5 * sl + 0) = x1 ∧ I' 21 (5 * sl + 1) = Int32.ofNat k ∧ I' 21 (5 * sl + 2) = today ∧ I' 21 (5 * sl + 3) = -3 ∧ I' 21 (5 * sl + 4) = Int32.ofNat r0) →
      (∀ i, i < k → I' 23 (5 * (r0 + i) + 0) = I 45 (5 * i + 0) ∧ I' 23 (5 * (r0 + i) + 1) = I 45 (5 * i + 1) ∧ I' 23 (5 * (r0 + i) + 2) = I 45 (5 * i + 2) ∧ I' 23 (5 * (r0 + i) + 3) = Int32.ofNat s0 + I 45 (5 * i + 3) ∧ I' 23 (5 * (r0 + i) + 4) = Int32.ofNat s0 + I 45 (5 * i + 4)) →
      (∀ i, i < m → I' 25 (2 * (s0 + i) + 0) = I 47 (2 * i + 0) ∧ I' 25 (2 * (s0 + i) + 1) = I 47 (2 * i + 1)) → Q (Int32.ofNat sl) 0 (pm_Gb L b, I', J)) :
    pm_wp pm_code pm_meta (d + 3) 133 54 ([.ref 8, .int x1, .int x2, pm_unset], [], (pm_Gb L b, I, J)) Q := by
  have g := on_n (a := sl) (by omega)
  have g2 := on_n (a := sl + 1) (by omega)
  have e12 : (12 : Int32).toInt = 12 := rfl
  have t20 := h.1.1
  have c20 : I 20 3 = Int32.ofNat sl := h.1.2.1
  have t22 := h.1.2.2.1
  have t24 := h.1.2.2.2
  rw [pb_133_54, px_end h ht]
  generalize hI3 : (if 0 ≤ pf_inf act fr till (Int32.ofNat sl) x1 today ∧ pf_inf act fr till (Int32.ofNat sl) x1 today < Int32.ofNat sl then pm_u I 21 (5 * (pf_inf act fr till (Int32.ofNat sl) x1 today).toNatClampNeg + 3) today else I) = I3
  have r3 : ∀ r, ¬ r = 21 → I3 r = I r := fun r hr => by
    rw [← hI3]; split
    · rw [pm_u_row, if_neg hr]
    · rfl
  have r21 : I3 21 = (if 0 ≤ pf_inf act fr till (Int32.ofNat sl) x1 today ∧ pf_inf act fr till (Int32.ofNat sl) x1 today < Int32.ofNat sl then pm_w (I 21) (5 * (pf_inf act fr till (Int32.ofNat sl) x1 today).toNatClampNeg + 3) today else I 21) := by
    rw [← hI3]; split
    · rw [pm_u_row, if_pos rfl]
    · rfl
  rw [← r21] at hQ
  have lt : I3 20 3 < 12 := by rw [r3 20 (by decide), c20, pi_lt, g.2.2, e12]; omega
  rw [pb_133_62, pt_add_20 (by rw [r3 20 (by decide)]; exact t20) lt, r3 20 (by decide), c20, g.2.1, on_s]
  generalize hI4 : pm_u (pm_zr I3 21 (5 * sl) (5 * sl + 5)) 20 3 (Int32.ofNat (sl + 1)) = I4
  have k4 : ∀ r, ¬ r = 20 → ¬ r = 21 → I4 r = I r := fun r a f => by rw [← hI4, pm_u_row, if_neg a, pm_zr_row, if_neg f]; exact r3 r f
  have c4 : I4 20 3 = Int32.ofNat (sl + 1) := by rw [← hI4, pm_u_at]
  have t4 : pm_ti (I4 20) 5 12 := by
    rw [← hI4, pm_u_row, if_pos rfl, pm_zr_row, if_neg (by decide), r3 20 (by decide)]
    exact pm_ti_w t20 g2.1 (by rw [pi_le, g2.2.2, e12]; omega)
  have l4 : ∀ i, i < 5 * sl → I4 21 i = I3 21 i := fun i hi => by
    rw [← hI4, pm_u_row, if_neg (by decide), pm_zr_row, if_pos rfl]
    exact pm_zw_out (by omega)
  have i4 : ∀ X1 : Nat → Nat → Int32, X1 20 = I4 20 → 0 ≤ Int32.ofNat sl ∧ Int32.ofNat sl < X1 20 3 := fun X1 hX => ⟨g.1, by rw [hX, c4, on_lt (by omega) (by omega)]; omega⟩
  have fr' : ∀ (X1 : Nat → Nat → Int32) (x : Nat) (v : Int32), (∀ r, ¬ r = 21 → X1 r = I4 r) → ∀ r, ¬ r = 21 → pm_u X1 21 x v r = I4 r := fun X1 x v h r hr => by rw [pm_u_row, if_neg hr]; exact h r hr
  have w0 : ∀ r, ¬ r = 21 → I4 r = I4 r := fun _ _ => rfl
  have w1 := fr' I4 (5 * sl + 0) x1 w0
  have w2 := fr' _ (5 * sl + 1) (Int32.ofNat k) w1
  have w3 := fr' _ (5 * sl + 2) today w2
  have w4 := fr' _ (5 * sl + 3) (-3) w3
  have w5 := fr' _ (5 * sl + 4) (Int32.ofNat r0) w4
  rw [pb_133_73, pt_set_20_0 t4, if_pos (i4 I4 rfl), g.2.1]
  rw [pb_133_87, w1 44 (by decide), k4 44 (by decide) (by decide), c44, pt_set_20_1 (by rw [w1 20 (by decide)]; exact t4), if_pos (i4 _ (w1 20 (by decide))), g.2.1]
  rw [pb_133_109, w2 9 (by decide), k4 9 (by decide) (by decide), ht, pt_set_20_2 (by rw [w2 20 (by decide)]; exact t4), if_pos (i4 _ (w2 20 (by decide))), g.2.1]
  rw [pb_133_128, pt_set_20_3 (by rw [w3 20 (by decide)]; exact t4), if_pos (i4 _ (w3 20 (by decide))), g.2.1]
  rw [pb_133_142, w4 22 (by decide), k4 22 (by decide) (by decide), c22, pt_set_20_4 (by rw [w4 20 (by decide)]; exact t4), if_pos (i4 _ (w4 20 (by decide))), g.2.1]
  rw [pb_133_164]
  have low : ∀ v w x y z i, i < 5 * sl → pm_u (pm_u (pm_u (pm_u (pm_u I4 21 (5 * sl + 0) v) 21 (5 * sl + 1) w) 21 (5 * sl + 2) x) 21 (5 * sl + 3) y) 21 (5 * sl + 4) z 21 i = I3 21 i := fun v w x y z i hi => by
    rw [pm_u_row, if_pos rfl, pm_w_ne (by omega), pm_u_row, if_pos rfl, pm_w_ne (by omega), pm_u_row, if_pos rfl, pm_w_ne (by omega), pm_u_row, if_pos rfl, pm_w_ne (by omega), pm_u_row, if_pos rfl, pm_w_ne (by omega)]
    exact l4 i hi
  have at0 : ∀ v w x y z, pm_u (pm_u (pm_u (pm_u (pm_u I4 21 (5 * sl + 0) v) 21 (5 * sl + 1) w) 21 (5 * sl + 2) x) 21 (5 * sl + 3) y) 21 (5 * sl + 4) z 21 (5 * sl + 0) = v ∧ pm_u (pm_u (pm_u (pm_u (pm_u I4 21 (5 * sl + 0) v) 21 (5 * sl + 1) w) 21 (5 * sl + 2) x) 21 (5 * sl + 3) y) 21 (5 * sl + 4) z 21 (5 * sl + 1) = w ∧ pm_u (pm_u (pm_u (pm_u (pm_u I4 21 (5 * sl + 0) v) 21 (5 * sl + 1) w) 21 (5 * sl + 2) x) 21 (5 * sl + 3) y) 21 (5 * sl + 4) z 21 (5 * sl + 2) = x ∧ pm_u (pm_u (pm_u (pm_u (pm_u I4 21 (5 * sl + 0) v) 21 (5 * sl + 1) w) 21 (5 * sl + 2) x) 21 (5 * sl + 3) y) 21 (5 * sl + 4) z 21 (5 * sl + 3) = y ∧ pm_u (pm_u (pm_u (pm_u (pm_u I4 21 (5 * sl + 0) v) 21 (5 * sl + 1) w) 21 (5 * sl + 2) x) 21 (5 * sl + 3) y) 21 (5 * sl + 4) z 21 (5 * sl + 4) = z := fun v w x y z => by
    refine ⟨?_, ?_, ?_, ?_, pm_u_at _ _ _ _⟩
    · rw [pm_u_row, if_pos rfl, pm_w_ne (by omega), pm_u_row, if_pos rfl, pm_w_ne (by omega), pm_u_row, if_pos rfl, pm_w_ne (by omega), pm_u_row, if_pos rfl, pm_w_ne (by omega), pm_u_at]
    · rw [pm_u_row, if_pos rfl, pm_w_ne (by omega), pm_u_row, if_pos rfl, pm_w_ne (by omega), pm_u_row, if_pos rfl, pm_w_ne (by omega), pm_u_at]
    · rw [pm_u_row, if_pos rfl, pm_w_ne (by omega), pm_u_row, if_pos rfl, pm_w_ne (by omega), pm_u_at]
    · rw [pm_u_row, if_pos rfl, pm_w_ne (by omega), pm_u_at]
  have l5 := low x1 (Int32.ofNat k) today (-3) (Int32.ofNat r0)
  have a5 := at0 x1 (Int32.ofNat k) today (-3) (Int32.ofNat r0)
  generalize pm_u (pm_u (pm_u (pm_u (pm_u I4 21 (5 * sl + 0) x1) 21 (5 * sl + 1) (Int32.ofNat k)) 21 (5 * sl + 2) today) 21 (5 * sl + 3) (-3)) 21 (5 * sl + 4) (Int32.ofNat r0) = I5 at w5 l5 a5 ⊢
  have z5 : ∀ r, ¬ r = 20 → ¬ r = 21 → I5 r = I r := fun r a f => by rw [w5 r f]; exact k4 r a f
  refine px_append (d := d + 1) (s0 := s0) (r0 := r0) (m := m) (k := k) (by rw [z5 46 (by decide) (by decide)]; exact t46) (by rw [z5 46 (by decide) (by decide)]; exact c46) hm (by omega) (by rw [z5 44 (by decide) (by decide)]; exact t44) (by rw [z5 44 (by decide) (by decide)]; exact c44) hk (by omega) (by rw [z5 24 (by decide) (by decide)]; exact t24) (by rw [z5 24 (by decide) (by decide)]; exact c24) (by rw [z5 22 (by decide) (by decide)]; exact t22) (by rw [z5 22 (by decide) (by decide)]; exact c22) (fun I6 I7 h6 h7 => ?_)
  obtain ⟨p1, p2, p3, p4, p5⟩ := h6
  obtain ⟨q1, q2, q3, q4, q5⟩ := h7
  rw [pb_133_175]
  refine hQ I7 (fun r hr => ?_) ?_ ?_ q2 q3 ?_ ?_ (fun j hj => ?_) (fun j hj => ?_) (fun j hj => ?_) ?_ (fun i hi => ?_) (fun i hi => ?_)
  · rw [q1 r (by omega) (by omega), p1 r (by omega) (by omega), z5 r (by omega) (by omega)]
  · rw [q1 20 (by decide) (by decide), p1 20 (by decide) (by decide), w5 20 (by decide)]; exact t4
  · rw [q1 20 (by decide) (by decide), p1 20 (by decide) (by decide), w5 20 (by decide)]; exact c4
  · rw [q1 24 (by decide) (by decide)]; exact p2
  · rw [q1 24 (by decide) (by decide)]; exact p3
  · rw [q1 21 (by decide) (by decide), p1 21 (by decide) (by decide)]; exact l5 j hj
  · rw [q4 j hj, p1 23 (by decide) (by decide), z5 23 (by decide) (by decide)]
  · rw [q1 25 (by decide) (by decide), p4 j hj, z5 25 (by decide) (by decide)]
  · rw [q1 21 (by decide) (by decide), p1 21 (by decide) (by decide)]; exact a5
  · have z := q5 i hi
    rw [p1 45 (by decide) (by decide), z5 45 (by decide) (by decide)] at z
    exact z
  · have z := p5 i hi
    rw [z5 47 (by decide) (by decide)] at z
    rw [q1 25 (by decide) (by decide)]
    exact z

