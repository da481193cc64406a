/-! THE CALL read: what the shelf of versions takes over. -/
def rd_A1 (I : Nat → Nat → Int32) (s0 j : Nat) (I' : Nat → Nat → Int32) : Prop :=
  (∀ r, ¬ r = 24 → ¬ r = 25 → I' r = I r) ∧ pm_ti (I' 24) 2 1200 ∧ I' 24 3 = Int32.ofNat (s0 + j) ∧ (∀ i, i < 2 * s0 → I' 25 i = I 25 i) ∧ ∀ i, i < j → I' 25 (2 * (s0 + i) + 0) = I 47 (2 * i + 0) ∧ I' 25 (2 * (s0 + i) + 1) = I 47 (2 * i + 1)
def rd_A2 (I : Nat → Nat → Int32) (s0 r0 j : Nat) (I' : Nat → Nat → Int32) : Prop :=
  (∀ r, ¬ r = 22 → ¬ r = 23 → I' r = I r) ∧ pm_ti (I' 22) 5 120 ∧ I' 22 3 = Int32.ofNat (r0 + j) ∧ (∀ i, i < 5 * r0 → I' 23 i = I 23 i) ∧ ∀ i, i < j → I' 23 (5 * (r0 + i) + 0) = I 45 (5 * i + 0) ∧ I' 23 (5 * (r0 + i) + 1) = I 45 (5 * i + 1) ∧ I' 23 (5 * (r0 + i) + 2) = I 45 (5 * i + 2) ∧ I' 23 (5 * (r0 + i) + 3) = Int32.ofNat s0 + I 45 (5 * i + 3) ∧ I' 23 (5 * (r0 + i) + 4) = Int32.ofNat s0 + I 45 (5 * i + 4)
section
variable {d L : Nat} {b : Bool} {I I' : Nat → Nat → Int32} {J : Nat → Nat → Int64} {Q : Int32 → Int64 → pm_H → Prop} {s0 r0 m k : Nat}
theorem px_app1 (t46 : pm_ti (I 46) 2 100) (c46 : I 46 3 = Int32.ofNat m) (hm : m ≤ 100) (hs : s0 + m ≤ 1200) (x2 : Int32)
    (hQ : ∀ I' D, rd_A1 I s0 m I' → pm_wp pm_code pm_meta (d + 1) 40 76 ([.ref 9, .ref 40, .int x2, .int 0, pm_vl D], [], (pm_Gb L b, I', J)) Q) :
    ∀ (q j : Nat) (I' : Nat → Nat → Int32) (D : Option Int32), m - j ≤ q → j ≤ m → rd_A1 I s0 j I' → pm_wp pm_code pm_meta (d + 1) 40 10 ([.ref 9, .ref 40, .int x2, .int (Int32.ofNat j), pm_vl D], [], (pm_Gb L b, I', J)) Q := by
  have done : ∀ (I' : Nat → Nat → Int32) (D : Option Int32), rd_A1 I s0 m I' → pm_wp pm_code pm_meta (d + 1) 40 10 ([.ref 9, .ref 40, .int x2, .int (Int32.ofNat m), pm_vl D], [], (pm_Gb L b, I', J)) Q := fun I' D h => by
    have e46 : I' 46 = I 46 := h.1 46 (by decide) (by decide)
    have z := hQ I' D h
    have le : I' 46 3 ≤ Int32.ofNat m := by rw [e46, c46]; exact Int32.le_refl _
    rcases D with _ | x4
    · rw [pm_vl_n] at z ⊢; rw [pb_40_10, if_pos le, pb_40_74]; exact z
    · rw [pm_vl_s] at z ⊢; rw [pb_40_10b, if_pos le, pb_40_74b]; exact z
  intro q
  induction q with
  | zero =>
    intro j I' D hq hj h
    have e : j = m := by omega
    subst e
    exact done I' D h
  | succ q ih =>
    intro j I' D hq hj h
    by_cases e : j = m
    · subst e
      exact done I' D h
    · obtain ⟨h1, h2, h3, h4, h5⟩ := h
      have e46 : I' 46 = I 46 := h1 46 (by decide) (by decide)
      have gj := on_n (a := j) (by omega)
      have g := on_n (a := s0 + j) (by omega)
      have g2 := on_n (a := s0 + j + 1) (by omega)
      have e1200 : (1200 : Int32).toInt = 1200 := rfl
      have nle : ¬ I' 46 3 ≤ Int32.ofNat j := by rw [e46, c46, on_le (by omega) (by omega)]; omega
      have lt : I' 24 3 < 1200 := by rw [h3, pi_lt, g.2.2, e1200]; omega
      generalize hI2 : pm_u (pm_zr I' 25 (2 * (s0 + j)) (2 * (s0 + j) + 2)) 24 3 (Int32.ofNat (s0 + j + 1)) = I2
      have k1 : ∀ r, ¬ r = 24 → ¬ r = 25 → I2 r = I r := fun r a f => by rw [← hI2, pm_u_row, if_neg a, pm_zr_row, if_neg f]; exact h1 r a f
      have c1 : I2 24 3 = Int32.ofNat (s0 + j + 1) := by rw [← hI2, pm_u_at]
      have t1 : pm_ti (I2 24) 2 1200 := by
        rw [← hI2, pm_u_row, if_pos rfl, pm_zr_row, if_neg (by decide)]
        exact pm_ti_w h2 g2.1 (by rw [pi_le, g2.2.2, e1200]; omega)
      have r1 : ∀ i, i < 2 * (s0 + j) → I2 25 i = I' 25 i := fun i hi => by
        rw [← hI2, pm_u_row, if_neg (by decide), pm_zr_row, if_pos rfl]
        exact pm_zw_out (by omega)
      have i1 : ∀ X1 : Nat → Nat → Int32, X1 24 = I2 24 → 0 ≤ Int32.ofNat (s0 + j) ∧ Int32.ofNat (s0 + j) < X1 24 3 := fun X1 hX => ⟨g.1, by rw [hX, c1, on_lt (by omega) (by omega)]; omega⟩
      have i46 : ∀ X1 : Nat → Nat → Int32, X1 46 = I 46 → 0 ≤ Int32.ofNat j ∧ Int32.ofNat j < X1 46 3 := fun X1 hX => ⟨gj.1, by rw [hX, c46, on_lt (by omega) (by omega)]; omega⟩
      have body : pm_wc pm_code pm_meta d 83 [.ref 46, .int (Int32.ofNat j), .int 0] (pm_Gb L b, I2, J) (fun v w H => pm_wp pm_code pm_meta (d + 1) 40 46 ([.ref 9, .ref 40, .int x2, .int (Int32.ofNat j), .int (Int32.ofNat (s0 + j))], [.int v, .int 0, .int (Int32.ofNat (s0 + j)), .ref 24], H) Q) := by
        have a46 : I2 46 = I 46 := k1 46 (by decide) (by decide)
        have a47 : I2 47 = I 47 := k1 47 (by decide) (by decide)
        rw [pt_get_46_0 (by rw [a46]; exact t46), if_pos (i46 I2 a46), gj.2.1, a47, pb_40_46, pt_set_24_0 t1, if_pos (i1 I2 rfl), g.2.1]
        have b24 : ∀ v, pm_u I2 25 (2 * (s0 + j) + 0) v 24 = I2 24 := fun v => by rw [pm_u_row, if_neg (by decide)]
        have b46 : ∀ v, pm_u I2 25 (2 * (s0 + j) + 0) v 46 = I 46 := fun v => by rw [pm_u_row, if_neg (by decide)]; exact a46
        have b47 : ∀ v, pm_u I2 25 (2 * (s0 + j) + 0) v 47 = I 47 := fun v => by rw [pm_u_row, if_neg (by decide)]; exact a47
        rw [pb_40_49, pt_get_46_1 (by rw [b46]; exact t46), if_pos (i46 _ (b46 _)), gj.2.1, b47, pb_40_65, pt_set_24_1 (by rw [b24]; exact t1), if_pos (i1 _ (b24 _)), g.2.1, pb_40_68, on_s]
        refine ih (j + 1) _ (some (Int32.ofNat (s0 + j))) (by omega) (by omega) ⟨fun r a f => ?_, ?_, ?_, fun i hi => ?_, fun i hi => ?_⟩
        · rw [pm_u_row, if_neg f, pm_u_row, if_neg f]; exact k1 r a f
        · rw [pm_u_row, if_neg (by decide), b24]; exact t1
        · rw [pm_u_row, if_neg (by decide), b24]; exact c1
        · rw [pm_u_row, if_pos rfl, pm_w_ne (by omega), pm_u_row, if_pos rfl, pm_w_ne (by omega), r1 i (by omega)]; exact h4 i hi
        · by_cases q : i = j
          · rw [q]
            refine ⟨?_, pm_u_at _ _ _ _⟩
            rw [pm_u_row, if_pos rfl, pm_w_ne (by omega), pm_u_at]
          · have z := h5 i (by omega)
            have lo : ∀ x, x < 2 * (s0 + j) → ∀ v w, pm_u (pm_u I2 25 (2 * (s0 + j) + 0) v) 25 (2 * (s0 + j) + 1) w 25 x = I' 25 x := fun x hx v w => by
              rw [pm_u_row, if_pos rfl, pm_w_ne (by omega), pm_u_row, if_pos rfl, pm_w_ne (by omega)]; exact r1 x hx
            rw [lo _ (by omega), lo _ (by omega)]
            exact z
      rcases D with _ | x4
      · rw [pm_vl_n, pb_40_10, if_neg nle, pb_40_21, pt_add_24 h2 lt, h3, g.2.1, on_s, hI2, pb_40_28]; exact body
      · rw [pm_vl_s, pb_40_10b, if_neg nle, pb_40_21b, pt_add_24 h2 lt, h3, g.2.1, on_s, hI2, pb_40_28b]; exact body
theorem px_app2 (t44 : pm_ti (I 44) 5 10) (c44 : I 44 3 = Int32.ofNat k) (hk : k ≤ 10) (hr : r0 + k ≤ 120)
    (hQ : ∀ I', rd_A2 I s0 r0 k I' → Q 0 0 (pm_Gb L b, I', J)) :
    ∀ (q j : Nat) (I' : Nat → Nat → Int32) (D : Option Int32), k - j ≤ q → j ≤ k → rd_A2 I s0 r0 j I' → pm_wp pm_code pm_meta (d + 1) 40 76 ([.ref 9, .ref 40, .int (Int32.ofNat s0), .int (Int32.ofNat j), pm_vl D], [], (pm_Gb L b, I', J)) Q := by
  have done : ∀ (I' : Nat → Nat → Int32) (D : Option Int32), rd_A2 I s0 r0 k I' → pm_wp pm_code pm_meta (d + 1) 40 76 ([.ref 9, .ref 40, .int (Int32.ofNat s0), .int (Int32.ofNat k), pm_vl D], [], (pm_Gb L b, I', J)) Q := fun I' D h => by
    have e44 : I' 44 = I 44 := h.1 44 (by decide) (by decide)
    have le : I' 44 3 ≤ Int32.ofNat k := by rw [e44, c44]; exact Int32.le_refl _
    rcases D with _ | x4
    · rw [pm_vl_n, pb_40_76, if_pos le, pb_40_201]; exact hQ I' h
    · rw [pm_vl_s, pb_40_76b, if_pos le, pb_40_201b]; exact hQ I' h
  intro q
  induction q with
  | zero =>
    intro j I' D hq hj h
    have e : j = k := by omega
    subst e
    exact done I' D h
  | succ q ih =>
    intro j I' D hq hj h
    by_cases e : j = k
    · subst e
      exact done I' D h
    · obtain ⟨h1, h2, h3, h4, h5⟩ := h
      have e44 : I' 44 = I 44 := h1 44 (by decide) (by decide)
      have gj := on_n (a := j) (by omega)
      have g := on_n (a := r0 + j) (by omega)
      have g2 := on_n (a := r0 + j + 1) (by omega)
      have e120 : (120 : Int32).toInt = 120 := rfl
      have nle : ¬ I' 44 3 ≤ Int32.ofNat j := by rw [e44, c44, on_le (by omega) (by omega)]; omega
      have lt : I' 22 3 < 120 := by rw [h3, pi_lt, g.2.2, e120]; omega
      generalize hI2 : pm_u (pm_zr I' 23 (5 * (r0 + j)) (5 * (r0 + j) + 5)) 22 3 (Int32.ofNat (r0 + j + 1)) = I2
      have k1 : ∀ r, ¬ r = 22 → ¬ r = 23 → I2 r = I r := fun r a f => by rw [← hI2, pm_u_row, if_neg a, pm_zr_row, if_neg f]; exact h1 r a f
      have c1 : I2 22 3 = Int32.ofNat (r0 + j + 1) := by rw [← hI2, pm_u_at]
      have t1 : pm_ti (I2 22) 5 120 := by
        rw [← hI2, pm_u_row, if_pos rfl, pm_zr_row, if_neg (by decide)]
        exact pm_ti_w h2 g2.1 (by rw [pi_le, g2.2.2, e120]; omega)
      have r1 : ∀ i, i < 5 * (r0 + j) → I2 23 i = I' 23 i := fun i hi => by
        rw [← hI2, pm_u_row, if_neg (by decide), pm_zr_row, if_pos rfl]
        exact pm_zw_out (by omega)
      have i1 : ∀ X1 : Nat → Nat → Int32, X1 22 = I2 22 → 0 ≤ Int32.ofNat (r0 + j) ∧ Int32.ofNat (r0 + j) < X1 22 3 := fun X1 hX => ⟨g.1, by rw [hX, c1, on_lt (by omega) (by omega)]; omega⟩
      have i44 : ∀ X1 : Nat → Nat → Int32, X1 44 = I 44 → 0 ≤ Int32.ofNat j ∧ Int32.ofNat j < X1 44 3 := fun X1 hX => ⟨gj.1, by rw [hX, c44, on_lt (by omega) (by omega)]; omega⟩
      have body : pm_wc pm_code pm_meta d 83 [.ref 44, .int (Int32.ofNat j), .int 0] (pm_Gb L b, I2, J) (fun v w H => pm_wp pm_code pm_meta (d + 1) 40 112 ([.ref 9, .ref 40, .int (Int32.ofNat s0), .int (Int32.ofNat j), .int (Int32.ofNat (r0 + j))], [.int v, .int 0, .int (Int32.ofNat (r0 + j)), .ref 22], H) Q) := by
        have fr : ∀ (X1 : Nat → Nat → Int32) (x : Nat) (v : Int32), (∀ r, ¬ r = 23 → X1 r = I2 r) → ∀ r, ¬ r = 23 → pm_u X1 23 x v r = I2 r := fun X1 x v h r hr => by rw [pm_u_row, if_neg hr]; exact h r hr
        have a44 : ∀ X1 : Nat → Nat → Int32, (∀ r, ¬ r = 23 → X1 r = I2 r) → X1 44 = I 44 := fun X1 h => by rw [h 44 (by decide)]; exact k1 44 (by decide) (by decide)
        have a45 : ∀ X1 : Nat → Nat → Int32, (∀ r, ¬ r = 23 → X1 r = I2 r) → X1 45 = I 45 := fun X1 h => by rw [h 45 (by decide)]; exact k1 45 (by decide) (by decide)
        have w0 : ∀ r, ¬ r = 23 → I2 r = I2 r := fun _ _ => rfl
        have w1 := fr I2 (5 * (r0 + j) + 0) (I 45 (5 * j + 0)) w0
        have w2 := fr _ (5 * (r0 + j) + 1) (I 45 (5 * j + 1)) w1
        have w3 := fr _ (5 * (r0 + j) + 2) (I 45 (5 * j + 2)) w2
        have w4 := fr _ (5 * (r0 + j) + 3) (Int32.ofNat s0 + I 45 (5 * j + 3)) w3
        have w5 := fr _ (5 * (r0 + j) + 4) (Int32.ofNat s0 + I 45 (5 * j + 4)) w4
        rw [pt_get_44_0 (by rw [a44 _ w0]; exact t44), if_pos (i44 _ (a44 _ w0)), gj.2.1, a45 _ w0, pb_40_112, pt_set_22_0 t1, if_pos (i1 I2 rfl), g.2.1]
        rw [pb_40_115, pt_get_44_1 (by rw [a44 _ w1]; exact t44), if_pos (i44 _ (a44 _ w1)), gj.2.1, a45 _ w1, pb_40_131, pt_set_22_1 (by rw [w1 22 (by decide)]; exact t1), if_pos (i1 _ (w1 22 (by decide))), g.2.1]
        rw [pb_40_134, pt_get_44_2 (by rw [a44 _ w2]; exact t44), if_pos (i44 _ (a44 _ w2)), gj.2.1, a45 _ w2, pb_40_150, pt_set_22_2 (by rw [w2 22 (by decide)]; exact t1), if_pos (i1 _ (w2 22 (by decide))), g.2.1]
        rw [pb_40_153, pt_get_44_3 (by rw [a44 _ w3]; exact t44), if_pos (i44 _ (a44 _ w3)), gj.2.1, a45 _ w3, pb_40_170, pt_set_22_3 (by rw [w3 22 (by decide)]; exact t1), if_pos (i1 _ (w3 22 (by decide))), g.2.1]
        rw [pb_40_174, pt_get_44_4 (by rw [a44 _ w4]; exact t44), if_pos (i44 _ (a44 _ w4)), gj.2.1, a45 _ w4, pb_40_191, pt_set_22_4 (by rw [w4 22 (by decide)]; exact t1), if_pos (i1 _ (w4 22 (by decide))), g.2.1, pb_40_195, on_s]
        have lo : ∀ v w x y z i, i < 5 * (r0 + j) → pm_u (pm_u (pm_u (pm_u (pm_u I2 23 (5 * (r0 + j) + 0) v) 23 (5 * (r0 + j) + 1) w) 23 (5 * (r0 + j) + 2) x) 23 (5 * (r0 + j) + 3) y) 23 (5 * (r0 + j) + 4) z 23 i = I' 23 i := fun v w x y z i hi => by
          rw [pm_u_row, if_pos rfl, pm_w_ne (by omega), pm_u_row, if_pos rfl, pm_w_ne (by omega), pm_u_row, if_pos rfl, pm_w_ne (by omega), pm_u_row, if_pos rfl, pm_w_ne (by omega), pm_u_row, if_pos rfl, pm_w_ne (by omega)]
          exact r1 i hi
        refine ih (j + 1) _ (some (Int32.ofNat (r0 + j))) (by omega) (by omega) ⟨fun r a f => ?_, ?_, ?_, fun i hi => ?_, fun i hi => ?_⟩
        · rw [w5 r f]; exact k1 r a f
        · rw [w5 22 (by decide)]; exact t1
        · rw [w5 22 (by decide)]; exact c1
        · rw [lo _ _ _ _ _ _ (by omega)]; exact h4 i hi
        · by_cases q : i = j
          · rw [q]
            refine ⟨?_, ?_, ?_, ?_, pm_u_at _ _ _ _⟩
            · rw [pm_u_row, if_pos rfl, pm_w_ne (by omega), pm_u_row, if_pos rfl, pm_w_ne (by omega), pm_u_row, if_pos rfl, pm_w_ne (by omega), pm_u_row, if_pos rfl, pm_w_ne (by omega), pm_u_at]
            · rw [pm_u_row, if_pos rfl, pm_w_ne (by omega), pm_u_row, if_pos rfl, pm_w_ne (by omega), pm_u_row, if_pos rfl, pm_w_ne (by omega), pm_u_at]
            · rw [pm_u_row, if_pos rfl, pm_w_ne (by omega), pm_u_row, if_pos rfl, pm_w_ne (by omega), pm_u_at]
            · rw [pm_u_row, if_pos rfl, pm_w_ne (by omega), pm_u_at]
          · have z := h5 i (by omega)
            rw [lo _ _ _ _ _ _ (by omega), lo _ _ _ _ _ _ (by omega), lo _ _ _ _ _ _ (by omega), lo _ _ _ _ _ _ (by omega), lo _ _ _ _ _ _ (by omega)]
            exact z
      rcases D with _ | x4
      · rw [pm_vl_n, pb_40_76, if_neg nle, pb_40_87, pt_add_22 h2 lt, h3, g.2.1, on_s, hI2, pb_40_94]; exact body
      · rw [pm_vl_s, pb_40_76b, if_neg nle, pb_40_87b, pt_add_22 h2 lt, h3, g.2.1, on_s, hI2, pb_40_94b]; exact body
/-- signs and rules go over -/
theorem px_append (t46 : pm_ti (I 46) 2 100) (c46 : I 46 3 = Int32.ofNat m) (hm : m ≤ 100) (hs : s0 + m ≤ 1200) (t44 : pm_ti (I 44) 5 10) (c44 : I 44 3 = Int32.ofNat k) (hk : k ≤ 10) (hr : r0 + k ≤ 120) (t24 : pm_ti (I 24) 2 1200) (c24 : I 24 3 = Int32.ofNat s0) (t22 : pm_ti (I 22) 5 120) (c22 : I 22 3 = Int32.ofNat r0)
    (hQ : ∀ I1 I2, rd_A1 I s0 m I1 → rd_A2 I1 s0 r0 k I2 → Q 0 0 (pm_Gb L b, I2, J)) : pm_wc pm_code pm_meta (d + 1) 40 [.ref 9, .ref 40] (pm_Gb L b, I, J) Q := by
  rw [pb_40_0, c24]
  refine px_app1 t46 c46 hm hs (Int32.ofNat s0) (fun I1 D h1 => ?_) m 0 I none (by omega) (Nat.zero_le _) ⟨fun _ _ _ => rfl, t24, c24, fun _ _ => rfl, fun i hi => absurd hi (by omega)⟩
  have e44 : I1 44 = I 44 := h1.1 44 (by decide) (by decide)
  have e22 : I1 22 = I 22 := h1.1 22 (by decide) (by decide)
  exact px_app2 (by rw [e44]; exact t44) (by rw [e44]; exact c44) hk hr (fun I2 h2 => hQ I1 I2 h1 h2) k 0 I1 D (by omega) (Nat.zero_le _) ⟨fun _ _ _ => rfl, by rw [e22]; exact t22, by rw [e22]; exact c22, fun _ _ => rfl, fun i hi => absurd hi (by omega)⟩
end

