/-! THE CALL read: a rule, on both sides. -/
def rd_cu (k so ki rk fr : Nat) (I : Nat → Nat → Int32) : Prop := I 117 k = Int32.ofNat so ∧ I 118 k = Int32.ofNat ki ∧ I 119 k = (if so = 2 then Int32.ofNat rk else -1) ∧ I 120 k = Int32.ofNat fr
section
variable {d L : Nat} {b : Bool} {I I' : Nat → Nat → Int32} {J J' : Nat → Nat → Int64} {Q : Int32 → Int64 → pm_H → Prop} {c : Nat → Nat} {n sl i i' N : Nat} {I0 : Nat → Nat → Int32} {J0 : Nat → Nat → Int64} {ops ops' : List (Nat × Nat)} {rs : List (Nat × Nat × Nat × Nat × Nat)}
theorem cu_q {k so ki rk fr : Nat} (h : rd_cu k so ki rk fr I) (q : rd_rq c n sl I J i' ops' 0 I' J') : rd_cu k so ki rk fr I' := by
  unfold rd_cu at h ⊢
  rw [q.1 117 (by decide) (by decide) (by decide) (by decide), q.1 118 (by decide) (by decide) (by decide) (by decide), q.1 119 (by decide) (by decide) (by decide) (by decide), q.1 120 (by decide) (by decide) (by decide) (by decide)]
  exact h
theorem zf_fl {f : Nat} (n3 : n ≤ 300) (h : rd_zf c n sl I0 J0 f I J) : 0 ≤ I 79 68 := by
  rw [h.2.1]; exact (on_n (by have := (pt_le (c := c) (n := n) f).2.2; omega)).1
theorem zf_69 {f : Nat} (fx : rd_fx c n sl I0) (h : rd_zf c n sl I0 J0 f I J) : I 79 69 = Int32.ofNat sl := by
  rw [h.1.2.1 69 (by decide) (by decide) (by decide) (by decide) (by decide) (by decide)]; exact fx.2.2.2.2.1
/-- the end of a rule -/
theorem pr_ruleD {so ki rk fr : Nat} {x2 : Int32} (fx : rd_fx c n sl I0) (h : rd_rr c n sl I0 J0 i ops rs I J) (hr : rs.length < 10) (hl : ops.length ≤ 80) (cu : rd_cu (10 * sl + rs.length) so ki rk fr I) (hY : rd_sg c n i = 59 → ∀ I' J', rd_rr c n sl I0 J0 (i + 1) ops (rs ++ [(so, ki, rk, fr, ops.length)]) I' J' → Q 0 0 (pm_Gb L b, I', J')) (hN : ¬ rd_sg c n i = 59 → ∀ I' J', rd_zf c n sl I0 J0 i I' J' → Q 0 0 (pm_Gb L b, I', J')) : pm_wp pm_code pm_meta (d + 4) 230 171 ([.ref 79, .int (Int32.ofNat (10 * sl + rs.length)), .int x2], [], (pm_Gb L b, I, J)) Q := by
  have sl12 := fx.2.2.2.2.2
  have g := on_n (a := sl) (by omega)
  have gk := on_n (a := 10 * sl + rs.length) (by omega)
  have p13 : pm_in (Int32.ofNat sl) 13 = true := pi_in g.1 (by rw [g.2.2]; omega)
  have pk : pm_in (Int32.ofNat (10 * sl + rs.length)) 130 = true := pi_in gk.1 (by rw [gk.2.2]; omega)
  have e69 : I 79 69 = Int32.ofNat sl := (fx_rr fx h).2.2.2.2.1
  have e116 : I 116 sl = Int32.ofNat ops.length := h.2.2.2.2.2.2.2.2.2.1
  rw [pb_230_171, e69, g.2.1, gk.2.1, e116]
  refine ⟨p13, pk, ?_⟩
  have r1 := rr_w (r := 121) (k := 10 * sl + rs.length) (v := Int32.ofNat ops.length) (by omega) (Nat.le_refl _) h
  have cu1 : rd_cu (10 * sl + rs.length) so ki rk fr (pm_u I 121 (10 * sl + rs.length) (Int32.ofNat ops.length)) := by
    have nr : ∀ s, ¬ s = 121 → pm_u I 121 (10 * sl + rs.length) (Int32.ofNat ops.length) s = I s := fun s hs => by rw [pm_u_row, if_neg hs]
    unfold rd_cu at cu ⊢
    rw [nr 117 (by decide), nr 118 (by decide), nr 119 (by decide), nr 120 (by decide)]; exact cu
  have a121 : (pm_u I 121 (10 * sl + rs.length) (Int32.ofNat ops.length)) 121 (10 * sl + rs.length) = Int32.ofNat ops.length := pm_u_at _ _ _ _
  generalize pm_u I 121 (10 * sl + rs.length) (Int32.ofNat ops.length) = I1 at r1 cu1 a121 ⊢
  refine pr_mustSign (d := d + 1) (fx_rr fx r1) (s := 59) (by decide) (by decide) (by decide) r1.2.2.2 hl (fun e I2 J2 h2 => ?_) (fun e I2 h2 => ?_)
  · have r2 := rr_q r1 h2
    have cu2 := cu_q cu1 h2
    have b121 : I2 121 (10 * sl + rs.length) = Int32.ofNat ops.length := by rw [h2.1 121 (by decide) (by decide) (by decide) (by decide)]; exact a121
    have f69 : I2 79 69 = Int32.ofNat sl := (fx_rr fx r2).2.2.2.2.1
    rw [pb_230_192, f69, g.2.1, r2.2.1, on_s]
    refine ⟨p13, p13, hY e _ J2 ?_⟩
    obtain ⟨⟨a1, a2, a3, a4, a5, a6⟩, h1, h2, q1, q2, q3, q4, q5, q6, q7, q8, q9, q10⟩ := r2
    have nr : ∀ s, ¬ s = 113 → pm_u I2 113 sl (Int32.ofNat (rs.length + 1)) s = I2 s := fun s hs => by rw [pm_u_row, if_neg hs]
    refine ⟨⟨fun s a e f => ?_, fun j b1 b2 b3 b4 b5 b6 => ?_, a3, fun j hj => ⟨?_, ?_⟩, fun j hj => ?_, fun s g1 g2 j hj => ?_⟩, ?_, fun m x hx => ?_, fun _ _ _ _ _ => rfl, fun _ _ _ _ _ _ _ => rfl, fun _ _ => rfl, ?_, ?_, fun _ _ => rfl, ?_, fun _ _ => ⟨rfl, rfl⟩, fun m x hx => ?_, ?_⟩
    · rw [nr s e]; exact a1 s a e f
    · rw [nr 79 (by decide)]; exact a2 j b1 b2 b3 b4 b5 b6
    · rw [pm_u_row, if_pos rfl, pm_w_ne hj]; exact (a4 j hj).1
    · rw [nr 116 (by decide)]; exact (a4 j hj).2
    · rw [nr 122 (by decide), nr 123 (by decide)]; exact a5 j hj
    · rw [nr s (by omega)]; exact a6 s g1 g2 j hj
    · rw [pm_u_at, List.length_append]; rfl
    · rw [nr 117 (by decide), nr 118 (by decide), nr 119 (by decide), nr 120 (by decide), nr 121 (by decide)]
      rcases ls_snoc hx with ⟨g1, g2⟩ | ⟨g1, g2⟩
      · exact h2 m x g2
      · rw [g1, g2]
        exact ⟨cu2.1, cu2.2.1, cu2.2.2.1, cu2.2.2.2, b121⟩
    · rw [nr 79 (by decide)]; exact q4
    · rw [nr 79 (by decide)]; exact q5
    · rw [nr 116 (by decide)]; exact q7
    · rw [nr 122 (by decide), nr 123 (by decide)]; exact q9 m x hx
    · unfold rd_rt at q10 ⊢
      rw [nr 79 (by decide)]; exact q10
  · have z := rr_f r1 (by omega) h2
    have f69 := zf_69 fx z
    rw [pb_230_192, f69, g.2.1]
    refine ⟨p13, p13, hN e _ _ ?_⟩
    obtain ⟨⟨a1, a2, a3, a4, a5, a6⟩, h1, h2⟩ := z
    have nr : ∀ s, ¬ s = 113 → pm_u I2 113 sl (I2 113 sl + 1) s = I2 s := fun s hs => by rw [pm_u_row, if_neg hs]
    refine ⟨⟨fun s a e f => ?_, fun j b1 b2 b3 b4 b5 b6 => ?_, a3, fun j hj => ⟨?_, ?_⟩, fun j hj => ?_, fun s g1 g2 j hj => ?_⟩, ?_, ?_⟩
    · rw [nr s e]; exact a1 s a e f
    · rw [nr 79 (by decide)]; exact a2 j b1 b2 b3 b4 b5 b6
    · rw [pm_u_row, if_pos rfl, pm_w_ne hj]; exact (a4 j hj).1
    · rw [nr 116 (by decide)]; exact (a4 j hj).2
    · rw [nr 122 (by decide), nr 123 (by decide)]; exact a5 j hj
    · rw [nr s (by omega)]; exact a6 s g1 g2 j hj
    · rw [nr 79 (by decide)]; exact h1
    · rw [nr 116 (by decide)]; exact h2
theorem pr_ruleDf {f k : Nat} {x2 : Int32} (fx : rd_fx c n sl I0) (hk : 10 * sl ≤ k) (hk2 : k < 130) (h : rd_zf c n sl I0 J0 f I J) (hN : ∀ I' J', rd_zf c n sl I0 J0 f I' J' → Q 0 0 (pm_Gb L b, I', J')) : pm_wp pm_code pm_meta (d + 4) 230 171 ([.ref 79, .int (Int32.ofNat k), .int x2], [], (pm_Gb L b, I, J)) Q := by
  have sl12 := fx.2.2.2.2.2
  have n3 := fx.2.2.2.1
  have g := on_n (a := sl) (by omega)
  have gk := on_n (a := k) (by omega)
  have p13 : pm_in (Int32.ofNat sl) 13 = true := pi_in g.1 (by rw [g.2.2]; omega)
  have pk : pm_in (Int32.ofNat k) 130 = true := pi_in gk.1 (by rw [gk.2.2]; omega)
  rw [pb_230_171, zf_69 fx h, g.2.1, gk.2.1]
  refine ⟨p13, pk, ?_⟩
  have z := zf_w (r := 121) (k := k) (v := I 116 sl) (by omega) hk h
  generalize pm_u I 121 k (I 116 sl) = I1 at z ⊢
  rw [pr_mustSign_f (zf_fl n3 z), pb_230_192, zf_69 fx z, g.2.1]
  refine ⟨p13, p13, hN _ _ ?_⟩
  obtain ⟨⟨a1, a2, a3, a4, a5, a6⟩, h1, h2⟩ := z
  have nr : ∀ s, ¬ s = 113 → pm_u I1 113 sl (I1 113 sl + 1) s = I1 s := fun s hs => by rw [pm_u_row, if_neg hs]
  refine ⟨⟨fun s a e f => ?_, fun j b1 b2 b3 b4 b5 b6 => ?_, a3, fun j hj => ⟨?_, ?_⟩, fun j hj => ?_, fun s g1 g2 j hj => ?_⟩, ?_, ?_⟩
  · rw [nr s e]; exact a1 s a e f
  · rw [nr 79 (by decide)]; exact a2 j b1 b2 b3 b4 b5 b6
  · rw [pm_u_row, if_pos rfl, pm_w_ne hj]; exact (a4 j hj).1
  · rw [nr 116 (by decide)]; exact (a4 j hj).2
  · rw [nr 122 (by decide), nr 123 (by decide)]; exact a5 j hj
  · rw [nr s (by omega)]; exact a6 s g1 g2 j hj
  · rw [nr 79 (by decide)]; exact h1
  · rw [nr 116 (by decide)]; exact h2
theorem pr_ruleCf {f k : Nat} {x2 : Int32} (fx : rd_fx c n sl I0) (hk : 10 * sl ≤ k) (hk2 : k < 130) (h : rd_zf c n sl I0 J0 f I J) (hN : ∀ I' J', rd_zf c n sl I0 J0 f I' J' → Q 0 0 (pm_Gb L b, I', J')) : pm_wp pm_code pm_meta (d + 4) 230 142 ([.ref 79, .int (Int32.ofNat k), .int x2], [], (pm_Gb L b, I, J)) Q := by
  have sl12 := fx.2.2.2.2.2
  have n3 := fx.2.2.2.1
  have g := on_n (a := sl) (by omega)
  have gk := on_n (a := k) (by omega)
  have p13 : pm_in (Int32.ofNat sl) 13 = true := pi_in g.1 (by rw [g.2.2]; omega)
  have pk : pm_in (Int32.ofNat k) 130 = true := pi_in gk.1 (by rw [gk.2.2]; omega)
  rw [pb_230_142, zf_69 fx h, g.2.1, gk.2.1]
  refine ⟨p13, pk, ?_⟩
  have z := zf_w (r := 120) (k := k) (v := I 116 sl) (by omega) hk h
  generalize pm_u I 120 k (I 116 sl) = I1 at z ⊢
  rw [pr_may_f (zf_fl n3 z), pb_230_164, if_pos rfl]
  exact pr_ruleDf fx hk hk2 z hN
/-- the class's end of a rule -/
theorem px_ruleD {so ki rk fr : Nat} {x1 x2 : Int32} (hN3 : N ≤ 300) (cb : ∀ p, p < n → c p ≤ 255) (hi : i ≤ N) (tk : rd_tk c n (N + 1) I0) (h : rd_xr c n N I0 i ops rs I) (hr : rs.length < 10) (e1 : x1 = Int32.ofNat so) (e2 : x2 = if so = 2 then Int32.ofNat rk else -3) (e5 : I 40 5 = Int32.ofNat ki) (hY : rd_sg c n i = 59 → ∀ I', rd_xr c n N I0 (i + 1) ops (rs ++ [(so, ki, rk, fr, ops.length)]) I' → Q 1 0 (pm_Gb L b, I', J)) (hN : ¬ rd_sg c n i = 59 → ∀ I', rd_yf I0 i I' → Q 0 0 (pm_Gb L b, I', J)) : pm_wp pm_code pm_meta (d + 4) 105 106 ([.ref 40, .int x1, .int x2, .int (Int32.ofNat fr), pm_unset], [], (pm_Gb L b, I, J)) Q := by
  have sgb : rd_sg c n i ≤ 258 := by
    unfold rd_sg
    split
    · rename_i hh
      have := cb _ hh
      split
      · decide
      · split
        · decide
        · omega
    · decide
  rw [pb_105_106, px_sortI (xr_tk tk h) h.2.2.2.2.2.2.2.1 hi hN3, pb_105_111]
  by_cases s : rd_sg c n i = 59
  · have r1 := xr_q h (xq_pass h.2.2.2.2.2)
    have c5 : (pm_u I 40 3 (I 40 3 + 1)) 40 5 = Int32.ofNat ki := by rw [pm_u_row, if_pos rfl, pm_w_ne (by decide)]; exact e5
    rw [s, if_pos (by rfl), pb_105_116, pb_105_121, px_pass1, pb_105_124, if_neg (by decide), pb_105_129]
    generalize pm_u I 40 3 (I 40 3 + 1) = I1 at r1 c5 ⊢
    obtain ⟨h1, h2, t44, c44, h5, q1, q2, q3, q4, q5, q6⟩ := r1
    have g := on_n (a := rs.length) (by omega)
    have g2 := on_n (a := rs.length + 1) (by omega)
    have e10 : (10 : Int32).toInt = 10 := rfl
    have lt : I1 44 3 < 10 := by rw [c44, pi_lt, g.2.2, e10]; omega
    rw [pt_add_44 t44 lt, pb_105_136, c44, on_s, g.2.1]
    generalize hI2 : pm_u (pm_zr I1 45 (5 * rs.length) (5 * rs.length + 5)) 44 3 (Int32.ofNat (rs.length + 1)) = I2
    have k1 : ∀ r, ¬ r = 44 → ¬ r = 45 → I2 r = I1 r := fun r a e => by rw [← hI2, pm_u_row, if_neg a, pm_zr_row, if_neg e]
    have c1 : I2 44 3 = Int32.ofNat (rs.length + 1) := by rw [← hI2, pm_u_at]
    have t1 : pm_ti (I2 44) 5 10 := by
      rw [← hI2, pm_u_row, if_pos rfl, pm_zr_row, if_neg (by decide)]
      exact pm_ti_w t44 g2.1 (by rw [pi_le, g2.2.2, e10]; omega)
    have r1 : ∀ j, j < 5 * rs.length → I2 45 j = I1 45 j := fun j hj => by
      rw [← hI2, pm_u_row, if_neg (by decide), pm_zr_row, if_pos rfl]
      exact pm_zw_out (by omega)
    have i1 : ∀ X1 : Nat → Nat → Int32, X1 44 = I2 44 → 0 ≤ Int32.ofNat rs.length ∧ Int32.ofNat rs.length < X1 44 3 := fun X1 hX => ⟨g.1, by rw [hX, c1, on_lt (by omega) (by omega)]; omega⟩
    have f1 : ∀ v, pm_u I2 45 (5 * rs.length + 0) v 44 = I2 44 := fun v => by rw [pm_u_row, if_neg (by decide)]
    have f2 : ∀ v w, pm_u (pm_u I2 45 (5 * rs.length + 0) v) 45 (5 * rs.length + 1) w 44 = I2 44 := fun v w => by rw [pm_u_row, if_neg (by decide)]; exact f1 v
    have f3 : ∀ v w x, pm_u (pm_u (pm_u I2 45 (5 * rs.length + 0) v) 45 (5 * rs.length + 1) w) 45 (5 * rs.length + 2) x 44 = I2 44 := fun v w x => by rw [pm_u_row, if_neg (by decide)]; exact f2 v w
    have f4 : ∀ v w x y, pm_u (pm_u (pm_u (pm_u I2 45 (5 * rs.length + 0) v) 45 (5 * rs.length + 1) w) 45 (5 * rs.length + 2) x) 45 (5 * rs.length + 3) y 44 = I2 44 := fun v w x y => by rw [pm_u_row, if_neg (by decide)]; exact f3 v w x
    have a5 : ∀ v, (pm_u I2 45 (5 * rs.length + 0) v) 40 5 = Int32.ofNat ki := fun v => by rw [pm_u_row, if_neg (by decide), k1 40 (by decide) (by decide)]; exact c5
    have a46 : ∀ v w x y, (pm_u (pm_u (pm_u (pm_u I2 45 (5 * rs.length + 0) v) 45 (5 * rs.length + 1) w) 45 (5 * rs.length + 2) x) 45 (5 * rs.length + 3) y) 46 3 = Int32.ofNat ops.length := fun v w x y => by rw [pm_u_row, if_neg (by decide), pm_u_row, if_neg (by decide), pm_u_row, if_neg (by decide), pm_u_row, if_neg (by decide), k1 46 (by decide) (by decide)]; exact q5
    rw [pt_set_44_0 t1, if_pos (i1 I2 rfl), g.2.1, pb_105_149, a5, pt_set_44_1 (by rw [f1]; exact t1), if_pos (i1 _ (f1 _)), g.2.1, pb_105_163, pt_set_44_2 (by rw [f2]; exact t1), if_pos (i1 _ (f2 _ _)), g.2.1, pb_105_174, pt_set_44_3 (by rw [f3]; exact t1), if_pos (i1 _ (f3 _ _ _)), g.2.1, pb_105_185, a46, pt_set_44_4 (by rw [f4]; exact t1), if_pos (i1 _ (f4 _ _ _ _)), g.2.1, pb_105_202]
    have nr : ∀ v w x y z s, ¬ s = 45 → pm_u (pm_u (pm_u (pm_u (pm_u I2 45 (5 * rs.length + 0) v) 45 (5 * rs.length + 1) w) 45 (5 * rs.length + 2) x) 45 (5 * rs.length + 3) y) 45 (5 * rs.length + 4) z s = I2 s := fun v w x y z s hs => by rw [pm_u_row, if_neg hs, pm_u_row, if_neg hs, pm_u_row, if_neg hs, pm_u_row, if_neg hs, pm_u_row, if_neg hs]
    have low : ∀ v w x y z j, j < 5 * rs.length → pm_u (pm_u (pm_u (pm_u (pm_u I2 45 (5 * rs.length + 0) v) 45 (5 * rs.length + 1) w) 45 (5 * rs.length + 2) x) 45 (5 * rs.length + 3) y) 45 (5 * rs.length + 4) z 45 j = I2 45 j := fun v w x y z j hj => by
      rw [pm_u_row, if_pos rfl, pm_w_ne (by omega), pm_u_row, if_pos rfl, pm_w_ne (by omega), pm_u_row, if_pos rfl, pm_w_ne (by omega), pm_u_row, if_pos rfl, pm_w_ne (by omega), pm_u_row, if_pos rfl, pm_w_ne (by omega)]
    have at0 : ∀ v w x y z, pm_u (pm_u (pm_u (pm_u (pm_u I2 45 (5 * rs.length + 0) v) 45 (5 * rs.length + 1) w) 45 (5 * rs.length + 2) x) 45 (5 * rs.length + 3) y) 45 (5 * rs.length + 4) z 45 (5 * rs.length + 0) = v := fun v w x y z => by
      rw [pm_u_row, if_pos rfl, pm_w_ne (by omega), pm_u_row, if_pos rfl, pm_w_ne (by omega), pm_u_row, if_pos rfl, pm_w_ne (by omega), pm_u_row, if_pos rfl, pm_w_ne (by omega), pm_u_at]
    have at1 : ∀ v w x y z, pm_u (pm_u (pm_u (pm_u (pm_u I2 45 (5 * rs.length + 0) v) 45 (5 * rs.length + 1) w) 45 (5 * rs.length + 2) x) 45 (5 * rs.length + 3) y) 45 (5 * rs.length + 4) z 45 (5 * rs.length + 1) = w := fun v w x y z => by
      rw [pm_u_row, if_pos rfl, pm_w_ne (by omega), pm_u_row, if_pos rfl, pm_w_ne (by omega), pm_u_row, if_pos rfl, pm_w_ne (by omega), pm_u_at]
    have at2 : ∀ v w x y z, pm_u (pm_u (pm_u (pm_u (pm_u I2 45 (5 * rs.length + 0) v) 45 (5 * rs.length + 1) w) 45 (5 * rs.length + 2) x) 45 (5 * rs.length + 3) y) 45 (5 * rs.length + 4) z 45 (5 * rs.length + 2) = x := fun v w x y z => by
      rw [pm_u_row, if_pos rfl, pm_w_ne (by omega), pm_u_row, if_pos rfl, pm_w_ne (by omega), pm_u_at]
    have at3 : ∀ v w x y z, pm_u (pm_u (pm_u (pm_u (pm_u I2 45 (5 * rs.length + 0) v) 45 (5 * rs.length + 1) w) 45 (5 * rs.length + 2) x) 45 (5 * rs.length + 3) y) 45 (5 * rs.length + 4) z 45 (5 * rs.length + 3) = y := fun v w x y z => by
      rw [pm_u_row, if_pos rfl, pm_w_ne (by omega), pm_u_at]
    have at4 : ∀ v w x y z, pm_u (pm_u (pm_u (pm_u (pm_u I2 45 (5 * rs.length + 0) v) 45 (5 * rs.length + 1) w) 45 (5 * rs.length + 2) x) 45 (5 * rs.length + 3) y) 45 (5 * rs.length + 4) z 45 (5 * rs.length + 4) = z := fun v w x y z => by
      rw [pm_u_at]
    refine hY s _ ⟨fun r a e f g k => ?_, fun j a e f => ?_, ?_, ?_, fun m x hx => ?_, fun _ _ _ _ => rfl, fun _ _ _ => rfl, ?_, ?_, ?_, fun m x hx => ?_⟩
    · rw [nr _ _ _ _ _ r f, k1 r e f]; exact h1 r a e f g k
    · rw [nr _ _ _ _ _ 40 (by decide), k1 40 (by decide) (by decide)]; exact h2 j a e f
    · rw [nr _ _ _ _ _ 44 (by decide)]; exact t1
    · rw [nr _ _ _ _ _ 44 (by decide), c1, List.length_append]; rfl
    · rcases ls_snoc hx with ⟨g1, g2⟩ | ⟨g1, g2⟩
      · have z := h5 m x g2
        rw [low _ _ _ _ _ _ (by omega), low _ _ _ _ _ _ (by omega), low _ _ _ _ _ _ (by omega), low _ _ _ _ _ _ (by omega), low _ _ _ _ _ _ (by omega), r1 _ (by omega), r1 _ (by omega), r1 _ (by omega), r1 _ (by omega), r1 _ (by omega)]
        exact z
      · rw [g1, g2, at0, at1, at2, at3, at4]
        exact ⟨e1, rfl, e2, rfl, rfl⟩
    · rw [nr _ _ _ _ _ 40 (by decide), k1 40 (by decide) (by decide)]; exact q3
    · rw [nr _ _ _ _ _ 46 (by decide), k1 46 (by decide) (by decide)]; exact q4
    · rw [nr _ _ _ _ _ 46 (by decide), k1 46 (by decide) (by decide)]; exact q5
    · rw [nr _ _ _ _ _ 47 (by decide), k1 47 (by decide) (by decide)]; exact q6 m x hx
  · rw [if_neg (show ¬ Int32.ofNat (rd_sg c n i) = (59 : Int32) from by rw [show (59 : Int32) = Int32.ofNat 59 from rfl, on_eq (by omega) (by omega)]; exact s), pb_105_120, pb_105_121, px_pass0, pb_105_124, if_pos rfl, pb_105_127]
    exact hN s I (xr_yf h)
end

