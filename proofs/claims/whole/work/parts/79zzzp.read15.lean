/-! THE CALL read: all rules of a text, on both sides. -/
theorem sg_lt {c : Nat → Nat} {n N i : Nat} (T : rd_tape c n N) (h : i < N) : rd_sg c n i < 258 ∧ ¬ rd_kd c n i = 0 := by
  have lt := T.2.2.2.2 i h
  have := T.1 _ lt
  refine ⟨?_, ?_⟩
  · unfold rd_sg
    rw [if_pos lt]
    split
    · decide
    · split
      · decide
      · omega
  · unfold rd_kd
    rw [if_pos lt]
    split
    · decide
    · split <;> decide
theorem kd_N {c : Nat → Nat} {n N : Nat} (T : rd_tape c n N) : rd_kd c n N = 0 := by
  unfold rd_kd; rw [if_neg (fun q => by have := T.2.2.2.1; omega)]
def rd_iv (c : Nat → Nat) (n i : Nat) (ops : List (Nat × Nat)) (rs : List (Nat × Nat × Nat × Nat × Nat)) : Prop :=
  4 * ops.length ≤ rd_s c n i ∧ rs.length ≤ 10 ∧ rd_in ops ∧ ∀ (m : Nat) (x : Nat × Nat × Nat × Nat × Nat), rs[m]? = some x → x.1 ≤ 2 ∧ x.2.1 < 256 ∧ x.2.2.1 ≤ 9 ∧ x.2.2.2.1 ≤ x.2.2.2.2 ∧ x.2.2.2.2 ≤ ops.length ∧ rd_dk ((ops.drop x.2.2.2.1).take (x.2.2.2.2 - x.2.2.2.1))
def rd_TL (c : Nat → Nat) (n N sl i : Nat) (ops : List (Nat × Nat)) (rs : List (Nat × Nat × Nat × Nat × Nat)) : Prop :=
  (∃ ops' rs', rd_iv c n N ops' rs' ∧
    (∀ (d L : Nat) (b : Bool) (I0 I : Nat → Nat → Int32) (J : Nat → Nat → Int64) (Q : Int32 → Int64 → pm_H → Prop) (t : Nat), rd_tk c n (N + 1) I0 → rd_xr c n N I0 i ops rs I → t ≤ i → (∀ I', rd_xr c n N I0 N ops' rs' I' → Q (-3) 0 (pm_Gb L b, I', J)) → pm_wp pm_code pm_meta (d + 27) 92 29 ([.ref 40, .int 1, .int (Int32.ofNat t)], [], (pm_Gb L b, I, J)) Q) ∧
    (∀ (d L : Nat) (b : Bool) (I0 : Nat → Nat → Int32) (J0 : Nat → Nat → Int64) (I : Nat → Nat → Int32) (J : Nat → Nat → Int64) (Q : Int32 → Int64 → pm_H → Prop) (x1 : Int32), rd_fx c n sl I0 → rd_rr c n sl I0 J0 i ops rs I J → (∀ I' J', rd_rr c n sl I0 J0 N ops' rs' I' J' → pm_wp pm_code pm_meta (d + 22) 233 86 ([.ref 79, .int x1], [], (pm_Gb L b, I', J')) Q) → pm_wp pm_code pm_meta (d + 22) 233 65 ([.ref 79, .int x1], [], (pm_Gb L b, I, J)) Q)) ∨
  (∃ f, f ≤ N ∧
    (∀ (d L : Nat) (b : Bool) (I0 I : Nat → Nat → Int32) (J : Nat → Nat → Int64) (Q : Int32 → Int64 → pm_H → Prop) (t : Nat), rd_tk c n (N + 1) I0 → rd_xr c n N I0 i ops rs I → t ≤ i → (∀ I', rd_yf I0 f I' → Q (Int32.ofNat (rd_s c n f)) 0 (pm_Gb L b, I', J)) → pm_wp pm_code pm_meta (d + 27) 92 29 ([.ref 40, .int 1, .int (Int32.ofNat t)], [], (pm_Gb L b, I, J)) Q) ∧
    (∀ (d L : Nat) (b : Bool) (I0 : Nat → Nat → Int32) (J0 : Nat → Nat → Int64) (I : Nat → Nat → Int32) (J : Nat → Nat → Int64) (Q : Int32 → Int64 → pm_H → Prop) (x1 : Int32), rd_fx c n sl I0 → rd_rr c n sl I0 J0 i ops rs I J → (∀ I' J', rd_zf c n sl I0 J0 f I' J' → pm_wp pm_code pm_meta (d + 22) 233 86 ([.ref 79, .int x1], [], (pm_Gb L b, I', J')) Q) → pm_wp pm_code pm_meta (d + 22) 233 65 ([.ref 79, .int x1], [], (pm_Gb L b, I, J)) Q))
theorem px_textf {d L : Nat} {b : Bool} {I0 I : Nat → Nat → Int32} {J : Nat → Nat → Int64} {Q : Int32 → Int64 → pm_H → Prop} {c : Nat → Nat} {n N f : Nat} {x2 : Int32} (hN : N ≤ 300) (hf : f ≤ N) (tk : rd_tk c n (N + 1) I0) (h : rd_yf I0 f I) (hQ : Q (Int32.ofNat (rd_s c n f)) 0 (pm_Gb L b, I, J)) : pm_wp pm_code pm_meta (d + 1) 92 29 ([.ref 40, .int 0, .int x2], [], (pm_Gb L b, I, J)) Q := by
  have e42 : I 42 = I0 42 := h.1 42 (by decide) (by decide) (by decide) (by decide) (by decide)
  have e43 : I 43 = I0 43 := h.1 43 (by decide) (by decide) (by decide) (by decide) (by decide)
  have g := on_n (a := f) (by omega)
  obtain ⟨t1, t2, t3⟩ := tk
  have lt : 0 ≤ Int32.ofNat f ∧ Int32.ofNat f < I 42 3 := ⟨g.1, by rw [e42, t2, on_lt (by omega) (by omega)]; omega⟩
  rw [pb_92_29, if_pos rfl, pb_92_61, if_pos rfl, pb_92_70, h.2.2.2.2, pt_get_42_1 (by rw [e42]; exact t1), if_pos lt, g.2.1, e43, (t3 f (by omega)).2.1, pb_92_82]
  exact hQ
theorem rd_loop {c : Nat → Nat} {n N sl : Nat} (T : rd_tape c n N) : ∀ k i ops rs, N - i ≤ k → i ≤ N → rd_iv c n i ops rs → rd_TL c n N sl i ops rs := by
  have n3 := T.2.1
  have Nn := T.2.2.1
  have cb := T.1
  have s300 : ∀ j, rd_s c n j ≤ 300 := fun j => by have := (pt_le (c := c) (n := n) j).2.2; omega
  -- into a rule
  have stX : ∀ (d L : Nat) (b : Bool) (I0 I : Nat → Nat → Int32) (J : Nat → Nat → Int64) (Q : Int32 → Int64 → pm_H → Prop) (i t : Nat) (ops : List (Nat × Nat)) (rs : List (Nat × Nat × Nat × Nat × Nat)), rd_tk c n (N + 1) I0 → rd_xr c n N I0 i ops rs I → t ≤ i → i < N → pm_wc pm_code pm_meta (d + 26) 105 [.ref 40] (pm_Gb L b, I, J) (fun v w H => pm_wp pm_code pm_meta (d + 27) 92 54 ([.ref 40, .int 1, .int (Int32.ofNat t)], [.int v], H) Q) → pm_wp pm_code pm_meta (d + 27) 92 29 ([.ref 40, .int 1, .int (Int32.ofNat t)], [], (pm_Gb L b, I, J)) Q := fun d L b I0 I J Q i t ops rs tk h ht hi k => by
    have t3 : ¬ (300 : Int32) ≤ Int32.ofNat t := by rw [show (300 : Int32) = Int32.ofNat 300 from rfl, on_le (by omega) (by omega)]; omega
    have sl := (sg_lt T hi).1
    have ns : ¬ Int32.ofNat (rd_sg c n i) = 258 := by rw [show (258 : Int32) = Int32.ofNat 258 from rfl, on_eq (by omega) (by omega)]; omega
    rw [pb_92_29, if_neg (by decide), pb_92_33, if_neg t3, pb_92_40, px_sortI (xr_tk tk h) h.2.2.2.2.2.2.2.1 (by omega) (by omega), pb_92_44, if_neg ns, pb_92_50]
    exact k
  have stR : ∀ (d L : Nat) (b : Bool) (I0 : Nat → Nat → Int32) (J0 : Nat → Nat → Int64) (I : Nat → Nat → Int32) (J : Nat → Nat → Int64) (Q : Int32 → Int64 → pm_H → Prop) (i : Nat) (x1 : Int32) (ops : List (Nat × Nat)) (rs : List (Nat × Nat × Nat × Nat × Nat)), rd_rr c n sl I0 J0 i ops rs I J → i < N → pm_wc pm_code pm_meta (d + 21) 230 [.ref 79] (pm_Gb L b, I, J) (fun v w H => pm_wp pm_code pm_meta (d + 22) 233 83 ([.ref 79, .int x1], [], H) Q) → pm_wp pm_code pm_meta (d + 22) 233 65 ([.ref 79, .int x1], [], (pm_Gb L b, I, J)) Q := fun d L b I0 J0 I J Q i x1 ops rs h hi k => by
    have q := h.2.2.2
    have e62 : I 79 62 = rd_kd c n i := q.2.2.2.2.2.2.2.2.2.1
    rw [pb_233_65, q.2.2.2.2.1, if_neg (by decide), pb_233_72, e62, if_neg (sg_lt T hi).2, pb_233_79]
    exact k
  intro k
  induction k with
  | zero =>
    intro i ops rs hk hi iv
    have iN : i = N := by omega
    subst iN
    refine Or.inl ⟨ops, rs, iv, fun d L b I0 I J Q t tk h ht hQ => ?_, fun d L b I0 J0 I J Q x1 fx h hQ => ?_⟩
    · rw [pb_92_29, if_neg (by decide), pb_92_33]
      by_cases t3 : (300 : Int32) ≤ Int32.ofNat t
      · rw [if_pos t3, pb_92_61, if_neg (by decide), pb_92_65, pb_92_82]
        exact hQ I h
      · rw [if_neg t3, pb_92_40, px_sortI (xr_tk tk h) h.2.2.2.2.2.2.2.1 (by omega) (by omega), pb_92_44, sg_N T, if_pos (by rfl), pb_92_61, if_neg (by decide), pb_92_65, pb_92_82]
        exact hQ I h
    · have q := h.2.2.2
      have e62 : I 79 62 = rd_kd c n i := q.2.2.2.2.2.2.2.2.2.1
      rw [pb_233_65, q.2.2.2.2.1, if_neg (by decide), pb_233_72, e62, kd_N T, if_pos rfl]
      exact hQ I J h
  | succ k ih =>
    intro i ops rs hk hi iv
    by_cases iN : i = N
    · exact ih i ops rs (by omega) hi iv
    · have lt : i < N := by omega
      by_cases r10 : rs.length = 10
      · refine Or.inr ⟨i, hi, fun d L b I0 I J Q t tk h ht hQ => ?_, fun d L b I0 J0 I J Q x1 fx h hQ => ?_⟩
        · refine stX d L b I0 I J Q i t ops rs tk h ht lt ?_
          have ge : 10 ≤ I 44 3 := by rw [h.2.2.2.1, r10]; decide
          rw [pb_105_0, pt_full_44 h.2.2.1, pb_105_7, pm_b_t' ge, if_neg (by decide), pb_105_17, pb_92_54]
          exact px_textf (d := d + 26) (by omega) hi tk (xr_yf h) (hQ I (xr_yf h))
        · have sl12 := fx.2.2.2.2.2
          have g := on_n (a := sl) (by omega)
          have p13 : pm_in (Int32.ofNat sl) 13 = true := pi_in g.1 (by rw [g.2.2]; omega)
          have e69 : I 79 69 = Int32.ofNat sl := (fx_rr fx h).2.2.2.2.1
          have l80 : ops.length ≤ 80 := by have := s300 i; have := iv.1; omega
          refine stR d L b I0 J0 I J Q i x1 ops rs h lt ?_
          rw [pb_230_0, e69, g.2.1, h.2.1, r10]
          refine ⟨p13, ?_⟩
          rw [if_pos (by rfl), pb_230_14]
          refine pr_fails_q (fx_rr fx h) h.2.2.2 l80 (fun I2 h2 => ?_)
          have z := rr_f h (by omega) h2
          rw [pb_230_18, pb_233_83, pb_233_65, if_pos (zf_fl n3 z)]
          exact hQ I2 J z
      · have r9 : rs.length < 10 := by have := iv.2.1; omega
        rcases rd_rule (sl := sl) T hi with ⟨i', opsC, so, ki, rk, a1, a2, a3, a4, a5, a6, a7, a8, sX, sR⟩ | ⟨f, a1, a2, sX, sR⟩
        · have iv' : rd_iv c n i' (ops ++ opsC) (rs ++ [(so, ki, rk, ops.length, (ops ++ opsC).length)]) := by
            obtain ⟨v1, v2, v3, v4⟩ := iv
            have p := (pt_le (c := c) (n := n) i').2.1
            refine ⟨by rw [List.length_append]; omega, by rw [List.length_append]; show rs.length + 1 ≤ 10; omega, in_app v3 a6, fun m x hx => ?_⟩
            rcases ls_snoc hx with ⟨g1, g2⟩ | ⟨g1, g2⟩
            · obtain ⟨w1, w2, w3, w4, w5, w6⟩ := v4 m x g2
              refine ⟨w1, w2, w3, w4, by rw [List.length_append]; omega, ?_⟩
              have e : ((ops ++ opsC).drop x.2.2.2.1).take (x.2.2.2.2 - x.2.2.2.1) = (ops.drop x.2.2.2.1).take (x.2.2.2.2 - x.2.2.2.1) := by
                rw [List.drop_append_of_le_length (by omega), List.take_append_of_le_length (by rw [List.length_drop]; omega)]
              rw [e]; exact w6
            · rw [g2]
              refine ⟨a3, a4, a5, by show ops.length ≤ (ops ++ opsC).length; rw [List.length_append]; omega, Nat.le_refl _, ?_⟩
              show rd_dk (((ops ++ opsC).drop ops.length).take ((ops ++ opsC).length - ops.length))
              rw [List.drop_left, List.length_append, show ops.length + opsC.length - ops.length = opsC.length by omega, List.take_length]
              exact a7
          rcases ih i' _ _ (by omega) a2 iv' with ⟨ops', rs', jv, uX, uR⟩ | ⟨f, jf, uX, uR⟩
          · refine Or.inl ⟨ops', rs', jv, fun d L b I0 I J Q t tk h ht hQ => ?_, fun d L b I0 J0 I J Q x1 fx h hQ => ?_⟩
            · refine stX d L b I0 I J Q i t ops rs tk h ht lt (sX d L b I0 I J _ ops rs tk h r9 iv.1 (fun I' h' => ?_))
              rw [pb_92_54, on_s]
              exact uX d L b I0 I' J Q (t + 1) tk h' (by omega) hQ
            · refine stR d L b I0 J0 I J Q i x1 ops rs h lt (sR d L b I0 J0 I J _ ops rs fx h r9 iv.1 (fun I' J' h' => ?_))
              rw [pb_233_83]
              exact uR d L b I0 J0 I' J' Q x1 fx h' hQ
          · refine Or.inr ⟨f, jf, fun d L b I0 I J Q t tk h ht hQ => ?_, fun d L b I0 J0 I J Q x1 fx h hQ => ?_⟩
            · refine stX d L b I0 I J Q i t ops rs tk h ht lt (sX d L b I0 I J _ ops rs tk h r9 iv.1 (fun I' h' => ?_))
              rw [pb_92_54, on_s]
              exact uX d L b I0 I' J Q (t + 1) tk h' (by omega) hQ
            · refine stR d L b I0 J0 I J Q i x1 ops rs h lt (sR d L b I0 J0 I J _ ops rs fx h r9 iv.1 (fun I' J' h' => ?_))
              rw [pb_233_83]
              exact uR d L b I0 J0 I' J' Q x1 fx h' hQ
        · refine Or.inr ⟨f, a2, fun d L b I0 I J Q t tk h ht hQ => ?_, fun d L b I0 J0 I J Q x1 fx h hQ => ?_⟩
          · refine stX d L b I0 I J Q i t ops rs tk h ht lt (sX d L b I0 I J _ ops rs tk h r9 iv.1 (fun I' h' => ?_))
            rw [pb_92_54]
            exact px_textf (d := d + 26) (by omega) a2 tk h' (hQ I' h')
          · refine stR d L b I0 J0 I J Q i x1 ops rs h lt (sR d L b I0 J0 I J _ ops rs fx h r9 iv.1 (fun I' J' h' => ?_))
            rw [pb_233_83, pb_233_65, if_pos (zf_fl n3 h')]
            exact hQ I' J' h'

