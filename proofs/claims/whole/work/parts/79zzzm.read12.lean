/-! THE CALL read: rules, on both sides. -/
def rd_dk (ops : List (Nat × Nat)) : Prop := ∀ m, m ≤ ops.length → 0 ≤ rd_dp (ops.take m) ∧ rd_dp (ops.take m) ≤ 24
theorem dk_nil : rd_dk [] := fun m _ => by rw [List.take_nil]; exact ⟨by decide, by decide⟩
def rd_CDX (c : Nat → Nat) (n N i : Nat) (pc : Nat) (fin : (Nat → Nat → Int32) → List (Nat × Nat) → List (Nat × Nat × Nat × Nat × Nat) → Nat → Nat → Nat → (Int32 → Int64 → pm_H → Prop) → (Nat → Nat → Int64) → Nat → Bool → Prop) : Prop :=
  ∀ (d L : Nat) (b : Bool) (I0 I : Nat → Nat → Int32) (J : Nat → Nat → Int64) (Q : Int32 → Int64 → pm_H → Prop) (ops : List (Nat × Nat)) (rs : List (Nat × Nat × Nat × Nat × Nat)) (so ki rk : Nat) (x1 x2 : Int32), rd_tk c n (N + 1) I0 → rd_xr c n N I0 i ops rs I → rs.length < 10 → 4 * ops.length ≤ rd_s c n i → x1 = Int32.ofNat so → x2 = (if so = 2 then Int32.ofNat rk else -3) → I 40 5 = Int32.ofNat ki → fin I0 ops rs so ki rk Q J L b → pm_wp pm_code pm_meta (d + 26) 105 pc ([.ref 40, .int x1, .int x2, pm_unset, pm_unset], [], (pm_Gb L b, I, J)) Q
def rd_CDR (c : Nat → Nat) (n sl i : Nat) (fin : (Nat → Nat → Int32) → (Nat → Nat → Int64) → List (Nat × Nat) → List (Nat × Nat × Nat × Nat × Nat) → Nat → Nat → Nat → (Int32 → Int64 → pm_H → Prop) → Nat → Bool → Prop) : Prop :=
  ∀ (d L : Nat) (b : Bool) (I0 : Nat → Nat → Int32) (J0 : Nat → Nat → Int64) (I : Nat → Nat → Int32) (J : Nat → Nat → Int64) (Q : Int32 → Int64 → pm_H → Prop) (ops : List (Nat × Nat)) (rs : List (Nat × Nat × Nat × Nat × Nat)) (so ki rk : Nat) (x2 : Int32), rd_fx c n sl I0 → rd_rr c n sl I0 J0 i ops rs I J → rs.length < 10 → 4 * ops.length ≤ rd_s c n i → (I 117 (10 * sl + rs.length) = Int32.ofNat so ∧ I 118 (10 * sl + rs.length) = Int32.ofNat ki ∧ I 119 (10 * sl + rs.length) = (if so = 2 then Int32.ofNat rk else -1)) → fin I0 J0 ops rs so ki rk Q L b → pm_wp pm_code pm_meta (d + 21) 230 142 ([.ref 79, .int (Int32.ofNat (10 * sl + rs.length)), .int x2], [], (pm_Gb L b, I, J)) Q
def rd_CD (c : Nat → Nat) (n N sl i : Nat) : Prop :=
  (∃ i' opsC, i < i' ∧ i' ≤ N ∧ rd_in opsC ∧ rd_dk opsC ∧ 4 * opsC.length + rd_s c n i ≤ rd_pt c n i' ∧
    rd_CDX c n N i 66 (fun I0 ops rs so ki rk Q J L b => ∀ I', rd_xr c n N I0 i' (ops ++ opsC) (rs ++ [(so, ki, rk, ops.length, (ops ++ opsC).length)]) I' → Q 1 0 (pm_Gb L b, I', J)) ∧
    rd_CDR c n sl i (fun I0 J0 ops rs so ki rk Q L b => ∀ I' J', rd_rr c n sl I0 J0 i' (ops ++ opsC) (rs ++ [(so, ki, rk, ops.length, (ops ++ opsC).length)]) I' J' → Q 0 0 (pm_Gb L b, I', J'))) ∨
  (∃ f, i ≤ f ∧ f ≤ N ∧ rd_CDX c n N i 66 (fun I0 _ _ _ _ _ Q J L b => ∀ I', rd_yf I0 f I' → Q 0 0 (pm_Gb L b, I', J)) ∧ rd_CDR c n sl i (fun I0 J0 _ _ _ _ _ Q L b => ∀ I' J', rd_zf c n sl I0 J0 f I' J' → Q 0 0 (pm_Gb L b, I', J')))
theorem rd_cd_all {c : Nat → Nat} {n N sl i : Nat} (T : rd_tape c n N) (hi : i ≤ N) : rd_CD c n N sl i := by
  have n3 := T.2.1
  have Nn := T.2.2.1
  have cb := T.1
  have s300 : rd_s c n i ≤ 300 := by have := (pt_le (c := c) (n := n) i).2.2; omega
  have s59 : ∀ j, j ≤ N → rd_sg c n j = 59 → j < N ∧ rd_s c n j + 1 ≤ rd_pt c n (j + 1) := fun j hj h => by
    have e : j < N := by
      by_cases q : j = N
      · rw [q, sg_N T] at h; omega
      · omega
    exact ⟨e, s_e (T.2.2.2.2 j e)⟩
  by_cases cc : rd_cd c n i = 11
  · have iN : i < N := by
      by_cases q : i = N
      · rw [q, cd_N T] at cc; omega
      · omega
    obtain ⟨sg, len⟩ := cd_sg (by decide) cc
    have len2 : rd_pt c n (i + 1) = rd_s c n i + 2 := len
    have p1 := (pt_le (c := c) (n := n) (i + 1)).2.1
    have stX : ∀ (d L : Nat) (b : Bool) (I0 I : Nat → Nat → Int32) (J : Nat → Nat → Int64) (Q : Int32 → Int64 → pm_H → Prop) (ops : List (Nat × Nat)) (rs : List (Nat × Nat × Nat × Nat × Nat)) (x1 x2 : Int32), rd_tk c n (N + 1) I0 → rd_xr c n N I0 i ops rs I → (∀ I1, rd_xr c n N I0 (i + 1) ops rs I1 → I1 40 5 = I 40 5 → rd_EiX 4 0 d L b I1 J (fun v w H => pm_wp pm_code pm_meta (d + 26) 105 101 ([.ref 40, .int x1, .int x2, .int (Int32.ofNat ops.length), pm_unset], [.int v], H) Q)) → pm_wp pm_code pm_meta (d + 26) 105 66 ([.ref 40, .int x1, .int x2, pm_unset, pm_unset], [], (pm_Gb L b, I, J)) Q := fun d L b I0 I J Q ops rs x1 x2 tk h k => by
      have e46 : I 46 3 = Int32.ofNat ops.length := h.2.2.2.2.2.2.2.2.2.1
      rw [pb_105_66, px_wordI (xr_tk tk h) h.2.2.2.2.2.2.2.1 hi (by omega) cb, pb_105_79, cc, show rd_fv 11 = 11 from rfl, if_pos rfl, pb_105_84, pb_105_89, px_pass1, pb_105_92, if_neg (by decide), pb_105_95, e46]
      exact k _ (xr_q h (xq_pass h.2.2.2.2.2)) (by rw [pm_u_row, if_pos rfl, pm_w_ne (by decide)])
    have stR : ∀ (d L : Nat) (b : Bool) (I0 : Nat → Nat → Int32) (J0 : Nat → Nat → Int64) (I : Nat → Nat → Int32) (J : Nat → Nat → Int64) (Q : Int32 → Int64 → pm_H → Prop) (ops : List (Nat × Nat)) (rs : List (Nat × Nat × Nat × Nat × Nat)) (so ki rk : Nat) (x2 : Int32), rd_fx c n sl I0 → rd_rr c n sl I0 J0 i ops rs I J → rs.length < 10 → (I 117 (10 * sl + rs.length) = Int32.ofNat so ∧ I 118 (10 * sl + rs.length) = Int32.ofNat ki ∧ I 119 (10 * sl + rs.length) = (if so = 2 then Int32.ofNat rk else -1)) → (∀ I1 J1, rd_rr c n sl I0 J0 (i + 1) ops rs I1 J1 → rd_cu (10 * sl + rs.length) so ki rk ops.length I1 → rd_EiR 4 d L b I1 J1 (fun v w H => pm_wp pm_code pm_meta (d + 21) 230 171 ([.ref 79, .int (Int32.ofNat (10 * sl + rs.length)), .int x2], [], H) Q)) → pm_wp pm_code pm_meta (d + 21) 230 142 ([.ref 79, .int (Int32.ofNat (10 * sl + rs.length)), .int x2], [], (pm_Gb L b, I, J)) Q := fun d L b I0 J0 I J Q ops rs so ki rk x2 fx h hr cu k => by
      have sl12 := fx.2.2.2.2.2
      have g := on_n (a := sl) (by omega)
      have gk := on_n (a := 10 * sl + rs.length) (by omega)
      have e69 : I 79 69 = Int32.ofNat sl := (fx_rr fx h).2.2.2.2.1
      have e116 : I 116 sl = Int32.ofNat ops.length := h.2.2.2.2.2.2.2.2.2.1
      have r1 := rr_w (r := 120) (k := 10 * sl + rs.length) (v := Int32.ofNat ops.length) (by omega) (Nat.le_refl _) h
      rw [pb_230_142, e69, g.2.1, gk.2.1, e116]
      refine ⟨pi_in g.1 (by rw [g.2.2]; omega), pi_in gk.1 (by rw [gk.2.2]; omega), ?_⟩
      have cu1 : rd_cu (10 * sl + rs.length) so ki rk ops.length (pm_u I 120 (10 * sl + rs.length) (Int32.ofNat ops.length)) := by
        have nr : ∀ s, ¬ s = 120 → pm_u I 120 (10 * sl + rs.length) (Int32.ofNat ops.length) s = I s := fun s hs => by rw [pm_u_row, if_neg hs]
        unfold rd_cu
        rw [nr 117 (by decide), nr 118 (by decide), nr 119 (by decide), pm_u_at]
        exact ⟨cu.1, cu.2.1, cu.2.2, rfl⟩
      generalize pm_u I 120 (10 * sl + rs.length) (Int32.ofNat ops.length) = I1 at r1 cu1 ⊢
      refine pr_may (d := d + 18) (fx_rr fx r1) (m := 11) (w := rd_W.getD 11 []) rfl rfl r1.2.2.2 (fun _ I2 J2 h2 => ?_) (fun q => absurd cc q)
      rw [pb_230_164, if_neg (by decide), pb_230_167]
      exact k I2 J2 (rr_q r1 h2) (cu_q cu1 h2)
    rcases rd_cond (sl := sl) T (show i + 1 ≤ N by omega) with ⟨i3, opsC, ⟨f1, f2, f3, f4, f5, f6⟩, sX, sR⟩ | ⟨f, f1, f2, sX, sR⟩
    · have wl := wd_le (c := c) (n := n) (i := i3 - 1)
      have l3 := pt_300 T i3
      have p3 := (pt_le (c := c) (n := n) i3).2.1
      have dk : rd_dk opsC := fun m hm => by
        have z := f6.1 m hm
        exact ⟨z.1, by omega⟩
      by_cases s : rd_sg c n i3 = 59
      · obtain ⟨jN, js⟩ := s59 i3 f2 s
        refine Or.inl ⟨i3 + 1, opsC, by omega, by omega, f3, dk, by omega, fun d L b I0 I J Q ops rs so ki rk x1 x2 tk h hr pre e1 e2 e5 hQ => ?_, fun d L b I0 J0 I J Q ops rs so ki rk x2 fx h hr pre cu hQ => ?_⟩
        · refine stX d L b I0 I J Q ops rs x1 x2 tk h (fun I1 h1 c5 => sX d L b I1 I1 J _ ops (xr_tk tk h1) h1.2.2.2.2.2 (by omega) (fun I2 h2 => ?_))
          rw [pb_105_101, if_neg (by decide)]
          refine px_ruleD (d := d + 22) (so := so) (ki := ki) (rk := rk) (by omega) cb f2 tk (xr_q h1 h2) hr e1 e2 (by rw [h2.2.1 5 (by decide) (by decide), c5]; exact e5) (fun _ I3 h3 => hQ I3 h3) (fun q => absurd s q)
        · refine stR d L b I0 J0 I J Q ops rs so ki rk x2 fx h hr cu (fun I1 J1 h1 c1 => sR d L b I1 J1 I1 J1 _ ops (fx_rr fx h1) h1.2.2.2 (by omega) (fun I2 J2 h2 => ?_))
          exact pr_ruleD (d := d + 17) fx (rr_q h1 h2) hr (by rw [List.length_append]; omega) (cu_q c1 h2) (fun _ I3 J3 h3 => hQ I3 J3 h3) (fun q => absurd s q)
      · refine Or.inr ⟨i3, by omega, f2, fun d L b I0 I J Q ops rs so ki rk x1 x2 tk h hr pre e1 e2 e5 hQ => ?_, fun d L b I0 J0 I J Q ops rs so ki rk x2 fx h hr pre cu hQ => ?_⟩
        · refine stX d L b I0 I J Q ops rs x1 x2 tk h (fun I1 h1 c5 => sX d L b I1 I1 J _ ops (xr_tk tk h1) h1.2.2.2.2.2 (by omega) (fun I2 h2 => ?_))
          rw [pb_105_101, if_neg (by decide)]
          refine px_ruleD (d := d + 22) (so := so) (ki := ki) (rk := rk) (by omega) cb f2 tk (xr_q h1 h2) hr e1 e2 (by rw [h2.2.1 5 (by decide) (by decide), c5]; exact e5) (fun q => absurd q s) (fun _ I3 h3 => hQ I3 h3)
        · refine stR d L b I0 J0 I J Q ops rs so ki rk x2 fx h hr cu (fun I1 J1 h1 c1 => sR d L b I1 J1 I1 J1 _ ops (fx_rr fx h1) h1.2.2.2 (by omega) (fun I2 J2 h2 => ?_))
          exact pr_ruleD (d := d + 17) fx (rr_q h1 h2) hr (by rw [List.length_append]; omega) (cu_q c1 h2) (fun q => absurd q s) (fun _ I3 J3 h3 => hQ I3 J3 h3)
    · refine Or.inr ⟨f, by omega, f2, fun d L b I0 I J Q ops rs so ki rk x1 x2 tk h hr pre e1 e2 e5 hQ => ?_, fun d L b I0 J0 I J Q ops rs so ki rk x2 fx h hr pre cu hQ => ?_⟩
      · refine stX d L b I0 I J Q ops rs x1 x2 tk h (fun I1 h1 c5 => sX d L b I1 I1 J _ ops (xr_tk tk h1) h1.2.2.2.2.2 (by omega) (fun I2 h2 => ?_))
        rw [pb_105_101, if_pos rfl, pb_105_104]
        exact hQ I2 (xr_f h1 h2)
      · have sl12 := fx.2.2.2.2.2
        refine stR d L b I0 J0 I J Q ops rs so ki rk x2 fx h hr cu (fun I1 J1 h1 c1 => sR d L b I1 J1 I1 J1 _ ops (fx_rr fx h1) h1.2.2.2 (by omega) (fun I2 J2 h2 => ?_))
        exact pr_ruleDf (d := d + 17) fx (by omega) (by omega) (rr_f h1 (by omega) h2) hQ
  · have neX : ¬ rd_fv (rd_cd c n i) = 11 := fv_ne (by decide) cc
    have stX : ∀ (d L : Nat) (b : Bool) (I0 I : Nat → Nat → Int32) (J : Nat → Nat → Int64) (Q : Int32 → Int64 → pm_H → Prop) (ops : List (Nat × Nat)) (rs : List (Nat × Nat × Nat × Nat × Nat)) (x1 x2 : Int32), rd_tk c n (N + 1) I0 → rd_xr c n N I0 i ops rs I → pm_wp pm_code pm_meta (d + 26) 105 106 ([.ref 40, .int x1, .int x2, .int (Int32.ofNat ops.length), pm_unset], [], (pm_Gb L b, I, J)) Q → pm_wp pm_code pm_meta (d + 26) 105 66 ([.ref 40, .int x1, .int x2, pm_unset, pm_unset], [], (pm_Gb L b, I, J)) Q := fun d L b I0 I J Q ops rs x1 x2 tk h k => by
      have e46 : I 46 3 = Int32.ofNat ops.length := h.2.2.2.2.2.2.2.2.2.1
      rw [pb_105_66, px_wordI (xr_tk tk h) h.2.2.2.2.2.2.2.1 hi (by omega) cb, pb_105_79, if_neg neX, pb_105_88, pb_105_89, px_pass0, pb_105_92, if_pos rfl, e46]
      exact k
    have stR : ∀ (d L : Nat) (b : Bool) (I0 : Nat → Nat → Int32) (J0 : Nat → Nat → Int64) (I : Nat → Nat → Int32) (J : Nat → Nat → Int64) (Q : Int32 → Int64 → pm_H → Prop) (ops : List (Nat × Nat)) (rs : List (Nat × Nat × Nat × Nat × Nat)) (so ki rk : Nat) (x2 : Int32), rd_fx c n sl I0 → rd_rr c n sl I0 J0 i ops rs I J → rs.length < 10 → (I 117 (10 * sl + rs.length) = Int32.ofNat so ∧ I 118 (10 * sl + rs.length) = Int32.ofNat ki ∧ I 119 (10 * sl + rs.length) = (if so = 2 then Int32.ofNat rk else -1)) → (∀ I1, rd_rr c n sl I0 J0 i ops rs I1 J → rd_cu (10 * sl + rs.length) so ki rk ops.length I1 → pm_wp pm_code pm_meta (d + 21) 230 171 ([.ref 79, .int (Int32.ofNat (10 * sl + rs.length)), .int x2], [], (pm_Gb L b, I1, J)) Q) → pm_wp pm_code pm_meta (d + 21) 230 142 ([.ref 79, .int (Int32.ofNat (10 * sl + rs.length)), .int x2], [], (pm_Gb L b, I, J)) Q := fun d L b I0 J0 I J Q ops rs so ki rk x2 fx h hr cu k => by
      have sl12 := fx.2.2.2.2.2
      have g := on_n (a := sl) (by omega)
      have gk := on_n (a := 10 * sl + rs.length) (by omega)
      have e69 : I 79 69 = Int32.ofNat sl := (fx_rr fx h).2.2.2.2.1
      have e116 : I 116 sl = Int32.ofNat ops.length := h.2.2.2.2.2.2.2.2.2.1
      have r1 := rr_w (r := 120) (k := 10 * sl + rs.length) (v := Int32.ofNat ops.length) (by omega) (Nat.le_refl _) h
      rw [pb_230_142, e69, g.2.1, gk.2.1, e116]
      refine ⟨pi_in g.1 (by rw [g.2.2]; omega), pi_in gk.1 (by rw [gk.2.2]; omega), ?_⟩
      have cu1 : rd_cu (10 * sl + rs.length) so ki rk ops.length (pm_u I 120 (10 * sl + rs.length) (Int32.ofNat ops.length)) := by
        have nr : ∀ s, ¬ s = 120 → pm_u I 120 (10 * sl + rs.length) (Int32.ofNat ops.length) s = I s := fun s hs => by rw [pm_u_row, if_neg hs]
        unfold rd_cu
        rw [nr 117 (by decide), nr 118 (by decide), nr 119 (by decide), pm_u_at]
        exact ⟨cu.1, cu.2.1, cu.2.2, rfl⟩
      generalize pm_u I 120 (10 * sl + rs.length) (Int32.ofNat ops.length) = I1 at r1 cu1 ⊢
      refine pr_may (d := d + 18) (fx_rr fx r1) (m := 11) (w := rd_W.getD 11 []) rfl rfl r1.2.2.2 (fun q => absurd q cc) (fun _ => ?_)
      rw [pb_230_164, if_pos rfl]
      exact k I1 r1 cu1
    by_cases s : rd_sg c n i = 59
    · obtain ⟨jN, js⟩ := s59 i hi s
      refine Or.inl ⟨i + 1, [], by omega, by omega, fun x hx => absurd hx (by simp), dk_nil, by show 4 * 0 + _ ≤ _; omega, fun d L b I0 I J Q ops rs so ki rk x1 x2 tk h hr pre e1 e2 e5 hQ => ?_, fun d L b I0 J0 I J Q ops rs so ki rk x2 fx h hr pre cu hQ => ?_⟩
      · simp only [List.append_nil] at hQ
        exact stX d L b I0 I J Q ops rs x1 x2 tk h (px_ruleD (d := d + 22) (so := so) (ki := ki) (rk := rk) (by omega) cb hi tk h hr e1 e2 e5 (fun _ I3 h3 => hQ I3 h3) (fun q => absurd s q))
      · simp only [List.append_nil] at hQ
        exact stR d L b I0 J0 I J Q ops rs so ki rk x2 fx h hr cu (fun I1 h1 c1 => pr_ruleD (d := d + 17) fx h1 hr (by omega) c1 (fun _ I3 J3 h3 => hQ I3 J3 h3) (fun q => absurd s q))
    · refine Or.inr ⟨i, Nat.le_refl _, hi, fun d L b I0 I J Q ops rs so ki rk x1 x2 tk h hr pre e1 e2 e5 hQ => ?_, fun d L b I0 J0 I J Q ops rs so ki rk x2 fx h hr pre cu hQ => ?_⟩
      · exact stX d L b I0 I J Q ops rs x1 x2 tk h (px_ruleD (d := d + 22) (so := so) (ki := ki) (rk := rk) (by omega) cb hi tk h hr e1 e2 e5 (fun q => absurd q s) (fun _ I3 h3 => hQ I3 h3))
      · exact stR d L b I0 J0 I J Q ops rs so ki rk x2 fx h hr cu (fun I1 h1 c1 => pr_ruleD (d := d + 17) fx h1 hr (by omega) c1 (fun q => absurd q s) (fun _ I3 J3 h3 => hQ I3 J3 h3))

