/-! THE CALL read: every COND. -/
def rd_NlX (r op i : Nat) (par : Bool) (d L : Nat) (b : Bool) (I : Nat → Nat → Int32) (J : Nat → Nat → Int64) (Q : Int32 → Int64 → pm_H → Prop) : Prop := ∀ t, t ≤ i → pm_wp pm_code pm_meta (d + 4 * r + 6) 108 4 ([.ref 40, .int (Int32.ofNat op), .int (bif par then 1 else 0), .int (Int32.ofNat t)], [], (pm_Gb L b, I, J)) Q
def rd_NlR (r : Nat) (par : Bool) (d L : Nat) (b : Bool) (I : Nat → Nat → Int32) (J : Nat → Nat → Int64) (Q : Int32 → Int64 → pm_H → Prop) : Prop := pm_wp pm_code pm_meta (d + 3 * r + 6) 229 2 ([.ref 79, .int (bif par then 1 else 0)], [], (pm_Gb L b, I, J)) Q
def rd_NlF (c : Nat → Nat) (n N i : Nat) (par : Bool) (hi : Int) (i' : Nat) (ops : List (Nat × Nat)) : Prop := i < i' ∧ i' ≤ N ∧ rd_in ops ∧ 4 * ops.length + rd_fp c n i + 1 + rd_s c n i ≤ rd_pt c n i' + rd_wd c n (i' - 1) + (bif par then 4 else 0) ∧ rd_fp c n i + rd_wd c n i = 1 ∧ rd_ok ops hi 1
def rd_Nl (c : Nat → Nat) (n N sl r op i : Nat) (par : Bool) : Prop := rd_res c n N sl op i (rd_NlF c n N i par (1 + 2 * (r : Int))) (fun k => 4 * k ≤ rd_s c n i) (rd_NlX r op i par) (rd_NlR r par)
theorem rd_Nl_base {c : Nat → Nat} {n N sl r op : Nat} (T : rd_tape c n N) (i : Nat) (par : Bool) (hi : i ≤ N) (hop : rd_Op c n N sl r op i) (cc : ¬ rd_cd c n i = 14) : rd_Nl c n N sl r op i par := by
  have n3 := T.2.1
  have Nn := T.2.2.1
  have cb := T.1
  have s300 : rd_s c n i ≤ 300 := by have := (pt_le (c := c) (n := n) i).2.2; omega
  have ne : ¬ rd_fv (rd_cd c n i) = 14 := fv_ne (by decide) cc
  have inX : ∀ (d L : Nat) (b : Bool) (I0 I : Nat → Nat → Int32) (J : Nat → Nat → Int64) (Q : Int32 → Int64 → pm_H → Prop) (ops0 : List (Nat × Nat)), rd_tk c n (N + 1) I0 → rd_xq c n N I0 i ops0 I → (∀ t, pm_wp pm_code pm_meta (d + 4 * r + 6) 108 48 ([.ref 40, .int (Int32.ofNat op), .int (bif par then 1 else 0), .int (Int32.ofNat t)], [], (pm_Gb L b, I, J)) Q) → rd_NlX r op i par d L b I J Q := fun d L b I0 I J Q ops0 tk h kk t ht => by
    by_cases t3 : 300 ≤ t
    · rw [pb_108_4, if_pos (by rw [show (300 : Int32) = Int32.ofNat 300 from rfl, on_le (by omega) (by omega)]; exact t3)]
      exact kk t
    · rw [pb_108_4, if_neg (by rw [show (300 : Int32) = Int32.ofNat 300 from rfl, on_le (by omega) (by omega)]; exact t3), pb_108_11, px_wordI (xq_tk tk h) h.2.2.1 hi (by omega) cb, pb_108_16, if_neg ne, pb_108_25, pb_108_26, px_pass0, pb_108_29, if_pos rfl]
      exact kk t
  have inR : ∀ (d L : Nat) (b : Bool) (I0 : Nat → Nat → Int32) (J0 : Nat → Nat → Int64) (I : Nat → Nat → Int32) (J : Nat → Nat → Int64) (Q : Int32 → Int64 → pm_H → Prop) (ops0 : List (Nat × Nat)), rd_fx c n sl I0 → rd_rq c n sl I0 J0 i ops0 op I J → pm_wp pm_code pm_meta (d + 3 * r + 6) 229 25 ([.ref 79, .int (bif par then 1 else 0)], [], (pm_Gb L b, I, J)) Q → rd_NlR r par d L b I J Q := fun d L b I0 J0 I J Q ops0 fx h kk => by
    unfold rd_NlR
    rw [pb_229_2]
    refine pr_may (d := d + 3 * r + 3) fx (m := 14) (w := rd_W.getD 14 []) rfl rfl h (fun e => absurd e cc) (fun _ => ?_)
    rw [pb_229_9, if_pos rfl]
    exact kk
  rcases hop with ⟨i2, ops2, ⟨f1, f2, f3, f4, f5, f6⟩, sX, sR⟩ | ⟨f, f1, f2, sX, sR⟩
  · have l2 := pt_300 T i2
    have wl := wd_le (c := c) (n := n) (i := i2 - 1)
    refine Or.inl ⟨i2, ops2 ++ (bif par then [(3, 0)] else []), ⟨f1, f2, ?_, ?_, f5, ?_⟩, fun d L b I0 I J Q ops0 tk h pre hQ => ?_, fun d L b I0 J0 I J Q ops0 fx h pre hQ => ?_⟩
    · cases par with
      | true => exact in_app f3 (in_one (by omega))
      | false => rw [cond_false, List.append_nil]; exact f3
    · cases par with
      | true =>
        rw [cond_true, cond_true, List.length_append]
        have l1 : [((3 : Nat), (0 : Nat))].length = 1 := rfl
        omega
      | false => rw [cond_false, cond_false, List.append_nil]; exact f4
    · cases par with
      | true => exact ok_snoc (x := (3, 0)) f6 (by decide) (by show (1 : Int) + 0 ≤ _; omega)
      | false => rw [cond_false, List.append_nil]; exact f6
    · refine inX d L b I0 I J Q ops0 tk h (fun t => ?_)
      have z := sX d L b I0 I J (fun v _ H => v = 1 ∧ ∃ I', H = (pm_Gb L b, I', J) ∧ rd_xq c n N I0 i2 (ops0 ++ ops2) I') ops0 tk h pre (fun I' h' => ⟨rfl, I', rfl, h'⟩)
      refine z _ _ Q (fun I1 q => ?_) (fun I1 q => absurd q.1 (by decide))
      obtain ⟨_, I2, e, h2⟩ := q
      cases e
      rw [pb_108_119]
      cases par with
      | false =>
        rw [cond_false, if_pos rfl, pb_108_130]
        rw [cond_false, List.append_nil] at hQ
        exact hQ I1 h2
      | true =>
        rw [cond_true, if_neg (by decide), pb_108_123]
        rw [cond_true] at hQ
        refine px_addSign (d := d + 4 * r + 4) (x := 3) (y := 0) rfl h2 (by rw [List.length_append]; omega) (fun I3 h3 => ?_)
        rw [pb_108_130]
        exact hQ I3 (by rw [List.append_assoc] at h3; exact h3)
    · refine inR d L b I0 J0 I J Q ops0 fx h ?_
      have z := sR d L b I0 J0 I J (fun _ _ H => ∃ I' J', H = (pm_Gb L b, I', J') ∧ rd_rq c n sl I0 J0 i2 (ops0 ++ ops2) op I' J') ops0 fx h pre (fun I' J' h' => ⟨I', J', rfl, h'⟩)
      refine z _ Q (fun I1 J1 q => ?_)
      obtain ⟨I2, J2, e, h2⟩ := q
      cases e
      rw [pb_229_191]
      cases par with
      | false =>
        rw [cond_false, if_pos rfl, pb_229_201]
        rw [cond_false, List.append_nil] at hQ
        exact hQ I1 J1 h2
      | true =>
        rw [cond_true, if_neg (by decide), pb_229_195]
        rw [cond_true] at hQ
        refine pr_does fx (x := 3) (y := 0) h2 (by rw [List.length_append]; omega) (fun I3 h3 => ?_)
        rw [pb_229_201]
        exact hQ I3 J1 (by rw [List.append_assoc] at h3; exact h3)
  · refine Or.inr ⟨f, f1, f2, fun d L b I0 I J Q ops0 tk h pre hQ => ?_, fun d L b I0 J0 I J Q ops0 fx h pre hQ => ?_⟩
    · refine inX d L b I0 I J Q ops0 tk h (fun t => ?_)
      have z := sX d L b I0 I J (fun v _ H => v = 0 ∧ ∃ I', H = (pm_Gb L b, I', J) ∧ rd_xf I0 f I') ops0 tk h pre (fun I' h' => ⟨rfl, I', rfl, h'⟩)
      refine z _ _ Q (fun I1 q => absurd q.1 (by decide)) (fun I1 q => ?_)
      obtain ⟨_, I2, e, h2⟩ := q
      cases e
      exact hQ I1 h2
    · refine inR d L b I0 J0 I J Q ops0 fx h ?_
      have z := sR d L b I0 J0 I J (fun _ _ H => ∃ I' J', H = (pm_Gb L b, I', J') ∧ rd_rf c n sl I0 J0 f I' J') ops0 fx h pre (fun I' J' h' => ⟨I', J', rfl, h'⟩)
      refine z _ Q (fun I1 J1 q => ?_)
      obtain ⟨I2, J2, e, h2⟩ := q
      cases e
      have fl := rf_fl n3 h2
      rw [pb_229_191]
      cases par with
      | false => rw [cond_false, if_pos rfl, pb_229_201]; exact hQ I1 J1 h2
      | true => rw [cond_true, if_neg (by decide), pb_229_195, pr_does_f fl, pb_229_201]; exact hQ I1 J1 h2
theorem rd_Nl_all {c : Nat → Nat} {n N sl r op : Nat} (T : rd_tape c n N) : ∀ (k i : Nat) (par : Bool), N - i ≤ k → i ≤ N → (∀ j, i ≤ j → j ≤ N → rd_Op c n N sl r op j) → rd_Nl c n N sl r op i par := by
  have n3 := T.2.1
  have Nn := T.2.2.1
  have cb := T.1
  intro k
  induction k with
  | zero =>
    intro i par hk hi hop
    exact rd_Nl_base T i par hi (hop i (Nat.le_refl _) hi) (fun h => by rw [show i = N by omega, cd_N T] at h; omega)
  | succ k ih =>
    intro i par hk hi hop
    by_cases cc : rd_cd c n i = 14
    · have iN : i < N := by
        by_cases q : i = N
        · rw [q, cd_N T] at cc; omega
        · omega
      obtain ⟨sg, len⟩ := cd_sg (by decide) cc
      obtain ⟨wd1, fp0⟩ := wd_cd (by decide) cc
      have len2 : rd_pt c n (i + 1) = rd_s c n i + 3 := len
      have gp := gap T iN
      have stX : ∀ (d L : Nat) (b : Bool) (I0 I : Nat → Nat → Int32) (J : Nat → Nat → Int64) (Q : Int32 → Int64 → pm_H → Prop) (ops0 : List (Nat × Nat)), rd_tk c n (N + 1) I0 → rd_xq c n N I0 i ops0 I → (∀ I', rd_xq c n N I0 (i + 1) ops0 I' → rd_NlX r op (i + 1) (!par) d L b I' J Q) → rd_NlX r op i par d L b I J Q := fun d L b I0 I J Q ops0 tk h kk t ht => by
        have z := kk _ (xq_pass h) (t + 1) (by omega)
        rw [pb_108_4, if_neg (by rw [show (300 : Int32) = Int32.ofNat 300 from rfl, on_le (by omega) (by omega)]; omega), pb_108_11, px_wordI (xq_tk tk h) h.2.2.1 hi (by omega) cb, pb_108_16, cc, show rd_fv 14 = 14 from rfl, if_pos rfl, pb_108_21, pb_108_26, px_pass1, pb_108_29, if_neg (by decide), pb_108_32]
        cases par with
        | true => rw [cond_true, if_neg (by decide), pb_108_40, pb_108_41, on_s]; exact z
        | false => rw [cond_false, if_pos rfl, pb_108_36, pb_108_41, on_s]; exact z
      have stR : ∀ (d L : Nat) (b : Bool) (I0 : Nat → Nat → Int32) (J0 : Nat → Nat → Int64) (I : Nat → Nat → Int32) (J : Nat → Nat → Int64) (Q : Int32 → Int64 → pm_H → Prop) (ops0 : List (Nat × Nat)), rd_fx c n sl I0 → rd_rq c n sl I0 J0 i ops0 op I J → (∀ I' J', rd_rq c n sl I0 J0 (i + 1) ops0 op I' J' → rd_NlR r (!par) d L b I' J' Q) → rd_NlR r par d L b I J Q := fun d L b I0 J0 I J Q ops0 fx h kk => by
        unfold rd_NlR
        rw [pb_229_2]
        refine pr_may (d := d + 3 * r + 3) fx (m := 14) (w := rd_W.getD 14 []) rfl rfl h (fun _ I' J' h' => ?_) (fun e => absurd cc e)
        have z := kk I' J' h'
        unfold rd_NlR at z
        rw [pb_229_9, if_neg (by decide), pb_229_12]
        cases par with
        | true => rw [cond_true, if_neg (by decide), pb_229_20, pb_229_21]; exact z
        | false => rw [cond_false, if_pos rfl, pb_229_16, pb_229_21]; exact z
      rcases ih (i + 1) (!par) (by omega) (by omega) (fun j h1 h2 => hop j (by omega) h2) with ⟨i2, ops2, ⟨f1, f2, f3, f4, f5, f6⟩, sX, sR⟩ | ⟨f, f1, f2, sX, sR⟩
      · refine Or.inl ⟨i2, ops2, ⟨by omega, f2, f3, ?_, by omega, f6⟩, fun d L b I0 I J Q ops0 tk h pre hQ => ?_, fun d L b I0 J0 I J Q ops0 fx h pre hQ => ?_⟩
        · cases par with
          | true => rw [cond_true]; rw [Bool.not_true, cond_false] at f4; omega
          | false => rw [cond_false]; rw [Bool.not_false, cond_true] at f4; omega
        · exact stX d L b I0 I J Q ops0 tk h (fun I' h' => sX d L b I0 I' J Q ops0 tk h' (by omega) hQ)
        · exact stR d L b I0 J0 I J Q ops0 fx h (fun I' J' h' => sR d L b I0 J0 I' J' Q ops0 fx h' (by omega) hQ)
      · refine Or.inr ⟨f, by omega, f2, fun d L b I0 I J Q ops0 tk h pre hQ => ?_, fun d L b I0 J0 I J Q ops0 fx h pre hQ => ?_⟩
        · exact stX d L b I0 I J Q ops0 tk h (fun I' h' => sX d L b I0 I' J Q ops0 tk h' (by omega) hQ)
        · exact stR d L b I0 J0 I J Q ops0 fx h (fun I' J' h' => sR d L b I0 J0 I' J' Q ops0 fx h' (by omega) hQ)
    · exact rd_Nl_base T i par hi (hop i (Nat.le_refl _) hi) cc
theorem rd_One_of {c : Nat → Nat} {n N sl r op i : Nat} (h : rd_Nl c n N sl r op i false) : rd_One c n N sl r op i := by
  have hx : ∀ (d L : Nat) (b : Bool) (I : Nat → Nat → Int32) (J : Nat → Nat → Int64) (Q : Int32 → Int64 → pm_H → Prop), rd_NlX r op i false d L b I J (fun v w H => pm_wp pm_code pm_meta (d + 4 * r + 7) 107 10 ([.ref 40, .int 2, .int (Int32.ofNat op), pm_unset, pm_unset], [.int v], H) Q) → rd_OneX r op d L b I J Q := fun d L b I J Q k => by
    unfold rd_OneX
    show pm_wc pm_code pm_meta (d + 4 * r + 7) 107 [.ref 40, .int 2, .int (Int32.ofNat op)] (pm_Gb L b, I, J) Q
    rw [pb_107_0, if_pos rfl, pb_107_5, pb_108_0]
    exact k 0 (Nat.zero_le _)
  rcases h with ⟨i2, ops2, ⟨f1, f2, f3, f4, f5, f6⟩, sX, sR⟩ | ⟨f, f1, f2, sX, sR⟩
  · refine Or.inl ⟨i2, ops2, ⟨f1, f2, f3, f4, f5, f6⟩, fun d L b I0 I J Q ops0 tk h pre hQ => hx d L b I J Q (sX d L b I0 I J _ ops0 tk h pre (fun I' h' => ?_)), fun d L b I0 J0 I J Q ops0 fx h pre hQ => ?_⟩
    · show pm_wp _ _ _ _ _ _ _
      rw [pb_107_10]
      exact ⟨by decide, hQ I' h'⟩
    · unfold rd_OneR
      show pm_wc pm_code pm_meta (d + 3 * r + 6) 229 [.ref 79] (pm_Gb L b, I, J) Q
      rw [pb_229_0]
      exact sR d L b I0 J0 I J Q ops0 fx h pre hQ
  · refine Or.inr ⟨f, f1, f2, fun d L b I0 I J Q ops0 tk h pre hQ => hx d L b I J Q (sX d L b I0 I J _ ops0 tk h pre (fun I' h' => ?_)), fun d L b I0 J0 I J Q ops0 fx h pre hQ => ?_⟩
    · show pm_wp _ _ _ _ _ _ _
      rw [pb_107_10]
      exact ⟨by decide, hQ I' h'⟩
    · unfold rd_OneR
      show pm_wc pm_code pm_meta (d + 3 * r + 6) 229 [.ref 79] (pm_Gb L b, I, J) Q
      rw [pb_229_0]
      exact sR d L b I0 J0 I J Q ops0 fx h pre hQ
theorem rd_all {c : Nat → Nat} {n N sl : Nat} (T : rd_tape c n N) : ∀ (t i : Nat), N + 1 - i ≤ t → i ≤ N → ∀ r op, op + r = 4 → rd_One c n N sl r op i ∧ rd_Ev c n N sl r op i ∧ rd_Ei c n N sl r op i ∧ (1 ≤ i → rd_Al c n N sl r op i ∧ rd_Ol c n N sl r op i) := by
  intro t
  induction t with
  | zero => intro i h hi; omega
  | succ t ih =>
    intro i ht hi r op hop
    have op' : ∀ j, i ≤ j → j ≤ N → rd_Op c n N sl r op j := fun j h1 h2 => rd_Op_ih T h2 hop (fun r' hr hj => (ih (j + 1) (by omega) hj r' (op + 1) (by omega)).2.2.1)
    have one : rd_One c n N sl r op i := rd_One_of (rd_Nl_all T (N - i) i false (Nat.le_refl _) hi op')
    have ev : rd_Ev c n N sl r op i := rd_Ev_ih T hi one (fun i' h1 h2 => ((ih i' (by omega) h2 r op hop).2.2.2 (by omega)).1)
    have ei : rd_Ei c n N sl r op i := rd_Ei_ih T hi ev (fun i' h1 h2 => ((ih i' (by omega) h2 r op hop).2.2.2 (by omega)).2)
    refine ⟨one, ev, ei, fun h1 => ⟨rd_Al_ih T hi h1 (fun h => (ih (i + 1) (by omega) h r op hop).1) (fun i' g1 g2 => ((ih i' (by omega) g2 r op hop).2.2.2 (by omega)).1), rd_Ol_ih T hi h1 (fun h => (ih (i + 1) (by omega) h r op hop).2.1) (fun i' g1 g2 => ((ih i' (by omega) g2 r op hop).2.2.2 (by omega)).2)⟩⟩
theorem rd_cond {c : Nat → Nat} {n N sl : Nat} (T : rd_tape c n N) {i : Nat} (hi : i ≤ N) : rd_Ei c n N sl 4 0 i := (rd_all T (N + 1 - i) i (Nat.le_refl _) hi 4 0 rfl).2.2.1

