/-! THE CALL read: both parsers, side by side. -/
def rd_e (k : Nat) : Int := if k = 1 ∨ k = 2 then -1 else if k = 3 then 0 else 1
def rd_dp : List (Nat × Nat) → Int
  | [] => 0
  | x :: r => rd_e x.1 + rd_dp r
theorem dp_app : ∀ (l m : List (Nat × Nat)), rd_dp (l ++ m) = rd_dp l + rd_dp m
  | [], m => by show rd_dp m = 0 + rd_dp m; omega
  | x :: r, m => by
    show rd_e x.1 + rd_dp (r ++ m) = rd_e x.1 + rd_dp r + rd_dp m
    rw [dp_app r m]; omega
def rd_ok (ops : List (Nat × Nat)) (hi tot : Int) : Prop := (∀ m, m ≤ ops.length → 0 ≤ rd_dp (ops.take m) ∧ rd_dp (ops.take m) ≤ hi) ∧ rd_dp ops = tot
theorem ok_nil {hi : Int} (h : 0 ≤ hi) : rd_ok [] hi 0 := ⟨fun m _ => by rw [List.take_nil]; exact ⟨Int.le_refl 0, h⟩, rfl⟩
theorem ok_app {l m : List (Nat × Nat)} {h1 h2 h3 t1 t2 : Int} (a : rd_ok l h1 t1) (b : rd_ok m h2 t2) (ht : 0 ≤ t1) (g1 : h1 ≤ h3) (g2 : t1 + h2 ≤ h3) : rd_ok (l ++ m) h3 (t1 + t2) := by
  refine ⟨fun k hk => ?_, by rw [dp_app, a.2, b.2]⟩
  by_cases c : k ≤ l.length
  · rw [List.take_append_of_le_length c]
    have := a.1 k c
    exact ⟨this.1, by omega⟩
  · rw [List.length_append] at hk
    rw [List.take_append, List.take_of_length_le (show l.length ≤ k by omega), dp_app, a.2]
    have := b.1 (k - l.length) (by omega)
    exact ⟨by omega, by omega⟩
theorem ok_snoc {l : List (Nat × Nat)} {x : Nat × Nat} {hi t : Int} (a : rd_ok l hi t) (h0 : 0 ≤ t + rd_e x.1) (h1 : t + rd_e x.1 ≤ hi) : rd_ok (l ++ [x]) hi (t + rd_e x.1) := by
  have e1 : rd_dp [x] = rd_e x.1 := by show rd_e x.1 + 0 = _; omega
  refine ⟨fun k hk => ?_, by rw [dp_app, a.2, e1]⟩
  by_cases c : k ≤ l.length
  · rw [List.take_append_of_le_length c]
    exact a.1 k c
  · rw [List.length_append] at hk
    have l1 : [x].length = 1 := rfl
    rw [List.take_of_length_le (by rw [List.length_append]; omega), dp_app, a.2, e1]
    exact ⟨h0, h1⟩
def rd_fp (c : Nat → Nat) (n i : Nat) : Nat := if rd_sg c n i = 40 then 1 else 0
def rd_wd (c : Nat → Nat) (n i : Nat) : Nat := if rd_sg c n i = 256 then 1 else 0
def rd_in (ops : List (Nat × Nat)) : Prop := ∀ x ∈ ops, 1 ≤ x.1 ∧ x.1 ≤ 7 ∧ x.2 ≤ 999
theorem in_app {l m : List (Nat × Nat)} (a : rd_in l) (b : rd_in m) : rd_in (l ++ m) := fun x hx => (List.mem_append.mp hx).elim (a x) (b x)
theorem in_one {x y : Nat} (h : 1 ≤ x ∧ x ≤ 7 ∧ y ≤ 999) : rd_in [(x, y)] := fun z hz => by rw [List.mem_singleton.mp hz]; exact h
/-- what holds of a part of a COND that goes well -/
def rd_Fc (c : Nat → Nat) (n N i : Nat) (hi : Int) (i' : Nat) (ops : List (Nat × Nat)) : Prop := i < i' ∧ i' ≤ N ∧ rd_in ops ∧ 4 * ops.length + rd_fp c n i + 1 + rd_s c n i ≤ rd_pt c n i' + rd_wd c n (i' - 1) ∧ rd_fp c n i + rd_wd c n i = 1 ∧ rd_ok ops hi 1
def rd_FL (c : Nat → Nat) (n N i : Nat) (hi : Int) (i' : Nat) (ops : List (Nat × Nat)) : Prop := i ≤ i' ∧ i' ≤ N ∧ rd_in ops ∧ 4 * ops.length + rd_pt c n i + rd_wd c n (i - 1) ≤ rd_pt c n i' + rd_wd c n (i' - 1) ∧ rd_ok ops hi 0
def rd_res (c : Nat → Nat) (n N sl : Nat) (op i : Nat) (F : Nat → List (Nat × Nat) → Prop) (pre : Nat → Prop) (XR RR : Nat → Nat → Bool → (Nat → Nat → Int32) → (Nat → Nat → Int64) → (Int32 → Int64 → pm_H → Prop) → Prop) : Prop :=
  (∃ i' ops, F i' ops ∧
    (∀ (d L : Nat) (b : Bool) (I0 I : Nat → Nat → Int32) (J : Nat → Nat → Int64) (Q : Int32 → Int64 → pm_H → Prop) (ops0 : List (Nat × Nat)), rd_tk c n (N + 1) I0 → rd_xq c n N I0 i ops0 I → pre ops0.length → (∀ I', rd_xq c n N I0 i' (ops0 ++ ops) I' → Q 1 0 (pm_Gb L b, I', J)) → XR d L b I J Q) ∧
    (∀ (d L : Nat) (b : Bool) (I0 : Nat → Nat → Int32) (J0 : Nat → Nat → Int64) (I : Nat → Nat → Int32) (J : Nat → Nat → Int64) (Q : Int32 → Int64 → pm_H → Prop) (ops0 : List (Nat × Nat)), rd_fx c n sl I0 → rd_rq c n sl I0 J0 i ops0 op I J → pre ops0.length → (∀ I' J', rd_rq c n sl I0 J0 i' (ops0 ++ ops) op I' J' → Q 0 0 (pm_Gb L b, I', J')) → RR d L b I J Q)) ∨
  (∃ f, i ≤ f ∧ f ≤ N ∧
    (∀ (d L : Nat) (b : Bool) (I0 I : Nat → Nat → Int32) (J : Nat → Nat → Int64) (Q : Int32 → Int64 → pm_H → Prop) (ops0 : List (Nat × Nat)), rd_tk c n (N + 1) I0 → rd_xq c n N I0 i ops0 I → pre ops0.length → (∀ I', rd_xf I0 f I' → Q 0 0 (pm_Gb L b, I', J)) → XR d L b I J Q) ∧
    (∀ (d L : Nat) (b : Bool) (I0 : Nat → Nat → Int32) (J0 : Nat → Nat → Int64) (I : Nat → Nat → Int32) (J : Nat → Nat → Int64) (Q : Int32 → Int64 → pm_H → Prop) (ops0 : List (Nat × Nat)), rd_fx c n sl I0 → rd_rq c n sl I0 J0 i ops0 op I J → pre ops0.length → (∀ I' J', rd_rf c n sl I0 J0 f I' J' → Q 0 0 (pm_Gb L b, I', J')) → RR d L b I J Q))
/-- what is known of the tape -/
def rd_tape (c : Nat → Nat) (n N : Nat) : Prop := (∀ p, p < n → c p ≤ 255) ∧ n ≤ 300 ∧ N ≤ n ∧ rd_s c n N = n ∧ ∀ i, i < N → rd_s c n i < n
section
variable {c : Nat → Nat} {n N sl : Nat}
theorem cd_N (T : rd_tape c n N) : rd_cd c n N = 99 := by
  unfold rd_cd; rw [if_neg (fun q => by have := T.2.2.2.1; omega)]
theorem sg_N (T : rd_tape c n N) : rd_sg c n N = 258 := by
  unfold rd_sg; rw [if_neg (fun q => by have := T.2.2.2.1; omega)]
theorem cd_sg {i m : Nat} (hm : m < 21) (h : rd_cd c n i = m) : rd_sg c n i = 256 ∧ rd_pt c n (i + 1) = rd_s c n i + (rd_W.getD m []).length := by
  have q := cd_99 hm h
  refine ⟨by unfold rd_sg; rw [if_pos q.1, if_pos q.2], ?_⟩
  unfold rd_cd at h
  rw [if_pos q, find_W hm] at h
  have e : rd_W.getD m [] = rd_tl c (rd_s c n i) (rd_pt c n (i + 1)) := by rw [List.getD_eq_getElem?_getD, h]; rfl
  rw [e, tl_len]
  have := s_e q.1
  omega
theorem wd_cd {i m : Nat} (hm : m < 21) (h : rd_cd c n i = m) : rd_wd c n i = 1 ∧ rd_fp c n i = 0 := by
  have z := (cd_sg hm h).1
  exact ⟨by unfold rd_wd; rw [if_pos z], by unfold rd_fp; rw [z, if_neg (by decide)]⟩
theorem wd_le {i : Nat} : rd_wd c n i ≤ 1 := by unfold rd_wd; split <;> decide
theorem gap {i : Nat} (T : rd_tape c n N) (hi : i < N) : rd_pt c n (i + 1) + rd_wd c n i + rd_wd c n (i + 1) ≤ rd_s c n (i + 1) + 1 := by
  have p := (pt_le (c := c) (n := n) (i + 1)).2.1
  by_cases a : rd_sg c n i = 256 ∧ rd_sg c n (i + 1) = 256
  · have w : ∀ j, rd_sg c n j = 256 → (∀ p, p < n → c p ≤ 255) → rd_s c n j < n ∧ rd_L (c (rd_s c n j)) = true := fun j h cb => by
      unfold rd_sg at h
      by_cases q1 : rd_s c n j < n
      · rw [if_pos q1] at h
        by_cases q2 : rd_L (c (rd_s c n j)) = true
        · exact ⟨q1, q2⟩
        · rw [if_neg q2] at h
          have := cb _ q1
          split at h <;> omega
      · rw [if_neg q1] at h; omega
    obtain ⟨a1, a2⟩ := w i a.1 T.1
    obtain ⟨b1, b2⟩ := w (i + 1) a.2 T.1
    have z := s_gap a1 a2 b1 b2
    have := wd_le (c := c) (n := n) (i := i)
    have := wd_le (c := c) (n := n) (i := i + 1)
    omega
  · have : rd_wd c n i + rd_wd c n (i + 1) ≤ 1 := by
      unfold rd_wd
      by_cases q : rd_sg c n i = 256
      · rw [if_pos q, if_neg (fun z => a ⟨q, z⟩)]; omega
      · rw [if_neg q]; split <;> omega
    omega
theorem pt_300 (T : rd_tape c n N) (i : Nat) : rd_pt c n i ≤ 300 := by have := (pt_le (c := c) (n := n) i).1; have := T.2.1; omega
end
theorem find_lt {t : List Nat} : rd_find t rd_W 0 < 1000 := by
  have key : ∀ (r : List (List Nat)) (k : Nat), k + r.length ≤ 99 → rd_find t r k ≤ 99 := by
    intro r
    induction r with
    | nil => intro k _; exact Nat.le_refl _
    | cons w r ih =>
      intro k hk
      rw [List.length_cons] at hk
      show (if t = w then k else rd_find t r (k + 1)) ≤ 99
      split
      · omega
      · exact ih (k + 1) (by omega)
  have := key rd_W 0 (by decide)
  omega

/-- the part, on both sides -/
def rd_OneX (r op : Nat) (d L : Nat) (b : Bool) (I : Nat → Nat → Int32) (J : Nat → Nat → Int64) (Q : Int32 → Int64 → pm_H → Prop) : Prop := pm_wc pm_code pm_meta (d + 4 * r + 7) 107 [.ref 40, .int 2, .int (Int32.ofNat op)] (pm_Gb L b, I, J) Q
def rd_OneR (r : Nat) (d L : Nat) (b : Bool) (I : Nat → Nat → Int32) (J : Nat → Nat → Int64) (Q : Int32 → Int64 → pm_H → Prop) : Prop := pm_wc pm_code pm_meta (d + 3 * r + 6) 229 [.ref 79] (pm_Gb L b, I, J) Q
def rd_One (c : Nat → Nat) (n N sl r op i : Nat) : Prop := rd_res c n N sl op i (rd_Fc c n N i (1 + 2 * (r : Int))) (fun k => 4 * k ≤ rd_s c n i) (rd_OneX r op) (rd_OneR r)
def rd_AlX (r op i : Nat) (d L : Nat) (b : Bool) (I : Nat → Nat → Int32) (J : Nat → Nat → Int64) (Q : Int32 → Int64 → pm_H → Prop) : Prop := ∀ t, t ≤ i → pm_wp pm_code pm_meta (d + 4 * r + 8) 107 39 ([.ref 40, .int 1, .int (Int32.ofNat op), .int 12, .int (Int32.ofNat t)], [], (pm_Gb L b, I, J)) Q
def rd_AlR (r : Nat) (d L : Nat) (b : Bool) (I : Nat → Nat → Int32) (J : Nat → Nat → Int64) (Q : Int32 → Int64 → pm_H → Prop) : Prop := pm_wp pm_code pm_meta (d + 3 * r + 7) 228 4 ([.ref 79], [], (pm_Gb L b, I, J)) Q
def rd_Al (c : Nat → Nat) (n N sl r op i : Nat) : Prop := rd_res c n N sl op i (rd_FL c n N i (1 + 2 * (r : Int))) (fun k => 4 * k + 1 ≤ rd_pt c n i + rd_wd c n (i - 1)) (rd_AlX r op i) (rd_AlR r)
/-- the joints -/
theorem rd_Al_ih {c : Nat → Nat} {n N sl r op i : Nat} (T : rd_tape c n N) (hi : i ≤ N) (h1 : 1 ≤ i) (hsub : i + 1 ≤ N → rd_One c n N sl r op (i + 1)) (hl : ∀ i', i < i' → i' ≤ N → rd_Al c n N sl r op i') : rd_Al c n N sl r op i := by
  have n3 := T.2.1
  have Nn := T.2.2.1
  have cb := T.1
  by_cases cc : rd_cd c n i = 12
  · have iN : i < N := by
      by_cases q : i = N
      · rw [q, cd_N T] at cc; omega
      · omega
    obtain ⟨sg, len⟩ := cd_sg (by decide) cc
    obtain ⟨wd1, fp0⟩ := wd_cd (by decide) cc
    have len2 : rd_pt c n (i + 1) = rd_s c n i + 3 := len
    have gp := gap T iN
    have gp0 := gap (i := i - 1) T (by omega)
    rw [show i - 1 + 1 = i by omega] at gp0
    have eX : rd_fv 12 = 12 := rfl
    -- the joint on the class's side
    have stepX : ∀ (d L : Nat) (b : Bool) (I0 I : Nat → Nat → Int32) (J : Nat → Nat → Int64) (Q : Int32 → Int64 → pm_H → Prop) (ops0 : List (Nat × Nat)) (t : Nat), t ≤ i → rd_tk c n (N + 1) I0 → rd_xq c n N I0 i ops0 I → (∀ I', rd_xq c n N I0 (i + 1) ops0 I' → rd_OneX r op d L b I' J (fun v w H => pm_wp pm_code pm_meta (d + 4 * r + 8) 107 75 ([.ref 40, .int 1, .int (Int32.ofNat op), .int 12, .int (Int32.ofNat t)], [.int v], H) Q)) → pm_wp pm_code pm_meta (d + 4 * r + 8) 107 39 ([.ref 40, .int 1, .int (Int32.ofNat op), .int 12, .int (Int32.ofNat t)], [], (pm_Gb L b, I, J)) Q := fun d L b I0 I J Q ops0 t ht tk h k => by
      rw [pb_107_39, if_neg (by rw [show (300 : Int32) = Int32.ofNat 300 from rfl, on_le (by omega) (by omega)]; omega), pb_107_47, px_wordI (xq_tk tk h) h.2.2.1 hi (by omega) cb, pb_107_52, cc, eX, if_pos rfl, pb_107_56, pb_107_61, px_pass1, pb_107_64, if_neg (by decide), pb_107_67]
      exact k _ (xq_pass h)
    have stepR : ∀ (d L : Nat) (b : Bool) (I0 : Nat → Nat → Int32) (J0 : Nat → Nat → Int64) (I : Nat → Nat → Int32) (J : Nat → Nat → Int64) (Q : Int32 → Int64 → pm_H → Prop) (ops0 : List (Nat × Nat)), rd_fx c n sl I0 → rd_rq c n sl I0 J0 i ops0 op I J → (∀ I' J', rd_rq c n sl I0 J0 (i + 1) ops0 op I' J' → rd_OneR r d L b I' J' (fun v w H => pm_wp pm_code pm_meta (d + 3 * r + 7) 228 18 ([.ref 79], [], H) Q)) → rd_AlR r d L b I J Q := fun d L b I0 J0 I J Q ops0 fx h k => by
      unfold rd_AlR
      rw [pb_228_4]
      refine pr_may (d := d + 3 * r + 4) fx (m := 12) (w := rd_W.getD 12 []) rfl rfl h (fun _ I' J' h' => ?_) (fun e => absurd cc e)
      rw [pb_228_11, if_neg (by decide), pb_228_14]
      exact k I' J' h'
    rcases hsub (by omega) with ⟨i2, ops2, ⟨f1, f2, f3, f4, f5, f6⟩, sX, sR⟩ | ⟨f, f1, f2, sX, sR⟩
    · rcases hl i2 (by omega) f2 with ⟨i3, ops3, ⟨g1, g2, g3, g4, g5⟩, lX, lR⟩ | ⟨f, g1, g2, lX, lR⟩
      · refine Or.inl ⟨i3, ops2 ++ [(2, 0)] ++ ops3, ⟨by omega, g2, in_app (in_app f3 (in_one (by omega))) g3, ?_, ?_⟩, fun d L b I0 I J Q ops0 tk h pre hQ t ht => ?_, fun d L b I0 J0 I J Q ops0 fx h pre hQ => ?_⟩
        · rw [List.length_append, List.length_append]
          have l1 : [((2 : Nat), (0 : Nat))].length = 1 := rfl
          omega
        · have a := ok_snoc (x := (2, 0)) f6 (by decide) (by show (1 : Int) + -1 ≤ _; omega)
          exact ok_app a g5 (by decide) (Int.le_refl _) (by show (1 : Int) + -1 + _ ≤ _; omega)
        · have l2 := pt_300 T i2
          refine stepX d L b I0 I J Q ops0 t ht tk h (fun I' h' => sX d L b I0 I' J _ ops0 tk h' (by omega) (fun I'' h'' => ?_))
          rw [pb_107_75, if_neg (by decide), pb_107_80]
          refine px_addSign (d := d + 4 * r + 6) (x := 2) (y := 0) rfl h'' (by rw [List.length_append]; have := wd_le (c := c) (n := n) (i := i2 - 1); omega) (fun I3 h3 => ?_)
          rw [pb_107_86, on_s]
          refine lX d L b I0 I3 J Q _ tk h3 ?_ (fun I4 h4 => hQ I4 ?_) (t + 1) (by omega)
          · rw [List.length_append, List.length_append]
            have l1 : [((2 : Nat), (0 : Nat))].length = 1 := rfl
            omega
          · rw [List.append_assoc, List.append_assoc] at h4
            rw [← List.append_assoc, ← List.append_assoc, List.append_assoc, List.append_assoc]
            exact h4
        · have l2 := pt_300 T i2
          refine stepR d L b I0 J0 I J Q ops0 fx h (fun I' J' h' => sR d L b I0 J0 I' J' _ ops0 fx h' (by omega) (fun I'' J'' h'' => ?_))
          rw [pb_228_18]
          refine pr_does fx (x := 2) (y := 0) h'' (by rw [List.length_append]; have := wd_le (c := c) (n := n) (i := i2 - 1); omega) (fun I3 h3 => ?_)
          rw [pb_228_24]
          refine lR d L b I0 J0 I3 J'' Q _ fx h3 ?_ (fun I4 J4 h4 => hQ I4 J4 ?_)
          · rw [List.length_append, List.length_append]
            have l1 : [((2 : Nat), (0 : Nat))].length = 1 := rfl
            omega
          · rw [List.append_assoc, List.append_assoc] at h4
            rw [← List.append_assoc, ← List.append_assoc, List.append_assoc, List.append_assoc]
            exact h4
      · refine Or.inr ⟨f, by omega, g2, fun d L b I0 I J Q ops0 tk h pre hQ t ht => ?_, fun d L b I0 J0 I J Q ops0 fx h pre hQ => ?_⟩
        · have l2 := pt_300 T i2
          refine stepX d L b I0 I J Q ops0 t ht tk h (fun I' h' => sX d L b I0 I' J _ ops0 tk h' (by omega) (fun I'' h'' => ?_))
          rw [pb_107_75, if_neg (by decide), pb_107_80]
          refine px_addSign (d := d + 4 * r + 6) (x := 2) (y := 0) rfl h'' (by rw [List.length_append]; have := wd_le (c := c) (n := n) (i := i2 - 1); omega) (fun I3 h3 => ?_)
          rw [pb_107_86, on_s]
          refine lX d L b I0 I3 J Q _ tk h3 ?_ hQ (t + 1) (by omega)
          rw [List.length_append, List.length_append]
          have l1 : [((2 : Nat), (0 : Nat))].length = 1 := rfl
          omega
        · have l2 := pt_300 T i2
          refine stepR d L b I0 J0 I J Q ops0 fx h (fun I' J' h' => sR d L b I0 J0 I' J' _ ops0 fx h' (by omega) (fun I'' J'' h'' => ?_))
          rw [pb_228_18]
          refine pr_does fx (x := 2) (y := 0) h'' (by rw [List.length_append]; have := wd_le (c := c) (n := n) (i := i2 - 1); omega) (fun I3 h3 => ?_)
          rw [pb_228_24]
          refine lR d L b I0 J0 I3 J'' Q _ fx h3 ?_ hQ
          rw [List.length_append, List.length_append]
          have l1 : [((2 : Nat), (0 : Nat))].length = 1 := rfl
          omega
    · refine Or.inr ⟨f, by omega, f2, fun d L b I0 I J Q ops0 tk h pre hQ t ht => ?_, fun d L b I0 J0 I J Q ops0 fx h pre hQ => ?_⟩
      · refine stepX d L b I0 I J Q ops0 t ht tk h (fun I' h' => sX d L b I0 I' J _ ops0 tk h' (by omega) (fun I'' h'' => ?_))
        rw [pb_107_75, if_pos rfl, pb_107_78]
        exact hQ I'' h''
      · refine stepR d L b I0 J0 I J Q ops0 fx h (fun I' J' h' => sR d L b I0 J0 I' J' _ ops0 fx h' (by omega) (fun I'' J'' h'' => ?_))
        have fl : 0 ≤ I'' 79 68 := by rw [h''.2.2.2.1]; exact (on_n (by have := (pt_le (c := c) (n := n) f).2.2; omega)).1
        rw [pb_228_18, pr_does_f fl, pb_228_24, pb_228_4, pr_may_f fl, pb_228_11, if_pos rfl, pb_228_27]
        exact hQ I'' J'' h''
  · refine Or.inl ⟨i, [], ⟨Nat.le_refl _, hi, fun x hx => absurd hx (by simp), by show 4 * 0 + _ + _ ≤ _; omega, ok_nil (by omega)⟩, fun d L b I0 I J Q ops0 tk h pre hQ t ht => ?_, fun d L b I0 J0 I J Q ops0 fx h pre hQ => ?_⟩
    · rw [List.append_nil] at hQ
      have z := hQ I h
      by_cases t3 : 300 ≤ t
      · rw [pb_107_39, if_pos (by rw [show (300 : Int32) = Int32.ofNat 300 from rfl, on_le (by omega) (by omega)]; exact t3), pb_107_92]
        exact z
      · have ne : ¬ rd_fv (rd_cd c n i) = 12 := fun q => by
          unfold rd_fv at q
          by_cases k : rd_cd c n i = 99
          · rw [if_pos k] at q; exact absurd q (by decide)
          · rw [if_neg k] at q
            have bd : rd_cd c n i < 1000 := by unfold rd_cd; split; exact find_lt; decide
            rw [show (12 : Int32) = Int32.ofNat 12 from rfl, on_eq (by omega) (by omega)] at q
            exact cc q
        rw [pb_107_39, if_neg (by rw [show (300 : Int32) = Int32.ofNat 300 from rfl, on_le (by omega) (by omega)]; exact t3), pb_107_47, px_wordI (xq_tk tk h) h.2.2.1 hi (by omega) cb, pb_107_52, if_neg ne, pb_107_60, pb_107_61, px_pass0, pb_107_64, if_pos rfl, pb_107_92]
        exact z
    · rw [List.append_nil] at hQ
      have z := hQ I J h
      unfold rd_AlR
      rw [pb_228_4]
      refine pr_may (d := d + 3 * r + 4) fx (m := 12) (w := rd_W.getD 12 []) rfl rfl h (fun e => absurd e cc) (fun _ => ?_)
      rw [pb_228_11, if_pos rfl, pb_228_27]
      exact z

/-- the part, on both sides -/
def rd_EvX (r op : Nat) (d L : Nat) (b : Bool) (I : Nat → Nat → Int32) (J : Nat → Nat → Int64) (Q : Int32 → Int64 → pm_H → Prop) : Prop := pm_wc pm_code pm_meta (d + 4 * r + 8) 107 [.ref 40, .int 1, .int (Int32.ofNat op)] (pm_Gb L b, I, J) Q
def rd_EvR (r : Nat) (d L : Nat) (b : Bool) (I : Nat → Nat → Int32) (J : Nat → Nat → Int64) (Q : Int32 → Int64 → pm_H → Prop) : Prop := pm_wc pm_code pm_meta (d + 3 * r + 7) 228 [.ref 79] (pm_Gb L b, I, J) Q
def rd_Ev (c : Nat → Nat) (n N sl r op i : Nat) : Prop := rd_res c n N sl op i (rd_Fc c n N i (2 + 2 * (r : Int))) (fun k => 4 * k ≤ rd_s c n i) (rd_EvX r op) (rd_EvR r)
def rd_OlX (r op i : Nat) (d L : Nat) (b : Bool) (I : Nat → Nat → Int32) (J : Nat → Nat → Int64) (Q : Int32 → Int64 → pm_H → Prop) : Prop := ∀ t, t ≤ i → pm_wp pm_code pm_meta (d + 4 * r + 9) 107 39 ([.ref 40, .int 0, .int (Int32.ofNat op), .int 13, .int (Int32.ofNat t)], [], (pm_Gb L b, I, J)) Q
def rd_OlR (r : Nat) (d L : Nat) (b : Bool) (I : Nat → Nat → Int32) (J : Nat → Nat → Int64) (Q : Int32 → Int64 → pm_H → Prop) : Prop := pm_wp pm_code pm_meta (d + 3 * r + 8) 227 4 ([.ref 79], [], (pm_Gb L b, I, J)) Q
def rd_Ol (c : Nat → Nat) (n N sl r op i : Nat) : Prop := rd_res c n N sl op i (rd_FL c n N i (2 + 2 * (r : Int))) (fun k => 4 * k + 1 ≤ rd_pt c n i + rd_wd c n (i - 1)) (rd_OlX r op i) (rd_OlR r)
/-- the joints -/
theorem rd_Ol_ih {c : Nat → Nat} {n N sl r op i : Nat} (T : rd_tape c n N) (hi : i ≤ N) (h1 : 1 ≤ i) (hsub : i + 1 ≤ N → rd_Ev c n N sl r op (i + 1)) (hl : ∀ i', i < i' → i' ≤ N → rd_Ol c n N sl r op i') : rd_Ol c n N sl r op i := by
  have n3 := T.2.1
  have Nn := T.2.2.1
  have cb := T.1
  by_cases cc : rd_cd c n i = 13
  · have iN : i < N := by
      by_cases q : i = N
      · rw [q, cd_N T] at cc; omega
      · omega
    obtain ⟨sg, len⟩ := cd_sg (by decide) cc
    obtain ⟨wd1, fp0⟩ := wd_cd (by decide) cc
    have len2 : rd_pt c n (i + 1) = rd_s c n i + 2 := len
    have gp := gap T iN
    have gp0 := gap (i := i - 1) T (by omega)
    rw [show i - 1 + 1 = i by omega] at gp0
    have eX : rd_fv 13 = 13 := rfl
    -- the joint on the class's side
    have stepX : ∀ (d L : Nat) (b : Bool) (I0 I : Nat → Nat → Int32) (J : Nat → Nat → Int64) (Q : Int32 → Int64 → pm_H → Prop) (ops0 : List (Nat × Nat)) (t : Nat), t ≤ i → rd_tk c n (N + 1) I0 → rd_xq c n N I0 i ops0 I → (∀ I', rd_xq c n N I0 (i + 1) ops0 I' → rd_EvX r op d L b I' J (fun v w H => pm_wp pm_code pm_meta (d + 4 * r + 9) 107 75 ([.ref 40, .int 0, .int (Int32.ofNat op), .int 13, .int (Int32.ofNat t)], [.int v], H) Q)) → pm_wp pm_code pm_meta (d + 4 * r + 9) 107 39 ([.ref 40, .int 0, .int (Int32.ofNat op), .int 13, .int (Int32.ofNat t)], [], (pm_Gb L b, I, J)) Q := fun d L b I0 I J Q ops0 t ht tk h k => by
      rw [pb_107_39, if_neg (by rw [show (300 : Int32) = Int32.ofNat 300 from rfl, on_le (by omega) (by omega)]; omega), pb_107_47, px_wordI (xq_tk tk h) h.2.2.1 hi (by omega) cb, pb_107_52, cc, eX, if_pos rfl, pb_107_56, pb_107_61, px_pass1, pb_107_64, if_neg (by decide), pb_107_67]
      exact k _ (xq_pass h)
    have stepR : ∀ (d L : Nat) (b : Bool) (I0 : Nat → Nat → Int32) (J0 : Nat → Nat → Int64) (I : Nat → Nat → Int32) (J : Nat → Nat → Int64) (Q : Int32 → Int64 → pm_H → Prop) (ops0 : List (Nat × Nat)), rd_fx c n sl I0 → rd_rq c n sl I0 J0 i ops0 op I J → (∀ I' J', rd_rq c n sl I0 J0 (i + 1) ops0 op I' J' → rd_EvR r d L b I' J' (fun v w H => pm_wp pm_code pm_meta (d + 3 * r + 8) 227 18 ([.ref 79], [], H) Q)) → rd_OlR r d L b I J Q := fun d L b I0 J0 I J Q ops0 fx h k => by
      unfold rd_OlR
      rw [pb_227_4]
      refine pr_may (d := d + 3 * r + 5) fx (m := 13) (w := rd_W.getD 13 []) rfl rfl h (fun _ I' J' h' => ?_) (fun e => absurd cc e)
      rw [pb_227_11, if_neg (by decide), pb_227_14]
      exact k I' J' h'
    rcases hsub (by omega) with ⟨i2, ops2, ⟨f1, f2, f3, f4, f5, f6⟩, sX, sR⟩ | ⟨f, f1, f2, sX, sR⟩
    · rcases hl i2 (by omega) f2 with ⟨i3, ops3, ⟨g1, g2, g3, g4, g5⟩, lX, lR⟩ | ⟨f, g1, g2, lX, lR⟩
      · refine Or.inl ⟨i3, ops2 ++ [(1, 0)] ++ ops3, ⟨by omega, g2, in_app (in_app f3 (in_one (by omega))) g3, ?_, ?_⟩, fun d L b I0 I J Q ops0 tk h pre hQ t ht => ?_, fun d L b I0 J0 I J Q ops0 fx h pre hQ => ?_⟩
        · rw [List.length_append, List.length_append]
          have l1 : [((1 : Nat), (0 : Nat))].length = 1 := rfl
          omega
        · have a := ok_snoc (x := (1, 0)) f6 (by decide) (by show (1 : Int) + -1 ≤ _; omega)
          exact ok_app a g5 (by decide) (Int.le_refl _) (by show (1 : Int) + -1 + _ ≤ _; omega)
        · have l2 := pt_300 T i2
          refine stepX d L b I0 I J Q ops0 t ht tk h (fun I' h' => sX d L b I0 I' J _ ops0 tk h' (by omega) (fun I'' h'' => ?_))
          rw [pb_107_75, if_neg (by decide), pb_107_80]
          refine px_addSign (d := d + 4 * r + 7) (x := 1) (y := 0) rfl h'' (by rw [List.length_append]; have := wd_le (c := c) (n := n) (i := i2 - 1); omega) (fun I3 h3 => ?_)
          rw [pb_107_86, on_s]
          refine lX d L b I0 I3 J Q _ tk h3 ?_ (fun I4 h4 => hQ I4 ?_) (t + 1) (by omega)
          · rw [List.length_append, List.length_append]
            have l1 : [((1 : Nat), (0 : Nat))].length = 1 := rfl
            omega
          · rw [List.append_assoc, List.append_assoc] at h4
            rw [← List.append_assoc, ← List.append_assoc, List.append_assoc, List.append_assoc]
            exact h4
        · have l2 := pt_300 T i2
          refine stepR d L b I0 J0 I J Q ops0 fx h (fun I' J' h' => sR d L b I0 J0 I' J' _ ops0 fx h' (by omega) (fun I'' J'' h'' => ?_))
          rw [pb_227_18]
          refine pr_does fx (x := 1) (y := 0) h'' (by rw [List.length_append]; have := wd_le (c := c) (n := n) (i := i2 - 1); omega) (fun I3 h3 => ?_)
          rw [pb_227_24]
          refine lR d L b I0 J0 I3 J'' Q _ fx h3 ?_ (fun I4 J4 h4 => hQ I4 J4 ?_)
          · rw [List.length_append, List.length_append]
            have l1 : [((1 : Nat), (0 : Nat))].length = 1 := rfl
            omega
          · rw [List.append_assoc, List.append_assoc] at h4
            rw [← List.append_assoc, ← List.append_assoc, List.append_assoc, List.append_assoc]
            exact h4
      · refine Or.inr ⟨f, by omega, g2, fun d L b I0 I J Q ops0 tk h pre hQ t ht => ?_, fun d L b I0 J0 I J Q ops0 fx h pre hQ => ?_⟩
        · have l2 := pt_300 T i2
          refine stepX d L b I0 I J Q ops0 t ht tk h (fun I' h' => sX d L b I0 I' J _ ops0 tk h' (by omega) (fun I'' h'' => ?_))
          rw [pb_107_75, if_neg (by decide), pb_107_80]
          refine px_addSign (d := d + 4 * r + 7) (x := 1) (y := 0) rfl h'' (by rw [List.length_append]; have := wd_le (c := c) (n := n) (i := i2 - 1); omega) (fun I3 h3 => ?_)
          rw [pb_107_86, on_s]
          refine lX d L b I0 I3 J Q _ tk h3 ?_ hQ (t + 1) (by omega)
          rw [List.length_append, List.length_append]
          have l1 : [((1 : Nat), (0 : Nat))].length = 1 := rfl
          omega
        · have l2 := pt_300 T i2
          refine stepR d L b I0 J0 I J Q ops0 fx h (fun I' J' h' => sR d L b I0 J0 I' J' _ ops0 fx h' (by omega) (fun I'' J'' h'' => ?_))
          rw [pb_227_18]
          refine pr_does fx (x := 1) (y := 0) h'' (by rw [List.length_append]; have := wd_le (c := c) (n := n) (i := i2 - 1); omega) (fun I3 h3 => ?_)
          rw [pb_227_24]
          refine lR d L b I0 J0 I3 J'' Q _ fx h3 ?_ hQ
          rw [List.length_append, List.length_append]
          have l1 : [((1 : Nat), (0 : Nat))].length = 1 := rfl
          omega
    · refine Or.inr ⟨f, by omega, f2, fun d L b I0 I J Q ops0 tk h pre hQ t ht => ?_, fun d L b I0 J0 I J Q ops0 fx h pre hQ => ?_⟩
      · refine stepX d L b I0 I J Q ops0 t ht tk h (fun I' h' => sX d L b I0 I' J _ ops0 tk h' (by omega) (fun I'' h'' => ?_))
        rw [pb_107_75, if_pos rfl, pb_107_78]
        exact hQ I'' h''
      · refine stepR d L b I0 J0 I J Q ops0 fx h (fun I' J' h' => sR d L b I0 J0 I' J' _ ops0 fx h' (by omega) (fun I'' J'' h'' => ?_))
        have fl : 0 ≤ I'' 79 68 := by rw [h''.2.2.2.1]; exact (on_n (by have := (pt_le (c := c) (n := n) f).2.2; omega)).1
        rw [pb_227_18, pr_does_f fl, pb_227_24, pb_227_4, pr_may_f fl, pb_227_11, if_pos rfl, pb_227_27]
        exact hQ I'' J'' h''
  · refine Or.inl ⟨i, [], ⟨Nat.le_refl _, hi, fun x hx => absurd hx (by simp), by show 4 * 0 + _ + _ ≤ _; omega, ok_nil (by omega)⟩, fun d L b I0 I J Q ops0 tk h pre hQ t ht => ?_, fun d L b I0 J0 I J Q ops0 fx h pre hQ => ?_⟩
    · rw [List.append_nil] at hQ
      have z := hQ I h
      by_cases t3 : 300 ≤ t
      · rw [pb_107_39, if_pos (by rw [show (300 : Int32) = Int32.ofNat 300 from rfl, on_le (by omega) (by omega)]; exact t3), pb_107_92]
        exact z
      · have ne : ¬ rd_fv (rd_cd c n i) = 13 := fun q => by
          unfold rd_fv at q
          by_cases k : rd_cd c n i = 99
          · rw [if_pos k] at q; exact absurd q (by decide)
          · rw [if_neg k] at q
            have bd : rd_cd c n i < 1000 := by unfold rd_cd; split; exact find_lt; decide
            rw [show (13 : Int32) = Int32.ofNat 13 from rfl, on_eq (by omega) (by omega)] at q
            exact cc q
        rw [pb_107_39, if_neg (by rw [show (300 : Int32) = Int32.ofNat 300 from rfl, on_le (by omega) (by omega)]; exact t3), pb_107_47, px_wordI (xq_tk tk h) h.2.2.1 hi (by omega) cb, pb_107_52, if_neg ne, pb_107_60, pb_107_61, px_pass0, pb_107_64, if_pos rfl, pb_107_92]
        exact z
    · rw [List.append_nil] at hQ
      have z := hQ I J h
      unfold rd_OlR
      rw [pb_227_4]
      refine pr_may (d := d + 3 * r + 5) fx (m := 13) (w := rd_W.getD 13 []) rfl rfl h (fun e => absurd e cc) (fun _ => ?_)
      rw [pb_227_11, if_pos rfl, pb_227_27]
      exact z

