/-! THE CALL read: a COND, on both sides. -/
section
variable {d L : Nat} {b : Bool} {I : Nat → Nat → Int32} {J : Nat → Nat → Int64} {Q : Int32 → Int64 → pm_H → Prop} {c : Nat → Nat} {n sl i opn N : Nat} {I0 : Nat → Nat → Int32} {J0 : Nat → Nat → Int64} {ops : List (Nat × Nat)}
theorem rq_open {o2 : Nat} {v : Int32} (hv : v = Int32.ofNat o2) (h : rd_rq c n sl I0 J0 i ops opn I J) : rd_rq c n sl I0 J0 i ops o2 (pm_u I 79 67 v) J := by
  obtain ⟨h1, h2, h3, h4, h5, h6, h7, h8, h9, r1, r2, r3, r4⟩ := h
  refine ⟨fun r q1 q2 q3 q4 => ?_, fun j q1 q2 q3 q4 q5 q6 => ?_, h3, ?_, ?_, fun j hj => ?_, ?_, fun j hj => ?_, fun m z hz => ?_, ?_, ?_, ?_, r4⟩
  · rw [pm_u_row, if_neg q1]; exact h1 r q1 q2 q3 q4
  · rw [pm_u_row, if_pos rfl, pm_w_ne q5]; exact h2 j q1 q2 q3 q4 q5 q6
  · rw [pm_u_at, hv]
  · rw [pm_u_row, if_pos rfl, pm_w_ne (by decide)]; exact h5
  · rw [pm_u_row, if_neg (by decide)]; exact h6 j hj
  · rw [pm_u_row, if_neg (by decide)]; exact h7
  · rw [pm_u_row, if_neg (by decide), pm_u_row, if_neg (by decide)]; exact h8 j hj
  · rw [pm_u_row, if_neg (by decide), pm_u_row, if_neg (by decide)]; exact h9 m z hz
  · rw [pm_u_row, if_pos rfl, pm_w_ne (by decide)]; exact r1
  · rw [pm_u_row, if_pos rfl, pm_w_ne (by decide)]; exact r2
  · rw [pm_u_row, if_pos rfl, pm_w_ne (by decide)]; exact r3
theorem rf_open {f : Nat} {v : Int32} (h : rd_rf c n sl I0 J0 f I J) : rd_rf c n sl I0 J0 f (pm_u I 79 67 v) J := by
  obtain ⟨h1, h2, h3, h4, h5, h6, h7⟩ := h
  refine ⟨fun r q1 q2 q3 q4 => ?_, fun j q1 q2 q3 q4 q5 q6 => ?_, h3, ?_, fun j hj => ?_, fun j hj => ?_, ?_⟩
  · rw [pm_u_row, if_neg q1]; exact h1 r q1 q2 q3 q4
  · rw [pm_u_row, if_pos rfl, pm_w_ne q5]; exact h2 j q1 q2 q3 q4 q5 q6
  · rw [pm_u_row, if_pos rfl, pm_w_ne (by decide)]; exact h4
  · rw [pm_u_row, if_neg (by decide)]; exact h5 j hj
  · rw [pm_u_row, if_neg (by decide), pm_u_row, if_neg (by decide)]; exact h6 j hj
  · rw [pm_u_row, if_neg (by decide)]; exact h7
theorem rf_fl {f : Nat} (n3 : n ≤ 300) (h : rd_rf c n sl I0 J0 f I J) : 0 ≤ I 79 68 := by
  rw [h.2.2.2.1]; exact (on_n (by have := (pt_le (c := c) (n := n) f).2.2; omega)).1
theorem fv_ne {m : Nat} (hm : m < 21) (h : ¬ rd_cd c n i = m) : ¬ rd_fv (rd_cd c n i) = Int32.ofNat m := fun q => by
  unfold rd_fv at q
  by_cases k : rd_cd c n i = 99
  · rw [if_pos k] at q
    have z := (on_n (a := m) (by omega)).2.2
    rw [← q] at z
    have : (-1 : Int32).toInt = -1 := rfl
    omega
  · rw [if_neg k] at q
    have bd : rd_cd c n i < 1000 := by unfold rd_cd; split; exact find_lt; decide
    rw [on_eq (by omega) (by omega)] at q
    exact h q
end
/-- EITHER -/
def rd_EiX (r op : Nat) (d L : Nat) (b : Bool) (I : Nat → Nat → Int32) (J : Nat → Nat → Int64) (Q : Int32 → Int64 → pm_H → Prop) : Prop := pm_wc pm_code pm_meta (d + 4 * r + 9) 107 [.ref 40, .int 0, .int (Int32.ofNat op)] (pm_Gb L b, I, J) Q
def rd_EiR (r : Nat) (d L : Nat) (b : Bool) (I : Nat → Nat → Int32) (J : Nat → Nat → Int64) (Q : Int32 → Int64 → pm_H → Prop) : Prop := pm_wc pm_code pm_meta (d + 3 * r + 8) 227 [.ref 79] (pm_Gb L b, I, J) Q
def rd_Ei (c : Nat → Nat) (n N sl r op i : Nat) : Prop := rd_res c n N sl op i (rd_Fc c n N i (3 + 2 * (r : Int))) (fun k => 4 * k ≤ rd_s c n i) (rd_EiX r op) (rd_EiR r)

theorem rd_Ev_ih {c : Nat → Nat} {n N sl r op i : Nat} (T : rd_tape c n N) (hi : i ≤ N) (hsub : rd_One c n N sl r op i) (hl : ∀ i', i < i' → i' ≤ N → rd_Al c n N sl r op i') : rd_Ev c n N sl r op i := by
  have n3 := T.2.1
  have headX : ∀ (d L : Nat) (b : Bool) (I : Nat → Nat → Int32) (J : Nat → Nat → Int64) (Q : Int32 → Int64 → pm_H → Prop), rd_OneX r op d L b I J (fun v w H => pm_wp pm_code pm_meta (d + 4 * r + 8) 107 19 ([.ref 40, .int 1, .int (Int32.ofNat op), pm_unset, pm_unset], [.int v], H) Q) → rd_EvX r op d L b I J Q := fun d L b I J Q h => by
    unfold rd_EvX
    rw [pb_107_0, if_neg (by decide), pb_107_11]
    exact h
  rcases hsub with ⟨i2, ops2, ⟨f1, f2, f3, f4, f5, f6⟩, sX, sR⟩ | ⟨f, f1, f2, sX, sR⟩
  · rcases hl i2 f1 f2 with ⟨i3, ops3, ⟨g1, g2, g3, g4, g5⟩, lX, lR⟩ | ⟨f, g1, g2, lX, lR⟩
    · refine Or.inl ⟨i3, ops2 ++ ops3, ⟨by omega, g2, in_app f3 g3, by rw [List.length_append]; omega, f5, ?_⟩, fun d L b I0 I J Q ops0 tk h pre hQ => ?_, fun d L b I0 J0 I J Q ops0 fx h pre hQ => ?_⟩
      · have z := ok_app (h3 := 2 + 2 * (r : Int)) f6 g5 (by decide) (by omega) (by omega)
        rw [Int.add_zero] at z
        exact z
      · refine headX d L b I J Q (sX d L b I0 I J _ ops0 tk h pre (fun I' h' => ?_))
        rw [pb_107_19, if_neg (by decide), pb_107_24, if_neg (by decide), pb_107_33, pb_107_35]
        refine lX d L b I0 I' J Q _ tk h' (by rw [List.length_append]; omega) (fun I3 h3 => hQ I3 ?_) 0 (Nat.zero_le _)
        rw [List.append_assoc] at h3
        exact h3
      · unfold rd_EvR
        rw [pb_228_0]
        refine sR d L b I0 J0 I J _ ops0 fx h pre (fun I' J' h' => ?_)
        refine lR d L b I0 J0 I' J' Q _ fx h' (by rw [List.length_append]; omega) (fun I3 J3 h3 => hQ I3 J3 ?_)
        rw [List.append_assoc] at h3
        exact h3
    · refine Or.inr ⟨f, by omega, g2, fun d L b I0 I J Q ops0 tk h pre hQ => ?_, fun d L b I0 J0 I J Q ops0 fx h pre hQ => ?_⟩
      · refine headX d L b I J Q (sX d L b I0 I J _ ops0 tk h pre (fun I' h' => ?_))
        rw [pb_107_19, if_neg (by decide), pb_107_24, if_neg (by decide), pb_107_33, pb_107_35]
        exact lX d L b I0 I' J Q _ tk h' (by rw [List.length_append]; omega) hQ 0 (Nat.zero_le _)
      · unfold rd_EvR
        rw [pb_228_0]
        refine sR d L b I0 J0 I J _ ops0 fx h pre (fun I' J' h' => ?_)
        exact lR d L b I0 J0 I' J' Q _ fx h' (by rw [List.length_append]; omega) hQ
  · refine Or.inr ⟨f, f1, f2, fun d L b I0 I J Q ops0 tk h pre hQ => ?_, fun d L b I0 J0 I J Q ops0 fx h pre hQ => ?_⟩
    · refine headX d L b I J Q (sX d L b I0 I J _ ops0 tk h pre (fun I' h' => ?_))
      rw [pb_107_19, if_pos rfl, pb_107_22]
      exact hQ I' h'
    · unfold rd_EvR
      rw [pb_228_0]
      refine sR d L b I0 J0 I J _ ops0 fx h pre (fun I' J' h' => ?_)
      have fl := rf_fl n3 h'
      rw [pb_228_4, pr_may_f fl, pb_228_11, if_pos rfl, pb_228_27]
      exact hQ I' J' h'

theorem rd_Ei_ih {c : Nat → Nat} {n N sl r op i : Nat} (T : rd_tape c n N) (hi : i ≤ N) (hsub : rd_Ev c n N sl r op i) (hl : ∀ i', i < i' → i' ≤ N → rd_Ol c n N sl r op i') : rd_Ei c n N sl r op i := by
  have n3 := T.2.1
  have headX : ∀ (d L : Nat) (b : Bool) (I : Nat → Nat → Int32) (J : Nat → Nat → Int64) (Q : Int32 → Int64 → pm_H → Prop), rd_EvX r op d L b I J (fun v w H => pm_wp pm_code pm_meta (d + 4 * r + 9) 107 19 ([.ref 40, .int 0, .int (Int32.ofNat op), pm_unset, pm_unset], [.int v], H) Q) → rd_EiX r op d L b I J Q := fun d L b I J Q h => by
    unfold rd_EiX
    rw [pb_107_0, if_neg (by decide), pb_107_11]
    exact h
  rcases hsub with ⟨i2, ops2, ⟨f1, f2, f3, f4, f5, f6⟩, sX, sR⟩ | ⟨f, f1, f2, sX, sR⟩
  · rcases hl i2 f1 f2 with ⟨i3, ops3, ⟨g1, g2, g3, g4, g5⟩, lX, lR⟩ | ⟨f, g1, g2, lX, lR⟩
    · refine Or.inl ⟨i3, ops2 ++ ops3, ⟨by omega, g2, in_app f3 g3, by rw [List.length_append]; omega, f5, ?_⟩, fun d L b I0 I J Q ops0 tk h pre hQ => ?_, fun d L b I0 J0 I J Q ops0 fx h pre hQ => ?_⟩
      · have z := ok_app (h3 := 3 + 2 * (r : Int)) f6 g5 (by decide) (by omega) (by omega)
        rw [Int.add_zero] at z
        exact z
      · refine headX d L b I J Q (sX d L b I0 I J _ ops0 tk h pre (fun I' h' => ?_))
        rw [pb_107_19, if_neg (by decide), pb_107_24, if_pos rfl, pb_107_28, pb_107_35]
        refine lX d L b I0 I' J Q _ tk h' (by rw [List.length_append]; omega) (fun I3 h3 => hQ I3 ?_) 0 (Nat.zero_le _)
        rw [List.append_assoc] at h3
        exact h3
      · unfold rd_EiR
        rw [pb_227_0]
        refine sR d L b I0 J0 I J _ ops0 fx h pre (fun I' J' h' => ?_)
        refine lR d L b I0 J0 I' J' Q _ fx h' (by rw [List.length_append]; omega) (fun I3 J3 h3 => hQ I3 J3 ?_)
        rw [List.append_assoc] at h3
        exact h3
    · refine Or.inr ⟨f, by omega, g2, fun d L b I0 I J Q ops0 tk h pre hQ => ?_, fun d L b I0 J0 I J Q ops0 fx h pre hQ => ?_⟩
      · refine headX d L b I J Q (sX d L b I0 I J _ ops0 tk h pre (fun I' h' => ?_))
        rw [pb_107_19, if_neg (by decide), pb_107_24, if_pos rfl, pb_107_28, pb_107_35]
        exact lX d L b I0 I' J Q _ tk h' (by rw [List.length_append]; omega) hQ 0 (Nat.zero_le _)
      · unfold rd_EiR
        rw [pb_227_0]
        refine sR d L b I0 J0 I J _ ops0 fx h pre (fun I' J' h' => ?_)
        exact lR d L b I0 J0 I' J' Q _ fx h' (by rw [List.length_append]; omega) hQ
  · refine Or.inr ⟨f, f1, f2, fun d L b I0 I J Q ops0 tk h pre hQ => ?_, fun d L b I0 J0 I J Q ops0 fx h pre hQ => ?_⟩
    · refine headX d L b I J Q (sX d L b I0 I J _ ops0 tk h pre (fun I' h' => ?_))
      rw [pb_107_19, if_pos rfl, pb_107_22]
      exact hQ I' h'
    · unfold rd_EiR
      rw [pb_227_0]
      refine sR d L b I0 J0 I J _ ops0 fx h pre (fun I' J' h' => ?_)
      have fl := rf_fl n3 h'
      rw [pb_227_4, pr_may_f fl, pb_227_11, if_pos rfl, pb_227_27]
      exact hQ I' J' h'

def rd_OpX (r op : Nat) (d L : Nat) (b : Bool) (I : Nat → Nat → Int32) (J : Nat → Nat → Int64) (Q : Int32 → Int64 → pm_H → Prop) : Prop := ∀ (x2 x3 : Int32) (Q' : Int32 → Int64 → pm_H → Prop), (∀ I', Q 1 0 (pm_Gb L b, I', J) → pm_wp pm_code pm_meta (d + 4 * r + 6) 108 119 ([.ref 40, .int (Int32.ofNat op), .int x2, .int x3], [], (pm_Gb L b, I', J)) Q') → (∀ I', Q 0 0 (pm_Gb L b, I', J) → Q' 0 0 (pm_Gb L b, I', J)) → pm_wp pm_code pm_meta (d + 4 * r + 6) 108 48 ([.ref 40, .int (Int32.ofNat op), .int x2, .int x3], [], (pm_Gb L b, I, J)) Q'
def rd_OpR (r : Nat) (d L : Nat) (b : Bool) (I : Nat → Nat → Int32) (J : Nat → Nat → Int64) (Q : Int32 → Int64 → pm_H → Prop) : Prop := ∀ (x1 : Int32) (Q' : Int32 → Int64 → pm_H → Prop), (∀ I' J', Q 0 0 (pm_Gb L b, I', J') → pm_wp pm_code pm_meta (d + 3 * r + 6) 229 191 ([.ref 79, .int x1], [], (pm_Gb L b, I', J')) Q') → pm_wp pm_code pm_meta (d + 3 * r + 6) 229 25 ([.ref 79, .int x1], [], (pm_Gb L b, I, J)) Q'
def rd_Op (c : Nat → Nat) (n N sl r op i : Nat) : Prop := rd_res c n N sl op i (rd_Fc c n N i (1 + 2 * (r : Int))) (fun k => 4 * k ≤ rd_s c n i) (rd_OpX r op) (rd_OpR r)
theorem rd_Op_ih {c : Nat → Nat} {n N sl r op i : Nat} (T : rd_tape c n N) (hi : i ≤ N) (hop : op + r = 4) (hei : ∀ r', r = r' + 1 → i + 1 ≤ N → rd_Ei c n N sl r' (op + 1) (i + 1)) : rd_Op c n N sl r op i := by
  have n3 := T.2.1
  have Nn := T.2.2.1
  have cb := T.1
  have i300 := pt_300 T i
  have s300 : rd_s c n i ≤ 300 := by have := (pt_le (c := c) (n := n) i).2.2; omega
  have wN : ∀ m, m < 21 → rd_cd c n i = m → i < N := fun m hm h => by
    by_cases q : i = N
    · rw [q, cd_N T] at h; omega
    · omega
  have sN : ∀ j m, j ≤ N → m < 258 → rd_sg c n j = m → j < N ∧ rd_s c n j < n := fun j m hj hm h => by
    have e : j < N := by
      by_cases q : j = N
      · rw [q, sg_N T] at h; omega
      · omega
    exact ⟨e, T.2.2.2.2 j e⟩
  have wdm : ∀ j m, rd_sg c n j = m → ¬ m = 256 → rd_wd c n j = 0 := fun j m h hm => by unfold rd_wd; rw [h, if_neg hm]
  have fl300 : ∀ f, rd_s c n f < 67108864 := fun f => by have := (pt_le (c := c) (n := n) f).2.2; omega
  have w40 : ∀ m, m < 21 → rd_cd c n i = m → ¬ rd_sg c n i = 40 := fun m hm h q => by have := (cd_sg hm h).1; omega
  -- a question on the class's side: 109
  have sgb : ∀ j, rd_sg c n j ≤ 258 := fun j => by
    unfold rd_sg
    split
    · rename_i hh
      have := cb _ hh
      split
      · decide
      · split
        · decide
        · omega
    · decide
  have sgne : ∀ j m, m < 300 → ¬ rd_sg c n j = m → ¬ Int32.ofNat (rd_sg c n j) = Int32.ofNat m := fun j m hm h => by rw [on_eq (by have := sgb j; omega) (by omega)]; exact h
  have preX : ∀ (d L : Nat) (b : Bool) (I0 I : Nat → Nat → Int32) (J : Nat → Nat → Int64) (Q : Int32 → Int64 → pm_H → Prop) (ops0 : List (Nat × Nat)), ¬ rd_sg c n i = 40 → rd_tk c n (N + 1) I0 → rd_xq c n N I0 i ops0 I → (∀ Q'' : Int32 → Int64 → pm_H → Prop, (∀ I', Q 1 0 (pm_Gb L b, I', J) → Q'' 1 0 (pm_Gb L b, I', J)) → (∀ I', Q 0 0 (pm_Gb L b, I', J) → Q'' 0 0 (pm_Gb L b, I', J)) → pm_wc pm_code pm_meta (d + 4 * r + 5) 109 [.ref 40] (pm_Gb L b, I, J) Q'') → rd_OpX r op d L b I J Q := fun d L b I0 I J Q ops0 h40 tk h k x2 x3 Q' hY hN => by
    rw [pb_108_48, px_sortI (xq_tk tk h) h.2.2.1 hi (by omega), pb_108_52, if_neg (show ¬ Int32.ofNat (rd_sg c n i) = (40 : Int32) from sgne i 40 (by decide) h40), pb_108_110]
    refine k _ (fun I' hI' => ?_) (fun I' hI' => ?_)
    · show pm_wp _ _ _ _ _ _ _
      rw [pb_108_114, if_neg (by decide)]
      exact hY I' hI'
    · show pm_wp _ _ _ _ _ _ _
      rw [pb_108_114, if_pos rfl, pb_108_117]
      exact hN I' hI'
  -- the number at the end of a question
  have endX : ∀ (k is_ most : Nat) (w : Int32), is_ < 8 → most < 1000 → w = pm_opw (Int32.ofNat is_) → (w = 15 ∧ most = 3 ∨ ¬ w = 15 ∧ most = 999) → ¬ w = 20 → ∀ (d L : Nat) (b : Bool) (I0 I : Nat → Nat → Int32) (J : Nat → Nat → Int64) (Q'' : Int32 → Int64 → pm_H → Prop) (ops0 : List (Nat × Nat)), k ≤ N → ops0.length < 100 → rd_tk c n (N + 1) I0 → rd_xq c n N I0 k ops0 I → ((rd_sg c n k = 257 ∧ rd_nm c n k ≤ most) → ∀ I', rd_xq c n N I0 (k + 1) (ops0 ++ [(is_, rd_nm c n k)]) I' → Q'' 1 0 (pm_Gb L b, I', J)) → (¬ (rd_sg c n k = 257 ∧ rd_nm c n k ≤ most) → ∀ I', rd_xf I0 k I' → Q'' 0 0 (pm_Gb L b, I', J)) → pm_wp pm_code pm_meta (d + 4 * r + 5) 109 101 ([.ref 40, .int w], [], (pm_Gb L b, I, J)) Q'' := fun k is_ most w his hmost hw hm h20 d L b I0 I J Q'' ops0 hk hl tk h hY hN => by
    have at129 : pm_wp pm_code pm_meta (d + 4 * r + 5) 109 129 ([.ref 40, .int w], [.int (Int32.ofNat most), .ref 40], (pm_Gb L b, I, J)) Q'' := by
      rw [pb_109_129]
      refine px_passNumber (d := d + 4 * r + 3) tk cb (by omega) hk hmost h (fun e I' h' h4 => ?_) (fun e I' h' => ?_)
      · rw [pb_109_132, if_neg (by decide), pb_109_137, h4]
        refine px_addSign (d := d + 4 * r + 3) (x := is_) (y := rd_nm c n k) hw h' hl (fun I3 h3 => ?_)
        rw [pb_109_146]
        exact hY e I3 h3
      · rw [pb_109_132, if_pos rfl, pb_109_135]
        exact hN e I' h'
    rw [pb_109_101, if_neg h20, pb_109_115]
    rcases hm with ⟨e1, e2⟩ | ⟨e1, e2⟩
    · rw [if_pos e1, pb_109_122]; rw [e2] at at129; exact at129
    · rw [if_neg e1, pb_109_126]; rw [e2] at at129; exact at129
  have okq : ∀ is_ y : Nat, 4 ≤ is_ → is_ ≤ 7 → rd_ok [(is_, y)] (1 + 2 * (r : Int)) 1 := fun is_ y h1 h2 => by
    have e : rd_e is_ = 1 := by unfold rd_e; rw [if_neg (by omega), if_neg (by omega)]
    have z := ok_snoc (l := []) (x := (is_, y)) (hi := 1 + 2 * (r : Int)) (t := 0) (ok_nil (by omega)) (by show (0 : Int) ≤ 0 + rd_e is_; rw [e]; decide) (by show (0 : Int) + rd_e is_ ≤ _; rw [e]; omega)
    have z' : rd_ok [(is_, y)] (1 + 2 * (r : Int)) (0 + rd_e is_) := z
    rw [e] at z'
    exact z'
  have mayN : ∀ (m : Nat) (v : Int64), rd_W[m]? = some (rd_W.getD m []) → v = Int64.ofInt (rd_h (rd_W.getD m [])) → ¬ rd_cd c n i = m → ∀ (D L : Nat) (b : Bool) (I0 : Nat → Nat → Int32) (J0 : Nat → Nat → Int64) (I : Nat → Nat → Int32) (J : Nat → Nat → Int64) (Q : Int32 → Int64 → pm_H → Prop) (ops0 : List (Nat × Nat)) (o : Nat), rd_fx c n sl I0 → rd_rq c n sl I0 J0 i ops0 o I J → (pm_wc pm_code pm_meta (D + 2) 220 [.ref 79, .long v] (pm_Gb L b, I, J) Q ↔ Q 0 0 (pm_Gb L b, I, J)) := fun m v hw hv hne D L b I0 J0 I J Q ops0 o fx h => by
    rw [pb_220_0, pr_isWord hw hv h, pb_220_5, if_neg hne, if_pos rfl, pb_220_14]
    exact ⟨fun z => z.2, fun z => ⟨by decide, z⟩⟩
  by_cases cc : rd_cd c n i = 15
  · have iN := wN 15 (by decide) cc
    obtain ⟨sg, len⟩ := cd_sg (by decide) cc
    obtain ⟨wd1, fp0⟩ := wd_cd (by decide) cc
    have len2 : rd_pt c n (i + 1) = rd_s c n i + 5 := len
    have p1 := (pt_le (c := c) (n := n) (i + 1)).2.1
    by_cases nn : rd_sg c n (i + 1) = 257 ∧ rd_nm c n (i + 1) ≤ 3
    · obtain ⟨jN, js⟩ := sN (i + 1) 257 (by omega) (by decide) nn.1
      have e1 := s_e js
      refine Or.inl ⟨i + 2, [(4, rd_nm c n (i + 1))], ⟨by omega, by omega, in_one (by omega), ?_, by omega, okq 4 _ (by decide) (by decide)⟩, fun d L b I0 I J Q ops0 tk h pre hQ => ?_, fun d L b I0 J0 I J Q ops0 fx h pre hQ => ?_⟩
      · show 4 * 1 + _ + 1 + _ ≤ rd_pt c n (i + 1 + 1) + _
        omega
      · refine preX d L b I0 I J Q ops0 (w40 15 (by decide) cc) tk h (fun Q'' hY hN => ?_)
        rw [pb_109_0, px_wordI (xq_tk tk h) h.2.2.1 hi (by omega) cb, cc, show rd_fv 15 = 15 from rfl, pb_109_4, if_pos rfl, pb_109_30, pb_109_35, px_pass1, pb_109_38, if_neg (by decide), pb_109_43, if_neg (by decide), pb_109_72, if_neg (by decide)]
        exact endX (i + 1) 4 3 15 (by decide) (by decide) rfl (Or.inl ⟨rfl, rfl⟩) (by decide) d L b I0 _ J Q'' ops0 (by omega) (by omega) tk (xq_pass h) (fun _ I' h' => hY I' (hQ I' h')) (fun e => absurd nn e)
      · intro x1 Q' k
        rw [pb_229_25]
        refine pr_may (d := d + 3 * r + 3) fx (m := 15) (w := rd_W.getD 15 []) rfl rfl h (fun _ I1 J1 h1 => ?_) (fun e => absurd cc e)
        rw [pb_229_32, if_neg (by decide), pb_229_35]
        refine pr_number (d := d + 3 * r + 3) fx (most := 3) (by decide) h1 (by omega) (fun _ I2 J2 h2 => ?_) (fun e => absurd nn e)
        rw [pb_229_42]
        refine pr_does fx (x := 4) (y := rd_nm c n (i + 1)) h2 (by omega) (fun I3 h3 => ?_)
        rw [pb_229_45]
        exact k I3 J2 (hQ I3 J2 h3)
    · refine Or.inr ⟨i + 1, by omega, by omega, fun d L b I0 I J Q ops0 tk h pre hQ => ?_, fun d L b I0 J0 I J Q ops0 fx h pre hQ => ?_⟩
      · refine preX d L b I0 I J Q ops0 (w40 15 (by decide) cc) tk h (fun Q'' hY hN => ?_)
        rw [pb_109_0, px_wordI (xq_tk tk h) h.2.2.1 hi (by omega) cb, cc, show rd_fv 15 = 15 from rfl, pb_109_4, if_pos rfl, pb_109_30, pb_109_35, px_pass1, pb_109_38, if_neg (by decide), pb_109_43, if_neg (by decide), pb_109_72, if_neg (by decide)]
        exact endX (i + 1) 4 3 15 (by decide) (by decide) rfl (Or.inl ⟨rfl, rfl⟩) (by decide) d L b I0 _ J Q'' ops0 (by omega) (by omega) tk (xq_pass h) (fun e => absurd e nn) (fun _ I' h' => hN I' (hQ I' h'))
      · intro x1 Q' k
        rw [pb_229_25]
        refine pr_may (d := d + 3 * r + 3) fx (m := 15) (w := rd_W.getD 15 []) rfl rfl h (fun _ I1 J1 h1 => ?_) (fun e => absurd cc e)
        rw [pb_229_32, if_neg (by decide), pb_229_35]
        refine pr_number (d := d + 3 * r + 3) fx (most := 3) (by decide) h1 (by omega) (fun e => absurd e nn) (fun _ I2 h2 => ?_)
        rw [pb_229_42, pr_does_f (rf_fl n3 h2), pb_229_45]
        exact k I2 J1 (hQ I2 J1 h2)
  by_cases cc16 : rd_cd c n i = 16
  · have cc := cc16
    have iN := wN 16 (by decide) cc
    obtain ⟨sg, len⟩ := cd_sg (by decide) cc
    obtain ⟨wd1, fp0⟩ := wd_cd (by decide) cc
    have len2 : rd_pt c n (i + 1) = rd_s c n i + 6 := len
    have p1 := (pt_le (c := c) (n := n) (i + 1)).2.1
    by_cases c2 : rd_cd c n (i + 1) = 17
    · have iN2 : i + 1 < N := by
        by_cases q : i + 1 = N
        · rw [q, cd_N T] at c2; omega
        · omega
      obtain ⟨sg2, lenb⟩ := cd_sg (by decide) c2
      have lenb2 : rd_pt c n (i + 1 + 1) = rd_s c n (i + 1) + 5 := lenb
      have p2 := (pt_le (c := c) (n := n) (i + 1 + 1)).2.1
      by_cases nn : rd_sg c n (i + 1 + 1) = 257 ∧ rd_nm c n (i + 1 + 1) ≤ 999
      · obtain ⟨jN, js⟩ := sN (i + 1 + 1) 257 (by omega) (by decide) nn.1
        have e1 := s_e js
        refine Or.inl ⟨i + 1 + 1 + 1, [(5, rd_nm c n (i + 1 + 1))], ⟨by omega, by omega, in_one (by omega), ?_, by omega, okq 5 _ (by decide) (by decide)⟩, fun d L b I0 I J Q ops0 tk h pre hQ => ?_, fun d L b I0 J0 I J Q ops0 fx h pre hQ => ?_⟩
        · show 4 * 1 + _ + 1 + _ ≤ _
          omega
        · refine preX d L b I0 I J Q ops0 (w40 16 (by decide) cc) tk h (fun Q'' hY hN => ?_)
          have h2 := xq_pass h
          rw [pb_109_0, px_wordI (xq_tk tk h) h.2.2.1 hi (by omega) cb, cc, show rd_fv 16 = 16 from rfl, pb_109_4, if_neg (by decide), pb_109_12, if_pos rfl, pb_109_30, pb_109_35, px_pass1, pb_109_38, if_neg (by decide), pb_109_43, if_pos rfl, pb_109_49, px_wordI (xq_tk tk h2) h2.2.2.1 (by omega) (by omega) cb, pb_109_54, c2, show rd_fv 17 = 17 from rfl, if_pos rfl, pb_109_59, pb_109_64, px_pass1, pb_109_67, if_neg (by decide), pb_109_72, if_neg (by decide)]
          exact endX (i + 1 + 1) 5 999 16 (by decide) (by decide) rfl (Or.inr ⟨by decide, rfl⟩) (by decide) d L b I0 _ J Q'' ops0 (by omega) (by omega) tk (xq_pass h2) (fun _ I' h' => hY I' (hQ I' h')) (fun e => absurd nn e)
        · intro x1 Q' k
          rw [pb_229_25, mayN 15 8328978 rfl rfl (by omega) (d + 3 * r + 3) L b I0 J0 _ J _ ops0 op fx h, pb_229_32, if_pos rfl, pb_229_48]
          refine pr_may (d := d + 3 * r + 3) fx (m := 16) (w := rd_W.getD 16 []) rfl rfl h (fun _ I1 J1 h1 => ?_) (fun e => absurd cc e)
          rw [pb_229_55, if_neg (by decide), pb_229_58]
          refine pr_must (d := d + 3 * r + 2) fx (m := 17) (w := rd_W.getD 17 []) rfl rfl h1 (by omega) (fun _ I2 J2 h2 => ?_) (fun e => absurd c2 e)
          rw [pb_229_65]
          refine pr_number (d := d + 3 * r + 3) fx (most := 999) (by decide) h2 (by omega) (fun _ I3 J3 h3 => ?_) (fun e => absurd nn e)
          rw [pb_229_74]
          refine pr_does fx (x := 5) (y := rd_nm c n (i + 1 + 1)) h3 (by omega) (fun I4 h4 => ?_)
          rw [pb_229_77]
          exact k I4 J3 (hQ I4 J3 h4)
      · refine Or.inr ⟨i + 1 + 1, by omega, by omega, fun d L b I0 I J Q ops0 tk h pre hQ => ?_, fun d L b I0 J0 I J Q ops0 fx h pre hQ => ?_⟩
        · refine preX d L b I0 I J Q ops0 (w40 16 (by decide) cc) tk h (fun Q'' hY hN => ?_)
          have h2 := xq_pass h
          rw [pb_109_0, px_wordI (xq_tk tk h) h.2.2.1 hi (by omega) cb, cc, show rd_fv 16 = 16 from rfl, pb_109_4, if_neg (by decide), pb_109_12, if_pos rfl, pb_109_30, pb_109_35, px_pass1, pb_109_38, if_neg (by decide), pb_109_43, if_pos rfl, pb_109_49, px_wordI (xq_tk tk h2) h2.2.2.1 (by omega) (by omega) cb, pb_109_54, c2, show rd_fv 17 = 17 from rfl, if_pos rfl, pb_109_59, pb_109_64, px_pass1, pb_109_67, if_neg (by decide), pb_109_72, if_neg (by decide)]
          exact endX (i + 1 + 1) 5 999 16 (by decide) (by decide) rfl (Or.inr ⟨by decide, rfl⟩) (by decide) d L b I0 _ J Q'' ops0 (by omega) (by omega) tk (xq_pass h2) (fun e => absurd e nn) (fun _ I' h' => hN I' (hQ I' h'))
        · intro x1 Q' k
          rw [pb_229_25, mayN 15 8328978 rfl rfl (by omega) (d + 3 * r + 3) L b I0 J0 _ J _ ops0 op fx h, pb_229_32, if_pos rfl, pb_229_48]
          refine pr_may (d := d + 3 * r + 3) fx (m := 16) (w := rd_W.getD 16 []) rfl rfl h (fun _ I1 J1 h1 => ?_) (fun e => absurd cc e)
          rw [pb_229_55, if_neg (by decide), pb_229_58]
          refine pr_must (d := d + 3 * r + 2) fx (m := 17) (w := rd_W.getD 17 []) rfl rfl h1 (by omega) (fun _ I2 J2 h2 => ?_) (fun e => absurd c2 e)
          rw [pb_229_65]
          refine pr_number (d := d + 3 * r + 3) fx (most := 999) (by decide) h2 (by omega) (fun e => absurd e nn) (fun _ I3 h3 => ?_)
          rw [pb_229_74, pr_does_f (rf_fl n3 h3), pb_229_77]
          exact k I3 J2 (hQ I3 J2 h3)
    · refine Or.inr ⟨i + 1, by omega, by omega, fun d L b I0 I J Q ops0 tk h pre hQ => ?_, fun d L b I0 J0 I J Q ops0 fx h pre hQ => ?_⟩
      · refine preX d L b I0 I J Q ops0 (w40 16 (by decide) cc) tk h (fun Q'' hY hN => ?_)
        have h2 := xq_pass h
        have ne : ¬ rd_fv (rd_cd c n (i + 1)) = 17 := fv_ne (by decide) c2
        rw [pb_109_0, px_wordI (xq_tk tk h) h.2.2.1 hi (by omega) cb, cc, show rd_fv 16 = 16 from rfl, pb_109_4, if_neg (by decide), pb_109_12, if_pos rfl, pb_109_30, pb_109_35, px_pass1, pb_109_38, if_neg (by decide), pb_109_43, if_pos rfl, pb_109_49, px_wordI (xq_tk tk h2) h2.2.2.1 (by omega) (by omega) cb, pb_109_54, if_neg ne, pb_109_63, pb_109_64, px_pass0, pb_109_67, if_pos rfl, pb_109_70]
        exact hN _ (hQ _ (xq_xf h2))
      · intro x1 Q' k
        rw [pb_229_25, mayN 15 8328978 rfl rfl (by omega) (d + 3 * r + 3) L b I0 J0 _ J _ ops0 op fx h, pb_229_32, if_pos rfl, pb_229_48]
        refine pr_may (d := d + 3 * r + 3) fx (m := 16) (w := rd_W.getD 16 []) rfl rfl h (fun _ I1 J1 h1 => ?_) (fun e => absurd cc e)
        rw [pb_229_55, if_neg (by decide), pb_229_58]
        refine pr_must (d := d + 3 * r + 2) fx (m := 17) (w := rd_W.getD 17 []) rfl rfl h1 (by omega) (fun e => absurd e c2) (fun _ I2 h2 => ?_)
        have fl := rf_fl n3 h2
        rw [pb_229_65, pr_number_f fl, pb_229_74, pr_does_f fl, pb_229_77]
        exact k I2 J1 (hQ I2 J1 h2)
  by_cases cc18 : rd_cd c n i = 18
  · have cc := cc18
    have iN := wN 18 (by decide) cc
    obtain ⟨sg, len⟩ := cd_sg (by decide) cc
    obtain ⟨wd1, fp0⟩ := wd_cd (by decide) cc
    have len2 : rd_pt c n (i + 1) = rd_s c n i + 5 := len
    have p1 := (pt_le (c := c) (n := n) (i + 1)).2.1
    by_cases c2 : rd_cd c n (i + 1) = 19
    · have iN2 : i + 1 < N := by
        by_cases q : i + 1 = N
        · rw [q, cd_N T] at c2; omega
        · omega
      obtain ⟨sg2, lenb⟩ := cd_sg (by decide) c2
      have lenb2 : rd_pt c n (i + 1 + 1) = rd_s c n (i + 1) + 6 := lenb
      have p2 := (pt_le (c := c) (n := n) (i + 1 + 1)).2.1
      by_cases nn : rd_sg c n (i + 1 + 1) = 257 ∧ rd_nm c n (i + 1 + 1) ≤ 999
      · obtain ⟨jN, js⟩ := sN (i + 1 + 1) 257 (by omega) (by decide) nn.1
        have e1 := s_e js
        refine Or.inl ⟨i + 1 + 1 + 1, [(6, rd_nm c n (i + 1 + 1))], ⟨by omega, by omega, in_one (by omega), ?_, by omega, okq 6 _ (by decide) (by decide)⟩, fun d L b I0 I J Q ops0 tk h pre hQ => ?_, fun d L b I0 J0 I J Q ops0 fx h pre hQ => ?_⟩
        · show 4 * 1 + _ + 1 + _ ≤ _
          omega
        · refine preX d L b I0 I J Q ops0 (w40 18 (by decide) cc) tk h (fun Q'' hY hN => ?_)
          have h2 := xq_pass h
          rw [pb_109_0, px_wordI (xq_tk tk h) h.2.2.1 hi (by omega) cb, cc, show rd_fv 18 = 18 from rfl, pb_109_4, if_neg (by decide), pb_109_12, if_neg (by decide), pb_109_18, if_pos rfl, pb_109_30, pb_109_35, px_pass1, pb_109_38, if_neg (by decide), pb_109_43, if_neg (by decide), pb_109_72, if_pos rfl, pb_109_78, px_wordI (xq_tk tk h2) h2.2.2.1 (by omega) (by omega) cb, pb_109_83, c2, show rd_fv 19 = 19 from rfl, if_pos rfl, pb_109_88, pb_109_93, px_pass1, pb_109_96, if_neg (by decide)]
          exact endX (i + 1 + 1) 6 999 18 (by decide) (by decide) rfl (Or.inr ⟨by decide, rfl⟩) (by decide) d L b I0 _ J Q'' ops0 (by omega) (by omega) tk (xq_pass h2) (fun _ I' h' => hY I' (hQ I' h')) (fun e => absurd nn e)
        · intro x1 Q' k
          rw [pb_229_25, mayN 15 8328978 rfl rfl (by omega) (d + 3 * r + 3) L b I0 J0 _ J _ ops0 op fx h, pb_229_32, if_pos rfl, pb_229_48, mayN 16 21568592 rfl rfl (by omega) (d + 3 * r + 3) L b I0 J0 _ J _ ops0 op fx h, pb_229_55, if_pos rfl, pb_229_80]
          refine pr_may (d := d + 3 * r + 3) fx (m := 18) (w := rd_W.getD 18 []) rfl rfl h (fun _ I1 J1 h1 => ?_) (fun e => absurd cc e)
          rw [pb_229_87, if_neg (by decide), pb_229_90]
          refine pr_must (d := d + 3 * r + 2) fx (m := 19) (w := rd_W.getD 19 []) rfl rfl h1 (by omega) (fun _ I2 J2 h2 => ?_) (fun e => absurd c2 e)
          rw [pb_229_97]
          refine pr_number (d := d + 3 * r + 3) fx (most := 999) (by decide) h2 (by omega) (fun _ I3 J3 h3 => ?_) (fun e => absurd nn e)
          rw [pb_229_107]
          refine pr_does fx (x := 6) (y := rd_nm c n (i + 1 + 1)) h3 (by omega) (fun I4 h4 => ?_)
          rw [pb_229_110]
          exact k I4 J3 (hQ I4 J3 h4)
      · refine Or.inr ⟨i + 1 + 1, by omega, by omega, fun d L b I0 I J Q ops0 tk h pre hQ => ?_, fun d L b I0 J0 I J Q ops0 fx h pre hQ => ?_⟩
        · refine preX d L b I0 I J Q ops0 (w40 18 (by decide) cc) tk h (fun Q'' hY hN => ?_)
          have h2 := xq_pass h
          rw [pb_109_0, px_wordI (xq_tk tk h) h.2.2.1 hi (by omega) cb, cc, show rd_fv 18 = 18 from rfl, pb_109_4, if_neg (by decide), pb_109_12, if_neg (by decide), pb_109_18, if_pos rfl, pb_109_30, pb_109_35, px_pass1, pb_109_38, if_neg (by decide), pb_109_43, if_neg (by decide), pb_109_72, if_pos rfl, pb_109_78, px_wordI (xq_tk tk h2) h2.2.2.1 (by omega) (by omega) cb, pb_109_83, c2, show rd_fv 19 = 19 from rfl, if_pos rfl, pb_109_88, pb_109_93, px_pass1, pb_109_96, if_neg (by decide)]
          exact endX (i + 1 + 1) 6 999 18 (by decide) (by decide) rfl (Or.inr ⟨by decide, rfl⟩) (by decide) d L b I0 _ J Q'' ops0 (by omega) (by omega) tk (xq_pass h2) (fun e => absurd e nn) (fun _ I' h' => hN I' (hQ I' h'))
        · intro x1 Q' k
          rw [pb_229_25, mayN 15 8328978 rfl rfl (by omega) (d + 3 * r + 3) L b I0 J0 _ J _ ops0 op fx h, pb_229_32, if_pos rfl, pb_229_48, mayN 16 21568592 rfl rfl (by omega) (d + 3 * r + 3) L b I0 J0 _ J _ ops0 op fx h, pb_229_55, if_pos rfl, pb_229_80]
          refine pr_may (d := d + 3 * r + 3) fx (m := 18) (w := rd_W.getD 18 []) rfl rfl h (fun _ I1 J1 h1 => ?_) (fun e => absurd cc e)
          rw [pb_229_87, if_neg (by decide), pb_229_90]
          refine pr_must (d := d + 3 * r + 2) fx (m := 19) (w := rd_W.getD 19 []) rfl rfl h1 (by omega) (fun _ I2 J2 h2 => ?_) (fun e => absurd c2 e)
          rw [pb_229_97]
          refine pr_number (d := d + 3 * r + 3) fx (most := 999) (by decide) h2 (by omega) (fun e => absurd e nn) (fun _ I3 h3 => ?_)
          rw [pb_229_107, pr_does_f (rf_fl n3 h3), pb_229_110]
          exact k I3 J2 (hQ I3 J2 h3)
    · refine Or.inr ⟨i + 1, by omega, by omega, fun d L b I0 I J Q ops0 tk h pre hQ => ?_, fun d L b I0 J0 I J Q ops0 fx h pre hQ => ?_⟩
      · refine preX d L b I0 I J Q ops0 (w40 18 (by decide) cc) tk h (fun Q'' hY hN => ?_)
        have h2 := xq_pass h
        have ne : ¬ rd_fv (rd_cd c n (i + 1)) = 19 := fv_ne (by decide) c2
        rw [pb_109_0, px_wordI (xq_tk tk h) h.2.2.1 hi (by omega) cb, cc, show rd_fv 18 = 18 from rfl, pb_109_4, if_neg (by decide), pb_109_12, if_neg (by decide), pb_109_18, if_pos rfl, pb_109_30, pb_109_35, px_pass1, pb_109_38, if_neg (by decide), pb_109_43, if_neg (by decide), pb_109_72, if_pos rfl, pb_109_78, px_wordI (xq_tk tk h2) h2.2.2.1 (by omega) (by omega) cb, pb_109_83, if_neg ne, pb_109_92, pb_109_93, px_pass0, pb_109_96, if_pos rfl, pb_109_99]
        exact hN _ (hQ _ (xq_xf h2))
      · intro x1 Q' k
        rw [pb_229_25, mayN 15 8328978 rfl rfl (by omega) (d + 3 * r + 3) L b I0 J0 _ J _ ops0 op fx h, pb_229_32, if_pos rfl, pb_229_48, mayN 16 21568592 rfl rfl (by omega) (d + 3 * r + 3) L b I0 J0 _ J _ ops0 op fx h, pb_229_55, if_pos rfl, pb_229_80]
        refine pr_may (d := d + 3 * r + 3) fx (m := 18) (w := rd_W.getD 18 []) rfl rfl h (fun _ I1 J1 h1 => ?_) (fun e => absurd cc e)
        rw [pb_229_87, if_neg (by decide), pb_229_90]
        refine pr_must (d := d + 3 * r + 2) fx (m := 19) (w := rd_W.getD 19 []) rfl rfl h1 (by omega) (fun e => absurd e c2) (fun _ I2 h2 => ?_)
        have fl := rf_fl n3 h2
        rw [pb_229_97, pr_number_f fl, pb_229_107, pr_does_f fl, pb_229_110]
        exact k I2 J1 (hQ I2 J1 h2)
  by_cases cc20 : rd_cd c n i = 20
  · have cc := cc20
    have iN := wN 20 (by decide) cc
    obtain ⟨sg, len⟩ := cd_sg (by decide) cc
    obtain ⟨wd1, fp0⟩ := wd_cd (by decide) cc
    have len2 : rd_pt c n (i + 1) = rd_s c n i + 4 := len
    refine Or.inl ⟨i + 1, [(7, 0)], ⟨by omega, by omega, in_one (by omega), ?_, by omega, okq 7 _ (by decide) (by decide)⟩, fun d L b I0 I J Q ops0 tk h pre hQ => ?_, fun d L b I0 J0 I J Q ops0 fx h pre hQ => ?_⟩
    · show 4 * 1 + _ + 1 + _ ≤ _ + rd_wd c n (i + 1 - 1)
      rw [show i + 1 - 1 = i by omega]
      omega
    · refine preX d L b I0 I J Q ops0 (w40 20 (by decide) cc) tk h (fun Q'' hY hN => ?_)
      have h2 := xq_pass h
      rw [pb_109_0, px_wordI (xq_tk tk h) h.2.2.1 hi (by omega) cb, cc, show rd_fv 20 = 20 from rfl, pb_109_4, if_neg (by decide), pb_109_12, if_neg (by decide), pb_109_18, if_neg (by decide), pb_109_24, if_pos rfl, pb_109_30, pb_109_35, px_pass1, pb_109_38, if_neg (by decide), pb_109_43, if_neg (by decide), pb_109_72, if_neg (by decide), pb_109_101, if_pos rfl, pb_109_107, pb_109_137, pm_u_at]
      refine px_addSign (d := d + 4 * r + 3) (x := 7) (y := 0) (i := i + 1) (ops := ops0) (N := N) (c := c) (n := n) (I0 := I0) rfl ?_ (by omega) (fun I3 h3 => ?_)
      · obtain ⟨q1, q2, q3, q4, q5, q6⟩ := h2
        refine ⟨fun r a e f => ?_, fun j a e => ?_, ?_, ?_, ?_, fun m x hx => ?_⟩
        · rw [pm_u_row, if_neg a]; exact q1 r a e f
        · rw [pm_u_row, if_pos rfl, pm_w_ne e]; exact q2 j a e
        · rw [pm_u_row, if_pos rfl, pm_w_ne (by decide)]; exact q3
        · rw [pm_u_row, if_neg (by decide)]; exact q4
        · rw [pm_u_row, if_neg (by decide)]; exact q5
        · rw [pm_u_row, if_neg (by decide)]; exact q6 m x hx
      · rw [pb_109_146]
        exact hY I3 (hQ I3 h3)
    · intro x1 Q' k
      rw [pb_229_25, mayN 15 8328978 rfl rfl (by omega) (d + 3 * r + 3) L b I0 J0 _ J _ ops0 op fx h, pb_229_32, if_pos rfl, pb_229_48, mayN 16 21568592 rfl rfl (by omega) (d + 3 * r + 3) L b I0 J0 _ J _ ops0 op fx h, pb_229_55, if_pos rfl, pb_229_80, mayN 18 2160166 rfl rfl (by omega) (d + 3 * r + 3) L b I0 J0 _ J _ ops0 op fx h, pb_229_87, if_pos rfl, pb_229_113]
      refine pr_may (d := d + 3 * r + 3) fx (m := 20) (w := rd_W.getD 20 []) rfl rfl h (fun _ I1 J1 h1 => ?_) (fun e => absurd cc e)
      rw [pb_229_120, if_neg (by decide), pb_229_123]
      refine pr_does fx (x := 7) (y := 0) h1 (by omega) (fun I3 h3 => ?_)
      rw [pb_229_130]
      exact k I3 J1 (hQ I3 J1 h3)
  by_cases s40 : rd_sg c n i = 40
  · obtain ⟨iN, iS⟩ := sN i 40 hi (by decide) s40
    have e1 := s_e iS
    have p1 := (pt_le (c := c) (n := n) (i + 1)).2.1
    have fp1 : rd_fp c n i = 1 := by unfold rd_fp; rw [if_pos s40]
    have wd0 : rd_wd c n i = 0 := wdm i 40 s40 (by decide)
    -- the class at the bracket
    rcases r with _ | r
    · refine Or.inr ⟨i, Nat.le_refl _, hi, fun d L b I0 I J Q ops0 tk h pre hQ => ?_, fun d L b I0 J0 I J Q ops0 fx h pre hQ => ?_⟩
      · intro x2 x3 Q' hY hN
        have e4 : (4 : Int32) ≤ Int32.ofNat op := by rw [show (4 : Int32) = Int32.ofNat 4 from rfl, on_le (by omega) (by omega)]; omega
        rw [pb_108_48, px_sortI (xq_tk tk h) h.2.2.1 hi (by omega), pb_108_52, s40, if_pos (by rfl), pb_108_57, if_pos e4, pb_108_67, pb_108_68, px_pass0, pb_108_71, if_pos rfl, pb_108_85]
        exact hN I (hQ I (xq_xf h))
      · intro x1 Q' k
        have e4 : (4 : Int32) ≤ I 79 67 := by rw [h.2.2.2.1, show (4 : Int32) = Int32.ofNat 4 from rfl, on_le (by omega) (by omega)]; omega
        rw [pb_229_25, mayN 15 8328978 rfl rfl (by omega) (d + 3 * 0 + 3) L b I0 J0 _ J _ ops0 op fx h, pb_229_32, if_pos rfl, pb_229_48, mayN 16 21568592 rfl rfl (by omega) (d + 3 * 0 + 3) L b I0 J0 _ J _ ops0 op fx h, pb_229_55, if_pos rfl, pb_229_80, mayN 18 2160166 rfl rfl (by omega) (d + 3 * 0 + 3) L b I0 J0 _ J _ ops0 op fx h, pb_229_87, if_pos rfl, pb_229_113, mayN 20 161437 rfl rfl (by omega) (d + 3 * 0 + 3) L b I0 J0 _ J _ ops0 op fx h, pb_229_120, if_pos rfl, pb_229_133]
        have z := pr_isSign (d := d + 3 * 0 + 5) (L := L) (b := b) (Q := fun v w H => pm_wp pm_code pm_meta (d + 3 * 0 + 6) 229 139 ([.ref 79, .int x1], [.int v], H) Q') fx (s := 40) (by decide) (by decide) (by decide) h
        refine z.mpr ?_
        rw [if_pos s40, pb_229_139, if_neg (by decide), pb_229_142, if_pos e4, pb_229_187]
        refine pr_fails_q fx h (by omega) (fun I2 h2 => ?_)
        exact k I2 J (hQ I2 J h2)
    · have nX : ∀ (d L : Nat) (b : Bool) (I0 I : Nat → Nat → Int32) (J : Nat → Nat → Int64) (ops0 : List (Nat × Nat)) (x2 x3 : Int32) (Q' : Int32 → Int64 → pm_H → Prop), rd_tk c n (N + 1) I0 → rd_xq c n N I0 i ops0 I → (∀ I', rd_xq c n N I0 (i + 1) ops0 I' → rd_EiX r (op + 1) d L b I' J (fun v w H => pm_wp pm_code pm_meta (d + 4 * (r + 1) + 6) 108 82 ([.ref 40, .int (Int32.ofNat op), .int x2, .int x3], [.int v], H) Q')) → pm_wp pm_code pm_meta (d + 4 * (r + 1) + 6) 108 48 ([.ref 40, .int (Int32.ofNat op), .int x2, .int x3], [], (pm_Gb L b, I, J)) Q' := fun d L b I0 I J ops0 x2 x3 Q' tk h k => by
        have e4 : ¬ (4 : Int32) ≤ Int32.ofNat op := by rw [show (4 : Int32) = Int32.ofNat 4 from rfl, on_le (by omega) (by omega)]; omega
        rw [pb_108_48, px_sortI (xq_tk tk h) h.2.2.1 hi (by omega), pb_108_52, s40, if_pos (by rfl), pb_108_57, if_neg e4, pb_108_63, pb_108_68, px_pass1, pb_108_71, if_neg (by decide), pb_108_74, on_s]
        have z := k _ (xq_pass h)
        unfold rd_EiX at z
        rw [show d + 4 * r + 9 = d + 4 * (r + 1) + 5 by omega] at z
        exact z
      have nR : ∀ (d L : Nat) (b : Bool) (I0 : Nat → Nat → Int32) (J0 : Nat → Nat → Int64) (I : Nat → Nat → Int32) (J : Nat → Nat → Int64) (ops0 : List (Nat × Nat)) (x1 : Int32) (Q' : Int32 → Int64 → pm_H → Prop), ops0.length ≤ 80 → rd_fx c n sl I0 → rd_rq c n sl I0 J0 i ops0 op I J → (∀ I' J', rd_rq c n sl I0 J0 (i + 1) ops0 (op + 1) I' J' → rd_EiR r d L b I' J' (fun v w H => pm_wp pm_code pm_meta (d + 3 * (r + 1) + 6) 229 168 ([.ref 79, .int x1], [], H) Q')) → pm_wp pm_code pm_meta (d + 3 * (r + 1) + 6) 229 25 ([.ref 79, .int x1], [], (pm_Gb L b, I, J)) Q' := fun d L b I0 J0 I J ops0 x1 Q' hl fx h k => by
        have e4 : ¬ (4 : Int32) ≤ I 79 67 := by rw [h.2.2.2.1, show (4 : Int32) = Int32.ofNat 4 from rfl, on_le (by omega) (by omega)]; omega
        rw [pb_229_25, mayN 15 8328978 rfl rfl (by omega) (d + 3 * (r + 1) + 3) L b I0 J0 _ J _ ops0 op fx h, pb_229_32, if_pos rfl, pb_229_48, mayN 16 21568592 rfl rfl (by omega) (d + 3 * (r + 1) + 3) L b I0 J0 _ J _ ops0 op fx h, pb_229_55, if_pos rfl, pb_229_80, mayN 18 2160166 rfl rfl (by omega) (d + 3 * (r + 1) + 3) L b I0 J0 _ J _ ops0 op fx h, pb_229_87, if_pos rfl, pb_229_113, mayN 20 161437 rfl rfl (by omega) (d + 3 * (r + 1) + 3) L b I0 J0 _ J _ ops0 op fx h, pb_229_120, if_pos rfl, pb_229_133]
        have z := pr_isSign (d := d + 3 * (r + 1) + 5) (L := L) (b := b) (Q := fun v w H => pm_wp pm_code pm_meta (d + 3 * (r + 1) + 6) 229 139 ([.ref 79, .int x1], [.int v], H) Q') fx (s := 40) (by decide) (by decide) (by decide) h
        refine z.mpr ?_
        rw [if_pos s40, pb_229_139, if_neg (by decide), pb_229_142, if_neg e4, pb_229_150, h.2.2.2.1, on_s]
        refine rq_next (d := d + 3 * (r + 1) + 4) fx (rq_open (o2 := op + 1) rfl h) (fun I1 J1 h1 => ?_)
        rw [pb_229_164]
        have z := k I1 J1 h1
        unfold rd_EiR at z
        rw [show d + 3 * r + 8 = d + 3 * (r + 1) + 5 by omega] at z
        exact z
      have opb : op ≤ 3 := by omega
      rcases hei r rfl (by omega) with ⟨i2, ops2, ⟨f1, f2, f3, f4, f5, f6⟩, sX, sR⟩ | ⟨f, f1, f2, sX, sR⟩
      · have wl := wd_le (c := c) (n := n) (i := i2 - 1)
        have l2 := pt_300 T i2
        by_cases s41 : rd_sg c n i2 = 41
        · obtain ⟨jN, js⟩ := sN i2 41 f2 (by decide) s41
          have e2 := s_e js
          have p2 := (pt_le (c := c) (n := n) i2).2.1
          have wd2 : rd_wd c n i2 = 0 := wdm i2 41 s41 (by decide)
          refine Or.inl ⟨i2 + 1, ops2, ⟨by omega, by omega, f3, ?_, by omega, ?_⟩, fun d L b I0 I J Q ops0 tk h pre hQ => ?_, fun d L b I0 J0 I J Q ops0 fx h pre hQ => ?_⟩
          · rw [show i2 + 1 - 1 = i2 by omega]; omega
          · rw [show (1 + 2 * ((r + 1 : Nat) : Int)) = 3 + 2 * (r : Int) by omega]; exact f6
          · intro x2 x3 Q' hY hN
            refine nX d L b I0 I J ops0 x2 x3 Q' tk h (fun I' h' => sX d L b I0 I' J _ ops0 tk h' (by omega) (fun I2 h2 => ?_))
            rw [pb_108_82, if_neg (by decide), pb_108_87, px_sortI (xq_tk tk h2) h2.2.2.1 f2 (by omega), pb_108_92, s41, if_pos (by rfl), pb_108_97, pb_108_102, px_pass1, pb_108_105, if_neg (by decide)]
            exact hY _ (hQ _ (xq_pass h2))
          · intro x1 Q' k
            refine nR d L b I0 J0 I J ops0 x1 Q' (by omega) fx h (fun I' J' h' => sR d L b I0 J0 I' J' _ ops0 fx h' (by omega) (fun I2 J2 h2 => ?_))
            rw [pb_229_168]
            refine pr_mustSign (d := d + 3 * (r + 1) + 3) fx (s := 41) (by decide) (by decide) (by decide) h2 (by rw [List.length_append]; omega) (fun _ I3 J3 h3 => ?_) (fun e => absurd s41 e)
            rw [pb_229_174]
            exact k _ J3 (hQ _ J3 (rq_open (o2 := op) (by rw [h3.2.2.2.1, on_p' (by omega)]) h3))
        · refine Or.inr ⟨i2, by omega, f2, fun d L b I0 I J Q ops0 tk h pre hQ => ?_, fun d L b I0 J0 I J Q ops0 fx h pre hQ => ?_⟩
          · intro x2 x3 Q' hY hN
            refine nX d L b I0 I J ops0 x2 x3 Q' tk h (fun I' h' => sX d L b I0 I' J _ ops0 tk h' (by omega) (fun I2 h2 => ?_))
            rw [pb_108_82, if_neg (by decide), pb_108_87, px_sortI (xq_tk tk h2) h2.2.2.1 f2 (by omega), pb_108_92, if_neg (show ¬ Int32.ofNat (rd_sg c n i2) = (41 : Int32) from sgne i2 41 (by decide) s41), pb_108_101, pb_108_102, px_pass0, pb_108_105, if_pos rfl, pb_108_108]
            exact hN I2 (hQ I2 (xq_xf h2))
          · intro x1 Q' k
            refine nR d L b I0 J0 I J ops0 x1 Q' (by omega) fx h (fun I' J' h' => sR d L b I0 J0 I' J' _ ops0 fx h' (by omega) (fun I2 J2 h2 => ?_))
            rw [pb_229_168]
            refine pr_mustSign (d := d + 3 * (r + 1) + 3) fx (s := 41) (by decide) (by decide) (by decide) h2 (by rw [List.length_append]; omega) (fun e => absurd e s41) (fun _ I3 h3 => ?_)
            rw [pb_229_174]
            exact k _ J2 (hQ _ J2 (rf_open h3))
      · refine Or.inr ⟨f, by omega, f2, fun d L b I0 I J Q ops0 tk h pre hQ => ?_, fun d L b I0 J0 I J Q ops0 fx h pre hQ => ?_⟩
        · intro x2 x3 Q' hY hN
          refine nX d L b I0 I J ops0 x2 x3 Q' tk h (fun I' h' => sX d L b I0 I' J _ ops0 tk h' (by omega) (fun I2 h2 => ?_))
          rw [pb_108_82, if_pos rfl, pb_108_85]
          exact hN I2 (hQ I2 h2)
        · intro x1 Q' k
          refine nR d L b I0 J0 I J ops0 x1 Q' (by omega) fx h (fun I' J' h' => sR d L b I0 J0 I' J' _ ops0 fx h' (by omega) (fun I2 J2 h2 => ?_))
          rw [pb_229_168, pr_mustSign_f (rf_fl n3 h2), pb_229_174]
          exact k _ J2 (hQ _ J2 (rf_open h2))
  · refine Or.inr ⟨i, Nat.le_refl _, hi, fun d L b I0 I J Q ops0 tk h pre hQ => ?_, fun d L b I0 J0 I J Q ops0 fx h pre hQ => ?_⟩
    · refine preX d L b I0 I J Q ops0 s40 tk h (fun Q'' hY hN => ?_)
      have n15 : ¬ rd_fv (rd_cd c n i) = 15 := fv_ne (by decide) cc
      have n16 : ¬ rd_fv (rd_cd c n i) = 16 := fv_ne (by decide) cc16
      have n18 : ¬ rd_fv (rd_cd c n i) = 18 := fv_ne (by decide) cc18
      have n20 : ¬ rd_fv (rd_cd c n i) = 20 := fv_ne (by decide) cc20
      rw [pb_109_0, px_wordI (xq_tk tk h) h.2.2.1 hi (by omega) cb, pb_109_4, if_neg n15, pb_109_12, if_neg n16, pb_109_18, if_neg n18, pb_109_24, if_neg n20, pb_109_34, pb_109_35, px_pass0, pb_109_38, if_pos rfl, pb_109_41]
      exact hN I (hQ I (xq_xf h))
    · intro x1 Q' k
      rw [pb_229_25, mayN 15 8328978 rfl rfl (by omega) (d + 3 * r + 3) L b I0 J0 _ J _ ops0 op fx h, pb_229_32, if_pos rfl, pb_229_48, mayN 16 21568592 rfl rfl (by omega) (d + 3 * r + 3) L b I0 J0 _ J _ ops0 op fx h, pb_229_55, if_pos rfl, pb_229_80, mayN 18 2160166 rfl rfl (by omega) (d + 3 * r + 3) L b I0 J0 _ J _ ops0 op fx h, pb_229_87, if_pos rfl, pb_229_113, mayN 20 161437 rfl rfl (by omega) (d + 3 * r + 3) L b I0 J0 _ J _ ops0 op fx h, pb_229_120, if_pos rfl, pb_229_133]
      have z := pr_isSign (d := d + 3 * r + 5) (L := L) (b := b) (Q := fun v w H => pm_wp pm_code pm_meta (d + 3 * r + 6) 229 139 ([.ref 79, .int x1], [.int v], H) Q') fx (s := 40) (by decide) (by decide) (by decide) h
      refine z.mpr ?_
      rw [if_neg s40, pb_229_139, if_pos rfl, pb_229_187]
      refine pr_fails_q fx h (by omega) (fun I2 h2 => ?_)
      exact k I2 J (hQ I2 J h2)

