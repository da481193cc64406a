/-! Whether stays kept two from meeting. -/
theorem oe_b {Q : Int32 → Prop} (o : Option Int32) : pm_oe (Q 0) (fun _ => Q 1) o ↔ Q (pm_b (o.isSome = true)) := by cases o <;> exact Iff.rfl
theorem fq_ex {c : Int32 → Prop} [DecidablePred c] {n : Int32} (hn0 : 0 ≤ n) (hn : n < 2147483647) (m : Nat) (i : Int32) (h0 : 0 ≤ i) (hm : i.toNatClampNeg + m = n.toNatClampNeg) : (pm_fq c m i).isSome = true ↔ ∃ j, i ≤ j ∧ j < n ∧ c j := by
  cases h : pm_fq c m i with
  | none =>
    constructor
    · intro g; exact absurd g (by decide)
    · rintro ⟨j, h1, h2, h3⟩
      exact absurd h3 (pm_fq_none hn0 hn m i j h0 hm h h1 h2)
  | some z =>
    have g := pm_fq_some hn0 hn m i z h0 hm h
    exact ⟨fun _ => ⟨z, g.2.1, g.2.2, g.1⟩, fun _ => rfl⟩
def pf_abs (x : Int32) : Int32 := if 0 ≤ x then x else -x
theorem abs_sub {a c : Int32} (a0 : 0 ≤ a) (a1 : a ≤ 3599) (c0 : 0 ≤ c) (c1 : c ≤ 3599) : pf_abs (a - c) = pf_abs (c - a) := by
  have e : (3599 : Int32).toInt = 3599 := rfl
  rw [pi_le, pi_0] at a0 c0
  rw [pi_le, e] at a1 c1
  have e1 := pi_sub (a := a) (b := c) (by omega) (by omega)
  have e2 := pi_sub (a := c) (b := a) (by omega) (by omega)
  have n1 : -(a - c) = c - a := by grind
  have n2 : -(c - a) = a - c := by grind
  unfold pf_abs
  by_cases h1 : 0 ≤ a - c
  · rw [if_pos h1]
    by_cases h2 : 0 ≤ c - a
    · rw [if_pos h2]
      rw [pi_le, pi_0] at h1 h2
      exact Int32.toInt_inj.mp (by omega)
    · rw [if_neg h2, n2]
  · rw [if_neg h1, n1]
    by_cases h2 : 0 ≤ c - a
    · rw [if_pos h2]
    · exfalso
      rw [pi_le, pi_0] at h1 h2
      omega
theorem px_absv {d L : Nat} {b : Bool} {I : Nat → Nat → Int32} {J : Nat → Nat → Int64} {x : Int32} {Q : Int32 → Int64 → pm_H → Prop} : pm_wc pm_code pm_meta d 308 [.int x] (pm_Gb L b, I, J) Q ↔ Q (pf_abs x) 0 (pm_Gb L b, I, J) := by
  rw [pb_308_0]
  unfold pf_abs
  by_cases h : 0 ≤ x
  · rw [if_pos h, if_pos h, pb_308_9, pb_308_10]
  · rw [if_neg h, if_neg h, pb_308_4, pb_308_10]
theorem pr_size {d L : Nat} {b : Bool} {I : Nat → Nat → Int32} {J : Nat → Nat → Int64} {x : Int32} {Q : Int32 → Int64 → pm_H → Prop} : pm_wc pm_code pm_meta d 256 [.int x] (pm_Gb L b, I, J) Q ↔ Q (pf_abs x) 0 (pm_Gb L b, I, J) := by
  rw [pb_256_0]
  unfold pf_abs
  by_cases h : 0 ≤ x
  · rw [if_pos h, if_pos h, pb_256_9, pb_256_10]
  · rw [if_neg h, if_neg h, pb_256_4, pb_256_10]
def pf_meet (place sday roads : Nat → Int32) (day a c : Int32) : Bool := (pm_fq (fun p : Int32 => roads (10 * (place a.toNatClampNeg).toNatClampNeg + p.toNatClampNeg) ≤ pf_abs (sday a.toNatClampNeg - day) ∧ roads (10 * (place c.toNatClampNeg).toNatClampNeg + p.toNatClampNeg) ≤ pf_abs (sday c.toNatClampNeg - day)) 10 0).isSome
theorem sta_k {t c : Nat → Int32} {n nP : Int32} {person place sday : Nat → Int32} (hs : pg_sta t c n nP person place sday) {a : Int32} (a0 : 0 ≤ a) (a1 : a < n) : (0 ≤ place a.toNatClampNeg ∧ place a.toNatClampNeg ≤ 9) ∧ 0 ≤ sday a.toNatClampNeg ∧ sday a.toNatClampNeg ≤ 3599 := by
  have g := (hs.2 _ (pi_tnlt a0 a1)).2
  exact ⟨⟨g.1, g.2.1⟩, g.2.2.1, g.2.2.2⟩
theorem px_couldMeet {d L : Nat} {b : Bool} {I : Nat → Nat → Int32} {J : Nat → Nat → Int64} {a c day : Int32} {roads : Nat → Int32} {n nP : Int32} {person place sday : Nat → Int32} {Q : Int32 → Int64 → pm_H → Prop} (hs : pg_sta (I 28) (I 29) n nP person place sday) (hr : pg_roa (I 10) (I 11) roads) (a0 : 0 ≤ a) (a1 : a < n) (c0 : 0 ≤ c) (c1 : c < n) : pm_wc pm_code pm_meta (d + 2) 60 [.ref 9, .int a, .int c, .int day] (pm_Gb L b, I, J) Q ↔ Q (pm_b (pf_meet place sday roads day a c = true)) 0 (pm_Gb L b, I, J) := by
  have ga := sta_k hs a0 a1
  have gc := sta_k hs c0 c1
  simp only [pb_60_0, px_sta_2 hs, pm_at_in a0 a1, pm_at_in c0 c1, pb_60_9, px_absv, pb_60_14, pb_60_25, pb_60_30]
  refine Iff.trans ?_ (oe_b (Q := fun v => Q v 0 (pm_Gb L b, I, J)) _)
  have key := pm_for_s (c := (fun p : Int32 => roads (10 * (place a.toNatClampNeg).toNatClampNeg + p.toNatClampNeg) ≤ pf_abs (sday a.toNatClampNeg - day) ∧ roads (10 * (place c.toNatClampNeg).toNatClampNeg + p.toNatClampNeg) ≤ pf_abs (sday c.toNatClampNeg - day))) (n := 10) (A := fun i => pm_wp pm_code pm_meta (d + 2) 60 35 ([.ref 9, .int a, .int c, .int day, .int (pf_abs (sday a.toNatClampNeg - day)), .int (pf_abs (sday c.toNatClampNeg - day)), .int i], [], (pm_Gb L b, I, J)) Q) (E := Q 0 0 (pm_Gb L b, I, J)) (R := fun _ => Q 1 0 (pm_Gb L b, I, J)) (by decide) (by decide) (fun i h0 hin => ?_)
  · exact key
  · rw [pb_60_35]
    by_cases hi : 10 ≤ i
    · simp only [hi, if_true, pb_60_99]
    · have h9 : 0 ≤ i ∧ i ≤ 9 := ⟨h0, by grind⟩
      simp only [hi, if_false, pb_60_42, px_sta_1 hs, pm_at_in a0 a1, pb_60_55, px_road hr ga.1 h9, pb_60_60]
      by_cases q1 : roads (10 * (place a.toNatClampNeg).toNatClampNeg + i.toNatClampNeg) ≤ pf_abs (sday a.toNatClampNeg - day)
      · simp only [q1, if_true, true_and, pb_60_68, px_sta_1 hs, pm_at_in c0 c1, pb_60_81, px_road hr gc.1 h9, pb_60_86]
        by_cases q2 : roads (10 * (place c.toNatClampNeg).toNatClampNeg + i.toNatClampNeg) ≤ pf_abs (sday c.toNatClampNeg - day)
        · have q3 := Int32.not_lt.mpr q2
          simp only [q2, q3, if_true, if_false, pb_60_91]
        · have q3 := Int32.not_le.mp q2
          simp only [q2, q3, if_true, if_false, pb_60_93]
      · simp only [q1, if_false, false_and, pb_60_65, pb_60_93]
theorem pr_canMeet {d L : Nat} {b : Bool} {I : Nat → Nat → Int32} {J : Nat → Nat → Int64} {a c day : Int32} {nP : Int32} {Q : Int32 → Int64 → pm_H → Prop} {t cc tr cr : Nat → Int32} (hs : pg_sta t cc (I 80 6) nP (I 125) (I 126) (I 127)) (hr : pg_roa tr cr (I 81)) (d0 : 0 ≤ day) (d1 : day ≤ 3599) (a0 : 0 ≤ a) (a1 : a < I 80 6) (c0 : 0 ≤ c) (c1 : c < I 80 6) : pm_wc pm_code pm_meta (d + 1) 257 [.ref 79, .int a, .int c, .int day] (pm_Gb L b, I, J) Q ↔ Q (pm_b (pf_meet (I 126) (I 127) (I 81) day a c = true)) 0 (pm_Gb L b, I, J) := by
  have ga := sta_k hs a0 a1
  have gc := sta_k hs c0 c1
  have ia := pi_in24 (sta_n hs).2 a0 a1
  have ic := pi_in24 (sta_n hs).2 c0 c1
  have ea := abs_sub ga.2.1 ga.2.2 d0 d1
  have ec := abs_sub gc.2.1 gc.2.2 d0 d1
  rw [pb_257_0]
  have key := pm_for_i (A := fun (s : Int32) i => pm_wp pm_code pm_meta (d + 1) 257 6 ([.ref 79, .int a, .int c, .int day, .int s, .int i], [], (pm_Gb L b, I, J)) Q) (E := fun s i => pm_wp pm_code pm_meta (d + 1) 257 93 ([.ref 79, .int a, .int c, .int day, .int s, .int i], [], (pm_Gb L b, I, J)) Q) (f := fun (s i : Int32) => if s = 0 then (if ((fun p : Int32 => I 81 (10 * (I 126 a.toNatClampNeg).toNatClampNeg + p.toNatClampNeg) ≤ pf_abs (I 127 a.toNatClampNeg - day) ∧ I 81 (10 * (I 126 c.toNatClampNeg).toNatClampNeg + p.toNatClampNeg) ≤ pf_abs (I 127 c.toNatClampNeg - day)) i) then 1 else 0) else 1) (n := 10) (by decide) (by decide) (fun s i h0 => ?_) 0
  · rw [fq_fo (c := (fun p : Int32 => I 81 (10 * (I 126 a.toNatClampNeg).toNatClampNeg + p.toNatClampNeg) ≤ pf_abs (I 127 a.toNatClampNeg - day) ∧ I 81 (10 * (I 126 c.toNatClampNeg).toNatClampNeg + p.toNatClampNeg) ≤ pf_abs (I 127 c.toNatClampNeg - day))) (c2 := (fun p : Int32 => I 81 (10 * (I 126 a.toNatClampNeg).toNatClampNeg + p.toNatClampNeg) ≤ pf_abs (I 127 a.toNatClampNeg - day) ∧ I 81 (10 * (I 126 c.toNatClampNeg).toNatClampNeg + p.toNatClampNeg) ≤ pf_abs (I 127 c.toNatClampNeg - day))) (n := 10) (by decide) (fun _ _ _ => Iff.rfl) (10 : Int32).toNatClampNeg 0 (Int32.le_refl 0) (by decide) (by simp), pb_257_93] at key
    refine key.trans ?_
    unfold pf_meet pm_b
    rw [show (10 : Int32).toNatClampNeg = 10 from rfl]
    split <;> simp
  · rw [pb_257_6]
    by_cases hi : 10 ≤ i
    · simp only [hi, if_true]
    · have h9 : 0 ≤ i ∧ i ≤ 9 := ⟨h0, by grind⟩
      have xa := pi_c10 ga.1 h9
      have xc := pi_c10 gc.1 h9
      by_cases z : s = 0
      · subst z
        by_cases q1 : I 81 (10 * (I 126 a.toNatClampNeg).toNatClampNeg + i.toNatClampNeg) ≤ pf_abs (I 127 a.toNatClampNeg - day)
        · have q1' := Int32.not_lt.mpr q1
          by_cases q2 : I 81 (10 * (I 126 c.toNatClampNeg).toNatClampNeg + i.toNatClampNeg) ≤ pf_abs (I 127 c.toNatClampNeg - day)
          · have q2' := Int32.not_lt.mpr q2
            simp only [hi, if_true, if_false, pb_257_13, pb_257_18, ia, ic, xa, xc, true_and, pr_size, pb_257_46, pb_257_49, pb_257_77, pb_257_80, pb_257_85, ← ea, ← ec, q1, q1', q2, q2', and_self]
          · have q2' := Int32.not_le.mp q2
            simp only [hi, if_true, if_false, pb_257_13, pb_257_18, ia, ic, xa, xc, true_and, pr_size, pb_257_46, pb_257_49, pb_257_77, pb_257_84, pb_257_85, ← ea, ← ec, q1, q1', q2, q2', and_self, and_false]
        · have q1' := Int32.not_le.mp q1
          simp only [hi, if_true, if_false, pb_257_13, pb_257_18, ia, xa, true_and, pr_size, pb_257_46, pb_257_84, pb_257_85, ← ea, q1, q1', and_self, false_and]
      · simp only [hi, z, if_false, pb_257_13, pb_257_80, pb_257_85]
/-- whether stays kept one and another from meeting on a day -/
def pf_apart (person place sday roads : Nat → Int32) (n one other day : Int32) : Bool := (pm_fq (fun i => person i.toNatClampNeg = one ∧ (pm_fq (fun j => person j.toNatClampNeg = other ∧ pf_meet place sday roads day i j = false) n.toNatClampNeg 0).isSome = true) n.toNatClampNeg 0).isSome
theorem sta_l {t c : Nat → Int32} {n nP : Int32} {person place sday : Nat → Int32} (hs : pg_sta t c n nP person place sday) : n < 2147483647 := pi_ltb (Int32.lt_of_le_of_lt (sta_n hs).2 (by decide : (24 : Int32) < 100)) (by decide)
theorem px_areApart {d L : Nat} {b : Bool} {I : Nat → Nat → Int32} {J : Nat → Nat → Int64} {one other day : Int32} {roads : Nat → Int32} {n nP : Int32} {person place sday : Nat → Int32} {Q : Int32 → Int64 → pm_H → Prop} (hs : pg_sta (I 28) (I 29) n nP person place sday) (hr : pg_roa (I 10) (I 11) roads) : pm_wc pm_code pm_meta (d + 3) 59 [.ref 9, .int one, .int other, .int day] (pm_Gb L b, I, J) Q ↔ Q (pm_b (pf_apart person place sday roads n one other day = true)) 0 (pm_Gb L b, I, J) := by
  have hn0 := (sta_n hs).1
  have hn := sta_l hs
  have inner : ∀ i : Int32, 0 ≤ i → i < n → (pm_wp pm_code pm_meta (d + 3) 59 35 ([.ref 9, .int one, .int other, .int day, .int i, .int 0], [], (pm_Gb L b, I, J)) Q ↔ pm_oe (pm_wp pm_code pm_meta (d + 3) 59 3 ([.ref 9, .int one, .int other, .int day, .int (i + 1), .int n], [], (pm_Gb L b, I, J)) Q) (fun _ => Q 1 0 (pm_Gb L b, I, J)) (pm_fq (fun j => person j.toNatClampNeg = other ∧ pf_meet place sday roads day i j = false) n.toNatClampNeg 0)) := fun i i0 i1 => by
    refine pm_for_s (A := fun j => pm_wp pm_code pm_meta (d + 3) 59 35 ([.ref 9, .int one, .int other, .int day, .int i, .int j], [], (pm_Gb L b, I, J)) Q) hn0 hn (fun j h0 hin => ?_)
    rw [pb_59_35, hs.1.2]
    by_cases hj : n ≤ j
    · have ej : j = n := Int32.le_antisymm hin hj
      rw [if_pos hj, if_pos hj, pb_59_81b, ej]
    · have h1 := Int32.not_le.mp hj
      simp only [hj, if_false, pb_59_47, px_sta_0 hs, pm_at_in h0 h1, pb_59_57]
      by_cases c1 : person j.toNatClampNeg = other
      · simp only [c1, if_true, true_and, pb_59_61, px_couldMeet (d := d) hs hr i0 i1 h0 h1, pb_59_70]
        cases pf_meet place sday roads day i j
        · simp only [Bool.false_eq_true, pm_b, if_false, if_true, pb_59_73]
        · simp only [pm_b, if_true, pl_1_0, if_false, pb_59_75, Bool.true_eq_false]
      · simp only [c1, if_false, false_and, pb_59_75]
  have outer : ∀ (m : Nat) (i : Int32) (D : Option Int32), 0 ≤ i → i.toNatClampNeg + m = n.toNatClampNeg → (pm_wp pm_code pm_meta (d + 3) 59 3 ([.ref 9, .int one, .int other, .int day, .int i, pm_vl D], [], (pm_Gb L b, I, J)) Q ↔ pm_oe (Q 0 0 (pm_Gb L b, I, J)) (fun _ => Q 1 0 (pm_Gb L b, I, J)) (pm_fq (fun i => person i.toNatClampNeg = one ∧ (pm_fq (fun j => person j.toNatClampNeg = other ∧ pf_meet place sday roads day i j = false) n.toNatClampNeg 0).isSome = true) m i)) := by
    intro m
    induction m with
    | zero =>
      intro i D h0 hm
      have t1 := pi_tni h0
      have t2 := pi_tni hn0
      have hi : n ≤ i := by rw [pi_le]; omega
      cases D <;> simp only [pm_vl_n, pm_vl_s] <;> (first | rw [pb_59_3] | rw [pb_59_3b]) <;> simp only [hs.1.2, hi, if_true, pb_59_87, pb_59_87b, pm_fq, pm_oe]
    | succ m ih =>
      intro i D h0 hm
      have t1 := pi_tni h0
      have t2 := pi_tni hn0
      have e : i < n := by rw [pi_lt]; omega
      have hi : ¬ n ≤ i := Int32.not_le.mpr e
      have e3 : (i + 1).toNatClampNeg = i.toNatClampNeg + 1 := pi_tn1 h0 (Int32.lt_trans e hn)
      have e4 : 0 ≤ i + 1 := by have := pi_lt.mp e; have := pi_hi n; rw [pi_le, pi_0, pi_add (by rw [pi_1]; omega) (by rw [pi_1]; omega), pi_1]; omega
      by_cases c1 : person i.toNatClampNeg = one
      · have z := ih (i + 1) (some n) e4 (by omega)
        simp only [pm_vl_s] at z
        cases hf : pm_fq (fun j => person j.toNatClampNeg = other ∧ pf_meet place sday roads day i j = false) n.toNatClampNeg 0 <;> cases D <;> simp only [pm_vl_n, pm_vl_s] <;> (first | rw [pb_59_3] | rw [pb_59_3b]) <;> simp only [hs.1.2, hi, if_false, pb_59_15, pb_59_15b, px_sta_0 hs, pm_at_in h0 e, pb_59_25, pb_59_25b, c1, if_true, pb_59_32, pb_59_32b, inner i h0 e, hf, pm_oe, pm_fq, true_and, Option.isSome, Bool.false_eq_true] <;> exact z
      · have z := ih (i + 1) D e4 (by omega)
        cases D <;> simp only [pm_vl_n, pm_vl_s] at z ⊢ <;> (first | rw [pb_59_3] | rw [pb_59_3b]) <;> simp only [hs.1.2, hi, if_false, pb_59_15, pb_59_15b, px_sta_0 hs, pm_at_in h0 e, pb_59_25, pb_59_25b, c1, pb_59_29, pb_59_29b, pb_59_81, pb_59_81b, pm_fq, false_and] <;> exact z
  rw [pb_59_0]
  exact (outer n.toNatClampNeg 0 none (Int32.le_refl 0) (by simp)).trans (oe_b (Q := fun v => Q v 0 (pm_Gb L b, I, J)) _)

