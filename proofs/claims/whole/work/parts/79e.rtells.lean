/-! What the acts tell: the reference. -/
def pf_rf (sort rank : Nat → Int32) (rk : Int32) : Option (Int32 × Int32) → Int32
  | none => -1
  | some (w, i) => if rk = 0 then sort (10 * w.toNatClampNeg + i.toNatClampNeg) else rank (10 * w.toNatClampNeg + i.toNatClampNeg)
theorem pm_u_tw {α : Type} (f : Nat → Nat → α) (a k : Nat) (v v' : α) : pm_u (pm_u f a k v) a k v' = pm_u f a k v' := by
  funext b j
  unfold pm_u
  by_cases h : b = a ∧ j = k
  · rw [if_pos h, if_pos h]
  · rw [if_neg h, if_neg h, if_neg h]
theorem pm_u_off {α : Type} {f : Nat → Nat → α} {a k : Nat} {v : α} {b : Nat} (h : ¬ b = a) : pm_u f a k v b = f b := by rw [pm_u_row, if_neg h]
theorem pi_ix {w i r : Int32} (w0 : 0 ≤ w) (w1 : w < 12) (i0 : 0 ≤ i) (i1 : i < r) (r10 : r ≤ 10) : (10 * w + i).toNatClampNeg = 10 * w.toNatClampNeg + i.toNatClampNeg ∧ pm_in (10 * w + i) 130 = true := by
  have z := pi_rul2 (k := 0) w0 w1 r10 (Int32.le_refl 0) (by decide) i0 (by rw [Int32.sub_zero]; exact i1)
  rw [Int32.sub_zero, Int32.sub_zero] at z
  exact z
/-- holds, at a row of the reference's that only its own ints differ in -/
theorem pr_holds_t {d L : Nat} {b : Bool} {I : Nat → Nat → Int32} {J : Nat → Nat → Int64} {v r q t : Int32} {Q : Int32 → Int64 → pm_H → Prop} (v0 : 0 ≤ v) (v1 : v < 12) (ir : pm_in r 130 = true) (i24 : pm_in q 24 = true) (i8 : pm_in (I 100 q.toNatClampNeg) 8 = true) (i16 : pm_in (I 101 q.toNatClampNeg) 16 = true)
    (a0 : 0 ≤ I 120 r.toNatClampNeg) (a1 : I 120 r.toNatClampNeg ≤ I 121 r.toNatClampNeg) (a2 : I 121 r.toNatClampNeg ≤ 80)
    (rdep : ∀ m : Nat, m ≤ (I 121 r.toNatClampNeg).toNatClampNeg - (I 120 r.toNatClampNeg).toNatClampNeg → 0 ≤ pm_dep (I 122) (80 * v.toNatClampNeg + (I 120 r.toNatClampNeg).toNatClampNeg) m ∧ pm_dep (I 122) (80 * v.toNatClampNeg + (I 120 r.toNatClampNeg).toNatClampNeg) m ≤ 24)
    (rop : ∀ m : Nat, m < (I 121 r.toNatClampNeg).toNatClampNeg - (I 120 r.toNatClampNeg).toNatClampNeg → 1 ≤ I 122 (80 * v.toNatClampNeg + (I 120 r.toNatClampNeg).toNatClampNeg + m) ∧ I 122 (80 * v.toNatClampNeg + (I 120 r.toNatClampNeg).toNatClampNeg + m) ≤ 7) :
    pm_wc pm_code pm_meta (d + 2) 239 [.ref 79, .int v, .int r, .int q] (pm_Gb L b, pm_u I 79 70 (t), J) Q ↔ Q (pm_b (pf_hld (pf_ans (I 85) (I 100) (I 102) (I 99) (I 105) (I 88) (I 101) (I 82) (I 83) q) (I 122) (I 123) (80 * v.toNatClampNeg + (I 120 r.toNatClampNeg).toNatClampNeg) ((I 121 r.toNatClampNeg).toNatClampNeg - (I 120 r.toNatClampNeg).toNatClampNeg) % 2 = 1)) 0 (pm_Gb L b, pm_u I 79 70 (t), J) := by
  have p82 : pm_u I 79 70 t 82 = I 82 := pm_u_off (by decide)
  have p83 : pm_u I 79 70 t 83 = I 83 := pm_u_off (by decide)
  have p85 : pm_u I 79 70 t 85 = I 85 := pm_u_off (by decide)
  have p88 : pm_u I 79 70 t 88 = I 88 := pm_u_off (by decide)
  have p99 : pm_u I 79 70 t 99 = I 99 := pm_u_off (by decide)
  have p100 : pm_u I 79 70 t 100 = I 100 := pm_u_off (by decide)
  have p101 : pm_u I 79 70 t 101 = I 101 := pm_u_off (by decide)
  have p102 : pm_u I 79 70 t 102 = I 102 := pm_u_off (by decide)
  have p105 : pm_u I 79 70 t 105 = I 105 := pm_u_off (by decide)
  have p120 : pm_u I 79 70 t 120 = I 120 := pm_u_off (by decide)
  have p121 : pm_u I 79 70 t 121 = I 121 := pm_u_off (by decide)
  have p122 : pm_u I 79 70 t 122 = I 122 := pm_u_off (by decide)
  have p123 : pm_u I 79 70 t 123 = I 123 := pm_u_off (by decide)
  have z := pr_holds (d := d) (L := L) (b := b) (I := pm_u I 79 70 t) (J := J) (v := v) (r := r) (q := q) (Q := Q) v0 v1 ir i24 (by rw [p100]; exact i8) (by rw [p101]; exact i16) (by rw [p120]; exact a0) (by rw [p120, p121]; exact a1) (by rw [p121]; exact a2) (by rw [p120, p121, p122]; exact rdep) (by rw [p120, p121, p122]; exact rop)
  rw [p82, p83, p85, p88, p99, p100, p101, p102, p105, p120, p121, p122, p123] at z
  exact z
/-- one rule of a version that is in force -/
theorem pr_rule1 {d L : Nat} {b : Bool} {I : Nat → Nat → Int32} {J : Nat → Nat → Int64} {q rk w day a : Int32} {i : Nat} {A : Int32 → Int32 → Bool} {Q : Int32 → Int64 → pm_H → Prop} (h : pg_ver (I 20) (I 21) (I 22) (I 23) (I 24) (I 25) (I 80 5) (I 80 0) (I 112) (I 113) (I 114) (I 115) (I 116) (I 117) (I 118) (I 119) (I 120) (I 121) (I 122) (I 123))
    (i24 : pm_in q 24 = true) (i8 : pm_in (I 100 q.toNatClampNeg) 8 = true) (i16 : pm_in (I 101 q.toNatClampNeg) 16 = true) (hrk : rk = 0 ∨ rk = 1) (hA : A = pf_ans (I 85) (I 100) (I 102) (I 99) (I 105) (I 88) (I 101) (I 82) (I 83) q)
    (w0 : 0 ≤ w) (w1 : w < I 80 5) (hi : i < (I 113 w.toNatClampNeg).toNatClampNeg) (D : Option (Int32 × Int32)) (v : Option Int32) :
    (pm_wp pm_code pm_meta (d + 4) 240 42 ([.ref 79, .int q, .int rk, .int day, .int (pf_rf (I 117) (I 119) rk D), .int a, .int w, .int (Int32.ofNat i), pm_vl v], [], (pm_Gb L b, pm_u I 79 70 (pf_why D), J)) Q ↔
      pm_wp pm_code pm_meta (d + 4) 240 42 ([.ref 79, .int q, .int rk, .int day, .int (pf_rf (I 117) (I 119) rk (if pf_fit A (I 117) (I 118) (I 120) (I 121) (I 122) (I 123) (I 99 q.toNatClampNeg) rk w.toNatClampNeg (Int32.ofNat i) = true then some (w, Int32.ofNat i) else D)), .int a, .int w, .int (Int32.ofNat i + 1), pm_vl (some (10 * w + Int32.ofNat i))], [], (pm_Gb L b, pm_u I 79 70 (pf_why (if pf_fit A (I 117) (I 118) (I 120) (I 121) (I 122) (I 123) (I 99 q.toNatClampNeg) rk w.toNatClampNeg (Int32.ofNat i) = true then some (w, Int32.ofNat i) else D)), J)) Q) := by
  obtain ⟨v1, v2, _⟩ := ver_at h w0 w1
  have hn := ver_n h
  have w12 : w < 12 := Int32.lt_of_lt_of_le w1 hn.2
  have tr := pi_tni v1
  have v2' := pi_le.mp v2
  have e10 : (10 : Int32).toInt = 10 := rfl
  have tm : (Int32.ofNat i).toInt = i := Int32.toInt_ofNat_of_lt (by omega)
  have m0 : 0 ≤ Int32.ofNat i := by rw [pi_le, pi_0, tm]; omega
  have mlt : Int32.ofNat i < I 113 w.toNatClampNeg := by rw [pi_lt, tm]; omega
  have hru := ver_rule h w0 w1 m0 mlt
  obtain ⟨ix, ij⟩ := pi_ix w0 w12 m0 mlt v2
  obtain ⟨_, _, _, _, _, _, r6, r7, r8, _, _, _, _, r13, r14⟩ := hru
  have iw : pm_in w 13 = true := ver_in h w0 w1
  have wn : ¬ w = -3 := fun g => by rw [g] at w0; exact absurd w0 (by decide)
  have nle : ¬ I 113 w.toNatClampNeg ≤ Int32.ofNat i := Int32.not_le.mpr mlt
  have ht : ∀ t, pm_u I 79 70 t 113 = I 113 := fun t => pm_u_off (by decide)
  have ht17 : ∀ t, pm_u I 79 70 t 117 = I 117 := fun t => pm_u_off (by decide)
  have ht18 : ∀ t, pm_u I 79 70 t 118 = I 118 := fun t => pm_u_off (by decide)
  have ht19 : ∀ t, pm_u I 79 70 t 119 = I 119 := fun t => pm_u_off (by decide)
  have ht99 : ∀ t, pm_u I 79 70 t 99 = I 99 := fun t => pm_u_off (by decide)
  have ho := fun t Q => pr_holds_t (d := d + 1) (L := L) (b := b) (I := I) (J := J) (v := w) (r := 10 * w + Int32.ofNat i) (q := q) (t := t) (Q := Q) w0 w12 ij i24 i8 i16 (by rw [ix]; exact r6) (by rw [ix]; exact r7) (by rw [ix]; exact r8) (by rw [ix]; exact r13) (by rw [ix]; intro m hm; rw [Nat.add_assoc]; exact (r14 m hm).2.2)
  have hc := fun t Q => pr_concerns (d := d + 2) (L := L) (b := b) (I := pm_u I 79 70 t) (J := J) (j := 10 * w + Int32.ofNat i) (kd := I 99 q.toNatClampNeg) (Q := Q) ij
  simp only [ht18, ix, ← hA] at ho hc
  have st : pm_wp pm_code pm_meta (d + 4) 240 42 ([.ref 79, .int q, .int rk, .int day, .int (pf_rf (I 117) (I 119) rk D), .int a, .int w, .int (Int32.ofNat i), pm_vl v], [], (pm_Gb L b, pm_u I 79 70 (pf_why D), J)) Q ↔ pm_wp pm_code pm_meta (d + 4) 240 87 ([.ref 79, .int q, .int rk, .int day, .int (pf_rf (I 117) (I 119) rk D), .int a, .int w, .int (Int32.ofNat i), .int (10 * w + Int32.ofNat i)], [.int (if I 117 (10 * w.toNatClampNeg + (Int32.ofNat i).toNatClampNeg) = 2 then 1 else 0)], (pm_Gb L b, pm_u I 79 70 (pf_why D), J)) Q := by
    by_cases s2 : I 117 (10 * w.toNatClampNeg + (Int32.ofNat i).toNatClampNeg) = 2
    · cases v <;> (simp only [pm_vl_n, pm_vl_s]; first | rw [pb_240_42] | rw [pb_240_42b]) <;> simp only [eq_false wn, if_false, pb_240_49, pb_240_49b, iw, true_and, ht, eq_false nle, pb_240_61, pb_240_61b, ij, ht17, ix, eq_true s2, if_true, pb_240_82]
    · cases v <;> (simp only [pm_vl_n, pm_vl_s]; first | rw [pb_240_42] | rw [pb_240_42b]) <;> simp only [eq_false wn, if_false, pb_240_49, pb_240_49b, iw, true_and, ht, eq_false nle, pb_240_61, pb_240_61b, ij, ht17, ix, eq_false s2, pb_240_86]
  refine st.trans ?_
  unfold pf_fit
  by_cases c1 : (if I 117 (10 * w.toNatClampNeg + (Int32.ofNat i).toNatClampNeg) = 2 then (1 : Int32) else 0) = rk
  · by_cases c2 : pf_con (I 118 (10 * w.toNatClampNeg + (Int32.ofNat i).toNatClampNeg)) (I 99 q.toNatClampNeg) = 0
    · simp only [pm_vl_s, pb_240_87, c1, if_true, pb_240_91, i24, true_and, ht99, hc, pb_240_103, eq_true c2, pb_240_153, not_true_eq_false, false_and, and_false, decide_false, Bool.false_eq_true, if_false]
    · by_cases c3 : pf_hld A (I 122) (I 123) (80 * w.toNatClampNeg + (I 120 (10 * w.toNatClampNeg + (Int32.ofNat i).toNatClampNeg)).toNatClampNeg) ((I 121 (10 * w.toNatClampNeg + (Int32.ofNat i).toNatClampNeg)).toNatClampNeg - (I 120 (10 * w.toNatClampNeg + (Int32.ofNat i).toNatClampNeg)).toNatClampNeg) % 2 = 1
      · rcases hrk with rfl | rfl
        · simp only [pm_vl_s, pb_240_87, c1, if_true, pb_240_91, i24, true_and, ht99, hc, pb_240_103, eq_false c2, if_false, pb_240_106, ho, pb_240_115, pm_b_eq0, eq_true c3, not_true_eq_false, pb_240_118, pb_240_132, ij, ht17, ix, pb_240_139, pb_240_153, pm_u_tw, not_false_eq_true, decide_true, pf_rf, pf_why]
        · simp only [pm_vl_s, pb_240_87, c1, if_true, pb_240_91, i24, true_and, ht99, hc, pb_240_103, eq_false c2, if_false, pb_240_106, ho, pb_240_115, pm_b_eq0, eq_true c3, not_true_eq_false, pb_240_118, show ¬ (1 : Int32) = 0 from by decide, pb_240_122, ij, ht19, ix, pb_240_139, pb_240_153, pm_u_tw, not_false_eq_true, decide_true, pf_rf, pf_why]
      · simp only [pm_vl_s, pb_240_87, c1, if_true, pb_240_91, i24, true_and, ht99, hc, pb_240_103, eq_false c2, if_false, pb_240_106, ho, pb_240_115, pm_b_eq0, eq_false c3, not_false_eq_true, pb_240_153, and_false, decide_false, Bool.false_eq_true]
  · simp only [pm_vl_s, pb_240_87, eq_false c1, if_false, pb_240_153, false_and, decide_false, Bool.false_eq_true]
theorem pr_ruleFor {d L : Nat} {b : Bool} {I : Nat → Nat → Int32} {J : Nat → Nat → Int64} {q rk : Int32} {Q : Int32 → Int64 → pm_H → Prop} (h : pg_ver (I 20) (I 21) (I 22) (I 23) (I 24) (I 25) (I 80 5) (I 80 0) (I 112) (I 113) (I 114) (I 115) (I 116) (I 117) (I 118) (I 119) (I 120) (I 121) (I 122) (I 123))
    (i24 : pm_in q 24 = true) (i8 : pm_in (I 100 q.toNatClampNeg) 8 = true) (i16 : pm_in (I 101 q.toNatClampNeg) 16 = true) (hrk : rk = 0 ∨ rk = 1) :
    pm_wc pm_code pm_meta (d + 4) 240 [.ref 79, .int q, .int rk] (pm_Gb L b, I, J) Q ↔ Q (pf_rf (I 117) (I 119) rk (pf_tl (pf_ans (I 85) (I 100) (I 102) (I 99) (I 105) (I 88) (I 101) (I 82) (I 83) q) (I 112) (I 113) (I 114) (I 115) (I 117) (I 118) (I 120) (I 121) (I 122) (I 123) (I 80 5) (I 88 (I 100 q.toNatClampNeg).toNatClampNeg) (I 99 q.toNatClampNeg) rk 4)) 0 (pm_Gb L b, pm_u I 79 70 (pf_why (pf_tl (pf_ans (I 85) (I 100) (I 102) (I 99) (I 105) (I 88) (I 101) (I 82) (I 83) q) (I 112) (I 113) (I 114) (I 115) (I 117) (I 118) (I 120) (I 121) (I 122) (I 123) (I 80 5) (I 88 (I 100 q.toNatClampNeg).toNatClampNeg) (I 99 q.toNatClampNeg) rk 4)), J) := by
  obtain ⟨A, hA⟩ : ∃ A, A = pf_ans (I 85) (I 100) (I 102) (I 99) (I 105) (I 88) (I 101) (I 82) (I 83) q := ⟨_, rfl⟩
  rw [← hA]
  have hn := ver_n h
  have hl : I 80 5 < 2147483647 := pi_ltb (Int32.lt_of_le_of_lt hn.2 (by decide : (12 : Int32) < 100)) (by decide)
  rw [pb_240_0]
  simp only [i24, i8, true_and]
  generalize hday : (I 88 (I 100 q.toNatClampNeg).toNatClampNeg) = day at *
  obtain ⟨TL, hTL⟩ : ∃ TL, TL = pf_tl A (I 112) (I 113) (I 114) (I 115) (I 117) (I 118) (I 120) (I 121) (I 122) (I 123) (I 80 5) day (I 99 q.toNatClampNeg) rk := ⟨_, rfl⟩
  rw [← hTL]
  have T : ∀ (m a : Nat), a + m = 4 → ∀ (D : Option (Int32 × Int32)) (v : Option Int32), (D = none → v = none) → (pm_wp pm_code pm_meta (d + 4) 240 24 ([.ref 79, .int q, .int rk, .int day, .int (pf_rf (I 117) (I 119) rk (TL a)), .int (Int32.ofNat a), pm_vl (D.map (·.1)), pm_vl (D.map (·.2)), pm_vl v], [], (pm_Gb L b, pm_u I 79 70 (pf_why (TL a)), J)) Q ↔ Q (pf_rf (I 117) (I 119) rk (TL 4)) 0 (pm_Gb L b, pm_u I 79 70 (pf_why (TL 4)), J)) := by
    intro m
    induction m with
    | zero =>
      intro a ha D v hDv
      have ha : a = 4 := ha
      subst ha
      have e : (4 : Int32) ≤ Int32.ofNat 4 := by decide
      cases D with
      | none => rw [hDv rfl]; simp only [Option.map, pm_vl_n]; rw [pb_240_24]; simp only [e, if_true, pb_240_165]
      | some D =>
        cases v with
        | none => simp only [Option.map, pm_vl_n, pm_vl_s]; rw [pb_240_24b]; simp only [e, if_true, pb_240_165b]
        | some v => simp only [Option.map, pm_vl_n, pm_vl_s]; rw [pb_240_24c]; simp only [e, if_true, pb_240_165c]
    | succ m ih =>
      intro a ha D v hDv
      have ta : (Int32.ofNat a).toInt = a := Int32.toInt_ofNat_of_lt (by omega)
      have e : ¬ (4 : Int32) ≤ Int32.ofNat a := by rw [pi_le, ta]; have e4 : (4 : Int32).toInt = 4 := rfl; omega
      have ea : Int32.ofNat a + 1 = Int32.ofNat (a + 1) := by rw [Int32.ofNat_add]; rfl
      generalize hw : pf_inf (I 112) (I 114) (I 115) (I 80 5) (Int32.ofNat a) day = w
      have hwr : w = -3 ∨ (0 ≤ w ∧ w < I 80 5) := by rw [← hw]; exact inf_rng hn.1 hl
      have hT1 : TL (a + 1) = (match pf_last (fun i => pf_fit A (I 117) (I 118) (I 120) (I 121) (I 122) (I 123) (I 99 q.toNatClampNeg) rk w.toNatClampNeg i = true) (pf_rls (I 113) (I 80 5) w) with | some j => some (w, j) | none => TL a) := by
        rw [hTL, ← hw]; rfl
      have inner : ∀ (m' i : Nat) (v : Option Int32), i + m' = pf_rls (I 113) (I 80 5) w →
          (pm_wp pm_code pm_meta (d + 4) 240 42 ([.ref 79, .int q, .int rk, .int day, .int (pf_rf (I 117) (I 119) rk (match pf_last (fun i => pf_fit A (I 117) (I 118) (I 120) (I 121) (I 122) (I 123) (I 99 q.toNatClampNeg) rk w.toNatClampNeg i = true) i with | some j => some (w, j) | none => TL a)), .int (Int32.ofNat a), .int w, .int (Int32.ofNat i), pm_vl v], [], (pm_Gb L b, pm_u I 79 70 (pf_why (match pf_last (fun i => pf_fit A (I 117) (I 118) (I 120) (I 121) (I 122) (I 123) (I 99 q.toNatClampNeg) rk w.toNatClampNeg i = true) i with | some j => some (w, j) | none => TL a)), J)) Q ↔ Q (pf_rf (I 117) (I 119) rk (TL 4)) 0 (pm_Gb L b, pm_u I 79 70 (pf_why (TL 4)), J)) := by
        intro m'
        induction m' with
        | zero =>
          intro i v hi
          have hi : i = pf_rls (I 113) (I 80 5) w := hi
          subst hi
          rw [← hT1]
          have t := ih (a + 1) (by omega) (some (w, Int32.ofNat (pf_rls (I 113) (I 80 5) w))) v (fun g => by cases g)
          rcases hwr with g | ⟨w0, w1⟩
          · cases v with
            | none => simp only [Option.map, pm_vl_n, pm_vl_s] at t ⊢; rw [pb_240_42]; simp only [eq_true g, if_true, pb_240_159, ea]; exact t
            | some v => simp only [Option.map, pm_vl_n, pm_vl_s] at t ⊢; rw [pb_240_42b]; simp only [eq_true g, if_true, pb_240_159b, ea]; exact t
          · have wn : ¬ w = -3 := fun g => by rw [g] at w0; exact absurd w0 (by decide)
            have iw : pm_in w 13 = true := ver_in h w0 w1
            have hle : I 113 w.toNatClampNeg ≤ Int32.ofNat (pf_rls (I 113) (I 80 5) w) := by
              unfold pf_rls
              rw [if_pos ⟨w0, w1⟩, pi_ofNat (ver_at h w0 w1).1]
              exact Int32.le_refl _
            have ht : ∀ t, pm_u I 79 70 t 113 = I 113 := fun t => pm_u_off (by decide)
            cases v with
            | none => simp only [Option.map, pm_vl_n, pm_vl_s] at t ⊢; rw [pb_240_42]; simp only [eq_false wn, if_false, pb_240_49, iw, true_and, ht, hle, if_true, pb_240_159, ea]; exact t
            | some v => simp only [Option.map, pm_vl_n, pm_vl_s] at t ⊢; rw [pb_240_42b]; simp only [eq_false wn, if_false, pb_240_49b, iw, true_and, ht, hle, if_true, pb_240_159b, ea]; exact t
        | succ m' ihm =>
          intro i v hi
          have hin : 0 ≤ w ∧ w < I 80 5 := by
            apply Classical.byContradiction
            intro hc
            unfold pf_rls at hi
            rw [if_neg hc] at hi
            omega
          have hml : i < (I 113 w.toNatClampNeg).toNatClampNeg := by unfold pf_rls at hi; rw [if_pos hin] at hi; omega
          have z := ihm (i + 1) (some (10 * w + Int32.ofNat i)) (by omega)
          have ei : Int32.ofNat i + 1 = Int32.ofNat (i + 1) := by rw [Int32.ofNat_add]; rfl
          have hU : (match pf_last (fun i => pf_fit A (I 117) (I 118) (I 120) (I 121) (I 122) (I 123) (I 99 q.toNatClampNeg) rk w.toNatClampNeg i = true) (i + 1) with | some j => some (w, j) | none => TL a) = if pf_fit A (I 117) (I 118) (I 120) (I 121) (I 122) (I 123) (I 99 q.toNatClampNeg) rk w.toNatClampNeg (Int32.ofNat i) = true then some (w, Int32.ofNat i) else (match pf_last (fun i => pf_fit A (I 117) (I 118) (I 120) (I 121) (I 122) (I 123) (I 99 q.toNatClampNeg) rk w.toNatClampNeg i = true) i with | some j => some (w, j) | none => TL a) := by
            rw [last_succ]
            by_cases c : pf_fit A (I 117) (I 118) (I 120) (I 121) (I 122) (I 123) (I 99 q.toNatClampNeg) rk w.toNatClampNeg (Int32.ofNat i) = true
            · rw [if_pos c, if_pos c]
            · rw [if_neg c, if_neg c]
          rw [hU] at z
          refine (pr_rule1 h i24 i8 i16 hrk hA hin.1 hin.2 hml _ v).trans ?_
          rw [ei]
          exact z
      have fin := fun v => inner (pf_rls (I 113) (I 80 5) w) 0 v (Nat.zero_add _)
      have gi : ∀ t Q', pm_wc pm_code pm_meta (d + 3) 231 [.ref 79, .int (Int32.ofNat a), .int day] (pm_Gb L b, pm_u I 79 70 (t), J) Q' ↔ Q' w 0 (pm_Gb L b, pm_u I 79 70 (t), J) := fun t Q' => by
        have p80 : pm_u I 79 70 t 80 = I 80 := pm_u_off (by decide)
        have p112 : pm_u I 79 70 t 112 = I 112 := pm_u_off (by decide)
        have p114 : pm_u I 79 70 t 114 = I 114 := pm_u_off (by decide)
        have p115 : pm_u I 79 70 t 115 = I 115 := pm_u_off (by decide)
        have z := pr_inForce (d := d + 3) (L := L) (b := b) (I := pm_u I 79 70 t) (J := J) (a := Int32.ofNat a) (day := day) (Q := Q') (by rw [p80]; exact hn.1) (by rw [p80]; exact hn.2) (by rw [p80, p112, p114, p115]; exact fun x y h0 h1 h2 hx => ver_uniq h h0 h1 h2 hx)
        rw [p80, p112, p114, p115, hw] at z
        exact z
      cases D with
      | none => rw [hDv rfl]; simp only [Option.map, pm_vl_n]; rw [pb_240_24]; simp only [e, if_false, pb_240_30, gi, pb_240_37]; exact fin none
      | some D =>
        cases v with
        | none => simp only [Option.map, pm_vl_n, pm_vl_s]; rw [pb_240_24b]; simp only [e, if_false, pb_240_30b, gi, pb_240_37b]; exact fin none
        | some v => simp only [Option.map, pm_vl_n, pm_vl_s]; rw [pb_240_24c]; simp only [e, if_false, pb_240_30c, gi, pb_240_37c]; exact fin (some v)
  have t4 := T 4 0 (Nat.zero_add 4) none none (fun _ => rfl)
  have e0 : TL 0 = none := by rw [hTL]; rfl
  rw [e0] at t4
  exact t4

