/-! What the deeds of a field tell: the class. -/
def pf_wx (fr to day amount : Nat → Int32) (D person : Int32) : List Nat → Bool → Int32 → Int32 → Int32 → Int32 × Int32 × Int32
  | [], _, h, q, s => (h, q, s)
  | x :: l, first, h, q, s => if day x ≤ D then (if first = false ∧ ¬ fr x = h then pf_wx fr to day amount D person l false h (q + 1) s else pf_wx fr to day amount D person l false (to x) q (if fr x = person then s + amount x else s)) else (h, q, s)
theorem px_follow_loop {d L : Nat} {b : Bool} {J : Nat → Nat → Int64} {I0 : Nat → Nat → Int32} {x1 x2 x3 x4 : Int32} {n : Int32} {field fr to day amount known : Nat → Int32} {Q : Int32 → Int64 → pm_H → Prop} (hd : pg_dee (I0 34) (I0 35) n field fr to day amount known) (ht : pm_ti (I0 65) 1 24) (l : List Nat) (hc : I0 65 3 = Int32.ofNat l.length) (hh : pf_hold (I0 66) l.reverse) (hl : ∀ x ∈ l, x < n.toNatClampNeg) (l24 : l.length ≤ 24) :
    ∀ (rest pre : List Nat) (D : Option (Int32 × Int32)) (I : Nat → Nat → Int32), l = pre ++ rest → (∀ k, ¬ k = 64 → I k = I0 k) →
    (∀ I', (∀ k, ¬ k = 64 → I' k = I0 k) → (I' 64 2, I' 64 3, I' 64 4) = pf_wx fr to day amount x2 x4 rest (decide (pre = [])) (I 64 2) (I 64 3) (I 64 4) → Q 0 0 (pm_Gb L b, I', J)) →
    pm_wp pm_code pm_meta (d + 1) 8 25 ([.ref 64, .int x1, .int x2, .int x3, .int x4, .int (Int32.ofNat pre.length), pm_vl (D.map (·.1)), pm_vl (D.map (·.2))], [], (pm_Gb L b, I, J)) Q := by
  have hn := dee_n hd
  have e24 : (24 : Int32).toInt = 24 := rfl
  have t1 := pi_tni hn.1
  have t2 := pi_le.mp hn.2
  intro rest
  induction rest with
  | nil =>
    intro pre D I hl0 hs hQ
    rw [List.append_nil] at hl0
    subst hl0
    have hi : I 65 3 ≤ Int32.ofNat l.length := by rw [hs 65 (by decide), hc]; exact Int32.le_refl _
    have q := hQ I hs rfl
    cases D <;> simp only [Option.map, pm_vl_n, pm_vl_s] <;> first | (rw [pb_8_25, if_pos hi, pb_8_163]; exact q) | (rw [pb_8_25b, if_pos hi, pb_8_163c]; exact q)
  | cons x rest ih =>
    intro pre D I hl0 hs hQ
    have hlen : l.length = pre.length + (rest.length + 1) := by rw [hl0]; simp
    have p := pi_on (j := pre.length) (by omega)
    have lp : Int32.ofNat pre.length < I0 65 3 := by rw [hc]; exact pi_onlt (by omega) (by rw [(pi_on (j := l.length) (by omega)).2.1]; omega)
    have hi : ¬ I 65 3 ≤ Int32.ofNat pre.length := by rw [hs 65 (by decide)]; exact Int32.not_le.mpr lp
    have hd' : pg_dee (I 34) (I 35) n field fr to day amount known := by rw [hs 34 (by decide), hs 35 (by decide)]; exact hd
    have ht' : pm_ti (I 65) 1 24 := by rw [hs 65 (by decide)]; exact ht
    have fx : I 66 pre.length = Int32.ofNat x := by
      rw [hs 66 (by decide)]
      have z : l.reverse = rest.reverse ++ x :: pre.reverse := by rw [hl0]; simp
      rw [z] at hh
      have := hold_at _ hh
      rw [List.length_reverse] at this
      exact this
    have hx := hl x (by rw [hl0]; simp)
    have px := pi_on (j := x) (by omega)
    have lx : Int32.ofNat x < n := pi_onlt (by omega) hx
    have ek := pi_onadd (j := pre.length) (by omega)
    have lp' : Int32.ofNat pre.length < I 65 3 := by rw [hs 65 (by decide)]; exact lp
    have hl1 : l = (pre ++ [x]) ++ rest := by rw [hl0]; simp
    have hl2 : (pre ++ [x]).length = pre.length + 1 := by simp
    have hf : decide (pre ++ [x] = []) = false := by simp
    by_cases c : day x ≤ x2
    · have at82 : pm_wp pm_code pm_meta (d + 1) 8 25 ([.ref 64, .int x1, .int x2, .int x3, .int x4, .int (Int32.ofNat pre.length), pm_vl (D.map (·.1)), pm_vl (D.map (·.2))], [], (pm_Gb L b, I, J)) Q ↔ (if Int32.ofNat pre.length ≤ 0 then pm_wp pm_code pm_meta (d + 1) 8 111 ([.ref 64, .int x1, .int x2, .int x3, .int x4, .int (Int32.ofNat pre.length), .int (Int32.ofNat x), .int (fr x)], [], (pm_Gb L b, I, J)) Q else pm_wp pm_code pm_meta (d + 1) 8 89 ([.ref 64, .int x1, .int x2, .int x3, .int x4, .int (Int32.ofNat pre.length), .int (Int32.ofNat x), .int (fr x)], [], (pm_Gb L b, I, J)) Q) := by
        cases D <;> simp only [Option.map, pm_vl_n, pm_vl_s] <;> (first | rw [pb_8_25, if_neg hi] | rw [pb_8_25b, if_neg hi]) <;> simp only [pb_8_37, pb_8_37b, pt_get_65_0 ht', p.1, lp', and_self, if_true, p.2.1, Nat.one_mul, Nat.add_zero, fx, pb_8_47, pb_8_47b, px_dee_3 hd', px_dee_1 hd', pm_at_in px.1 lx, px.2.1, pb_8_62, pb_8_62b, c, pb_8_69, pb_8_69b, pb_8_82, pb_8_82b]
      rw [at82]
      have stay : (pre = [] ∨ fr x = I 64 2) → pm_wp pm_code pm_meta (d + 1) 8 111 ([.ref 64, .int x1, .int x2, .int x3, .int x4, .int (Int32.ofNat pre.length), .int (Int32.ofNat x), .int (fr x)], [], (pm_Gb L b, I, J)) Q := fun hor => by
        have hw : ∀ h q s, pf_wx fr to day amount x2 x4 (x :: rest) (decide (pre = [])) h q s = (if decide (pre = []) = false ∧ ¬ fr x = h then pf_wx fr to day amount x2 x4 rest false h (q + 1) s else pf_wx fr to day amount x2 x4 rest false (to x) q (if fr x = x4 then s + amount x else s)) := fun h q s => if_pos c
        have hno : ¬ (decide (pre = []) = false ∧ ¬ fr x = I 64 2) := by
          rcases hor with e | e
          · subst e; simp
          · simp [e]
        rw [hw, if_neg hno] at hQ
        simp only [pb_8_111, px_dee_2 hd', pm_at_in px.1 lx, px.2.1, pb_8_125]
        generalize hI1 : pm_u I 64 2 (to x) = I1
        have s1 : ∀ k, ¬ k = 64 → I1 k = I0 k := fun k h => by rw [← hI1, pm_u_row, if_neg h]; exact hs k h
        have v2 : I1 64 2 = to x := by rw [← hI1]; exact pm_u_at _ _ _ _
        have v3 : I1 64 3 = I 64 3 := by rw [← hI1, pm_u_row, if_pos rfl, pm_w_ne (by decide)]
        have v4 : I1 64 4 = I 64 4 := by rw [← hI1, pm_u_row, if_pos rfl, pm_w_ne (by decide)]
        by_cases c4 : fr x = x4
        · have hd1 : pg_dee (I1 34) (I1 35) n field fr to day amount known := by rw [s1 34 (by decide), s1 35 (by decide)]; exact hd
          rw [if_pos c4] at hQ
          simp only [c4, if_true, pb_8_135, px_dee_4 hd1, pm_at_in px.1 lx, px.2.1, pb_8_153, pb_8_157, ek]
          have z := ih (pre ++ [x]) (some (Int32.ofNat x, x4)) (pm_u I1 64 4 (I1 64 4 + amount x)) hl1 (fun k h => by rw [pm_u_row, if_neg h]; exact s1 k h) (fun I' h1 h2 => hQ I' h1 (by
            rw [h2, hf, pm_u_at, pm_u_row, if_pos rfl, pm_w_ne (by decide), pm_w_ne (by decide), v2, v3, v4]))
          rw [hl2] at z
          simp only [Option.map, pm_vl_s] at z
          exact z
        · rw [if_neg c4] at hQ
          simp only [c4, if_false, pb_8_157, ek]
          have z := ih (pre ++ [x]) (some (Int32.ofNat x, fr x)) I1 hl1 s1 (fun I' h1 h2 => hQ I' h1 (by rw [h2, hf, v2, v3, v4]))
          rw [hl2] at z
          simp only [Option.map, pm_vl_s] at z
          exact z
      by_cases c2 : pre = []
      · have : Int32.ofNat pre.length ≤ 0 := by rw [c2]; exact Int32.le_refl 0
        rw [if_pos this]
        exact stay (Or.inl c2)
      · have : ¬ Int32.ofNat pre.length ≤ 0 := by
          have : 0 < pre.length := List.length_pos_iff.mpr c2
          rw [pi_le, p.2.2, pi_0]; omega
        rw [if_neg this, pb_8_89]
        by_cases c3 : fr x = I 64 2
        · rw [if_pos c3]; exact stay (Or.inr c3)
        · rw [if_neg c3, pb_8_98, pb_8_157, ek]
          have hw : ∀ h q s, pf_wx fr to day amount x2 x4 (x :: rest) (decide (pre = [])) h q s = (if decide (pre = []) = false ∧ ¬ fr x = h then pf_wx fr to day amount x2 x4 rest false h (q + 1) s else pf_wx fr to day amount x2 x4 rest false (to x) q (if fr x = x4 then s + amount x else s)) := fun h q s => if_pos c
          rw [hw, if_pos ⟨decide_eq_false c2, c3⟩] at hQ
          have z := ih (pre ++ [x]) (some (Int32.ofNat x, fr x)) (pm_u I 64 3 (I 64 3 + 1)) hl1 (fun k h => by rw [pm_u_row, if_neg h]; exact hs k h) (fun I' h1 h2 => hQ I' h1 (by
            rw [h2, hf, pm_u_at, pm_u_row, if_pos rfl, pm_w_ne (by decide), pm_w_ne (by decide)]))
          rw [hl2] at z
          simp only [Option.map, pm_vl_s] at z
          exact z
    · have hw : pf_wx fr to day amount x2 x4 (x :: rest) (decide (pre = [])) (I 64 2) (I 64 3) (I 64 4) = (I 64 2, I 64 3, I 64 4) := if_neg c
      have q := hQ I hs hw.symm
      cases D <;> simp only [Option.map, pm_vl_n, pm_vl_s] <;> (first | rw [pb_8_25, if_neg hi] | rw [pb_8_25b, if_neg hi]) <;> simp only [pb_8_37, pb_8_37b, pt_get_65_0 ht', p.1, lp', and_self, if_true, p.2.1, Nat.one_mul, Nat.add_zero, fx, pb_8_47, pb_8_47b, px_dee_3 hd', pm_at_in px.1 lx, px.2.1, pb_8_62, pb_8_62b, c, if_false, pb_8_66, pb_8_66b, pb_8_163b, pb_8_163c] <;> exact q

