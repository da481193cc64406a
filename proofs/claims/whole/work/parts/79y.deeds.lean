/-! The deeds of a field in their order: the class. -/
/-- the deeds in their order, the last one first: k is put in -/
def pf_ins (day : Nat → Int32) (k : Nat) : List Nat → List Nat
  | [] => [k]
  | x :: r => if day x ≤ day k then k :: x :: r else x :: pf_ins day k r
def pf_lnr (day : Nat → Int32) (E : Nat → Prop) [DecidablePred E] : Nat → List Nat
  | 0 => []
  | k + 1 => if E k then pf_ins day k (pf_lnr day E k) else pf_lnr day E k
theorem ins_mem {day : Nat → Int32} {k y : Nat} : ∀ r, y ∈ pf_ins day k r ↔ y = k ∨ y ∈ r
  | [] => by simp [pf_ins]
  | x :: r => by
    unfold pf_ins
    split
    · simp
    · simp only [List.mem_cons, ins_mem r]
      constructor
      · rintro (h | h | h) <;> simp [h]
      · rintro (h | h | h) <;> simp [h]
theorem ins_len {day : Nat → Int32} {k : Nat} : ∀ r, (pf_ins day k r).length = r.length + 1
  | [] => rfl
  | x :: r => by
    unfold pf_ins
    split
    · rfl
    · simp only [List.length_cons, ins_len r]
theorem lnr_mem {day : Nat → Int32} {E : Nat → Prop} [DecidablePred E] {y : Nat} : ∀ n, y ∈ pf_lnr day E n ↔ y < n ∧ E y
  | 0 => by simp [pf_lnr]
  | n + 1 => by
    unfold pf_lnr
    split
    · next h =>
      rw [ins_mem, lnr_mem n]
      constructor
      · rintro (e | e)
        · subst e; exact ⟨by omega, h⟩
        · exact ⟨by omega, e.2⟩
      · rintro ⟨e1, e2⟩
        by_cases e : y = n
        · exact Or.inl e
        · exact Or.inr ⟨by omega, e2⟩
    · next h =>
      rw [lnr_mem n]
      constructor
      · exact fun e => ⟨by omega, e.2⟩
      · rintro ⟨e1, e2⟩
        by_cases e : y = n
        · subst e; exact absurd e2 h
        · exact ⟨by omega, e2⟩
theorem lnr_len {day : Nat → Int32} {E : Nat → Prop} [DecidablePred E] : ∀ n, (pf_lnr day E n).length ≤ n
  | 0 => Nat.le_refl 0
  | n + 1 => by
    unfold pf_lnr
    have := lnr_len (day := day) (E := E) n
    split
    · rw [ins_len]; omega
    · omega
/-- which of two deeds is the earlier -/
def pf_bf (day : Nat → Int32) (a c : Nat) : Prop := day a < day c ∨ (day a = day c ∧ a < c)
theorem bf_trans {day : Nat → Int32} {a b c : Nat} (h1 : pf_bf day a b) (h2 : pf_bf day b c) : pf_bf day a c := by
  unfold pf_bf at *
  rcases h1 with h1 | ⟨h1, g1⟩ <;> rcases h2 with h2 | ⟨h2, g2⟩
  · exact Or.inl (Int32.lt_trans h1 h2)
  · rw [h2] at h1; exact Or.inl h1
  · rw [← h1] at h2; exact Or.inl h2
  · exact Or.inr ⟨h1.trans h2, Nat.lt_trans g1 g2⟩
theorem ins_sorted {day : Nat → Int32} {k : Nat} : ∀ r : List Nat, (∀ x ∈ r, x < k) → r.Pairwise (fun a c => pf_bf day c a) → (pf_ins day k r).Pairwise (fun a c => pf_bf day c a)
  | [], _, _ => by simp [pf_ins]
  | x :: r, h, hs => by
    rw [List.pairwise_cons] at hs
    unfold pf_ins
    split
    · next c =>
      have xk : pf_bf day x k := by
        by_cases e : day x = day k
        · exact Or.inr ⟨e, h x (by simp)⟩
        · exact Or.inl (Int32.lt_of_le_of_ne c e)
      rw [List.pairwise_cons, List.pairwise_cons]
      refine ⟨fun y hy => ?_, hs⟩
      rcases List.mem_cons.mp hy with e | e
      · subst e; exact xk
      · exact bf_trans (hs.1 y e) xk
    · next c =>
      rw [List.pairwise_cons]
      refine ⟨fun y hy => ?_, ins_sorted r (fun y hy => h y (by simp [hy])) hs.2⟩
      rcases (ins_mem r).mp hy with e | e
      · subst e; exact Or.inl (Int32.not_le.mp c)
      · exact hs.1 y e
theorem lnr_sorted {day : Nat → Int32} {E : Nat → Prop} [DecidablePred E] : ∀ n, (pf_lnr day E n).Pairwise (fun a c => pf_bf day c a)
  | 0 => List.Pairwise.nil
  | n + 1 => by
    unfold pf_lnr
    split
    · exact ins_sorted _ (fun x hx => ((lnr_mem n).mp hx).1) (lnr_sorted n)
    · exact lnr_sorted n
/-- the cells hold them -/
def pf_hold (f : Nat → Int32) : List Nat → Prop
  | [] => True
  | x :: r => f r.length = Int32.ofNat x ∧ pf_hold f r
theorem hold_cg {f g : Nat → Int32} : ∀ r : List Nat, (∀ j, j < r.length → f j = g j) → pf_hold f r → pf_hold g r
  | [], _, _ => trivial
  | x :: r, h, hh => ⟨(h r.length (by simp)).symm.trans hh.1, hold_cg r (fun j hj => h j (by simp; omega)) hh.2⟩
theorem hold_at {f : Nat → Int32} {x : Nat} {c : List Nat} : ∀ a : List Nat, pf_hold f (a ++ x :: c) → f c.length = Int32.ofNat x
  | [], h => h.1
  | _ :: a, h => hold_at a h.2
theorem pi_on {j : Nat} (h : j < 1000) : 0 ≤ Int32.ofNat j ∧ (Int32.ofNat j).toNatClampNeg = j ∧ (Int32.ofNat j).toInt = j := by
  have e : (Int32.ofNat j).toInt = j := Int32.toInt_ofNat_of_lt (by omega)
  have h0 : 0 ≤ Int32.ofNat j := by rw [pi_le, pi_0, e]; omega
  have := pi_tni h0
  exact ⟨h0, by omega, e⟩
theorem pi_onlt {j : Nat} {n : Int32} (h : j < 1000) (hn : j < n.toNatClampNeg) : Int32.ofNat j < n := by
  have g := pi_on h
  have n0 : 0 ≤ n := by
    rw [pi_le, pi_0]
    have := pi_hi n
    by_cases q : 0 ≤ n.toInt
    · exact q
    · exfalso
      have z : n.toNatClampNeg = n.toInt.toNat := rfl
      omega
  have := pi_tni n0
  rw [pi_lt, g.2.2]; omega
theorem pi_onadd {j : Nat} (h : j < 1000) : Int32.ofNat j + 1 = Int32.ofNat (j + 1) := by
  have g := pi_on h
  have g2 := pi_on (j := j + 1 - 1 + 0) (by omega)
  refine Int32.toInt_inj.mp ?_
  rw [pi_add (by rw [pi_1]; omega) (by rw [pi_1]; omega), pi_1, g.2.2]
  rw [show (Int32.ofNat (j + 1)).toInt = ((j + 1 : Nat) : Int) from Int32.toInt_ofNat_of_lt (by omega)]
  omega
theorem px_shift {d L : Nat} {b : Bool} {I : Nat → Nat → Int32} {J : Nat → Nat → Int64} {x1 x2 kk : Int32} {n : Int32} {field fr to day amount known : Nat → Int32} {Q : Int32 → Int64 → pm_H → Prop} {k : Nat} (hd : pg_dee (I 34) (I 35) n field fr to day amount known) (hti : pm_ti (I 65) 1 24) (hk : k < n.toNatClampNeg) : ∀ (r : List Nat) (f : Nat → Int32), r.length < (I 65 3).toNatClampNeg → (∀ x ∈ r, x < n.toNatClampNeg) → pf_hold f r → kk = Int32.ofNat k →
    (∀ f' p', pf_hold f' (pf_ins day k r) → (∀ j, r.length < j → f' j = f j) → pm_wp pm_code pm_meta (d + 1) 9 154 ([.ref 64, .int x1, .int x2, .int kk, .int (day k), .int p'], [], (pm_Gb L b, pm_r I 66 f', J)) Q) →
    pm_wp pm_code pm_meta (d + 1) 9 82 ([.ref 64, .int x1, .int x2, .int kk, .int (day k), .int (Int32.ofNat r.length)], [], (pm_Gb L b, pm_r I 66 f, J)) Q := by
  have hn := dee_n hd
  have e24 : (24 : Int32).toInt = 24 := rfl
  have t1 := pi_tni hn.1
  have t2 := pi_le.mp hn.2
  have h3 := pi_le.mp hti.2.2.2
  have h4 := pi_tni hti.2.2.1
  intro r
  induction r with
  | nil =>
    intro f hl hr hh hkk hQ
    rw [show Int32.ofNat ([] : List Nat).length = 0 from rfl, pb_9_82]
    have h0 : (0 : Int32) < I 65 3 := by rw [pi_lt, pi_0]; simp only [List.length_nil] at hl; omega
    have z := hQ (pm_w f 0 kk) 0 (by unfold pf_ins pf_hold; exact ⟨by rw [pm_w_at]; simp [hkk], trivial⟩) (fun j hj => pm_w_ne (by simp at hj; omega))
    simp only [Int32.le_refl, if_true, pb_9_143, pt_set_65_0 (I := pm_r I 66 f) (by rw [pm_r_row, if_neg (by decide)]; exact hti), pm_u_row, pm_zr_row, pm_r_row, pm_w_at, Nat.reduceEqDiff, Nat.reduceLT, ite_true, ite_false, if_true, if_false, ite_self, h0, true_and, show (0 : Int32).toNatClampNeg = 0 from rfl, Nat.mul_zero, Nat.add_zero, pm_u_r]
    exact z
  | cons x r ih =>
    intro f hl hr hh hkk hQ
    simp only [List.length_cons] at hl ⊢
    have p1 := pi_on (j := r.length + 1) (by omega)
    have p0 := pi_on (j := r.length) (by omega)
    have ps : Int32.ofNat (r.length + 1) - 1 = Int32.ofNat r.length := by
      rw [← pi_onadd (by omega)]; grind
    have pm : Int32.ofNat (r.length + 1) + -1 = Int32.ofNat r.length := by
      rw [← pi_onadd (by omega)]; grind
    have np : ¬ Int32.ofNat (r.length + 1) ≤ 0 := by rw [pi_le, pi_0, p1.2.2]; omega
    have lp : Int32.ofNat (r.length + 1) < I 65 3 := pi_onlt (by omega) hl
    have lp0 : Int32.ofNat r.length < I 65 3 := pi_onlt (by omega) (by omega)
    have hx := hr x (by simp)
    have px := pi_on (j := x) (by omega)
    have lx : Int32.ofNat x < n := pi_onlt (by omega) hx
    have hd' : pg_dee (pm_r I 66 f 34) (pm_r I 66 f 35) n field fr to day amount known := by simp only [pm_u_row, pm_zr_row, pm_r_row, pm_w_at, Nat.reduceEqDiff, Nat.reduceLT, ite_true, ite_false, if_true, if_false, ite_self]; exact hd
    have ht' : pm_ti (pm_r I 66 f 65) 1 24 := by simp only [pm_u_row, pm_zr_row, pm_r_row, pm_w_at, Nat.reduceEqDiff, Nat.reduceLT, ite_true, ite_false, if_true, if_false, ite_self]; exact hti
    rw [pb_9_82, if_neg np, pb_9_87, ps, pt_get_65_0 ht']
    simp only [pm_u_row, pm_zr_row, pm_r_row, pm_w_at, Nat.reduceEqDiff, Nat.reduceLT, ite_true, ite_false, if_true, if_false, ite_self, p0.1, lp0, and_self, p0.2.1, Nat.one_mul, Nat.add_zero, hh.1, pb_9_106]
    rw [px_dee_3 hd', pm_at_in px.1 lx, px.2.1, pb_9_110]
    by_cases c : day x ≤ day k
    · have z := hQ (pm_w f (r.length + 1) kk) (Int32.ofNat (r.length + 1)) (by
        unfold pf_ins
        rw [if_pos c]
        refine ⟨by simp [pm_w_at, hkk], ?_, ?_⟩
        · rw [pm_w_ne (by omega)]; exact hh.1
        · exact hold_cg r (fun j hj => (pm_w_ne (by omega)).symm) hh.2) (fun j hj => pm_w_ne (by simp at hj; omega))
      simp only [c, if_true, pb_9_143, pt_set_65_0 ht', pm_u_row, pm_zr_row, pm_r_row, pm_w_at, Nat.reduceEqDiff, Nat.reduceLT, ite_true, ite_false, if_true, if_false, ite_self, lp, p1.1, and_self, p1.2.1, Nat.one_mul, Nat.add_zero, pm_u_r]
      exact z
    · simp only [c, if_false, pb_9_115, ps, pt_get_65_0 ht', pm_u_row, pm_zr_row, pm_r_row, pm_w_at, Nat.reduceEqDiff, Nat.reduceLT, ite_true, ite_false, if_true, if_false, ite_self, p0.1, lp0, and_self, p0.2.1, Nat.one_mul, Nat.add_zero, hh.1, pb_9_134, pt_set_65_0 ht', lp, p1.1, p1.2.1, pm_u_r, pb_9_137, pm]
      refine ih (pm_w f (r.length + 1) (Int32.ofNat x)) (by omega) (fun y hy => hr y (by simp [hy])) (hold_cg r (fun j hj => (pm_w_ne (by omega)).symm) hh.2) hkk (fun f' p' h1 h2 => ?_)
      refine hQ f' p' ?_ (fun j hj => ?_)
      · unfold pf_ins
        rw [if_neg c]
        refine ⟨?_, h1⟩
        rw [ins_len, h2 _ (by omega), pm_w_at, if_pos rfl]
      · simp at hj
        rw [h2 j (by omega), pm_w_ne (by omega)]

