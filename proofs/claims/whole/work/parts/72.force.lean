/-! VERSIONS that are in force. -/
theorem ver_n {t c tr cr ts cs : Nat → Int32} {n today : Int32} {act rules fr till ops sort kinds rank rops rend opis opof : Nat → Int32} (h : pg_ver t c tr cr ts cs n today act rules fr till ops sort kinds rank rops rend opis opof) : 0 ≤ n ∧ n ≤ 12 := by
  obtain ⟨⟨⟨_, _, h1, h2⟩, rfl, _⟩, _⟩ := h; exact ⟨h1, h2⟩
theorem ver_in {t c tr cr ts cs : Nat → Int32} {n today : Int32} {act rules fr till ops sort kinds rank rops rend opis opof : Nat → Int32} (h : pg_ver t c tr cr ts cs n today act rules fr till ops sort kinds rank rops rend opis opof) {p : Int32} (h0 : 0 ≤ p) (h1 : p < n) : pm_in p 13 = true := by
  have := (ver_n h).2
  rw [pi_lt] at h1; rw [pi_le] at this
  exact pi_in h0 (by have e : (12 : Int32).toInt = 12 := rfl; omega)
theorem px_ver_0 {d L : Nat} {b : Bool} {I : Nat → Nat → Int32} {J : Nat → Nat → Int64} {r : Int32} {n today : Int32} {act rules fr till ops sort kinds rank rops rend opis opof : Nat → Int32} {Q : Int32 → Int64 → pm_H → Prop} (h : pg_ver (I 20) (I 21) (I 22) (I 23) (I 24) (I 25) n today act rules fr till ops sort kinds rank rops rend opis opof) : pm_wc pm_code pm_meta d 83 [.ref 20, .int r, .int 0] (pm_Gb L b, I, J) Q ↔ Q (pm_at n r act) 0 (pm_Gb L b, I, J) := by
  rw [pt_get_20_0 h.1.1, h.1.2.1, pm_at_cg (f := fun k => I 21 (5 * k + 0)) (fun k hk => (h.2.2.2.1 k hk).1.1)]
theorem px_ver_1 {d L : Nat} {b : Bool} {I : Nat → Nat → Int32} {J : Nat → Nat → Int64} {r : Int32} {n today : Int32} {act rules fr till ops sort kinds rank rops rend opis opof : Nat → Int32} {Q : Int32 → Int64 → pm_H → Prop} (h : pg_ver (I 20) (I 21) (I 22) (I 23) (I 24) (I 25) n today act rules fr till ops sort kinds rank rops rend opis opof) : pm_wc pm_code pm_meta d 83 [.ref 20, .int r, .int 1] (pm_Gb L b, I, J) Q ↔ Q (pm_at n r rules) 0 (pm_Gb L b, I, J) := by
  rw [pt_get_20_1 h.1.1, h.1.2.1, pm_at_cg (f := fun k => I 21 (5 * k + 1)) (fun k hk => (h.2.2.2.1 k hk).1.2.1)]
theorem px_ver_2 {d L : Nat} {b : Bool} {I : Nat → Nat → Int32} {J : Nat → Nat → Int64} {r : Int32} {n today : Int32} {act rules fr till ops sort kinds rank rops rend opis opof : Nat → Int32} {Q : Int32 → Int64 → pm_H → Prop} (h : pg_ver (I 20) (I 21) (I 22) (I 23) (I 24) (I 25) n today act rules fr till ops sort kinds rank rops rend opis opof) : pm_wc pm_code pm_meta d 83 [.ref 20, .int r, .int 2] (pm_Gb L b, I, J) Q ↔ Q (pm_at n r fr) 0 (pm_Gb L b, I, J) := by
  rw [pt_get_20_2 h.1.1, h.1.2.1, pm_at_cg (f := fun k => I 21 (5 * k + 2)) (fun k hk => (h.2.2.2.1 k hk).1.2.2.1)]
theorem px_ver_3 {d L : Nat} {b : Bool} {I : Nat → Nat → Int32} {J : Nat → Nat → Int64} {r : Int32} {n today : Int32} {act rules fr till ops sort kinds rank rops rend opis opof : Nat → Int32} {Q : Int32 → Int64 → pm_H → Prop} (h : pg_ver (I 20) (I 21) (I 22) (I 23) (I 24) (I 25) n today act rules fr till ops sort kinds rank rops rend opis opof) : pm_wc pm_code pm_meta d 83 [.ref 20, .int r, .int 3] (pm_Gb L b, I, J) Q ↔ Q (pm_at n r (fun k => pm_no (till k))) 0 (pm_Gb L b, I, J) := by
  rw [pt_get_20_3 h.1.1, h.1.2.1, pm_at_cg (f := fun k => I 21 (5 * k + 3)) (fun k hk => (h.2.2.2.1 k hk).1.2.2.2)]
theorem px_has_ver {d L : Nat} {b : Bool} {I : Nat → Nat → Int32} {J : Nat → Nat → Int64} {r : Int32} {n today : Int32} {act rules fr till ops sort kinds rank rops rend opis opof : Nat → Int32} {Q : Int32 → Int64 → pm_H → Prop} (h : pg_ver (I 20) (I 21) (I 22) (I 23) (I 24) (I 25) n today act rules fr till ops sort kinds rank rops rend opis opof) : pm_wc pm_code pm_meta d 81 [.ref 20, .int r] (pm_Gb L b, I, J) Q ↔ Q (pm_b (0 ≤ r ∧ r < n)) 0 (pm_Gb L b, I, J) := by
  simp only [pt_has_20, h.1.2.1]
def pf_inf (act fr till : Nat → Int32) (n a day : Int32) : Int32 := (pm_fq (fun k => (act k.toNatClampNeg = a ∧ fr k.toNatClampNeg ≤ day ∧ (¬ 0 ≤ till k.toNatClampNeg ∨ day < till k.toNatClampNeg))) n.toNatClampNeg 0).getD (-3)
theorem pm_oe_getD {Q : Int32 → Prop} (o : Option Int32) : pm_oe (Q (-3)) Q o ↔ Q (o.getD (-3)) := by cases o <;> exact Iff.rfl
theorem px_inForce {d L : Nat} {b : Bool} {I : Nat → Nat → Int32} {J : Nat → Nat → Int64} {a day : Int32} {n today : Int32} {act rules fr till ops sort kinds rank rops rend opis opof : Nat → Int32} {Q : Int32 → Int64 → pm_H → Prop} (h : pg_ver (I 20) (I 21) (I 22) (I 23) (I 24) (I 25) n today act rules fr till ops sort kinds rank rops rend opis opof) : pm_wc pm_code pm_meta (d + 1) 42 [.ref 36, .int a, .int day] (pm_Gb L b, I, J) Q ↔ Q (pf_inf act fr till n a day) 0 (pm_Gb L b, I, J) := by
  have hn := ver_n h
  have hl : n < 2147483647 := pi_ltb (Int32.lt_of_le_of_lt hn.2 (by decide : (12 : Int32) < 100)) (by decide)
  have gen : ∀ (m : Nat) (i : Int32) (v : Option Int32), 0 ≤ i → i.toNatClampNeg + m = n.toNatClampNeg → (pm_wp pm_code pm_meta (d + 1) 42 2 ([.ref 36, .int a, .int day, .int i, pm_vl v], [], (pm_Gb L b, I, J)) Q ↔ pm_oe (Q (-3) 0 (pm_Gb L b, I, J)) (fun i => Q i 0 (pm_Gb L b, I, J)) (pm_fq (fun k => (act k.toNatClampNeg = a ∧ fr k.toNatClampNeg ≤ day ∧ (¬ 0 ≤ till k.toNatClampNeg ∨ day < till k.toNatClampNeg))) m i)) := by
    intro m
    induction m with
    | zero =>
      intro i v h0 hm
      have h1 := pi_tni hn.1
      have h2 := pi_tni h0
      have hi : n ≤ i := by rw [pi_le]; omega
      cases v <;> (simp only [pm_vl_n, pm_vl_s]; first | rw [pb_42_2] | rw [pb_42_2b]) <;> simp only [h.1.2.1, hi, if_true, pb_42_86, pb_42_86b, pm_fq, pm_oe]
    | succ m ih =>
      intro i v h0 hm
      have h1 := pi_tni hn.1
      have h2 := pi_tni h0
      have e : i < n := by rw [pi_lt]; omega
      have hi : ¬ n ≤ i := Int32.not_le.mpr e
      have e3 : (i + 1).toNatClampNeg = i.toNatClampNeg + 1 := pi_tn1 h0 (by grind)
      have e4 : 0 ≤ i + 1 := by grind
      have ih1 := fun v => ih (i + 1) v e4 (by omega)
      have ih2 := fun z => ih1 (some z)
      simp only [pm_vl_s] at ih2
      by_cases c1 : act i.toNatClampNeg = a
      · have c1' := eq_true c1
        by_cases c2 : fr i.toNatClampNeg ≤ day
        · have c2' := Int32.not_lt.mpr c2
          by_cases c3 : 0 ≤ till i.toNatClampNeg
          · have n3 : (till i.toNatClampNeg = -3) = False := by grind
            by_cases c4 : day < till i.toNatClampNeg
            · have c4' := Int32.not_le.mpr c4
              cases v <;> (simp only [pm_vl_n, pm_vl_s]; first | rw [pb_42_2] | rw [pb_42_2b]) <;> simp only [h.1.2.1, hi, pb_42_86, pb_42_16, pb_42_28, pb_42_42, pb_42_49, pb_42_46, pb_42_61, pb_42_80, pb_42_65, pb_42_78, pb_42_72, pb_42_86b, pb_42_16b, pb_42_28b, px_ver_0 h, px_ver_2 h, px_ver_3 h, pm_at_in, h0, e, c1', c2, c2', c3, n3, c4, c4', pm_no_pos, pm_fq, pm_oe, and_self, not_true_eq_false, or_true, false_or, ih2, Int32.reduceLE, Int32.reduceLT, pi_lt0, pm_b_eq0, pm_b_eq1, ite_not, pm_k0, pm_k1, pm_b_fit, true_and, and_true, not_true_eq_false, not_false_eq_true, ite_true, ite_false, if_true, if_false]
            · have c4' := Int32.not_lt.mp c4
              cases v <;> (simp only [pm_vl_n, pm_vl_s]; first | rw [pb_42_2] | rw [pb_42_2b]) <;> simp only [h.1.2.1, hi, pb_42_86, pb_42_16, pb_42_28, pb_42_42, pb_42_49, pb_42_46, pb_42_61, pb_42_80, pb_42_65, pb_42_78, pb_42_72, pb_42_86b, pb_42_16b, pb_42_28b, px_ver_0 h, px_ver_2 h, px_ver_3 h, pm_at_in, h0, e, c1', c2, c2', c3, n3, c4, c4', pm_no_pos, pm_fq, pm_oe, and_false, not_true_eq_false, or_self, ih2, Int32.reduceLE, Int32.reduceLT, pi_lt0, pm_b_eq0, pm_b_eq1, ite_not, pm_k0, pm_k1, pm_b_fit, true_and, and_true, not_true_eq_false, not_false_eq_true, ite_true, ite_false, if_true, if_false]
          · cases v <;> (simp only [pm_vl_n, pm_vl_s]; first | rw [pb_42_2] | rw [pb_42_2b]) <;> simp only [h.1.2.1, hi, pb_42_86, pb_42_16, pb_42_28, pb_42_42, pb_42_49, pb_42_46, pb_42_61, pb_42_80, pb_42_65, pb_42_78, pb_42_72, pb_42_86b, pb_42_16b, pb_42_28b, px_ver_0 h, px_ver_2 h, px_ver_3 h, pm_at_in, h0, e, c1', c2, c2', c3, pm_no_eq, pm_fq, pm_oe, and_self, not_false_eq_true, true_or, ih2, Int32.reduceLE, Int32.reduceLT, pi_lt0, pm_b_eq0, pm_b_eq1, ite_not, pm_k0, pm_k1, pm_b_fit, true_and, and_true, not_true_eq_false, not_false_eq_true, ite_true, ite_false, if_true, if_false]
        · have c2' := Int32.not_le.mp c2
          cases v <;> (simp only [pm_vl_n, pm_vl_s]; first | rw [pb_42_2] | rw [pb_42_2b]) <;> simp only [h.1.2.1, hi, pb_42_86, pb_42_16, pb_42_28, pb_42_42, pb_42_49, pb_42_46, pb_42_61, pb_42_80, pb_42_65, pb_42_78, pb_42_72, pb_42_86b, pb_42_16b, pb_42_28b, px_ver_0 h, px_ver_2 h, px_ver_3 h, pm_at_in, h0, e, c1', c2, c2', pm_fq, pm_oe, false_and, and_false, ih2, Int32.reduceLE, Int32.reduceLT, pi_lt0, pm_b_eq0, pm_b_eq1, ite_not, pm_k0, pm_k1, pm_b_fit, true_and, and_true, not_true_eq_false, not_false_eq_true, ite_true, ite_false, if_true, if_false]
      · have c1' := eq_false c1
        cases v <;> (simp only [pm_vl_n, pm_vl_s]; first | rw [pb_42_2] | rw [pb_42_2b]) <;> simp only [h.1.2.1, hi, pb_42_86, pb_42_16, pb_42_28, pb_42_42, pb_42_49, pb_42_46, pb_42_61, pb_42_80, pb_42_65, pb_42_78, pb_42_72, pb_42_86b, pb_42_16b, pb_42_28b, px_ver_0 h, px_ver_2 h, px_ver_3 h, pm_at_in, h0, e, c1', pm_fq, pm_oe, false_and, ih2, Int32.reduceLE, Int32.reduceLT, pi_lt0, pm_b_eq0, pm_b_eq1, ite_not, pm_k0, pm_k1, pm_b_fit, true_and, and_true, not_true_eq_false, not_false_eq_true, ite_true, ite_false, if_true, if_false]
  rw [pb_42_0]
  have g := gen n.toNatClampNeg 0 none (Int32.le_refl 0) (by simp)
  simp only [pm_vl_n] at g
  exact g.trans (pm_oe_getD (Q := fun v => Q v 0 (pm_Gb L b, I, J)) _)
theorem fs_last {c : Int32 → Prop} [DecidablePred c] {n : Int32} (hn0 : 0 ≤ n) (hn : n < 2147483647) (hu : ∀ a b, 0 ≤ a → a < b → b < n → c a → ¬ c b) : ∀ (m : Nat) (i s : Int32), 0 ≤ i → i.toNatClampNeg + m = n.toNatClampNeg → pm_fo (fun v k => if c k then k else v) m i s = (pm_fq c m i).getD s
  | 0, i, s, h0, hm => rfl
  | m + 1, i, s, h0, hm => by
    have a1 := pi_tni hn0
    have a2 := pi_tni h0
    have e : i < n := by rw [pi_lt]; omega
    have e3 : (i + 1).toNatClampNeg = i.toNatClampNeg + 1 := pi_tn1 h0 (by grind)
    have e4 : 0 ≤ i + 1 := by grind
    unfold pm_fo pm_fq
    rw [fs_last hn0 hn hu m (i + 1) _ e4 (by omega)]
    by_cases hc : c i
    · rw [if_pos hc, if_pos hc]
      cases hf : pm_fq c m (i + 1) with
      | none => rfl
      | some j =>
        obtain ⟨x1, x2, x3⟩ := pm_fq_some hn0 hn m (i + 1) j e4 (by omega) hf
        exact absurd x1 (hu i j h0 (by grind) x3 hc)
    · rw [if_neg hc, if_neg hc]
theorem ver_uniq {t c tr cr ts cs : Nat → Int32} {n today : Int32} {act rules fr till ops sort kinds rank rops rend opis opof : Nat → Int32} (h : pg_ver t c tr cr ts cs n today act rules fr till ops sort kinds rank rops rend opis opof) {a day x y : Int32} (h0 : 0 ≤ x) (h1 : x < y) (h2 : y < n) (hx : act x.toNatClampNeg = a ∧ fr x.toNatClampNeg ≤ day ∧ (¬ 0 ≤ till x.toNatClampNeg ∨ day < till x.toNatClampNeg)) : ¬ (act y.toNatClampNeg = a ∧ fr y.toNatClampNeg ≤ day ∧ (¬ 0 ≤ till y.toNatClampNeg ∨ day < till y.toNatClampNeg)) := by
  intro hy
  have := h.2.2.2.2 x.toNatClampNeg y.toNatClampNeg (pi_tnlt h0 h1) (pi_tnlt (by grind) h2) (by rw [hx.1, hy.1])
  grind
theorem pr_inForce {d L : Nat} {b : Bool} {I : Nat → Nat → Int32} {J : Nat → Nat → Int64} {a day : Int32} {Q : Int32 → Int64 → pm_H → Prop} (h0 : 0 ≤ I 80 5) (h12 : I 80 5 ≤ 12) (hu : ∀ x y : Int32, 0 ≤ x → x < y → y < I 80 5 → (I 112 x.toNatClampNeg = a ∧ I 114 x.toNatClampNeg ≤ day ∧ (¬ 0 ≤ I 115 x.toNatClampNeg ∨ day < I 115 x.toNatClampNeg)) → ¬ (I 112 y.toNatClampNeg = a ∧ I 114 y.toNatClampNeg ≤ day ∧ (¬ 0 ≤ I 115 y.toNatClampNeg ∨ day < I 115 y.toNatClampNeg))) : pm_wc pm_code pm_meta d 231 [.ref 79, .int a, .int day] (pm_Gb L b, I, J) Q ↔ Q (pf_inf (I 112) (I 114) (I 115) (I 80 5) a day) 0 (pm_Gb L b, I, J) := by
  have hl : I 80 5 < 2147483647 := pi_ltb (Int32.lt_of_le_of_lt h12 (by decide : (12 : Int32) < 100)) (by decide)
  have l := fs_last (c := fun k => (I 112 k.toNatClampNeg = a ∧ I 114 k.toNatClampNeg ≤ day ∧ (¬ 0 ≤ I 115 k.toNatClampNeg ∨ day < I 115 k.toNatClampNeg))) h0 hl hu (I 80 5).toNatClampNeg 0 (-3) (Int32.le_refl 0) (by simp)
  have pr : ∀ (m : Nat) (i : Int32) (u : Int32 × Option Int32), (pm_fo (fun (u : Int32 × Option Int32) k => ((if (I 112 k.toNatClampNeg = a ∧ I 114 k.toNatClampNeg ≤ day ∧ (¬ 0 ≤ I 115 k.toNatClampNeg ∨ day < I 115 k.toNatClampNeg)) then k else u.1), some (if (I 112 k.toNatClampNeg = a ∧ I 114 k.toNatClampNeg ≤ day ∧ (¬ 0 ≤ I 115 k.toNatClampNeg ∨ day < I 115 k.toNatClampNeg)) then (1 : Int32) else 0))) m i u).1 = pm_fo (fun v k => if (I 112 k.toNatClampNeg = a ∧ I 114 k.toNatClampNeg ≤ day ∧ (¬ 0 ≤ I 115 k.toNatClampNeg ∨ day < I 115 k.toNatClampNeg)) then k else v) m i u.1 := by
    intro m
    induction m with
    | zero => intro i u; rfl
    | succ m ih => intro i u; unfold pm_fo; rw [ih]
  have key := pm_for (α := Int32 × Option Int32) (A := fun u i => pm_wp pm_code pm_meta d 231 6 ([.ref 79, .int a, .int day, .int u.1, .int i, pm_vl u.2], [], (pm_Gb L b, I, J)) Q) (E := fun u => Q u.1 0 (pm_Gb L b, I, J)) (f := fun (u : Int32 × Option Int32) k => ((if (I 112 k.toNatClampNeg = a ∧ I 114 k.toNatClampNeg ≤ day ∧ (¬ 0 ≤ I 115 k.toNatClampNeg ∨ day < I 115 k.toNatClampNeg)) then k else u.1), some (if (I 112 k.toNatClampNeg = a ∧ I 114 k.toNatClampNeg ≤ day ∧ (¬ 0 ≤ I 115 k.toNatClampNeg ∨ day < I 115 k.toNatClampNeg)) then (1 : Int32) else 0))) h0 hl (fun u i h0 => ?_) (-3, none)
  · rw [pr, l] at key
    rw [pb_231_0]
    simp only [pm_vl_n] at key
    exact key
  · obtain ⟨s, v⟩ := u
    by_cases hi : I 80 5 ≤ i
    · cases v <;> (simp only [pm_vl_n, pm_vl_s]; first | rw [pb_231_6] | rw [pb_231_6b]) <;> simp only [hi, if_true, pb_231_85, pb_231_85b]
    · have h1 := Int32.not_le.mp hi
      have i1 : pm_in i 13 = true := pi_in h0 (by rw [pi_lt] at h1; rw [pi_le] at h12; have e : (12 : Int32).toInt = 12 := rfl; omega)
      by_cases c1 : I 112 i.toNatClampNeg = a
      · have c1' := eq_true c1
        by_cases c2 : I 114 i.toNatClampNeg ≤ day
        · have c2' := Int32.not_lt.mpr c2
          by_cases c3 : 0 ≤ I 115 i.toNatClampNeg
          · by_cases c4 : day < I 115 i.toNatClampNeg
            · have c4' := Int32.not_le.mpr c4
              cases v <;> (simp only [pm_vl_n, pm_vl_s, c1', c2, c2', c3, c4, c4', not_true_eq_false, or_true, false_or, and_self, and_true, true_and, false_and, and_false, ite_true, ite_false, if_true, if_false]; first | rw [pb_231_6] | rw [pb_231_6b]) <;> simp only [hi, i1, pl_1_0, c1', c2, c2', c3, c4, c4', not_true_eq_false, or_true, false_or, pb_231_85, pb_231_17, pb_231_28, pb_231_64, pb_231_39, pb_231_65, pb_231_60, pb_231_49, pb_231_77, pb_231_72, pb_231_78, pb_231_85b, pb_231_17b, pb_231_28b, pb_231_64b, pb_231_39b, pb_231_65b, pb_231_60b, pb_231_49b, and_self, and_true, true_and, false_and, and_false, ite_true, ite_false, if_true, if_false, Int32.reduceLE, Int32.reduceLT, pi_lt0, pm_b_eq0, pm_b_eq1, ite_not, pm_k0, pm_k1, pm_b_fit, true_and, and_true, not_true_eq_false, not_false_eq_true, ite_true, ite_false, if_true, if_false]
            · have c4' := Int32.not_lt.mp c4
              cases v <;> (simp only [pm_vl_n, pm_vl_s, c1', c2, c2', c3, c4, c4', not_true_eq_false, or_self, and_self, and_true, true_and, false_and, and_false, ite_true, ite_false, if_true, if_false]; first | rw [pb_231_6] | rw [pb_231_6b]) <;> simp only [hi, i1, pl_1_0, c1', c2, c2', c3, c4, c4', not_true_eq_false, or_self, pb_231_85, pb_231_17, pb_231_28, pb_231_64, pb_231_39, pb_231_65, pb_231_60, pb_231_49, pb_231_77, pb_231_72, pb_231_78, pb_231_85b, pb_231_17b, pb_231_28b, pb_231_64b, pb_231_39b, pb_231_65b, pb_231_60b, pb_231_49b, and_self, and_true, true_and, false_and, and_false, ite_true, ite_false, if_true, if_false, Int32.reduceLE, Int32.reduceLT, pi_lt0, pm_b_eq0, pm_b_eq1, ite_not, pm_k0, pm_k1, pm_b_fit, true_and, and_true, not_true_eq_false, not_false_eq_true, ite_true, ite_false, if_true, if_false]
          · cases v <;> (simp only [pm_vl_n, pm_vl_s, c1', c2, c2', c3, not_false_eq_true, true_or, and_self, and_true, true_and, false_and, and_false, ite_true, ite_false, if_true, if_false]; first | rw [pb_231_6] | rw [pb_231_6b]) <;> simp only [hi, i1, pl_1_0, c1', c2, c2', c3, not_false_eq_true, true_or, pb_231_85, pb_231_17, pb_231_28, pb_231_64, pb_231_39, pb_231_65, pb_231_60, pb_231_49, pb_231_77, pb_231_72, pb_231_78, pb_231_85b, pb_231_17b, pb_231_28b, pb_231_64b, pb_231_39b, pb_231_65b, pb_231_60b, pb_231_49b, and_self, and_true, true_and, false_and, and_false, ite_true, ite_false, if_true, if_false, Int32.reduceLE, Int32.reduceLT, pi_lt0, pm_b_eq0, pm_b_eq1, ite_not, pm_k0, pm_k1, pm_b_fit, true_and, and_true, not_true_eq_false, not_false_eq_true, ite_true, ite_false, if_true, if_false]
        · have c2' := Int32.not_le.mp c2
          cases v <;> (simp only [pm_vl_n, pm_vl_s, c1', c2, c2', and_self, and_true, true_and, false_and, and_false, ite_true, ite_false, if_true, if_false]; first | rw [pb_231_6] | rw [pb_231_6b]) <;> simp only [hi, i1, pl_1_0, c1', c2, c2', pb_231_85, pb_231_17, pb_231_28, pb_231_64, pb_231_39, pb_231_65, pb_231_60, pb_231_49, pb_231_77, pb_231_72, pb_231_78, pb_231_85b, pb_231_17b, pb_231_28b, pb_231_64b, pb_231_39b, pb_231_65b, pb_231_60b, pb_231_49b, and_self, and_true, true_and, false_and, and_false, ite_true, ite_false, if_true, if_false, Int32.reduceLE, Int32.reduceLT, pi_lt0, pm_b_eq0, pm_b_eq1, ite_not, pm_k0, pm_k1, pm_b_fit, true_and, and_true, not_true_eq_false, not_false_eq_true, ite_true, ite_false, if_true, if_false]
      · have c1' := eq_false c1
        cases v <;> (simp only [pm_vl_n, pm_vl_s, c1', and_self, and_true, true_and, false_and, and_false, ite_true, ite_false, if_true, if_false]; first | rw [pb_231_6] | rw [pb_231_6b]) <;> simp only [hi, i1, pl_1_0, c1', pb_231_85, pb_231_17, pb_231_28, pb_231_64, pb_231_39, pb_231_65, pb_231_60, pb_231_49, pb_231_77, pb_231_72, pb_231_78, pb_231_85b, pb_231_17b, pb_231_28b, pb_231_64b, pb_231_39b, pb_231_65b, pb_231_60b, pb_231_49b, and_self, and_true, true_and, false_and, and_false, ite_true, ite_false, if_true, if_false, Int32.reduceLE, Int32.reduceLT, pi_lt0, pm_b_eq0, pm_b_eq1, ite_not, pm_k0, pm_k1, pm_b_fit, true_and, and_true, not_true_eq_false, not_false_eq_true, ite_true, ite_false, if_true, if_false]
theorem ver_end {t c tr cr ts cs : Nat → Int32} {n today : Int32} {act rules fr till ops sort kinds rank rops rend opis opof : Nat → Int32} (h : pg_ver t c tr cr ts cs n today act rules fr till ops sort kinds rank rops rend opis opof) {V : Nat} {v : Int32} (hV : V < n.toNatClampNeg) (hT : ¬ 0 ≤ till V) (h0 : 0 ≤ v) (hv : v = today) : pg_ver t (pm_w c (5 * V + 3) v) tr cr ts cs n today act rules fr (pm_w till V v) ops sort kinds rank rops rend opis opof := by
  subst hv
  obtain ⟨h1, h2, h3, h4, h5⟩ := h
  refine ⟨h1, h2, h3, fun k hk => ?_, fun k w hkw hw ha => ?_⟩
  · obtain ⟨⟨a1, a2, a3, a4⟩, b1, b2, b3, b4, b5, b6, b7, b8, b9, b10, b11⟩ := h4 k hk
    by_cases hk2 : k = V
    · subst hk2
      simp (disch := omega) only [pm_w_self, pm_w_ne]
      exact ⟨⟨a1, a2, a3, (pm_no_nn h0).symm⟩, b1, b2, b3, b4, b5, b6, by grind, Int32.le_refl _, b9, b10, b11⟩
    · simp (disch := omega) only [pm_w_ne]
      exact ⟨⟨a1, a2, a3, a4⟩, b1, b2, b3, b4, b5, b6, b7, b8, b9, b10, b11⟩
  · have := h5 k w hkw hw ha
    by_cases hk2 : k = V
    · subst hk2; exact absurd this.1 hT
    · rw [pm_w_ne hk2]; exact this

