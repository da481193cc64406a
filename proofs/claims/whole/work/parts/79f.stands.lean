/-! What stands, and the ranks. -/
theorem pi_w100 : ∀ k : Nat, k < 12 → ∀ l : Nat, l < 10 → (100 * Int32.ofNat k + Int32.ofNat l) / 100 = Int32.ofNat k ∧ (100 * Int32.ofNat k + Int32.ofNat l) - Int32.ofNat k * 100 = Int32.ofNat l ∧ ¬ (100 * Int32.ofNat k + Int32.ofNat l) = -3 := by decide
theorem pi_wi {w i r : Int32} (w0 : 0 ≤ w) (w1 : w < 12) (i0 : 0 ≤ i) (i1 : i < r) (r10 : r ≤ 10) : (100 * w + i) / 100 = w ∧ (100 * w + i) - w * 100 = i ∧ ¬ (100 * w + i) = -3 := by
  have e10 : (10 : Int32).toInt = 10 := rfl
  have e12 : (12 : Int32).toInt = 12 := rfl
  have a1 := pi_tni w0
  have a2 := pi_tni i0
  have a3 := pi_lt.mp w1
  have a4 := pi_lt.mp i1
  have a5 := pi_le.mp r10
  have z := pi_w100 w.toNatClampNeg (by omega) i.toNatClampNeg (by omega)
  rw [pi_ofNat w0, pi_ofNat i0] at z
  exact z
theorem tl_some {A : Int32 → Int32 → Bool} {act rules fr till sort kinds rops rend opis opof : Nat → Int32} {n day kd rk : Int32} (hn0 : 0 ≤ n) (hn : n < 2147483647) (hr : ∀ x : Int32, 0 ≤ x → x < n → 0 ≤ rules x.toNatClampNeg ∧ rules x.toNatClampNeg ≤ 10) :
    ∀ (a : Nat) (w i : Int32), pf_tl A act rules fr till sort kinds rops rend opis opof n day kd rk a = some (w, i) → (0 ≤ w ∧ w < n) ∧ (0 ≤ i ∧ i < rules w.toNatClampNeg) ∧ pf_fit A sort kinds rops rend opis opof kd rk w.toNatClampNeg i = true
  | 0, w, i, h => by cases h
  | a + 1, w, i, h => by
    unfold pf_tl at h
    cases e : pf_last (fun i => pf_fit A sort kinds rops rend opis opof kd rk (pf_inf act fr till n (Int32.ofNat a) day).toNatClampNeg i = true) (pf_rls rules n (pf_inf act fr till n (Int32.ofNat a) day)) with
    | none => rw [e] at h; exact tl_some hn0 hn hr a w i h
    | some j =>
      rw [e] at h
      cases h
      have e10 : (10 : Int32).toInt = 10 := rfl
      by_cases hin : 0 ≤ pf_inf act fr till n (Int32.ofNat a) day ∧ pf_inf act fr till n (Int32.ofNat a) day < n
      · obtain ⟨r0, r1⟩ := hr _ hin.1 hin.2
        have t0 := pi_tni r0
        have r1 := pi_le.mp r1
        have er : pf_rls rules n (pf_inf act fr till n (Int32.ofNat a) day) = (rules (pf_inf act fr till n (Int32.ofNat a) day).toNatClampNeg).toNatClampNeg := if_pos hin
        obtain ⟨c1, c2, c3⟩ := last_some _ _ (by rw [er]; omega) e
        have t1 := pi_tni c2
        rw [er] at c3
        exact ⟨hin, ⟨c2, by rw [pi_lt]; omega⟩, c1⟩
      · have er : pf_rls rules n (pf_inf act fr till n (Int32.ofNat a) day) = 0 := if_neg hin
        rw [er] at e
        cases e
theorem ver_rl {t c tr cr ts cs : Nat → Int32} {n today : Int32} {act rules fr till ops sort kinds rank rops rend opis opof : Nat → Int32} (h : pg_ver t c tr cr ts cs n today act rules fr till ops sort kinds rank rops rend opis opof) (x : Int32) (h0 : 0 ≤ x) (h1 : x < n) : 0 ≤ rules x.toNatClampNeg ∧ rules x.toNatClampNeg ≤ 10 := ⟨(ver_at h h0 h1).1, (ver_at h h0 h1).2.1⟩
theorem ver_l {t c tr cr ts cs : Nat → Int32} {n today : Int32} {act rules fr till ops sort kinds rank rops rend opis opof : Nat → Int32} (h : pg_ver t c tr cr ts cs n today act rules fr till ops sort kinds rank rops rend opis opof) : n < 2147483647 := pi_ltb (Int32.lt_of_le_of_lt (ver_n h).2 (by decide : (12 : Int32) < 100)) (by decide)
theorem px_ruleOf_0 {d L : Nat} {b : Bool} {I : Nat → Nat → Int32} {J : Nat → Nat → Int64} {w i : Int32} {n today : Int32} {act rules fr till ops sort kinds rank rops rend opis opof : Nat → Int32} {Q : Int32 → Int64 → pm_H → Prop} (h : pg_ver (I 20) (I 21) (I 22) (I 23) (I 24) (I 25) n today act rules fr till ops sort kinds rank rops rend opis opof) (w0 : 0 ≤ w) (w1 : w < n) (i0 : 0 ≤ i) (i1 : i < rules w.toNatClampNeg) :
    pm_wc pm_code pm_meta (d + 1) 48 [.ref 36, .int (100 * w + i), .int 0] (pm_Gb L b, I, J) Q ↔ Q (sort (10 * w.toNatClampNeg + i.toNatClampNeg)) 0 (pm_Gb L b, I, J) := by
  obtain ⟨v1, v2, v3, v4, v5, v6, v7⟩ := ver_at h w0 w1
  obtain ⟨z1, z2, z3⟩ := pi_wi w0 (Int32.lt_of_lt_of_le w1 (ver_n h).2) i0 i1 v2
  have il : i.toNatClampNeg < (rules w.toNatClampNeg).toNatClampNeg := pi_tnlt i0 i1
  obtain ⟨f1, f2, f3⟩ := pi_fi (t := I 22) (r := rules w.toNatClampNeg) v3 i0 il v4 v5 v6
  obtain ⟨⟨r0, r1, r2⟩, _⟩ := ver_rule h w0 w1 i0 i1
  rw [pb_48_0, z1, px_ver_4 h w0 w1, pb_48_22, z1, z2, pt_get_22_0 v7, pb_48_31, if_pos ⟨f2, f3⟩, f1, r0]
theorem px_ruleOf_2 {d L : Nat} {b : Bool} {I : Nat → Nat → Int32} {J : Nat → Nat → Int64} {w i : Int32} {n today : Int32} {act rules fr till ops sort kinds rank rops rend opis opof : Nat → Int32} {Q : Int32 → Int64 → pm_H → Prop} (h : pg_ver (I 20) (I 21) (I 22) (I 23) (I 24) (I 25) n today act rules fr till ops sort kinds rank rops rend opis opof) (w0 : 0 ≤ w) (w1 : w < n) (i0 : 0 ≤ i) (i1 : i < rules w.toNatClampNeg) :
    pm_wc pm_code pm_meta (d + 1) 48 [.ref 36, .int (100 * w + i), .int 2] (pm_Gb L b, I, J) Q ↔ Q ((if sort (10 * w.toNatClampNeg + i.toNatClampNeg) = 2 then rank (10 * w.toNatClampNeg + i.toNatClampNeg) else -3)) 0 (pm_Gb L b, I, J) := by
  obtain ⟨v1, v2, v3, v4, v5, v6, v7⟩ := ver_at h w0 w1
  obtain ⟨z1, z2, z3⟩ := pi_wi w0 (Int32.lt_of_lt_of_le w1 (ver_n h).2) i0 i1 v2
  have il : i.toNatClampNeg < (rules w.toNatClampNeg).toNatClampNeg := pi_tnlt i0 i1
  obtain ⟨f1, f2, f3⟩ := pi_fi (t := I 22) (r := rules w.toNatClampNeg) v3 i0 il v4 v5 v6
  obtain ⟨⟨r0, r1, r2⟩, _⟩ := ver_rule h w0 w1 i0 i1
  rw [pb_48_0, z1, px_ver_4 h w0 w1, pb_48_22, z1, z2, pt_get_22_2 v7, pb_48_31, if_pos ⟨f2, f3⟩, f1, r2]
theorem px_isStanding {d L : Nat} {b : Bool} {I : Nat → Nat → Int32} {J : Nat → Nat → Int64} {q : Int32} {nn nP nH nT : Int32} {kind house person amount frr to is leans proved seals told wit witOf : Nat → Int32} {todayh : Int32} {place order coin fear fell stripped due roll rollday had : Nat → Int32} {born died : Nat → Int32} {n today : Int32} {act rules fr till ops sort kinds rank rops rend opis opof : Nat → Int32} {Q : Int32 → Int64 → pm_H → Prop}
    (h : pg_ver (I 20) (I 21) (I 22) (I 23) (I 24) (I 25) n today act rules fr till ops sort kinds rank rops rend opis opof)
    (hr : pg_rig (I 18) (I 19) nn nP nH nT kind house person amount frr to is leans proved seals told wit witOf)
    (hh : pg_hou (I 14) (I 15) nH todayh place order coin fear fell stripped due roll rollday had)
    (hp : pg_per (I 12) (I 13) nP born died) (hc : ∀ j, I 2 j = pm_a2.getD j 0) (q0 : 0 ≤ q) (q1 : q < nn) (hf : 0 ≤ fell (house q.toNatClampNeg).toNatClampNeg) :
    pm_wc pm_code pm_meta (d + 5) 49 [.ref 36, .int q] (pm_Gb L b, I, J) Q ↔ Q (pm_b (pf_rf sort rank 0 (pf_tl (pf_ans order house amount kind is fell person born died q) act rules fr till sort kinds rops rend opis opof n (fell (house q.toNatClampNeg).toNatClampNeg) (kind q.toNatClampNeg) 0 4) = 0)) 0 (pm_Gb L b, I, J) := by
  rw [pb_49_0, px_tells h hr hh hp hc q0 q1 hf (Or.inl rfl)]
  generalize hT : pf_tl (pf_ans order house amount kind is fell person born died q) act rules fr till sort kinds rops rend opis opof n (fell (house q.toNatClampNeg).toNatClampNeg) (kind q.toNatClampNeg) 0 4 = t
  cases t with
  | none => simp only [pf_why, pf_rf, pb_49_6, if_true, pb_49_26, pb_49_27, pm_b, show ¬ (-1 : Int32) = 0 from by decide, if_false, pm_k0, true_and]
  | some wi =>
    obtain ⟨w, i⟩ := wi
    obtain ⟨⟨w0, w1⟩, ⟨i0, i1⟩, hfit⟩ := tl_some (ver_n h).1 (ver_l h) (ver_rl h) 4 w i hT
    obtain ⟨z1, z2, z3⟩ := pi_wi w0 (Int32.lt_of_lt_of_le w1 (ver_n h).2) i0 i1 (ver_rl h w w0 w1).2
    simp only [pf_why, pf_rf, pb_49_6, z3, if_false, if_true, pb_49_13, px_ruleOf_0 h w0 w1 i0 i1, pb_49_19]
    by_cases hs : sort (10 * w.toNatClampNeg + i.toNatClampNeg) = 0
    · simp only [eq_true hs, if_true, pb_49_22, pb_49_27, pm_b_t, pm_k1, true_and]
    · simp only [eq_false hs, if_false, pb_49_26, pb_49_27, pm_b, pm_k0, true_and]
/-- a rank, and 9 where none is told -/
def pf_rnk (x : Int32) : Int32 := if 0 ≤ x then x else 9
theorem px_rankOf {d L : Nat} {b : Bool} {I : Nat → Nat → Int32} {J : Nat → Nat → Int64} {q : Int32} {nn nP nH nT : Int32} {kind house person amount frr to is leans proved seals told wit witOf : Nat → Int32} {todayh : Int32} {place order coin fear fell stripped due roll rollday had : Nat → Int32} {born died : Nat → Int32} {n today : Int32} {act rules fr till ops sort kinds rank rops rend opis opof : Nat → Int32} {Q : Int32 → Int64 → pm_H → Prop}
    (h : pg_ver (I 20) (I 21) (I 22) (I 23) (I 24) (I 25) n today act rules fr till ops sort kinds rank rops rend opis opof)
    (hr : pg_rig (I 18) (I 19) nn nP nH nT kind house person amount frr to is leans proved seals told wit witOf)
    (hh : pg_hou (I 14) (I 15) nH todayh place order coin fear fell stripped due roll rollday had)
    (hp : pg_per (I 12) (I 13) nP born died) (hc : ∀ j, I 2 j = pm_a2.getD j 0) (q0 : 0 ≤ q) (q1 : q < nn) (hf : 0 ≤ fell (house q.toNatClampNeg).toNatClampNeg) :
    pm_wc pm_code pm_meta (d + 5) 50 [.ref 36, .int q] (pm_Gb L b, I, J) Q ↔ Q (pf_rnk (pf_rf sort rank 1 (pf_tl (pf_ans order house amount kind is fell person born died q) act rules fr till sort kinds rops rend opis opof n (fell (house q.toNatClampNeg).toNatClampNeg) (kind q.toNatClampNeg) 1 4))) 0 (pm_Gb L b, I, J) := by
  rw [pb_50_0, px_tells h hr hh hp hc q0 q1 hf (Or.inr rfl)]
  generalize hT : pf_tl (pf_ans order house amount kind is fell person born died q) act rules fr till sort kinds rops rend opis opof n (fell (house q.toNatClampNeg).toNatClampNeg) (kind q.toNatClampNeg) 1 4 = t
  cases t with
  | none => simp only [pf_why, pf_rf, pf_rnk, pb_50_6, if_true, pb_50_13, pb_50_24, show ¬ (0 : Int32) ≤ -1 from by decide, if_false]
  | some wi =>
    obtain ⟨w, i⟩ := wi
    obtain ⟨⟨w0, w1⟩, ⟨i0, i1⟩, hfit⟩ := tl_some (ver_n h).1 (ver_l h) (ver_rl h) 4 w i hT
    obtain ⟨z1, z2, z3⟩ := pi_wi w0 (Int32.lt_of_lt_of_le w1 (ver_n h).2) i0 i1 (ver_rl h w w0 w1).2
    have h2 := (of_decide_eq_true hfit).1
    have hs : sort (10 * w.toNatClampNeg + i.toNatClampNeg) = 2 := by
      apply Classical.byContradiction
      intro g
      rw [if_neg g] at h2
      exact absurd h2 (by decide)
    have hk := ((ver_rule h w0 w1 i0 i1).2.2.2.1 hs).1
    simp only [pf_why, pf_rf, pf_rnk, pb_50_6, z3, if_false, pb_50_18, px_ruleOf_2 h w0 w1 i0 i1, pb_50_24, eq_true hs, if_true, show ¬ (1 : Int32) = 0 from by decide, hk]

