/-! What the acts tell: the class. -/
def pf_fit (A : Int32 → Int32 → Bool) (sort kinds rops rend opis opof : Nat → Int32) (kd rk : Int32) (w : Nat) (i : Int32) : Bool :=
  decide (((if sort (10 * w + i.toNatClampNeg) = 2 then (1 : Int32) else 0) = rk) ∧ ¬ pf_con (kinds (10 * w + i.toNatClampNeg)) kd = 0 ∧ pf_hld A opis opof (80 * w + (rops (10 * w + i.toNatClampNeg)).toNatClampNeg) ((rend (10 * w + i.toNatClampNeg)).toNatClampNeg - (rops (10 * w + i.toNatClampNeg)).toNatClampNeg) % 2 = 1)
def pf_rls (rules : Nat → Int32) (n w : Int32) : Nat := if 0 ≤ w ∧ w < n then (rules w.toNatClampNeg).toNatClampNeg else 0
/-- what is told by the acts below a -/
def pf_tl (A : Int32 → Int32 → Bool) (act rules fr till sort kinds rops rend opis opof : Nat → Int32) (n day kd rk : Int32) : Nat → Option (Int32 × Int32)
  | 0 => none
  | a + 1 => match pf_last (fun i => pf_fit A sort kinds rops rend opis opof kd rk (pf_inf act fr till n (Int32.ofNat a) day).toNatClampNeg i = true) (pf_rls rules n (pf_inf act fr till n (Int32.ofNat a) day)) with
    | some i => some (pf_inf act fr till n (Int32.ofNat a) day, i)
    | none => pf_tl A act rules fr till sort kinds rops rend opis opof n day kd rk a
def pf_why : Option (Int32 × Int32) → Int32
  | none => -3
  | some (w, i) => 100 * w + i
theorem inf_rng {act fr till : Nat → Int32} {n a day : Int32} (hn0 : 0 ≤ n) (hn : n < 2147483647) : pf_inf act fr till n a day = -3 ∨ (0 ≤ pf_inf act fr till n a day ∧ pf_inf act fr till n a day < n) := by
  unfold pf_inf
  cases he : pm_fq (fun k : Int32 => act k.toNatClampNeg = a ∧ fr k.toNatClampNeg ≤ day ∧ (¬ 0 ≤ till k.toNatClampNeg ∨ day < till k.toNatClampNeg)) n.toNatClampNeg 0 with
  | none => exact Or.inl rfl
  | some j =>
    obtain ⟨_, x2, x3⟩ := pm_fq_some hn0 hn n.toNatClampNeg 0 j (Int32.le_refl 0) (by simp) he
    exact Or.inr ⟨x2, x3⟩
theorem pi_fi {F i r : Int32} {t : Nat → Int32} (hF : 0 ≤ F) (hi : 0 ≤ i) (hir : i.toNatClampNeg < r.toNatClampNeg) (hft : F.toNatClampNeg + r.toNatClampNeg ≤ (t 3).toNatClampNeg) (h0 : 0 ≤ t 3) (h120 : t 3 ≤ 120) : (F + i).toNatClampNeg = F.toNatClampNeg + i.toNatClampNeg ∧ 0 ≤ F + i ∧ F + i < t 3 := by
  have e120 : (120 : Int32).toInt = 120 := rfl
  have c1 := pi_tni hF
  have c2 := pi_tni hi
  have c3 := pi_tni h0
  rw [pi_le] at h120
  have s : (F + i).toInt = F.toInt + i.toInt := pi_add (by omega) (by omega)
  exact ⟨by rw [pi_tn, s]; omega, by rw [pi_le, pi_0, s]; omega, by rw [pi_lt, s]; omega⟩
theorem px_tells {d L : Nat} {b : Bool} {I : Nat → Nat → Int32} {J : Nat → Nat → Int64} {q rk : Int32} {nn nP nH nT : Int32} {kind house person amount frr to is leans proved seals told wit witOf : Nat → Int32} {todayh : Int32} {place order coin fear fell stripped due roll rollday had : Nat → Int32} {born died : Nat → Int32} {n today : Int32} {act rules fr till ops sort kinds rank rops rend opis opof : Nat → Int32} {Q : Int32 → Int64 → pm_H → Prop}
    (h : pg_ver (I 20) (I 21) (I 22) (I 23) (I 24) (I 25) n today act rules fr till ops sort kinds rank rops rend opis opof)
    (hr : pg_rig (I 18) (I 19) nn nP nH nT kind house person amount frr to is leans proved seals told wit witOf)
    (hh : pg_hou (I 14) (I 15) nH todayh place order coin fear fell stripped due roll rollday had)
    (hp : pg_per (I 12) (I 13) nP born died) (hc : ∀ j, I 2 j = pm_a2.getD j 0) (q0 : 0 ≤ q) (q1 : q < nn) (hf : 0 ≤ fell (house q.toNatClampNeg).toNatClampNeg) (hrk : rk = 0 ∨ rk = 1) :
    pm_wc pm_code pm_meta (d + 4) 44 [.ref 36, .int q, .int rk] (pm_Gb L b, I, J) Q ↔ Q (pf_why (pf_tl (pf_ans order house amount kind is fell person born died q) act rules fr till sort kinds rops rend opis opof n (fell (house q.toNatClampNeg).toNatClampNeg) (kind q.toNatClampNeg) rk 4)) 0 (pm_Gb L b, I, J) := by
  obtain ⟨_, _, g⟩ := hr.2 _ (pi_tnlt q0 q1)
  have k0 := g.1
  have k1 := g.2.1
  have hh0 := g.2.2.1
  have hh1 := g.2.2.2.1
  have hn := ver_n h
  have hl : n < 2147483647 := pi_ltb (Int32.lt_of_le_of_lt hn.2 (by decide : (12 : Int32) < 100)) (by decide)
  generalize hday : fell (house q.toNatClampNeg).toNatClampNeg = day at *
  have T : ∀ (a : Nat), a ≤ 4 → ∀ (D : Option (Int32 × Int32 × Int32)) (v : Option Int32), (D = none → v = none) → (pm_wp pm_code pm_meta (d + 4) 44 41 ([.ref 36, .int q, .int rk, .int day, .int (kind q.toNatClampNeg), .int (Int32.ofNat a + (-1)), pm_vl (D.map (·.1)), pm_vl (D.map (·.2.1)), pm_vl (D.map (·.2.2)), pm_vl v], [], (pm_Gb L b, I, J)) Q ↔ Q (pf_why (pf_tl (pf_ans order house amount kind is fell person born died q) act rules fr till sort kinds rops rend opis opof n day (kind q.toNatClampNeg) rk a)) 0 (pm_Gb L b, I, J)) := by
    intro a
    induction a with
    | zero =>
      intro _ D v hDv
      have e : Int32.ofNat 0 + (-1) < 0 := by decide
      cases D with
      | none => rw [hDv rfl]; simp only [Option.map, pm_vl_n]; rw [pb_44_41]; simp only [e, if_true, pb_44_177, pf_tl, pf_why]
      | some D =>
        cases v with
        | none => simp only [Option.map, pm_vl_n, pm_vl_s]; rw [pb_44_41b]; simp only [e, if_true, pb_44_177b, pf_tl, pf_why]
        | some v => simp only [Option.map, pm_vl_n, pm_vl_s]; rw [pb_44_41c]; simp only [e, if_true, pb_44_177c, pf_tl, pf_why]
    | succ a ih =>
      intro ha D v hDv
      have ea : Int32.ofNat (a + 1) + (-1) = Int32.ofNat a := by rw [Int32.ofNat_add, show Int32.ofNat 1 = (1 : Int32) from rfl]; grind
      have ta : (Int32.ofNat a).toInt = a := Int32.toInt_ofNat_of_lt (by omega)
      have e : ¬ Int32.ofNat a < 0 := by rw [pi_lt, pi_0, ta]; omega
      rw [ea]
      generalize hw : pf_inf act fr till n (Int32.ofNat a) day = w
      have hwr : w = -3 ∨ (0 ≤ w ∧ w < n) := by rw [← hw]; exact inf_rng hn.1 hl
      -- the rules of the version, from the last one on
      have inner : ∀ (m : Nat) (F : Int32) (v : Option Int32), m ≤ pf_rls rules n w → (0 ≤ w ∧ w < n → F = I 21 (5 * w.toNatClampNeg + 4)) →
          (pm_wp pm_code pm_meta (d + 4) 44 87 ([.ref 36, .int q, .int rk, .int day, .int (kind q.toNatClampNeg), .int (Int32.ofNat a), .int w, .int F, .int (Int32.ofNat m + (-1)), pm_vl v], [], (pm_Gb L b, I, J)) Q ↔
            pm_oe (Q (pf_why (pf_tl (pf_ans order house amount kind is fell person born died q) act rules fr till sort kinds rops rend opis opof n day (kind q.toNatClampNeg) rk a)) 0 (pm_Gb L b, I, J)) (fun i => Q (100 * w + i) 0 (pm_Gb L b, I, J)) (pf_last (fun i => pf_fit (pf_ans order house amount kind is fell person born died q) sort kinds rops rend opis opof (kind q.toNatClampNeg) rk w.toNatClampNeg i = true) m)) := by
        intro m
        induction m with
        | zero =>
          intro F v _ _
          have e1 : Int32.ofNat 0 + (-1) < 0 := by decide
          have t := ih (by omega) (some (w, F, Int32.ofNat 0 + (-1))) v (fun g => by cases g)
          cases v with
          | none => simp only [Option.map, pm_vl_n, pm_vl_s] at t ⊢; rw [pb_44_87]; simp only [e1, if_true, pb_44_171]; exact t
          | some v => simp only [Option.map, pm_vl_n, pm_vl_s] at t ⊢; rw [pb_44_87b]; simp only [e1, if_true, pb_44_171b]; exact t
        | succ m ihm =>
          intro F v hm hF
          have hin : 0 ≤ w ∧ w < n := by
            apply Classical.byContradiction
            intro hc
            unfold pf_rls at hm
            rw [if_neg hc] at hm
            omega
          have hFe := hF hin
          obtain ⟨w0, w1⟩ := hin
          obtain ⟨v1, v2, v3, v4, v5, v6, v7⟩ := ver_at h w0 w1
          have hml : m < (rules w.toNatClampNeg).toNatClampNeg := by unfold pf_rls at hm; rw [if_pos ⟨w0, w1⟩] at hm; omega
          have tr := pi_tni v1
          have v2' := pi_le.mp v2
          have e10 : (10 : Int32).toInt = 10 := rfl
          have em : Int32.ofNat (m + 1) + (-1) = Int32.ofNat m := by rw [Int32.ofNat_add, show Int32.ofNat 1 = (1 : Int32) from rfl]; grind
          have tm : (Int32.ofNat m).toInt = m := Int32.toInt_ofNat_of_lt (by omega)
          have m0 : 0 ≤ Int32.ofNat m := by rw [pi_le, pi_0, tm]; omega
          have tmn : (Int32.ofNat m).toNatClampNeg = m := by rw [pi_tn, tm]; omega
          have mneg : ¬ Int32.ofNat m < 0 := Int32.not_lt.mpr m0
          have mlt : Int32.ofNat m < rules w.toNatClampNeg := by rw [pi_lt, tm]; omega
          obtain ⟨f1, f2, f3⟩ := pi_fi (t := I 22) (r := rules w.toNatClampNeg) v3 m0 (by rw [tmn]; omega) v4 v5 v6
          have hru := ver_rule h w0 w1 m0 mlt
          rw [← f1, ← hFe] at hru
          rw [← hFe] at f2 f3
          have hru' := hru
          obtain ⟨⟨r0, r1, r2⟩, _, _, _, r5, r6, _⟩ := hru'
          have ihs := fun z => ihm F (some z) (by omega) hF
          simp only [pm_vl_s] at ihs
          rw [em, last_succ]
          have st : pm_wp pm_code pm_meta (d + 4) 44 87 ([.ref 36, .int q, .int rk, .int day, .int (kind q.toNatClampNeg), .int (Int32.ofNat a), .int w, .int F, .int (Int32.ofNat m), pm_vl v], [], (pm_Gb L b, I, J)) Q ↔ pm_wp pm_code pm_meta (d + 4) 44 117 ([.ref 36, .int q, .int rk, .int day, .int (kind q.toNatClampNeg), .int (Int32.ofNat a), .int w, .int F, .int (Int32.ofNat m), pm_vl v], [.int (if sort (10 * w.toNatClampNeg + (Int32.ofNat m).toNatClampNeg) = 2 then 1 else 0)], (pm_Gb L b, I, J)) Q := by
            by_cases s2 : sort (10 * w.toNatClampNeg + (Int32.ofNat m).toNatClampNeg) = 2
            · cases v <;> (simp only [pm_vl_n, pm_vl_s]; first | rw [pb_44_87] | rw [pb_44_87b]) <;> simp only [mneg, if_false, pb_44_92, pb_44_92b, pt_get_22_0 v7, f2, f3, and_self, if_true, r0, pb_44_108, pb_44_108b, eq_true s2, pb_44_112, pb_44_112b]
            · cases v <;> (simp only [pm_vl_n, pm_vl_s]; first | rw [pb_44_87] | rw [pb_44_87b]) <;> simp only [mneg, if_false, pb_44_92, pb_44_92b, pt_get_22_0 v7, f2, f3, and_self, if_true, r0, pb_44_108, pb_44_108b, eq_false s2, pb_44_116, pb_44_116b]
          refine st.trans ?_
          unfold pf_fit
          by_cases c1 : (if sort (10 * w.toNatClampNeg + (Int32.ofNat m).toNatClampNeg) = 2 then (1 : Int32) else 0) = rk
          · by_cases c2 : pf_con (kinds (10 * w.toNatClampNeg + (Int32.ofNat m).toNatClampNeg)) (kind q.toNatClampNeg) = 0
            · cases v <;> simp only [pm_vl_n, pm_vl_s, pb_44_117, pb_44_117b, c1, if_true, pb_44_125, px_isOfKind hc v7 f2 f3 r1 r5 r6 k0 k1, pb_44_136, eq_true c2, pb_44_139, pb_44_165, ihs, not_true_eq_false, false_and, and_false, decide_false, Bool.false_eq_true, if_false] <;> exact Iff.rfl
            · have ho := fun Q => px_holds (d := d) (L := L) (b := b) (J := J) (Q := Q) (q := q) hru hr hh hp v7 h.1.2.2.2 q0 q1 f2 f3
              rw [hday] at ho
              by_cases c3 : pf_hld (pf_ans order house amount kind is fell person born died q) opis opof (80 * w.toNatClampNeg + (rops (10 * w.toNatClampNeg + (Int32.ofNat m).toNatClampNeg)).toNatClampNeg) ((rend (10 * w.toNatClampNeg + (Int32.ofNat m).toNatClampNeg)).toNatClampNeg - (rops (10 * w.toNatClampNeg + (Int32.ofNat m).toNatClampNeg)).toNatClampNeg) % 2 = 1
              · cases v <;> simp only [pm_vl_n, pm_vl_s, pb_44_117, pb_44_117b, c1, if_true, pb_44_125, px_isOfKind hc v7 f2 f3 r1 r5 r6 k0 k1, pb_44_136, eq_false c2, pb_44_142, ho, pb_44_153, pm_b_eq0, eq_true c3, not_true_eq_false, if_false, pb_44_156, not_false_eq_true, true_and, decide_true, pm_oe]
              · cases v <;> simp only [pm_vl_n, pm_vl_s, pb_44_117, pb_44_117b, c1, if_true, pb_44_125, px_isOfKind hc v7 f2 f3 r1 r5 r6 k0 k1, pb_44_136, eq_false c2, pb_44_142, ho, pb_44_153, pm_b_eq0, eq_false c3, not_false_eq_true, if_true, if_false, pb_44_165, ihs, true_and, and_false, decide_false, Bool.false_eq_true] <;> exact Iff.rfl
          · cases v <;> simp only [pm_vl_n, pm_vl_s, pb_44_117, pb_44_117b, eq_false c1, if_false, pb_44_165, ihs, false_and, decide_false, Bool.false_eq_true] <;> exact Iff.rfl
      have fin : ∀ (v : Option Int32), (pm_wp pm_code pm_meta (d + 4) 44 87 ([.ref 36, .int q, .int rk, .int day, .int (kind q.toNatClampNeg), .int (Int32.ofNat a), .int w, .int (if 0 ≤ w ∧ w < n then I 21 (5 * w.toNatClampNeg + 4) else 0), .int ((if 0 ≤ w ∧ w < n then rules w.toNatClampNeg else 0) - 1), pm_vl v], [], (pm_Gb L b, I, J)) Q ↔ Q (pf_why (pf_tl (pf_ans order house amount kind is fell person born died q) act rules fr till sort kinds rops rend opis opof n day (kind q.toNatClampNeg) rk (a + 1))) 0 (pm_Gb L b, I, J)) := by
        intro v
        have em : (if 0 ≤ w ∧ w < n then rules w.toNatClampNeg else 0) - 1 = Int32.ofNat (pf_rls rules n w) + (-1) := by
          unfold pf_rls
          by_cases hin : 0 ≤ w ∧ w < n
          · rw [if_pos hin, if_pos hin, pi_ofNat (ver_at h hin.1 hin.2).1]; grind
          · rw [if_neg hin, if_neg hin]; decide
        rw [em]
        refine (inner (pf_rls rules n w) _ v (Nat.le_refl _) (fun hin => if_pos hin)).trans ?_
        simp only [pf_tl, hw]
        cases pf_last (fun i => pf_fit (pf_ans order house amount kind is fell person born died q) sort kinds rops rend opis opof (kind q.toNatClampNeg) rk w.toNatClampNeg i = true) (pf_rls rules n w) <;> exact Iff.rfl
      have g4 : ∀ Q', pm_wc pm_code pm_meta (d + 3) 83 [.ref 20, .int w, .int 4] (pm_Gb L b, I, J) Q' ↔ Q' (if 0 ≤ w ∧ w < n then I 21 (5 * w.toNatClampNeg + 4) else 0) 0 (pm_Gb L b, I, J) := fun Q' => by rw [pt_get_20_4 h.1.1, h.1.2.1]
      have g1 : ∀ Q', pm_wc pm_code pm_meta (d + 3) 83 [.ref 20, .int w, .int 1] (pm_Gb L b, I, J) Q' ↔ Q' (if 0 ≤ w ∧ w < n then rules w.toNatClampNeg else 0) 0 (pm_Gb L b, I, J) := fun Q' => px_ver_1 h
      have gi : ∀ Q', pm_wc pm_code pm_meta (d + 3) 42 [.ref 36, .int (Int32.ofNat a), .int day] (pm_Gb L b, I, J) Q' ↔ Q' w 0 (pm_Gb L b, I, J) := fun Q' => by rw [← hw]; exact px_inForce (d := d + 2) h
      cases D with
      | none => rw [hDv rfl]; simp only [Option.map, pm_vl_n]; rw [pb_44_41]; simp only [e, if_false, pb_44_46, gi, pb_44_53, g4, pb_44_68, g1, pb_44_83]; exact fin none
      | some D =>
        cases v with
        | none => simp only [Option.map, pm_vl_n, pm_vl_s]; rw [pb_44_41b]; simp only [e, if_false, pb_44_46b, gi, pb_44_53b, g4, pb_44_68b, g1, pb_44_83b]; exact fin none
        | some v => simp only [Option.map, pm_vl_n, pm_vl_s]; rw [pb_44_41c]; simp only [e, if_false, pb_44_46c, gi, pb_44_53c, g4, pb_44_68c, g1, pb_44_83c]; exact fin (some v)
  have t4 := T 4 (Nat.le_refl 4) none none (fun _ => rfl)
  simp only [Option.map, pm_vl_n, show Int32.ofNat 4 + (-1) = (3 : Int32) from by decide] at t4
  rw [pb_44_0, px_rig_1 hr, pm_at_in q0 q1, pb_44_19, px_hou_4 hh, pm_at_in hh0 hh1, hday, pm_no_pos hf, pb_44_23, px_rig_0 hr, pm_at_in q0 q1, pb_44_36]
  exact t4

