/-! From which day the rights are gone: the class. -/
theorem rig_col8 {t c : Nat → Int32} {nn nP nH nT : Int32} {kind house person amount frr to is leans proved seals told wit witOf : Nat → Int32} (h : pg_rig t c nn nP nH nT kind house person amount frr to is leans proved seals told wit witOf) {q : Nat} {v : Int32} : pg_rig t (pm_w c (16 * q + 8) v) nn nP nH nT kind house person amount frr to is leans proved seals told wit witOf := by
  refine ⟨h.1, fun j hj => ?_⟩
  obtain ⟨⟨a0, a1, a2, a3, a4, a5, a6, a7, a9, a10, a11, a12⟩, w, g⟩ := h.2 j hj
  have e : ∀ k : Nat, k < 16 → ¬ k = 8 → pm_w c (16 * q + 8) v (16 * j + k) = c (16 * j + k) := fun k h1 h2 => pm_w_ne (by omega)
  refine ⟨⟨(e 0 (by decide) (by decide)).trans a0, (e 1 (by decide) (by decide)).trans a1, (e 2 (by decide) (by decide)).trans a2, (e 3 (by decide) (by decide)).trans a3, (e 4 (by decide) (by decide)).trans a4, (e 5 (by decide) (by decide)).trans a5, (e 6 (by decide) (by decide)).trans a6, (e 7 (by decide) (by decide)).trans a7, (e 9 (by decide) (by decide)).trans a9, (e 10 (by decide) (by decide)).trans a10, (e 11 (by decide) (by decide)).trans a11, (e 12 (by decide) (by decide)).trans a12⟩, fun i hi => ?_, g⟩
  have w0 := pi_tni g.2.2.2.2.2.2.2.2.2.2.2.2.2.2.2.2.2.2.1
  have w1 := pi_le.mp g.2.2.2.2.2.2.2.2.2.2.2.2.2.2.2.2.2.2.2.1
  have e3 : (3 : Int32).toInt = 3 := rfl
  rw [e (13 + i) (by omega) (by omega)]
  exact w i hi
/-- the day from which a right is gone for its own sake -/
def pf_own (f st : Int32) (ds : Int32) : Int32 := pf_e (if 0 ≤ f ∧ ¬ st = 0 then f else -1) ds
def pf_dis (kind is proved : Nat → Int32) (n r : Int32) : Int32 := pm_fo (fun (s : Int32) (c : Int32) => if kind c.toNatClampNeg = 7 ∧ is c.toNatClampNeg = r then pf_e s (proved c.toNatClampNeg) else s) (n.toNatClampNeg - (r.toNatClampNeg + 1)) (r + 1) (-1)
theorem px_gone1 {d L : Nat} {b : Bool} {I : Nat → Nat → Int32} {J : Nat → Nat → Int64} {q many : Int32} {g : Nat → Int32} {D : Option (Int32 × Int32 × Int32)} {nn nP nH nT : Int32} {kind house person amount frr to is leans proved seals told wit witOf : Nat → Int32} {todayh : Int32} {place order coin fear fell stripped due roll rollday had : Nat → Int32} {born died : Nat → Int32} {n today : Int32} {act rules fr till ops sort kinds rank rops rend opis opof : Nat → Int32} {Q : Int32 → Int64 → pm_H → Prop}
    (h : pg_ver (I 20) (I 21) (I 22) (I 23) (I 24) (I 25) n today act rules fr till ops sort kinds rank rops rend opis opof)
    (hr : pg_rig (I 18) (I 19) nn nP nH nT kind house person amount frr to is leans proved seals told wit witOf)
    (hh : pg_hou (I 14) (I 15) nH todayh place order coin fear fell stripped due roll rollday had)
    (hp : pg_per (I 12) (I 13) nP born died) (hc : ∀ j, I 2 j = pm_a2.getD j 0) (q0 : 0 ≤ q) (q1 : q < nn) (hg : ∀ j : Nat, j < q.toNatClampNeg → I 19 (16 * j + 8) = pm_no (g j)) :
    pm_wp pm_code pm_meta (d + 6) 52 4 ([.ref 36, .int many, .int q, pm_vl (D.map (·.1)), pm_vl (D.map (·.2.1)), pm_vl (D.map (·.2.2))], [], (pm_Gb L b, I, J)) Q ↔
      pm_wp pm_code pm_meta (d + 6) 52 4 ([.ref 36, .int (many + (if (pf_e (pf_own (fell (house q.toNatClampNeg).toNatClampNeg) (pf_rf sort rank 0 (pf_tl (pf_ans order house amount kind is fell person born died q) act rules fr till sort kinds rops rend opis opof n (fell (house q.toNatClampNeg).toNatClampNeg) (kind q.toNatClampNeg) 0 4)) (pf_dis kind is proved nn q)) (if 0 ≤ leans q.toNatClampNeg then g (leans q.toNatClampNeg).toNatClampNeg else -1)) < 0 then 0 else 1)), .int (q + 1), .int (house q.toNatClampNeg), .int (pm_no (pf_e (pf_own (fell (house q.toNatClampNeg).toNatClampNeg) (pf_rf sort rank 0 (pf_tl (pf_ans order house amount kind is fell person born died q) act rules fr till sort kinds rops rend opis opof n (fell (house q.toNatClampNeg).toNatClampNeg) (kind q.toNatClampNeg) 0 4)) (pf_dis kind is proved nn q)) (if 0 ≤ leans q.toNatClampNeg then g (leans q.toNatClampNeg).toNatClampNeg else -1))), .int (pm_no (leans q.toNatClampNeg))], [], (pm_Gb L b, pm_u I 19 (16 * q.toNatClampNeg + 8) (pm_no (pf_e (pf_own (fell (house q.toNatClampNeg).toNatClampNeg) (pf_rf sort rank 0 (pf_tl (pf_ans order house amount kind is fell person born died q) act rules fr till sort kinds rops rend opis opof n (fell (house q.toNatClampNeg).toNatClampNeg) (kind q.toNatClampNeg) 0 4)) (pf_dis kind is proved nn q)) (if 0 ≤ leans q.toNatClampNeg then g (leans q.toNatClampNeg).toNatClampNeg else -1))), J)) Q := by
  have hi : ¬ nn ≤ q := Int32.not_le.mpr q1
  obtain ⟨_, _, k⟩ := hr.2 _ (pi_tnlt q0 q1)
  have hh0 := k.2.2.1
  have hh1 := k.2.2.2.1
  have l1 := k.2.2.2.2.2.2.2.2.2.2.2.2.2.1
  have t1 := pi_tni q0
  have n1 : pm_no (-1) = -3 := by decide
  generalize hown : (pf_own (fell (house q.toNatClampNeg).toNatClampNeg) (pf_rf sort rank 0 (pf_tl (pf_ans order house amount kind is fell person born died q) act rules fr till sort kinds rops rend opis opof n (fell (house q.toNatClampNeg).toNatClampNeg) (kind q.toNatClampNeg) 0 4)) (pf_dis kind is proved nn q)) = own
  have e1 : ∀ c Q, pm_wc pm_code pm_meta (d + 5) 54 [.int (-3), .int (pm_no c)] (pm_Gb L b, I, J) Q ↔ Q (pm_no (pf_e (-1) c)) 0 (pm_Gb L b, I, J) := fun c Q => by
    have z := px_earlier (d := d + 4) (L := L) (b := b) (I := I) (J := J) (Q := Q) (a := -1) (c := c)
    rw [n1] at z
    exact z
  have dis : ∀ Q, pm_wc pm_code pm_meta (d + 5) 53 [.ref 36, .int q] (pm_Gb L b, I, J) Q ↔ Q (pm_no (pf_dis kind is proved nn q)) 0 (pm_Gb L b, I, J) := fun Q => px_disproved (d := d + 3) hr q0 q1
  have em : ∀ a, pm_no (pf_e a (-1)) = pm_no a := fun a => by
    unfold pf_e pm_no
    by_cases ha : a < 0
    · simp only [ha, if_true]; decide
    · simp only [ha, if_false]
      simp only [show (-1 : Int32) < 0 from by decide, if_true, ha, if_false]
  have tail : ∀ (w : Int32) (u : Option Int32), pm_wp pm_code pm_meta (d + 6) 52 78 ([.ref 36, .int many, .int q, .int (house q.toNatClampNeg), .int w, pm_vl u], [.int (pm_no own)], (pm_Gb L b, I, J)) Q ↔ pm_wp pm_code pm_meta (d + 6) 52 4 ([.ref 36, .int (many + (if (pf_e own (if 0 ≤ leans q.toNatClampNeg then g (leans q.toNatClampNeg).toNatClampNeg else -1)) < 0 then 0 else 1)), .int (q + 1), .int (house q.toNatClampNeg), .int (pm_no (pf_e own (if 0 ≤ leans q.toNatClampNeg then g (leans q.toNatClampNeg).toNatClampNeg else -1))), .int (pm_no (leans q.toNatClampNeg))], [], (pm_Gb L b, pm_u I 19 (16 * q.toNatClampNeg + 8) (pm_no (pf_e own (if 0 ≤ leans q.toNatClampNeg then g (leans q.toNatClampNeg).toNatClampNeg else -1))), J)) Q := by
    intro w u
    by_cases hl : 0 ≤ leans q.toNatClampNeg
    · have nl : pm_no (leans q.toNatClampNeg) = leans q.toNatClampNeg := pm_no_nn hl
      have n3 : ¬ leans q.toNatClampNeg = -3 := no_n3 (Int32.not_lt.mpr hl)
      have t2 := pi_tni hl
      have lq : leans q.toNatClampNeg < nn := by rw [pi_lt]; have := pi_lt.mp q1; omega
      have gl := hg (leans q.toNatClampNeg).toNatClampNeg (by omega)
      by_cases hv : pf_e own (g (leans q.toNatClampNeg).toNatClampNeg) < 0
      · have hv' := no_neg hv
        cases u <;> simp only [pm_vl_n, pm_vl_s, pb_52_78, pb_52_78b, px_rig_6 hr, pm_at_in q0 q1, nl, pb_52_93, pb_52_93b, n3, if_false, pb_52_102, pt_get_18_8 hr.1.1, hr.1.2, hl, lq, q0, q1, and_self, if_true, gl, pb_52_118, px_earlier, pb_52_121, pb_52_123, pt_set_18_8 hr.1.1, pb_52_138, hv', pb_52_148, hv, Int32.add_zero]
      · have hv' : ¬ pm_no (pf_e own (g (leans q.toNatClampNeg).toNatClampNeg)) = -3 := by rw [pm_no_eq']; exact hv
        cases u <;> simp only [pm_vl_n, pm_vl_s, pb_52_78, pb_52_78b, px_rig_6 hr, pm_at_in q0 q1, nl, pb_52_93, pb_52_93b, n3, if_false, pb_52_102, pt_get_18_8 hr.1.1, hr.1.2, hl, lq, q0, q1, and_self, if_true, gl, pb_52_118, px_earlier, pb_52_121, pb_52_123, pt_set_18_8 hr.1.1, pb_52_138, hv', pb_52_145, pb_52_148, hv]
    · have lt : leans q.toNatClampNeg < 0 := Int32.not_le.mp hl
      have ng : (pf_e own (-1) < 0) = (own < 0) := by rw [← pm_no_eq', ← pm_no_eq', em]
      by_cases hv : own < 0
      · cases u <;> simp only [pm_vl_n, pm_vl_s, pb_52_78, pb_52_78b, px_rig_6 hr, pm_at_in q0 q1, no_neg lt, pb_52_93, pb_52_93b, if_true, hl, if_false, pb_52_123, pt_set_18_8 hr.1.1, hr.1.2, q0, q1, and_self, pb_52_138, em, ng, no_neg hv, hv, pb_52_148, Int32.add_zero]
      · have hv' : ¬ pm_no own = -3 := by rw [pm_no_eq']; exact hv
        cases u <;> simp only [pm_vl_n, pm_vl_s, pb_52_78, pb_52_78b, px_rig_6 hr, pm_at_in q0 q1, no_neg lt, pb_52_93, pb_52_93b, if_true, hl, if_false, pb_52_123, pt_set_18_8 hr.1.1, hr.1.2, q0, q1, and_self, pb_52_138, em, ng, hv', hv, pb_52_145, pb_52_148]
  have main : ∀ (u : Option Int32) (w : Int32), (pm_wp pm_code pm_meta (d + 6) 52 43 ([.ref 36, .int many, .int q, .int (house q.toNatClampNeg), .int (-3), pm_vl u], [.int (pm_b (¬ pm_no (fell (house q.toNatClampNeg).toNatClampNeg) = -3))], (pm_Gb L b, I, J)) Q ↔ pm_wp pm_code pm_meta (d + 6) 52 78 ([.ref 36, .int many, .int q, .int (house q.toNatClampNeg), .int (if 0 ≤ fell (house q.toNatClampNeg).toNatClampNeg ∧ ¬ pf_rf sort rank 0 (pf_tl (pf_ans order house amount kind is fell person born died q) act rules fr till sort kinds rops rend opis opof n (fell (house q.toNatClampNeg).toNatClampNeg) (kind q.toNatClampNeg) 0 4) = 0 then fell (house q.toNatClampNeg).toNatClampNeg else -3), pm_vl u], [.int (pm_no own)], (pm_Gb L b, I, J)) Q) := by
    intro u w
    rw [← hown]
    unfold pf_own
    by_cases hf : 0 ≤ fell (house q.toNatClampNeg).toNatClampNeg
    · have nf : pm_no (fell (house q.toNatClampNeg).toNatClampNeg) = fell (house q.toNatClampNeg).toNatClampNeg := pm_no_nn hf
      have n3 : ¬ fell (house q.toNatClampNeg).toNatClampNeg = -3 := no_n3 (Int32.not_lt.mpr hf)
      have e2 : ∀ c Q, pm_wc pm_code pm_meta (d + 5) 54 [.int (fell (house q.toNatClampNeg).toNatClampNeg), .int (pm_no c)] (pm_Gb L b, I, J) Q ↔ Q (pm_no (pf_e (fell (house q.toNatClampNeg).toNatClampNeg) c)) 0 (pm_Gb L b, I, J) := fun c Q => by
        have z := px_earlier (d := d + 4) (L := L) (b := b) (I := I) (J := J) (Q := Q) (a := fell (house q.toNatClampNeg).toNatClampNeg) (c := c)
        rw [nf] at z
        exact z
      by_cases hs : pf_rf sort rank 0 (pf_tl (pf_ans order house amount kind is fell person born died q) act rules fr till sort kinds rops rend opis opof n (fell (house q.toNatClampNeg).toNatClampNeg) (kind q.toNatClampNeg) 0 4) = 0
      · cases u <;> simp only [pm_vl_n, pm_vl_s, nf, n3, not_false_eq_true, pm_b_t, pb_52_43, pb_52_43b, show ¬ (1 : Int32) = 0 from by decide, if_false, pb_52_46, pb_52_46b, px_isStanding (d := d) h hr hh hp hc q0 q1 hf, hs, pb_52_51, pb_52_51b, pb_52_68, pb_52_68b, dis, pb_52_75, pb_52_75b, e1, not_true_eq_false, and_false]
      · cases u <;> simp only [pm_vl_n, pm_vl_s, nf, n3, not_false_eq_true, pm_b_t, pb_52_43, pb_52_43b, show ¬ (1 : Int32) = 0 from by decide, if_false, if_true, pb_52_46, pb_52_46b, px_isStanding (d := d) h hr hh hp hc q0 q1 hf, hs, pm_b_f, pb_52_51, pb_52_51b, pb_52_54, pb_52_54b, px_hou_4 hh, pm_at_in hh0 hh1, pb_52_66, pb_52_66b, pb_52_68, pb_52_68b, dis, pb_52_75, pb_52_75b, e2, hf, and_self]
    · have n3 : pm_no (fell (house q.toNatClampNeg).toNatClampNeg) = -3 := no_neg (Int32.not_le.mp hf)
      cases u <;> simp only [pm_vl_n, pm_vl_s, n3, not_true_eq_false, pm_b_f, not_false_eq_true, pb_52_43, pb_52_43b, if_true, pb_52_68, pb_52_68b, dis, pb_52_75, pb_52_75b, e1, hf, false_and, if_false]
  cases D with
  | none =>
    simp only [Option.map, pm_vl_n]
    rw [pb_52_4, hr.1.2, if_neg hi, pb_52_18, px_rig_1 hr, pm_at_in q0 q1, pb_52_30, px_hasFallen (d := d + 4) hh, pm_at_in hh0 hh1]
    exact (main none 0).trans (tail _ none)
  | some D =>
    simp only [Option.map, pm_vl_s]
    rw [pb_52_4b, hr.1.2, if_neg hi, pb_52_18b, px_rig_1 hr, pm_at_in q0 q1, pb_52_30b, px_hasFallen (d := d + 4) hh, pm_at_in hh0 hh1]
    exact (main (some D.2.2) 0).trans (tail _ (some D.2.2))

