/-! Behind the reckoning: leases, pensions, how many are gone. -/
theorem pi_ltn {a b : Int32} : (a < b) = ¬ (b ≤ a) := by rw [Int32.not_le]
theorem px_rig_8 {d L : Nat} {b : Bool} {I : Nat → Nat → Int32} {J : Nat → Nat → Int64} {r : Int32} {g : Nat → Int32} {nn nP nH nT : Int32} {kind house person amount frr to is leans proved seals told wit witOf : Nat → Int32} {Q : Int32 → Int64 → pm_H → Prop} (hr : pg_rig (I 18) (I 19) nn nP nH nT kind house person amount frr to is leans proved seals told wit witOf) (hg : ∀ j, j < nn.toNatClampNeg → I 19 (16 * j + 8) = pm_no (g j)) : pm_wc pm_code pm_meta d 83 [.ref 18, .int r, .int 8] (pm_Gb L b, I, J) Q ↔ Q (pm_at nn r (fun k => pm_no (g k))) 0 (pm_Gb L b, I, J) := by
  rw [pt_get_18_8 hr.1.1, hr.1.2, pm_at_cg (f := fun k => I 19 (16 * k + 8)) hg]
theorem rig_l {t c : Nat → Int32} {nn nP nH nT : Int32} {kind house person amount frr to is leans proved seals told wit witOf : Nat → Int32} (hr : pg_rig t c nn nP nH nT kind house person amount frr to is leans proved seals told wit witOf) : nn < 2147483647 := pi_ltb (Int32.lt_of_le_of_lt (rig_n hr).2 (by decide : (24 : Int32) < 100)) (by decide)
theorem fo_fst {α β : Type} {f : α × β → Int32 → α × β} {f1 : α → Int32 → α} (h : ∀ s D i, (f (s, D) i).1 = f1 s i) : ∀ (m : Nat) (i : Int32) (s : α) (D : β), (pm_fo f m i (s, D)).1 = pm_fo f1 m i s
  | 0, _, _, _ => rfl
  | m + 1, i, s, D => by
    unfold pm_fo
    rw [← h s D i]
    exact fo_fst h m (i + 1) _ _
theorem fo_cg {α : Type} {f g : α → Int32 → α} {n : Int32} (hn : n < 2147483647) (h : ∀ s i, 0 ≤ i → i < n → f s i = g s i) : ∀ (m : Nat) (i : Int32) (s : α), 0 ≤ i → 0 ≤ n → i.toNatClampNeg + m = n.toNatClampNeg → pm_fo f m i s = pm_fo g m i s
  | 0, _, _, _, _, _ => rfl
  | m + 1, i, s, h0, hn0, hm => by
    have t1 := pi_tni h0
    have t2 := pi_tni hn0
    have e : i < n := by rw [pi_lt]; omega
    have e3 : (i + 1).toNatClampNeg = i.toNatClampNeg + 1 := pi_tn1 h0 (Int32.lt_trans e hn)
    have e4 : 0 ≤ i + 1 := by have := pi_lt.mp e; have := pi_hi n; rw [pi_le, pi_0, pi_add (by rw [pi_1]; omega) (by rw [pi_1]; omega), pi_1]; omega
    unfold pm_fo
    rw [h s i h0 e]
    exact fo_cg hn h m (i + 1) _ e4 hn0 (by omega)
theorem fo_cg0 {α : Type} {f g : α → Int32 → α} {n : Int32} {s : α} (hn0 : 0 ≤ n) (hn : n < 2147483647) (h : ∀ s i, 0 ≤ i → i < n → f s i = g s i) : pm_fo f n.toNatClampNeg 0 s = pm_fo g n.toNatClampNeg 0 s := fo_cg hn h n.toNatClampNeg 0 s (Int32.le_refl 0) hn0 (by simp)
/-- whether one is found -/
theorem fq_fo {c c2 : Int32 → Prop} [DecidablePred c] [DecidablePred c2] {n : Int32} (hn : n < 2147483647) (h : ∀ i, 0 ≤ i → i < n → (c i ↔ c2 i)) : ∀ (m : Nat) (i : Int32), 0 ≤ i → 0 ≤ n → i.toNatClampNeg + m = n.toNatClampNeg → pm_fo (fun (s i : Int32) => if s = 0 then (if c2 i then 1 else 0) else 1) m i 0 = (if (pm_fq c m i).isSome then 1 else 0) := by
  have one : ∀ (m : Nat) (i : Int32), pm_fo (fun (s i : Int32) => if s = 0 then (if c2 i then 1 else 0) else 1) m i 1 = 1 := fun m i => fo_inv (P := fun s : Int32 => s = 1) (fun s i hs => by rw [hs]; rfl) m i 1 rfl
  intro m
  induction m with
  | zero => intro i _ _ _; rfl
  | succ m ih =>
    intro i h0 hn0 hm
    have t1 := pi_tni h0
    have t2 := pi_tni hn0
    have e : i < n := by rw [pi_lt]; omega
    have e3 : (i + 1).toNatClampNeg = i.toNatClampNeg + 1 := pi_tn1 h0 (Int32.lt_trans e hn)
    have e4 : 0 ≤ i + 1 := by have := pi_lt.mp e; have := pi_hi n; rw [pi_le, pi_0, pi_add (by rw [pi_1]; omega) (by rw [pi_1]; omega), pi_1]; omega
    unfold pm_fo pm_fq
    by_cases a : c i
    · have a2 := (h i h0 e).mp a
      simp only [a, a2, if_true, Option.isSome]
      exact one m (i + 1)
    · have a2 : ¬ c2 i := fun q => a ((h i h0 e).mpr q)
      simp only [a, a2, if_true, if_false]
      exact ih (i + 1) e4 hn0 (by omega)
theorem px_hasLease {d L : Nat} {b : Bool} {I : Nat → Nat → Int32} {J : Nat → Nat → Int64} {x1 x2 : Int32} {g : Nat → Int32} {nn nP nH nT : Int32} {kind house person amount frr to is leans proved seals told wit witOf : Nat → Int32} {Q : Int32 → Int64 → pm_H → Prop} (hr : pg_rig (I 18) (I 19) nn nP nH nT kind house person amount frr to is leans proved seals told wit witOf) (hg : ∀ j, j < nn.toNatClampNeg → I 19 (16 * j + 8) = pm_no (g j)) : pm_wc pm_code pm_meta (d + 2) 56 [.ref 36, .int x1, .int x2] (pm_Gb L b, I, J) Q ↔ pm_oe (Q 0 0 (pm_Gb L b, I, J)) (fun _ => Q 1 0 (pm_Gb L b, I, J)) (pm_fq (fun i => kind i.toNatClampNeg = 2 ∧ ¬ 0 ≤ g i.toNatClampNeg ∧ person i.toNatClampNeg = x1 ∧ house i.toNatClampNeg = x2) nn.toNatClampNeg 0) := by
  rw [pb_56_0]
  refine pm_for_s (A := fun i => pm_wp pm_code pm_meta (d + 2) 56 2 ([.ref 36, .int x1, .int x2, .int i], [], (pm_Gb L b, I, J)) Q) (rig_n hr).1 (rig_l hr) (fun i h0 hin => ?_)
  rw [pb_56_2, hr.1.2]
  by_cases hi : nn ≤ i
  · simp only [hi, if_true, pb_56_91]
  · have h1 := Int32.not_le.mp hi
    simp only [hi, if_false]
    by_cases c1 : kind i.toNatClampNeg = 2 <;> by_cases c2 : 0 ≤ g i.toNatClampNeg <;> by_cases c3 : person i.toNatClampNeg = x1 <;> by_cases c4 : house i.toNatClampNeg = x2 <;> simp only [c1, c2, c3, c4, pb_56_0, pb_56_91, pb_56_16, pb_56_24, pb_56_85, pb_56_27, pb_56_40, pb_56_48, pb_56_45, pb_56_60, pb_56_67, pb_56_64, pb_56_79, pb_56_83, px_isLease hr, px_rig_8 hr hg, px_rig_1 hr, px_rig_2 hr, pm_at_in h0 h1, pm_no_eq, not_false_eq_true, and_self, and_true, true_and, false_and, and_false, not_true_eq_false, Int32.reduceLE, Int32.reduceLT, pi_lt0, pm_b_eq0, pm_b_eq1, ite_not, pm_k0, pm_k1, pm_b_fit, true_and, and_true, not_true_eq_false, not_false_eq_true, ite_true, ite_false, if_true, if_false]
theorem px_pensions {d L : Nat} {b : Bool} {I : Nat → Nat → Int32} {J : Nat → Nat → Int64} {x1 x2 : Int32} {g : Nat → Int32} {nn nP nH nT : Int32} {kind house person amount frr to is leans proved seals told wit witOf : Nat → Int32} {Q : Int32 → Int64 → pm_H → Prop} (hr : pg_rig (I 18) (I 19) nn nP nH nT kind house person amount frr to is leans proved seals told wit witOf) (hg : ∀ j, j < nn.toNatClampNeg → I 19 (16 * j + 8) = pm_no (g j)) : pm_wc pm_code pm_meta (d + 2) 57 [.ref 36, .int x1, .int x2] (pm_Gb L b, I, J) Q ↔ Q (pm_fo (fun (s i : Int32) => if kind i.toNatClampNeg = 4 ∧ person i.toNatClampNeg = x1 ∧ (frr i.toNatClampNeg ≤ x2 ∧ x2 ≤ to i.toNatClampNeg) ∧ (¬ 0 ≤ g i.toNatClampNeg ∨ x2 < g i.toNatClampNeg) then s + amount i.toNatClampNeg else s) nn.toNatClampNeg 0 0) 0 (pm_Gb L b, I, J) := by
  rw [pb_57_0]
  have key := pm_for (A := fun (s : Int32 × Option Int32) i => pm_wp pm_code pm_meta (d + 2) 57 5 ([.ref 36, .int x1, .int x2, .int s.1, .int i, pm_vl s.2], [], (pm_Gb L b, I, J)) Q) (E := fun s => Q s.1 0 (pm_Gb L b, I, J)) (f := fun (s : Int32 × Option Int32) i => ((if kind i.toNatClampNeg = 4 ∧ person i.toNatClampNeg = x1 ∧ (frr i.toNatClampNeg ≤ x2 ∧ x2 ≤ to i.toNatClampNeg) ∧ (¬ 0 ≤ g i.toNatClampNeg ∨ x2 < g i.toNatClampNeg) then s.1 + amount i.toNatClampNeg else s.1), if kind i.toNatClampNeg = 4 ∧ person i.toNatClampNeg = x1 then some (pm_no (g i.toNatClampNeg)) else s.2)) (n := nn) (rig_n hr).1 (rig_l hr) (fun s i h0 => ?_) (0, none)
  · rw [fo_fst (f1 := fun (s i : Int32) => if kind i.toNatClampNeg = 4 ∧ person i.toNatClampNeg = x1 ∧ (frr i.toNatClampNeg ≤ x2 ∧ x2 ≤ to i.toNatClampNeg) ∧ (¬ 0 ≤ g i.toNatClampNeg ∨ x2 < g i.toNatClampNeg) then s + amount i.toNatClampNeg else s) (fun _ _ _ => rfl)] at key
    exact key
  · obtain ⟨s, D⟩ := s
    by_cases hi : nn ≤ i
    · cases D <;> simp only [pm_vl_n, pm_vl_s] <;> first | (rw [pb_57_5, hr.1.2]; simp only [hi, if_true, pb_57_151]) | (rw [pb_57_5b, hr.1.2]; simp only [hi, if_true, pb_57_151b])
    · have h1 := Int32.not_le.mp hi
      have gn : 0 ≤ g i.toNatClampNeg → pm_no (g i.toNatClampNeg) = g i.toNatClampNeg := fun h => if_neg (Int32.not_lt.mpr h)
      cases D <;> simp only [pm_vl_n, pm_vl_s] <;> (first | rw [pb_57_5, hr.1.2] | rw [pb_57_5b, hr.1.2]) <;> simp only [hi, if_false]
      all_goals (
        by_cases c1 : kind i.toNatClampNeg = 4
        · by_cases c2 : person i.toNatClampNeg = x1
          · by_cases c3 : 0 ≤ g i.toNatClampNeg
            · have gn := gn c3
              have g3 : ¬ g i.toNatClampNeg = -3 := fun e => by rw [e] at c3; exact absurd c3 (by decide)
              by_cases k1 : frr i.toNatClampNeg ≤ x2 <;> by_cases k2 : x2 ≤ to i.toNatClampNeg <;> by_cases k3 : g i.toNatClampNeg ≤ x2 <;> simp only [k1, k2, k3, c1, c2, c3, gn, g3, pb_57_0, pb_57_151, pb_57_20, pb_57_33, pb_57_40, pb_57_37, pb_57_53, pb_57_145, pb_57_60, pb_57_57, pb_57_74, pb_57_92, pb_57_83, pb_57_105, pb_57_89, pb_57_145b, pb_57_109, pb_57_122, pb_57_151b, pb_57_20b, pb_57_129, pb_57_126, pb_57_33b, pb_57_143, pb_57_40b, pb_57_37b, pb_57_53b, pb_57_60b, pb_57_57b, pb_57_74b, px_rig_8 hr hg, px_rig_0 hr, px_rig_2 hr, px_rig_3 hr, px_rig_4 hr, px_rig_5 hr, pm_at_in h0 h1, pm_no_eq, pm_vl_s, pi_ltn, pl_1_0, not_false_eq_true, not_true_eq_false, and_self, and_true, true_and, false_and, and_false, or_true, true_or, or_false, false_or, or_self, Int32.reduceLE, Int32.reduceLT, pi_lt0, pm_b_eq0, pm_b_eq1, ite_not, pm_k0, pm_k1, pm_b_fit, true_and, and_true, not_true_eq_false, not_false_eq_true, ite_true, ite_false, if_true, if_false]
            · by_cases k1 : frr i.toNatClampNeg ≤ x2 <;> by_cases k2 : x2 ≤ to i.toNatClampNeg <;> simp only [k1, k2, c1, c2, c3, pb_57_0, pb_57_151, pb_57_20, pb_57_33, pb_57_40, pb_57_37, pb_57_53, pb_57_145, pb_57_60, pb_57_57, pb_57_74, pb_57_92, pb_57_83, pb_57_105, pb_57_89, pb_57_145b, pb_57_109, pb_57_122, pb_57_151b, pb_57_20b, pb_57_129, pb_57_126, pb_57_33b, pb_57_143, pb_57_40b, pb_57_37b, pb_57_53b, pb_57_60b, pb_57_57b, pb_57_74b, px_rig_8 hr hg, px_rig_0 hr, px_rig_2 hr, px_rig_3 hr, px_rig_4 hr, px_rig_5 hr, pm_at_in h0 h1, pm_no_eq, pm_vl_s, pi_ltn, pl_1_0, not_false_eq_true, not_true_eq_false, and_self, and_true, true_and, false_and, and_false, or_true, true_or, or_false, false_or, or_self, Int32.reduceLE, Int32.reduceLT, pi_lt0, pm_b_eq0, pm_b_eq1, ite_not, pm_k0, pm_k1, pm_b_fit, true_and, and_true, not_true_eq_false, not_false_eq_true, ite_true, ite_false, if_true, if_false]
          · simp only [c1, c2, pb_57_0, pb_57_151, pb_57_20, pb_57_33, pb_57_40, pb_57_37, pb_57_53, pb_57_145, pb_57_60, pb_57_57, pb_57_74, pb_57_92, pb_57_83, pb_57_105, pb_57_89, pb_57_145b, pb_57_109, pb_57_122, pb_57_151b, pb_57_20b, pb_57_129, pb_57_126, pb_57_33b, pb_57_143, pb_57_40b, pb_57_37b, pb_57_53b, pb_57_60b, pb_57_57b, pb_57_74b, px_rig_0 hr, px_rig_2 hr, pm_at_in h0 h1, and_self, and_true, true_and, false_and, and_false, pm_vl_n, pm_vl_s, Int32.reduceLE, Int32.reduceLT, pi_lt0, pm_b_eq0, pm_b_eq1, ite_not, pm_k0, pm_k1, pm_b_fit, true_and, and_true, not_true_eq_false, not_false_eq_true, ite_true, ite_false, if_true, if_false]
        · simp only [c1, pb_57_0, pb_57_151, pb_57_20, pb_57_33, pb_57_40, pb_57_37, pb_57_53, pb_57_145, pb_57_60, pb_57_57, pb_57_74, pb_57_92, pb_57_83, pb_57_105, pb_57_89, pb_57_145b, pb_57_109, pb_57_122, pb_57_151b, pb_57_20b, pb_57_129, pb_57_126, pb_57_33b, pb_57_143, pb_57_40b, pb_57_37b, pb_57_53b, pb_57_60b, pb_57_57b, pb_57_74b, px_rig_0 hr, pm_at_in h0 h1, and_self, and_true, true_and, false_and, and_false, pm_vl_n, pm_vl_s, Int32.reduceLE, Int32.reduceLT, pi_lt0, pm_b_eq0, pm_b_eq1, ite_not, pm_k0, pm_k1, pm_b_fit, true_and, and_true, not_true_eq_false, not_false_eq_true, ite_true, ite_false, if_true, if_false])
theorem pr_goneMany_loop {d L : Nat} {b : Bool} {I : Nat → Nat → Int32} {J : Nat → Nat → Int64} {Q : Int32 → Int64 → pm_H → Prop} (n0 : 0 ≤ I 80 4) (n24 : I 80 4 ≤ 24) : pm_wp pm_code pm_meta d 212 8 ([.ref 79, .int 0, .int 0], [], (pm_Gb L b, I, J)) Q ↔ Q (pm_fo (fun (s i : Int32) => s + (if I 137 i.toNatClampNeg < 0 then 0 else 1)) (I 80 4).toNatClampNeg 0 0) 0 (pm_Gb L b, I, J) := by
  refine pm_for (A := fun (s : Int32) i => pm_wp pm_code pm_meta d 212 8 ([.ref 79, .int s, .int i], [], (pm_Gb L b, I, J)) Q) (E := fun s => Q s 0 (pm_Gb L b, I, J)) n0 (pi_ltb (Int32.lt_of_le_of_lt n24 (by decide : (24 : Int32) < 100)) (by decide)) (fun s i h0 => ?_) 0
  rw [pb_212_8]
  by_cases hi : I 80 4 ≤ i
  · simp only [hi, if_true, pb_212_41]
  · have h1 := Int32.not_le.mp hi
    have i1 := pi_in24 n24 h0 h1
    by_cases c1 : I 137 i.toNatClampNeg < 0 <;> simp only [c1, hi, i1, pb_212_0, pb_212_4, pb_212_41, pb_212_18, pb_212_32, pb_212_28, pb_212_33, true_and, if_true, if_false]
theorem gm_fo {G : Nat → Nat → Int32} {h : Nat → Int32} {N : Nat} (hN : N ≤ 1000) (hh : ∀ j, j < N → h j = G (j + 1) j) : ∀ (m q : Nat) (x : Int32), q + m = N → pm_fo (fun (s i : Int32) => s + (if h i.toNatClampNeg < 0 then 0 else 1)) m (Int32.ofNat q) x = pf_gm G m q x
  | 0, _, _, _ => rfl
  | m + 1, q, x, hm => by
    have ei : (Int32.ofNat q).toInt = q := Int32.toInt_ofNat_of_lt (by omega)
    have ti : (Int32.ofNat q).toNatClampNeg = q := by
      have := pi_tni (a := Int32.ofNat q) (by rw [pi_le, pi_0, ei]; omega)
      omega
    have e2 : Int32.ofNat q + 1 = Int32.ofNat (q + 1) := by
      have e3 : (Int32.ofNat (q + 1)).toInt = (q + 1 : Nat) := Int32.toInt_ofNat_of_lt (by omega)
      refine Int32.toInt_inj.mp ?_
      rw [e3, pi_add (by rw [pi_1]; omega) (by rw [pi_1]; omega), pi_1, ei]; omega
    unfold pm_fo pf_gm
    rw [ti, e2, hh q (by omega)]
    exact gm_fo hN hh m (q + 1) _ (by omega)
theorem pr_goneMany {d L : Nat} {b : Bool} {I : Nat → Nat → Int32} {J : Nat → Nat → Int64} {x : Nat → Nat → Int32} {Q : Int32 → Int64 → pm_H → Prop} (hI : pm_gr x I) (hV : pm_gv I I)
    (hQ : ∀ I', pm_ag I I' → (∀ j, j < (I 80 4).toNatClampNeg → I' 137 j = pf_gone I j) → Q (pf_goneN I) 0 (pm_Gb L b, I', J)) : pm_wc pm_code pm_meta (d + 7) 212 [.ref 79] (pm_Gb L b, I, J) Q := by
  have hn := rig_n hI.2.2.2
  rw [pb_212_0]
  refine pr_findGone hI hV (fun I' ag hg => ?_)
  have e80 : I' 80 = I 80 := ag.1 80 (by decide) (by decide)
  rw [pb_212_4, pr_goneMany_loop (by rw [e80]; exact hn.1) (by rw [e80]; exact hn.2), e80]
  have t1 := pi_le.mp hn.2
  have t2 := pi_tni hn.1
  have e24 : (24 : Int32).toInt = 24 := rfl
  have e := gm_fo (G := pf_gr (pf_ow I) (I 106)) (h := I' 137) (N := (I 80 4).toNatClampNeg) (by omega) (fun j hj => by rw [hg j hj]; unfold pf_gone; exact gr_lt _ hj) (I 80 4).toNatClampNeg 0 0 (by omega)
  rw [show Int32.ofNat 0 = 0 from rfl] at e
  rw [e]
  exact hQ I' ag hg
theorem pr_show_loop {d L : Nat} {b : Bool} {I : Nat → Nat → Int32} {J : Nat → Nat → Int64} {x1 x2 : Int32} {Q : Int32 → Int64 → pm_H → Prop} (n0 : 0 ≤ I 80 4) (n24 : I 80 4 ≤ 24) (i1 : pm_in x1 24 = true) : pm_wp pm_code pm_meta d 203 27 ([.ref 79, .int x1, .int x2, .int 0, .int 0], [], (pm_Gb L b, I, J)) Q ↔ pm_wp pm_code pm_meta d 203 102 ([.ref 79, .int x1, .int x2, .int (pm_fo (fun (s i : Int32) => if s = 0 then (if I 99 i.toNatClampNeg = 2 ∧ I 100 i.toNatClampNeg = I 94 x1.toNatClampNeg ∧ I 101 i.toNatClampNeg = x2 ∧ ¬ 0 ≤ I 137 i.toNatClampNeg then 1 else 0) else 1) (I 80 4).toNatClampNeg 0 0), .int (I 80 4)], [], (pm_Gb L b, I, J)) Q := by
  refine pm_for_i (A := fun (s : Int32) i => pm_wp pm_code pm_meta d 203 27 ([.ref 79, .int x1, .int x2, .int s, .int i], [], (pm_Gb L b, I, J)) Q) (E := fun s i => pm_wp pm_code pm_meta d 203 102 ([.ref 79, .int x1, .int x2, .int s, .int i], [], (pm_Gb L b, I, J)) Q) n0 (pi_ltb (Int32.lt_of_le_of_lt n24 (by decide : (24 : Int32) < 100)) (by decide)) (fun s i h0 => ?_) 0
  rw [pb_203_27]
  by_cases hi : I 80 4 ≤ i
  · simp only [hi, if_true]
  · have h1 := Int32.not_le.mp hi
    have i2 := pi_in24 n24 h0 h1
    by_cases hs : s = 0
    · subst hs
      by_cases c1 : I 99 i.toNatClampNeg = 2 <;> by_cases c2 : I 100 i.toNatClampNeg = I 94 x1.toNatClampNeg <;> by_cases c3 : I 101 i.toNatClampNeg = x2 <;> by_cases c4 : 0 ≤ I 137 i.toNatClampNeg <;> simp only [c1, c2, c3, c4, hi, i1, i2, pb_203_0, pb_203_5, pb_203_16, pb_203_8, pb_203_13, pb_203_18, pb_203_24, pb_203_102, pb_203_38, pb_203_112, pb_203_130, pb_203_42, pb_203_90, pb_203_116, pb_203_53, pb_203_94, pb_203_95, pb_203_127, pb_203_69, pb_203_133, pb_203_80, pi_ltn, pl_1_0, not_false_eq_true, not_true_eq_false, and_self, and_true, true_and, false_and, and_false, or_true, true_or, or_false, false_or, or_self, Int32.reduceLE, Int32.reduceLT, pi_lt0, pm_b_eq0, pm_b_eq1, ite_not, pm_k0, pm_k1, pm_b_fit, true_and, and_true, not_true_eq_false, not_false_eq_true, ite_true, ite_false, if_true, if_false]
    · simp only [hi, hs, pb_203_0, pb_203_5, pb_203_16, pb_203_8, pb_203_13, pb_203_18, pb_203_24, pb_203_102, pb_203_38, pb_203_112, pb_203_130, pb_203_42, pb_203_90, pb_203_116, pb_203_53, pb_203_94, pb_203_95, pb_203_127, pb_203_69, pb_203_133, pb_203_80, pi_ltn, pl_1_0, not_false_eq_true, not_true_eq_false, and_self, and_true, true_and, false_and, and_false, or_true, true_or, or_false, false_or, or_self, Int32.reduceLE, Int32.reduceLT, pi_lt0, pm_b_eq0, pm_b_eq1, ite_not, pm_k0, pm_k1, pm_b_fit, true_and, and_true, not_true_eq_false, not_false_eq_true, ite_true, ite_false, if_true, if_false]
theorem pr_pension_loop {d L : Nat} {b : Bool} {I : Nat → Nat → Int32} {J : Nat → Nat → Int64} {x1 x2 x3 : Int32} {Q : Int32 → Int64 → pm_H → Prop} (n0 : 0 ≤ I 80 4) (n24 : I 80 4 ≤ 24) : pm_wp pm_code pm_meta (d + 1) 250 49 ([.ref 79, .int x1, .int x2, .int x3, .int 0, .int 0, pm_unset], [], (pm_Gb L b, I, J)) Q ↔ Q (pm_fo (fun (s i : Int32) => if I 99 i.toNatClampNeg = 4 ∧ I 101 i.toNatClampNeg = x1 ∧ (I 103 i.toNatClampNeg ≤ x3 ∧ x3 ≤ I 104 i.toNatClampNeg) ∧ (¬ 0 ≤ I 137 i.toNatClampNeg ∨ x3 < I 137 i.toNatClampNeg) then s + I 102 i.toNatClampNeg else s) (I 80 4).toNatClampNeg 0 0) 0 (pm_Gb L b, I, J) := by
  have key := pm_for (A := fun (s : Int32 × Option Int32) i => pm_wp pm_code pm_meta (d + 1) 250 49 ([.ref 79, .int x1, .int x2, .int x3, .int s.1, .int i, pm_vl s.2], [], (pm_Gb L b, I, J)) Q) (E := fun s => Q s.1 0 (pm_Gb L b, I, J)) (f := fun (s : Int32 × Option Int32) i => ((if I 99 i.toNatClampNeg = 4 ∧ I 101 i.toNatClampNeg = x1 ∧ (I 103 i.toNatClampNeg ≤ x3 ∧ x3 ≤ I 104 i.toNatClampNeg) ∧ (¬ 0 ≤ I 137 i.toNatClampNeg ∨ x3 < I 137 i.toNatClampNeg) then s.1 + I 102 i.toNatClampNeg else s.1), some (if I 99 i.toNatClampNeg = 4 ∧ I 101 i.toNatClampNeg = x1 ∧ (I 103 i.toNatClampNeg ≤ x3 ∧ x3 ≤ I 104 i.toNatClampNeg) ∧ (¬ 0 ≤ I 137 i.toNatClampNeg ∨ x3 < I 137 i.toNatClampNeg) then 1 else 0))) (n := I 80 4) n0 (pi_ltb (Int32.lt_of_le_of_lt n24 (by decide : (24 : Int32) < 100)) (by decide)) (fun s i h0 => ?_) (0, none)
  · rw [fo_fst (f1 := fun (s i : Int32) => if I 99 i.toNatClampNeg = 4 ∧ I 101 i.toNatClampNeg = x1 ∧ (I 103 i.toNatClampNeg ≤ x3 ∧ x3 ≤ I 104 i.toNatClampNeg) ∧ (¬ 0 ≤ I 137 i.toNatClampNeg ∨ x3 < I 137 i.toNatClampNeg) then s + I 102 i.toNatClampNeg else s) (fun _ _ _ => rfl)] at key
    exact key
  · obtain ⟨s, D⟩ := s
    by_cases hi : I 80 4 ≤ i
    · cases D <;> simp only [pm_vl_n, pm_vl_s] <;> first | (rw [pb_250_49]; simp only [hi, if_true, pb_250_158]) | (rw [pb_250_49b]; simp only [hi, if_true, pb_250_158b])
    · have h1 := Int32.not_le.mp hi
      have i1 := pi_in24 n24 h0 h1
      cases D <;> simp only [pm_vl_n, pm_vl_s] <;> (first | rw [pb_250_49] | rw [pb_250_49b]) <;> simp only [hi, if_false]
      all_goals (
        by_cases c1 : I 99 i.toNatClampNeg = 4
        · by_cases c2 : I 101 i.toNatClampNeg = x1
          · by_cases k1 : I 103 i.toNatClampNeg ≤ x3 <;> by_cases k2 : x3 ≤ I 104 i.toNatClampNeg <;> by_cases k3 : 0 ≤ I 137 i.toNatClampNeg <;> by_cases k4 : I 137 i.toNatClampNeg ≤ x3 <;> simp only [k1, k2, k3, k4, c1, c2, i1, pr_in, Int32.add_zero, pb_250_0, pb_250_5, pb_250_18, pb_250_8, pb_250_15, pb_250_20, pb_250_34, pb_250_37, pb_250_39, pb_250_43, pb_250_158, pb_250_60, pb_250_71, pb_250_128, pb_250_82, pb_250_129, pb_250_100, pb_250_148, pb_250_138, pb_250_103, pb_250_149, pb_250_124, pb_250_113, pb_250_158b, pb_250_60b, pb_250_71b, pb_250_128b, pb_250_82b, pb_250_129b, pb_250_100b, pb_250_103b, pb_250_124b, pb_250_113b, pm_vl_s, pi_ltn, pl_1_0, not_false_eq_true, not_true_eq_false, and_self, and_true, true_and, false_and, and_false, or_true, true_or, or_false, false_or, or_self, Int32.reduceLE, Int32.reduceLT, pi_lt0, pm_b_eq0, pm_b_eq1, ite_not, pm_k0, pm_k1, pm_b_fit, true_and, and_true, not_true_eq_false, not_false_eq_true, ite_true, ite_false, if_true, if_false]
          · simp only [c1, c2, i1, pb_250_0, pb_250_5, pb_250_18, pb_250_8, pb_250_15, pb_250_20, pb_250_34, pb_250_37, pb_250_39, pb_250_43, pb_250_158, pb_250_60, pb_250_71, pb_250_128, pb_250_82, pb_250_129, pb_250_100, pb_250_148, pb_250_138, pb_250_103, pb_250_149, pb_250_124, pb_250_113, pb_250_158b, pb_250_60b, pb_250_71b, pb_250_128b, pb_250_82b, pb_250_129b, pb_250_100b, pb_250_103b, pb_250_124b, pb_250_113b, pm_vl_s, Int32.add_zero, pi_ltn, pl_1_0, not_false_eq_true, not_true_eq_false, and_self, and_true, true_and, false_and, and_false, or_true, true_or, or_false, false_or, or_self, Int32.reduceLE, Int32.reduceLT, pi_lt0, pm_b_eq0, pm_b_eq1, ite_not, pm_k0, pm_k1, pm_b_fit, true_and, and_true, not_true_eq_false, not_false_eq_true, ite_true, ite_false, if_true, if_false]
        · simp only [c1, i1, pb_250_0, pb_250_5, pb_250_18, pb_250_8, pb_250_15, pb_250_20, pb_250_34, pb_250_37, pb_250_39, pb_250_43, pb_250_158, pb_250_60, pb_250_71, pb_250_128, pb_250_82, pb_250_129, pb_250_100, pb_250_148, pb_250_138, pb_250_103, pb_250_149, pb_250_124, pb_250_113, pb_250_158b, pb_250_60b, pb_250_71b, pb_250_128b, pb_250_82b, pb_250_129b, pb_250_100b, pb_250_103b, pb_250_124b, pb_250_113b, pm_vl_s, Int32.add_zero, pi_ltn, pl_1_0, not_false_eq_true, not_true_eq_false, and_self, and_true, true_and, false_and, and_false, or_true, true_or, or_false, false_or, or_self, Int32.reduceLE, Int32.reduceLT, pi_lt0, pm_b_eq0, pm_b_eq1, ite_not, pm_k0, pm_k1, pm_b_fit, true_and, and_true, not_true_eq_false, not_false_eq_true, ite_true, ite_false, if_true, if_false])

