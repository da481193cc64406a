/-! days. -/
theorem pm_for_imp {α : Type} {A : α → Int32 → Prop} {E : α → Prop} {f : α → Int32 → α} {P : α → Int32 → Prop} {n : Int32} (hn0 : 0 ≤ n) (hn : n < 2147483647)
    (hA : ∀ s i, P s i → 0 ≤ i → i ≤ n → (if n ≤ i then E s else A (f s i) (i + 1)) → A s i)
    (hP : ∀ s i, P s i → 0 ≤ i → i < n → P (f s i) (i + 1)) :
    ∀ (m : Nat) (i : Int32) (s : α), P s i → 0 ≤ i → i.toNatClampNeg + m = n.toNatClampNeg → E (pm_fo f m i s) → A s i
  | 0, i, s, hs, h0, hm, he => by
    have h1 := pi_tni hn0
    have h2 := pi_tni h0
    refine hA s i hs h0 (by rw [pi_le]; omega) ?_
    rw [if_pos (by rw [pi_le]; omega)]
    exact he
  | m + 1, i, s, hs, h0, hm, he => by
    have h1 := pi_tni hn0
    have h2 := pi_tni h0
    have e : i < n := by rw [pi_lt]; omega
    have e3 : (i + 1).toNatClampNeg = i.toNatClampNeg + 1 := pi_tn1 h0 (by grind)
    have e4 : 0 ≤ i + 1 := by grind
    refine hA s i hs h0 (Int32.le_of_lt e) ?_
    rw [if_neg (Int32.not_le.mpr e)]
    exact pm_for_imp hn0 hn hA hP m (i + 1) (f s i) (hP s i hs h0 e) e4 (by omega) he
def pf_day (t : Int32) (str : Nat → Int32) (nH : Int32) (fell place roads fear house kind worth : Nat → Int32) (n : Int32) (g : Nat → Int32) : Nat → Int32 :=
  pm_fo (fun g h => pf_hg t nH fell place roads fear house kind worth n g (fun j => j) g h) nH.toNatClampNeg 0 (pm_fo (fun g h => pf_rg t str house kind worth n g (fun j => j) g h) nH.toNatClampNeg 0 g)
theorem hou_mono {tt c : Nat → Int32} {n t t2 : Int32} {place order coin fear fell stripped due roll rollday had : Nat → Int32} (h : pg_hou tt c n t place order coin fear fell stripped due roll rollday had) (h2 : t ≤ t2) : pg_hou tt c n t2 place order coin fear fell stripped due roll rollday had := by
  refine ⟨h.1, fun k hk => ?_⟩
  obtain ⟨g1, g2, g3, g4, g5, g6, g7⟩ := h.2 k hk
  exact ⟨g1, g2, g3, g4, Int32.le_trans g5 h2, g6, Int32.le_trans g7 h2⟩
theorem px_goOn {d L : Nat} {b : Bool} {I : Nat → Nat → Int32} {J : Nat → Nat → Int64} {Q : Int32 → Int64 → pm_H → Prop} {n nH : Int32} {house kind worth g shown : Nat → Int32} (h : pg_thi (I 16) (I 17) n nH house kind worth g shown) {t : Int32} {place order coin fear fell stripped due roll rollday had : Nat → Int32} (hh : pg_hou (I 14) (I 15) nH t place order coin fear fell stripped due roll rollday had) (ht : pg_tod (I 9 0) t) {roads : Nat → Int32} (hr : pg_roa (I 10) (I 11) roads) (ht1 : t < 3599) (hq : ∀ c, pg_thi (I 16) c n nH house kind worth (pf_day (t + 1) stripped nH fell place roads fear house kind worth n g) shown → Q 0 0 (pm_Gb L b, pm_r (pm_u I 9 0 (t + 1)) 17 c, J)) : pm_wc pm_code pm_meta (d + 3) 35 [.ref 9] (pm_Gb L b, I, J) Q := by
  have hnH := hou_n hh
  have hl : nH < 2147483647 := pi_ltb (Int32.lt_of_le_of_lt hnH.2 (by decide : (8 : Int32) < 100)) (by decide)
  have hle : t ≤ t + 1 := by grind
  have hh2 := hou_mono hh hle
  have htd : pg_tod (t + 1) (t + 1) := ⟨rfl, by have := ht.2.1; grind, by grind⟩
  have e1 := ht.1
  rw [pb_35_0, e1]
  generalize hI1 : pm_u I 9 0 (t + 1) = I1 at hq ⊢
  have r9 : I1 9 0 = t + 1 := by subst hI1; simp only [pm_u_row, pm_zr_row, pm_r_row, pm_w_at, Nat.reduceEqDiff, Nat.reduceLT, ite_true, ite_false, if_true, if_false, ite_self]
  have r16 : I1 16 = I 16 := by subst hI1; simp only [pm_u_row, pm_zr_row, pm_r_row, pm_w_at, Nat.reduceEqDiff, Nat.reduceLT, ite_true, ite_false, if_true, if_false, ite_self]
  have r17 : I1 17 = I 17 := by subst hI1; simp only [pm_u_row, pm_zr_row, pm_r_row, pm_w_at, Nat.reduceEqDiff, Nat.reduceLT, ite_true, ite_false, if_true, if_false, ite_self]
  have r14 : I1 14 = I 14 := by subst hI1; simp only [pm_u_row, pm_zr_row, pm_r_row, pm_w_at, Nat.reduceEqDiff, Nat.reduceLT, ite_true, ite_false, if_true, if_false, ite_self]
  have r15 : I1 15 = I 15 := by subst hI1; simp only [pm_u_row, pm_zr_row, pm_r_row, pm_w_at, Nat.reduceEqDiff, Nat.reduceLT, ite_true, ite_false, if_true, if_false, ite_self]
  have r10 : I1 10 = I 10 := by subst hI1; simp only [pm_u_row, pm_zr_row, pm_r_row, pm_w_at, Nat.reduceEqDiff, Nat.reduceLT, ite_true, ite_false, if_true, if_false, ite_self]
  have r11 : I1 11 = I 11 := by subst hI1; simp only [pm_u_row, pm_zr_row, pm_r_row, pm_w_at, Nat.reduceEqDiff, Nat.reduceLT, ite_true, ite_false, if_true, if_false, ite_self]
  have cnt := hh.1.2
  rw [← pm_r_self I1 17, r17]
  refine pm_for_imp (α := Nat → Int32) (A := fun g i => ∀ c, pg_thi (I 16) c n nH house kind worth g shown → pm_wp pm_code pm_meta (d + 3) 35 12 ([.ref 9, .int i], [], (pm_Gb L b, pm_r I1 17 c, J)) Q) (E := fun g => ∀ c, pg_thi (I 16) c n nH house kind worth g shown → pm_wp pm_code pm_meta (d + 3) 35 36 ([.ref 9, .int 0], [], (pm_Gb L b, pm_r I1 17 c, J)) Q) (f := fun g h => pf_rg (t + 1) stripped house kind worth n g (fun j => j) g h) (P := fun _ _ => True) hnH.1 hl (fun g i _ h0 hin hA c hc => ?_) (fun _ _ _ _ _ => trivial) nH.toNatClampNeg 0 g trivial (Int32.le_refl 0) (by simp) ?_ (I 17) h
  · have q3 : pg_thi ((pm_r I1 17 c) 16) ((pm_r I1 17 c) 17) n nH house kind worth g shown := by simp only [pm_r_row, Nat.reduceEqDiff, if_true, if_false, r16]; exact hc
    have q4 : pg_hou ((pm_r I1 17 c) 14) ((pm_r I1 17 c) 15) nH (t + 1) place order coin fear fell stripped due roll rollday had := by simp only [pm_r_row, Nat.reduceEqDiff, if_true, if_false, r14, r15]; exact hh2
    have q5 : pg_tod ((pm_r I1 17 c) 9 0) (t + 1) := by simp only [pm_r_row, Nat.reduceEqDiff, if_true, if_false, r9]; exact htd
    rw [pb_35_12]
    by_cases hi : nH ≤ i
    · rw [if_pos hi] at hA
      simp only [q4.1.2, hi, if_true, pb_35_34]
      exact hA c hc
    · rw [if_neg hi] at hA
      have h1 := Int32.not_le.mp hi
      simp only [q4.1.2, hi, if_false, pb_35_23, px_rot q3 q4 q5 h0 h1, pb_35_28]
      have q6 := hA _ (thi_rg hc (t + 1) stripped i)
      simp only [pm_r_row, Nat.reduceEqDiff, if_true, if_false]
      rw [show pm_r (pm_r I1 17 c) 17 (pf_rg (t + 1) stripped house kind worth n g (fun j => 5 * j + 3) c i) = pm_r I1 17 (pf_rg (t + 1) stripped house kind worth n g (fun j => 5 * j + 3) c i) from by funext a; simp only [pm_r_row]; split <;> rfl]
      exact q6
  · intro c hc
    refine pm_for_imp (α := Nat → Int32) (A := fun g i => ∀ c, pg_thi (I 16) c n nH house kind worth g shown → pm_wp pm_code pm_meta (d + 3) 35 36 ([.ref 9, .int i], [], (pm_Gb L b, pm_r I1 17 c, J)) Q) (E := fun g => ∀ c, pg_thi (I 16) c n nH house kind worth g shown → Q 0 0 (pm_Gb L b, pm_r I1 17 c, J)) (f := fun g h => pf_hg (t + 1) nH fell place roads fear house kind worth n g (fun j => j) g h) (P := fun _ _ => True) hnH.1 hl (fun g i _ h0 hin hA c hc => ?_) (fun _ _ _ _ _ => trivial) nH.toNatClampNeg 0 _ trivial (Int32.le_refl 0) (by simp) (fun c hc => hq c hc) c hc
    have q3 : pg_thi ((pm_r I1 17 c) 16) ((pm_r I1 17 c) 17) n nH house kind worth g shown := by simp only [pm_r_row, Nat.reduceEqDiff, if_true, if_false, r16]; exact hc
    have q4 : pg_hou ((pm_r I1 17 c) 14) ((pm_r I1 17 c) 15) nH (t + 1) place order coin fear fell stripped due roll rollday had := by simp only [pm_r_row, Nat.reduceEqDiff, if_true, if_false, r14, r15]; exact hh2
    have q5 : pg_tod ((pm_r I1 17 c) 9 0) (t + 1) := by simp only [pm_r_row, Nat.reduceEqDiff, if_true, if_false, r9]; exact htd
    have q7 : pg_roa ((pm_r I1 17 c) 10) ((pm_r I1 17 c) 11) roads := by simp only [pm_r_row, Nat.reduceEqDiff, if_true, if_false, r10, r11]; exact hr
    rw [pb_35_36]
    by_cases hi : nH ≤ i
    · rw [if_pos hi] at hA
      simp only [q4.1.2, hi, if_true, pb_35_83]
      exact hA c hc
    · rw [if_neg hi] at hA
      have h1 := Int32.not_le.mp hi
      have q6 := hA _ (thi_hg hc (t + 1) nH fell place roads fear i)
      have rr : ∀ z, pm_r (pm_r I1 17 c) 17 z = pm_r I1 17 z := by intro z; funext a; simp only [pm_r_row]; split <;> rfl
      unfold pf_hg at q6
      by_cases c1 : 0 ≤ fell i.toNatClampNeg
      · simp only [q4.1.2, hi, px_fallen q4 h0 h1, c1, pb_35_47, pb_35_52, pb_35_77, not_true_eq_false, false_and, Int32.reduceLE, Int32.reduceLT, pi_lt0, pm_b_eq0, pm_b_eq1, ite_not, pm_k0, pm_k1, pm_b_fit, true_and, and_true, not_true_eq_false, not_false_eq_true, ite_true, ite_false, if_true, if_false] at q6 ⊢
        exact q6
      · simp only [q4.1.2, hi, px_fallen q4 h0 h1, c1, pb_35_47, pb_35_52, pb_35_55, not_false_eq_true, true_and, Int32.reduceLE, Int32.reduceLT, pi_lt0, pm_b_eq0, pm_b_eq1, ite_not, pm_k0, pm_k1, pm_b_fit, true_and, and_true, not_true_eq_false, not_false_eq_true, ite_true, ite_false, if_true, if_false] at q6 ⊢
        refine (px_heard (d := d) q4 q7 q5 h0 h1).mpr ?_
        rw [if_neg c1, pb_35_60, px_hou_3 q4, pm_at_in h0 h1, pb_35_69]
        by_cases c2 : fear i.toNatClampNeg ≤ pm_fo (fun s k => if ¬ k = i ∧ 0 ≤ fell k.toNatClampNeg ∧ fell k.toNatClampNeg + roads (10 * (place i.toNatClampNeg).toNatClampNeg + (place k.toNatClampNeg).toNatClampNeg) ≤ t + 1 then s + 1 else s) nH.toNatClampNeg 0 (0 : Int32)
        · rw [if_neg (Int32.not_lt.mpr c2), pb_35_72, px_hide q3, pb_35_77]
          rw [if_pos c2] at q6
          simp only [pm_r_row, Nat.reduceEqDiff, if_true, if_false]
          rw [rr]
          exact q6
        · rw [if_pos (Int32.not_le.mp c2), pb_35_77]
          rw [if_neg c2] at q6
          exact q6

