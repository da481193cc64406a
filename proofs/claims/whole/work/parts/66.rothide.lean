/-! rot and hide. -/
def pf_rg (t : Int32) (str house kind worth : Nat → Int32) (n : Int32) (g : Nat → Int32) (ix : Nat → Nat) (c : Nat → Int32) (h : Int32) : Nat → Int32 :=
  if 0 ≤ str h.toNatClampNeg ∧ ¬ t - str h.toNatClampNeg = 0 ∧ (t - str h.toNatClampNeg) - (t - str h.toNatClampNeg) / 10 * 10 = 0 then
    (if pm_fo (pf_rot h house kind worth g) n.toNatClampNeg 0 (-3) = -3 then c else pm_w c (ix (pm_fo (pf_rot h house kind worth g) n.toNatClampNeg 0 (-3)).toNatClampNeg) 5)
  else c
def pf_hg (t nH : Int32) (fell place roads fear house kind worth : Nat → Int32) (n : Int32) (g : Nat → Int32) (ix : Nat → Nat) (c : Nat → Int32) (h : Int32) : Nat → Int32 :=
  if ¬ 0 ≤ fell h.toNatClampNeg ∧ fear h.toNatClampNeg ≤ pm_fo (fun s i => if ¬ i = h ∧ 0 ≤ fell i.toNatClampNeg ∧ fell i.toNatClampNeg + roads (10 * (place h.toNatClampNeg).toNatClampNeg + (place i.toNatClampNeg).toNatClampNeg) ≤ t then s + 1 else s) nH.toNatClampNeg 0 0 then
    (if pm_fo (pf_hid h house kind worth g) n.toNatClampNeg 0 (-3) = -3 then c else pm_w c (ix (pm_fo (pf_hid h house kind worth g) n.toNatClampNeg 0 (-3)).toNatClampNeg) 1)
  else c
theorem thi_rg {tt c : Nat → Int32} {n nH : Int32} {house kind worth g shown : Nat → Int32} (h : pg_thi tt c n nH house kind worth g shown) (t : Int32) (str : Nat → Int32) (x : Int32) : pg_thi tt (pf_rg t str house kind worth n g (fun j => 5 * j + 3) c x) n nH house kind worth (pf_rg t str house kind worth n g (fun j => j) g x) shown := by
  unfold pf_rg
  split
  · split
    · exact h
    · exact thi_set3 h
  · exact h
theorem thi_hg {tt c : Nat → Int32} {n nH : Int32} {house kind worth g shown : Nat → Int32} (h : pg_thi tt c n nH house kind worth g shown) (t nH' : Int32) (fell place roads fear : Nat → Int32) (x : Int32) : pg_thi tt (pf_hg t nH' fell place roads fear house kind worth n g (fun j => 5 * j + 3) c x) n nH house kind worth (pf_hg t nH' fell place roads fear house kind worth n g (fun j => j) g x) shown := by
  unfold pf_hg
  split
  · split
    · exact h
    · exact thi_set3 h
  · exact h
theorem px_rot {d L : Nat} {b : Bool} {I : Nat → Nat → Int32} {J : Nat → Nat → Int64} {x : Int32} {Q : Int32 → Int64 → pm_H → Prop} {n nH : Int32} {house kind worth g shown : Nat → Int32} (h : pg_thi (I 16) (I 17) n nH house kind worth g shown) {t : Int32} {place order coin fear fell stripped due roll rollday had : Nat → Int32} (hh : pg_hou (I 14) (I 15) nH t place order coin fear fell stripped due roll rollday had) (ht : pg_tod (I 9 0) t) (h0 : 0 ≤ x) (h1 : x < nH) : pm_wc pm_code pm_meta (d + 2) 36 [.ref 9, .int x] (pm_Gb L b, I, J) Q ↔ Q 0 0 (pm_Gb L b, pm_r I 17 (pf_rg t stripped house kind worth n g (fun j => 5 * j + 3) (I 17) x), J) := by
  have hp := hou_pl hh h0 h1
  have hn := thi_n h
  have hl : n < 2147483647 := pi_ltb (Int32.lt_of_le_of_lt hn.2 (by decide : (24 : Int32) < 100)) (by decide)
  have hb := pf_rtb x house kind worth g hn.1 hl
  have e1 := ht.1
  have e2 : (t ≤ stripped x.toNatClampNeg) = (t - stripped x.toNatClampNeg = 0) := by
    have a1 := hp.2.2.2.2.1
    have a2 := hp.2.2.2.2.2
    have a3 := ht.2.1
    have a4 := ht.2.2
    exact propext ⟨fun g => by grind, fun g => by grind⟩
  unfold pf_rg
  by_cases c1 : 0 ≤ stripped x.toNatClampNeg
  · have c1n : (stripped x.toNatClampNeg = -3) = False := by grind
    by_cases c2 : t - stripped x.toNatClampNeg = 0
    · have c2' := eq_true c2
      simp only [pb_36_0, pb_36_9, pb_36_36, pb_36_16, pb_36_24, pb_36_37, pb_36_134, pb_36_55, pb_36_144, pb_36_65, pb_36_72, pb_36_69, pb_36_80, pb_36_128, pb_36_83, pb_36_97, pb_36_91, pb_36_125, pb_36_103, pb_36_94, pb_36_113, pb_36_122, px_hou_5 hh, pm_at_in, h0, h1, pm_no_pos, c1, c1n, e1, e2, c2', pm_r_self, and_self, and_true, true_and, false_and, and_false, ite_true, ite_false, if_true, if_false, not_true_eq_false, not_false_eq_true, Int32.reduceLE, Int32.reduceLT, pi_lt0, pm_b_eq0, pm_b_eq1, ite_not, pm_k0, pm_k1, pm_b_fit, true_and, and_true, not_true_eq_false, not_false_eq_true, ite_true, ite_false, if_true, if_false]
    · have c2' := eq_false c2
      by_cases c3 : (t - stripped x.toNatClampNeg) - (t - stripped x.toNatClampNeg) / 10 * 10 = 0
      · have c3' := eq_true c3
        simp only [pb_36_0, pb_36_9, pb_36_36, pb_36_16, pb_36_24, pb_36_37, pb_36_55, pb_36_65, pb_36_72, pb_36_69, pb_36_80, pb_36_128, pb_36_83, pb_36_97, pb_36_91, pb_36_125, pb_36_103, pb_36_94, pb_36_113, pb_36_122, px_hou_5 hh, pm_at_in, h0, h1, pm_no_pos, c1, c1n, e1, e2, c2', c3', px_rot_loop h, and_self, and_true, true_and, false_and, and_false, ite_true, ite_false, if_true, if_false, not_true_eq_false, not_false_eq_true, Int32.reduceLE, Int32.reduceLT, pi_lt0, pm_b_eq0, pm_b_eq1, ite_not, pm_k0, pm_k1, pm_b_fit, true_and, and_true, not_true_eq_false, not_false_eq_true, ite_true, ite_false, if_true, if_false]
        generalize pm_fo (pf_rot x house kind worth g) n.toNatClampNeg 0 (-3) = best at hb ⊢
        rcases hb with hb | ⟨b0, b1⟩
        · subst hb
          have n1 : ¬ ((0 : Int32) ≤ -3) := by decide
          simp only [pb_36_134, pb_36_144, pt_set_16_3 h.1.1, h.1.2, n1, false_and, if_false, if_true, pm_r_self]
        · have b3 : (best = -3) = False := by grind
          simp only [pb_36_134, pb_36_144, pt_set_16_3 h.1.1, h.1.2, b0, b1, b3, and_self, if_false, if_true, pm_u_to_r]
      · have c3' := eq_false c3
        simp only [pb_36_0, pb_36_9, pb_36_36, pb_36_16, pb_36_24, pb_36_37, pb_36_55, pb_36_65, pb_36_72, pb_36_69, pb_36_80, pb_36_128, pb_36_83, pb_36_97, pb_36_91, pb_36_125, pb_36_103, pb_36_94, pb_36_113, pb_36_122, px_hou_5 hh, pm_at_in, h0, h1, pm_no_pos, c1, c1n, e1, e2, c2', c3', pm_r_self, and_self, and_true, true_and, false_and, and_false, ite_true, ite_false, if_true, if_false, not_true_eq_false, not_false_eq_true, Int32.reduceLE, Int32.reduceLT, pi_lt0, pm_b_eq0, pm_b_eq1, ite_not, pm_k0, pm_k1, pm_b_fit, true_and, and_true, not_true_eq_false, not_false_eq_true, ite_true, ite_false, if_true, if_false]
  · simp only [pb_36_0, pb_36_9, pb_36_36, pb_36_16, pb_36_24, pb_36_37, pb_36_134, pb_36_55, pb_36_144, pb_36_65, pb_36_72, pb_36_69, pb_36_80, pb_36_128, pb_36_83, pb_36_97, pb_36_91, pb_36_125, pb_36_103, pb_36_94, pb_36_113, pb_36_122, px_hou_5 hh, pm_at_in, h0, h1, pm_no_eq, c1, pm_r_self, and_self, and_true, true_and, false_and, and_false, ite_true, ite_false, if_true, if_false, not_true_eq_false, not_false_eq_true, Int32.reduceLE, Int32.reduceLT, pi_lt0, pm_b_eq0, pm_b_eq1, ite_not, pm_k0, pm_k1, pm_b_fit, true_and, and_true, not_true_eq_false, not_false_eq_true, ite_true, ite_false, if_true, if_false]
theorem px_hide {d L : Nat} {b : Bool} {I : Nat → Nat → Int32} {J : Nat → Nat → Int64} {x : Int32} {Q : Int32 → Int64 → pm_H → Prop} {n nH : Int32} {house kind worth g shown : Nat → Int32} (h : pg_thi (I 16) (I 17) n nH house kind worth g shown) : pm_wc pm_code pm_meta (d + 2) 37 [.ref 9, .int x] (pm_Gb L b, I, J) Q ↔ Q 0 0 (pm_Gb L b, pm_r I 17 (if pm_fo (pf_hid x house kind worth g) n.toNatClampNeg 0 (-3) = -3 then I 17 else pm_w (I 17) (5 * (pm_fo (pf_hid x house kind worth g) n.toNatClampNeg 0 (-3)).toNatClampNeg + 3) 1), J) := by
  have hn := thi_n h
  have hl : n < 2147483647 := pi_ltb (Int32.lt_of_le_of_lt hn.2 (by decide : (24 : Int32) < 100)) (by decide)
  have hb := pf_hdb x house kind worth g hn.1 hl
  rw [pb_37_0, px_hid_loop h]
  generalize pm_fo (pf_hid x house kind worth g) n.toNatClampNeg 0 (-3) = best at hb ⊢
  have one : ∀ v, pm_wp pm_code pm_meta (d + 2) 37 87 ([.ref 9, .int x, .int best, .int n, pm_vl v], [], (pm_Gb L b, I, J)) Q ↔ Q 0 0 (pm_Gb L b, pm_r I 17 (if best = -3 then I 17 else pm_w (I 17) (5 * best.toNatClampNeg + 3) 1), J) := by
    intro v
    rcases hb with hb | ⟨b0, b1⟩
    · subst hb
      have n1 : ¬ ((0 : Int32) ≤ -3) := by decide
      cases v <;> simp only [pm_vl_n, pm_vl_s, pb_37_87, pb_37_97, pb_37_87b, pb_37_97b, pt_set_16_3 h.1.1, h.1.2, n1, false_and, if_false, if_true, pm_r_self]
    · have b3 : (best = -3) = False := by grind
      cases v <;> simp only [pm_vl_n, pm_vl_s, pb_37_87, pb_37_97, pb_37_87b, pb_37_97b, pt_set_16_3 h.1.1, h.1.2, b0, b1, b3, and_self, if_false, if_true, pm_u_to_r]
  exact ⟨fun ⟨v, hv⟩ => (one v).mp hv, fun hq => ⟨none, (one none).mpr hq⟩⟩
theorem pr_rots {d L : Nat} {b : Bool} {I : Nat → Nat → Int32} {J : Nat → Nat → Int64} {x : Int32} {Q : Int32 → Int64 → pm_H → Prop} (h3 : 0 ≤ I 80 3) (h24 : I 80 3 ≤ 24) (i1 : pm_in x 8 = true) : pm_wc pm_code pm_meta d 190 [.ref 79, .int x] (pm_Gb L b, I, J) Q ↔ Q 0 0 (pm_Gb L b, pm_r I 97 (pf_rg (I 80 0) (I 89) (I 94) (I 95) (I 96) (I 80 3) (I 97) (fun j => j) (I 97) x), J) := by
  unfold pf_rg
  by_cases c1 : 0 ≤ I 89 x.toNatClampNeg
  · by_cases c2 : I 80 0 - I 89 x.toNatClampNeg = 0
    · have c2' := eq_true c2
      simp only [pb_190_0, pb_190_34, pb_190_23, pb_190_27, pb_190_35, pb_190_138, pb_190_52, pb_190_151, pb_190_144, pb_190_63, pb_190_99, pb_190_74, pb_190_100, pb_190_95, pb_190_84, pb_190_132, pb_190_107, pb_190_129, pb_190_113, pb_190_138b, pb_190_52b, pb_190_151b, pb_190_144b, pb_190_63b, pb_190_99b, pb_190_74b, pb_190_100b, pb_190_95b, pb_190_84b, i1, c1, c2', pm_r_self, and_self, and_true, true_and, false_and, and_false, ite_true, ite_false, if_true, if_false, not_true_eq_false, not_false_eq_true, Int32.reduceLE, Int32.reduceLT, pi_lt0, pm_b_eq0, pm_b_eq1, ite_not, pm_k0, pm_k1, pm_b_fit, true_and, and_true, not_true_eq_false, not_false_eq_true, ite_true, ite_false, if_true, if_false]
    · have c2' := eq_false c2
      by_cases c3 : (I 80 0 - I 89 x.toNatClampNeg) - (I 80 0 - I 89 x.toNatClampNeg) / 10 * 10 = 0
      · have c3' := eq_true c3
        simp only [pb_190_0, pb_190_34, pb_190_23, pb_190_27, pb_190_35, pb_190_138, pb_190_52, pb_190_151, pb_190_144, pb_190_63, pb_190_99, pb_190_74, pb_190_100, pb_190_95, pb_190_84, pb_190_132, pb_190_107, pb_190_129, pb_190_113, pb_190_138b, pb_190_52b, pb_190_151b, pb_190_144b, pb_190_63b, pb_190_99b, pb_190_74b, pb_190_100b, pb_190_95b, pb_190_84b, i1, c1, c2', c3', pr_rt_loop h3 h24, and_self, and_true, true_and, false_and, and_false, ite_true, ite_false, if_true, if_false, not_true_eq_false, not_false_eq_true, Int32.reduceLE, Int32.reduceLT, pi_lt0, pm_b_eq0, pm_b_eq1, ite_not, pm_k0, pm_k1, pm_b_fit, true_and, and_true, not_true_eq_false, not_false_eq_true, ite_true, ite_false, if_true, if_false]
      · have c3' := eq_false c3
        simp only [pb_190_0, pb_190_34, pb_190_23, pb_190_27, pb_190_35, pb_190_138, pb_190_52, pb_190_151, pb_190_144, pb_190_63, pb_190_99, pb_190_74, pb_190_100, pb_190_95, pb_190_84, pb_190_132, pb_190_107, pb_190_129, pb_190_113, pb_190_138b, pb_190_52b, pb_190_151b, pb_190_144b, pb_190_63b, pb_190_99b, pb_190_74b, pb_190_100b, pb_190_95b, pb_190_84b, i1, c1, c2', c3', pm_r_self, and_self, and_true, true_and, false_and, and_false, ite_true, ite_false, if_true, if_false, not_true_eq_false, not_false_eq_true, Int32.reduceLE, Int32.reduceLT, pi_lt0, pm_b_eq0, pm_b_eq1, ite_not, pm_k0, pm_k1, pm_b_fit, true_and, and_true, not_true_eq_false, not_false_eq_true, ite_true, ite_false, if_true, if_false]
  · simp only [pb_190_0, pb_190_34, pb_190_23, pb_190_27, pb_190_35, pb_190_138, pb_190_52, pb_190_151, pb_190_144, pb_190_63, pb_190_99, pb_190_74, pb_190_100, pb_190_95, pb_190_84, pb_190_132, pb_190_107, pb_190_129, pb_190_113, pb_190_138b, pb_190_52b, pb_190_151b, pb_190_144b, pb_190_63b, pb_190_99b, pb_190_74b, pb_190_100b, pb_190_95b, pb_190_84b, i1, c1, pm_r_self, and_self, and_true, true_and, false_and, and_false, ite_true, ite_false, if_true, if_false, not_true_eq_false, not_false_eq_true, Int32.reduceLE, Int32.reduceLT, pi_lt0, pm_b_eq0, pm_b_eq1, ite_not, pm_k0, pm_k1, pm_b_fit, true_and, and_true, not_true_eq_false, not_false_eq_true, ite_true, ite_false, if_true, if_false]
theorem pr_hides {d L : Nat} {b : Bool} {I : Nat → Nat → Int32} {J : Nat → Nat → Int64} {x : Int32} {Q : Int32 → Int64 → pm_H → Prop} (h2 : 0 ≤ I 80 2) (h8 : I 80 2 ≤ 8) (hp : ∀ i : Int32, 0 ≤ i → i < I 80 2 → 0 ≤ I 84 i.toNatClampNeg ∧ I 84 i.toNatClampNeg ≤ 9) (h3 : 0 ≤ I 80 3) (h24 : I 80 3 ≤ 24) (h0 : 0 ≤ x) (h1 : x < I 80 2) : pm_wc pm_code pm_meta (d + 2) 192 [.ref 79, .int x] (pm_Gb L b, I, J) Q ↔ Q 0 0 (pm_Gb L b, pm_r I 97 (pf_hg (I 80 0) (I 80 2) (I 88) (I 84) (I 81) (I 87) (I 94) (I 95) (I 96) (I 80 3) (I 97) (fun j => j) (I 97) x), J) := by
  have i1 := pi_in8 h8 h0 h1
  unfold pf_hg
  by_cases c1 : 0 ≤ I 88 x.toNatClampNeg
  · simp only [pb_192_0, pb_192_5, pb_192_8, pb_192_22, pb_192_13, pb_192_23, pb_192_118, pb_192_38, pb_192_131, pb_192_124, pb_192_48, pb_192_81, pb_192_68, pb_192_58, pb_192_82, pb_192_77, pb_192_112, pb_192_89, pb_192_110, pb_192_95, pb_192_118b, pb_192_38b, pb_192_131b, pb_192_124b, pb_192_48b, pb_192_81b, pb_192_68b, pb_192_58b, pb_192_82b, pb_192_77b, pr_hasFallen, i1, c1, pm_r_self, and_self, and_true, true_and, false_and, and_false, ite_true, ite_false, if_true, if_false, not_true_eq_false, not_false_eq_true, Int32.reduceLE, Int32.reduceLT, pi_lt0, pm_b_eq0, pm_b_eq1, ite_not, pm_k0, pm_k1, pm_b_fit, true_and, and_true, not_true_eq_false, not_false_eq_true, ite_true, ite_false, if_true, if_false]
  · simp only [pb_192_0, pb_192_5, pb_192_8, pb_192_22, pb_192_13, pb_192_23, pb_192_118, pb_192_38, pb_192_131, pb_192_124, pb_192_48, pb_192_81, pb_192_68, pb_192_58, pb_192_82, pb_192_77, pb_192_112, pb_192_89, pb_192_110, pb_192_95, pb_192_118b, pb_192_38b, pb_192_131b, pb_192_124b, pb_192_48b, pb_192_81b, pb_192_68b, pb_192_58b, pb_192_82b, pb_192_77b, pr_hasFallen, i1, c1, and_self, and_true, true_and, false_and, and_false, ite_true, ite_false, if_true, if_false, not_true_eq_false, not_false_eq_true, Int32.reduceLE, Int32.reduceLT, pi_lt0, pm_b_eq0, pm_b_eq1, ite_not, pm_k0, pm_k1, pm_b_fit, true_and, and_true, not_true_eq_false, not_false_eq_true, ite_true, ite_false, if_true, if_false]
    refine (pr_heardBy (d := d) h2 h8 hp h0 h1).trans ?_
    generalize pm_fo (fun s i => if ¬ i = x ∧ 0 ≤ I 88 i.toNatClampNeg ∧ I 88 i.toNatClampNeg + I 81 (10 * (I 84 x.toNatClampNeg).toNatClampNeg + (I 84 i.toNatClampNeg).toNatClampNeg) ≤ I 80 0 then s + 1 else s) (I 80 2).toNatClampNeg 0 (0 : Int32) = hd
    by_cases c2 : I 87 x.toNatClampNeg ≤ hd
    · simp only [pb_192_0, pb_192_5, pb_192_8, pb_192_22, pb_192_13, pb_192_23, pb_192_118, pb_192_38, pb_192_131, pb_192_124, pb_192_48, pb_192_81, pb_192_68, pb_192_58, pb_192_82, pb_192_77, pb_192_112, pb_192_89, pb_192_110, pb_192_95, pb_192_118b, pb_192_38b, pb_192_131b, pb_192_124b, pb_192_48b, pb_192_81b, pb_192_68b, pb_192_58b, pb_192_82b, pb_192_77b, i1, c2, pr_hd_loop h3 h24, and_self, and_true, true_and, false_and, and_false, ite_true, ite_false, if_true, if_false, not_true_eq_false, not_false_eq_true, Int32.reduceLE, Int32.reduceLT, pi_lt0, pm_b_eq0, pm_b_eq1, ite_not, pm_k0, pm_k1, pm_b_fit, true_and, and_true, not_true_eq_false, not_false_eq_true, ite_true, ite_false, if_true, if_false]
    · simp only [pb_192_0, pb_192_5, pb_192_8, pb_192_22, pb_192_13, pb_192_23, pb_192_118, pb_192_38, pb_192_131, pb_192_124, pb_192_48, pb_192_81, pb_192_68, pb_192_58, pb_192_82, pb_192_77, pb_192_112, pb_192_89, pb_192_110, pb_192_95, pb_192_118b, pb_192_38b, pb_192_131b, pb_192_124b, pb_192_48b, pb_192_81b, pb_192_68b, pb_192_58b, pb_192_82b, pb_192_77b, i1, c2, pm_r_self, and_self, and_true, true_and, false_and, and_false, ite_true, ite_false, if_true, if_false, not_true_eq_false, not_false_eq_true, Int32.reduceLE, Int32.reduceLT, pi_lt0, pm_b_eq0, pm_b_eq1, ite_not, pm_k0, pm_k1, pm_b_fit, true_and, and_true, not_true_eq_false, not_false_eq_true, ite_true, ite_false, if_true, if_false]

