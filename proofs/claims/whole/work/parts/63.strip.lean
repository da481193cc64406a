/-! strip. -/
theorem pn_1 (a : Nat) : (a = a + 1) = False := eq_false (by omega)
theorem px_melt {d L : Nat} {b : Bool} {I : Nat → Nat → Int32} {J : Nat → Nat → Int64} {x n nH : Int32} {house kind worth is shown : Nat → Int32} {Q : Int32 → Int64 → pm_H → Prop} (h : pg_thi (I 16) (I 17) n nH house kind worth is shown) : ∃ c' : Nat → Int32, pg_thi (I 16) c' n nH house kind worth (pm_fo (fun (s : (Nat → Int32) × Int32) i => if house i.toNatClampNeg = x ∧ kind i.toNatClampNeg = 3 ∧ s.1 i.toNatClampNeg = 0 then (pm_w s.1 i.toNatClampNeg 3, s.2 + worth i.toNatClampNeg) else s) n.toNatClampNeg 0 (is, 0)).1 shown ∧ (pm_wc pm_code pm_meta (d + 2) 38 [.ref 9, .int x] (pm_Gb L b, I, J) Q ↔ Q (pm_fo (fun (s : (Nat → Int32) × Int32) i => if house i.toNatClampNeg = x ∧ kind i.toNatClampNeg = 3 ∧ s.1 i.toNatClampNeg = 0 then (pm_w s.1 i.toNatClampNeg 3, s.2 + worth i.toNatClampNeg) else s) n.toNatClampNeg 0 (is, 0)).2 0 (pm_Gb L b, pm_r I 17 c', J)) := by
  have hn := thi_n h
  have hl : n < 2147483647 := pi_ltb (Int32.lt_of_le_of_lt hn.2 (by decide : (24 : Int32) < 100)) (by decide)
  let f : ((Nat → Int32) × ((Nat → Int32) × Int32)) → Int32 → ((Nat → Int32) × ((Nat → Int32) × Int32)) := fun s i => if house i.toNatClampNeg = x ∧ kind i.toNatClampNeg = 3 ∧ s.2.1 i.toNatClampNeg = 0 then (pm_w s.1 (5 * i.toNatClampNeg + 3) 3, (pm_w s.2.1 i.toNatClampNeg 3, s.2.2 + worth i.toNatClampNeg)) else s
  have hP : ∀ (s : (Nat → Int32) × ((Nat → Int32) × Int32)) (i : Int32), pg_thi (I 16) s.1 n nH house kind worth s.2.1 shown → 0 ≤ i → i < n → pg_thi (I 16) (f s i).1 n nH house kind worth (f s i).2.1 shown := by
    intro s i hs h0 h1
    show pg_thi (I 16) (ite _ _ _ : (Nat → Int32) × ((Nat → Int32) × Int32)).1 n nH house kind worth (ite _ _ _ : (Nat → Int32) × ((Nat → Int32) × Int32)).2.1 shown
    split
    · exact thi_set3 hs
    · exact hs
  have key := pm_for_aux (A := fun (s : (Nat → Int32) × ((Nat → Int32) × Int32)) i => pm_wp pm_code pm_meta (d + 2) 38 4 ([.ref 9, .int x, .int s.2.2, .int i], [], (pm_Gb L b, pm_r I 17 s.1, J)) Q) (E := fun s => Q s.2.2 0 (pm_Gb L b, pm_r I 17 s.1, J)) (f := f) (P := fun s _ => pg_thi (I 16) s.1 n nH house kind worth s.2.1 shown) hn.1 hl (fun s i hs h0 _ => ?_) (fun s i hs h0 h1 => hP s i hs h0 h1) n.toNatClampNeg 0 (I 17, is, 0) h (Int32.le_refl 0) (by simp)
  · have hinv := pm_fd_inv (f := f) (P := fun s _ => pg_thi (I 16) s.1 n nH house kind worth s.2.1 shown) hn.1 hl (fun s i hs h0 h1 => hP s i hs h0 h1) n.toNatClampNeg 0 (I 17, is, 0) h (Int32.le_refl 0) (by simp)
    have pr : ∀ (m : Nat) (i : Int32) (s : (Nat → Int32) × ((Nat → Int32) × Int32)), (pm_fo f m i s).2 = pm_fo (fun (s : (Nat → Int32) × Int32) i => if house i.toNatClampNeg = x ∧ kind i.toNatClampNeg = 3 ∧ s.1 i.toNatClampNeg = 0 then (pm_w s.1 i.toNatClampNeg 3, s.2 + worth i.toNatClampNeg) else s) m i s.2 := by
      intro m
      induction m with
      | zero => intro i s; rfl
      | succ m ih =>
        intro i s
        unfold pm_fo
        rw [ih]
        congr 1
        show (ite _ _ _ : (Nat → Int32) × ((Nat → Int32) × Int32)).2 = _
        split <;> rfl
    refine ⟨(pm_fo f n.toNatClampNeg 0 (I 17, is, 0)).1, ?_, ?_⟩
    · rw [← pr n.toNatClampNeg 0 (I 17, is, 0)]; exact hinv
    · rw [← pr n.toNatClampNeg 0 (I 17, is, 0)]
      rw [pm_r_self] at key
      rw [pb_38_0]
      exact key
  · obtain ⟨c, g, s⟩ := s
    have hq : pg_thi ((pm_r I 17 c) 16) ((pm_r I 17 c) 17) n nH house kind worth g shown := hs
    rw [pb_38_4]
    have hc := hq.1.2
    by_cases hi : n ≤ i
    · simp only [hc, hi, pb_38_0, pb_38_69, pb_38_15, pb_38_24, pb_38_28, pb_38_63, pb_38_35, pb_38_38, pb_38_41, pb_38_51, pb_38_61, Int32.reduceLE, Int32.reduceLT, pi_lt0, pm_b_eq0, pm_b_eq1, ite_not, pm_k0, pm_k1, pm_b_fit, true_and, and_true, not_true_eq_false, not_false_eq_true, ite_true, ite_false, if_true, if_false]
    · have h1 := Int32.not_le.mp hi
      have e2 : c (5 * i.toNatClampNeg + 2) = worth i.toNatClampNeg := (hs.2 _ (pi_tnlt h0 h1)).1.2.2.1
      have ht : pm_ti (I 16) 5 24 := hs.1.1
      have hc' : I 16 3 = n := hs.1.2
      by_cases c1 : kind i.toNatClampNeg = 3
      · have c1' := eq_true c1
        by_cases c2 : house i.toNatClampNeg = x ∧ g i.toNatClampNeg = 0
        · have c3 := eq_true c2.1
          have c4 := eq_true c2.2
          simp only [hc, hc', ht, hi, px_isSo hq, px_thi_1 hq, pt_set_16_3, pt_get_16_2, pm_at_in, h0, h1, c1', c3, c4, e2, and_self, f, pm_u_r, pn_1, pb_38_0, pb_38_69, pb_38_15, pb_38_24, pb_38_28, pb_38_63, pb_38_35, pb_38_38, pb_38_41, pb_38_51, pb_38_61, pm_u_row, pm_zr_row, pm_r_row, pm_w_at, Nat.reduceEqDiff, Nat.reduceLT, ite_true, ite_false, if_true, if_false, ite_self, Int32.reduceLE, Int32.reduceLT, pi_lt0, pm_b_eq0, pm_b_eq1, ite_not, pm_k0, pm_k1, pm_b_fit, true_and, and_true, not_true_eq_false, not_false_eq_true, ite_true, ite_false, if_true, if_false]
        · have c3 : (house i.toNatClampNeg = x ∧ kind i.toNatClampNeg = 3 ∧ g i.toNatClampNeg = 0) = False := by simp only [c1', true_and]; exact eq_false c2
          have c2' := eq_false c2
          simp only [hc, hi, px_isSo hq, px_thi_1 hq, pm_at_in, h0, h1, c1', c2', c3, f, pb_38_0, pb_38_69, pb_38_15, pb_38_24, pb_38_28, pb_38_63, pb_38_35, pb_38_38, pb_38_41, pb_38_51, pb_38_61, Int32.reduceLE, Int32.reduceLT, pi_lt0, pm_b_eq0, pm_b_eq1, ite_not, pm_k0, pm_k1, pm_b_fit, true_and, and_true, not_true_eq_false, not_false_eq_true, ite_true, ite_false, if_true, if_false]
      · have c1' := eq_false c1
        simp only [hc, hi, px_thi_1 hq, pm_at_in, h0, h1, c1', f, pb_38_0, pb_38_69, pb_38_15, pb_38_24, pb_38_28, pb_38_63, pb_38_35, pb_38_38, pb_38_41, pb_38_51, pb_38_61, false_and, and_false, Int32.reduceLE, Int32.reduceLT, pi_lt0, pm_b_eq0, pm_b_eq1, ite_not, pm_k0, pm_k1, pm_b_fit, true_and, and_true, not_true_eq_false, not_false_eq_true, ite_true, ite_false, if_true, if_false]
theorem pr_strip_loop {d L : Nat} {b : Bool} {I : Nat → Nat → Int32} {J : Nat → Nat → Int64} {x : Int32} {Q : Int32 → Int64 → pm_H → Prop} (h0 : 0 ≤ I 80 3) (h24 : I 80 3 ≤ 24) : pm_wp pm_code pm_meta d 204 38 ([.ref 79, .int x, .int 0, .int 0], [], (pm_Gb L b, I, J)) Q ↔ Q (pm_fo (fun (s : (Nat → Int32) × Int32) i => if I 94 i.toNatClampNeg = x ∧ I 95 i.toNatClampNeg = 3 ∧ s.1 i.toNatClampNeg = 0 then (pm_w s.1 i.toNatClampNeg 3, s.2 + I 96 i.toNatClampNeg) else s) (I 80 3).toNatClampNeg 0 (I 97, 0)).2 0 (pm_Gb L b, pm_r I 97 (pm_fo (fun (s : (Nat → Int32) × Int32) i => if I 94 i.toNatClampNeg = x ∧ I 95 i.toNatClampNeg = 3 ∧ s.1 i.toNatClampNeg = 0 then (pm_w s.1 i.toNatClampNeg 3, s.2 + I 96 i.toNatClampNeg) else s) (I 80 3).toNatClampNeg 0 (I 97, 0)).1, J) := by
  have key := pm_for (A := fun (s : (Nat → Int32) × Int32) i => pm_wp pm_code pm_meta d 204 38 ([.ref 79, .int x, .int s.2, .int i], [], (pm_Gb L b, pm_r I 97 s.1, J)) Q) (E := fun s => Q s.2 0 (pm_Gb L b, pm_r I 97 s.1, J)) (f := fun (s : (Nat → Int32) × Int32) i => if I 94 i.toNatClampNeg = x ∧ I 95 i.toNatClampNeg = 3 ∧ s.1 i.toNatClampNeg = 0 then (pm_w s.1 i.toNatClampNeg 3, s.2 + I 96 i.toNatClampNeg) else s) (n := I 80 3) h0 (pi_ltb (Int32.lt_of_le_of_lt h24 (by decide : (24 : Int32) < 100)) (by decide)) (fun s i h0 => ?_) (I 97, 0)
  · rw [pm_r_self] at key
    exact key
  · obtain ⟨g, s⟩ := s
    rw [pb_204_38]
    by_cases hi : I 80 3 ≤ i
    · simp only [hi, pb_204_0, pb_204_5, pb_204_8, pb_204_10, pb_204_22, pb_204_19, pb_204_99, pb_204_48, pb_204_58, pb_204_93, pb_204_68, pb_204_77, pm_u_row, pm_zr_row, pm_r_row, pm_w_at, Nat.reduceEqDiff, Nat.reduceLT, ite_true, ite_false, if_true, if_false, ite_self, Int32.reduceLE, Int32.reduceLT, pi_lt0, pm_b_eq0, pm_b_eq1, ite_not, pm_k0, pm_k1, pm_b_fit, true_and, and_true, not_true_eq_false, not_false_eq_true, ite_true, ite_false, if_true, if_false]
    · have h1 := Int32.not_le.mp hi
      have i1 := pi_in24 h24 h0 h1
      by_cases c1 : I 94 i.toNatClampNeg = x
      · have c1' := eq_true c1
        by_cases c2 : I 95 i.toNatClampNeg = 3
        · have c2' := eq_true c2
          by_cases c3 : g i.toNatClampNeg = 0
          · have c3' := eq_true c3
            simp only [hi, i1, c1', c2', c3', and_self, pm_u_r, pb_204_0, pb_204_5, pb_204_8, pb_204_10, pb_204_22, pb_204_19, pb_204_99, pb_204_48, pb_204_58, pb_204_93, pb_204_68, pb_204_77, pm_u_row, pm_zr_row, pm_r_row, pm_w_at, Nat.reduceEqDiff, Nat.reduceLT, ite_true, ite_false, if_true, if_false, ite_self, Int32.reduceLE, Int32.reduceLT, pi_lt0, pm_b_eq0, pm_b_eq1, ite_not, pm_k0, pm_k1, pm_b_fit, true_and, and_true, not_true_eq_false, not_false_eq_true, ite_true, ite_false, if_true, if_false]
          · have c3' := eq_false c3
            simp only [hi, i1, c1', c2', c3', and_false, and_self, pb_204_0, pb_204_5, pb_204_8, pb_204_10, pb_204_22, pb_204_19, pb_204_99, pb_204_48, pb_204_58, pb_204_93, pb_204_68, pb_204_77, pm_u_row, pm_zr_row, pm_r_row, pm_w_at, Nat.reduceEqDiff, Nat.reduceLT, ite_true, ite_false, if_true, if_false, ite_self, Int32.reduceLE, Int32.reduceLT, pi_lt0, pm_b_eq0, pm_b_eq1, ite_not, pm_k0, pm_k1, pm_b_fit, true_and, and_true, not_true_eq_false, not_false_eq_true, ite_true, ite_false, if_true, if_false]
        · have c2' := eq_false c2
          simp only [hi, i1, c1', c2', false_and, and_false, pb_204_0, pb_204_5, pb_204_8, pb_204_10, pb_204_22, pb_204_19, pb_204_99, pb_204_48, pb_204_58, pb_204_93, pb_204_68, pb_204_77, pm_u_row, pm_zr_row, pm_r_row, pm_w_at, Nat.reduceEqDiff, Nat.reduceLT, ite_true, ite_false, if_true, if_false, ite_self, Int32.reduceLE, Int32.reduceLT, pi_lt0, pm_b_eq0, pm_b_eq1, ite_not, pm_k0, pm_k1, pm_b_fit, true_and, and_true, not_true_eq_false, not_false_eq_true, ite_true, ite_false, if_true, if_false]
      · have c1' := eq_false c1
        simp only [hi, i1, c1', false_and, pb_204_0, pb_204_5, pb_204_8, pb_204_10, pb_204_22, pb_204_19, pb_204_99, pb_204_48, pb_204_58, pb_204_93, pb_204_68, pb_204_77, pm_u_row, pm_zr_row, pm_r_row, pm_w_at, Nat.reduceEqDiff, Nat.reduceLT, ite_true, ite_false, if_true, if_false, ite_self, Int32.reduceLE, Int32.reduceLT, pi_lt0, pm_b_eq0, pm_b_eq1, ite_not, pm_k0, pm_k1, pm_b_fit, true_and, and_true, not_true_eq_false, not_false_eq_true, ite_true, ite_false, if_true, if_false]
theorem fo_inv {α : Type} {f : α → Int32 → α} (P : α → Prop) (h : ∀ s i, P s → P (f s i)) : ∀ (m : Nat) (i : Int32) (s : α), P s → P (pm_fo f m i s)
  | 0, _, _, hs => hs
  | m + 1, i, s, hs => fo_inv P h m (i + 1) (f s i) (h s i hs)
theorem strip_2 {x : Int32} {house kind worth g : Nat → Int32} (m : Nat) (i s : Int32) (k : Nat) (hk : g k = 2) : (pm_fo (fun (s : (Nat → Int32) × Int32) i => if house i.toNatClampNeg = x ∧ kind i.toNatClampNeg = 3 ∧ s.1 i.toNatClampNeg = 0 then (pm_w s.1 i.toNatClampNeg 3, s.2 + worth i.toNatClampNeg) else s) m i (g, s)).1 k = 2 := by
  refine fo_inv (P := fun (s : (Nat → Int32) × Int32) => s.1 k = 2) (fun s i hs => ?_) m i (g, s) hk
  split
  · next c =>
    show pm_w s.1 i.toNatClampNeg 3 k = 2
    rw [pm_w_at]
    split
    · next e => subst e; rw [c.2.2] at hs; exact absurd hs (by decide)
    · exact hs
  · exact hs
theorem po_strip {d L : Nat} {b : Bool} {I : Nat → Nat → Int32} {J : Nat → Nat → Int64} {X : Nat → Int32} {x1 : Int32} (hI : pm_inv X b I J) : pm_wc pm_code pm_meta (d + 20) 126 [.ref 8, .int x1] (pm_Gb L b, I, J) (fun v _ H => pm_wc pm_code pm_meta (d + 20) 204 [.ref 79, .int x1] H (pm_ok X L b v)) := by
  have hI0 := hI
  obtain ⟨⟨htod, hroa, hper, hhou, hthi, hrig, hver, hsea, hsta, hlot, hbuy, hdee, hple⟩, htxt, hrid, htmp, hshe, hshf, htra, hk, hkept, hcon⟩ := hI
  have hn1 := (per_n hper).1
  have hn2 := (hou_n hhou).1
  have hn3 := (thi_n hthi).1
  have hn4 := (rig_n hrig).1
  by_cases h1 : 0 ≤ x1 ∧ x1 < I 80 2
  · have a1 := h1.1
    have a2 := h1.2
    have i1 := hou_in hhou a1 a2
    have hn24 := (thi_n hthi).2
    have ht0 := htod.2.1
    have ht1 := Int32.le_refl (I 80 0)
    have ht2 := pm_no_nn ht0
    by_cases hf : 0 ≤ I 89 x1.toNatClampNeg
    · simp only [pb_126_0, pb_126_11, pb_126_14, pb_126_16, pb_126_28, pb_126_36, pb_126_33, pb_126_55, pb_126_63, pb_204_0, pb_204_5, pb_204_8, pb_204_10, pb_204_22, pb_204_19, pb_204_99, pb_204_48, pb_204_58, pb_204_93, pb_204_68, pb_204_77, px_has_hou hhou, px_hou_0 hhou, px_hou_1 hhou, px_hou_2 hhou, px_hou_3 hhou, px_hou_4 hhou, px_hou_5 hhou, px_hou_6 hhou, px_hou_7 hhou, px_hou_8 hhou, px_hou_9 hhou, pr_isHouse, pm_no_pos, pm_no_eq, pm_at_in, hn2, a1, a2, i1, hf, and_self, Int32.reduceLE, Int32.reduceLT, pi_lt0, pm_b_eq0, pm_b_eq1, ite_not, pm_k0, pm_k1, pm_b_fit, true_and, and_true, not_true_eq_false, not_false_eq_true, ite_true, ite_false, if_true, if_false]
      repeat' ((first | with_reducible refine pm_ite_eq (fun _ => ?_) (fun _ => ?_) | with_reducible refine pm_ite_intro (fun _ => ?_) (fun _ => ?_)))
      all_goals first | with_reducible exact pm_okJ hI0 | (exfalso; grind)
    · have hfn : pm_no (I 89 x1.toNatClampNeg) = -3 := if_pos (Int32.not_le.mp hf)
      simp only [pb_126_0, pb_126_11, pb_126_14, pb_126_16, pb_126_28, pb_126_36, pb_126_33, pb_126_55, pb_126_63, px_has_hou hhou, px_hou_0 hhou, px_hou_1 hhou, px_hou_2 hhou, px_hou_3 hhou, px_hou_4 hhou, px_hou_5 hhou, px_hou_6 hhou, px_hou_7 hhou, px_hou_8 hhou, px_hou_9 hhou, pt_full_14, pt_set_14_0, pt_set_14_1, pt_set_14_2, pt_set_14_3, pt_set_14_4, pt_set_14_5, pt_set_14_6, pt_set_14_7, pt_set_14_8, pt_set_14_9, pt_add_14, hfn, pm_at_in, a1, a2, and_self, htod.1, hper.1.2, hhou.1.2, hthi.1.2, hrig.1.2, hver.1.2.1, hsta.1.2, hlot.1.2, hbuy.1.2, hdee.1.2, hper.1.1, hhou.1.1, hthi.1.1, hrig.1.1, hver.1.1, hver.1.2.2.1, hver.1.2.2.2, hsea.1.1, hroa.1.1, hsta.1.1, hlot.1.1, hbuy.1.1, hdee.1.1, ti_inc, pm_u_row, pm_zr_row, pm_r_row, pm_w_at, Nat.reduceEqDiff, Nat.reduceLT, ite_true, ite_false, if_true, if_false, ite_self, Int32.reduceLE, Int32.reduceLT, pi_lt0, pm_b_eq0, pm_b_eq1, ite_not, pm_k0, pm_k1, pm_b_fit, true_and, and_true, not_true_eq_false, not_false_eq_true, ite_true, ite_false, if_true, if_false]
      generalize hI1 : pm_u I 15 (10 * x1.toNatClampNeg + 5) (I 80 0) = I1
      have hthi1 : pg_thi (I1 16) (I1 17) (I 80 3) (I 80 2) (I 94) (I 95) (I 96) (I 97) (I 98) := by subst hI1; exact hthi
      obtain ⟨c', hc1, hc2⟩ := px_melt (d := d + 17) (L := L) (b := b) (J := J) (x := x1) (Q := fun v w H => pm_wp pm_code pm_meta (d + 19 + 1) 126 63 ([.ref 8, .int x1], [.int v], H) (fun v _ H => pm_wc pm_code pm_meta (d + 20) 204 [.ref 79, .int x1] H (pm_ok X L b v))) hthi1
      refine hc2.mpr ?_
      subst hI1
      simp only [pm_u_row, pm_zr_row, pm_r_row, pm_w_at, Nat.reduceEqDiff, Nat.reduceLT, ite_true, ite_false, if_true, if_false, ite_self] at hc1
      simp only [pb_126_0, pb_126_11, pb_126_14, pb_126_16, pb_126_28, pb_126_36, pb_126_33, pb_126_55, pb_126_63, pm_u_row, pm_zr_row, pm_r_row, pm_w_at, Nat.reduceEqDiff, Nat.reduceLT, ite_true, ite_false, if_true, if_false, ite_self, Int32.reduceLE, Int32.reduceLT, pi_lt0, pm_b_eq0, pm_b_eq1, ite_not, pm_k0, pm_k1, pm_b_fit, true_and, and_true, not_true_eq_false, not_false_eq_true, ite_true, ite_false, if_true, if_false]
      simp only [pb_204_0, pb_204_5, pb_204_8, pb_204_10, pb_204_22, pb_204_19, pb_204_99, pb_204_48, pb_204_58, pb_204_93, pb_204_68, pb_204_77, pr_isHouse, pr_strip_loop, hn24, hn3, hn2, a1, a2, i1, hf, and_self, pm_u_row, pm_zr_row, pm_r_row, pm_w_at, Nat.reduceEqDiff, Nat.reduceLT, ite_true, ite_false, if_true, if_false, ite_self, Int32.reduceLE, Int32.reduceLT, pi_lt0, pm_b_eq0, pm_b_eq1, ite_not, pm_k0, pm_k1, pm_b_fit, true_and, and_true, not_true_eq_false, not_false_eq_true, ite_true, ite_false, if_true, if_false]
      refine pm_okI2 (by with_reducible rfl) ?_
      simp only [pm_inv, pm_land, pm_u_row, pm_zr_row, pm_w_at, Nat.reduceEqDiff, ite_true, ite_false, pm_kept_u, pm_kept_z, pm_kept_r, pm_r_row, ne_eq, not_false_eq_true, Nat.reduceLT, hcon, htod, hroa, hper, hhou, hthi, hrig, hver, hsea, hsta, hlot, hbuy, hdee, hple, htxt, hrid, htmp, hshe, hshf, htra, hk, hkept, true_and, and_true]
      exact ⟨hou_set5 hhou ht0 ht1 ht2, hc1, ple_is hple (fun k hk => strip_2 _ _ _ k hk)⟩
  · simp only [pb_126_0, pb_126_11, pb_126_14, pb_126_16, pb_126_28, pb_126_36, pb_126_33, pb_126_55, pb_126_63, pb_204_0, pb_204_5, pb_204_8, pb_204_10, pb_204_22, pb_204_19, pb_204_99, pb_204_48, pb_204_58, pb_204_93, pb_204_68, pb_204_77, px_has_hou hhou, px_hou_0 hhou, px_hou_1 hhou, px_hou_2 hhou, px_hou_3 hhou, px_hou_4 hhou, px_hou_5 hhou, px_hou_6 hhou, px_hou_7 hhou, px_hou_8 hhou, px_hou_9 hhou, pr_isHouse, hn2, h1, Int32.reduceLE, Int32.reduceLT, pi_lt0, pm_b_eq0, pm_b_eq1, ite_not, pm_k0, pm_k1, pm_b_fit, true_and, and_true, not_true_eq_false, not_false_eq_true, ite_true, ite_false, if_true, if_false]
    with_reducible exact pm_okJ hI0

