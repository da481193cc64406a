/-! A NEW ROW of a table: Table.add. -/
theorem pm_zr_nil (f : Nat → Nat → Int32) (c p : Nat) : pm_zr f c p p = f := by
  funext a j; unfold pm_zr; rw [if_neg (by omega)]
theorem pm_zr_step (f : Nat → Nat → Int32) (c p q : Nat) (h : p < q) : pm_zr (pm_u f c p 0) c (p + 1) q = pm_zr f c p q := by
  funext a j; unfold pm_zr pm_u
  by_cases h1 : a = c
  · subst h1
    by_cases h2 : j = p
    · subst h2; simp [h]
    · by_cases h3 : p ≤ j ∧ j < q
      · rw [if_pos (by omega), if_pos (by omega)]
      · rw [if_neg (by omega), if_neg (by omega), if_neg (by omega)]
  · simp [h1]
theorem pm_add_loop {A E : Int32 → (Nat → Nat → Int32) → Prop} {t c n : Nat} {r : Nat → Int32} (htc : t ≠ c)
    (hA : ∀ x I, I t = r → (A x I ↔ if (r 3 + 1) * r 1 ≤ x then E x I else pm_in x n = true ∧ A (x + 1) (pm_u I c x.toNatClampNeg 0))) :
    ∀ (m : Nat) (x : Int32) (I : Nat → Nat → Int32), I t = r → 0 ≤ x → x.toInt + m = ((r 3 + 1) * r 1).toInt → ((r 3 + 1) * r 1).toInt ≤ n → (A x I ↔ E ((r 3 + 1) * r 1) (pm_zr I c x.toNatClampNeg (x.toNatClampNeg + m)))
  | 0, x, I, hr, h0, hm, hn => by
    have e : (r 3 + 1) * r 1 = x := by rw [pi_eq]; omega
    rw [hA x I hr, if_pos (by rw [e]; exact Int32.le_refl x), e, Nat.add_zero, pm_zr_nil]
  | m + 1, x, I, hr, h0, hm, hn => by
    have hb := pi_hi ((r 3 + 1) * r 1)
    have h0' := h0
    rw [pi_le, pi_0] at h0'
    have e1 : (x + 1).toInt = x.toInt + 1 := by rw [pi_add (by rw [pi_1]; omega) (by rw [pi_1]; omega), pi_1]
    have e2 : (x + 1).toNatClampNeg = x.toNatClampNeg + 1 := by rw [pi_tn, pi_tn, e1]; omega
    rw [hA x I hr, if_neg (by rw [pi_le]; omega)]
    rw [pm_add_loop htc hA m (x + 1) (pm_u I c x.toNatClampNeg 0) (by rw [pm_u_row, if_neg htc, hr]) (by rw [pi_le, pi_0]; omega) (by omega) hn]
    rw [e2, pm_zr_step _ _ _ _ (by omega), show x.toNatClampNeg + 1 + m = x.toNatClampNeg + (m + 1) from by omega]
    exact ⟨fun h => h.2, fun h => ⟨pi_in h0 (by omega), h⟩⟩
theorem pm_inc_sub (x : Int32) : x + 1 - 1 = x := by rw [Int32.add_sub_cancel]
theorem pc_ch_85 : pm_chain (pm_code 85) = true := by decide +kernel
theorem pb_85_0 {d L : Nat} {b : Bool} {I : Nat → Nat → Int32} {J : Nat → Nat → Int64}  {Q : Int32 → Int64 → pm_H → Prop} : pm_wc pm_code pm_meta d 85 [.ref 12] (pm_Gb L b, I, J) Q ↔ if (I 12 3) < (I 12 2) then pm_wp pm_code pm_meta d 85 14 ([.ref 12, pm_unset], [], (pm_Gb L b, I, J)) Q else pm_wp pm_code pm_meta d 85 11 ([.ref 12, pm_unset], [], (pm_Gb L b, I, J)) Q := (pm_bk_iff pc_ch_85 5 0 _).trans (pm_brd)
theorem pb_85_14 {d L : Nat} {b : Bool} {I : Nat → Nat → Int32} {J : Nat → Nat → Int64}  {Q : Int32 → Int64 → pm_H → Prop} : pm_wp pm_code pm_meta d 85 14 ([.ref 12, pm_unset], [], (pm_Gb L b, I, J)) Q ↔ pm_wp pm_code pm_meta d 85 24 ([.ref 12, .int ((I 12 3) * (I 12 1))], [], (pm_Gb L b, I, J)) Q := (pm_bk_iff pc_ch_85 6 14 _).trans (Iff.rfl)
theorem pb_85_11 {d L : Nat} {b : Bool} {I : Nat → Nat → Int32} {J : Nat → Nat → Int64}  {Q : Int32 → Int64 → pm_H → Prop} : pm_wp pm_code pm_meta d 85 11 ([.ref 12, pm_unset], [], (pm_Gb L b, I, J)) Q ↔ Q (-2) 0 (pm_Gb L b, I, J) := (pm_bk_iff pc_ch_85 2 11 _).trans (pm_tt)
theorem pb_85_24 {d L : Nat} {b : Bool} {I : Nat → Nat → Int32} {J : Nat → Nat → Int64} {x1 : Int32} {Q : Int32 → Int64 → pm_H → Prop} : pm_wp pm_code pm_meta d 85 24 ([.ref 12, .int x1], [], (pm_Gb L b, I, J)) Q ↔ if (((I 12 3) + 1) * (I 12 1)) ≤ x1 then pm_wp pm_code pm_meta d 85 52 ([.ref 12, .int x1], [], (pm_Gb L b, I, J)) Q else pm_wp pm_code pm_meta d 85 39 ([.ref 12, .int x1], [], (pm_Gb L b, I, J)) Q := (pm_bk_iff pc_ch_85 9 24 _).trans (pm_brd)
theorem pb_85_52 {d L : Nat} {b : Bool} {I : Nat → Nat → Int32} {J : Nat → Nat → Int64} {x1 : Int32} {Q : Int32 → Int64 → pm_H → Prop} : pm_wp pm_code pm_meta d 85 52 ([.ref 12, .int x1], [], (pm_Gb L b, I, J)) Q ↔ Q (((pm_u I 12 3 ((I 12 3) + 1)) 12 3) - 1) 0 (pm_Gb L b, (pm_u I 12 3 ((I 12 3) + 1)), J) := (pm_bk_iff pc_ch_85 11 52 _).trans (pm_tt)
theorem pb_85_39 {d L : Nat} {b : Bool} {I : Nat → Nat → Int32} {J : Nat → Nat → Int64} {x1 : Int32} {Q : Int32 → Int64 → pm_H → Prop} : pm_wp pm_code pm_meta d 85 39 ([.ref 12, .int x1], [], (pm_Gb L b, I, J)) Q ↔ pm_in x1 32 = true ∧ (pm_wp pm_code pm_meta d 85 24 ([.ref 12, .int (x1 + 1)], [], (pm_Gb L b, (pm_u I 13 x1.toNatClampNeg 0), J)) Q) := (pm_bk_iff pc_ch_85 7 39 _).trans (and_congr Iff.rfl (Iff.rfl))
theorem pt_addf_12 {d L : Nat} {b : Bool} {I : Nat → Nat → Int32} {J : Nat → Nat → Int64} {Q : Int32 → Int64 → pm_H → Prop} (ht : pm_ti (I 12) 2 16) (hn : ¬ I 12 3 < 16) : pm_wc pm_code pm_meta d 85 [.ref 12] (pm_Gb L b, I, J) Q ↔ Q (-2) 0 (pm_Gb L b, I, J) := by
  rw [pb_85_0, ht.2.1, if_neg hn, pb_85_11]
theorem pt_add_12 {d L : Nat} {b : Bool} {I : Nat → Nat → Int32} {J : Nat → Nat → Int64} {Q : Int32 → Int64 → pm_H → Prop} (ht : pm_ti (I 12) 2 16) (hn : I 12 3 < 16) : pm_wc pm_code pm_meta d 85 [.ref 12] (pm_Gb L b, I, J) Q ↔ Q (I 12 3) 0 (pm_Gb L b, pm_u (pm_zr I 13 (2 * (I 12 3).toNatClampNeg) (2 * (I 12 3).toNatClampNeg + 2)) 12 3 (I 12 3 + 1), J) := by
  obtain ⟨h1, h2, h3, h4⟩ := ht
  have h3' := h3
  have hn' := hn
  rw [pi_le, pi_0] at h3'
  rw [pi_lt] at hn'
  have hl : (16 : Int32).toInt = 16 := rfl
  have hw : (2 : Int32).toInt = 2 := rfl
  have g1 : (I 12 3 + 1).toInt = (I 12 3).toInt + 1 := by rw [pi_add (by rw [pi_1]; omega) (by rw [pi_1]; omega), pi_1]
  have g2 : ((I 12 3 + 1) * I 12 1).toInt = ((I 12 3).toInt + 1) * 2 := by rw [h1, pi_mul (by rw [g1, hw]; omega) (by rw [g1, hw]; omega), g1, hw]
  have g3 : (I 12 3 * I 12 1).toInt = (I 12 3).toInt * 2 := by rw [h1, pi_mul (by rw [hw]; omega) (by rw [hw]; omega), hw]
  have g4 : (I 12 3 * I 12 1).toNatClampNeg = 2 * (I 12 3).toNatClampNeg := by rw [pi_tn, pi_tn, g3]; omega
  rw [pb_85_0, h2, if_pos hn, pb_85_14]
  have hA : ∀ x I', I' 12 = I 12 → (pm_wp pm_code pm_meta d 85 24 ([.ref 12, .int x], [], (pm_Gb L b, I', J)) Q ↔ if (I 12 3 + 1) * I 12 1 ≤ x then pm_wp pm_code pm_meta d 85 52 ([.ref 12, .int x], [], (pm_Gb L b, I', J)) Q else pm_in x 32 = true ∧ pm_wp pm_code pm_meta d 85 24 ([.ref 12, .int (x + 1)], [], (pm_Gb L b, pm_u I' 13 x.toNatClampNeg 0, J)) Q) := by
    intro x I' hr
    rw [pb_85_24, hr, pb_85_39]
  rw [pm_add_loop (A := fun x I' => pm_wp pm_code pm_meta d 85 24 ([.ref 12, .int x], [], (pm_Gb L b, I', J)) Q) (E := fun x I' => pm_wp pm_code pm_meta d 85 52 ([.ref 12, .int x], [], (pm_Gb L b, I', J)) Q) (by decide) hA 2 _ I rfl (by rw [pi_le, pi_0]; omega) (by omega) (by omega)]
  have hz : ∀ p q, pm_zr I 13 p q 12 = I 12 := by intro p q; rw [pm_zr_row, if_neg (by decide)]
  rw [pb_85_52, g4, hz, pm_u_row, if_pos rfl, pm_w_at, if_pos rfl, pm_inc_sub]
theorem pb_85v1_0 {d L : Nat} {b : Bool} {I : Nat → Nat → Int32} {J : Nat → Nat → Int64}  {Q : Int32 → Int64 → pm_H → Prop} : pm_wc pm_code pm_meta d 85 [.ref 14] (pm_Gb L b, I, J) Q ↔ if (I 14 3) < (I 14 2) then pm_wp pm_code pm_meta d 85 14 ([.ref 14, pm_unset], [], (pm_Gb L b, I, J)) Q else pm_wp pm_code pm_meta d 85 11 ([.ref 14, pm_unset], [], (pm_Gb L b, I, J)) Q := (pm_bk_iff pc_ch_85 5 0 _).trans (pm_brd)
theorem pb_85v1_14 {d L : Nat} {b : Bool} {I : Nat → Nat → Int32} {J : Nat → Nat → Int64}  {Q : Int32 → Int64 → pm_H → Prop} : pm_wp pm_code pm_meta d 85 14 ([.ref 14, pm_unset], [], (pm_Gb L b, I, J)) Q ↔ pm_wp pm_code pm_meta d 85 24 ([.ref 14, .int ((I 14 3) * (I 14 1))], [], (pm_Gb L b, I, J)) Q := (pm_bk_iff pc_ch_85 6 14 _).trans (Iff.rfl)
theorem pb_85v1_11 {d L : Nat} {b : Bool} {I : Nat → Nat → Int32} {J : Nat → Nat → Int64}  {Q : Int32 → Int64 → pm_H → Prop} : pm_wp pm_code pm_meta d 85 11 ([.ref 14, pm_unset], [], (pm_Gb L b, I, J)) Q ↔ Q (-2) 0 (pm_Gb L b, I, J) := (pm_bk_iff pc_ch_85 2 11 _).trans (pm_tt)
theorem pb_85v1_24 {d L : Nat} {b : Bool} {I : Nat → Nat → Int32} {J : Nat → Nat → Int64} {x1 : Int32} {Q : Int32 → Int64 → pm_H → Prop} : pm_wp pm_code pm_meta d 85 24 ([.ref 14, .int x1], [], (pm_Gb L b, I, J)) Q ↔ if (((I 14 3) + 1) * (I 14 1)) ≤ x1 then pm_wp pm_code pm_meta d 85 52 ([.ref 14, .int x1], [], (pm_Gb L b, I, J)) Q else pm_wp pm_code pm_meta d 85 39 ([.ref 14, .int x1], [], (pm_Gb L b, I, J)) Q := (pm_bk_iff pc_ch_85 9 24 _).trans (pm_brd)
theorem pb_85v1_52 {d L : Nat} {b : Bool} {I : Nat → Nat → Int32} {J : Nat → Nat → Int64} {x1 : Int32} {Q : Int32 → Int64 → pm_H → Prop} : pm_wp pm_code pm_meta d 85 52 ([.ref 14, .int x1], [], (pm_Gb L b, I, J)) Q ↔ Q (((pm_u I 14 3 ((I 14 3) + 1)) 14 3) - 1) 0 (pm_Gb L b, (pm_u I 14 3 ((I 14 3) + 1)), J) := (pm_bk_iff pc_ch_85 11 52 _).trans (pm_tt)
theorem pb_85v1_39 {d L : Nat} {b : Bool} {I : Nat → Nat → Int32} {J : Nat → Nat → Int64} {x1 : Int32} {Q : Int32 → Int64 → pm_H → Prop} : pm_wp pm_code pm_meta d 85 39 ([.ref 14, .int x1], [], (pm_Gb L b, I, J)) Q ↔ pm_in x1 80 = true ∧ (pm_wp pm_code pm_meta d 85 24 ([.ref 14, .int (x1 + 1)], [], (pm_Gb L b, (pm_u I 15 x1.toNatClampNeg 0), J)) Q) := (pm_bk_iff pc_ch_85 7 39 _).trans (and_congr Iff.rfl (Iff.rfl))
theorem pt_addf_14 {d L : Nat} {b : Bool} {I : Nat → Nat → Int32} {J : Nat → Nat → Int64} {Q : Int32 → Int64 → pm_H → Prop} (ht : pm_ti (I 14) 10 8) (hn : ¬ I 14 3 < 8) : pm_wc pm_code pm_meta d 85 [.ref 14] (pm_Gb L b, I, J) Q ↔ Q (-2) 0 (pm_Gb L b, I, J) := by
  rw [pb_85v1_0, ht.2.1, if_neg hn, pb_85v1_11]
theorem pt_add_14 {d L : Nat} {b : Bool} {I : Nat → Nat → Int32} {J : Nat → Nat → Int64} {Q : Int32 → Int64 → pm_H → Prop} (ht : pm_ti (I 14) 10 8) (hn : I 14 3 < 8) : pm_wc pm_code pm_meta d 85 [.ref 14] (pm_Gb L b, I, J) Q ↔ Q (I 14 3) 0 (pm_Gb L b, pm_u (pm_zr I 15 (10 * (I 14 3).toNatClampNeg) (10 * (I 14 3).toNatClampNeg + 10)) 14 3 (I 14 3 + 1), J) := by
  obtain ⟨h1, h2, h3, h4⟩ := ht
  have h3' := h3
  have hn' := hn
  rw [pi_le, pi_0] at h3'
  rw [pi_lt] at hn'
  have hl : (8 : Int32).toInt = 8 := rfl
  have hw : (10 : Int32).toInt = 10 := rfl
  have g1 : (I 14 3 + 1).toInt = (I 14 3).toInt + 1 := by rw [pi_add (by rw [pi_1]; omega) (by rw [pi_1]; omega), pi_1]
  have g2 : ((I 14 3 + 1) * I 14 1).toInt = ((I 14 3).toInt + 1) * 10 := by rw [h1, pi_mul (by rw [g1, hw]; omega) (by rw [g1, hw]; omega), g1, hw]
  have g3 : (I 14 3 * I 14 1).toInt = (I 14 3).toInt * 10 := by rw [h1, pi_mul (by rw [hw]; omega) (by rw [hw]; omega), hw]
  have g4 : (I 14 3 * I 14 1).toNatClampNeg = 10 * (I 14 3).toNatClampNeg := by rw [pi_tn, pi_tn, g3]; omega
  rw [pb_85v1_0, h2, if_pos hn, pb_85v1_14]
  have hA : ∀ x I', I' 14 = I 14 → (pm_wp pm_code pm_meta d 85 24 ([.ref 14, .int x], [], (pm_Gb L b, I', J)) Q ↔ if (I 14 3 + 1) * I 14 1 ≤ x then pm_wp pm_code pm_meta d 85 52 ([.ref 14, .int x], [], (pm_Gb L b, I', J)) Q else pm_in x 80 = true ∧ pm_wp pm_code pm_meta d 85 24 ([.ref 14, .int (x + 1)], [], (pm_Gb L b, pm_u I' 15 x.toNatClampNeg 0, J)) Q) := by
    intro x I' hr
    rw [pb_85v1_24, hr, pb_85v1_39]
  rw [pm_add_loop (A := fun x I' => pm_wp pm_code pm_meta d 85 24 ([.ref 14, .int x], [], (pm_Gb L b, I', J)) Q) (E := fun x I' => pm_wp pm_code pm_meta d 85 52 ([.ref 14, .int x], [], (pm_Gb L b, I', J)) Q) (by decide) hA 10 _ I rfl (by rw [pi_le, pi_0]; omega) (by omega) (by omega)]
  have hz : ∀ p q, pm_zr I 15 p q 14 = I 14 := by intro p q; rw [pm_zr_row, if_neg (by decide)]
  rw [pb_85v1_52, g4, hz, pm_u_row, if_pos rfl, pm_w_at, if_pos rfl, pm_inc_sub]
theorem pb_85v2_0 {d L : Nat} {b : Bool} {I : Nat → Nat → Int32} {J : Nat → Nat → Int64}  {Q : Int32 → Int64 → pm_H → Prop} : pm_wc pm_code pm_meta d 85 [.ref 16] (pm_Gb L b, I, J) Q ↔ if (I 16 3) < (I 16 2) then pm_wp pm_code pm_meta d 85 14 ([.ref 16, pm_unset], [], (pm_Gb L b, I, J)) Q else pm_wp pm_code pm_meta d 85 11 ([.ref 16, pm_unset], [], (pm_Gb L b, I, J)) Q := (pm_bk_iff pc_ch_85 5 0 _).trans (pm_brd)
theorem pb_85v2_14 {d L : Nat} {b : Bool} {I : Nat → Nat → Int32} {J : Nat → Nat → Int64}  {Q : Int32 → Int64 → pm_H → Prop} : pm_wp pm_code pm_meta d 85 14 ([.ref 16, pm_unset], [], (pm_Gb L b, I, J)) Q ↔ pm_wp pm_code pm_meta d 85 24 ([.ref 16, .int ((I 16 3) * (I 16 1))], [], (pm_Gb L b, I, J)) Q := (pm_bk_iff pc_ch_85 6 14 _).trans (Iff.rfl)
theorem pb_85v2_11 {d L : Nat} {b : Bool} {I : Nat → Nat → Int32} {J : Nat → Nat → Int64}  {Q : Int32 → Int64 → pm_H → Prop} : pm_wp pm_code pm_meta d 85 11 ([.ref 16, pm_unset], [], (pm_Gb L b, I, J)) Q ↔ Q (-2) 0 (pm_Gb L b, I, J) := (pm_bk_iff pc_ch_85 2 11 _).trans (pm_tt)
theorem pb_85v2_24 {d L : Nat} {b : Bool} {I : Nat → Nat → Int32} {J : Nat → Nat → Int64} {x1 : Int32} {Q : Int32 → Int64 → pm_H → Prop} : pm_wp pm_code pm_meta d 85 24 ([.ref 16, .int x1], [], (pm_Gb L b, I, J)) Q ↔ if (((I 16 3) + 1) * (I 16 1)) ≤ x1 then pm_wp pm_code pm_meta d 85 52 ([.ref 16, .int x1], [], (pm_Gb L b, I, J)) Q else pm_wp pm_code pm_meta d 85 39 ([.ref 16, .int x1], [], (pm_Gb L b, I, J)) Q := (pm_bk_iff pc_ch_85 9 24 _).trans (pm_brd)
theorem pb_85v2_52 {d L : Nat} {b : Bool} {I : Nat → Nat → Int32} {J : Nat → Nat → Int64} {x1 : Int32} {Q : Int32 → Int64 → pm_H → Prop} : pm_wp pm_code pm_meta d 85 52 ([.ref 16, .int x1], [], (pm_Gb L b, I, J)) Q ↔ Q (((pm_u I 16 3 ((I 16 3) + 1)) 16 3) - 1) 0 (pm_Gb L b, (pm_u I 16 3 ((I 16 3) + 1)), J) := (pm_bk_iff pc_ch_85 11 52 _).trans (pm_tt)
theorem pb_85v2_39 {d L : Nat} {b : Bool} {I : Nat → Nat → Int32} {J : Nat → Nat → Int64} {x1 : Int32} {Q : Int32 → Int64 → pm_H → Prop} : pm_wp pm_code pm_meta d 85 39 ([.ref 16, .int x1], [], (pm_Gb L b, I, J)) Q ↔ pm_in x1 120 = true ∧ (pm_wp pm_code pm_meta d 85 24 ([.ref 16, .int (x1 + 1)], [], (pm_Gb L b, (pm_u I 17 x1.toNatClampNeg 0), J)) Q) := (pm_bk_iff pc_ch_85 7 39 _).trans (and_congr Iff.rfl (Iff.rfl))
theorem pt_addf_16 {d L : Nat} {b : Bool} {I : Nat → Nat → Int32} {J : Nat → Nat → Int64} {Q : Int32 → Int64 → pm_H → Prop} (ht : pm_ti (I 16) 5 24) (hn : ¬ I 16 3 < 24) : pm_wc pm_code pm_meta d 85 [.ref 16] (pm_Gb L b, I, J) Q ↔ Q (-2) 0 (pm_Gb L b, I, J) := by
  rw [pb_85v2_0, ht.2.1, if_neg hn, pb_85v2_11]
theorem pt_add_16 {d L : Nat} {b : Bool} {I : Nat → Nat → Int32} {J : Nat → Nat → Int64} {Q : Int32 → Int64 → pm_H → Prop} (ht : pm_ti (I 16) 5 24) (hn : I 16 3 < 24) : pm_wc pm_code pm_meta d 85 [.ref 16] (pm_Gb L b, I, J) Q ↔ Q (I 16 3) 0 (pm_Gb L b, pm_u (pm_zr I 17 (5 * (I 16 3).toNatClampNeg) (5 * (I 16 3).toNatClampNeg + 5)) 16 3 (I 16 3 + 1), J) := by
  obtain ⟨h1, h2, h3, h4⟩ := ht
  have h3' := h3
  have hn' := hn
  rw [pi_le, pi_0] at h3'
  rw [pi_lt] at hn'
  have hl : (24 : Int32).toInt = 24 := rfl
  have hw : (5 : Int32).toInt = 5 := rfl
  have g1 : (I 16 3 + 1).toInt = (I 16 3).toInt + 1 := by rw [pi_add (by rw [pi_1]; omega) (by rw [pi_1]; omega), pi_1]
  have g2 : ((I 16 3 + 1) * I 16 1).toInt = ((I 16 3).toInt + 1) * 5 := by rw [h1, pi_mul (by rw [g1, hw]; omega) (by rw [g1, hw]; omega), g1, hw]
  have g3 : (I 16 3 * I 16 1).toInt = (I 16 3).toInt * 5 := by rw [h1, pi_mul (by rw [hw]; omega) (by rw [hw]; omega), hw]
  have g4 : (I 16 3 * I 16 1).toNatClampNeg = 5 * (I 16 3).toNatClampNeg := by rw [pi_tn, pi_tn, g3]; omega
  rw [pb_85v2_0, h2, if_pos hn, pb_85v2_14]
  have hA : ∀ x I', I' 16 = I 16 → (pm_wp pm_code pm_meta d 85 24 ([.ref 16, .int x], [], (pm_Gb L b, I', J)) Q ↔ if (I 16 3 + 1) * I 16 1 ≤ x then pm_wp pm_code pm_meta d 85 52 ([.ref 16, .int x], [], (pm_Gb L b, I', J)) Q else pm_in x 120 = true ∧ pm_wp pm_code pm_meta d 85 24 ([.ref 16, .int (x + 1)], [], (pm_Gb L b, pm_u I' 17 x.toNatClampNeg 0, J)) Q) := by
    intro x I' hr
    rw [pb_85v2_24, hr, pb_85v2_39]
  rw [pm_add_loop (A := fun x I' => pm_wp pm_code pm_meta d 85 24 ([.ref 16, .int x], [], (pm_Gb L b, I', J)) Q) (E := fun x I' => pm_wp pm_code pm_meta d 85 52 ([.ref 16, .int x], [], (pm_Gb L b, I', J)) Q) (by decide) hA 5 _ I rfl (by rw [pi_le, pi_0]; omega) (by omega) (by omega)]
  have hz : ∀ p q, pm_zr I 17 p q 16 = I 16 := by intro p q; rw [pm_zr_row, if_neg (by decide)]
  rw [pb_85v2_52, g4, hz, pm_u_row, if_pos rfl, pm_w_at, if_pos rfl, pm_inc_sub]
theorem pb_85v3_0 {d L : Nat} {b : Bool} {I : Nat → Nat → Int32} {J : Nat → Nat → Int64}  {Q : Int32 → Int64 → pm_H → Prop} : pm_wc pm_code pm_meta d 85 [.ref 18] (pm_Gb L b, I, J) Q ↔ if (I 18 3) < (I 18 2) then pm_wp pm_code pm_meta d 85 14 ([.ref 18, pm_unset], [], (pm_Gb L b, I, J)) Q else pm_wp pm_code pm_meta d 85 11 ([.ref 18, pm_unset], [], (pm_Gb L b, I, J)) Q := (pm_bk_iff pc_ch_85 5 0 _).trans (pm_brd)
theorem pb_85v3_14 {d L : Nat} {b : Bool} {I : Nat → Nat → Int32} {J : Nat → Nat → Int64}  {Q : Int32 → Int64 → pm_H → Prop} : pm_wp pm_code pm_meta d 85 14 ([.ref 18, pm_unset], [], (pm_Gb L b, I, J)) Q ↔ pm_wp pm_code pm_meta d 85 24 ([.ref 18, .int ((I 18 3) * (I 18 1))], [], (pm_Gb L b, I, J)) Q := (pm_bk_iff pc_ch_85 6 14 _).trans (Iff.rfl)
theorem pb_85v3_11 {d L : Nat} {b : Bool} {I : Nat → Nat → Int32} {J : Nat → Nat → Int64}  {Q : Int32 → Int64 → pm_H → Prop} : pm_wp pm_code pm_meta d 85 11 ([.ref 18, pm_unset], [], (pm_Gb L b, I, J)) Q ↔ Q (-2) 0 (pm_Gb L b, I, J) := (pm_bk_iff pc_ch_85 2 11 _).trans (pm_tt)
theorem pb_85v3_24 {d L : Nat} {b : Bool} {I : Nat → Nat → Int32} {J : Nat → Nat → Int64} {x1 : Int32} {Q : Int32 → Int64 → pm_H → Prop} : pm_wp pm_code pm_meta d 85 24 ([.ref 18, .int x1], [], (pm_Gb L b, I, J)) Q ↔ if (((I 18 3) + 1) * (I 18 1)) ≤ x1 then pm_wp pm_code pm_meta d 85 52 ([.ref 18, .int x1], [], (pm_Gb L b, I, J)) Q else pm_wp pm_code pm_meta d 85 39 ([.ref 18, .int x1], [], (pm_Gb L b, I, J)) Q := (pm_bk_iff pc_ch_85 9 24 _).trans (pm_brd)
theorem pb_85v3_52 {d L : Nat} {b : Bool} {I : Nat → Nat → Int32} {J : Nat → Nat → Int64} {x1 : Int32} {Q : Int32 → Int64 → pm_H → Prop} : pm_wp pm_code pm_meta d 85 52 ([.ref 18, .int x1], [], (pm_Gb L b, I, J)) Q ↔ Q (((pm_u I 18 3 ((I 18 3) + 1)) 18 3) - 1) 0 (pm_Gb L b, (pm_u I 18 3 ((I 18 3) + 1)), J) := (pm_bk_iff pc_ch_85 11 52 _).trans (pm_tt)
theorem pb_85v3_39 {d L : Nat} {b : Bool} {I : Nat → Nat → Int32} {J : Nat → Nat → Int64} {x1 : Int32} {Q : Int32 → Int64 → pm_H → Prop} : pm_wp pm_code pm_meta d 85 39 ([.ref 18, .int x1], [], (pm_Gb L b, I, J)) Q ↔ pm_in x1 384 = true ∧ (pm_wp pm_code pm_meta d 85 24 ([.ref 18, .int (x1 + 1)], [], (pm_Gb L b, (pm_u I 19 x1.toNatClampNeg 0), J)) Q) := (pm_bk_iff pc_ch_85 7 39 _).trans (and_congr Iff.rfl (Iff.rfl))
theorem pt_addf_18 {d L : Nat} {b : Bool} {I : Nat → Nat → Int32} {J : Nat → Nat → Int64} {Q : Int32 → Int64 → pm_H → Prop} (ht : pm_ti (I 18) 16 24) (hn : ¬ I 18 3 < 24) : pm_wc pm_code pm_meta d 85 [.ref 18] (pm_Gb L b, I, J) Q ↔ Q (-2) 0 (pm_Gb L b, I, J) := by
  rw [pb_85v3_0, ht.2.1, if_neg hn, pb_85v3_11]
theorem pt_add_18 {d L : Nat} {b : Bool} {I : Nat → Nat → Int32} {J : Nat → Nat → Int64} {Q : Int32 → Int64 → pm_H → Prop} (ht : pm_ti (I 18) 16 24) (hn : I 18 3 < 24) : pm_wc pm_code pm_meta d 85 [.ref 18] (pm_Gb L b, I, J) Q ↔ Q (I 18 3) 0 (pm_Gb L b, pm_u (pm_zr I 19 (16 * (I 18 3).toNatClampNeg) (16 * (I 18 3).toNatClampNeg + 16)) 18 3 (I 18 3 + 1), J) := by
  obtain ⟨h1, h2, h3, h4⟩ := ht
  have h3' := h3
  have hn' := hn
  rw [pi_le, pi_0] at h3'
  rw [pi_lt] at hn'
  have hl : (24 : Int32).toInt = 24 := rfl
  have hw : (16 : Int32).toInt = 16 := rfl
  have g1 : (I 18 3 + 1).toInt = (I 18 3).toInt + 1 := by rw [pi_add (by rw [pi_1]; omega) (by rw [pi_1]; omega), pi_1]
  have g2 : ((I 18 3 + 1) * I 18 1).toInt = ((I 18 3).toInt + 1) * 16 := by rw [h1, pi_mul (by rw [g1, hw]; omega) (by rw [g1, hw]; omega), g1, hw]
  have g3 : (I 18 3 * I 18 1).toInt = (I 18 3).toInt * 16 := by rw [h1, pi_mul (by rw [hw]; omega) (by rw [hw]; omega), hw]
  have g4 : (I 18 3 * I 18 1).toNatClampNeg = 16 * (I 18 3).toNatClampNeg := by rw [pi_tn, pi_tn, g3]; omega
  rw [pb_85v3_0, h2, if_pos hn, pb_85v3_14]
  have hA : ∀ x I', I' 18 = I 18 → (pm_wp pm_code pm_meta d 85 24 ([.ref 18, .int x], [], (pm_Gb L b, I', J)) Q ↔ if (I 18 3 + 1) * I 18 1 ≤ x then pm_wp pm_code pm_meta d 85 52 ([.ref 18, .int x], [], (pm_Gb L b, I', J)) Q else pm_in x 384 = true ∧ pm_wp pm_code pm_meta d 85 24 ([.ref 18, .int (x + 1)], [], (pm_Gb L b, pm_u I' 19 x.toNatClampNeg 0, J)) Q) := by
    intro x I' hr
    rw [pb_85v3_24, hr, pb_85v3_39]
  rw [pm_add_loop (A := fun x I' => pm_wp pm_code pm_meta d 85 24 ([.ref 18, .int x], [], (pm_Gb L b, I', J)) Q) (E := fun x I' => pm_wp pm_code pm_meta d 85 52 ([.ref 18, .int x], [], (pm_Gb L b, I', J)) Q) (by decide) hA 16 _ I rfl (by rw [pi_le, pi_0]; omega) (by omega) (by omega)]
  have hz : ∀ p q, pm_zr I 19 p q 18 = I 18 := by intro p q; rw [pm_zr_row, if_neg (by decide)]
  rw [pb_85v3_52, g4, hz, pm_u_row, if_pos rfl, pm_w_at, if_pos rfl, pm_inc_sub]
theorem pb_85v4_0 {d L : Nat} {b : Bool} {I : Nat → Nat → Int32} {J : Nat → Nat → Int64}  {Q : Int32 → Int64 → pm_H → Prop} : pm_wc pm_code pm_meta d 85 [.ref 20] (pm_Gb L b, I, J) Q ↔ if (I 20 3) < (I 20 2) then pm_wp pm_code pm_meta d 85 14 ([.ref 20, pm_unset], [], (pm_Gb L b, I, J)) Q else pm_wp pm_code pm_meta d 85 11 ([.ref 20, pm_unset], [], (pm_Gb L b, I, J)) Q := (pm_bk_iff pc_ch_85 5 0 _).trans (pm_brd)
theorem pb_85v4_14 {d L : Nat} {b : Bool} {I : Nat → Nat → Int32} {J : Nat → Nat → Int64}  {Q : Int32 → Int64 → pm_H → Prop} : pm_wp pm_code pm_meta d 85 14 ([.ref 20, pm_unset], [], (pm_Gb L b, I, J)) Q ↔ pm_wp pm_code pm_meta d 85 24 ([.ref 20, .int ((I 20 3) * (I 20 1))], [], (pm_Gb L b, I, J)) Q := (pm_bk_iff pc_ch_85 6 14 _).trans (Iff.rfl)
theorem pb_85v4_11 {d L : Nat} {b : Bool} {I : Nat → Nat → Int32} {J : Nat → Nat → Int64}  {Q : Int32 → Int64 → pm_H → Prop} : pm_wp pm_code pm_meta d 85 11 ([.ref 20, pm_unset], [], (pm_Gb L b, I, J)) Q ↔ Q (-2) 0 (pm_Gb L b, I, J) := (pm_bk_iff pc_ch_85 2 11 _).trans (pm_tt)
theorem pb_85v4_24 {d L : Nat} {b : Bool} {I : Nat → Nat → Int32} {J : Nat → Nat → Int64} {x1 : Int32} {Q : Int32 → Int64 → pm_H → Prop} : pm_wp pm_code pm_meta d 85 24 ([.ref 20, .int x1], [], (pm_Gb L b, I, J)) Q ↔ if (((I 20 3) + 1) * (I 20 1)) ≤ x1 then pm_wp pm_code pm_meta d 85 52 ([.ref 20, .int x1], [], (pm_Gb L b, I, J)) Q else pm_wp pm_code pm_meta d 85 39 ([.ref 20, .int x1], [], (pm_Gb L b, I, J)) Q := (pm_bk_iff pc_ch_85 9 24 _).trans (pm_brd)
theorem pb_85v4_52 {d L : Nat} {b : Bool} {I : Nat → Nat → Int32} {J : Nat → Nat → Int64} {x1 : Int32} {Q : Int32 → Int64 → pm_H → Prop} : pm_wp pm_code pm_meta d 85 52 ([.ref 20, .int x1], [], (pm_Gb L b, I, J)) Q ↔ Q (((pm_u I 20 3 ((I 20 3) + 1)) 20 3) - 1) 0 (pm_Gb L b, (pm_u I 20 3 ((I 20 3) + 1)), J) := (pm_bk_iff pc_ch_85 11 52 _).trans (pm_tt)
theorem pb_85v4_39 {d L : Nat} {b : Bool} {I : Nat → Nat → Int32} {J : Nat → Nat → Int64} {x1 : Int32} {Q : Int32 → Int64 → pm_H → Prop} : pm_wp pm_code pm_meta d 85 39 ([.ref 20, .int x1], [], (pm_Gb L b, I, J)) Q ↔ pm_in x1 60 = true ∧ (pm_wp pm_code pm_meta d 85 24 ([.ref 20, .int (x1 + 1)], [], (pm_Gb L b, (pm_u I 21 x1.toNatClampNeg 0), J)) Q) := (pm_bk_iff pc_ch_85 7 39 _).trans (and_congr Iff.rfl (Iff.rfl))
theorem pt_addf_20 {d L : Nat} {b : Bool} {I : Nat → Nat → Int32} {J : Nat → Nat → Int64} {Q : Int32 → Int64 → pm_H → Prop} (ht : pm_ti (I 20) 5 12) (hn : ¬ I 20 3 < 12) : pm_wc pm_code pm_meta d 85 [.ref 20] (pm_Gb L b, I, J) Q ↔ Q (-2) 0 (pm_Gb L b, I, J) := by
  rw [pb_85v4_0, ht.2.1, if_neg hn, pb_85v4_11]
theorem pt_add_20 {d L : Nat} {b : Bool} {I : Nat → Nat → Int32} {J : Nat → Nat → Int64} {Q : Int32 → Int64 → pm_H → Prop} (ht : pm_ti (I 20) 5 12) (hn : I 20 3 < 12) : pm_wc pm_code pm_meta d 85 [.ref 20] (pm_Gb L b, I, J) Q ↔ Q (I 20 3) 0 (pm_Gb L b, pm_u (pm_zr I 21 (5 * (I 20 3).toNatClampNeg) (5 * (I 20 3).toNatClampNeg + 5)) 20 3 (I 20 3 + 1), J) := by
  obtain ⟨h1, h2, h3, h4⟩ := ht
  have h3' := h3
  have hn' := hn
  rw [pi_le, pi_0] at h3'
  rw [pi_lt] at hn'
  have hl : (12 : Int32).toInt = 12 := rfl
  have hw : (5 : Int32).toInt = 5 := rfl
  have g1 : (I 20 3 + 1).toInt = (I 20 3).toInt + 1 := by rw [pi_add (by rw [pi_1]; omega) (by rw [pi_1]; omega), pi_1]
  have g2 : ((I 20 3 + 1) * I 20 1).toInt = ((I 20 3).toInt + 1) * 5 := by rw [h1, pi_mul (by rw [g1, hw]; omega) (by rw [g1, hw]; omega), g1, hw]
  have g3 : (I 20 3 * I 20 1).toInt = (I 20 3).toInt * 5 := by rw [h1, pi_mul (by rw [hw]; omega) (by rw [hw]; omega), hw]
  have g4 : (I 20 3 * I 20 1).toNatClampNeg = 5 * (I 20 3).toNatClampNeg := by rw [pi_tn, pi_tn, g3]; omega
  rw [pb_85v4_0, h2, if_pos hn, pb_85v4_14]
  have hA : ∀ x I', I' 20 = I 20 → (pm_wp pm_code pm_meta d 85 24 ([.ref 20, .int x], [], (pm_Gb L b, I', J)) Q ↔ if (I 20 3 + 1) * I 20 1 ≤ x then pm_wp pm_code pm_meta d 85 52 ([.ref 20, .int x], [], (pm_Gb L b, I', J)) Q else pm_in x 60 = true ∧ pm_wp pm_code pm_meta d 85 24 ([.ref 20, .int (x + 1)], [], (pm_Gb L b, pm_u I' 21 x.toNatClampNeg 0, J)) Q) := by
    intro x I' hr
    rw [pb_85v4_24, hr, pb_85v4_39]
  rw [pm_add_loop (A := fun x I' => pm_wp pm_code pm_meta d 85 24 ([.ref 20, .int x], [], (pm_Gb L b, I', J)) Q) (E := fun x I' => pm_wp pm_code pm_meta d 85 52 ([.ref 20, .int x], [], (pm_Gb L b, I', J)) Q) (by decide) hA 5 _ I rfl (by rw [pi_le, pi_0]; omega) (by omega) (by omega)]
  have hz : ∀ p q, pm_zr I 21 p q 20 = I 20 := by intro p q; rw [pm_zr_row, if_neg (by decide)]
  rw [pb_85v4_52, g4, hz, pm_u_row, if_pos rfl, pm_w_at, if_pos rfl, pm_inc_sub]
theorem pb_85v10_0 {d L : Nat} {b : Bool} {I : Nat → Nat → Int32} {J : Nat → Nat → Int64}  {Q : Int32 → Int64 → pm_H → Prop} : pm_wc pm_code pm_meta d 85 [.ref 22] (pm_Gb L b, I, J) Q ↔ if (I 22 3) < (I 22 2) then pm_wp pm_code pm_meta d 85 14 ([.ref 22, pm_unset], [], (pm_Gb L b, I, J)) Q else pm_wp pm_code pm_meta d 85 11 ([.ref 22, pm_unset], [], (pm_Gb L b, I, J)) Q := (pm_bk_iff pc_ch_85 5 0 _).trans (pm_brd)
theorem pb_85v10_14 {d L : Nat} {b : Bool} {I : Nat → Nat → Int32} {J : Nat → Nat → Int64}  {Q : Int32 → Int64 → pm_H → Prop} : pm_wp pm_code pm_meta d 85 14 ([.ref 22, pm_unset], [], (pm_Gb L b, I, J)) Q ↔ pm_wp pm_code pm_meta d 85 24 ([.ref 22, .int ((I 22 3) * (I 22 1))], [], (pm_Gb L b, I, J)) Q := (pm_bk_iff pc_ch_85 6 14 _).trans (Iff.rfl)
theorem pb_85v10_11 {d L : Nat} {b : Bool} {I : Nat → Nat → Int32} {J : Nat → Nat → Int64}  {Q : Int32 → Int64 → pm_H → Prop} : pm_wp pm_code pm_meta d 85 11 ([.ref 22, pm_unset], [], (pm_Gb L b, I, J)) Q ↔ Q (-2) 0 (pm_Gb L b, I, J) := (pm_bk_iff pc_ch_85 2 11 _).trans (pm_tt)
theorem pb_85v10_24 {d L : Nat} {b : Bool} {I : Nat → Nat → Int32} {J : Nat → Nat → Int64} {x1 : Int32} {Q : Int32 → Int64 → pm_H → Prop} : pm_wp pm_code pm_meta d 85 24 ([.ref 22, .int x1], [], (pm_Gb L b, I, J)) Q ↔ if (((I 22 3) + 1) * (I 22 1)) ≤ x1 then pm_wp pm_code pm_meta d 85 52 ([.ref 22, .int x1], [], (pm_Gb L b, I, J)) Q else pm_wp pm_code pm_meta d 85 39 ([.ref 22, .int x1], [], (pm_Gb L b, I, J)) Q := (pm_bk_iff pc_ch_85 9 24 _).trans (pm_brd)
theorem pb_85v10_52 {d L : Nat} {b : Bool} {I : Nat → Nat → Int32} {J : Nat → Nat → Int64} {x1 : Int32} {Q : Int32 → Int64 → pm_H → Prop} : pm_wp pm_code pm_meta d 85 52 ([.ref 22, .int x1], [], (pm_Gb L b, I, J)) Q ↔ Q (((pm_u I 22 3 ((I 22 3) + 1)) 22 3) - 1) 0 (pm_Gb L b, (pm_u I 22 3 ((I 22 3) + 1)), J) := (pm_bk_iff pc_ch_85 11 52 _).trans (pm_tt)
theorem pb_85v10_39 {d L : Nat} {b : Bool} {I : Nat → Nat → Int32} {J : Nat → Nat → Int64} {x1 : Int32} {Q : Int32 → Int64 → pm_H → Prop} : pm_wp pm_code pm_meta d 85 39 ([.ref 22, .int x1], [], (pm_Gb L b, I, J)) Q ↔ pm_in x1 600 = true ∧ (pm_wp pm_code pm_meta d 85 24 ([.ref 22, .int (x1 + 1)], [], (pm_Gb L b, (pm_u I 23 x1.toNatClampNeg 0), J)) Q) := (pm_bk_iff pc_ch_85 7 39 _).trans (and_congr Iff.rfl (Iff.rfl))
theorem pt_addf_22 {d L : Nat} {b : Bool} {I : Nat → Nat → Int32} {J : Nat → Nat → Int64} {Q : Int32 → Int64 → pm_H → Prop} (ht : pm_ti (I 22) 5 120) (hn : ¬ I 22 3 < 120) : pm_wc pm_code pm_meta d 85 [.ref 22] (pm_Gb L b, I, J) Q ↔ Q (-2) 0 (pm_Gb L b, I, J) := by
  rw [pb_85v10_0, ht.2.1, if_neg hn, pb_85v10_11]
theorem pt_add_22 {d L : Nat} {b : Bool} {I : Nat → Nat → Int32} {J : Nat → Nat → Int64} {Q : Int32 → Int64 → pm_H → Prop} (ht : pm_ti (I 22) 5 120) (hn : I 22 3 < 120) : pm_wc pm_code pm_meta d 85 [.ref 22] (pm_Gb L b, I, J) Q ↔ Q (I 22 3) 0 (pm_Gb L b, pm_u (pm_zr I 23 (5 * (I 22 3).toNatClampNeg) (5 * (I 22 3).toNatClampNeg + 5)) 22 3 (I 22 3 + 1), J) := by
  obtain ⟨h1, h2, h3, h4⟩ := ht
  have h3' := h3
  have hn' := hn
  rw [pi_le, pi_0] at h3'
  rw [pi_lt] at hn'
  have hl : (120 : Int32).toInt = 120 := rfl
  have hw : (5 : Int32).toInt = 5 := rfl
  have g1 : (I 22 3 + 1).toInt = (I 22 3).toInt + 1 := by rw [pi_add (by rw [pi_1]; omega) (by rw [pi_1]; omega), pi_1]
  have g2 : ((I 22 3 + 1) * I 22 1).toInt = ((I 22 3).toInt + 1) * 5 := by rw [h1, pi_mul (by rw [g1, hw]; omega) (by rw [g1, hw]; omega), g1, hw]
  have g3 : (I 22 3 * I 22 1).toInt = (I 22 3).toInt * 5 := by rw [h1, pi_mul (by rw [hw]; omega) (by rw [hw]; omega), hw]
  have g4 : (I 22 3 * I 22 1).toNatClampNeg = 5 * (I 22 3).toNatClampNeg := by rw [pi_tn, pi_tn, g3]; omega
  rw [pb_85v10_0, h2, if_pos hn, pb_85v10_14]
  have hA : ∀ x I', I' 22 = I 22 → (pm_wp pm_code pm_meta d 85 24 ([.ref 22, .int x], [], (pm_Gb L b, I', J)) Q ↔ if (I 22 3 + 1) * I 22 1 ≤ x then pm_wp pm_code pm_meta d 85 52 ([.ref 22, .int x], [], (pm_Gb L b, I', J)) Q else pm_in x 600 = true ∧ pm_wp pm_code pm_meta d 85 24 ([.ref 22, .int (x + 1)], [], (pm_Gb L b, pm_u I' 23 x.toNatClampNeg 0, J)) Q) := by
    intro x I' hr
    rw [pb_85v10_24, hr, pb_85v10_39]
  rw [pm_add_loop (A := fun x I' => pm_wp pm_code pm_meta d 85 24 ([.ref 22, .int x], [], (pm_Gb L b, I', J)) Q) (E := fun x I' => pm_wp pm_code pm_meta d 85 52 ([.ref 22, .int x], [], (pm_Gb L b, I', J)) Q) (by decide) hA 5 _ I rfl (by rw [pi_le, pi_0]; omega) (by omega) (by omega)]
  have hz : ∀ p q, pm_zr I 23 p q 22 = I 22 := by intro p q; rw [pm_zr_row, if_neg (by decide)]
  rw [pb_85v10_52, g4, hz, pm_u_row, if_pos rfl, pm_w_at, if_pos rfl, pm_inc_sub]
theorem pb_85v9_0 {d L : Nat} {b : Bool} {I : Nat → Nat → Int32} {J : Nat → Nat → Int64}  {Q : Int32 → Int64 → pm_H → Prop} : pm_wc pm_code pm_meta d 85 [.ref 24] (pm_Gb L b, I, J) Q ↔ if (I 24 3) < (I 24 2) then pm_wp pm_code pm_meta d 85 14 ([.ref 24, pm_unset], [], (pm_Gb L b, I, J)) Q else pm_wp pm_code pm_meta d 85 11 ([.ref 24, pm_unset], [], (pm_Gb L b, I, J)) Q := (pm_bk_iff pc_ch_85 5 0 _).trans (pm_brd)
theorem pb_85v9_14 {d L : Nat} {b : Bool} {I : Nat → Nat → Int32} {J : Nat → Nat → Int64}  {Q : Int32 → Int64 → pm_H → Prop} : pm_wp pm_code pm_meta d 85 14 ([.ref 24, pm_unset], [], (pm_Gb L b, I, J)) Q ↔ pm_wp pm_code pm_meta d 85 24 ([.ref 24, .int ((I 24 3) * (I 24 1))], [], (pm_Gb L b, I, J)) Q := (pm_bk_iff pc_ch_85 6 14 _).trans (Iff.rfl)
theorem pb_85v9_11 {d L : Nat} {b : Bool} {I : Nat → Nat → Int32} {J : Nat → Nat → Int64}  {Q : Int32 → Int64 → pm_H → Prop} : pm_wp pm_code pm_meta d 85 11 ([.ref 24, pm_unset], [], (pm_Gb L b, I, J)) Q ↔ Q (-2) 0 (pm_Gb L b, I, J) := (pm_bk_iff pc_ch_85 2 11 _).trans (pm_tt)
theorem pb_85v9_24 {d L : Nat} {b : Bool} {I : Nat → Nat → Int32} {J : Nat → Nat → Int64} {x1 : Int32} {Q : Int32 → Int64 → pm_H → Prop} : pm_wp pm_code pm_meta d 85 24 ([.ref 24, .int x1], [], (pm_Gb L b, I, J)) Q ↔ if (((I 24 3) + 1) * (I 24 1)) ≤ x1 then pm_wp pm_code pm_meta d 85 52 ([.ref 24, .int x1], [], (pm_Gb L b, I, J)) Q else pm_wp pm_code pm_meta d 85 39 ([.ref 24, .int x1], [], (pm_Gb L b, I, J)) Q := (pm_bk_iff pc_ch_85 9 24 _).trans (pm_brd)
theorem pb_85v9_52 {d L : Nat} {b : Bool} {I : Nat → Nat → Int32} {J : Nat → Nat → Int64} {x1 : Int32} {Q : Int32 → Int64 → pm_H → Prop} : pm_wp pm_code pm_meta d 85 52 ([.ref 24, .int x1], [], (pm_Gb L b, I, J)) Q ↔ Q (((pm_u I 24 3 ((I 24 3) + 1)) 24 3) - 1) 0 (pm_Gb L b, (pm_u I 24 3 ((I 24 3) + 1)), J) := (pm_bk_iff pc_ch_85 11 52 _).trans (pm_tt)
theorem pb_85v9_39 {d L : Nat} {b : Bool} {I : Nat → Nat → Int32} {J : Nat → Nat → Int64} {x1 : Int32} {Q : Int32 → Int64 → pm_H → Prop} : pm_wp pm_code pm_meta d 85 39 ([.ref 24, .int x1], [], (pm_Gb L b, I, J)) Q ↔ pm_in x1 2400 = true ∧ (pm_wp pm_code pm_meta d 85 24 ([.ref 24, .int (x1 + 1)], [], (pm_Gb L b, (pm_u I 25 x1.toNatClampNeg 0), J)) Q) := (pm_bk_iff pc_ch_85 7 39 _).trans (and_congr Iff.rfl (Iff.rfl))
theorem pt_addf_24 {d L : Nat} {b : Bool} {I : Nat → Nat → Int32} {J : Nat → Nat → Int64} {Q : Int32 → Int64 → pm_H → Prop} (ht : pm_ti (I 24) 2 1200) (hn : ¬ I 24 3 < 1200) : pm_wc pm_code pm_meta d 85 [.ref 24] (pm_Gb L b, I, J) Q ↔ Q (-2) 0 (pm_Gb L b, I, J) := by
  rw [pb_85v9_0, ht.2.1, if_neg hn, pb_85v9_11]
theorem pt_add_24 {d L : Nat} {b : Bool} {I : Nat → Nat → Int32} {J : Nat → Nat → Int64} {Q : Int32 → Int64 → pm_H → Prop} (ht : pm_ti (I 24) 2 1200) (hn : I 24 3 < 1200) : pm_wc pm_code pm_meta d 85 [.ref 24] (pm_Gb L b, I, J) Q ↔ Q (I 24 3) 0 (pm_Gb L b, pm_u (pm_zr I 25 (2 * (I 24 3).toNatClampNeg) (2 * (I 24 3).toNatClampNeg + 2)) 24 3 (I 24 3 + 1), J) := by
  obtain ⟨h1, h2, h3, h4⟩ := ht
  have h3' := h3
  have hn' := hn
  rw [pi_le, pi_0] at h3'
  rw [pi_lt] at hn'
  have hl : (1200 : Int32).toInt = 1200 := rfl
  have hw : (2 : Int32).toInt = 2 := rfl
  have g1 : (I 24 3 + 1).toInt = (I 24 3).toInt + 1 := by rw [pi_add (by rw [pi_1]; omega) (by rw [pi_1]; omega), pi_1]
  have g2 : ((I 24 3 + 1) * I 24 1).toInt = ((I 24 3).toInt + 1) * 2 := by rw [h1, pi_mul (by rw [g1, hw]; omega) (by rw [g1, hw]; omega), g1, hw]
  have g3 : (I 24 3 * I 24 1).toInt = (I 24 3).toInt * 2 := by rw [h1, pi_mul (by rw [hw]; omega) (by rw [hw]; omega), hw]
  have g4 : (I 24 3 * I 24 1).toNatClampNeg = 2 * (I 24 3).toNatClampNeg := by rw [pi_tn, pi_tn, g3]; omega
  rw [pb_85v9_0, h2, if_pos hn, pb_85v9_14]
  have hA : ∀ x I', I' 24 = I 24 → (pm_wp pm_code pm_meta d 85 24 ([.ref 24, .int x], [], (pm_Gb L b, I', J)) Q ↔ if (I 24 3 + 1) * I 24 1 ≤ x then pm_wp pm_code pm_meta d 85 52 ([.ref 24, .int x], [], (pm_Gb L b, I', J)) Q else pm_in x 2400 = true ∧ pm_wp pm_code pm_meta d 85 24 ([.ref 24, .int (x + 1)], [], (pm_Gb L b, pm_u I' 25 x.toNatClampNeg 0, J)) Q) := by
    intro x I' hr
    rw [pb_85v9_24, hr, pb_85v9_39]
  rw [pm_add_loop (A := fun x I' => pm_wp pm_code pm_meta d 85 24 ([.ref 24, .int x], [], (pm_Gb L b, I', J)) Q) (E := fun x I' => pm_wp pm_code pm_meta d 85 52 ([.ref 24, .int x], [], (pm_Gb L b, I', J)) Q) (by decide) hA 2 _ I rfl (by rw [pi_le, pi_0]; omega) (by omega) (by omega)]
  have hz : ∀ p q, pm_zr I 25 p q 24 = I 24 := by intro p q; rw [pm_zr_row, if_neg (by decide)]
  rw [pb_85v9_52, g4, hz, pm_u_row, if_pos rfl, pm_w_at, if_pos rfl, pm_inc_sub]
theorem pb_85v5_0 {d L : Nat} {b : Bool} {I : Nat → Nat → Int32} {J : Nat → Nat → Int64}  {Q : Int32 → Int64 → pm_H → Prop} : pm_wc pm_code pm_meta d 85 [.ref 28] (pm_Gb L b, I, J) Q ↔ if (I 28 3) < (I 28 2) then pm_wp pm_code pm_meta d 85 14 ([.ref 28, pm_unset], [], (pm_Gb L b, I, J)) Q else pm_wp pm_code pm_meta d 85 11 ([.ref 28, pm_unset], [], (pm_Gb L b, I, J)) Q := (pm_bk_iff pc_ch_85 5 0 _).trans (pm_brd)
theorem pb_85v5_14 {d L : Nat} {b : Bool} {I : Nat → Nat → Int32} {J : Nat → Nat → Int64}  {Q : Int32 → Int64 → pm_H → Prop} : pm_wp pm_code pm_meta d 85 14 ([.ref 28, pm_unset], [], (pm_Gb L b, I, J)) Q ↔ pm_wp pm_code pm_meta d 85 24 ([.ref 28, .int ((I 28 3) * (I 28 1))], [], (pm_Gb L b, I, J)) Q := (pm_bk_iff pc_ch_85 6 14 _).trans (Iff.rfl)
theorem pb_85v5_11 {d L : Nat} {b : Bool} {I : Nat → Nat → Int32} {J : Nat → Nat → Int64}  {Q : Int32 → Int64 → pm_H → Prop} : pm_wp pm_code pm_meta d 85 11 ([.ref 28, pm_unset], [], (pm_Gb L b, I, J)) Q ↔ Q (-2) 0 (pm_Gb L b, I, J) := (pm_bk_iff pc_ch_85 2 11 _).trans (pm_tt)
theorem pb_85v5_24 {d L : Nat} {b : Bool} {I : Nat → Nat → Int32} {J : Nat → Nat → Int64} {x1 : Int32} {Q : Int32 → Int64 → pm_H → Prop} : pm_wp pm_code pm_meta d 85 24 ([.ref 28, .int x1], [], (pm_Gb L b, I, J)) Q ↔ if (((I 28 3) + 1) * (I 28 1)) ≤ x1 then pm_wp pm_code pm_meta d 85 52 ([.ref 28, .int x1], [], (pm_Gb L b, I, J)) Q else pm_wp pm_code pm_meta d 85 39 ([.ref 28, .int x1], [], (pm_Gb L b, I, J)) Q := (pm_bk_iff pc_ch_85 9 24 _).trans (pm_brd)
theorem pb_85v5_52 {d L : Nat} {b : Bool} {I : Nat → Nat → Int32} {J : Nat → Nat → Int64} {x1 : Int32} {Q : Int32 → Int64 → pm_H → Prop} : pm_wp pm_code pm_meta d 85 52 ([.ref 28, .int x1], [], (pm_Gb L b, I, J)) Q ↔ Q (((pm_u I 28 3 ((I 28 3) + 1)) 28 3) - 1) 0 (pm_Gb L b, (pm_u I 28 3 ((I 28 3) + 1)), J) := (pm_bk_iff pc_ch_85 11 52 _).trans (pm_tt)
theorem pb_85v5_39 {d L : Nat} {b : Bool} {I : Nat → Nat → Int32} {J : Nat → Nat → Int64} {x1 : Int32} {Q : Int32 → Int64 → pm_H → Prop} : pm_wp pm_code pm_meta d 85 39 ([.ref 28, .int x1], [], (pm_Gb L b, I, J)) Q ↔ pm_in x1 72 = true ∧ (pm_wp pm_code pm_meta d 85 24 ([.ref 28, .int (x1 + 1)], [], (pm_Gb L b, (pm_u I 29 x1.toNatClampNeg 0), J)) Q) := (pm_bk_iff pc_ch_85 7 39 _).trans (and_congr Iff.rfl (Iff.rfl))
theorem pt_addf_28 {d L : Nat} {b : Bool} {I : Nat → Nat → Int32} {J : Nat → Nat → Int64} {Q : Int32 → Int64 → pm_H → Prop} (ht : pm_ti (I 28) 3 24) (hn : ¬ I 28 3 < 24) : pm_wc pm_code pm_meta d 85 [.ref 28] (pm_Gb L b, I, J) Q ↔ Q (-2) 0 (pm_Gb L b, I, J) := by
  rw [pb_85v5_0, ht.2.1, if_neg hn, pb_85v5_11]
theorem pt_add_28 {d L : Nat} {b : Bool} {I : Nat → Nat → Int32} {J : Nat → Nat → Int64} {Q : Int32 → Int64 → pm_H → Prop} (ht : pm_ti (I 28) 3 24) (hn : I 28 3 < 24) : pm_wc pm_code pm_meta d 85 [.ref 28] (pm_Gb L b, I, J) Q ↔ Q (I 28 3) 0 (pm_Gb L b, pm_u (pm_zr I 29 (3 * (I 28 3).toNatClampNeg) (3 * (I 28 3).toNatClampNeg + 3)) 28 3 (I 28 3 + 1), J) := by
  obtain ⟨h1, h2, h3, h4⟩ := ht
  have h3' := h3
  have hn' := hn
  rw [pi_le, pi_0] at h3'
  rw [pi_lt] at hn'
  have hl : (24 : Int32).toInt = 24 := rfl
  have hw : (3 : Int32).toInt = 3 := rfl
  have g1 : (I 28 3 + 1).toInt = (I 28 3).toInt + 1 := by rw [pi_add (by rw [pi_1]; omega) (by rw [pi_1]; omega), pi_1]
  have g2 : ((I 28 3 + 1) * I 28 1).toInt = ((I 28 3).toInt + 1) * 3 := by rw [h1, pi_mul (by rw [g1, hw]; omega) (by rw [g1, hw]; omega), g1, hw]
  have g3 : (I 28 3 * I 28 1).toInt = (I 28 3).toInt * 3 := by rw [h1, pi_mul (by rw [hw]; omega) (by rw [hw]; omega), hw]
  have g4 : (I 28 3 * I 28 1).toNatClampNeg = 3 * (I 28 3).toNatClampNeg := by rw [pi_tn, pi_tn, g3]; omega
  rw [pb_85v5_0, h2, if_pos hn, pb_85v5_14]
  have hA : ∀ x I', I' 28 = I 28 → (pm_wp pm_code pm_meta d 85 24 ([.ref 28, .int x], [], (pm_Gb L b, I', J)) Q ↔ if (I 28 3 + 1) * I 28 1 ≤ x then pm_wp pm_code pm_meta d 85 52 ([.ref 28, .int x], [], (pm_Gb L b, I', J)) Q else pm_in x 72 = true ∧ pm_wp pm_code pm_meta d 85 24 ([.ref 28, .int (x + 1)], [], (pm_Gb L b, pm_u I' 29 x.toNatClampNeg 0, J)) Q) := by
    intro x I' hr
    rw [pb_85v5_24, hr, pb_85v5_39]
  rw [pm_add_loop (A := fun x I' => pm_wp pm_code pm_meta d 85 24 ([.ref 28, .int x], [], (pm_Gb L b, I', J)) Q) (E := fun x I' => pm_wp pm_code pm_meta d 85 52 ([.ref 28, .int x], [], (pm_Gb L b, I', J)) Q) (by decide) hA 3 _ I rfl (by rw [pi_le, pi_0]; omega) (by omega) (by omega)]
  have hz : ∀ p q, pm_zr I 29 p q 28 = I 28 := by intro p q; rw [pm_zr_row, if_neg (by decide)]
  rw [pb_85v5_52, g4, hz, pm_u_row, if_pos rfl, pm_w_at, if_pos rfl, pm_inc_sub]
theorem pb_85v6_0 {d L : Nat} {b : Bool} {I : Nat → Nat → Int32} {J : Nat → Nat → Int64}  {Q : Int32 → Int64 → pm_H → Prop} : pm_wc pm_code pm_meta d 85 [.ref 30] (pm_Gb L b, I, J) Q ↔ if (I 30 3) < (I 30 2) then pm_wp pm_code pm_meta d 85 14 ([.ref 30, pm_unset], [], (pm_Gb L b, I, J)) Q else pm_wp pm_code pm_meta d 85 11 ([.ref 30, pm_unset], [], (pm_Gb L b, I, J)) Q := (pm_bk_iff pc_ch_85 5 0 _).trans (pm_brd)
theorem pb_85v6_14 {d L : Nat} {b : Bool} {I : Nat → Nat → Int32} {J : Nat → Nat → Int64}  {Q : Int32 → Int64 → pm_H → Prop} : pm_wp pm_code pm_meta d 85 14 ([.ref 30, pm_unset], [], (pm_Gb L b, I, J)) Q ↔ pm_wp pm_code pm_meta d 85 24 ([.ref 30, .int ((I 30 3) * (I 30 1))], [], (pm_Gb L b, I, J)) Q := (pm_bk_iff pc_ch_85 6 14 _).trans (Iff.rfl)
theorem pb_85v6_11 {d L : Nat} {b : Bool} {I : Nat → Nat → Int32} {J : Nat → Nat → Int64}  {Q : Int32 → Int64 → pm_H → Prop} : pm_wp pm_code pm_meta d 85 11 ([.ref 30, pm_unset], [], (pm_Gb L b, I, J)) Q ↔ Q (-2) 0 (pm_Gb L b, I, J) := (pm_bk_iff pc_ch_85 2 11 _).trans (pm_tt)
theorem pb_85v6_24 {d L : Nat} {b : Bool} {I : Nat → Nat → Int32} {J : Nat → Nat → Int64} {x1 : Int32} {Q : Int32 → Int64 → pm_H → Prop} : pm_wp pm_code pm_meta d 85 24 ([.ref 30, .int x1], [], (pm_Gb L b, I, J)) Q ↔ if (((I 30 3) + 1) * (I 30 1)) ≤ x1 then pm_wp pm_code pm_meta d 85 52 ([.ref 30, .int x1], [], (pm_Gb L b, I, J)) Q else pm_wp pm_code pm_meta d 85 39 ([.ref 30, .int x1], [], (pm_Gb L b, I, J)) Q := (pm_bk_iff pc_ch_85 9 24 _).trans (pm_brd)
theorem pb_85v6_52 {d L : Nat} {b : Bool} {I : Nat → Nat → Int32} {J : Nat → Nat → Int64} {x1 : Int32} {Q : Int32 → Int64 → pm_H → Prop} : pm_wp pm_code pm_meta d 85 52 ([.ref 30, .int x1], [], (pm_Gb L b, I, J)) Q ↔ Q (((pm_u I 30 3 ((I 30 3) + 1)) 30 3) - 1) 0 (pm_Gb L b, (pm_u I 30 3 ((I 30 3) + 1)), J) := (pm_bk_iff pc_ch_85 11 52 _).trans (pm_tt)
theorem pb_85v6_39 {d L : Nat} {b : Bool} {I : Nat → Nat → Int32} {J : Nat → Nat → Int64} {x1 : Int32} {Q : Int32 → Int64 → pm_H → Prop} : pm_wp pm_code pm_meta d 85 39 ([.ref 30, .int x1], [], (pm_Gb L b, I, J)) Q ↔ pm_in x1 7 = true ∧ (pm_wp pm_code pm_meta d 85 24 ([.ref 30, .int (x1 + 1)], [], (pm_Gb L b, (pm_u I 31 x1.toNatClampNeg 0), J)) Q) := (pm_bk_iff pc_ch_85 7 39 _).trans (and_congr Iff.rfl (Iff.rfl))
theorem pt_addf_30 {d L : Nat} {b : Bool} {I : Nat → Nat → Int32} {J : Nat → Nat → Int64} {Q : Int32 → Int64 → pm_H → Prop} (ht : pm_ti (I 30) 1 7) (hn : ¬ I 30 3 < 7) : pm_wc pm_code pm_meta d 85 [.ref 30] (pm_Gb L b, I, J) Q ↔ Q (-2) 0 (pm_Gb L b, I, J) := by
  rw [pb_85v6_0, ht.2.1, if_neg hn, pb_85v6_11]
theorem pt_add_30 {d L : Nat} {b : Bool} {I : Nat → Nat → Int32} {J : Nat → Nat → Int64} {Q : Int32 → Int64 → pm_H → Prop} (ht : pm_ti (I 30) 1 7) (hn : I 30 3 < 7) : pm_wc pm_code pm_meta d 85 [.ref 30] (pm_Gb L b, I, J) Q ↔ Q (I 30 3) 0 (pm_Gb L b, pm_u (pm_zr I 31 (1 * (I 30 3).toNatClampNeg) (1 * (I 30 3).toNatClampNeg + 1)) 30 3 (I 30 3 + 1), J) := by
  obtain ⟨h1, h2, h3, h4⟩ := ht
  have h3' := h3
  have hn' := hn
  rw [pi_le, pi_0] at h3'
  rw [pi_lt] at hn'
  have hl : (7 : Int32).toInt = 7 := rfl
  have hw : (1 : Int32).toInt = 1 := rfl
  have g1 : (I 30 3 + 1).toInt = (I 30 3).toInt + 1 := by rw [pi_add (by rw [pi_1]; omega) (by rw [pi_1]; omega), pi_1]
  have g2 : ((I 30 3 + 1) * I 30 1).toInt = ((I 30 3).toInt + 1) * 1 := by rw [h1, pi_mul (by rw [g1, hw]; omega) (by rw [g1, hw]; omega), g1, hw]
  have g3 : (I 30 3 * I 30 1).toInt = (I 30 3).toInt * 1 := by rw [h1, pi_mul (by rw [hw]; omega) (by rw [hw]; omega), hw]
  have g4 : (I 30 3 * I 30 1).toNatClampNeg = 1 * (I 30 3).toNatClampNeg := by rw [pi_tn, pi_tn, g3]; omega
  rw [pb_85v6_0, h2, if_pos hn, pb_85v6_14]
  have hA : ∀ x I', I' 30 = I 30 → (pm_wp pm_code pm_meta d 85 24 ([.ref 30, .int x], [], (pm_Gb L b, I', J)) Q ↔ if (I 30 3 + 1) * I 30 1 ≤ x then pm_wp pm_code pm_meta d 85 52 ([.ref 30, .int x], [], (pm_Gb L b, I', J)) Q else pm_in x 7 = true ∧ pm_wp pm_code pm_meta d 85 24 ([.ref 30, .int (x + 1)], [], (pm_Gb L b, pm_u I' 31 x.toNatClampNeg 0, J)) Q) := by
    intro x I' hr
    rw [pb_85v6_24, hr, pb_85v6_39]
  rw [pm_add_loop (A := fun x I' => pm_wp pm_code pm_meta d 85 24 ([.ref 30, .int x], [], (pm_Gb L b, I', J)) Q) (E := fun x I' => pm_wp pm_code pm_meta d 85 52 ([.ref 30, .int x], [], (pm_Gb L b, I', J)) Q) (by decide) hA 1 _ I rfl (by rw [pi_le, pi_0]; omega) (by omega) (by omega)]
  have hz : ∀ p q, pm_zr I 31 p q 30 = I 30 := by intro p q; rw [pm_zr_row, if_neg (by decide)]
  rw [pb_85v6_52, g4, hz, pm_u_row, if_pos rfl, pm_w_at, if_pos rfl, pm_inc_sub]
theorem pb_85v7_0 {d L : Nat} {b : Bool} {I : Nat → Nat → Int32} {J : Nat → Nat → Int64}  {Q : Int32 → Int64 → pm_H → Prop} : pm_wc pm_code pm_meta d 85 [.ref 32] (pm_Gb L b, I, J) Q ↔ if (I 32 3) < (I 32 2) then pm_wp pm_code pm_meta d 85 14 ([.ref 32, pm_unset], [], (pm_Gb L b, I, J)) Q else pm_wp pm_code pm_meta d 85 11 ([.ref 32, pm_unset], [], (pm_Gb L b, I, J)) Q := (pm_bk_iff pc_ch_85 5 0 _).trans (pm_brd)
theorem pb_85v7_14 {d L : Nat} {b : Bool} {I : Nat → Nat → Int32} {J : Nat → Nat → Int64}  {Q : Int32 → Int64 → pm_H → Prop} : pm_wp pm_code pm_meta d 85 14 ([.ref 32, pm_unset], [], (pm_Gb L b, I, J)) Q ↔ pm_wp pm_code pm_meta d 85 24 ([.ref 32, .int ((I 32 3) * (I 32 1))], [], (pm_Gb L b, I, J)) Q := (pm_bk_iff pc_ch_85 6 14 _).trans (Iff.rfl)
theorem pb_85v7_11 {d L : Nat} {b : Bool} {I : Nat → Nat → Int32} {J : Nat → Nat → Int64}  {Q : Int32 → Int64 → pm_H → Prop} : pm_wp pm_code pm_meta d 85 11 ([.ref 32, pm_unset], [], (pm_Gb L b, I, J)) Q ↔ Q (-2) 0 (pm_Gb L b, I, J) := (pm_bk_iff pc_ch_85 2 11 _).trans (pm_tt)
theorem pb_85v7_24 {d L : Nat} {b : Bool} {I : Nat → Nat → Int32} {J : Nat → Nat → Int64} {x1 : Int32} {Q : Int32 → Int64 → pm_H → Prop} : pm_wp pm_code pm_meta d 85 24 ([.ref 32, .int x1], [], (pm_Gb L b, I, J)) Q ↔ if (((I 32 3) + 1) * (I 32 1)) ≤ x1 then pm_wp pm_code pm_meta d 85 52 ([.ref 32, .int x1], [], (pm_Gb L b, I, J)) Q else pm_wp pm_code pm_meta d 85 39 ([.ref 32, .int x1], [], (pm_Gb L b, I, J)) Q := (pm_bk_iff pc_ch_85 9 24 _).trans (pm_brd)
theorem pb_85v7_52 {d L : Nat} {b : Bool} {I : Nat → Nat → Int32} {J : Nat → Nat → Int64} {x1 : Int32} {Q : Int32 → Int64 → pm_H → Prop} : pm_wp pm_code pm_meta d 85 52 ([.ref 32, .int x1], [], (pm_Gb L b, I, J)) Q ↔ Q (((pm_u I 32 3 ((I 32 3) + 1)) 32 3) - 1) 0 (pm_Gb L b, (pm_u I 32 3 ((I 32 3) + 1)), J) := (pm_bk_iff pc_ch_85 11 52 _).trans (pm_tt)
theorem pb_85v7_39 {d L : Nat} {b : Bool} {I : Nat → Nat → Int32} {J : Nat → Nat → Int64} {x1 : Int32} {Q : Int32 → Int64 → pm_H → Prop} : pm_wp pm_code pm_meta d 85 39 ([.ref 32, .int x1], [], (pm_Gb L b, I, J)) Q ↔ pm_in x1 3 = true ∧ (pm_wp pm_code pm_meta d 85 24 ([.ref 32, .int (x1 + 1)], [], (pm_Gb L b, (pm_u I 33 x1.toNatClampNeg 0), J)) Q) := (pm_bk_iff pc_ch_85 7 39 _).trans (and_congr Iff.rfl (Iff.rfl))
theorem pt_addf_32 {d L : Nat} {b : Bool} {I : Nat → Nat → Int32} {J : Nat → Nat → Int64} {Q : Int32 → Int64 → pm_H → Prop} (ht : pm_ti (I 32) 1 3) (hn : ¬ I 32 3 < 3) : pm_wc pm_code pm_meta d 85 [.ref 32] (pm_Gb L b, I, J) Q ↔ Q (-2) 0 (pm_Gb L b, I, J) := by
  rw [pb_85v7_0, ht.2.1, if_neg hn, pb_85v7_11]
theorem pt_add_32 {d L : Nat} {b : Bool} {I : Nat → Nat → Int32} {J : Nat → Nat → Int64} {Q : Int32 → Int64 → pm_H → Prop} (ht : pm_ti (I 32) 1 3) (hn : I 32 3 < 3) : pm_wc pm_code pm_meta d 85 [.ref 32] (pm_Gb L b, I, J) Q ↔ Q (I 32 3) 0 (pm_Gb L b, pm_u (pm_zr I 33 (1 * (I 32 3).toNatClampNeg) (1 * (I 32 3).toNatClampNeg + 1)) 32 3 (I 32 3 + 1), J) := by
  obtain ⟨h1, h2, h3, h4⟩ := ht
  have h3' := h3
  have hn' := hn
  rw [pi_le, pi_0] at h3'
  rw [pi_lt] at hn'
  have hl : (3 : Int32).toInt = 3 := rfl
  have hw : (1 : Int32).toInt = 1 := rfl
  have g1 : (I 32 3 + 1).toInt = (I 32 3).toInt + 1 := by rw [pi_add (by rw [pi_1]; omega) (by rw [pi_1]; omega), pi_1]
  have g2 : ((I 32 3 + 1) * I 32 1).toInt = ((I 32 3).toInt + 1) * 1 := by rw [h1, pi_mul (by rw [g1, hw]; omega) (by rw [g1, hw]; omega), g1, hw]
  have g3 : (I 32 3 * I 32 1).toInt = (I 32 3).toInt * 1 := by rw [h1, pi_mul (by rw [hw]; omega) (by rw [hw]; omega), hw]
  have g4 : (I 32 3 * I 32 1).toNatClampNeg = 1 * (I 32 3).toNatClampNeg := by rw [pi_tn, pi_tn, g3]; omega
  rw [pb_85v7_0, h2, if_pos hn, pb_85v7_14]
  have hA : ∀ x I', I' 32 = I 32 → (pm_wp pm_code pm_meta d 85 24 ([.ref 32, .int x], [], (pm_Gb L b, I', J)) Q ↔ if (I 32 3 + 1) * I 32 1 ≤ x then pm_wp pm_code pm_meta d 85 52 ([.ref 32, .int x], [], (pm_Gb L b, I', J)) Q else pm_in x 3 = true ∧ pm_wp pm_code pm_meta d 85 24 ([.ref 32, .int (x + 1)], [], (pm_Gb L b, pm_u I' 33 x.toNatClampNeg 0, J)) Q) := by
    intro x I' hr
    rw [pb_85v7_24, hr, pb_85v7_39]
  rw [pm_add_loop (A := fun x I' => pm_wp pm_code pm_meta d 85 24 ([.ref 32, .int x], [], (pm_Gb L b, I', J)) Q) (E := fun x I' => pm_wp pm_code pm_meta d 85 52 ([.ref 32, .int x], [], (pm_Gb L b, I', J)) Q) (by decide) hA 1 _ I rfl (by rw [pi_le, pi_0]; omega) (by omega) (by omega)]
  have hz : ∀ p q, pm_zr I 33 p q 32 = I 32 := by intro p q; rw [pm_zr_row, if_neg (by decide)]
  rw [pb_85v7_52, g4, hz, pm_u_row, if_pos rfl, pm_w_at, if_pos rfl, pm_inc_sub]
theorem pb_85v8_0 {d L : Nat} {b : Bool} {I : Nat → Nat → Int32} {J : Nat → Nat → Int64}  {Q : Int32 → Int64 → pm_H → Prop} : pm_wc pm_code pm_meta d 85 [.ref 34] (pm_Gb L b, I, J) Q ↔ if (I 34 3) < (I 34 2) then pm_wp pm_code pm_meta d 85 14 ([.ref 34, pm_unset], [], (pm_Gb L b, I, J)) Q else pm_wp pm_code pm_meta d 85 11 ([.ref 34, pm_unset], [], (pm_Gb L b, I, J)) Q := (pm_bk_iff pc_ch_85 5 0 _).trans (pm_brd)
theorem pb_85v8_14 {d L : Nat} {b : Bool} {I : Nat → Nat → Int32} {J : Nat → Nat → Int64}  {Q : Int32 → Int64 → pm_H → Prop} : pm_wp pm_code pm_meta d 85 14 ([.ref 34, pm_unset], [], (pm_Gb L b, I, J)) Q ↔ pm_wp pm_code pm_meta d 85 24 ([.ref 34, .int ((I 34 3) * (I 34 1))], [], (pm_Gb L b, I, J)) Q := (pm_bk_iff pc_ch_85 6 14 _).trans (Iff.rfl)
theorem pb_85v8_11 {d L : Nat} {b : Bool} {I : Nat → Nat → Int32} {J : Nat → Nat → Int64}  {Q : Int32 → Int64 → pm_H → Prop} : pm_wp pm_code pm_meta d 85 11 ([.ref 34, pm_unset], [], (pm_Gb L b, I, J)) Q ↔ Q (-2) 0 (pm_Gb L b, I, J) := (pm_bk_iff pc_ch_85 2 11 _).trans (pm_tt)
theorem pb_85v8_24 {d L : Nat} {b : Bool} {I : Nat → Nat → Int32} {J : Nat → Nat → Int64} {x1 : Int32} {Q : Int32 → Int64 → pm_H → Prop} : pm_wp pm_code pm_meta d 85 24 ([.ref 34, .int x1], [], (pm_Gb L b, I, J)) Q ↔ if (((I 34 3) + 1) * (I 34 1)) ≤ x1 then pm_wp pm_code pm_meta d 85 52 ([.ref 34, .int x1], [], (pm_Gb L b, I, J)) Q else pm_wp pm_code pm_meta d 85 39 ([.ref 34, .int x1], [], (pm_Gb L b, I, J)) Q := (pm_bk_iff pc_ch_85 9 24 _).trans (pm_brd)
theorem pb_85v8_52 {d L : Nat} {b : Bool} {I : Nat → Nat → Int32} {J : Nat → Nat → Int64} {x1 : Int32} {Q : Int32 → Int64 → pm_H → Prop} : pm_wp pm_code pm_meta d 85 52 ([.ref 34, .int x1], [], (pm_Gb L b, I, J)) Q ↔ Q (((pm_u I 34 3 ((I 34 3) + 1)) 34 3) - 1) 0 (pm_Gb L b, (pm_u I 34 3 ((I 34 3) + 1)), J) := (pm_bk_iff pc_ch_85 11 52 _).trans (pm_tt)
theorem pb_85v8_39 {d L : Nat} {b : Bool} {I : Nat → Nat → Int32} {J : Nat → Nat → Int64} {x1 : Int32} {Q : Int32 → Int64 → pm_H → Prop} : pm_wp pm_code pm_meta d 85 39 ([.ref 34, .int x1], [], (pm_Gb L b, I, J)) Q ↔ pm_in x1 144 = true ∧ (pm_wp pm_code pm_meta d 85 24 ([.ref 34, .int (x1 + 1)], [], (pm_Gb L b, (pm_u I 35 x1.toNatClampNeg 0), J)) Q) := (pm_bk_iff pc_ch_85 7 39 _).trans (and_congr Iff.rfl (Iff.rfl))
theorem pt_addf_34 {d L : Nat} {b : Bool} {I : Nat → Nat → Int32} {J : Nat → Nat → Int64} {Q : Int32 → Int64 → pm_H → Prop} (ht : pm_ti (I 34) 6 24) (hn : ¬ I 34 3 < 24) : pm_wc pm_code pm_meta d 85 [.ref 34] (pm_Gb L b, I, J) Q ↔ Q (-2) 0 (pm_Gb L b, I, J) := by
  rw [pb_85v8_0, ht.2.1, if_neg hn, pb_85v8_11]
theorem pt_add_34 {d L : Nat} {b : Bool} {I : Nat → Nat → Int32} {J : Nat → Nat → Int64} {Q : Int32 → Int64 → pm_H → Prop} (ht : pm_ti (I 34) 6 24) (hn : I 34 3 < 24) : pm_wc pm_code pm_meta d 85 [.ref 34] (pm_Gb L b, I, J) Q ↔ Q (I 34 3) 0 (pm_Gb L b, pm_u (pm_zr I 35 (6 * (I 34 3).toNatClampNeg) (6 * (I 34 3).toNatClampNeg + 6)) 34 3 (I 34 3 + 1), J) := by
  obtain ⟨h1, h2, h3, h4⟩ := ht
  have h3' := h3
  have hn' := hn
  rw [pi_le, pi_0] at h3'
  rw [pi_lt] at hn'
  have hl : (24 : Int32).toInt = 24 := rfl
  have hw : (6 : Int32).toInt = 6 := rfl
  have g1 : (I 34 3 + 1).toInt = (I 34 3).toInt + 1 := by rw [pi_add (by rw [pi_1]; omega) (by rw [pi_1]; omega), pi_1]
  have g2 : ((I 34 3 + 1) * I 34 1).toInt = ((I 34 3).toInt + 1) * 6 := by rw [h1, pi_mul (by rw [g1, hw]; omega) (by rw [g1, hw]; omega), g1, hw]
  have g3 : (I 34 3 * I 34 1).toInt = (I 34 3).toInt * 6 := by rw [h1, pi_mul (by rw [hw]; omega) (by rw [hw]; omega), hw]
  have g4 : (I 34 3 * I 34 1).toNatClampNeg = 6 * (I 34 3).toNatClampNeg := by rw [pi_tn, pi_tn, g3]; omega
  rw [pb_85v8_0, h2, if_pos hn, pb_85v8_14]
  have hA : ∀ x I', I' 34 = I 34 → (pm_wp pm_code pm_meta d 85 24 ([.ref 34, .int x], [], (pm_Gb L b, I', J)) Q ↔ if (I 34 3 + 1) * I 34 1 ≤ x then pm_wp pm_code pm_meta d 85 52 ([.ref 34, .int x], [], (pm_Gb L b, I', J)) Q else pm_in x 144 = true ∧ pm_wp pm_code pm_meta d 85 24 ([.ref 34, .int (x + 1)], [], (pm_Gb L b, pm_u I' 35 x.toNatClampNeg 0, J)) Q) := by
    intro x I' hr
    rw [pb_85v8_24, hr, pb_85v8_39]
  rw [pm_add_loop (A := fun x I' => pm_wp pm_code pm_meta d 85 24 ([.ref 34, .int x], [], (pm_Gb L b, I', J)) Q) (E := fun x I' => pm_wp pm_code pm_meta d 85 52 ([.ref 34, .int x], [], (pm_Gb L b, I', J)) Q) (by decide) hA 6 _ I rfl (by rw [pi_le, pi_0]; omega) (by omega) (by omega)]
  have hz : ∀ p q, pm_zr I 35 p q 34 = I 34 := by intro p q; rw [pm_zr_row, if_neg (by decide)]
  rw [pb_85v8_52, g4, hz, pm_u_row, if_pos rfl, pm_w_at, if_pos rfl, pm_inc_sub]
theorem pb_85v13_0 {d L : Nat} {b : Bool} {I : Nat → Nat → Int32} {J : Nat → Nat → Int64}  {Q : Int32 → Int64 → pm_H → Prop} : pm_wc pm_code pm_meta d 85 [.ref 38] (pm_Gb L b, I, J) Q ↔ if (I 38 3) < (I 38 2) then pm_wp pm_code pm_meta d 85 14 ([.ref 38, pm_unset], [], (pm_Gb L b, I, J)) Q else pm_wp pm_code pm_meta d 85 11 ([.ref 38, pm_unset], [], (pm_Gb L b, I, J)) Q := (pm_bk_iff pc_ch_85 5 0 _).trans (pm_brd)
theorem pb_85v13_14 {d L : Nat} {b : Bool} {I : Nat → Nat → Int32} {J : Nat → Nat → Int64}  {Q : Int32 → Int64 → pm_H → Prop} : pm_wp pm_code pm_meta d 85 14 ([.ref 38, pm_unset], [], (pm_Gb L b, I, J)) Q ↔ pm_wp pm_code pm_meta d 85 24 ([.ref 38, .int ((I 38 3) * (I 38 1))], [], (pm_Gb L b, I, J)) Q := (pm_bk_iff pc_ch_85 6 14 _).trans (Iff.rfl)
theorem pb_85v13_11 {d L : Nat} {b : Bool} {I : Nat → Nat → Int32} {J : Nat → Nat → Int64}  {Q : Int32 → Int64 → pm_H → Prop} : pm_wp pm_code pm_meta d 85 11 ([.ref 38, pm_unset], [], (pm_Gb L b, I, J)) Q ↔ Q (-2) 0 (pm_Gb L b, I, J) := (pm_bk_iff pc_ch_85 2 11 _).trans (pm_tt)
theorem pb_85v13_24 {d L : Nat} {b : Bool} {I : Nat → Nat → Int32} {J : Nat → Nat → Int64} {x1 : Int32} {Q : Int32 → Int64 → pm_H → Prop} : pm_wp pm_code pm_meta d 85 24 ([.ref 38, .int x1], [], (pm_Gb L b, I, J)) Q ↔ if (((I 38 3) + 1) * (I 38 1)) ≤ x1 then pm_wp pm_code pm_meta d 85 52 ([.ref 38, .int x1], [], (pm_Gb L b, I, J)) Q else pm_wp pm_code pm_meta d 85 39 ([.ref 38, .int x1], [], (pm_Gb L b, I, J)) Q := (pm_bk_iff pc_ch_85 9 24 _).trans (pm_brd)
theorem pb_85v13_52 {d L : Nat} {b : Bool} {I : Nat → Nat → Int32} {J : Nat → Nat → Int64} {x1 : Int32} {Q : Int32 → Int64 → pm_H → Prop} : pm_wp pm_code pm_meta d 85 52 ([.ref 38, .int x1], [], (pm_Gb L b, I, J)) Q ↔ Q (((pm_u I 38 3 ((I 38 3) + 1)) 38 3) - 1) 0 (pm_Gb L b, (pm_u I 38 3 ((I 38 3) + 1)), J) := (pm_bk_iff pc_ch_85 11 52 _).trans (pm_tt)
theorem pb_85v13_39 {d L : Nat} {b : Bool} {I : Nat → Nat → Int32} {J : Nat → Nat → Int64} {x1 : Int32} {Q : Int32 → Int64 → pm_H → Prop} : pm_wp pm_code pm_meta d 85 39 ([.ref 38, .int x1], [], (pm_Gb L b, I, J)) Q ↔ pm_in x1 72 = true ∧ (pm_wp pm_code pm_meta d 85 24 ([.ref 38, .int (x1 + 1)], [], (pm_Gb L b, (pm_u I 39 x1.toNatClampNeg 0), J)) Q) := (pm_bk_iff pc_ch_85 7 39 _).trans (and_congr Iff.rfl (Iff.rfl))
theorem pt_addf_38 {d L : Nat} {b : Bool} {I : Nat → Nat → Int32} {J : Nat → Nat → Int64} {Q : Int32 → Int64 → pm_H → Prop} (ht : pm_ti (I 38) 3 24) (hn : ¬ I 38 3 < 24) : pm_wc pm_code pm_meta d 85 [.ref 38] (pm_Gb L b, I, J) Q ↔ Q (-2) 0 (pm_Gb L b, I, J) := by
  rw [pb_85v13_0, ht.2.1, if_neg hn, pb_85v13_11]
theorem pt_add_38 {d L : Nat} {b : Bool} {I : Nat → Nat → Int32} {J : Nat → Nat → Int64} {Q : Int32 → Int64 → pm_H → Prop} (ht : pm_ti (I 38) 3 24) (hn : I 38 3 < 24) : pm_wc pm_code pm_meta d 85 [.ref 38] (pm_Gb L b, I, J) Q ↔ Q (I 38 3) 0 (pm_Gb L b, pm_u (pm_zr I 39 (3 * (I 38 3).toNatClampNeg) (3 * (I 38 3).toNatClampNeg + 3)) 38 3 (I 38 3 + 1), J) := by
  obtain ⟨h1, h2, h3, h4⟩ := ht
  have h3' := h3
  have hn' := hn
  rw [pi_le, pi_0] at h3'
  rw [pi_lt] at hn'
  have hl : (24 : Int32).toInt = 24 := rfl
  have hw : (3 : Int32).toInt = 3 := rfl
  have g1 : (I 38 3 + 1).toInt = (I 38 3).toInt + 1 := by rw [pi_add (by rw [pi_1]; omega) (by rw [pi_1]; omega), pi_1]
  have g2 : ((I 38 3 + 1) * I 38 1).toInt = ((I 38 3).toInt + 1) * 3 := by rw [h1, pi_mul (by rw [g1, hw]; omega) (by rw [g1, hw]; omega), g1, hw]
  have g3 : (I 38 3 * I 38 1).toInt = (I 38 3).toInt * 3 := by rw [h1, pi_mul (by rw [hw]; omega) (by rw [hw]; omega), hw]
  have g4 : (I 38 3 * I 38 1).toNatClampNeg = 3 * (I 38 3).toNatClampNeg := by rw [pi_tn, pi_tn, g3]; omega
  rw [pb_85v13_0, h2, if_pos hn, pb_85v13_14]
  have hA : ∀ x I', I' 38 = I 38 → (pm_wp pm_code pm_meta d 85 24 ([.ref 38, .int x], [], (pm_Gb L b, I', J)) Q ↔ if (I 38 3 + 1) * I 38 1 ≤ x then pm_wp pm_code pm_meta d 85 52 ([.ref 38, .int x], [], (pm_Gb L b, I', J)) Q else pm_in x 72 = true ∧ pm_wp pm_code pm_meta d 85 24 ([.ref 38, .int (x + 1)], [], (pm_Gb L b, pm_u I' 39 x.toNatClampNeg 0, J)) Q) := by
    intro x I' hr
    rw [pb_85v13_24, hr, pb_85v13_39]
  rw [pm_add_loop (A := fun x I' => pm_wp pm_code pm_meta d 85 24 ([.ref 38, .int x], [], (pm_Gb L b, I', J)) Q) (E := fun x I' => pm_wp pm_code pm_meta d 85 52 ([.ref 38, .int x], [], (pm_Gb L b, I', J)) Q) (by decide) hA 3 _ I rfl (by rw [pi_le, pi_0]; omega) (by omega) (by omega)]
  have hz : ∀ p q, pm_zr I 39 p q 38 = I 38 := by intro p q; rw [pm_zr_row, if_neg (by decide)]
  rw [pb_85v13_52, g4, hz, pm_u_row, if_pos rfl, pm_w_at, if_pos rfl, pm_inc_sub]
theorem pb_85v16_0 {d L : Nat} {b : Bool} {I : Nat → Nat → Int32} {J : Nat → Nat → Int64}  {Q : Int32 → Int64 → pm_H → Prop} : pm_wc pm_code pm_meta d 85 [.ref 42] (pm_Gb L b, I, J) Q ↔ if (I 42 3) < (I 42 2) then pm_wp pm_code pm_meta d 85 14 ([.ref 42, pm_unset], [], (pm_Gb L b, I, J)) Q else pm_wp pm_code pm_meta d 85 11 ([.ref 42, pm_unset], [], (pm_Gb L b, I, J)) Q := (pm_bk_iff pc_ch_85 5 0 _).trans (pm_brd)
theorem pb_85v16_14 {d L : Nat} {b : Bool} {I : Nat → Nat → Int32} {J : Nat → Nat → Int64}  {Q : Int32 → Int64 → pm_H → Prop} : pm_wp pm_code pm_meta d 85 14 ([.ref 42, pm_unset], [], (pm_Gb L b, I, J)) Q ↔ pm_wp pm_code pm_meta d 85 24 ([.ref 42, .int ((I 42 3) * (I 42 1))], [], (pm_Gb L b, I, J)) Q := (pm_bk_iff pc_ch_85 6 14 _).trans (Iff.rfl)
theorem pb_85v16_11 {d L : Nat} {b : Bool} {I : Nat → Nat → Int32} {J : Nat → Nat → Int64}  {Q : Int32 → Int64 → pm_H → Prop} : pm_wp pm_code pm_meta d 85 11 ([.ref 42, pm_unset], [], (pm_Gb L b, I, J)) Q ↔ Q (-2) 0 (pm_Gb L b, I, J) := (pm_bk_iff pc_ch_85 2 11 _).trans (pm_tt)
theorem pb_85v16_24 {d L : Nat} {b : Bool} {I : Nat → Nat → Int32} {J : Nat → Nat → Int64} {x1 : Int32} {Q : Int32 → Int64 → pm_H → Prop} : pm_wp pm_code pm_meta d 85 24 ([.ref 42, .int x1], [], (pm_Gb L b, I, J)) Q ↔ if (((I 42 3) + 1) * (I 42 1)) ≤ x1 then pm_wp pm_code pm_meta d 85 52 ([.ref 42, .int x1], [], (pm_Gb L b, I, J)) Q else pm_wp pm_code pm_meta d 85 39 ([.ref 42, .int x1], [], (pm_Gb L b, I, J)) Q := (pm_bk_iff pc_ch_85 9 24 _).trans (pm_brd)
theorem pb_85v16_52 {d L : Nat} {b : Bool} {I : Nat → Nat → Int32} {J : Nat → Nat → Int64} {x1 : Int32} {Q : Int32 → Int64 → pm_H → Prop} : pm_wp pm_code pm_meta d 85 52 ([.ref 42, .int x1], [], (pm_Gb L b, I, J)) Q ↔ Q (((pm_u I 42 3 ((I 42 3) + 1)) 42 3) - 1) 0 (pm_Gb L b, (pm_u I 42 3 ((I 42 3) + 1)), J) := (pm_bk_iff pc_ch_85 11 52 _).trans (pm_tt)
theorem pb_85v16_39 {d L : Nat} {b : Bool} {I : Nat → Nat → Int32} {J : Nat → Nat → Int64} {x1 : Int32} {Q : Int32 → Int64 → pm_H → Prop} : pm_wp pm_code pm_meta d 85 39 ([.ref 42, .int x1], [], (pm_Gb L b, I, J)) Q ↔ pm_in x1 903 = true ∧ (pm_wp pm_code pm_meta d 85 24 ([.ref 42, .int (x1 + 1)], [], (pm_Gb L b, (pm_u I 43 x1.toNatClampNeg 0), J)) Q) := (pm_bk_iff pc_ch_85 7 39 _).trans (and_congr Iff.rfl (Iff.rfl))
theorem pt_addf_42 {d L : Nat} {b : Bool} {I : Nat → Nat → Int32} {J : Nat → Nat → Int64} {Q : Int32 → Int64 → pm_H → Prop} (ht : pm_ti (I 42) 3 301) (hn : ¬ I 42 3 < 301) : pm_wc pm_code pm_meta d 85 [.ref 42] (pm_Gb L b, I, J) Q ↔ Q (-2) 0 (pm_Gb L b, I, J) := by
  rw [pb_85v16_0, ht.2.1, if_neg hn, pb_85v16_11]
theorem pt_add_42 {d L : Nat} {b : Bool} {I : Nat → Nat → Int32} {J : Nat → Nat → Int64} {Q : Int32 → Int64 → pm_H → Prop} (ht : pm_ti (I 42) 3 301) (hn : I 42 3 < 301) : pm_wc pm_code pm_meta d 85 [.ref 42] (pm_Gb L b, I, J) Q ↔ Q (I 42 3) 0 (pm_Gb L b, pm_u (pm_zr I 43 (3 * (I 42 3).toNatClampNeg) (3 * (I 42 3).toNatClampNeg + 3)) 42 3 (I 42 3 + 1), J) := by
  obtain ⟨h1, h2, h3, h4⟩ := ht
  have h3' := h3
  have hn' := hn
  rw [pi_le, pi_0] at h3'
  rw [pi_lt] at hn'
  have hl : (301 : Int32).toInt = 301 := rfl
  have hw : (3 : Int32).toInt = 3 := rfl
  have g1 : (I 42 3 + 1).toInt = (I 42 3).toInt + 1 := by rw [pi_add (by rw [pi_1]; omega) (by rw [pi_1]; omega), pi_1]
  have g2 : ((I 42 3 + 1) * I 42 1).toInt = ((I 42 3).toInt + 1) * 3 := by rw [h1, pi_mul (by rw [g1, hw]; omega) (by rw [g1, hw]; omega), g1, hw]
  have g3 : (I 42 3 * I 42 1).toInt = (I 42 3).toInt * 3 := by rw [h1, pi_mul (by rw [hw]; omega) (by rw [hw]; omega), hw]
  have g4 : (I 42 3 * I 42 1).toNatClampNeg = 3 * (I 42 3).toNatClampNeg := by rw [pi_tn, pi_tn, g3]; omega
  rw [pb_85v16_0, h2, if_pos hn, pb_85v16_14]
  have hA : ∀ x I', I' 42 = I 42 → (pm_wp pm_code pm_meta d 85 24 ([.ref 42, .int x], [], (pm_Gb L b, I', J)) Q ↔ if (I 42 3 + 1) * I 42 1 ≤ x then pm_wp pm_code pm_meta d 85 52 ([.ref 42, .int x], [], (pm_Gb L b, I', J)) Q else pm_in x 903 = true ∧ pm_wp pm_code pm_meta d 85 24 ([.ref 42, .int (x + 1)], [], (pm_Gb L b, pm_u I' 43 x.toNatClampNeg 0, J)) Q) := by
    intro x I' hr
    rw [pb_85v16_24, hr, pb_85v16_39]
  rw [pm_add_loop (A := fun x I' => pm_wp pm_code pm_meta d 85 24 ([.ref 42, .int x], [], (pm_Gb L b, I', J)) Q) (E := fun x I' => pm_wp pm_code pm_meta d 85 52 ([.ref 42, .int x], [], (pm_Gb L b, I', J)) Q) (by decide) hA 3 _ I rfl (by rw [pi_le, pi_0]; omega) (by omega) (by omega)]
  have hz : ∀ p q, pm_zr I 43 p q 42 = I 42 := by intro p q; rw [pm_zr_row, if_neg (by decide)]
  rw [pb_85v16_52, g4, hz, pm_u_row, if_pos rfl, pm_w_at, if_pos rfl, pm_inc_sub]
theorem pb_85v12_0 {d L : Nat} {b : Bool} {I : Nat → Nat → Int32} {J : Nat → Nat → Int64}  {Q : Int32 → Int64 → pm_H → Prop} : pm_wc pm_code pm_meta d 85 [.ref 44] (pm_Gb L b, I, J) Q ↔ if (I 44 3) < (I 44 2) then pm_wp pm_code pm_meta d 85 14 ([.ref 44, pm_unset], [], (pm_Gb L b, I, J)) Q else pm_wp pm_code pm_meta d 85 11 ([.ref 44, pm_unset], [], (pm_Gb L b, I, J)) Q := (pm_bk_iff pc_ch_85 5 0 _).trans (pm_brd)
theorem pb_85v12_14 {d L : Nat} {b : Bool} {I : Nat → Nat → Int32} {J : Nat → Nat → Int64}  {Q : Int32 → Int64 → pm_H → Prop} : pm_wp pm_code pm_meta d 85 14 ([.ref 44, pm_unset], [], (pm_Gb L b, I, J)) Q ↔ pm_wp pm_code pm_meta d 85 24 ([.ref 44, .int ((I 44 3) * (I 44 1))], [], (pm_Gb L b, I, J)) Q := (pm_bk_iff pc_ch_85 6 14 _).trans (Iff.rfl)
theorem pb_85v12_11 {d L : Nat} {b : Bool} {I : Nat → Nat → Int32} {J : Nat → Nat → Int64}  {Q : Int32 → Int64 → pm_H → Prop} : pm_wp pm_code pm_meta d 85 11 ([.ref 44, pm_unset], [], (pm_Gb L b, I, J)) Q ↔ Q (-2) 0 (pm_Gb L b, I, J) := (pm_bk_iff pc_ch_85 2 11 _).trans (pm_tt)
theorem pb_85v12_24 {d L : Nat} {b : Bool} {I : Nat → Nat → Int32} {J : Nat → Nat → Int64} {x1 : Int32} {Q : Int32 → Int64 → pm_H → Prop} : pm_wp pm_code pm_meta d 85 24 ([.ref 44, .int x1], [], (pm_Gb L b, I, J)) Q ↔ if (((I 44 3) + 1) * (I 44 1)) ≤ x1 then pm_wp pm_code pm_meta d 85 52 ([.ref 44, .int x1], [], (pm_Gb L b, I, J)) Q else pm_wp pm_code pm_meta d 85 39 ([.ref 44, .int x1], [], (pm_Gb L b, I, J)) Q := (pm_bk_iff pc_ch_85 9 24 _).trans (pm_brd)
theorem pb_85v12_52 {d L : Nat} {b : Bool} {I : Nat → Nat → Int32} {J : Nat → Nat → Int64} {x1 : Int32} {Q : Int32 → Int64 → pm_H → Prop} : pm_wp pm_code pm_meta d 85 52 ([.ref 44, .int x1], [], (pm_Gb L b, I, J)) Q ↔ Q (((pm_u I 44 3 ((I 44 3) + 1)) 44 3) - 1) 0 (pm_Gb L b, (pm_u I 44 3 ((I 44 3) + 1)), J) := (pm_bk_iff pc_ch_85 11 52 _).trans (pm_tt)
theorem pb_85v12_39 {d L : Nat} {b : Bool} {I : Nat → Nat → Int32} {J : Nat → Nat → Int64} {x1 : Int32} {Q : Int32 → Int64 → pm_H → Prop} : pm_wp pm_code pm_meta d 85 39 ([.ref 44, .int x1], [], (pm_Gb L b, I, J)) Q ↔ pm_in x1 50 = true ∧ (pm_wp pm_code pm_meta d 85 24 ([.ref 44, .int (x1 + 1)], [], (pm_Gb L b, (pm_u I 45 x1.toNatClampNeg 0), J)) Q) := (pm_bk_iff pc_ch_85 7 39 _).trans (and_congr Iff.rfl (Iff.rfl))
theorem pt_addf_44 {d L : Nat} {b : Bool} {I : Nat → Nat → Int32} {J : Nat → Nat → Int64} {Q : Int32 → Int64 → pm_H → Prop} (ht : pm_ti (I 44) 5 10) (hn : ¬ I 44 3 < 10) : pm_wc pm_code pm_meta d 85 [.ref 44] (pm_Gb L b, I, J) Q ↔ Q (-2) 0 (pm_Gb L b, I, J) := by
  rw [pb_85v12_0, ht.2.1, if_neg hn, pb_85v12_11]
theorem pt_add_44 {d L : Nat} {b : Bool} {I : Nat → Nat → Int32} {J : Nat → Nat → Int64} {Q : Int32 → Int64 → pm_H → Prop} (ht : pm_ti (I 44) 5 10) (hn : I 44 3 < 10) : pm_wc pm_code pm_meta d 85 [.ref 44] (pm_Gb L b, I, J) Q ↔ Q (I 44 3) 0 (pm_Gb L b, pm_u (pm_zr I 45 (5 * (I 44 3).toNatClampNeg) (5 * (I 44 3).toNatClampNeg + 5)) 44 3 (I 44 3 + 1), J) := by
  obtain ⟨h1, h2, h3, h4⟩ := ht
  have h3' := h3
  have hn' := hn
  rw [pi_le, pi_0] at h3'
  rw [pi_lt] at hn'
  have hl : (10 : Int32).toInt = 10 := rfl
  have hw : (5 : Int32).toInt = 5 := rfl
  have g1 : (I 44 3 + 1).toInt = (I 44 3).toInt + 1 := by rw [pi_add (by rw [pi_1]; omega) (by rw [pi_1]; omega), pi_1]
  have g2 : ((I 44 3 + 1) * I 44 1).toInt = ((I 44 3).toInt + 1) * 5 := by rw [h1, pi_mul (by rw [g1, hw]; omega) (by rw [g1, hw]; omega), g1, hw]
  have g3 : (I 44 3 * I 44 1).toInt = (I 44 3).toInt * 5 := by rw [h1, pi_mul (by rw [hw]; omega) (by rw [hw]; omega), hw]
  have g4 : (I 44 3 * I 44 1).toNatClampNeg = 5 * (I 44 3).toNatClampNeg := by rw [pi_tn, pi_tn, g3]; omega
  rw [pb_85v12_0, h2, if_pos hn, pb_85v12_14]
  have hA : ∀ x I', I' 44 = I 44 → (pm_wp pm_code pm_meta d 85 24 ([.ref 44, .int x], [], (pm_Gb L b, I', J)) Q ↔ if (I 44 3 + 1) * I 44 1 ≤ x then pm_wp pm_code pm_meta d 85 52 ([.ref 44, .int x], [], (pm_Gb L b, I', J)) Q else pm_in x 50 = true ∧ pm_wp pm_code pm_meta d 85 24 ([.ref 44, .int (x + 1)], [], (pm_Gb L b, pm_u I' 45 x.toNatClampNeg 0, J)) Q) := by
    intro x I' hr
    rw [pb_85v12_24, hr, pb_85v12_39]
  rw [pm_add_loop (A := fun x I' => pm_wp pm_code pm_meta d 85 24 ([.ref 44, .int x], [], (pm_Gb L b, I', J)) Q) (E := fun x I' => pm_wp pm_code pm_meta d 85 52 ([.ref 44, .int x], [], (pm_Gb L b, I', J)) Q) (by decide) hA 5 _ I rfl (by rw [pi_le, pi_0]; omega) (by omega) (by omega)]
  have hz : ∀ p q, pm_zr I 45 p q 44 = I 44 := by intro p q; rw [pm_zr_row, if_neg (by decide)]
  rw [pb_85v12_52, g4, hz, pm_u_row, if_pos rfl, pm_w_at, if_pos rfl, pm_inc_sub]
theorem pb_85v17_0 {d L : Nat} {b : Bool} {I : Nat → Nat → Int32} {J : Nat → Nat → Int64}  {Q : Int32 → Int64 → pm_H → Prop} : pm_wc pm_code pm_meta d 85 [.ref 46] (pm_Gb L b, I, J) Q ↔ if (I 46 3) < (I 46 2) then pm_wp pm_code pm_meta d 85 14 ([.ref 46, pm_unset], [], (pm_Gb L b, I, J)) Q else pm_wp pm_code pm_meta d 85 11 ([.ref 46, pm_unset], [], (pm_Gb L b, I, J)) Q := (pm_bk_iff pc_ch_85 5 0 _).trans (pm_brd)
theorem pb_85v17_14 {d L : Nat} {b : Bool} {I : Nat → Nat → Int32} {J : Nat → Nat → Int64}  {Q : Int32 → Int64 → pm_H → Prop} : pm_wp pm_code pm_meta d 85 14 ([.ref 46, pm_unset], [], (pm_Gb L b, I, J)) Q ↔ pm_wp pm_code pm_meta d 85 24 ([.ref 46, .int ((I 46 3) * (I 46 1))], [], (pm_Gb L b, I, J)) Q := (pm_bk_iff pc_ch_85 6 14 _).trans (Iff.rfl)
theorem pb_85v17_11 {d L : Nat} {b : Bool} {I : Nat → Nat → Int32} {J : Nat → Nat → Int64}  {Q : Int32 → Int64 → pm_H → Prop} : pm_wp pm_code pm_meta d 85 11 ([.ref 46, pm_unset], [], (pm_Gb L b, I, J)) Q ↔ Q (-2) 0 (pm_Gb L b, I, J) := (pm_bk_iff pc_ch_85 2 11 _).trans (pm_tt)
theorem pb_85v17_24 {d L : Nat} {b : Bool} {I : Nat → Nat → Int32} {J : Nat → Nat → Int64} {x1 : Int32} {Q : Int32 → Int64 → pm_H → Prop} : pm_wp pm_code pm_meta d 85 24 ([.ref 46, .int x1], [], (pm_Gb L b, I, J)) Q ↔ if (((I 46 3) + 1) * (I 46 1)) ≤ x1 then pm_wp pm_code pm_meta d 85 52 ([.ref 46, .int x1], [], (pm_Gb L b, I, J)) Q else pm_wp pm_code pm_meta d 85 39 ([.ref 46, .int x1], [], (pm_Gb L b, I, J)) Q := (pm_bk_iff pc_ch_85 9 24 _).trans (pm_brd)
theorem pb_85v17_52 {d L : Nat} {b : Bool} {I : Nat → Nat → Int32} {J : Nat → Nat → Int64} {x1 : Int32} {Q : Int32 → Int64 → pm_H → Prop} : pm_wp pm_code pm_meta d 85 52 ([.ref 46, .int x1], [], (pm_Gb L b, I, J)) Q ↔ Q (((pm_u I 46 3 ((I 46 3) + 1)) 46 3) - 1) 0 (pm_Gb L b, (pm_u I 46 3 ((I 46 3) + 1)), J) := (pm_bk_iff pc_ch_85 11 52 _).trans (pm_tt)
theorem pb_85v17_39 {d L : Nat} {b : Bool} {I : Nat → Nat → Int32} {J : Nat → Nat → Int64} {x1 : Int32} {Q : Int32 → Int64 → pm_H → Prop} : pm_wp pm_code pm_meta d 85 39 ([.ref 46, .int x1], [], (pm_Gb L b, I, J)) Q ↔ pm_in x1 200 = true ∧ (pm_wp pm_code pm_meta d 85 24 ([.ref 46, .int (x1 + 1)], [], (pm_Gb L b, (pm_u I 47 x1.toNatClampNeg 0), J)) Q) := (pm_bk_iff pc_ch_85 7 39 _).trans (and_congr Iff.rfl (Iff.rfl))
theorem pt_addf_46 {d L : Nat} {b : Bool} {I : Nat → Nat → Int32} {J : Nat → Nat → Int64} {Q : Int32 → Int64 → pm_H → Prop} (ht : pm_ti (I 46) 2 100) (hn : ¬ I 46 3 < 100) : pm_wc pm_code pm_meta d 85 [.ref 46] (pm_Gb L b, I, J) Q ↔ Q (-2) 0 (pm_Gb L b, I, J) := by
  rw [pb_85v17_0, ht.2.1, if_neg hn, pb_85v17_11]
theorem pt_add_46 {d L : Nat} {b : Bool} {I : Nat → Nat → Int32} {J : Nat → Nat → Int64} {Q : Int32 → Int64 → pm_H → Prop} (ht : pm_ti (I 46) 2 100) (hn : I 46 3 < 100) : pm_wc pm_code pm_meta d 85 [.ref 46] (pm_Gb L b, I, J) Q ↔ Q (I 46 3) 0 (pm_Gb L b, pm_u (pm_zr I 47 (2 * (I 46 3).toNatClampNeg) (2 * (I 46 3).toNatClampNeg + 2)) 46 3 (I 46 3 + 1), J) := by
  obtain ⟨h1, h2, h3, h4⟩ := ht
  have h3' := h3
  have hn' := hn
  rw [pi_le, pi_0] at h3'
  rw [pi_lt] at hn'
  have hl : (100 : Int32).toInt = 100 := rfl
  have hw : (2 : Int32).toInt = 2 := rfl
  have g1 : (I 46 3 + 1).toInt = (I 46 3).toInt + 1 := by rw [pi_add (by rw [pi_1]; omega) (by rw [pi_1]; omega), pi_1]
  have g2 : ((I 46 3 + 1) * I 46 1).toInt = ((I 46 3).toInt + 1) * 2 := by rw [h1, pi_mul (by rw [g1, hw]; omega) (by rw [g1, hw]; omega), g1, hw]
  have g3 : (I 46 3 * I 46 1).toInt = (I 46 3).toInt * 2 := by rw [h1, pi_mul (by rw [hw]; omega) (by rw [hw]; omega), hw]
  have g4 : (I 46 3 * I 46 1).toNatClampNeg = 2 * (I 46 3).toNatClampNeg := by rw [pi_tn, pi_tn, g3]; omega
  rw [pb_85v17_0, h2, if_pos hn, pb_85v17_14]
  have hA : ∀ x I', I' 46 = I 46 → (pm_wp pm_code pm_meta d 85 24 ([.ref 46, .int x], [], (pm_Gb L b, I', J)) Q ↔ if (I 46 3 + 1) * I 46 1 ≤ x then pm_wp pm_code pm_meta d 85 52 ([.ref 46, .int x], [], (pm_Gb L b, I', J)) Q else pm_in x 200 = true ∧ pm_wp pm_code pm_meta d 85 24 ([.ref 46, .int (x + 1)], [], (pm_Gb L b, pm_u I' 47 x.toNatClampNeg 0, J)) Q) := by
    intro x I' hr
    rw [pb_85v17_24, hr, pb_85v17_39]
  rw [pm_add_loop (A := fun x I' => pm_wp pm_code pm_meta d 85 24 ([.ref 46, .int x], [], (pm_Gb L b, I', J)) Q) (E := fun x I' => pm_wp pm_code pm_meta d 85 52 ([.ref 46, .int x], [], (pm_Gb L b, I', J)) Q) (by decide) hA 2 _ I rfl (by rw [pi_le, pi_0]; omega) (by omega) (by omega)]
  have hz : ∀ p q, pm_zr I 47 p q 46 = I 46 := by intro p q; rw [pm_zr_row, if_neg (by decide)]
  rw [pb_85v17_52, g4, hz, pm_u_row, if_pos rfl, pm_w_at, if_pos rfl, pm_inc_sub]
theorem pb_85v11_0 {d L : Nat} {b : Bool} {I : Nat → Nat → Int32} {J : Nat → Nat → Int64}  {Q : Int32 → Int64 → pm_H → Prop} : pm_wc pm_code pm_meta d 85 [.ref 49] (pm_Gb L b, I, J) Q ↔ if (I 49 3) < (I 49 2) then pm_wp pm_code pm_meta d 85 14 ([.ref 49, pm_unset], [], (pm_Gb L b, I, J)) Q else pm_wp pm_code pm_meta d 85 11 ([.ref 49, pm_unset], [], (pm_Gb L b, I, J)) Q := (pm_bk_iff pc_ch_85 5 0 _).trans (pm_brd)
theorem pb_85v11_14 {d L : Nat} {b : Bool} {I : Nat → Nat → Int32} {J : Nat → Nat → Int64}  {Q : Int32 → Int64 → pm_H → Prop} : pm_wp pm_code pm_meta d 85 14 ([.ref 49, pm_unset], [], (pm_Gb L b, I, J)) Q ↔ pm_wp pm_code pm_meta d 85 24 ([.ref 49, .int ((I 49 3) * (I 49 1))], [], (pm_Gb L b, I, J)) Q := (pm_bk_iff pc_ch_85 6 14 _).trans (Iff.rfl)
theorem pb_85v11_11 {d L : Nat} {b : Bool} {I : Nat → Nat → Int32} {J : Nat → Nat → Int64}  {Q : Int32 → Int64 → pm_H → Prop} : pm_wp pm_code pm_meta d 85 11 ([.ref 49, pm_unset], [], (pm_Gb L b, I, J)) Q ↔ Q (-2) 0 (pm_Gb L b, I, J) := (pm_bk_iff pc_ch_85 2 11 _).trans (pm_tt)
theorem pb_85v11_24 {d L : Nat} {b : Bool} {I : Nat → Nat → Int32} {J : Nat → Nat → Int64} {x1 : Int32} {Q : Int32 → Int64 → pm_H → Prop} : pm_wp pm_code pm_meta d 85 24 ([.ref 49, .int x1], [], (pm_Gb L b, I, J)) Q ↔ if (((I 49 3) + 1) * (I 49 1)) ≤ x1 then pm_wp pm_code pm_meta d 85 52 ([.ref 49, .int x1], [], (pm_Gb L b, I, J)) Q else pm_wp pm_code pm_meta d 85 39 ([.ref 49, .int x1], [], (pm_Gb L b, I, J)) Q := (pm_bk_iff pc_ch_85 9 24 _).trans (pm_brd)
theorem pb_85v11_52 {d L : Nat} {b : Bool} {I : Nat → Nat → Int32} {J : Nat → Nat → Int64} {x1 : Int32} {Q : Int32 → Int64 → pm_H → Prop} : pm_wp pm_code pm_meta d 85 52 ([.ref 49, .int x1], [], (pm_Gb L b, I, J)) Q ↔ Q (((pm_u I 49 3 ((I 49 3) + 1)) 49 3) - 1) 0 (pm_Gb L b, (pm_u I 49 3 ((I 49 3) + 1)), J) := (pm_bk_iff pc_ch_85 11 52 _).trans (pm_tt)
theorem pb_85v11_39 {d L : Nat} {b : Bool} {I : Nat → Nat → Int32} {J : Nat → Nat → Int64} {x1 : Int32} {Q : Int32 → Int64 → pm_H → Prop} : pm_wp pm_code pm_meta d 85 39 ([.ref 49, .int x1], [], (pm_Gb L b, I, J)) Q ↔ pm_in x1 14 = true ∧ (pm_wp pm_code pm_meta d 85 24 ([.ref 49, .int (x1 + 1)], [], (pm_Gb L b, (pm_u I 50 x1.toNatClampNeg 0), J)) Q) := (pm_bk_iff pc_ch_85 7 39 _).trans (and_congr Iff.rfl (Iff.rfl))
theorem pt_addf_49 {d L : Nat} {b : Bool} {I : Nat → Nat → Int32} {J : Nat → Nat → Int64} {Q : Int32 → Int64 → pm_H → Prop} (ht : pm_ti (I 49) 2 7) (hn : ¬ I 49 3 < 7) : pm_wc pm_code pm_meta d 85 [.ref 49] (pm_Gb L b, I, J) Q ↔ Q (-2) 0 (pm_Gb L b, I, J) := by
  rw [pb_85v11_0, ht.2.1, if_neg hn, pb_85v11_11]
theorem pt_add_49 {d L : Nat} {b : Bool} {I : Nat → Nat → Int32} {J : Nat → Nat → Int64} {Q : Int32 → Int64 → pm_H → Prop} (ht : pm_ti (I 49) 2 7) (hn : I 49 3 < 7) : pm_wc pm_code pm_meta d 85 [.ref 49] (pm_Gb L b, I, J) Q ↔ Q (I 49 3) 0 (pm_Gb L b, pm_u (pm_zr I 50 (2 * (I 49 3).toNatClampNeg) (2 * (I 49 3).toNatClampNeg + 2)) 49 3 (I 49 3 + 1), J) := by
  obtain ⟨h1, h2, h3, h4⟩ := ht
  have h3' := h3
  have hn' := hn
  rw [pi_le, pi_0] at h3'
  rw [pi_lt] at hn'
  have hl : (7 : Int32).toInt = 7 := rfl
  have hw : (2 : Int32).toInt = 2 := rfl
  have g1 : (I 49 3 + 1).toInt = (I 49 3).toInt + 1 := by rw [pi_add (by rw [pi_1]; omega) (by rw [pi_1]; omega), pi_1]
  have g2 : ((I 49 3 + 1) * I 49 1).toInt = ((I 49 3).toInt + 1) * 2 := by rw [h1, pi_mul (by rw [g1, hw]; omega) (by rw [g1, hw]; omega), g1, hw]
  have g3 : (I 49 3 * I 49 1).toInt = (I 49 3).toInt * 2 := by rw [h1, pi_mul (by rw [hw]; omega) (by rw [hw]; omega), hw]
  have g4 : (I 49 3 * I 49 1).toNatClampNeg = 2 * (I 49 3).toNatClampNeg := by rw [pi_tn, pi_tn, g3]; omega
  rw [pb_85v11_0, h2, if_pos hn, pb_85v11_14]
  have hA : ∀ x I', I' 49 = I 49 → (pm_wp pm_code pm_meta d 85 24 ([.ref 49, .int x], [], (pm_Gb L b, I', J)) Q ↔ if (I 49 3 + 1) * I 49 1 ≤ x then pm_wp pm_code pm_meta d 85 52 ([.ref 49, .int x], [], (pm_Gb L b, I', J)) Q else pm_in x 14 = true ∧ pm_wp pm_code pm_meta d 85 24 ([.ref 49, .int (x + 1)], [], (pm_Gb L b, pm_u I' 50 x.toNatClampNeg 0, J)) Q) := by
    intro x I' hr
    rw [pb_85v11_24, hr, pb_85v11_39]
  rw [pm_add_loop (A := fun x I' => pm_wp pm_code pm_meta d 85 24 ([.ref 49, .int x], [], (pm_Gb L b, I', J)) Q) (E := fun x I' => pm_wp pm_code pm_meta d 85 52 ([.ref 49, .int x], [], (pm_Gb L b, I', J)) Q) (by decide) hA 2 _ I rfl (by rw [pi_le, pi_0]; omega) (by omega) (by omega)]
  have hz : ∀ p q, pm_zr I 50 p q 49 = I 49 := by intro p q; rw [pm_zr_row, if_neg (by decide)]
  rw [pb_85v11_52, g4, hz, pm_u_row, if_pos rfl, pm_w_at, if_pos rfl, pm_inc_sub]
theorem pb_85v14_0 {d L : Nat} {b : Bool} {I : Nat → Nat → Int32} {J : Nat → Nat → Int64}  {Q : Int32 → Int64 → pm_H → Prop} : pm_wc pm_code pm_meta d 85 [.ref 65] (pm_Gb L b, I, J) Q ↔ if (I 65 3) < (I 65 2) then pm_wp pm_code pm_meta d 85 14 ([.ref 65, pm_unset], [], (pm_Gb L b, I, J)) Q else pm_wp pm_code pm_meta d 85 11 ([.ref 65, pm_unset], [], (pm_Gb L b, I, J)) Q := (pm_bk_iff pc_ch_85 5 0 _).trans (pm_brd)
theorem pb_85v14_14 {d L : Nat} {b : Bool} {I : Nat → Nat → Int32} {J : Nat → Nat → Int64}  {Q : Int32 → Int64 → pm_H → Prop} : pm_wp pm_code pm_meta d 85 14 ([.ref 65, pm_unset], [], (pm_Gb L b, I, J)) Q ↔ pm_wp pm_code pm_meta d 85 24 ([.ref 65, .int ((I 65 3) * (I 65 1))], [], (pm_Gb L b, I, J)) Q := (pm_bk_iff pc_ch_85 6 14 _).trans (Iff.rfl)
theorem pb_85v14_11 {d L : Nat} {b : Bool} {I : Nat → Nat → Int32} {J : Nat → Nat → Int64}  {Q : Int32 → Int64 → pm_H → Prop} : pm_wp pm_code pm_meta d 85 11 ([.ref 65, pm_unset], [], (pm_Gb L b, I, J)) Q ↔ Q (-2) 0 (pm_Gb L b, I, J) := (pm_bk_iff pc_ch_85 2 11 _).trans (pm_tt)
theorem pb_85v14_24 {d L : Nat} {b : Bool} {I : Nat → Nat → Int32} {J : Nat → Nat → Int64} {x1 : Int32} {Q : Int32 → Int64 → pm_H → Prop} : pm_wp pm_code pm_meta d 85 24 ([.ref 65, .int x1], [], (pm_Gb L b, I, J)) Q ↔ if (((I 65 3) + 1) * (I 65 1)) ≤ x1 then pm_wp pm_code pm_meta d 85 52 ([.ref 65, .int x1], [], (pm_Gb L b, I, J)) Q else pm_wp pm_code pm_meta d 85 39 ([.ref 65, .int x1], [], (pm_Gb L b, I, J)) Q := (pm_bk_iff pc_ch_85 9 24 _).trans (pm_brd)
theorem pb_85v14_52 {d L : Nat} {b : Bool} {I : Nat → Nat → Int32} {J : Nat → Nat → Int64} {x1 : Int32} {Q : Int32 → Int64 → pm_H → Prop} : pm_wp pm_code pm_meta d 85 52 ([.ref 65, .int x1], [], (pm_Gb L b, I, J)) Q ↔ Q (((pm_u I 65 3 ((I 65 3) + 1)) 65 3) - 1) 0 (pm_Gb L b, (pm_u I 65 3 ((I 65 3) + 1)), J) := (pm_bk_iff pc_ch_85 11 52 _).trans (pm_tt)
theorem pb_85v14_39 {d L : Nat} {b : Bool} {I : Nat → Nat → Int32} {J : Nat → Nat → Int64} {x1 : Int32} {Q : Int32 → Int64 → pm_H → Prop} : pm_wp pm_code pm_meta d 85 39 ([.ref 65, .int x1], [], (pm_Gb L b, I, J)) Q ↔ pm_in x1 24 = true ∧ (pm_wp pm_code pm_meta d 85 24 ([.ref 65, .int (x1 + 1)], [], (pm_Gb L b, (pm_u I 66 x1.toNatClampNeg 0), J)) Q) := (pm_bk_iff pc_ch_85 7 39 _).trans (and_congr Iff.rfl (Iff.rfl))
theorem pt_addf_65 {d L : Nat} {b : Bool} {I : Nat → Nat → Int32} {J : Nat → Nat → Int64} {Q : Int32 → Int64 → pm_H → Prop} (ht : pm_ti (I 65) 1 24) (hn : ¬ I 65 3 < 24) : pm_wc pm_code pm_meta d 85 [.ref 65] (pm_Gb L b, I, J) Q ↔ Q (-2) 0 (pm_Gb L b, I, J) := by
  rw [pb_85v14_0, ht.2.1, if_neg hn, pb_85v14_11]
theorem pt_add_65 {d L : Nat} {b : Bool} {I : Nat → Nat → Int32} {J : Nat → Nat → Int64} {Q : Int32 → Int64 → pm_H → Prop} (ht : pm_ti (I 65) 1 24) (hn : I 65 3 < 24) : pm_wc pm_code pm_meta d 85 [.ref 65] (pm_Gb L b, I, J) Q ↔ Q (I 65 3) 0 (pm_Gb L b, pm_u (pm_zr I 66 (1 * (I 65 3).toNatClampNeg) (1 * (I 65 3).toNatClampNeg + 1)) 65 3 (I 65 3 + 1), J) := by
  obtain ⟨h1, h2, h3, h4⟩ := ht
  have h3' := h3
  have hn' := hn
  rw [pi_le, pi_0] at h3'
  rw [pi_lt] at hn'
  have hl : (24 : Int32).toInt = 24 := rfl
  have hw : (1 : Int32).toInt = 1 := rfl
  have g1 : (I 65 3 + 1).toInt = (I 65 3).toInt + 1 := by rw [pi_add (by rw [pi_1]; omega) (by rw [pi_1]; omega), pi_1]
  have g2 : ((I 65 3 + 1) * I 65 1).toInt = ((I 65 3).toInt + 1) * 1 := by rw [h1, pi_mul (by rw [g1, hw]; omega) (by rw [g1, hw]; omega), g1, hw]
  have g3 : (I 65 3 * I 65 1).toInt = (I 65 3).toInt * 1 := by rw [h1, pi_mul (by rw [hw]; omega) (by rw [hw]; omega), hw]
  have g4 : (I 65 3 * I 65 1).toNatClampNeg = 1 * (I 65 3).toNatClampNeg := by rw [pi_tn, pi_tn, g3]; omega
  rw [pb_85v14_0, h2, if_pos hn, pb_85v14_14]
  have hA : ∀ x I', I' 65 = I 65 → (pm_wp pm_code pm_meta d 85 24 ([.ref 65, .int x], [], (pm_Gb L b, I', J)) Q ↔ if (I 65 3 + 1) * I 65 1 ≤ x then pm_wp pm_code pm_meta d 85 52 ([.ref 65, .int x], [], (pm_Gb L b, I', J)) Q else pm_in x 24 = true ∧ pm_wp pm_code pm_meta d 85 24 ([.ref 65, .int (x + 1)], [], (pm_Gb L b, pm_u I' 66 x.toNatClampNeg 0, J)) Q) := by
    intro x I' hr
    rw [pb_85v14_24, hr, pb_85v14_39]
  rw [pm_add_loop (A := fun x I' => pm_wp pm_code pm_meta d 85 24 ([.ref 65, .int x], [], (pm_Gb L b, I', J)) Q) (E := fun x I' => pm_wp pm_code pm_meta d 85 52 ([.ref 65, .int x], [], (pm_Gb L b, I', J)) Q) (by decide) hA 1 _ I rfl (by rw [pi_le, pi_0]; omega) (by omega) (by omega)]
  have hz : ∀ p q, pm_zr I 66 p q 65 = I 65 := by intro p q; rw [pm_zr_row, if_neg (by decide)]
  rw [pb_85v14_52, g4, hz, pm_u_row, if_pos rfl, pm_w_at, if_pos rfl, pm_inc_sub]
theorem pb_85v15_0 {d L : Nat} {b : Bool} {I : Nat → Nat → Int32} {J : Nat → Nat → Int64}  {Q : Int32 → Int64 → pm_H → Prop} : pm_wc pm_code pm_meta d 85 [.ref 77] (pm_Gb L b, I, J) Q ↔ if (I 77 3) < (I 77 2) then pm_wp pm_code pm_meta d 85 14 ([.ref 77, pm_unset], [], (pm_Gb L b, I, J)) Q else pm_wp pm_code pm_meta d 85 11 ([.ref 77, pm_unset], [], (pm_Gb L b, I, J)) Q := (pm_bk_iff pc_ch_85 5 0 _).trans (pm_brd)
theorem pb_85v15_14 {d L : Nat} {b : Bool} {I : Nat → Nat → Int32} {J : Nat → Nat → Int64}  {Q : Int32 → Int64 → pm_H → Prop} : pm_wp pm_code pm_meta d 85 14 ([.ref 77, pm_unset], [], (pm_Gb L b, I, J)) Q ↔ pm_wp pm_code pm_meta d 85 24 ([.ref 77, .int ((I 77 3) * (I 77 1))], [], (pm_Gb L b, I, J)) Q := (pm_bk_iff pc_ch_85 6 14 _).trans (Iff.rfl)
theorem pb_85v15_11 {d L : Nat} {b : Bool} {I : Nat → Nat → Int32} {J : Nat → Nat → Int64}  {Q : Int32 → Int64 → pm_H → Prop} : pm_wp pm_code pm_meta d 85 11 ([.ref 77, pm_unset], [], (pm_Gb L b, I, J)) Q ↔ Q (-2) 0 (pm_Gb L b, I, J) := (pm_bk_iff pc_ch_85 2 11 _).trans (pm_tt)
theorem pb_85v15_24 {d L : Nat} {b : Bool} {I : Nat → Nat → Int32} {J : Nat → Nat → Int64} {x1 : Int32} {Q : Int32 → Int64 → pm_H → Prop} : pm_wp pm_code pm_meta d 85 24 ([.ref 77, .int x1], [], (pm_Gb L b, I, J)) Q ↔ if (((I 77 3) + 1) * (I 77 1)) ≤ x1 then pm_wp pm_code pm_meta d 85 52 ([.ref 77, .int x1], [], (pm_Gb L b, I, J)) Q else pm_wp pm_code pm_meta d 85 39 ([.ref 77, .int x1], [], (pm_Gb L b, I, J)) Q := (pm_bk_iff pc_ch_85 9 24 _).trans (pm_brd)
theorem pb_85v15_52 {d L : Nat} {b : Bool} {I : Nat → Nat → Int32} {J : Nat → Nat → Int64} {x1 : Int32} {Q : Int32 → Int64 → pm_H → Prop} : pm_wp pm_code pm_meta d 85 52 ([.ref 77, .int x1], [], (pm_Gb L b, I, J)) Q ↔ Q (((pm_u I 77 3 ((I 77 3) + 1)) 77 3) - 1) 0 (pm_Gb L b, (pm_u I 77 3 ((I 77 3) + 1)), J) := (pm_bk_iff pc_ch_85 11 52 _).trans (pm_tt)
theorem pb_85v15_39 {d L : Nat} {b : Bool} {I : Nat → Nat → Int32} {J : Nat → Nat → Int64} {x1 : Int32} {Q : Int32 → Int64 → pm_H → Prop} : pm_wp pm_code pm_meta d 85 39 ([.ref 77, .int x1], [], (pm_Gb L b, I, J)) Q ↔ pm_in x1 30 = true ∧ (pm_wp pm_code pm_meta d 85 24 ([.ref 77, .int (x1 + 1)], [], (pm_Gb L b, (pm_u I 78 x1.toNatClampNeg 0), J)) Q) := (pm_bk_iff pc_ch_85 7 39 _).trans (and_congr Iff.rfl (Iff.rfl))
theorem pt_addf_77 {d L : Nat} {b : Bool} {I : Nat → Nat → Int32} {J : Nat → Nat → Int64} {Q : Int32 → Int64 → pm_H → Prop} (ht : pm_ti (I 77) 1 30) (hn : ¬ I 77 3 < 30) : pm_wc pm_code pm_meta d 85 [.ref 77] (pm_Gb L b, I, J) Q ↔ Q (-2) 0 (pm_Gb L b, I, J) := by
  rw [pb_85v15_0, ht.2.1, if_neg hn, pb_85v15_11]
theorem pt_add_77 {d L : Nat} {b : Bool} {I : Nat → Nat → Int32} {J : Nat → Nat → Int64} {Q : Int32 → Int64 → pm_H → Prop} (ht : pm_ti (I 77) 1 30) (hn : I 77 3 < 30) : pm_wc pm_code pm_meta d 85 [.ref 77] (pm_Gb L b, I, J) Q ↔ Q (I 77 3) 0 (pm_Gb L b, pm_u (pm_zr I 78 (1 * (I 77 3).toNatClampNeg) (1 * (I 77 3).toNatClampNeg + 1)) 77 3 (I 77 3 + 1), J) := by
  obtain ⟨h1, h2, h3, h4⟩ := ht
  have h3' := h3
  have hn' := hn
  rw [pi_le, pi_0] at h3'
  rw [pi_lt] at hn'
  have hl : (30 : Int32).toInt = 30 := rfl
  have hw : (1 : Int32).toInt = 1 := rfl
  have g1 : (I 77 3 + 1).toInt = (I 77 3).toInt + 1 := by rw [pi_add (by rw [pi_1]; omega) (by rw [pi_1]; omega), pi_1]
  have g2 : ((I 77 3 + 1) * I 77 1).toInt = ((I 77 3).toInt + 1) * 1 := by rw [h1, pi_mul (by rw [g1, hw]; omega) (by rw [g1, hw]; omega), g1, hw]
  have g3 : (I 77 3 * I 77 1).toInt = (I 77 3).toInt * 1 := by rw [h1, pi_mul (by rw [hw]; omega) (by rw [hw]; omega), hw]
  have g4 : (I 77 3 * I 77 1).toNatClampNeg = 1 * (I 77 3).toNatClampNeg := by rw [pi_tn, pi_tn, g3]; omega
  rw [pb_85v15_0, h2, if_pos hn, pb_85v15_14]
  have hA : ∀ x I', I' 77 = I 77 → (pm_wp pm_code pm_meta d 85 24 ([.ref 77, .int x], [], (pm_Gb L b, I', J)) Q ↔ if (I 77 3 + 1) * I 77 1 ≤ x then pm_wp pm_code pm_meta d 85 52 ([.ref 77, .int x], [], (pm_Gb L b, I', J)) Q else pm_in x 30 = true ∧ pm_wp pm_code pm_meta d 85 24 ([.ref 77, .int (x + 1)], [], (pm_Gb L b, pm_u I' 78 x.toNatClampNeg 0, J)) Q) := by
    intro x I' hr
    rw [pb_85v15_24, hr, pb_85v15_39]
  rw [pm_add_loop (A := fun x I' => pm_wp pm_code pm_meta d 85 24 ([.ref 77, .int x], [], (pm_Gb L b, I', J)) Q) (E := fun x I' => pm_wp pm_code pm_meta d 85 52 ([.ref 77, .int x], [], (pm_Gb L b, I', J)) Q) (by decide) hA 1 _ I rfl (by rw [pi_le, pi_0]; omega) (by omega) (by omega)]
  have hz : ∀ p q, pm_zr I 78 p q 77 = I 77 := by intro p q; rw [pm_zr_row, if_neg (by decide)]
  rw [pb_85v15_52, g4, hz, pm_u_row, if_pos rfl, pm_w_at, if_pos rfl, pm_inc_sub]
