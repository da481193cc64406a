/-! What the deeds of a field tell: the reference looks for the next one. -/
def pf_lv : Option Nat → Int32
  | none => -1
  | some z => Int32.ofNat z
def pf_nx (S : Nat → Prop) (day : Nat → Int32) (v : Int32) (k : Nat) : Prop := (v = -1 ∧ ∀ j, j < k → ¬ S j) ∨ ∃ z, v = Int32.ofNat z ∧ z < k ∧ S z ∧ ∀ j, j < k → S j → j = z ∨ pf_bf day z j
theorem nx_no {S : Nat → Prop} {day : Nat → Int32} {v : Int32} {k : Nat} (h : pf_nx S day v k) (hk : ¬ S k) : pf_nx S day v (k + 1) := by
  rcases h with ⟨h1, h2⟩ | ⟨z, h1, h2, h3, h4⟩
  · refine Or.inl ⟨h1, fun j hj hs => ?_⟩
    by_cases e : j = k
    · subst e; exact hk hs
    · exact h2 j (by omega) hs
  · refine Or.inr ⟨z, h1, by omega, h3, fun j hj hs => ?_⟩
    by_cases e : j = k
    · subst e; exact absurd hs hk
    · exact h4 j (by omega) hs
theorem nx_first {S : Nat → Prop} {day : Nat → Int32} {k : Nat} (h : pf_nx S day (-1) k) (k24 : k < 1000) (hk : S k) : pf_nx S day (Int32.ofNat k) (k + 1) := by
  rcases h with ⟨h1, h2⟩ | ⟨z, h1, h2, h3, h4⟩
  · refine Or.inr ⟨k, rfl, by omega, hk, fun j hj hs => ?_⟩
    by_cases e : j = k
    · exact Or.inl e
    · exact absurd hs (h2 j (by omega))
  · exfalso
    have p := pi_on (j := z) (by omega)
    have := p.1
    rw [← h1] at this
    exact absurd this (by decide)
theorem nx_more {S : Nat → Prop} {day : Nat → Int32} {k z : Nat} (k24 : k < 1000) (hz : z < k) (h : pf_nx S day (Int32.ofNat z) k) (hk : S k) : pf_nx S day (if day z ≤ day k then Int32.ofNat z else Int32.ofNat k) (k + 1) := by
  have p := pi_on (j := z) (by omega)
  rcases h with ⟨h1, h2⟩ | ⟨y, h1, h2, h3, h4⟩
  · exfalso
    have := p.1
    rw [h1] at this
    exact absurd this (by decide)
  · have py := pi_on (j := y) (by omega)
    have e : z = y := by rw [← p.2.1, h1, py.2.1]
    subst e
    split
    · next c =>
      refine Or.inr ⟨z, rfl, by omega, h3, fun j hj hs => ?_⟩
      by_cases e : j = k
      · subst e
        right
        by_cases q : day z = day j
        · exact Or.inr ⟨q, hz⟩
        · exact Or.inl (Int32.lt_of_le_of_ne c q)
      · exact h4 j (by omega) hs
    · next c =>
      have kb : pf_bf day k z := Or.inl (Int32.not_le.mp c)
      refine Or.inr ⟨k, rfl, by omega, hk, fun j hj hs => ?_⟩
      by_cases e : j = k
      · exact Or.inl e
      · right
        rcases h4 j (by omega) hs with q | q
        · subst q; exact kb
        · exact bf_trans kb q
theorem pm_b_t' {p : Prop} [Decidable p] (h : p) : pm_b p = 1 := if_pos h
theorem pm_b_f' {p : Prop} [Decidable p] (h : ¬ p) : pm_b p = 0 := if_neg h
theorem pr_select {d L : Nat} {b : Bool} {I : Nat → Nat → Int32} {J : Nat → Nat → Int64} {x1 x2 x3 x4 x5 : Int32} {last : Option Nat} {Q : Int32 → Int64 → pm_H → Prop} (n0 : 0 ≤ I 80 9) (n24 : I 80 9 ≤ 24) (hlast : ∀ z, last = some z → z < (I 80 9).toNatClampNeg)
    (hQ : ∀ v D, pf_nx (fun j => (I 130 j = x1 ∧ I 135 j ≤ x3) ∧ (last = none ∨ ∃ z, last = some z ∧ pf_bf (I 133) z j)) (I 133) v (I 80 9).toNatClampNeg → pm_wp pm_code pm_meta d 278 153 ([.ref 79, .int x1, .int x2, .int x3, .int x4, .int x5, .int (pf_lv last), .int v, .int (I 80 9), pm_vl D], [], (pm_Gb L b, I, J)) Q) : ∀ (m k : Nat) (v : Int32) (D : Option Int32), k + m = (I 80 9).toNatClampNeg → pf_nx (fun j => (I 130 j = x1 ∧ I 135 j ≤ x3) ∧ (last = none ∨ ∃ z, last = some z ∧ pf_bf (I 133) z j)) (I 133) v k → pm_wp pm_code pm_meta d 278 29 ([.ref 79, .int x1, .int x2, .int x3, .int x4, .int x5, .int (pf_lv last), .int v, .int (Int32.ofNat k), pm_vl D], [], (pm_Gb L b, I, J)) Q := by
  have e24 : (24 : Int32).toInt = 24 := rfl
  have t1 := pi_tni n0
  have t2 := pi_le.mp n24
  intro m
  induction m with
  | zero =>
    intro k v D hm hv
    have hk : k = (I 80 9).toNatClampNeg := by omega
    have p := pi_on (j := k) (by omega)
    have e : Int32.ofNat k = I 80 9 := Int32.toInt_inj.mp (by rw [p.2.2]; omega)
    have hi : I 80 9 ≤ Int32.ofNat k := by rw [e]; exact Int32.le_refl _
    rw [hk] at hv
    have q := hQ v D hv
    rw [← e] at q
    cases D <;> simp only [pm_vl_n, pm_vl_s] at q ⊢ <;> first | (rw [pb_278_29, if_pos hi]; exact q) | (rw [pb_278_29b, if_pos hi]; exact q)
  | succ m ih =>
    intro k v D hm hv
    have p := pi_on (j := k) (by omega)
    have hi : ¬ I 80 9 ≤ Int32.ofNat k := by rw [pi_le, p.2.2]; omega
    have ik := pi_in24 n24 p.1 (Int32.not_le.mp hi)
    have ek := pi_onadd (j := k) (by omega)
    -- what is looked at: whether it is behind the last one
    have key : ∀ (bit : Int32), bit = @pm_b (last = none ∨ ∃ z, last = some z ∧ pf_bf (I 133) z k) (Classical.propDecidable _) → pm_wp pm_code pm_meta d 278 105 ([.ref 79, .int x1, .int x2, .int x3, .int x4, .int x5, .int (pf_lv last), .int v, .int (Int32.ofNat k), .int bit], [], (pm_Gb L b, I, J)) Q ∨ ¬ I 130 k = x1 := by
      intro bit hbit
      by_cases c1 : I 130 k = x1
      · left
        rw [pb_278_105, p.2.1]
        refine ⟨ik, ?_⟩
        by_cases c2 : I 135 k ≤ x3
        · rw [if_neg (Int32.not_lt.mpr c2), pb_278_116]
          by_cases c3 : (last = none ∨ ∃ z, last = some z ∧ pf_bf (I 133) z k)
          · have hb1 : ¬ bit = 0 := by rw [hbit, @pm_b_t' _ (Classical.propDecidable _) c3]; decide
            have hS : (fun j => (I 130 j = x1 ∧ I 135 j ≤ x3) ∧ (last = none ∨ ∃ z, last = some z ∧ pf_bf (I 133) z j)) k := ⟨⟨c1, c2⟩, c3⟩
            rw [if_neg hb1, pb_278_121]
            rcases hv with ⟨h1, h2⟩ | ⟨z, h1, h2, h3, h4⟩
            · have z := ih (k + 1) (Int32.ofNat k) (some bit) (by omega) (nx_first (by subst h1; exact Or.inl ⟨rfl, h2⟩) (by omega) hS)
              subst h1
              rw [if_pos (by decide), pb_278_143, pb_278_147, ek]
              exact z
            · have pz := pi_on (j := z) (by omega)
              have iz := pi_in24 n24 pz.1 (pi_onlt (by omega) (by omega))
              have nz : ¬ v < 0 := by rw [h1]; exact Int32.not_lt.mpr pz.1
              have mm := nx_more (S := (fun j => (I 130 j = x1 ∧ I 135 j ≤ x3) ∧ (last = none ∨ ∃ z, last = some z ∧ pf_bf (I 133) z j))) (day := I 133) (by omega) h2 (Or.inr ⟨z, rfl, h2, h3, h4⟩) hS
              rw [if_neg nz, pb_278_126, h1, pz.2.1, p.2.1]
              refine ⟨ik, iz, ?_⟩
              by_cases c4 : I 133 z ≤ I 133 k
              · rw [if_pos c4] at mm
                rw [if_pos c4, pb_278_147, ek]
                exact ih (k + 1) (Int32.ofNat z) (some bit) (by omega) mm
              · rw [if_neg c4] at mm
                rw [if_neg c4, pb_278_143, pb_278_147, ek]
                exact ih (k + 1) (Int32.ofNat k) (some bit) (by omega) mm
          · have hb0 : bit = 0 := by rw [hbit, @pm_b_f' _ (Classical.propDecidable _) c3]
            rw [if_pos hb0, pb_278_147, ek]
            exact ih (k + 1) v (some bit) (by omega) (nx_no hv (fun q => c3 q.2))
        · rw [if_pos (Int32.not_le.mp c2), pb_278_147, ek]
          exact ih (k + 1) v (some bit) (by omega) (nx_no hv (fun q => c2 q.1.2))
      · exact Or.inr c1
    have at92 : ∀ bit, bit = @pm_b (last = none ∨ ∃ z, last = some z ∧ pf_bf (I 133) z k) (Classical.propDecidable _) → pm_wp pm_code pm_meta d 278 92 ([.ref 79, .int x1, .int x2, .int x3, .int x4, .int x5, .int (pf_lv last), .int v, .int (Int32.ofNat k), pm_vl D], [.int bit], (pm_Gb L b, I, J)) Q := by
      intro bit hbit
      have e92 : pm_wp pm_code pm_meta d 278 92 ([.ref 79, .int x1, .int x2, .int x3, .int x4, .int x5, .int (pf_lv last), .int v, .int (Int32.ofNat k), pm_vl D], [.int bit], (pm_Gb L b, I, J)) Q ↔ (if I 130 k = x1 then pm_wp pm_code pm_meta d 278 105 ([.ref 79, .int x1, .int x2, .int x3, .int x4, .int x5, .int (pf_lv last), .int v, .int (Int32.ofNat k), .int bit], [], (pm_Gb L b, I, J)) Q else pm_wp pm_code pm_meta d 278 147 ([.ref 79, .int x1, .int x2, .int x3, .int x4, .int x5, .int (pf_lv last), .int v, .int (Int32.ofNat k), .int bit], [], (pm_Gb L b, I, J)) Q) := by
        cases D <;> simp only [pm_vl_n, pm_vl_s, pb_278_92, pb_278_92b, ik, true_and, p.2.1]
      rw [e92]
      by_cases c1 : I 130 k = x1
      · rw [if_pos c1]
        exact (key bit hbit).resolve_right (fun q => q c1)
      · rw [if_neg c1, pb_278_147, ek]
        exact ih (k + 1) v (some bit) (by omega) (nx_no hv (fun q => c1 q.1.1))
    cases hl : last with
    | none =>
      subst hl
      have z := at92 1 (@pm_b_t' _ (Classical.propDecidable _) (Or.inl rfl)).symm
      have c : (-1 : Int32) < 0 := by decide
      cases D <;> simp only [pm_vl_n, pm_vl_s, pf_lv] at z ⊢ <;> first | (rw [pb_278_29, if_neg hi, pb_278_41, if_pos c, pb_278_87]; exact z) | (rw [pb_278_29b, if_neg hi, pb_278_41b, if_pos c, pb_278_87b]; exact z)
    | some y =>
      subst hl
      have hy := hlast y rfl
      have py := pi_on (j := y) (by omega)
      have iy := pi_in24 n24 py.1 (pi_onlt (by omega) hy)
      have c : ¬ Int32.ofNat y < 0 := Int32.not_lt.mpr py.1
      have hle : (Int32.ofNat k ≤ Int32.ofNat y) = ¬ (y < k) := by rw [pi_le, p.2.2, py.2.2, eq_iff_iff]; omega
      by_cases c1 : I 133 y < I 133 k
      · have z := at92 1 (@pm_b_t' _ (Classical.propDecidable _) (Or.inr ⟨y, rfl, Or.inl c1⟩)).symm
        cases D <;> simp only [pm_vl_n, pm_vl_s, pf_lv] at z ⊢ <;> first | (rw [pb_278_29, if_neg hi, pb_278_41, if_neg c, pb_278_46, p.2.1, py.2.1, if_pos c1, pb_278_87]; exact ⟨ik, iy, z⟩) | (rw [pb_278_29b, if_neg hi, pb_278_41b, if_neg c, pb_278_46b, p.2.1, py.2.1, if_pos c1, pb_278_87b]; exact ⟨ik, iy, z⟩)
      · by_cases c2 : I 133 k = I 133 y
        · by_cases c3 : y < k
          · have z := at92 1 (@pm_b_t' _ (Classical.propDecidable _) (Or.inr ⟨y, rfl, Or.inr ⟨c2.symm, c3⟩⟩)).symm
            have c4 : ¬ Int32.ofNat k ≤ Int32.ofNat y := by rw [hle]; exact not_not_intro c3
            cases D <;> simp only [pm_vl_n, pm_vl_s, pf_lv] at z ⊢ <;> first | (rw [pb_278_29, if_neg hi, pb_278_41, if_neg c, pb_278_46, p.2.1, py.2.1, if_neg c1, pb_278_63, p.2.1, py.2.1, if_pos c2, pb_278_80, if_neg c4, pb_278_87]; exact ⟨ik, iy, ik, iy, z⟩) | (rw [pb_278_29b, if_neg hi, pb_278_41b, if_neg c, pb_278_46b, p.2.1, py.2.1, if_neg c1, pb_278_63b, p.2.1, py.2.1, if_pos c2, pb_278_80b, if_neg c4, pb_278_87b]; exact ⟨ik, iy, ik, iy, z⟩)
          · have z := at92 0 (@pm_b_f' _ (Classical.propDecidable _) (fun q => by
              rcases q with q | ⟨w, e, q⟩
              · exact absurd q (by simp)
              · have e : y = w := by simpa using e
                subst e
                rcases q with q | q
                · exact c1 q
                · exact c3 q.2)).symm
            have c4 : Int32.ofNat k ≤ Int32.ofNat y := by rw [hle]; exact c3
            cases D <;> simp only [pm_vl_n, pm_vl_s, pf_lv] at z ⊢ <;> first | (rw [pb_278_29, if_neg hi, pb_278_41, if_neg c, pb_278_46, p.2.1, py.2.1, if_neg c1, pb_278_63, p.2.1, py.2.1, if_pos c2, pb_278_80, if_pos c4, pb_278_91]; exact ⟨ik, iy, ik, iy, z⟩) | (rw [pb_278_29b, if_neg hi, pb_278_41b, if_neg c, pb_278_46b, p.2.1, py.2.1, if_neg c1, pb_278_63b, p.2.1, py.2.1, if_pos c2, pb_278_80b, if_pos c4, pb_278_91b]; exact ⟨ik, iy, ik, iy, z⟩)
        · have z := at92 0 (@pm_b_f' _ (Classical.propDecidable _) (fun q => by
            rcases q with q | ⟨w, e, q⟩
            · exact absurd q (by simp)
            · have e : y = w := by simpa using e
              subst e
              rcases q with q | q
              · exact c1 q
              · exact c2 q.1.symm)).symm
          cases D <;> simp only [pm_vl_n, pm_vl_s, pf_lv] at z ⊢ <;> first | (rw [pb_278_29, if_neg hi, pb_278_41, if_neg c, pb_278_46, p.2.1, py.2.1, if_neg c1, pb_278_63, p.2.1, py.2.1, if_neg c2, pb_278_91]; exact ⟨ik, iy, ik, iy, z⟩) | (rw [pb_278_29b, if_neg hi, pb_278_41b, if_neg c, pb_278_46b, p.2.1, py.2.1, if_neg c1, pb_278_63b, p.2.1, py.2.1, if_neg c2, pb_278_91b]; exact ⟨ik, iy, ik, iy, z⟩)

