/-! WHAT A RUN KEEPS: the script's cells, and where the reference lies. -/
def pm_wH : pm_out → pm_H
  | .inl x => x.2.2
  | .inr (.inl (_, x)) => x.2.2
  | .inr (.inr (.inl (_, _, x))) => x.2.2
  | .inr (.inr (.inr (.inl (_, _, _, x)))) => x.2.2
  | .inr (.inr (.inr (.inr (.inl (_, _, x))))) => x.2.2
  | .inr (.inr (.inr (.inr (.inr (_, _, _, H))))) => H
def pm_wo (P : pm_H → Prop) : Option pm_out → Prop
  | none => True
  | some o => P (pm_wH o)
section
variable {P : pm_H → Prop} {x : pm_C}
theorem wo_load (hP : P x.2.2) {i : Nat} : pm_wo P (pm_load i x) := by unfold pm_load; repeat' split
                                                                       all_goals first | trivial | exact hP
theorem wo_loadl (hP : P x.2.2) {i : Nat} : pm_wo P (pm_loadl i x) := by
  unfold pm_loadl; repeat' split
  all_goals first | trivial | exact hP
theorem wo_loada (hP : P x.2.2) {i : Nat} : pm_wo P (pm_loada i x) := by
  unfold pm_loada; repeat' split
  all_goals first | trivial | exact hP
theorem wo_stor (hP : P x.2.2) {i : Nat} : pm_wo P (pm_stor i x) := by
  unfold pm_stor; repeat' split
  all_goals first | trivial | exact hP
theorem wo_storl (hP : P x.2.2) {i : Nat} : pm_wo P (pm_storl i x) := by
  unfold pm_storl; repeat' split
  all_goals first | trivial | exact hP
theorem wo_stora (hP : P x.2.2) {i : Nat} : pm_wo P (pm_stora i x) := by
  unfold pm_stora; repeat' split
  all_goals first | trivial | exact hP
theorem wo_i2 (hP : P x.2.2) {f : Int32 → Int32 → Int32} : pm_wo P (pm_i2 x f) := by
  unfold pm_i2; repeat' split
  all_goals first | trivial | exact hP
theorem wo_l2 (hP : P x.2.2) {f : Int64 → Int64 → Int64} : pm_wo P (pm_l2 x f) := by
  unfold pm_l2; repeat' split
  all_goals first | trivial | exact hP
theorem wo_ls (hP : P x.2.2) {f : Int64 → Int32 → Int64} : pm_wo P (pm_ls x f) := by
  unfold pm_ls; repeat' split
  all_goals first | trivial | exact hP
theorem wo_i1 (hP : P x.2.2) {f : Int32 → Int32} : pm_wo P (pm_i1 x f) := by
  unfold pm_i1; repeat' split
  all_goals first | trivial | exact hP
theorem wo_psh (hP : P x.2.2) {v : Value} : pm_wo P (pm_psh x v) := hP
theorem wo_get (hP : P x.2.2) {a b c : Nat} : pm_wo P (pm_get x a b c) := by
  unfold pm_get; repeat' split
  all_goals first | trivial | exact hP
theorem wo_ald (hP : P x.2.2) {t : Nat} : pm_wo P (pm_ald x t) := by
  unfold pm_ald; repeat' split
  all_goals first | trivial | exact hP
theorem wo_ldl (hP : P x.2.2) : pm_wo P (pm_ldl x) := by
  unfold pm_ldl; repeat' split
  all_goals first | trivial | exact hP
theorem wo_aln (hP : P x.2.2) : pm_wo P (pm_aln x) := by
  unfold pm_aln; repeat' split
  all_goals first | trivial | exact hP
theorem wo_call (hP : P x.2.2) {a b c : Nat} : pm_wo P (pm_call x a b c) := by
  unfold pm_call; repeat' split
  all_goals first | trivial | exact hP
theorem wo_ret (hP : P x.2.2) {a : Nat} : pm_wo P (pm_ret x a) := by
  unfold pm_ret; repeat' split
  all_goals first | trivial | exact hP
theorem wo_retl (hP : P x.2.2) : pm_wo P (pm_retl x) := by
  unfold pm_retl; repeat' split
  all_goals first | trivial | exact hP
theorem wo_retv (hP : P x.2.2) : pm_wo P (pm_retv x) := by
  unfold pm_retv; repeat' split
  all_goals first | trivial | exact hP
variable (hP : P x.2.2) (hI : ∀ o k v, 8 ≤ o → P (x.2.2.1, pm_u x.2.2.2.1 o k v, x.2.2.2.2)) (hJ : ∀ f, P (x.2.2.1, x.2.2.2.1, f)) (hO : ∀ f, P ((x.2.2.1.1, f, x.2.2.1.2.2), x.2.2.2)) (hC : ∀ a p b q n, 8 ≤ b → P (x.2.2.1, pm_cp x.2.2.2.1 a p b q n, x.2.2.2.2)) (hM : ∀ st v n, P (pm_mk x st v n).2.2)
theorem wo_put (hI : ∀ o k v, 8 ≤ o → P (x.2.2.1, pm_u x.2.2.2.1 o k v, x.2.2.2.2)) (hJ : ∀ f, P (x.2.2.1, x.2.2.2.1, f)) (hO : ∀ f, P ((x.2.2.1.1, f, x.2.2.1.2.2), x.2.2.2)) {a b c : Nat} : pm_wo P (pm_put x a b c) := by
  unfold pm_put; repeat' split
  all_goals first
    | trivial
    | exact hJ _
    | exact hO _
    | (rename_i h; rw [Bool.and_eq_true] at h; exact hI _ _ _ (Nat.le_of_ble_eq_true h.2))
theorem wo_ast (hI : ∀ o k v, 8 ≤ o → P (x.2.2.1, pm_u x.2.2.2.1 o k v, x.2.2.2.2)) {t : Nat} {f : Int32 → Int32} : pm_wo P (pm_ast x t f) := by
  unfold pm_ast; repeat' split
  all_goals first
    | trivial
    | (rename_i h; rw [Bool.and_eq_true] at h; exact hI _ _ _ (Nat.le_of_ble_eq_true h.2))
theorem wo_stl (hJ : ∀ f, P (x.2.2.1, x.2.2.2.1, f)) : pm_wo P (pm_stl x) := by
  unfold pm_stl; repeat' split
  all_goals first | trivial | exact hJ _
theorem wo_nwa (hM : ∀ st v n, P (pm_mk x st v n).2.2) {t : Nat} : pm_wo P (pm_nwa x t) := by
  unfold pm_nwa; repeat' split
  all_goals first | trivial | exact hM _ _ _
theorem wo_acp (hC : ∀ a p b q n, 8 ≤ b → P (x.2.2.1, pm_cp x.2.2.2.1 a p b q n, x.2.2.2.2)) : pm_wo P (pm_acp x) := by
  unfold pm_acp; repeat' split
  all_goals first
    | trivial
    | (rename_i h; simp only [Bool.and_eq_true] at h; exact hC _ _ _ _ _ (Nat.le_of_ble_eq_true h.1.2))
theorem wo_step {en : pm_E} (hP : P x.2.2) (hI : ∀ o k v, 8 ≤ o → P (x.2.2.1, pm_u x.2.2.2.1 o k v, x.2.2.2.2)) (hJ : ∀ f, P (x.2.2.1, x.2.2.2.1, f)) (hO : ∀ f, P ((x.2.2.1.1, f, x.2.2.1.2.2), x.2.2.2)) (hC : ∀ a p b q n, 8 ≤ b → P (x.2.2.1, pm_cp x.2.2.2.1 a p b q n, x.2.2.2.2)) (hM : ∀ st v n, P (pm_mk x st v n).2.2) : pm_wo P (pm_step en x) := by
  obtain ⟨pc, ins, len, a, b, c⟩ := en
  cases ins
  all_goals simp only [pm_step]
  all_goals first
    | trivial
    | exact wo_load hP
    | exact wo_loadl hP
    | exact wo_loada hP
    | exact wo_stor hP
    | exact wo_storl hP
    | exact wo_stora hP
    | exact wo_i2 hP
    | exact wo_l2 hP
    | exact wo_ls hP
    | exact wo_i1 hP
    | exact wo_psh hP
    | exact wo_get hP
    | exact wo_ald hP
    | exact wo_ldl hP
    | exact wo_aln hP
    | exact wo_call hP
    | exact wo_ret hP
    | exact wo_retl hP
    | exact wo_retv hP
    | exact wo_put hI hJ hO
    | exact wo_ast hI
    | exact wo_stl hJ
    | exact wo_nwa hM
    | exact hM _ _ _
    | exact hP
    | (repeat' split
       all_goals first | trivial | exact hP | exact wo_psh hP | exact wo_call hP | exact wo_acp hC)
end
def pm_kT (H H' : pm_H) : Prop := H'.1.1 79 = H.1.1 79 ∧ H'.1.1 1 = H.1.1 1 ∧ (∀ j, H'.2.1 1 j = H.2.1 1 j) ∧ H.1.2.2.1 ≤ H'.1.2.2.1
theorem kT_refl {H : pm_H} : pm_kT H H := ⟨rfl, rfl, fun _ => rfl, Nat.le_refl _⟩
theorem kT_trans {H H' H'' : pm_H} (h : pm_kT H H') (g : pm_kT H' H'') : pm_kT H H'' := ⟨g.1.trans h.1, g.2.1.trans h.2.1, fun j => (g.2.2.1 j).trans (h.2.2.1 j), Nat.le_trans h.2.2.2 g.2.2.2⟩
theorem kT_step {en : pm_E} {x : pm_C} (h : 80 ≤ x.2.2.1.2.2.1) : pm_wo (pm_kT x.2.2) (pm_step en x) := by
  refine wo_step kT_refl (fun o k v ho => ⟨rfl, rfl, fun j => ?_, Nat.le_refl _⟩) (fun f => kT_refl) (fun f => ⟨rfl, rfl, fun _ => rfl, Nat.le_refl _⟩) (fun a p b q n hb => ⟨rfl, rfl, fun j => ?_, Nat.le_refl _⟩) (fun st v n => ⟨?_, ?_, fun j => ?_, Nat.le_succ _⟩)
  · exact if_neg (fun q => by omega)
  · exact if_neg (fun q => by omega)
  · exact if_neg (fun q => by omega)
  · exact if_neg (fun q => by omega)
  · exact if_neg (fun q => by omega)
theorem kT_run {cd : Nat → List pm_E} {mt : Nat → Nat × Nat} : ∀ (n d k pc : Nat) (x : pm_C) (v : Int32) (w : Int64) (H' : pm_H), pm_run cd mt n d k pc x = some (v, w, H') → 80 ≤ x.2.2.1.2.2.1 → pm_kT x.2.2 H' := by
  intro n
  induction n with
  | zero => intro d k pc x v w H' h; simp [pm_run] at h
  | succ n ih =>
    intro d k pc x v w H' h hx
    unfold pm_run at h
    split at h
    · cases h
    · rename_i en rest _
      have st := kT_step (en := en) hx
      split at h
      · cases h
      · rename_i y hy
        rw [hy] at st
        have s1 : pm_kT x.2.2 y.2.2 := st
        exact kT_trans s1 (ih _ _ _ _ _ _ _ h (Nat.le_trans hx s1.2.2.2))
      · rename_i b y hy
        rw [hy] at st
        have s1 : pm_kT x.2.2 y.2.2 := st
        split at h
        · exact kT_trans s1 (ih _ _ _ _ _ _ _ h (Nat.le_trans hx s1.2.2.2))
        · cases h
      · rename_i b t y hy
        rw [hy] at st
        have s1 : pm_kT x.2.2 y.2.2 := st
        exact kT_trans s1 (ih _ _ _ _ _ _ _ h (Nat.le_trans hx s1.2.2.2))
      · rename_i v' cs df y hy
        rw [hy] at st
        have s1 : pm_kT x.2.2 y.2.2 := st
        exact kT_trans s1 (ih _ _ _ _ _ _ _ h (Nat.le_trans hx s1.2.2.2))
      · rename_i j as y hy
        rw [hy] at st
        have s1 : pm_kT x.2.2 y.2.2 := st
        split at h
        · cases h
        · split at h
          · split at h
            · cases h
            · rename_i v2 w2 H2 hr
              have s2 := ih _ _ _ _ _ _ _ hr (Nat.le_trans hx s1.2.2.2)
              have s3 := kT_trans s1 s2
              exact kT_trans s3 (ih _ _ _ _ _ _ _ h (Nat.le_trans hx s3.2.2.2))
          · cases h
      · rename_i b v' w' H2 hy
        rw [hy] at st
        have s1 : pm_kT x.2.2 H2 := st
        split at h
        · cases h; exact s1
        · cases h
/-- what comes out of a call, with what it keeps -/
theorem wc_kT {cd : Nat → List pm_E} {mt : Nat → Nat × Nat} {d k : Nat} {as : List Value} {H : pm_H} {Q Q' : Int32 → Int64 → pm_H → Prop} (h : pm_wc cd mt d k as H Q) (hH : 80 ≤ H.1.2.2.1) (g : ∀ v w H', pm_kT H H' → Q v w H' → Q' v w H') : pm_wc cd mt d k as H Q' := by
  obtain ⟨n, v, w, H', h1, h2⟩ := h
  exact ⟨n, v, w, H', h1, g v w H' (kT_run _ _ _ _ _ _ _ _ h1 hH) h2⟩

