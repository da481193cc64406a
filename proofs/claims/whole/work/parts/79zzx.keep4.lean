/-! KEEP AND AGAIN: the reference's rows. -/
theorem pc_ch_178 : pm_chain (pm_code 178) = true := by decide +kernel
def pr_kp (n of : Nat) (I I' : Nat → Nat → Int32) : Prop := (∀ k, ¬ k = 79 → ¬ k = 136 → I' k = I k) ∧ (∀ j, ¬ j = 58 → I' 79 j = I 79 j) ∧ I' 79 58 = Int32.ofNat of ∧ ∀ i, i < n → ∀ j, j < pc_len (80 + i) → I' 136 (pm_off (80 + i) + j) = I (80 + i) j
def pr_ap (n of : Nat) (I I' : Nat → Nat → Int32) : Prop := (∀ k, ¬ k = 79 → (k < 80 ∨ 80 + n ≤ k) → I' k = I k) ∧ (∀ j, ¬ j = 58 → I' 79 j = I 79 j) ∧ I' 79 58 = Int32.ofNat of ∧ ∀ i, i < n → ∀ j, j < pc_len (80 + i) → I' (80 + i) j = I 136 (pm_off (80 + i) + j)
theorem off_mono : ∀ n, n < 56 → ∀ i, i < n → pm_off (80 + i) + pc_len (80 + i) ≤ pm_off (80 + n) := by decide +kernel
theorem cop_k {A E' : Int32 → (Nat → Nat → Int32) → Prop} {I I1 : Nat → Nat → Int32} {r of len n : Nat} (hn : n < 56) (hr : r = 80 + n) (hl : len = pc_len r) (ho : of = pm_off r) (hA : ∀ (m : Nat) (I' : Nat → Nat → Int32), m < len → I' 79 58 = Int32.ofNat (of + m) → A (Int32.ofNat (m + 1)) (pm_u (pm_u I' 136 (of + m) (I' r m)) 79 58 (Int32.ofNat (of + m + 1))) → A (Int32.ofNat m) I')
    (hE : ∀ I', E' 0 I' → A (Int32.ofNat len) I') (hP : pr_kp n of I I1) (hQ : ∀ I2, pr_kp (n + 1) (of + len) I I2 → E' 0 I2) : A (Int32.ofNat 0) I1 := by
  have key : ∀ (k m : Nat) (I' : Nat → Nat → Int32), m + k = len → (∀ k, ¬ k = 79 → ¬ k = 136 → I' k = I k) → (∀ j, ¬ j = 58 → I' 79 j = I 79 j) → I' 79 58 = Int32.ofNat (of + m) → (∀ i, i < n → ∀ j, j < pc_len (80 + i) → I' 136 (pm_off (80 + i) + j) = I (80 + i) j) → (∀ j, j < m → I' 136 (of + j) = I r j) → A (Int32.ofNat m) I' := by
    intro k
    induction k with
    | zero =>
      intro m I' hm h1 h2 h3 h4 h5
      have em : m = len := by omega
      subst em
      refine hE I' (hQ I' ⟨h1, h2, h3, fun i hi j hj => ?_⟩)
      by_cases e : i = n
      · subst e
        rw [← hr] at hj ⊢
        rw [← hl] at hj
        rw [← ho]; exact h5 j hj
      · exact h4 i (by omega) j hj
    | succ k ih =>
      intro m I' hm h1 h2 h3 h4 h5
      refine hA m I' (by omega) h3 (ih (m + 1) _ (by omega) (fun k a c => ?_) (fun j a => ?_) ?_ (fun i hi j hj => ?_) (fun j hj => ?_))
      · rw [pm_u_row, if_neg a, pm_u_row, if_neg c]; exact h1 k a c
      · rw [pm_u_row, if_pos rfl, pm_w_ne a, pm_u_row, if_neg (by decide)]; exact h2 j a
      · rw [pm_u_at]; rfl
      · have mo := off_mono n hn i hi
        rw [← hr, ← ho] at mo
        rw [pm_u_row, if_neg (by decide), pm_u_row, if_pos rfl, pm_w_ne (by omega)]
        exact h4 i hi j hj
      · rw [pm_u_row, if_neg (by decide), pm_u_row, if_pos rfl, pm_w_at]
        by_cases e : of + j = of + m
        · rw [if_pos e, h1 r (by omega) (by omega), show j = m by omega]
        · rw [if_neg e]; exact h5 j (by omega)
  exact key len 0 I1 (by omega) hP.1 hP.2.1 hP.2.2.1 hP.2.2.2 (fun j hj => absurd hj (Nat.not_lt_zero _))
theorem cop_a {A E' : Int32 → (Nat → Nat → Int32) → Prop} {I I1 : Nat → Nat → Int32} {r of len n : Nat} (hn : n < 56) (hr : r = 80 + n) (hl : len = pc_len r) (ho : of = pm_off r) (hA : ∀ (m : Nat) (I' : Nat → Nat → Int32), m < len → I' 79 58 = Int32.ofNat (of + m) → A (Int32.ofNat (m + 1)) (pm_u (pm_u I' r m (I' 136 (of + m))) 79 58 (Int32.ofNat (of + m + 1))) → A (Int32.ofNat m) I')
    (hE : ∀ I', E' 0 I' → A (Int32.ofNat len) I') (hP : pr_ap n of I I1) (hQ : ∀ I2, pr_ap (n + 1) (of + len) I I2 → E' 0 I2) : A (Int32.ofNat 0) I1 := by
  have key : ∀ (k m : Nat) (I' : Nat → Nat → Int32), m + k = len → (∀ k, ¬ k = 79 → (k < 80 ∨ 80 + (n + 1) ≤ k) → I' k = I k) → (∀ j, ¬ j = 58 → I' 79 j = I 79 j) → I' 79 58 = Int32.ofNat (of + m) → (∀ i, i < n → ∀ j, j < pc_len (80 + i) → I' (80 + i) j = I 136 (pm_off (80 + i) + j)) → (∀ j, j < m → I' r j = I 136 (of + j)) → A (Int32.ofNat m) I' := by
    intro k
    induction k with
    | zero =>
      intro m I' hm h1 h2 h3 h4 h5
      have em : m = len := by omega
      subst em
      refine hE I' (hQ I' ⟨h1, h2, h3, fun i hi j hj => ?_⟩)
      by_cases e : i = n
      · subst e
        rw [← hr] at hj ⊢
        rw [← hl] at hj
        rw [← ho]; exact h5 j hj
      · exact h4 i (by omega) j hj
    | succ k ih =>
      intro m I' hm h1 h2 h3 h4 h5
      refine hA m I' (by omega) h3 (ih (m + 1) _ (by omega) (fun k a c => ?_) (fun j a => ?_) ?_ (fun i hi j hj => ?_) (fun j hj => ?_))
      · rw [pm_u_row, if_neg a, pm_u_row, if_neg (by omega)]; exact h1 k a c
      · rw [pm_u_row, if_pos rfl, pm_w_ne a, pm_u_row, if_neg (by omega)]; exact h2 j a
      · rw [pm_u_at]; rfl
      · rw [pm_u_row, if_neg (by omega), pm_u_row, if_neg (by omega)]
        exact h4 i hi j hj
      · rw [pm_u_row, if_neg (by omega), pm_u_row, if_pos rfl, pm_w_at]
        by_cases e : j = m
        · rw [if_pos e, h1 136 (by decide) (Or.inr (by omega)), e]
        · rw [if_neg e]; exact h5 j (by omega)
  exact key len 0 I1 (by omega) (fun k a c => hP.1 k a (by omega)) hP.2.1 hP.2.2.1 hP.2.2.2 (fun j hj => absurd hj (Nat.not_lt_zero _))
theorem pb_178_0 {d L : Nat} {b : Bool} {I : Nat → Nat → Int32} {J : Nat → Nat → Int64} {x2 x3 : Int32} {Q : Int32 → Int64 → pm_H → Prop} : pm_wc pm_code pm_meta d 178 [.ref 79, .ref 80, .int x2, .int x3] (pm_Gb L b, I, J) Q ↔ pm_wp pm_code pm_meta d 178 3 ([.ref 79, .ref 80, .int x2, .int x3, .int 0], [], (pm_Gb L b, I, J)) Q := (pm_bk_iff pc_ch_178 2 0 _).trans (Iff.rfl)
theorem pb_178_3 {d L : Nat} {b : Bool} {I : Nat → Nat → Int32} {J : Nat → Nat → Int64} {x2 x3 x4 : Int32} {Q : Int32 → Int64 → pm_H → Prop} : pm_wp pm_code pm_meta d 178 3 ([.ref 79, .ref 80, .int x2, .int x3, .int x4], [], (pm_Gb L b, I, J)) Q ↔ if x2 ≤ x4 then pm_wp pm_code pm_meta d 178 58 ([.ref 79, .ref 80, .int x2, .int x3, .int x4], [], (pm_Gb L b, I, J)) Q else pm_wp pm_code pm_meta d 178 9 ([.ref 79, .ref 80, .int x2, .int x3, .int x4], [], (pm_Gb L b, I, J)) Q := (pm_bk_iff pc_ch_178 3 3 _).trans (pm_brd)
theorem pb_178_58 {d L : Nat} {b : Bool} {I : Nat → Nat → Int32} {J : Nat → Nat → Int64} {x2 x3 x4 : Int32} {Q : Int32 → Int64 → pm_H → Prop} : pm_wp pm_code pm_meta d 178 58 ([.ref 79, .ref 80, .int x2, .int x3, .int x4], [], (pm_Gb L b, I, J)) Q ↔ Q 0 0 (pm_Gb L b, I, J) := (pm_bk_iff pc_ch_178 1 58 _).trans (pm_tt)
theorem pb_178_9 {d L : Nat} {b : Bool} {I : Nat → Nat → Int32} {J : Nat → Nat → Int64} {x2 x3 x4 : Int32} {Q : Int32 → Int64 → pm_H → Prop} : pm_wp pm_code pm_meta d 178 9 ([.ref 79, .ref 80, .int x2, .int x3, .int x4], [], (pm_Gb L b, I, J)) Q ↔ if x3 = 0 then pm_wp pm_code pm_meta d 178 29 ([.ref 79, .ref 80, .int x2, .int x3, .int x4], [], (pm_Gb L b, I, J)) Q else pm_wp pm_code pm_meta d 178 13 ([.ref 79, .ref 80, .int x2, .int x3, .int x4], [], (pm_Gb L b, I, J)) Q := (pm_bk_iff pc_ch_178 2 9 _).trans (pm_brd)
theorem pb_178_29 {d L : Nat} {b : Bool} {I : Nat → Nat → Int32} {J : Nat → Nat → Int64} {x2 x3 x4 : Int32} {Q : Int32 → Int64 → pm_H → Prop} : pm_wp pm_code pm_meta d 178 29 ([.ref 79, .ref 80, .int x2, .int x3, .int x4], [], (pm_Gb L b, I, J)) Q ↔ pm_in (I 79 58) 4200 = true ∧ (pm_in x4 16 = true ∧ (pm_wp pm_code pm_meta d 178 42 ([.ref 79, .ref 80, .int x2, .int x3, .int x4], [], (pm_Gb L b, (pm_u I 80 x4.toNatClampNeg (I 136 (I 79 58).toNatClampNeg)), J)) Q)) := (pm_bk_iff pc_ch_178 8 29 _).trans (and_congr Iff.rfl (and_congr Iff.rfl (Iff.rfl)))
theorem pb_178_13 {d L : Nat} {b : Bool} {I : Nat → Nat → Int32} {J : Nat → Nat → Int64} {x2 x3 x4 : Int32} {Q : Int32 → Int64 → pm_H → Prop} : pm_wp pm_code pm_meta d 178 13 ([.ref 79, .ref 80, .int x2, .int x3, .int x4], [], (pm_Gb L b, I, J)) Q ↔ pm_in x4 16 = true ∧ (pm_in (I 79 58) 4200 = true ∧ (pm_wp pm_code pm_meta d 178 42 ([.ref 79, .ref 80, .int x2, .int x3, .int x4], [], (pm_Gb L b, (pm_u I 136 (I 79 58).toNatClampNeg (I 80 x4.toNatClampNeg)), J)) Q)) := (pm_bk_iff pc_ch_178 9 13 _).trans (and_congr Iff.rfl (and_congr Iff.rfl (Iff.rfl)))
theorem pb_178_42 {d L : Nat} {b : Bool} {I : Nat → Nat → Int32} {J : Nat → Nat → Int64} {x2 x3 x4 : Int32} {Q : Int32 → Int64 → pm_H → Prop} : pm_wp pm_code pm_meta d 178 42 ([.ref 79, .ref 80, .int x2, .int x3, .int x4], [], (pm_Gb L b, I, J)) Q ↔ pm_wp pm_code pm_meta d 178 3 ([.ref 79, .ref 80, .int x2, .int x3, .int (x4 + 1)], [], (pm_Gb L b, (pm_u I 79 58 ((I 79 58) + 1)), J)) Q := (pm_bk_iff pc_ch_178 8 42 _).trans (Iff.rfl)
theorem cop_k_80 {d L : Nat} {b : Bool} {I : Nat → Nat → Int32} {J : Nat → Nat → Int64} {Q : Int32 → Int64 → pm_H → Prop} {I1 : Nat → Nat → Int32} (hP : pr_kp 0 0 I I1) (hQ : ∀ I2, pr_kp 1 16 I I2 → Q 0 0 (pm_Gb L b, I2, J)) : pm_wc pm_code pm_meta d 178 [.ref 79, .ref 80, .int 16, .int 1] (pm_Gb L b, I1, J) Q := by
  rw [pb_178_0]
  refine cop_k (A := fun x I' => pm_wp pm_code pm_meta d 178 3 ([.ref 79, .ref 80, .int 16, .int 1, .int x], [], (pm_Gb L b, I', J)) Q) (E' := fun _ I' => Q 0 0 (pm_Gb L b, I', J)) (r := 80) (of := 0) (len := 16) (n := 0) (by decide) rfl rfl rfl (fun m I' hm h58 h => ?_) (fun I' h => ?_) hP hQ
  · have g := on_n (a := 0 + m) (by omega)
    have gm := on_n (a := m) (by omega)
    rw [pb_178_3, if_neg (by rw [show (16 : Int32) = Int32.ofNat 16 from rfl, on_le (by omega) (by omega)]; omega), pb_178_9, if_neg (by decide), pb_178_13, h58, g.2.1, gm.2.1]
    refine ⟨pi_in gm.1 (by rw [gm.2.2]; omega), pi_in g.1 (by rw [g.2.2]; omega), ?_⟩
    rw [pb_178_42, pm_u_row, if_neg (by decide), h58, on_s, on_s]
    exact h
  · show pm_wp _ _ _ _ _ _ _
    rw [pb_178_3, if_pos (by decide), pb_178_58]
    exact h
theorem cop_a_80 {d L : Nat} {b : Bool} {I : Nat → Nat → Int32} {J : Nat → Nat → Int64} {Q : Int32 → Int64 → pm_H → Prop} {I1 : Nat → Nat → Int32} (hP : pr_ap 0 0 I I1) (hQ : ∀ I2, pr_ap 1 16 I I2 → Q 0 0 (pm_Gb L b, I2, J)) : pm_wc pm_code pm_meta d 178 [.ref 79, .ref 80, .int 16, .int 0] (pm_Gb L b, I1, J) Q := by
  rw [pb_178_0]
  refine cop_a (A := fun x I' => pm_wp pm_code pm_meta d 178 3 ([.ref 79, .ref 80, .int 16, .int 0, .int x], [], (pm_Gb L b, I', J)) Q) (E' := fun _ I' => Q 0 0 (pm_Gb L b, I', J)) (r := 80) (of := 0) (len := 16) (n := 0) (by decide) rfl rfl rfl (fun m I' hm h58 h => ?_) (fun I' h => ?_) hP hQ
  · have g := on_n (a := 0 + m) (by omega)
    have gm := on_n (a := m) (by omega)
    rw [pb_178_3, if_neg (by rw [show (16 : Int32) = Int32.ofNat 16 from rfl, on_le (by omega) (by omega)]; omega), pb_178_9, if_pos rfl, pb_178_29, h58, g.2.1, gm.2.1]
    refine ⟨pi_in g.1 (by rw [g.2.2]; omega), pi_in gm.1 (by rw [gm.2.2]; omega), ?_⟩
    rw [pb_178_42, pm_u_row, if_neg (by decide), h58, on_s, on_s]
    exact h
  · show pm_wp _ _ _ _ _ _ _
    rw [pb_178_3, if_pos (by decide), pb_178_58]
    exact h
theorem pb_178v1_0 {d L : Nat} {b : Bool} {I : Nat → Nat → Int32} {J : Nat → Nat → Int64} {x2 x3 : Int32} {Q : Int32 → Int64 → pm_H → Prop} : pm_wc pm_code pm_meta d 178 [.ref 79, .ref 81, .int x2, .int x3] (pm_Gb L b, I, J) Q ↔ pm_wp pm_code pm_meta d 178 3 ([.ref 79, .ref 81, .int x2, .int x3, .int 0], [], (pm_Gb L b, I, J)) Q := (pm_bk_iff pc_ch_178 2 0 _).trans (Iff.rfl)
theorem pb_178v1_3 {d L : Nat} {b : Bool} {I : Nat → Nat → Int32} {J : Nat → Nat → Int64} {x2 x3 x4 : Int32} {Q : Int32 → Int64 → pm_H → Prop} : pm_wp pm_code pm_meta d 178 3 ([.ref 79, .ref 81, .int x2, .int x3, .int x4], [], (pm_Gb L b, I, J)) Q ↔ if x2 ≤ x4 then pm_wp pm_code pm_meta d 178 58 ([.ref 79, .ref 81, .int x2, .int x3, .int x4], [], (pm_Gb L b, I, J)) Q else pm_wp pm_code pm_meta d 178 9 ([.ref 79, .ref 81, .int x2, .int x3, .int x4], [], (pm_Gb L b, I, J)) Q := (pm_bk_iff pc_ch_178 3 3 _).trans (pm_brd)
theorem pb_178v1_58 {d L : Nat} {b : Bool} {I : Nat → Nat → Int32} {J : Nat → Nat → Int64} {x2 x3 x4 : Int32} {Q : Int32 → Int64 → pm_H → Prop} : pm_wp pm_code pm_meta d 178 58 ([.ref 79, .ref 81, .int x2, .int x3, .int x4], [], (pm_Gb L b, I, J)) Q ↔ Q 0 0 (pm_Gb L b, I, J) := (pm_bk_iff pc_ch_178 1 58 _).trans (pm_tt)
theorem pb_178v1_9 {d L : Nat} {b : Bool} {I : Nat → Nat → Int32} {J : Nat → Nat → Int64} {x2 x3 x4 : Int32} {Q : Int32 → Int64 → pm_H → Prop} : pm_wp pm_code pm_meta d 178 9 ([.ref 79, .ref 81, .int x2, .int x3, .int x4], [], (pm_Gb L b, I, J)) Q ↔ if x3 = 0 then pm_wp pm_code pm_meta d 178 29 ([.ref 79, .ref 81, .int x2, .int x3, .int x4], [], (pm_Gb L b, I, J)) Q else pm_wp pm_code pm_meta d 178 13 ([.ref 79, .ref 81, .int x2, .int x3, .int x4], [], (pm_Gb L b, I, J)) Q := (pm_bk_iff pc_ch_178 2 9 _).trans (pm_brd)
theorem pb_178v1_29 {d L : Nat} {b : Bool} {I : Nat → Nat → Int32} {J : Nat → Nat → Int64} {x2 x3 x4 : Int32} {Q : Int32 → Int64 → pm_H → Prop} : pm_wp pm_code pm_meta d 178 29 ([.ref 79, .ref 81, .int x2, .int x3, .int x4], [], (pm_Gb L b, I, J)) Q ↔ pm_in (I 79 58) 4200 = true ∧ (pm_in x4 100 = true ∧ (pm_wp pm_code pm_meta d 178 42 ([.ref 79, .ref 81, .int x2, .int x3, .int x4], [], (pm_Gb L b, (pm_u I 81 x4.toNatClampNeg (I 136 (I 79 58).toNatClampNeg)), J)) Q)) := (pm_bk_iff pc_ch_178 8 29 _).trans (and_congr Iff.rfl (and_congr Iff.rfl (Iff.rfl)))
theorem pb_178v1_13 {d L : Nat} {b : Bool} {I : Nat → Nat → Int32} {J : Nat → Nat → Int64} {x2 x3 x4 : Int32} {Q : Int32 → Int64 → pm_H → Prop} : pm_wp pm_code pm_meta d 178 13 ([.ref 79, .ref 81, .int x2, .int x3, .int x4], [], (pm_Gb L b, I, J)) Q ↔ pm_in x4 100 = true ∧ (pm_in (I 79 58) 4200 = true ∧ (pm_wp pm_code pm_meta d 178 42 ([.ref 79, .ref 81, .int x2, .int x3, .int x4], [], (pm_Gb L b, (pm_u I 136 (I 79 58).toNatClampNeg (I 81 x4.toNatClampNeg)), J)) Q)) := (pm_bk_iff pc_ch_178 9 13 _).trans (and_congr Iff.rfl (and_congr Iff.rfl (Iff.rfl)))
theorem pb_178v1_42 {d L : Nat} {b : Bool} {I : Nat → Nat → Int32} {J : Nat → Nat → Int64} {x2 x3 x4 : Int32} {Q : Int32 → Int64 → pm_H → Prop} : pm_wp pm_code pm_meta d 178 42 ([.ref 79, .ref 81, .int x2, .int x3, .int x4], [], (pm_Gb L b, I, J)) Q ↔ pm_wp pm_code pm_meta d 178 3 ([.ref 79, .ref 81, .int x2, .int x3, .int (x4 + 1)], [], (pm_Gb L b, (pm_u I 79 58 ((I 79 58) + 1)), J)) Q := (pm_bk_iff pc_ch_178 8 42 _).trans (Iff.rfl)
theorem cop_k_81 {d L : Nat} {b : Bool} {I : Nat → Nat → Int32} {J : Nat → Nat → Int64} {Q : Int32 → Int64 → pm_H → Prop} {I1 : Nat → Nat → Int32} (hP : pr_kp 1 16 I I1) (hQ : ∀ I2, pr_kp 2 116 I I2 → Q 0 0 (pm_Gb L b, I2, J)) : pm_wc pm_code pm_meta d 178 [.ref 79, .ref 81, .int 100, .int 1] (pm_Gb L b, I1, J) Q := by
  rw [pb_178v1_0]
  refine cop_k (A := fun x I' => pm_wp pm_code pm_meta d 178 3 ([.ref 79, .ref 81, .int 100, .int 1, .int x], [], (pm_Gb L b, I', J)) Q) (E' := fun _ I' => Q 0 0 (pm_Gb L b, I', J)) (r := 81) (of := 16) (len := 100) (n := 1) (by decide) rfl rfl rfl (fun m I' hm h58 h => ?_) (fun I' h => ?_) hP hQ
  · have g := on_n (a := 16 + m) (by omega)
    have gm := on_n (a := m) (by omega)
    rw [pb_178v1_3, if_neg (by rw [show (100 : Int32) = Int32.ofNat 100 from rfl, on_le (by omega) (by omega)]; omega), pb_178v1_9, if_neg (by decide), pb_178v1_13, h58, g.2.1, gm.2.1]
    refine ⟨pi_in gm.1 (by rw [gm.2.2]; omega), pi_in g.1 (by rw [g.2.2]; omega), ?_⟩
    rw [pb_178v1_42, pm_u_row, if_neg (by decide), h58, on_s, on_s]
    exact h
  · show pm_wp _ _ _ _ _ _ _
    rw [pb_178v1_3, if_pos (by decide), pb_178v1_58]
    exact h
theorem cop_a_81 {d L : Nat} {b : Bool} {I : Nat → Nat → Int32} {J : Nat → Nat → Int64} {Q : Int32 → Int64 → pm_H → Prop} {I1 : Nat → Nat → Int32} (hP : pr_ap 1 16 I I1) (hQ : ∀ I2, pr_ap 2 116 I I2 → Q 0 0 (pm_Gb L b, I2, J)) : pm_wc pm_code pm_meta d 178 [.ref 79, .ref 81, .int 100, .int 0] (pm_Gb L b, I1, J) Q := by
  rw [pb_178v1_0]
  refine cop_a (A := fun x I' => pm_wp pm_code pm_meta d 178 3 ([.ref 79, .ref 81, .int 100, .int 0, .int x], [], (pm_Gb L b, I', J)) Q) (E' := fun _ I' => Q 0 0 (pm_Gb L b, I', J)) (r := 81) (of := 16) (len := 100) (n := 1) (by decide) rfl rfl rfl (fun m I' hm h58 h => ?_) (fun I' h => ?_) hP hQ
  · have g := on_n (a := 16 + m) (by omega)
    have gm := on_n (a := m) (by omega)
    rw [pb_178v1_3, if_neg (by rw [show (100 : Int32) = Int32.ofNat 100 from rfl, on_le (by omega) (by omega)]; omega), pb_178v1_9, if_pos rfl, pb_178v1_29, h58, g.2.1, gm.2.1]
    refine ⟨pi_in g.1 (by rw [g.2.2]; omega), pi_in gm.1 (by rw [gm.2.2]; omega), ?_⟩
    rw [pb_178v1_42, pm_u_row, if_neg (by decide), h58, on_s, on_s]
    exact h
  · show pm_wp _ _ _ _ _ _ _
    rw [pb_178v1_3, if_pos (by decide), pb_178v1_58]
    exact h
theorem pb_178v2_0 {d L : Nat} {b : Bool} {I : Nat → Nat → Int32} {J : Nat → Nat → Int64} {x2 x3 : Int32} {Q : Int32 → Int64 → pm_H → Prop} : pm_wc pm_code pm_meta d 178 [.ref 79, .ref 82, .int x2, .int x3] (pm_Gb L b, I, J) Q ↔ pm_wp pm_code pm_meta d 178 3 ([.ref 79, .ref 82, .int x2, .int x3, .int 0], [], (pm_Gb L b, I, J)) Q := (pm_bk_iff pc_ch_178 2 0 _).trans (Iff.rfl)
theorem pb_178v2_3 {d L : Nat} {b : Bool} {I : Nat → Nat → Int32} {J : Nat → Nat → Int64} {x2 x3 x4 : Int32} {Q : Int32 → Int64 → pm_H → Prop} : pm_wp pm_code pm_meta d 178 3 ([.ref 79, .ref 82, .int x2, .int x3, .int x4], [], (pm_Gb L b, I, J)) Q ↔ if x2 ≤ x4 then pm_wp pm_code pm_meta d 178 58 ([.ref 79, .ref 82, .int x2, .int x3, .int x4], [], (pm_Gb L b, I, J)) Q else pm_wp pm_code pm_meta d 178 9 ([.ref 79, .ref 82, .int x2, .int x3, .int x4], [], (pm_Gb L b, I, J)) Q := (pm_bk_iff pc_ch_178 3 3 _).trans (pm_brd)
theorem pb_178v2_58 {d L : Nat} {b : Bool} {I : Nat → Nat → Int32} {J : Nat → Nat → Int64} {x2 x3 x4 : Int32} {Q : Int32 → Int64 → pm_H → Prop} : pm_wp pm_code pm_meta d 178 58 ([.ref 79, .ref 82, .int x2, .int x3, .int x4], [], (pm_Gb L b, I, J)) Q ↔ Q 0 0 (pm_Gb L b, I, J) := (pm_bk_iff pc_ch_178 1 58 _).trans (pm_tt)
theorem pb_178v2_9 {d L : Nat} {b : Bool} {I : Nat → Nat → Int32} {J : Nat → Nat → Int64} {x2 x3 x4 : Int32} {Q : Int32 → Int64 → pm_H → Prop} : pm_wp pm_code pm_meta d 178 9 ([.ref 79, .ref 82, .int x2, .int x3, .int x4], [], (pm_Gb L b, I, J)) Q ↔ if x3 = 0 then pm_wp pm_code pm_meta d 178 29 ([.ref 79, .ref 82, .int x2, .int x3, .int x4], [], (pm_Gb L b, I, J)) Q else pm_wp pm_code pm_meta d 178 13 ([.ref 79, .ref 82, .int x2, .int x3, .int x4], [], (pm_Gb L b, I, J)) Q := (pm_bk_iff pc_ch_178 2 9 _).trans (pm_brd)
theorem pb_178v2_29 {d L : Nat} {b : Bool} {I : Nat → Nat → Int32} {J : Nat → Nat → Int64} {x2 x3 x4 : Int32} {Q : Int32 → Int64 → pm_H → Prop} : pm_wp pm_code pm_meta d 178 29 ([.ref 79, .ref 82, .int x2, .int x3, .int x4], [], (pm_Gb L b, I, J)) Q ↔ pm_in (I 79 58) 4200 = true ∧ (pm_in x4 16 = true ∧ (pm_wp pm_code pm_meta d 178 42 ([.ref 79, .ref 82, .int x2, .int x3, .int x4], [], (pm_Gb L b, (pm_u I 82 x4.toNatClampNeg (I 136 (I 79 58).toNatClampNeg)), J)) Q)) := (pm_bk_iff pc_ch_178 8 29 _).trans (and_congr Iff.rfl (and_congr Iff.rfl (Iff.rfl)))
theorem pb_178v2_13 {d L : Nat} {b : Bool} {I : Nat → Nat → Int32} {J : Nat → Nat → Int64} {x2 x3 x4 : Int32} {Q : Int32 → Int64 → pm_H → Prop} : pm_wp pm_code pm_meta d 178 13 ([.ref 79, .ref 82, .int x2, .int x3, .int x4], [], (pm_Gb L b, I, J)) Q ↔ pm_in x4 16 = true ∧ (pm_in (I 79 58) 4200 = true ∧ (pm_wp pm_code pm_meta d 178 42 ([.ref 79, .ref 82, .int x2, .int x3, .int x4], [], (pm_Gb L b, (pm_u I 136 (I 79 58).toNatClampNeg (I 82 x4.toNatClampNeg)), J)) Q)) := (pm_bk_iff pc_ch_178 9 13 _).trans (and_congr Iff.rfl (and_congr Iff.rfl (Iff.rfl)))
theorem pb_178v2_42 {d L : Nat} {b : Bool} {I : Nat → Nat → Int32} {J : Nat → Nat → Int64} {x2 x3 x4 : Int32} {Q : Int32 → Int64 → pm_H → Prop} : pm_wp pm_code pm_meta d 178 42 ([.ref 79, .ref 82, .int x2, .int x3, .int x4], [], (pm_Gb L b, I, J)) Q ↔ pm_wp pm_code pm_meta d 178 3 ([.ref 79, .ref 82, .int x2, .int x3, .int (x4 + 1)], [], (pm_Gb L b, (pm_u I 79 58 ((I 79 58) + 1)), J)) Q := (pm_bk_iff pc_ch_178 8 42 _).trans (Iff.rfl)
theorem cop_k_82 {d L : Nat} {b : Bool} {I : Nat → Nat → Int32} {J : Nat → Nat → Int64} {Q : Int32 → Int64 → pm_H → Prop} {I1 : Nat → Nat → Int32} (hP : pr_kp 2 116 I I1) (hQ : ∀ I2, pr_kp 3 132 I I2 → Q 0 0 (pm_Gb L b, I2, J)) : pm_wc pm_code pm_meta d 178 [.ref 79, .ref 82, .int 16, .int 1] (pm_Gb L b, I1, J) Q := by
  rw [pb_178v2_0]
  refine cop_k (A := fun x I' => pm_wp pm_code pm_meta d 178 3 ([.ref 79, .ref 82, .int 16, .int 1, .int x], [], (pm_Gb L b, I', J)) Q) (E' := fun _ I' => Q 0 0 (pm_Gb L b, I', J)) (r := 82) (of := 116) (len := 16) (n := 2) (by decide) rfl rfl rfl (fun m I' hm h58 h => ?_) (fun I' h => ?_) hP hQ
  · have g := on_n (a := 116 + m) (by omega)
    have gm := on_n (a := m) (by omega)
    rw [pb_178v2_3, if_neg (by rw [show (16 : Int32) = Int32.ofNat 16 from rfl, on_le (by omega) (by omega)]; omega), pb_178v2_9, if_neg (by decide), pb_178v2_13, h58, g.2.1, gm.2.1]
    refine ⟨pi_in gm.1 (by rw [gm.2.2]; omega), pi_in g.1 (by rw [g.2.2]; omega), ?_⟩
    rw [pb_178v2_42, pm_u_row, if_neg (by decide), h58, on_s, on_s]
    exact h
  · show pm_wp _ _ _ _ _ _ _
    rw [pb_178v2_3, if_pos (by decide), pb_178v2_58]
    exact h
theorem cop_a_82 {d L : Nat} {b : Bool} {I : Nat → Nat → Int32} {J : Nat → Nat → Int64} {Q : Int32 → Int64 → pm_H → Prop} {I1 : Nat → Nat → Int32} (hP : pr_ap 2 116 I I1) (hQ : ∀ I2, pr_ap 3 132 I I2 → Q 0 0 (pm_Gb L b, I2, J)) : pm_wc pm_code pm_meta d 178 [.ref 79, .ref 82, .int 16, .int 0] (pm_Gb L b, I1, J) Q := by
  rw [pb_178v2_0]
  refine cop_a (A := fun x I' => pm_wp pm_code pm_meta d 178 3 ([.ref 79, .ref 82, .int 16, .int 0, .int x], [], (pm_Gb L b, I', J)) Q) (E' := fun _ I' => Q 0 0 (pm_Gb L b, I', J)) (r := 82) (of := 116) (len := 16) (n := 2) (by decide) rfl rfl rfl (fun m I' hm h58 h => ?_) (fun I' h => ?_) hP hQ
  · have g := on_n (a := 116 + m) (by omega)
    have gm := on_n (a := m) (by omega)
    rw [pb_178v2_3, if_neg (by rw [show (16 : Int32) = Int32.ofNat 16 from rfl, on_le (by omega) (by omega)]; omega), pb_178v2_9, if_pos rfl, pb_178v2_29, h58, g.2.1, gm.2.1]
    refine ⟨pi_in g.1 (by rw [g.2.2]; omega), pi_in gm.1 (by rw [gm.2.2]; omega), ?_⟩
    rw [pb_178v2_42, pm_u_row, if_neg (by decide), h58, on_s, on_s]
    exact h
  · show pm_wp _ _ _ _ _ _ _
    rw [pb_178v2_3, if_pos (by decide), pb_178v2_58]
    exact h
theorem pb_178v3_0 {d L : Nat} {b : Bool} {I : Nat → Nat → Int32} {J : Nat → Nat → Int64} {x2 x3 : Int32} {Q : Int32 → Int64 → pm_H → Prop} : pm_wc pm_code pm_meta d 178 [.ref 79, .ref 83, .int x2, .int x3] (pm_Gb L b, I, J) Q ↔ pm_wp pm_code pm_meta d 178 3 ([.ref 79, .ref 83, .int x2, .int x3, .int 0], [], (pm_Gb L b, I, J)) Q := (pm_bk_iff pc_ch_178 2 0 _).trans (Iff.rfl)
theorem pb_178v3_3 {d L : Nat} {b : Bool} {I : Nat → Nat → Int32} {J : Nat → Nat → Int64} {x2 x3 x4 : Int32} {Q : Int32 → Int64 → pm_H → Prop} : pm_wp pm_code pm_meta d 178 3 ([.ref 79, .ref 83, .int x2, .int x3, .int x4], [], (pm_Gb L b, I, J)) Q ↔ if x2 ≤ x4 then pm_wp pm_code pm_meta d 178 58 ([.ref 79, .ref 83, .int x2, .int x3, .int x4], [], (pm_Gb L b, I, J)) Q else pm_wp pm_code pm_meta d 178 9 ([.ref 79, .ref 83, .int x2, .int x3, .int x4], [], (pm_Gb L b, I, J)) Q := (pm_bk_iff pc_ch_178 3 3 _).trans (pm_brd)
theorem pb_178v3_58 {d L : Nat} {b : Bool} {I : Nat → Nat → Int32} {J : Nat → Nat → Int64} {x2 x3 x4 : Int32} {Q : Int32 → Int64 → pm_H → Prop} : pm_wp pm_code pm_meta d 178 58 ([.ref 79, .ref 83, .int x2, .int x3, .int x4], [], (pm_Gb L b, I, J)) Q ↔ Q 0 0 (pm_Gb L b, I, J) := (pm_bk_iff pc_ch_178 1 58 _).trans (pm_tt)
theorem pb_178v3_9 {d L : Nat} {b : Bool} {I : Nat → Nat → Int32} {J : Nat → Nat → Int64} {x2 x3 x4 : Int32} {Q : Int32 → Int64 → pm_H → Prop} : pm_wp pm_code pm_meta d 178 9 ([.ref 79, .ref 83, .int x2, .int x3, .int x4], [], (pm_Gb L b, I, J)) Q ↔ if x3 = 0 then pm_wp pm_code pm_meta d 178 29 ([.ref 79, .ref 83, .int x2, .int x3, .int x4], [], (pm_Gb L b, I, J)) Q else pm_wp pm_code pm_meta d 178 13 ([.ref 79, .ref 83, .int x2, .int x3, .int x4], [], (pm_Gb L b, I, J)) Q := (pm_bk_iff pc_ch_178 2 9 _).trans (pm_brd)
theorem pb_178v3_29 {d L : Nat} {b : Bool} {I : Nat → Nat → Int32} {J : Nat → Nat → Int64} {x2 x3 x4 : Int32} {Q : Int32 → Int64 → pm_H → Prop} : pm_wp pm_code pm_meta d 178 29 ([.ref 79, .ref 83, .int x2, .int x3, .int x4], [], (pm_Gb L b, I, J)) Q ↔ pm_in (I 79 58) 4200 = true ∧ (pm_in x4 16 = true ∧ (pm_wp pm_code pm_meta d 178 42 ([.ref 79, .ref 83, .int x2, .int x3, .int x4], [], (pm_Gb L b, (pm_u I 83 x4.toNatClampNeg (I 136 (I 79 58).toNatClampNeg)), J)) Q)) := (pm_bk_iff pc_ch_178 8 29 _).trans (and_congr Iff.rfl (and_congr Iff.rfl (Iff.rfl)))
theorem pb_178v3_13 {d L : Nat} {b : Bool} {I : Nat → Nat → Int32} {J : Nat → Nat → Int64} {x2 x3 x4 : Int32} {Q : Int32 → Int64 → pm_H → Prop} : pm_wp pm_code pm_meta d 178 13 ([.ref 79, .ref 83, .int x2, .int x3, .int x4], [], (pm_Gb L b, I, J)) Q ↔ pm_in x4 16 = true ∧ (pm_in (I 79 58) 4200 = true ∧ (pm_wp pm_code pm_meta d 178 42 ([.ref 79, .ref 83, .int x2, .int x3, .int x4], [], (pm_Gb L b, (pm_u I 136 (I 79 58).toNatClampNeg (I 83 x4.toNatClampNeg)), J)) Q)) := (pm_bk_iff pc_ch_178 9 13 _).trans (and_congr Iff.rfl (and_congr Iff.rfl (Iff.rfl)))
theorem pb_178v3_42 {d L : Nat} {b : Bool} {I : Nat → Nat → Int32} {J : Nat → Nat → Int64} {x2 x3 x4 : Int32} {Q : Int32 → Int64 → pm_H → Prop} : pm_wp pm_code pm_meta d 178 42 ([.ref 79, .ref 83, .int x2, .int x3, .int x4], [], (pm_Gb L b, I, J)) Q ↔ pm_wp pm_code pm_meta d 178 3 ([.ref 79, .ref 83, .int x2, .int x3, .int (x4 + 1)], [], (pm_Gb L b, (pm_u I 79 58 ((I 79 58) + 1)), J)) Q := (pm_bk_iff pc_ch_178 8 42 _).trans (Iff.rfl)
theorem cop_k_83 {d L : Nat} {b : Bool} {I : Nat → Nat → Int32} {J : Nat → Nat → Int64} {Q : Int32 → Int64 → pm_H → Prop} {I1 : Nat → Nat → Int32} (hP : pr_kp 3 132 I I1) (hQ : ∀ I2, pr_kp 4 148 I I2 → Q 0 0 (pm_Gb L b, I2, J)) : pm_wc pm_code pm_meta d 178 [.ref 79, .ref 83, .int 16, .int 1] (pm_Gb L b, I1, J) Q := by
  rw [pb_178v3_0]
  refine cop_k (A := fun x I' => pm_wp pm_code pm_meta d 178 3 ([.ref 79, .ref 83, .int 16, .int 1, .int x], [], (pm_Gb L b, I', J)) Q) (E' := fun _ I' => Q 0 0 (pm_Gb L b, I', J)) (r := 83) (of := 132) (len := 16) (n := 3) (by decide) rfl rfl rfl (fun m I' hm h58 h => ?_) (fun I' h => ?_) hP hQ
  · have g := on_n (a := 132 + m) (by omega)
    have gm := on_n (a := m) (by omega)
    rw [pb_178v3_3, if_neg (by rw [show (16 : Int32) = Int32.ofNat 16 from rfl, on_le (by omega) (by omega)]; omega), pb_178v3_9, if_neg (by decide), pb_178v3_13, h58, g.2.1, gm.2.1]
    refine ⟨pi_in gm.1 (by rw [gm.2.2]; omega), pi_in g.1 (by rw [g.2.2]; omega), ?_⟩
    rw [pb_178v3_42, pm_u_row, if_neg (by decide), h58, on_s, on_s]
    exact h
  · show pm_wp _ _ _ _ _ _ _
    rw [pb_178v3_3, if_pos (by decide), pb_178v3_58]
    exact h
theorem cop_a_83 {d L : Nat} {b : Bool} {I : Nat → Nat → Int32} {J : Nat → Nat → Int64} {Q : Int32 → Int64 → pm_H → Prop} {I1 : Nat → Nat → Int32} (hP : pr_ap 3 132 I I1) (hQ : ∀ I2, pr_ap 4 148 I I2 → Q 0 0 (pm_Gb L b, I2, J)) : pm_wc pm_code pm_meta d 178 [.ref 79, .ref 83, .int 16, .int 0] (pm_Gb L b, I1, J) Q := by
  rw [pb_178v3_0]
  refine cop_a (A := fun x I' => pm_wp pm_code pm_meta d 178 3 ([.ref 79, .ref 83, .int 16, .int 0, .int x], [], (pm_Gb L b, I', J)) Q) (E' := fun _ I' => Q 0 0 (pm_Gb L b, I', J)) (r := 83) (of := 132) (len := 16) (n := 3) (by decide) rfl rfl rfl (fun m I' hm h58 h => ?_) (fun I' h => ?_) hP hQ
  · have g := on_n (a := 132 + m) (by omega)
    have gm := on_n (a := m) (by omega)
    rw [pb_178v3_3, if_neg (by rw [show (16 : Int32) = Int32.ofNat 16 from rfl, on_le (by omega) (by omega)]; omega), pb_178v3_9, if_pos rfl, pb_178v3_29, h58, g.2.1, gm.2.1]
    refine ⟨pi_in g.1 (by rw [g.2.2]; omega), pi_in gm.1 (by rw [gm.2.2]; omega), ?_⟩
    rw [pb_178v3_42, pm_u_row, if_neg (by decide), h58, on_s, on_s]
    exact h
  · show pm_wp _ _ _ _ _ _ _
    rw [pb_178v3_3, if_pos (by decide), pb_178v3_58]
    exact h
theorem pb_178v4_0 {d L : Nat} {b : Bool} {I : Nat → Nat → Int32} {J : Nat → Nat → Int64} {x2 x3 : Int32} {Q : Int32 → Int64 → pm_H → Prop} : pm_wc pm_code pm_meta d 178 [.ref 79, .ref 84, .int x2, .int x3] (pm_Gb L b, I, J) Q ↔ pm_wp pm_code pm_meta d 178 3 ([.ref 79, .ref 84, .int x2, .int x3, .int 0], [], (pm_Gb L b, I, J)) Q := (pm_bk_iff pc_ch_178 2 0 _).trans (Iff.rfl)
theorem pb_178v4_3 {d L : Nat} {b : Bool} {I : Nat → Nat → Int32} {J : Nat → Nat → Int64} {x2 x3 x4 : Int32} {Q : Int32 → Int64 → pm_H → Prop} : pm_wp pm_code pm_meta d 178 3 ([.ref 79, .ref 84, .int x2, .int x3, .int x4], [], (pm_Gb L b, I, J)) Q ↔ if x2 ≤ x4 then pm_wp pm_code pm_meta d 178 58 ([.ref 79, .ref 84, .int x2, .int x3, .int x4], [], (pm_Gb L b, I, J)) Q else pm_wp pm_code pm_meta d 178 9 ([.ref 79, .ref 84, .int x2, .int x3, .int x4], [], (pm_Gb L b, I, J)) Q := (pm_bk_iff pc_ch_178 3 3 _).trans (pm_brd)
theorem pb_178v4_58 {d L : Nat} {b : Bool} {I : Nat → Nat → Int32} {J : Nat → Nat → Int64} {x2 x3 x4 : Int32} {Q : Int32 → Int64 → pm_H → Prop} : pm_wp pm_code pm_meta d 178 58 ([.ref 79, .ref 84, .int x2, .int x3, .int x4], [], (pm_Gb L b, I, J)) Q ↔ Q 0 0 (pm_Gb L b, I, J) := (pm_bk_iff pc_ch_178 1 58 _).trans (pm_tt)
theorem pb_178v4_9 {d L : Nat} {b : Bool} {I : Nat → Nat → Int32} {J : Nat → Nat → Int64} {x2 x3 x4 : Int32} {Q : Int32 → Int64 → pm_H → Prop} : pm_wp pm_code pm_meta d 178 9 ([.ref 79, .ref 84, .int x2, .int x3, .int x4], [], (pm_Gb L b, I, J)) Q ↔ if x3 = 0 then pm_wp pm_code pm_meta d 178 29 ([.ref 79, .ref 84, .int x2, .int x3, .int x4], [], (pm_Gb L b, I, J)) Q else pm_wp pm_code pm_meta d 178 13 ([.ref 79, .ref 84, .int x2, .int x3, .int x4], [], (pm_Gb L b, I, J)) Q := (pm_bk_iff pc_ch_178 2 9 _).trans (pm_brd)
theorem pb_178v4_29 {d L : Nat} {b : Bool} {I : Nat → Nat → Int32} {J : Nat → Nat → Int64} {x2 x3 x4 : Int32} {Q : Int32 → Int64 → pm_H → Prop} : pm_wp pm_code pm_meta d 178 29 ([.ref 79, .ref 84, .int x2, .int x3, .int x4], [], (pm_Gb L b, I, J)) Q ↔ pm_in (I 79 58) 4200 = true ∧ (pm_in x4 8 = true ∧ (pm_wp pm_code pm_meta d 178 42 ([.ref 79, .ref 84, .int x2, .int x3, .int x4], [], (pm_Gb L b, (pm_u I 84 x4.toNatClampNeg (I 136 (I 79 58).toNatClampNeg)), J)) Q)) := (pm_bk_iff pc_ch_178 8 29 _).trans (and_congr Iff.rfl (and_congr Iff.rfl (Iff.rfl)))
theorem pb_178v4_13 {d L : Nat} {b : Bool} {I : Nat → Nat → Int32} {J : Nat → Nat → Int64} {x2 x3 x4 : Int32} {Q : Int32 → Int64 → pm_H → Prop} : pm_wp pm_code pm_meta d 178 13 ([.ref 79, .ref 84, .int x2, .int x3, .int x4], [], (pm_Gb L b, I, J)) Q ↔ pm_in x4 8 = true ∧ (pm_in (I 79 58) 4200 = true ∧ (pm_wp pm_code pm_meta d 178 42 ([.ref 79, .ref 84, .int x2, .int x3, .int x4], [], (pm_Gb L b, (pm_u I 136 (I 79 58).toNatClampNeg (I 84 x4.toNatClampNeg)), J)) Q)) := (pm_bk_iff pc_ch_178 9 13 _).trans (and_congr Iff.rfl (and_congr Iff.rfl (Iff.rfl)))
theorem pb_178v4_42 {d L : Nat} {b : Bool} {I : Nat → Nat → Int32} {J : Nat → Nat → Int64} {x2 x3 x4 : Int32} {Q : Int32 → Int64 → pm_H → Prop} : pm_wp pm_code pm_meta d 178 42 ([.ref 79, .ref 84, .int x2, .int x3, .int x4], [], (pm_Gb L b, I, J)) Q ↔ pm_wp pm_code pm_meta d 178 3 ([.ref 79, .ref 84, .int x2, .int x3, .int (x4 + 1)], [], (pm_Gb L b, (pm_u I 79 58 ((I 79 58) + 1)), J)) Q := (pm_bk_iff pc_ch_178 8 42 _).trans (Iff.rfl)
theorem cop_k_84 {d L : Nat} {b : Bool} {I : Nat → Nat → Int32} {J : Nat → Nat → Int64} {Q : Int32 → Int64 → pm_H → Prop} {I1 : Nat → Nat → Int32} (hP : pr_kp 4 148 I I1) (hQ : ∀ I2, pr_kp 5 156 I I2 → Q 0 0 (pm_Gb L b, I2, J)) : pm_wc pm_code pm_meta d 178 [.ref 79, .ref 84, .int 8, .int 1] (pm_Gb L b, I1, J) Q := by
  rw [pb_178v4_0]
  refine cop_k (A := fun x I' => pm_wp pm_code pm_meta d 178 3 ([.ref 79, .ref 84, .int 8, .int 1, .int x], [], (pm_Gb L b, I', J)) Q) (E' := fun _ I' => Q 0 0 (pm_Gb L b, I', J)) (r := 84) (of := 148) (len := 8) (n := 4) (by decide) rfl rfl rfl (fun m I' hm h58 h => ?_) (fun I' h => ?_) hP hQ
  · have g := on_n (a := 148 + m) (by omega)
    have gm := on_n (a := m) (by omega)
    rw [pb_178v4_3, if_neg (by rw [show (8 : Int32) = Int32.ofNat 8 from rfl, on_le (by omega) (by omega)]; omega), pb_178v4_9, if_neg (by decide), pb_178v4_13, h58, g.2.1, gm.2.1]
    refine ⟨pi_in gm.1 (by rw [gm.2.2]; omega), pi_in g.1 (by rw [g.2.2]; omega), ?_⟩
    rw [pb_178v4_42, pm_u_row, if_neg (by decide), h58, on_s, on_s]
    exact h
  · show pm_wp _ _ _ _ _ _ _
    rw [pb_178v4_3, if_pos (by decide), pb_178v4_58]
    exact h
theorem cop_a_84 {d L : Nat} {b : Bool} {I : Nat → Nat → Int32} {J : Nat → Nat → Int64} {Q : Int32 → Int64 → pm_H → Prop} {I1 : Nat → Nat → Int32} (hP : pr_ap 4 148 I I1) (hQ : ∀ I2, pr_ap 5 156 I I2 → Q 0 0 (pm_Gb L b, I2, J)) : pm_wc pm_code pm_meta d 178 [.ref 79, .ref 84, .int 8, .int 0] (pm_Gb L b, I1, J) Q := by
  rw [pb_178v4_0]
  refine cop_a (A := fun x I' => pm_wp pm_code pm_meta d 178 3 ([.ref 79, .ref 84, .int 8, .int 0, .int x], [], (pm_Gb L b, I', J)) Q) (E' := fun _ I' => Q 0 0 (pm_Gb L b, I', J)) (r := 84) (of := 148) (len := 8) (n := 4) (by decide) rfl rfl rfl (fun m I' hm h58 h => ?_) (fun I' h => ?_) hP hQ
  · have g := on_n (a := 148 + m) (by omega)
    have gm := on_n (a := m) (by omega)
    rw [pb_178v4_3, if_neg (by rw [show (8 : Int32) = Int32.ofNat 8 from rfl, on_le (by omega) (by omega)]; omega), pb_178v4_9, if_pos rfl, pb_178v4_29, h58, g.2.1, gm.2.1]
    refine ⟨pi_in g.1 (by rw [g.2.2]; omega), pi_in gm.1 (by rw [gm.2.2]; omega), ?_⟩
    rw [pb_178v4_42, pm_u_row, if_neg (by decide), h58, on_s, on_s]
    exact h
  · show pm_wp _ _ _ _ _ _ _
    rw [pb_178v4_3, if_pos (by decide), pb_178v4_58]
    exact h
theorem pb_178v5_0 {d L : Nat} {b : Bool} {I : Nat → Nat → Int32} {J : Nat → Nat → Int64} {x2 x3 : Int32} {Q : Int32 → Int64 → pm_H → Prop} : pm_wc pm_code pm_meta d 178 [.ref 79, .ref 85, .int x2, .int x3] (pm_Gb L b, I, J) Q ↔ pm_wp pm_code pm_meta d 178 3 ([.ref 79, .ref 85, .int x2, .int x3, .int 0], [], (pm_Gb L b, I, J)) Q := (pm_bk_iff pc_ch_178 2 0 _).trans (Iff.rfl)
theorem pb_178v5_3 {d L : Nat} {b : Bool} {I : Nat → Nat → Int32} {J : Nat → Nat → Int64} {x2 x3 x4 : Int32} {Q : Int32 → Int64 → pm_H → Prop} : pm_wp pm_code pm_meta d 178 3 ([.ref 79, .ref 85, .int x2, .int x3, .int x4], [], (pm_Gb L b, I, J)) Q ↔ if x2 ≤ x4 then pm_wp pm_code pm_meta d 178 58 ([.ref 79, .ref 85, .int x2, .int x3, .int x4], [], (pm_Gb L b, I, J)) Q else pm_wp pm_code pm_meta d 178 9 ([.ref 79, .ref 85, .int x2, .int x3, .int x4], [], (pm_Gb L b, I, J)) Q := (pm_bk_iff pc_ch_178 3 3 _).trans (pm_brd)
theorem pb_178v5_58 {d L : Nat} {b : Bool} {I : Nat → Nat → Int32} {J : Nat → Nat → Int64} {x2 x3 x4 : Int32} {Q : Int32 → Int64 → pm_H → Prop} : pm_wp pm_code pm_meta d 178 58 ([.ref 79, .ref 85, .int x2, .int x3, .int x4], [], (pm_Gb L b, I, J)) Q ↔ Q 0 0 (pm_Gb L b, I, J) := (pm_bk_iff pc_ch_178 1 58 _).trans (pm_tt)
theorem pb_178v5_9 {d L : Nat} {b : Bool} {I : Nat → Nat → Int32} {J : Nat → Nat → Int64} {x2 x3 x4 : Int32} {Q : Int32 → Int64 → pm_H → Prop} : pm_wp pm_code pm_meta d 178 9 ([.ref 79, .ref 85, .int x2, .int x3, .int x4], [], (pm_Gb L b, I, J)) Q ↔ if x3 = 0 then pm_wp pm_code pm_meta d 178 29 ([.ref 79, .ref 85, .int x2, .int x3, .int x4], [], (pm_Gb L b, I, J)) Q else pm_wp pm_code pm_meta d 178 13 ([.ref 79, .ref 85, .int x2, .int x3, .int x4], [], (pm_Gb L b, I, J)) Q := (pm_bk_iff pc_ch_178 2 9 _).trans (pm_brd)
theorem pb_178v5_29 {d L : Nat} {b : Bool} {I : Nat → Nat → Int32} {J : Nat → Nat → Int64} {x2 x3 x4 : Int32} {Q : Int32 → Int64 → pm_H → Prop} : pm_wp pm_code pm_meta d 178 29 ([.ref 79, .ref 85, .int x2, .int x3, .int x4], [], (pm_Gb L b, I, J)) Q ↔ pm_in (I 79 58) 4200 = true ∧ (pm_in x4 8 = true ∧ (pm_wp pm_code pm_meta d 178 42 ([.ref 79, .ref 85, .int x2, .int x3, .int x4], [], (pm_Gb L b, (pm_u I 85 x4.toNatClampNeg (I 136 (I 79 58).toNatClampNeg)), J)) Q)) := (pm_bk_iff pc_ch_178 8 29 _).trans (and_congr Iff.rfl (and_congr Iff.rfl (Iff.rfl)))
theorem pb_178v5_13 {d L : Nat} {b : Bool} {I : Nat → Nat → Int32} {J : Nat → Nat → Int64} {x2 x3 x4 : Int32} {Q : Int32 → Int64 → pm_H → Prop} : pm_wp pm_code pm_meta d 178 13 ([.ref 79, .ref 85, .int x2, .int x3, .int x4], [], (pm_Gb L b, I, J)) Q ↔ pm_in x4 8 = true ∧ (pm_in (I 79 58) 4200 = true ∧ (pm_wp pm_code pm_meta d 178 42 ([.ref 79, .ref 85, .int x2, .int x3, .int x4], [], (pm_Gb L b, (pm_u I 136 (I 79 58).toNatClampNeg (I 85 x4.toNatClampNeg)), J)) Q)) := (pm_bk_iff pc_ch_178 9 13 _).trans (and_congr Iff.rfl (and_congr Iff.rfl (Iff.rfl)))
theorem pb_178v5_42 {d L : Nat} {b : Bool} {I : Nat → Nat → Int32} {J : Nat → Nat → Int64} {x2 x3 x4 : Int32} {Q : Int32 → Int64 → pm_H → Prop} : pm_wp pm_code pm_meta d 178 42 ([.ref 79, .ref 85, .int x2, .int x3, .int x4], [], (pm_Gb L b, I, J)) Q ↔ pm_wp pm_code pm_meta d 178 3 ([.ref 79, .ref 85, .int x2, .int x3, .int (x4 + 1)], [], (pm_Gb L b, (pm_u I 79 58 ((I 79 58) + 1)), J)) Q := (pm_bk_iff pc_ch_178 8 42 _).trans (Iff.rfl)
theorem cop_k_85 {d L : Nat} {b : Bool} {I : Nat → Nat → Int32} {J : Nat → Nat → Int64} {Q : Int32 → Int64 → pm_H → Prop} {I1 : Nat → Nat → Int32} (hP : pr_kp 5 156 I I1) (hQ : ∀ I2, pr_kp 6 164 I I2 → Q 0 0 (pm_Gb L b, I2, J)) : pm_wc pm_code pm_meta d 178 [.ref 79, .ref 85, .int 8, .int 1] (pm_Gb L b, I1, J) Q := by
  rw [pb_178v5_0]
  refine cop_k (A := fun x I' => pm_wp pm_code pm_meta d 178 3 ([.ref 79, .ref 85, .int 8, .int 1, .int x], [], (pm_Gb L b, I', J)) Q) (E' := fun _ I' => Q 0 0 (pm_Gb L b, I', J)) (r := 85) (of := 156) (len := 8) (n := 5) (by decide) rfl rfl rfl (fun m I' hm h58 h => ?_) (fun I' h => ?_) hP hQ
  · have g := on_n (a := 156 + m) (by omega)
    have gm := on_n (a := m) (by omega)
    rw [pb_178v5_3, if_neg (by rw [show (8 : Int32) = Int32.ofNat 8 from rfl, on_le (by omega) (by omega)]; omega), pb_178v5_9, if_neg (by decide), pb_178v5_13, h58, g.2.1, gm.2.1]
    refine ⟨pi_in gm.1 (by rw [gm.2.2]; omega), pi_in g.1 (by rw [g.2.2]; omega), ?_⟩
    rw [pb_178v5_42, pm_u_row, if_neg (by decide), h58, on_s, on_s]
    exact h
  · show pm_wp _ _ _ _ _ _ _
    rw [pb_178v5_3, if_pos (by decide), pb_178v5_58]
    exact h
theorem cop_a_85 {d L : Nat} {b : Bool} {I : Nat → Nat → Int32} {J : Nat → Nat → Int64} {Q : Int32 → Int64 → pm_H → Prop} {I1 : Nat → Nat → Int32} (hP : pr_ap 5 156 I I1) (hQ : ∀ I2, pr_ap 6 164 I I2 → Q 0 0 (pm_Gb L b, I2, J)) : pm_wc pm_code pm_meta d 178 [.ref 79, .ref 85, .int 8, .int 0] (pm_Gb L b, I1, J) Q := by
  rw [pb_178v5_0]
  refine cop_a (A := fun x I' => pm_wp pm_code pm_meta d 178 3 ([.ref 79, .ref 85, .int 8, .int 0, .int x], [], (pm_Gb L b, I', J)) Q) (E' := fun _ I' => Q 0 0 (pm_Gb L b, I', J)) (r := 85) (of := 156) (len := 8) (n := 5) (by decide) rfl rfl rfl (fun m I' hm h58 h => ?_) (fun I' h => ?_) hP hQ
  · have g := on_n (a := 156 + m) (by omega)
    have gm := on_n (a := m) (by omega)
    rw [pb_178v5_3, if_neg (by rw [show (8 : Int32) = Int32.ofNat 8 from rfl, on_le (by omega) (by omega)]; omega), pb_178v5_9, if_pos rfl, pb_178v5_29, h58, g.2.1, gm.2.1]
    refine ⟨pi_in g.1 (by rw [g.2.2]; omega), pi_in gm.1 (by rw [gm.2.2]; omega), ?_⟩
    rw [pb_178v5_42, pm_u_row, if_neg (by decide), h58, on_s, on_s]
    exact h
  · show pm_wp _ _ _ _ _ _ _
    rw [pb_178v5_3, if_pos (by decide), pb_178v5_58]
    exact h
theorem pb_178v6_0 {d L : Nat} {b : Bool} {I : Nat → Nat → Int32} {J : Nat → Nat → Int64} {x2 x3 : Int32} {Q : Int32 → Int64 → pm_H → Prop} : pm_wc pm_code pm_meta d 178 [.ref 79, .ref 86, .int x2, .int x3] (pm_Gb L b, I, J) Q ↔ pm_wp pm_code pm_meta d 178 3 ([.ref 79, .ref 86, .int x2, .int x3, .int 0], [], (pm_Gb L b, I, J)) Q := (pm_bk_iff pc_ch_178 2 0 _).trans (Iff.rfl)
theorem pb_178v6_3 {d L : Nat} {b : Bool} {I : Nat → Nat → Int32} {J : Nat → Nat → Int64} {x2 x3 x4 : Int32} {Q : Int32 → Int64 → pm_H → Prop} : pm_wp pm_code pm_meta d 178 3 ([.ref 79, .ref 86, .int x2, .int x3, .int x4], [], (pm_Gb L b, I, J)) Q ↔ if x2 ≤ x4 then pm_wp pm_code pm_meta d 178 58 ([.ref 79, .ref 86, .int x2, .int x3, .int x4], [], (pm_Gb L b, I, J)) Q else pm_wp pm_code pm_meta d 178 9 ([.ref 79, .ref 86, .int x2, .int x3, .int x4], [], (pm_Gb L b, I, J)) Q := (pm_bk_iff pc_ch_178 3 3 _).trans (pm_brd)
theorem pb_178v6_58 {d L : Nat} {b : Bool} {I : Nat → Nat → Int32} {J : Nat → Nat → Int64} {x2 x3 x4 : Int32} {Q : Int32 → Int64 → pm_H → Prop} : pm_wp pm_code pm_meta d 178 58 ([.ref 79, .ref 86, .int x2, .int x3, .int x4], [], (pm_Gb L b, I, J)) Q ↔ Q 0 0 (pm_Gb L b, I, J) := (pm_bk_iff pc_ch_178 1 58 _).trans (pm_tt)
theorem pb_178v6_9 {d L : Nat} {b : Bool} {I : Nat → Nat → Int32} {J : Nat → Nat → Int64} {x2 x3 x4 : Int32} {Q : Int32 → Int64 → pm_H → Prop} : pm_wp pm_code pm_meta d 178 9 ([.ref 79, .ref 86, .int x2, .int x3, .int x4], [], (pm_Gb L b, I, J)) Q ↔ if x3 = 0 then pm_wp pm_code pm_meta d 178 29 ([.ref 79, .ref 86, .int x2, .int x3, .int x4], [], (pm_Gb L b, I, J)) Q else pm_wp pm_code pm_meta d 178 13 ([.ref 79, .ref 86, .int x2, .int x3, .int x4], [], (pm_Gb L b, I, J)) Q := (pm_bk_iff pc_ch_178 2 9 _).trans (pm_brd)
theorem pb_178v6_29 {d L : Nat} {b : Bool} {I : Nat → Nat → Int32} {J : Nat → Nat → Int64} {x2 x3 x4 : Int32} {Q : Int32 → Int64 → pm_H → Prop} : pm_wp pm_code pm_meta d 178 29 ([.ref 79, .ref 86, .int x2, .int x3, .int x4], [], (pm_Gb L b, I, J)) Q ↔ pm_in (I 79 58) 4200 = true ∧ (pm_in x4 8 = true ∧ (pm_wp pm_code pm_meta d 178 42 ([.ref 79, .ref 86, .int x2, .int x3, .int x4], [], (pm_Gb L b, (pm_u I 86 x4.toNatClampNeg (I 136 (I 79 58).toNatClampNeg)), J)) Q)) := (pm_bk_iff pc_ch_178 8 29 _).trans (and_congr Iff.rfl (and_congr Iff.rfl (Iff.rfl)))
theorem pb_178v6_13 {d L : Nat} {b : Bool} {I : Nat → Nat → Int32} {J : Nat → Nat → Int64} {x2 x3 x4 : Int32} {Q : Int32 → Int64 → pm_H → Prop} : pm_wp pm_code pm_meta d 178 13 ([.ref 79, .ref 86, .int x2, .int x3, .int x4], [], (pm_Gb L b, I, J)) Q ↔ pm_in x4 8 = true ∧ (pm_in (I 79 58) 4200 = true ∧ (pm_wp pm_code pm_meta d 178 42 ([.ref 79, .ref 86, .int x2, .int x3, .int x4], [], (pm_Gb L b, (pm_u I 136 (I 79 58).toNatClampNeg (I 86 x4.toNatClampNeg)), J)) Q)) := (pm_bk_iff pc_ch_178 9 13 _).trans (and_congr Iff.rfl (and_congr Iff.rfl (Iff.rfl)))
theorem pb_178v6_42 {d L : Nat} {b : Bool} {I : Nat → Nat → Int32} {J : Nat → Nat → Int64} {x2 x3 x4 : Int32} {Q : Int32 → Int64 → pm_H → Prop} : pm_wp pm_code pm_meta d 178 42 ([.ref 79, .ref 86, .int x2, .int x3, .int x4], [], (pm_Gb L b, I, J)) Q ↔ pm_wp pm_code pm_meta d 178 3 ([.ref 79, .ref 86, .int x2, .int x3, .int (x4 + 1)], [], (pm_Gb L b, (pm_u I 79 58 ((I 79 58) + 1)), J)) Q := (pm_bk_iff pc_ch_178 8 42 _).trans (Iff.rfl)
theorem cop_k_86 {d L : Nat} {b : Bool} {I : Nat → Nat → Int32} {J : Nat → Nat → Int64} {Q : Int32 → Int64 → pm_H → Prop} {I1 : Nat → Nat → Int32} (hP : pr_kp 6 164 I I1) (hQ : ∀ I2, pr_kp 7 172 I I2 → Q 0 0 (pm_Gb L b, I2, J)) : pm_wc pm_code pm_meta d 178 [.ref 79, .ref 86, .int 8, .int 1] (pm_Gb L b, I1, J) Q := by
  rw [pb_178v6_0]
  refine cop_k (A := fun x I' => pm_wp pm_code pm_meta d 178 3 ([.ref 79, .ref 86, .int 8, .int 1, .int x], [], (pm_Gb L b, I', J)) Q) (E' := fun _ I' => Q 0 0 (pm_Gb L b, I', J)) (r := 86) (of := 164) (len := 8) (n := 6) (by decide) rfl rfl rfl (fun m I' hm h58 h => ?_) (fun I' h => ?_) hP hQ
  · have g := on_n (a := 164 + m) (by omega)
    have gm := on_n (a := m) (by omega)
    rw [pb_178v6_3, if_neg (by rw [show (8 : Int32) = Int32.ofNat 8 from rfl, on_le (by omega) (by omega)]; omega), pb_178v6_9, if_neg (by decide), pb_178v6_13, h58, g.2.1, gm.2.1]
    refine ⟨pi_in gm.1 (by rw [gm.2.2]; omega), pi_in g.1 (by rw [g.2.2]; omega), ?_⟩
    rw [pb_178v6_42, pm_u_row, if_neg (by decide), h58, on_s, on_s]
    exact h
  · show pm_wp _ _ _ _ _ _ _
    rw [pb_178v6_3, if_pos (by decide), pb_178v6_58]
    exact h
theorem cop_a_86 {d L : Nat} {b : Bool} {I : Nat → Nat → Int32} {J : Nat → Nat → Int64} {Q : Int32 → Int64 → pm_H → Prop} {I1 : Nat → Nat → Int32} (hP : pr_ap 6 164 I I1) (hQ : ∀ I2, pr_ap 7 172 I I2 → Q 0 0 (pm_Gb L b, I2, J)) : pm_wc pm_code pm_meta d 178 [.ref 79, .ref 86, .int 8, .int 0] (pm_Gb L b, I1, J) Q := by
  rw [pb_178v6_0]
  refine cop_a (A := fun x I' => pm_wp pm_code pm_meta d 178 3 ([.ref 79, .ref 86, .int 8, .int 0, .int x], [], (pm_Gb L b, I', J)) Q) (E' := fun _ I' => Q 0 0 (pm_Gb L b, I', J)) (r := 86) (of := 164) (len := 8) (n := 6) (by decide) rfl rfl rfl (fun m I' hm h58 h => ?_) (fun I' h => ?_) hP hQ
  · have g := on_n (a := 164 + m) (by omega)
    have gm := on_n (a := m) (by omega)
    rw [pb_178v6_3, if_neg (by rw [show (8 : Int32) = Int32.ofNat 8 from rfl, on_le (by omega) (by omega)]; omega), pb_178v6_9, if_pos rfl, pb_178v6_29, h58, g.2.1, gm.2.1]
    refine ⟨pi_in g.1 (by rw [g.2.2]; omega), pi_in gm.1 (by rw [gm.2.2]; omega), ?_⟩
    rw [pb_178v6_42, pm_u_row, if_neg (by decide), h58, on_s, on_s]
    exact h
  · show pm_wp _ _ _ _ _ _ _
    rw [pb_178v6_3, if_pos (by decide), pb_178v6_58]
    exact h
theorem pb_178v7_0 {d L : Nat} {b : Bool} {I : Nat → Nat → Int32} {J : Nat → Nat → Int64} {x2 x3 : Int32} {Q : Int32 → Int64 → pm_H → Prop} : pm_wc pm_code pm_meta d 178 [.ref 79, .ref 87, .int x2, .int x3] (pm_Gb L b, I, J) Q ↔ pm_wp pm_code pm_meta d 178 3 ([.ref 79, .ref 87, .int x2, .int x3, .int 0], [], (pm_Gb L b, I, J)) Q := (pm_bk_iff pc_ch_178 2 0 _).trans (Iff.rfl)
theorem pb_178v7_3 {d L : Nat} {b : Bool} {I : Nat → Nat → Int32} {J : Nat → Nat → Int64} {x2 x3 x4 : Int32} {Q : Int32 → Int64 → pm_H → Prop} : pm_wp pm_code pm_meta d 178 3 ([.ref 79, .ref 87, .int x2, .int x3, .int x4], [], (pm_Gb L b, I, J)) Q ↔ if x2 ≤ x4 then pm_wp pm_code pm_meta d 178 58 ([.ref 79, .ref 87, .int x2, .int x3, .int x4], [], (pm_Gb L b, I, J)) Q else pm_wp pm_code pm_meta d 178 9 ([.ref 79, .ref 87, .int x2, .int x3, .int x4], [], (pm_Gb L b, I, J)) Q := (pm_bk_iff pc_ch_178 3 3 _).trans (pm_brd)
theorem pb_178v7_58 {d L : Nat} {b : Bool} {I : Nat → Nat → Int32} {J : Nat → Nat → Int64} {x2 x3 x4 : Int32} {Q : Int32 → Int64 → pm_H → Prop} : pm_wp pm_code pm_meta d 178 58 ([.ref 79, .ref 87, .int x2, .int x3, .int x4], [], (pm_Gb L b, I, J)) Q ↔ Q 0 0 (pm_Gb L b, I, J) := (pm_bk_iff pc_ch_178 1 58 _).trans (pm_tt)
theorem pb_178v7_9 {d L : Nat} {b : Bool} {I : Nat → Nat → Int32} {J : Nat → Nat → Int64} {x2 x3 x4 : Int32} {Q : Int32 → Int64 → pm_H → Prop} : pm_wp pm_code pm_meta d 178 9 ([.ref 79, .ref 87, .int x2, .int x3, .int x4], [], (pm_Gb L b, I, J)) Q ↔ if x3 = 0 then pm_wp pm_code pm_meta d 178 29 ([.ref 79, .ref 87, .int x2, .int x3, .int x4], [], (pm_Gb L b, I, J)) Q else pm_wp pm_code pm_meta d 178 13 ([.ref 79, .ref 87, .int x2, .int x3, .int x4], [], (pm_Gb L b, I, J)) Q := (pm_bk_iff pc_ch_178 2 9 _).trans (pm_brd)
theorem pb_178v7_29 {d L : Nat} {b : Bool} {I : Nat → Nat → Int32} {J : Nat → Nat → Int64} {x2 x3 x4 : Int32} {Q : Int32 → Int64 → pm_H → Prop} : pm_wp pm_code pm_meta d 178 29 ([.ref 79, .ref 87, .int x2, .int x3, .int x4], [], (pm_Gb L b, I, J)) Q ↔ pm_in (I 79 58) 4200 = true ∧ (pm_in x4 8 = true ∧ (pm_wp pm_code pm_meta d 178 42 ([.ref 79, .ref 87, .int x2, .int x3, .int x4], [], (pm_Gb L b, (pm_u I 87 x4.toNatClampNeg (I 136 (I 79 58).toNatClampNeg)), J)) Q)) := (pm_bk_iff pc_ch_178 8 29 _).trans (and_congr Iff.rfl (and_congr Iff.rfl (Iff.rfl)))
theorem pb_178v7_13 {d L : Nat} {b : Bool} {I : Nat → Nat → Int32} {J : Nat → Nat → Int64} {x2 x3 x4 : Int32} {Q : Int32 → Int64 → pm_H → Prop} : pm_wp pm_code pm_meta d 178 13 ([.ref 79, .ref 87, .int x2, .int x3, .int x4], [], (pm_Gb L b, I, J)) Q ↔ pm_in x4 8 = true ∧ (pm_in (I 79 58) 4200 = true ∧ (pm_wp pm_code pm_meta d 178 42 ([.ref 79, .ref 87, .int x2, .int x3, .int x4], [], (pm_Gb L b, (pm_u I 136 (I 79 58).toNatClampNeg (I 87 x4.toNatClampNeg)), J)) Q)) := (pm_bk_iff pc_ch_178 9 13 _).trans (and_congr Iff.rfl (and_congr Iff.rfl (Iff.rfl)))
theorem pb_178v7_42 {d L : Nat} {b : Bool} {I : Nat → Nat → Int32} {J : Nat → Nat → Int64} {x2 x3 x4 : Int32} {Q : Int32 → Int64 → pm_H → Prop} : pm_wp pm_code pm_meta d 178 42 ([.ref 79, .ref 87, .int x2, .int x3, .int x4], [], (pm_Gb L b, I, J)) Q ↔ pm_wp pm_code pm_meta d 178 3 ([.ref 79, .ref 87, .int x2, .int x3, .int (x4 + 1)], [], (pm_Gb L b, (pm_u I 79 58 ((I 79 58) + 1)), J)) Q := (pm_bk_iff pc_ch_178 8 42 _).trans (Iff.rfl)
theorem cop_k_87 {d L : Nat} {b : Bool} {I : Nat → Nat → Int32} {J : Nat → Nat → Int64} {Q : Int32 → Int64 → pm_H → Prop} {I1 : Nat → Nat → Int32} (hP : pr_kp 7 172 I I1) (hQ : ∀ I2, pr_kp 8 180 I I2 → Q 0 0 (pm_Gb L b, I2, J)) : pm_wc pm_code pm_meta d 178 [.ref 79, .ref 87, .int 8, .int 1] (pm_Gb L b, I1, J) Q := by
  rw [pb_178v7_0]
  refine cop_k (A := fun x I' => pm_wp pm_code pm_meta d 178 3 ([.ref 79, .ref 87, .int 8, .int 1, .int x], [], (pm_Gb L b, I', J)) Q) (E' := fun _ I' => Q 0 0 (pm_Gb L b, I', J)) (r := 87) (of := 172) (len := 8) (n := 7) (by decide) rfl rfl rfl (fun m I' hm h58 h => ?_) (fun I' h => ?_) hP hQ
  · have g := on_n (a := 172 + m) (by omega)
    have gm := on_n (a := m) (by omega)
    rw [pb_178v7_3, if_neg (by rw [show (8 : Int32) = Int32.ofNat 8 from rfl, on_le (by omega) (by omega)]; omega), pb_178v7_9, if_neg (by decide), pb_178v7_13, h58, g.2.1, gm.2.1]
    refine ⟨pi_in gm.1 (by rw [gm.2.2]; omega), pi_in g.1 (by rw [g.2.2]; omega), ?_⟩
    rw [pb_178v7_42, pm_u_row, if_neg (by decide), h58, on_s, on_s]
    exact h
  · show pm_wp _ _ _ _ _ _ _
    rw [pb_178v7_3, if_pos (by decide), pb_178v7_58]
    exact h
theorem cop_a_87 {d L : Nat} {b : Bool} {I : Nat → Nat → Int32} {J : Nat → Nat → Int64} {Q : Int32 → Int64 → pm_H → Prop} {I1 : Nat → Nat → Int32} (hP : pr_ap 7 172 I I1) (hQ : ∀ I2, pr_ap 8 180 I I2 → Q 0 0 (pm_Gb L b, I2, J)) : pm_wc pm_code pm_meta d 178 [.ref 79, .ref 87, .int 8, .int 0] (pm_Gb L b, I1, J) Q := by
  rw [pb_178v7_0]
  refine cop_a (A := fun x I' => pm_wp pm_code pm_meta d 178 3 ([.ref 79, .ref 87, .int 8, .int 0, .int x], [], (pm_Gb L b, I', J)) Q) (E' := fun _ I' => Q 0 0 (pm_Gb L b, I', J)) (r := 87) (of := 172) (len := 8) (n := 7) (by decide) rfl rfl rfl (fun m I' hm h58 h => ?_) (fun I' h => ?_) hP hQ
  · have g := on_n (a := 172 + m) (by omega)
    have gm := on_n (a := m) (by omega)
    rw [pb_178v7_3, if_neg (by rw [show (8 : Int32) = Int32.ofNat 8 from rfl, on_le (by omega) (by omega)]; omega), pb_178v7_9, if_pos rfl, pb_178v7_29, h58, g.2.1, gm.2.1]
    refine ⟨pi_in g.1 (by rw [g.2.2]; omega), pi_in gm.1 (by rw [gm.2.2]; omega), ?_⟩
    rw [pb_178v7_42, pm_u_row, if_neg (by decide), h58, on_s, on_s]
    exact h
  · show pm_wp _ _ _ _ _ _ _
    rw [pb_178v7_3, if_pos (by decide), pb_178v7_58]
    exact h
theorem pb_178v8_0 {d L : Nat} {b : Bool} {I : Nat → Nat → Int32} {J : Nat → Nat → Int64} {x2 x3 : Int32} {Q : Int32 → Int64 → pm_H → Prop} : pm_wc pm_code pm_meta d 178 [.ref 79, .ref 88, .int x2, .int x3] (pm_Gb L b, I, J) Q ↔ pm_wp pm_code pm_meta d 178 3 ([.ref 79, .ref 88, .int x2, .int x3, .int 0], [], (pm_Gb L b, I, J)) Q := (pm_bk_iff pc_ch_178 2 0 _).trans (Iff.rfl)
theorem pb_178v8_3 {d L : Nat} {b : Bool} {I : Nat → Nat → Int32} {J : Nat → Nat → Int64} {x2 x3 x4 : Int32} {Q : Int32 → Int64 → pm_H → Prop} : pm_wp pm_code pm_meta d 178 3 ([.ref 79, .ref 88, .int x2, .int x3, .int x4], [], (pm_Gb L b, I, J)) Q ↔ if x2 ≤ x4 then pm_wp pm_code pm_meta d 178 58 ([.ref 79, .ref 88, .int x2, .int x3, .int x4], [], (pm_Gb L b, I, J)) Q else pm_wp pm_code pm_meta d 178 9 ([.ref 79, .ref 88, .int x2, .int x3, .int x4], [], (pm_Gb L b, I, J)) Q := (pm_bk_iff pc_ch_178 3 3 _).trans (pm_brd)
theorem pb_178v8_58 {d L : Nat} {b : Bool} {I : Nat → Nat → Int32} {J : Nat → Nat → Int64} {x2 x3 x4 : Int32} {Q : Int32 → Int64 → pm_H → Prop} : pm_wp pm_code pm_meta d 178 58 ([.ref 79, .ref 88, .int x2, .int x3, .int x4], [], (pm_Gb L b, I, J)) Q ↔ Q 0 0 (pm_Gb L b, I, J) := (pm_bk_iff pc_ch_178 1 58 _).trans (pm_tt)
theorem pb_178v8_9 {d L : Nat} {b : Bool} {I : Nat → Nat → Int32} {J : Nat → Nat → Int64} {x2 x3 x4 : Int32} {Q : Int32 → Int64 → pm_H → Prop} : pm_wp pm_code pm_meta d 178 9 ([.ref 79, .ref 88, .int x2, .int x3, .int x4], [], (pm_Gb L b, I, J)) Q ↔ if x3 = 0 then pm_wp pm_code pm_meta d 178 29 ([.ref 79, .ref 88, .int x2, .int x3, .int x4], [], (pm_Gb L b, I, J)) Q else pm_wp pm_code pm_meta d 178 13 ([.ref 79, .ref 88, .int x2, .int x3, .int x4], [], (pm_Gb L b, I, J)) Q := (pm_bk_iff pc_ch_178 2 9 _).trans (pm_brd)
theorem pb_178v8_29 {d L : Nat} {b : Bool} {I : Nat → Nat → Int32} {J : Nat → Nat → Int64} {x2 x3 x4 : Int32} {Q : Int32 → Int64 → pm_H → Prop} : pm_wp pm_code pm_meta d 178 29 ([.ref 79, .ref 88, .int x2, .int x3, .int x4], [], (pm_Gb L b, I, J)) Q ↔ pm_in (I 79 58) 4200 = true ∧ (pm_in x4 8 = true ∧ (pm_wp pm_code pm_meta d 178 42 ([.ref 79, .ref 88, .int x2, .int x3, .int x4], [], (pm_Gb L b, (pm_u I 88 x4.toNatClampNeg (I 136 (I 79 58).toNatClampNeg)), J)) Q)) := (pm_bk_iff pc_ch_178 8 29 _).trans (and_congr Iff.rfl (and_congr Iff.rfl (Iff.rfl)))
theorem pb_178v8_13 {d L : Nat} {b : Bool} {I : Nat → Nat → Int32} {J : Nat → Nat → Int64} {x2 x3 x4 : Int32} {Q : Int32 → Int64 → pm_H → Prop} : pm_wp pm_code pm_meta d 178 13 ([.ref 79, .ref 88, .int x2, .int x3, .int x4], [], (pm_Gb L b, I, J)) Q ↔ pm_in x4 8 = true ∧ (pm_in (I 79 58) 4200 = true ∧ (pm_wp pm_code pm_meta d 178 42 ([.ref 79, .ref 88, .int x2, .int x3, .int x4], [], (pm_Gb L b, (pm_u I 136 (I 79 58).toNatClampNeg (I 88 x4.toNatClampNeg)), J)) Q)) := (pm_bk_iff pc_ch_178 9 13 _).trans (and_congr Iff.rfl (and_congr Iff.rfl (Iff.rfl)))
theorem pb_178v8_42 {d L : Nat} {b : Bool} {I : Nat → Nat → Int32} {J : Nat → Nat → Int64} {x2 x3 x4 : Int32} {Q : Int32 → Int64 → pm_H → Prop} : pm_wp pm_code pm_meta d 178 42 ([.ref 79, .ref 88, .int x2, .int x3, .int x4], [], (pm_Gb L b, I, J)) Q ↔ pm_wp pm_code pm_meta d 178 3 ([.ref 79, .ref 88, .int x2, .int x3, .int (x4 + 1)], [], (pm_Gb L b, (pm_u I 79 58 ((I 79 58) + 1)), J)) Q := (pm_bk_iff pc_ch_178 8 42 _).trans (Iff.rfl)
theorem cop_k_88 {d L : Nat} {b : Bool} {I : Nat → Nat → Int32} {J : Nat → Nat → Int64} {Q : Int32 → Int64 → pm_H → Prop} {I1 : Nat → Nat → Int32} (hP : pr_kp 8 180 I I1) (hQ : ∀ I2, pr_kp 9 188 I I2 → Q 0 0 (pm_Gb L b, I2, J)) : pm_wc pm_code pm_meta d 178 [.ref 79, .ref 88, .int 8, .int 1] (pm_Gb L b, I1, J) Q := by
  rw [pb_178v8_0]
  refine cop_k (A := fun x I' => pm_wp pm_code pm_meta d 178 3 ([.ref 79, .ref 88, .int 8, .int 1, .int x], [], (pm_Gb L b, I', J)) Q) (E' := fun _ I' => Q 0 0 (pm_Gb L b, I', J)) (r := 88) (of := 180) (len := 8) (n := 8) (by decide) rfl rfl rfl (fun m I' hm h58 h => ?_) (fun I' h => ?_) hP hQ
  · have g := on_n (a := 180 + m) (by omega)
    have gm := on_n (a := m) (by omega)
    rw [pb_178v8_3, if_neg (by rw [show (8 : Int32) = Int32.ofNat 8 from rfl, on_le (by omega) (by omega)]; omega), pb_178v8_9, if_neg (by decide), pb_178v8_13, h58, g.2.1, gm.2.1]
    refine ⟨pi_in gm.1 (by rw [gm.2.2]; omega), pi_in g.1 (by rw [g.2.2]; omega), ?_⟩
    rw [pb_178v8_42, pm_u_row, if_neg (by decide), h58, on_s, on_s]
    exact h
  · show pm_wp _ _ _ _ _ _ _
    rw [pb_178v8_3, if_pos (by decide), pb_178v8_58]
    exact h
theorem cop_a_88 {d L : Nat} {b : Bool} {I : Nat → Nat → Int32} {J : Nat → Nat → Int64} {Q : Int32 → Int64 → pm_H → Prop} {I1 : Nat → Nat → Int32} (hP : pr_ap 8 180 I I1) (hQ : ∀ I2, pr_ap 9 188 I I2 → Q 0 0 (pm_Gb L b, I2, J)) : pm_wc pm_code pm_meta d 178 [.ref 79, .ref 88, .int 8, .int 0] (pm_Gb L b, I1, J) Q := by
  rw [pb_178v8_0]
  refine cop_a (A := fun x I' => pm_wp pm_code pm_meta d 178 3 ([.ref 79, .ref 88, .int 8, .int 0, .int x], [], (pm_Gb L b, I', J)) Q) (E' := fun _ I' => Q 0 0 (pm_Gb L b, I', J)) (r := 88) (of := 180) (len := 8) (n := 8) (by decide) rfl rfl rfl (fun m I' hm h58 h => ?_) (fun I' h => ?_) hP hQ
  · have g := on_n (a := 180 + m) (by omega)
    have gm := on_n (a := m) (by omega)
    rw [pb_178v8_3, if_neg (by rw [show (8 : Int32) = Int32.ofNat 8 from rfl, on_le (by omega) (by omega)]; omega), pb_178v8_9, if_pos rfl, pb_178v8_29, h58, g.2.1, gm.2.1]
    refine ⟨pi_in g.1 (by rw [g.2.2]; omega), pi_in gm.1 (by rw [gm.2.2]; omega), ?_⟩
    rw [pb_178v8_42, pm_u_row, if_neg (by decide), h58, on_s, on_s]
    exact h
  · show pm_wp _ _ _ _ _ _ _
    rw [pb_178v8_3, if_pos (by decide), pb_178v8_58]
    exact h
theorem pb_178v9_0 {d L : Nat} {b : Bool} {I : Nat → Nat → Int32} {J : Nat → Nat → Int64} {x2 x3 : Int32} {Q : Int32 → Int64 → pm_H → Prop} : pm_wc pm_code pm_meta d 178 [.ref 79, .ref 89, .int x2, .int x3] (pm_Gb L b, I, J) Q ↔ pm_wp pm_code pm_meta d 178 3 ([.ref 79, .ref 89, .int x2, .int x3, .int 0], [], (pm_Gb L b, I, J)) Q := (pm_bk_iff pc_ch_178 2 0 _).trans (Iff.rfl)
theorem pb_178v9_3 {d L : Nat} {b : Bool} {I : Nat → Nat → Int32} {J : Nat → Nat → Int64} {x2 x3 x4 : Int32} {Q : Int32 → Int64 → pm_H → Prop} : pm_wp pm_code pm_meta d 178 3 ([.ref 79, .ref 89, .int x2, .int x3, .int x4], [], (pm_Gb L b, I, J)) Q ↔ if x2 ≤ x4 then pm_wp pm_code pm_meta d 178 58 ([.ref 79, .ref 89, .int x2, .int x3, .int x4], [], (pm_Gb L b, I, J)) Q else pm_wp pm_code pm_meta d 178 9 ([.ref 79, .ref 89, .int x2, .int x3, .int x4], [], (pm_Gb L b, I, J)) Q := (pm_bk_iff pc_ch_178 3 3 _).trans (pm_brd)
theorem pb_178v9_58 {d L : Nat} {b : Bool} {I : Nat → Nat → Int32} {J : Nat → Nat → Int64} {x2 x3 x4 : Int32} {Q : Int32 → Int64 → pm_H → Prop} : pm_wp pm_code pm_meta d 178 58 ([.ref 79, .ref 89, .int x2, .int x3, .int x4], [], (pm_Gb L b, I, J)) Q ↔ Q 0 0 (pm_Gb L b, I, J) := (pm_bk_iff pc_ch_178 1 58 _).trans (pm_tt)
theorem pb_178v9_9 {d L : Nat} {b : Bool} {I : Nat → Nat → Int32} {J : Nat → Nat → Int64} {x2 x3 x4 : Int32} {Q : Int32 → Int64 → pm_H → Prop} : pm_wp pm_code pm_meta d 178 9 ([.ref 79, .ref 89, .int x2, .int x3, .int x4], [], (pm_Gb L b, I, J)) Q ↔ if x3 = 0 then pm_wp pm_code pm_meta d 178 29 ([.ref 79, .ref 89, .int x2, .int x3, .int x4], [], (pm_Gb L b, I, J)) Q else pm_wp pm_code pm_meta d 178 13 ([.ref 79, .ref 89, .int x2, .int x3, .int x4], [], (pm_Gb L b, I, J)) Q := (pm_bk_iff pc_ch_178 2 9 _).trans (pm_brd)
theorem pb_178v9_29 {d L : Nat} {b : Bool} {I : Nat → Nat → Int32} {J : Nat → Nat → Int64} {x2 x3 x4 : Int32} {Q : Int32 → Int64 → pm_H → Prop} : pm_wp pm_code pm_meta d 178 29 ([.ref 79, .ref 89, .int x2, .int x3, .int x4], [], (pm_Gb L b, I, J)) Q ↔ pm_in (I 79 58) 4200 = true ∧ (pm_in x4 8 = true ∧ (pm_wp pm_code pm_meta d 178 42 ([.ref 79, .ref 89, .int x2, .int x3, .int x4], [], (pm_Gb L b, (pm_u I 89 x4.toNatClampNeg (I 136 (I 79 58).toNatClampNeg)), J)) Q)) := (pm_bk_iff pc_ch_178 8 29 _).trans (and_congr Iff.rfl (and_congr Iff.rfl (Iff.rfl)))
theorem pb_178v9_13 {d L : Nat} {b : Bool} {I : Nat → Nat → Int32} {J : Nat → Nat → Int64} {x2 x3 x4 : Int32} {Q : Int32 → Int64 → pm_H → Prop} : pm_wp pm_code pm_meta d 178 13 ([.ref 79, .ref 89, .int x2, .int x3, .int x4], [], (pm_Gb L b, I, J)) Q ↔ pm_in x4 8 = true ∧ (pm_in (I 79 58) 4200 = true ∧ (pm_wp pm_code pm_meta d 178 42 ([.ref 79, .ref 89, .int x2, .int x3, .int x4], [], (pm_Gb L b, (pm_u I 136 (I 79 58).toNatClampNeg (I 89 x4.toNatClampNeg)), J)) Q)) := (pm_bk_iff pc_ch_178 9 13 _).trans (and_congr Iff.rfl (and_congr Iff.rfl (Iff.rfl)))
theorem pb_178v9_42 {d L : Nat} {b : Bool} {I : Nat → Nat → Int32} {J : Nat → Nat → Int64} {x2 x3 x4 : Int32} {Q : Int32 → Int64 → pm_H → Prop} : pm_wp pm_code pm_meta d 178 42 ([.ref 79, .ref 89, .int x2, .int x3, .int x4], [], (pm_Gb L b, I, J)) Q ↔ pm_wp pm_code pm_meta d 178 3 ([.ref 79, .ref 89, .int x2, .int x3, .int (x4 + 1)], [], (pm_Gb L b, (pm_u I 79 58 ((I 79 58) + 1)), J)) Q := (pm_bk_iff pc_ch_178 8 42 _).trans (Iff.rfl)
theorem cop_k_89 {d L : Nat} {b : Bool} {I : Nat → Nat → Int32} {J : Nat → Nat → Int64} {Q : Int32 → Int64 → pm_H → Prop} {I1 : Nat → Nat → Int32} (hP : pr_kp 9 188 I I1) (hQ : ∀ I2, pr_kp 10 196 I I2 → Q 0 0 (pm_Gb L b, I2, J)) : pm_wc pm_code pm_meta d 178 [.ref 79, .ref 89, .int 8, .int 1] (pm_Gb L b, I1, J) Q := by
  rw [pb_178v9_0]
  refine cop_k (A := fun x I' => pm_wp pm_code pm_meta d 178 3 ([.ref 79, .ref 89, .int 8, .int 1, .int x], [], (pm_Gb L b, I', J)) Q) (E' := fun _ I' => Q 0 0 (pm_Gb L b, I', J)) (r := 89) (of := 188) (len := 8) (n := 9) (by decide) rfl rfl rfl (fun m I' hm h58 h => ?_) (fun I' h => ?_) hP hQ
  · have g := on_n (a := 188 + m) (by omega)
    have gm := on_n (a := m) (by omega)
    rw [pb_178v9_3, if_neg (by rw [show (8 : Int32) = Int32.ofNat 8 from rfl, on_le (by omega) (by omega)]; omega), pb_178v9_9, if_neg (by decide), pb_178v9_13, h58, g.2.1, gm.2.1]
    refine ⟨pi_in gm.1 (by rw [gm.2.2]; omega), pi_in g.1 (by rw [g.2.2]; omega), ?_⟩
    rw [pb_178v9_42, pm_u_row, if_neg (by decide), h58, on_s, on_s]
    exact h
  · show pm_wp _ _ _ _ _ _ _
    rw [pb_178v9_3, if_pos (by decide), pb_178v9_58]
    exact h
theorem cop_a_89 {d L : Nat} {b : Bool} {I : Nat → Nat → Int32} {J : Nat → Nat → Int64} {Q : Int32 → Int64 → pm_H → Prop} {I1 : Nat → Nat → Int32} (hP : pr_ap 9 188 I I1) (hQ : ∀ I2, pr_ap 10 196 I I2 → Q 0 0 (pm_Gb L b, I2, J)) : pm_wc pm_code pm_meta d 178 [.ref 79, .ref 89, .int 8, .int 0] (pm_Gb L b, I1, J) Q := by
  rw [pb_178v9_0]
  refine cop_a (A := fun x I' => pm_wp pm_code pm_meta d 178 3 ([.ref 79, .ref 89, .int 8, .int 0, .int x], [], (pm_Gb L b, I', J)) Q) (E' := fun _ I' => Q 0 0 (pm_Gb L b, I', J)) (r := 89) (of := 188) (len := 8) (n := 9) (by decide) rfl rfl rfl (fun m I' hm h58 h => ?_) (fun I' h => ?_) hP hQ
  · have g := on_n (a := 188 + m) (by omega)
    have gm := on_n (a := m) (by omega)
    rw [pb_178v9_3, if_neg (by rw [show (8 : Int32) = Int32.ofNat 8 from rfl, on_le (by omega) (by omega)]; omega), pb_178v9_9, if_pos rfl, pb_178v9_29, h58, g.2.1, gm.2.1]
    refine ⟨pi_in g.1 (by rw [g.2.2]; omega), pi_in gm.1 (by rw [gm.2.2]; omega), ?_⟩
    rw [pb_178v9_42, pm_u_row, if_neg (by decide), h58, on_s, on_s]
    exact h
  · show pm_wp _ _ _ _ _ _ _
    rw [pb_178v9_3, if_pos (by decide), pb_178v9_58]
    exact h
theorem pb_178v10_0 {d L : Nat} {b : Bool} {I : Nat → Nat → Int32} {J : Nat → Nat → Int64} {x2 x3 : Int32} {Q : Int32 → Int64 → pm_H → Prop} : pm_wc pm_code pm_meta d 178 [.ref 79, .ref 90, .int x2, .int x3] (pm_Gb L b, I, J) Q ↔ pm_wp pm_code pm_meta d 178 3 ([.ref 79, .ref 90, .int x2, .int x3, .int 0], [], (pm_Gb L b, I, J)) Q := (pm_bk_iff pc_ch_178 2 0 _).trans (Iff.rfl)
theorem pb_178v10_3 {d L : Nat} {b : Bool} {I : Nat → Nat → Int32} {J : Nat → Nat → Int64} {x2 x3 x4 : Int32} {Q : Int32 → Int64 → pm_H → Prop} : pm_wp pm_code pm_meta d 178 3 ([.ref 79, .ref 90, .int x2, .int x3, .int x4], [], (pm_Gb L b, I, J)) Q ↔ if x2 ≤ x4 then pm_wp pm_code pm_meta d 178 58 ([.ref 79, .ref 90, .int x2, .int x3, .int x4], [], (pm_Gb L b, I, J)) Q else pm_wp pm_code pm_meta d 178 9 ([.ref 79, .ref 90, .int x2, .int x3, .int x4], [], (pm_Gb L b, I, J)) Q := (pm_bk_iff pc_ch_178 3 3 _).trans (pm_brd)
theorem pb_178v10_58 {d L : Nat} {b : Bool} {I : Nat → Nat → Int32} {J : Nat → Nat → Int64} {x2 x3 x4 : Int32} {Q : Int32 → Int64 → pm_H → Prop} : pm_wp pm_code pm_meta d 178 58 ([.ref 79, .ref 90, .int x2, .int x3, .int x4], [], (pm_Gb L b, I, J)) Q ↔ Q 0 0 (pm_Gb L b, I, J) := (pm_bk_iff pc_ch_178 1 58 _).trans (pm_tt)
theorem pb_178v10_9 {d L : Nat} {b : Bool} {I : Nat → Nat → Int32} {J : Nat → Nat → Int64} {x2 x3 x4 : Int32} {Q : Int32 → Int64 → pm_H → Prop} : pm_wp pm_code pm_meta d 178 9 ([.ref 79, .ref 90, .int x2, .int x3, .int x4], [], (pm_Gb L b, I, J)) Q ↔ if x3 = 0 then pm_wp pm_code pm_meta d 178 29 ([.ref 79, .ref 90, .int x2, .int x3, .int x4], [], (pm_Gb L b, I, J)) Q else pm_wp pm_code pm_meta d 178 13 ([.ref 79, .ref 90, .int x2, .int x3, .int x4], [], (pm_Gb L b, I, J)) Q := (pm_bk_iff pc_ch_178 2 9 _).trans (pm_brd)
theorem pb_178v10_29 {d L : Nat} {b : Bool} {I : Nat → Nat → Int32} {J : Nat → Nat → Int64} {x2 x3 x4 : Int32} {Q : Int32 → Int64 → pm_H → Prop} : pm_wp pm_code pm_meta d 178 29 ([.ref 79, .ref 90, .int x2, .int x3, .int x4], [], (pm_Gb L b, I, J)) Q ↔ pm_in (I 79 58) 4200 = true ∧ (pm_in x4 8 = true ∧ (pm_wp pm_code pm_meta d 178 42 ([.ref 79, .ref 90, .int x2, .int x3, .int x4], [], (pm_Gb L b, (pm_u I 90 x4.toNatClampNeg (I 136 (I 79 58).toNatClampNeg)), J)) Q)) := (pm_bk_iff pc_ch_178 8 29 _).trans (and_congr Iff.rfl (and_congr Iff.rfl (Iff.rfl)))
theorem pb_178v10_13 {d L : Nat} {b : Bool} {I : Nat → Nat → Int32} {J : Nat → Nat → Int64} {x2 x3 x4 : Int32} {Q : Int32 → Int64 → pm_H → Prop} : pm_wp pm_code pm_meta d 178 13 ([.ref 79, .ref 90, .int x2, .int x3, .int x4], [], (pm_Gb L b, I, J)) Q ↔ pm_in x4 8 = true ∧ (pm_in (I 79 58) 4200 = true ∧ (pm_wp pm_code pm_meta d 178 42 ([.ref 79, .ref 90, .int x2, .int x3, .int x4], [], (pm_Gb L b, (pm_u I 136 (I 79 58).toNatClampNeg (I 90 x4.toNatClampNeg)), J)) Q)) := (pm_bk_iff pc_ch_178 9 13 _).trans (and_congr Iff.rfl (and_congr Iff.rfl (Iff.rfl)))
theorem pb_178v10_42 {d L : Nat} {b : Bool} {I : Nat → Nat → Int32} {J : Nat → Nat → Int64} {x2 x3 x4 : Int32} {Q : Int32 → Int64 → pm_H → Prop} : pm_wp pm_code pm_meta d 178 42 ([.ref 79, .ref 90, .int x2, .int x3, .int x4], [], (pm_Gb L b, I, J)) Q ↔ pm_wp pm_code pm_meta d 178 3 ([.ref 79, .ref 90, .int x2, .int x3, .int (x4 + 1)], [], (pm_Gb L b, (pm_u I 79 58 ((I 79 58) + 1)), J)) Q := (pm_bk_iff pc_ch_178 8 42 _).trans (Iff.rfl)
theorem cop_k_90 {d L : Nat} {b : Bool} {I : Nat → Nat → Int32} {J : Nat → Nat → Int64} {Q : Int32 → Int64 → pm_H → Prop} {I1 : Nat → Nat → Int32} (hP : pr_kp 10 196 I I1) (hQ : ∀ I2, pr_kp 11 204 I I2 → Q 0 0 (pm_Gb L b, I2, J)) : pm_wc pm_code pm_meta d 178 [.ref 79, .ref 90, .int 8, .int 1] (pm_Gb L b, I1, J) Q := by
  rw [pb_178v10_0]
  refine cop_k (A := fun x I' => pm_wp pm_code pm_meta d 178 3 ([.ref 79, .ref 90, .int 8, .int 1, .int x], [], (pm_Gb L b, I', J)) Q) (E' := fun _ I' => Q 0 0 (pm_Gb L b, I', J)) (r := 90) (of := 196) (len := 8) (n := 10) (by decide) rfl rfl rfl (fun m I' hm h58 h => ?_) (fun I' h => ?_) hP hQ
  · have g := on_n (a := 196 + m) (by omega)
    have gm := on_n (a := m) (by omega)
    rw [pb_178v10_3, if_neg (by rw [show (8 : Int32) = Int32.ofNat 8 from rfl, on_le (by omega) (by omega)]; omega), pb_178v10_9, if_neg (by decide), pb_178v10_13, h58, g.2.1, gm.2.1]
    refine ⟨pi_in gm.1 (by rw [gm.2.2]; omega), pi_in g.1 (by rw [g.2.2]; omega), ?_⟩
    rw [pb_178v10_42, pm_u_row, if_neg (by decide), h58, on_s, on_s]
    exact h
  · show pm_wp _ _ _ _ _ _ _
    rw [pb_178v10_3, if_pos (by decide), pb_178v10_58]
    exact h
theorem cop_a_90 {d L : Nat} {b : Bool} {I : Nat → Nat → Int32} {J : Nat → Nat → Int64} {Q : Int32 → Int64 → pm_H → Prop} {I1 : Nat → Nat → Int32} (hP : pr_ap 10 196 I I1) (hQ : ∀ I2, pr_ap 11 204 I I2 → Q 0 0 (pm_Gb L b, I2, J)) : pm_wc pm_code pm_meta d 178 [.ref 79, .ref 90, .int 8, .int 0] (pm_Gb L b, I1, J) Q := by
  rw [pb_178v10_0]
  refine cop_a (A := fun x I' => pm_wp pm_code pm_meta d 178 3 ([.ref 79, .ref 90, .int 8, .int 0, .int x], [], (pm_Gb L b, I', J)) Q) (E' := fun _ I' => Q 0 0 (pm_Gb L b, I', J)) (r := 90) (of := 196) (len := 8) (n := 10) (by decide) rfl rfl rfl (fun m I' hm h58 h => ?_) (fun I' h => ?_) hP hQ
  · have g := on_n (a := 196 + m) (by omega)
    have gm := on_n (a := m) (by omega)
    rw [pb_178v10_3, if_neg (by rw [show (8 : Int32) = Int32.ofNat 8 from rfl, on_le (by omega) (by omega)]; omega), pb_178v10_9, if_pos rfl, pb_178v10_29, h58, g.2.1, gm.2.1]
    refine ⟨pi_in g.1 (by rw [g.2.2]; omega), pi_in gm.1 (by rw [gm.2.2]; omega), ?_⟩
    rw [pb_178v10_42, pm_u_row, if_neg (by decide), h58, on_s, on_s]
    exact h
  · show pm_wp _ _ _ _ _ _ _
    rw [pb_178v10_3, if_pos (by decide), pb_178v10_58]
    exact h
theorem pb_178v11_0 {d L : Nat} {b : Bool} {I : Nat → Nat → Int32} {J : Nat → Nat → Int64} {x2 x3 : Int32} {Q : Int32 → Int64 → pm_H → Prop} : pm_wc pm_code pm_meta d 178 [.ref 79, .ref 91, .int x2, .int x3] (pm_Gb L b, I, J) Q ↔ pm_wp pm_code pm_meta d 178 3 ([.ref 79, .ref 91, .int x2, .int x3, .int 0], [], (pm_Gb L b, I, J)) Q := (pm_bk_iff pc_ch_178 2 0 _).trans (Iff.rfl)
theorem pb_178v11_3 {d L : Nat} {b : Bool} {I : Nat → Nat → Int32} {J : Nat → Nat → Int64} {x2 x3 x4 : Int32} {Q : Int32 → Int64 → pm_H → Prop} : pm_wp pm_code pm_meta d 178 3 ([.ref 79, .ref 91, .int x2, .int x3, .int x4], [], (pm_Gb L b, I, J)) Q ↔ if x2 ≤ x4 then pm_wp pm_code pm_meta d 178 58 ([.ref 79, .ref 91, .int x2, .int x3, .int x4], [], (pm_Gb L b, I, J)) Q else pm_wp pm_code pm_meta d 178 9 ([.ref 79, .ref 91, .int x2, .int x3, .int x4], [], (pm_Gb L b, I, J)) Q := (pm_bk_iff pc_ch_178 3 3 _).trans (pm_brd)
theorem pb_178v11_58 {d L : Nat} {b : Bool} {I : Nat → Nat → Int32} {J : Nat → Nat → Int64} {x2 x3 x4 : Int32} {Q : Int32 → Int64 → pm_H → Prop} : pm_wp pm_code pm_meta d 178 58 ([.ref 79, .ref 91, .int x2, .int x3, .int x4], [], (pm_Gb L b, I, J)) Q ↔ Q 0 0 (pm_Gb L b, I, J) := (pm_bk_iff pc_ch_178 1 58 _).trans (pm_tt)
theorem pb_178v11_9 {d L : Nat} {b : Bool} {I : Nat → Nat → Int32} {J : Nat → Nat → Int64} {x2 x3 x4 : Int32} {Q : Int32 → Int64 → pm_H → Prop} : pm_wp pm_code pm_meta d 178 9 ([.ref 79, .ref 91, .int x2, .int x3, .int x4], [], (pm_Gb L b, I, J)) Q ↔ if x3 = 0 then pm_wp pm_code pm_meta d 178 29 ([.ref 79, .ref 91, .int x2, .int x3, .int x4], [], (pm_Gb L b, I, J)) Q else pm_wp pm_code pm_meta d 178 13 ([.ref 79, .ref 91, .int x2, .int x3, .int x4], [], (pm_Gb L b, I, J)) Q := (pm_bk_iff pc_ch_178 2 9 _).trans (pm_brd)
theorem pb_178v11_29 {d L : Nat} {b : Bool} {I : Nat → Nat → Int32} {J : Nat → Nat → Int64} {x2 x3 x4 : Int32} {Q : Int32 → Int64 → pm_H → Prop} : pm_wp pm_code pm_meta d 178 29 ([.ref 79, .ref 91, .int x2, .int x3, .int x4], [], (pm_Gb L b, I, J)) Q ↔ pm_in (I 79 58) 4200 = true ∧ (pm_in x4 8 = true ∧ (pm_wp pm_code pm_meta d 178 42 ([.ref 79, .ref 91, .int x2, .int x3, .int x4], [], (pm_Gb L b, (pm_u I 91 x4.toNatClampNeg (I 136 (I 79 58).toNatClampNeg)), J)) Q)) := (pm_bk_iff pc_ch_178 8 29 _).trans (and_congr Iff.rfl (and_congr Iff.rfl (Iff.rfl)))
theorem pb_178v11_13 {d L : Nat} {b : Bool} {I : Nat → Nat → Int32} {J : Nat → Nat → Int64} {x2 x3 x4 : Int32} {Q : Int32 → Int64 → pm_H → Prop} : pm_wp pm_code pm_meta d 178 13 ([.ref 79, .ref 91, .int x2, .int x3, .int x4], [], (pm_Gb L b, I, J)) Q ↔ pm_in x4 8 = true ∧ (pm_in (I 79 58) 4200 = true ∧ (pm_wp pm_code pm_meta d 178 42 ([.ref 79, .ref 91, .int x2, .int x3, .int x4], [], (pm_Gb L b, (pm_u I 136 (I 79 58).toNatClampNeg (I 91 x4.toNatClampNeg)), J)) Q)) := (pm_bk_iff pc_ch_178 9 13 _).trans (and_congr Iff.rfl (and_congr Iff.rfl (Iff.rfl)))
theorem pb_178v11_42 {d L : Nat} {b : Bool} {I : Nat → Nat → Int32} {J : Nat → Nat → Int64} {x2 x3 x4 : Int32} {Q : Int32 → Int64 → pm_H → Prop} : pm_wp pm_code pm_meta d 178 42 ([.ref 79, .ref 91, .int x2, .int x3, .int x4], [], (pm_Gb L b, I, J)) Q ↔ pm_wp pm_code pm_meta d 178 3 ([.ref 79, .ref 91, .int x2, .int x3, .int (x4 + 1)], [], (pm_Gb L b, (pm_u I 79 58 ((I 79 58) + 1)), J)) Q := (pm_bk_iff pc_ch_178 8 42 _).trans (Iff.rfl)
theorem cop_k_91 {d L : Nat} {b : Bool} {I : Nat → Nat → Int32} {J : Nat → Nat → Int64} {Q : Int32 → Int64 → pm_H → Prop} {I1 : Nat → Nat → Int32} (hP : pr_kp 11 204 I I1) (hQ : ∀ I2, pr_kp 12 212 I I2 → Q 0 0 (pm_Gb L b, I2, J)) : pm_wc pm_code pm_meta d 178 [.ref 79, .ref 91, .int 8, .int 1] (pm_Gb L b, I1, J) Q := by
  rw [pb_178v11_0]
  refine cop_k (A := fun x I' => pm_wp pm_code pm_meta d 178 3 ([.ref 79, .ref 91, .int 8, .int 1, .int x], [], (pm_Gb L b, I', J)) Q) (E' := fun _ I' => Q 0 0 (pm_Gb L b, I', J)) (r := 91) (of := 204) (len := 8) (n := 11) (by decide) rfl rfl rfl (fun m I' hm h58 h => ?_) (fun I' h => ?_) hP hQ
  · have g := on_n (a := 204 + m) (by omega)
    have gm := on_n (a := m) (by omega)
    rw [pb_178v11_3, if_neg (by rw [show (8 : Int32) = Int32.ofNat 8 from rfl, on_le (by omega) (by omega)]; omega), pb_178v11_9, if_neg (by decide), pb_178v11_13, h58, g.2.1, gm.2.1]
    refine ⟨pi_in gm.1 (by rw [gm.2.2]; omega), pi_in g.1 (by rw [g.2.2]; omega), ?_⟩
    rw [pb_178v11_42, pm_u_row, if_neg (by decide), h58, on_s, on_s]
    exact h
  · show pm_wp _ _ _ _ _ _ _
    rw [pb_178v11_3, if_pos (by decide), pb_178v11_58]
    exact h
theorem cop_a_91 {d L : Nat} {b : Bool} {I : Nat → Nat → Int32} {J : Nat → Nat → Int64} {Q : Int32 → Int64 → pm_H → Prop} {I1 : Nat → Nat → Int32} (hP : pr_ap 11 204 I I1) (hQ : ∀ I2, pr_ap 12 212 I I2 → Q 0 0 (pm_Gb L b, I2, J)) : pm_wc pm_code pm_meta d 178 [.ref 79, .ref 91, .int 8, .int 0] (pm_Gb L b, I1, J) Q := by
  rw [pb_178v11_0]
  refine cop_a (A := fun x I' => pm_wp pm_code pm_meta d 178 3 ([.ref 79, .ref 91, .int 8, .int 0, .int x], [], (pm_Gb L b, I', J)) Q) (E' := fun _ I' => Q 0 0 (pm_Gb L b, I', J)) (r := 91) (of := 204) (len := 8) (n := 11) (by decide) rfl rfl rfl (fun m I' hm h58 h => ?_) (fun I' h => ?_) hP hQ
  · have g := on_n (a := 204 + m) (by omega)
    have gm := on_n (a := m) (by omega)
    rw [pb_178v11_3, if_neg (by rw [show (8 : Int32) = Int32.ofNat 8 from rfl, on_le (by omega) (by omega)]; omega), pb_178v11_9, if_pos rfl, pb_178v11_29, h58, g.2.1, gm.2.1]
    refine ⟨pi_in g.1 (by rw [g.2.2]; omega), pi_in gm.1 (by rw [gm.2.2]; omega), ?_⟩
    rw [pb_178v11_42, pm_u_row, if_neg (by decide), h58, on_s, on_s]
    exact h
  · show pm_wp _ _ _ _ _ _ _
    rw [pb_178v11_3, if_pos (by decide), pb_178v11_58]
    exact h
theorem pb_178v12_0 {d L : Nat} {b : Bool} {I : Nat → Nat → Int32} {J : Nat → Nat → Int64} {x2 x3 : Int32} {Q : Int32 → Int64 → pm_H → Prop} : pm_wc pm_code pm_meta d 178 [.ref 79, .ref 92, .int x2, .int x3] (pm_Gb L b, I, J) Q ↔ pm_wp pm_code pm_meta d 178 3 ([.ref 79, .ref 92, .int x2, .int x3, .int 0], [], (pm_Gb L b, I, J)) Q := (pm_bk_iff pc_ch_178 2 0 _).trans (Iff.rfl)
theorem pb_178v12_3 {d L : Nat} {b : Bool} {I : Nat → Nat → Int32} {J : Nat → Nat → Int64} {x2 x3 x4 : Int32} {Q : Int32 → Int64 → pm_H → Prop} : pm_wp pm_code pm_meta d 178 3 ([.ref 79, .ref 92, .int x2, .int x3, .int x4], [], (pm_Gb L b, I, J)) Q ↔ if x2 ≤ x4 then pm_wp pm_code pm_meta d 178 58 ([.ref 79, .ref 92, .int x2, .int x3, .int x4], [], (pm_Gb L b, I, J)) Q else pm_wp pm_code pm_meta d 178 9 ([.ref 79, .ref 92, .int x2, .int x3, .int x4], [], (pm_Gb L b, I, J)) Q := (pm_bk_iff pc_ch_178 3 3 _).trans (pm_brd)
theorem pb_178v12_58 {d L : Nat} {b : Bool} {I : Nat → Nat → Int32} {J : Nat → Nat → Int64} {x2 x3 x4 : Int32} {Q : Int32 → Int64 → pm_H → Prop} : pm_wp pm_code pm_meta d 178 58 ([.ref 79, .ref 92, .int x2, .int x3, .int x4], [], (pm_Gb L b, I, J)) Q ↔ Q 0 0 (pm_Gb L b, I, J) := (pm_bk_iff pc_ch_178 1 58 _).trans (pm_tt)
theorem pb_178v12_9 {d L : Nat} {b : Bool} {I : Nat → Nat → Int32} {J : Nat → Nat → Int64} {x2 x3 x4 : Int32} {Q : Int32 → Int64 → pm_H → Prop} : pm_wp pm_code pm_meta d 178 9 ([.ref 79, .ref 92, .int x2, .int x3, .int x4], [], (pm_Gb L b, I, J)) Q ↔ if x3 = 0 then pm_wp pm_code pm_meta d 178 29 ([.ref 79, .ref 92, .int x2, .int x3, .int x4], [], (pm_Gb L b, I, J)) Q else pm_wp pm_code pm_meta d 178 13 ([.ref 79, .ref 92, .int x2, .int x3, .int x4], [], (pm_Gb L b, I, J)) Q := (pm_bk_iff pc_ch_178 2 9 _).trans (pm_brd)
theorem pb_178v12_29 {d L : Nat} {b : Bool} {I : Nat → Nat → Int32} {J : Nat → Nat → Int64} {x2 x3 x4 : Int32} {Q : Int32 → Int64 → pm_H → Prop} : pm_wp pm_code pm_meta d 178 29 ([.ref 79, .ref 92, .int x2, .int x3, .int x4], [], (pm_Gb L b, I, J)) Q ↔ pm_in (I 79 58) 4200 = true ∧ (pm_in x4 8 = true ∧ (pm_wp pm_code pm_meta d 178 42 ([.ref 79, .ref 92, .int x2, .int x3, .int x4], [], (pm_Gb L b, (pm_u I 92 x4.toNatClampNeg (I 136 (I 79 58).toNatClampNeg)), J)) Q)) := (pm_bk_iff pc_ch_178 8 29 _).trans (and_congr Iff.rfl (and_congr Iff.rfl (Iff.rfl)))
theorem pb_178v12_13 {d L : Nat} {b : Bool} {I : Nat → Nat → Int32} {J : Nat → Nat → Int64} {x2 x3 x4 : Int32} {Q : Int32 → Int64 → pm_H → Prop} : pm_wp pm_code pm_meta d 178 13 ([.ref 79, .ref 92, .int x2, .int x3, .int x4], [], (pm_Gb L b, I, J)) Q ↔ pm_in x4 8 = true ∧ (pm_in (I 79 58) 4200 = true ∧ (pm_wp pm_code pm_meta d 178 42 ([.ref 79, .ref 92, .int x2, .int x3, .int x4], [], (pm_Gb L b, (pm_u I 136 (I 79 58).toNatClampNeg (I 92 x4.toNatClampNeg)), J)) Q)) := (pm_bk_iff pc_ch_178 9 13 _).trans (and_congr Iff.rfl (and_congr Iff.rfl (Iff.rfl)))
theorem pb_178v12_42 {d L : Nat} {b : Bool} {I : Nat → Nat → Int32} {J : Nat → Nat → Int64} {x2 x3 x4 : Int32} {Q : Int32 → Int64 → pm_H → Prop} : pm_wp pm_code pm_meta d 178 42 ([.ref 79, .ref 92, .int x2, .int x3, .int x4], [], (pm_Gb L b, I, J)) Q ↔ pm_wp pm_code pm_meta d 178 3 ([.ref 79, .ref 92, .int x2, .int x3, .int (x4 + 1)], [], (pm_Gb L b, (pm_u I 79 58 ((I 79 58) + 1)), J)) Q := (pm_bk_iff pc_ch_178 8 42 _).trans (Iff.rfl)
theorem cop_k_92 {d L : Nat} {b : Bool} {I : Nat → Nat → Int32} {J : Nat → Nat → Int64} {Q : Int32 → Int64 → pm_H → Prop} {I1 : Nat → Nat → Int32} (hP : pr_kp 12 212 I I1) (hQ : ∀ I2, pr_kp 13 220 I I2 → Q 0 0 (pm_Gb L b, I2, J)) : pm_wc pm_code pm_meta d 178 [.ref 79, .ref 92, .int 8, .int 1] (pm_Gb L b, I1, J) Q := by
  rw [pb_178v12_0]
  refine cop_k (A := fun x I' => pm_wp pm_code pm_meta d 178 3 ([.ref 79, .ref 92, .int 8, .int 1, .int x], [], (pm_Gb L b, I', J)) Q) (E' := fun _ I' => Q 0 0 (pm_Gb L b, I', J)) (r := 92) (of := 212) (len := 8) (n := 12) (by decide) rfl rfl rfl (fun m I' hm h58 h => ?_) (fun I' h => ?_) hP hQ
  · have g := on_n (a := 212 + m) (by omega)
    have gm := on_n (a := m) (by omega)
    rw [pb_178v12_3, if_neg (by rw [show (8 : Int32) = Int32.ofNat 8 from rfl, on_le (by omega) (by omega)]; omega), pb_178v12_9, if_neg (by decide), pb_178v12_13, h58, g.2.1, gm.2.1]
    refine ⟨pi_in gm.1 (by rw [gm.2.2]; omega), pi_in g.1 (by rw [g.2.2]; omega), ?_⟩
    rw [pb_178v12_42, pm_u_row, if_neg (by decide), h58, on_s, on_s]
    exact h
  · show pm_wp _ _ _ _ _ _ _
    rw [pb_178v12_3, if_pos (by decide), pb_178v12_58]
    exact h
theorem cop_a_92 {d L : Nat} {b : Bool} {I : Nat → Nat → Int32} {J : Nat → Nat → Int64} {Q : Int32 → Int64 → pm_H → Prop} {I1 : Nat → Nat → Int32} (hP : pr_ap 12 212 I I1) (hQ : ∀ I2, pr_ap 13 220 I I2 → Q 0 0 (pm_Gb L b, I2, J)) : pm_wc pm_code pm_meta d 178 [.ref 79, .ref 92, .int 8, .int 0] (pm_Gb L b, I1, J) Q := by
  rw [pb_178v12_0]
  refine cop_a (A := fun x I' => pm_wp pm_code pm_meta d 178 3 ([.ref 79, .ref 92, .int 8, .int 0, .int x], [], (pm_Gb L b, I', J)) Q) (E' := fun _ I' => Q 0 0 (pm_Gb L b, I', J)) (r := 92) (of := 212) (len := 8) (n := 12) (by decide) rfl rfl rfl (fun m I' hm h58 h => ?_) (fun I' h => ?_) hP hQ
  · have g := on_n (a := 212 + m) (by omega)
    have gm := on_n (a := m) (by omega)
    rw [pb_178v12_3, if_neg (by rw [show (8 : Int32) = Int32.ofNat 8 from rfl, on_le (by omega) (by omega)]; omega), pb_178v12_9, if_pos rfl, pb_178v12_29, h58, g.2.1, gm.2.1]
    refine ⟨pi_in g.1 (by rw [g.2.2]; omega), pi_in gm.1 (by rw [gm.2.2]; omega), ?_⟩
    rw [pb_178v12_42, pm_u_row, if_neg (by decide), h58, on_s, on_s]
    exact h
  · show pm_wp _ _ _ _ _ _ _
    rw [pb_178v12_3, if_pos (by decide), pb_178v12_58]
    exact h
theorem pb_178v13_0 {d L : Nat} {b : Bool} {I : Nat → Nat → Int32} {J : Nat → Nat → Int64} {x2 x3 : Int32} {Q : Int32 → Int64 → pm_H → Prop} : pm_wc pm_code pm_meta d 178 [.ref 79, .ref 93, .int x2, .int x3] (pm_Gb L b, I, J) Q ↔ pm_wp pm_code pm_meta d 178 3 ([.ref 79, .ref 93, .int x2, .int x3, .int 0], [], (pm_Gb L b, I, J)) Q := (pm_bk_iff pc_ch_178 2 0 _).trans (Iff.rfl)
theorem pb_178v13_3 {d L : Nat} {b : Bool} {I : Nat → Nat → Int32} {J : Nat → Nat → Int64} {x2 x3 x4 : Int32} {Q : Int32 → Int64 → pm_H → Prop} : pm_wp pm_code pm_meta d 178 3 ([.ref 79, .ref 93, .int x2, .int x3, .int x4], [], (pm_Gb L b, I, J)) Q ↔ if x2 ≤ x4 then pm_wp pm_code pm_meta d 178 58 ([.ref 79, .ref 93, .int x2, .int x3, .int x4], [], (pm_Gb L b, I, J)) Q else pm_wp pm_code pm_meta d 178 9 ([.ref 79, .ref 93, .int x2, .int x3, .int x4], [], (pm_Gb L b, I, J)) Q := (pm_bk_iff pc_ch_178 3 3 _).trans (pm_brd)
theorem pb_178v13_58 {d L : Nat} {b : Bool} {I : Nat → Nat → Int32} {J : Nat → Nat → Int64} {x2 x3 x4 : Int32} {Q : Int32 → Int64 → pm_H → Prop} : pm_wp pm_code pm_meta d 178 58 ([.ref 79, .ref 93, .int x2, .int x3, .int x4], [], (pm_Gb L b, I, J)) Q ↔ Q 0 0 (pm_Gb L b, I, J) := (pm_bk_iff pc_ch_178 1 58 _).trans (pm_tt)
theorem pb_178v13_9 {d L : Nat} {b : Bool} {I : Nat → Nat → Int32} {J : Nat → Nat → Int64} {x2 x3 x4 : Int32} {Q : Int32 → Int64 → pm_H → Prop} : pm_wp pm_code pm_meta d 178 9 ([.ref 79, .ref 93, .int x2, .int x3, .int x4], [], (pm_Gb L b, I, J)) Q ↔ if x3 = 0 then pm_wp pm_code pm_meta d 178 29 ([.ref 79, .ref 93, .int x2, .int x3, .int x4], [], (pm_Gb L b, I, J)) Q else pm_wp pm_code pm_meta d 178 13 ([.ref 79, .ref 93, .int x2, .int x3, .int x4], [], (pm_Gb L b, I, J)) Q := (pm_bk_iff pc_ch_178 2 9 _).trans (pm_brd)
theorem pb_178v13_29 {d L : Nat} {b : Bool} {I : Nat → Nat → Int32} {J : Nat → Nat → Int64} {x2 x3 x4 : Int32} {Q : Int32 → Int64 → pm_H → Prop} : pm_wp pm_code pm_meta d 178 29 ([.ref 79, .ref 93, .int x2, .int x3, .int x4], [], (pm_Gb L b, I, J)) Q ↔ pm_in (I 79 58) 4200 = true ∧ (pm_in x4 8 = true ∧ (pm_wp pm_code pm_meta d 178 42 ([.ref 79, .ref 93, .int x2, .int x3, .int x4], [], (pm_Gb L b, (pm_u I 93 x4.toNatClampNeg (I 136 (I 79 58).toNatClampNeg)), J)) Q)) := (pm_bk_iff pc_ch_178 8 29 _).trans (and_congr Iff.rfl (and_congr Iff.rfl (Iff.rfl)))
theorem pb_178v13_13 {d L : Nat} {b : Bool} {I : Nat → Nat → Int32} {J : Nat → Nat → Int64} {x2 x3 x4 : Int32} {Q : Int32 → Int64 → pm_H → Prop} : pm_wp pm_code pm_meta d 178 13 ([.ref 79, .ref 93, .int x2, .int x3, .int x4], [], (pm_Gb L b, I, J)) Q ↔ pm_in x4 8 = true ∧ (pm_in (I 79 58) 4200 = true ∧ (pm_wp pm_code pm_meta d 178 42 ([.ref 79, .ref 93, .int x2, .int x3, .int x4], [], (pm_Gb L b, (pm_u I 136 (I 79 58).toNatClampNeg (I 93 x4.toNatClampNeg)), J)) Q)) := (pm_bk_iff pc_ch_178 9 13 _).trans (and_congr Iff.rfl (and_congr Iff.rfl (Iff.rfl)))
theorem pb_178v13_42 {d L : Nat} {b : Bool} {I : Nat → Nat → Int32} {J : Nat → Nat → Int64} {x2 x3 x4 : Int32} {Q : Int32 → Int64 → pm_H → Prop} : pm_wp pm_code pm_meta d 178 42 ([.ref 79, .ref 93, .int x2, .int x3, .int x4], [], (pm_Gb L b, I, J)) Q ↔ pm_wp pm_code pm_meta d 178 3 ([.ref 79, .ref 93, .int x2, .int x3, .int (x4 + 1)], [], (pm_Gb L b, (pm_u I 79 58 ((I 79 58) + 1)), J)) Q := (pm_bk_iff pc_ch_178 8 42 _).trans (Iff.rfl)
theorem cop_k_93 {d L : Nat} {b : Bool} {I : Nat → Nat → Int32} {J : Nat → Nat → Int64} {Q : Int32 → Int64 → pm_H → Prop} {I1 : Nat → Nat → Int32} (hP : pr_kp 13 220 I I1) (hQ : ∀ I2, pr_kp 14 228 I I2 → Q 0 0 (pm_Gb L b, I2, J)) : pm_wc pm_code pm_meta d 178 [.ref 79, .ref 93, .int 8, .int 1] (pm_Gb L b, I1, J) Q := by
  rw [pb_178v13_0]
  refine cop_k (A := fun x I' => pm_wp pm_code pm_meta d 178 3 ([.ref 79, .ref 93, .int 8, .int 1, .int x], [], (pm_Gb L b, I', J)) Q) (E' := fun _ I' => Q 0 0 (pm_Gb L b, I', J)) (r := 93) (of := 220) (len := 8) (n := 13) (by decide) rfl rfl rfl (fun m I' hm h58 h => ?_) (fun I' h => ?_) hP hQ
  · have g := on_n (a := 220 + m) (by omega)
    have gm := on_n (a := m) (by omega)
    rw [pb_178v13_3, if_neg (by rw [show (8 : Int32) = Int32.ofNat 8 from rfl, on_le (by omega) (by omega)]; omega), pb_178v13_9, if_neg (by decide), pb_178v13_13, h58, g.2.1, gm.2.1]
    refine ⟨pi_in gm.1 (by rw [gm.2.2]; omega), pi_in g.1 (by rw [g.2.2]; omega), ?_⟩
    rw [pb_178v13_42, pm_u_row, if_neg (by decide), h58, on_s, on_s]
    exact h
  · show pm_wp _ _ _ _ _ _ _
    rw [pb_178v13_3, if_pos (by decide), pb_178v13_58]
    exact h
theorem cop_a_93 {d L : Nat} {b : Bool} {I : Nat → Nat → Int32} {J : Nat → Nat → Int64} {Q : Int32 → Int64 → pm_H → Prop} {I1 : Nat → Nat → Int32} (hP : pr_ap 13 220 I I1) (hQ : ∀ I2, pr_ap 14 228 I I2 → Q 0 0 (pm_Gb L b, I2, J)) : pm_wc pm_code pm_meta d 178 [.ref 79, .ref 93, .int 8, .int 0] (pm_Gb L b, I1, J) Q := by
  rw [pb_178v13_0]
  refine cop_a (A := fun x I' => pm_wp pm_code pm_meta d 178 3 ([.ref 79, .ref 93, .int 8, .int 0, .int x], [], (pm_Gb L b, I', J)) Q) (E' := fun _ I' => Q 0 0 (pm_Gb L b, I', J)) (r := 93) (of := 220) (len := 8) (n := 13) (by decide) rfl rfl rfl (fun m I' hm h58 h => ?_) (fun I' h => ?_) hP hQ
  · have g := on_n (a := 220 + m) (by omega)
    have gm := on_n (a := m) (by omega)
    rw [pb_178v13_3, if_neg (by rw [show (8 : Int32) = Int32.ofNat 8 from rfl, on_le (by omega) (by omega)]; omega), pb_178v13_9, if_pos rfl, pb_178v13_29, h58, g.2.1, gm.2.1]
    refine ⟨pi_in g.1 (by rw [g.2.2]; omega), pi_in gm.1 (by rw [gm.2.2]; omega), ?_⟩
    rw [pb_178v13_42, pm_u_row, if_neg (by decide), h58, on_s, on_s]
    exact h
  · show pm_wp _ _ _ _ _ _ _
    rw [pb_178v13_3, if_pos (by decide), pb_178v13_58]
    exact h
theorem pb_178v14_0 {d L : Nat} {b : Bool} {I : Nat → Nat → Int32} {J : Nat → Nat → Int64} {x2 x3 : Int32} {Q : Int32 → Int64 → pm_H → Prop} : pm_wc pm_code pm_meta d 178 [.ref 79, .ref 94, .int x2, .int x3] (pm_Gb L b, I, J) Q ↔ pm_wp pm_code pm_meta d 178 3 ([.ref 79, .ref 94, .int x2, .int x3, .int 0], [], (pm_Gb L b, I, J)) Q := (pm_bk_iff pc_ch_178 2 0 _).trans (Iff.rfl)
theorem pb_178v14_3 {d L : Nat} {b : Bool} {I : Nat → Nat → Int32} {J : Nat → Nat → Int64} {x2 x3 x4 : Int32} {Q : Int32 → Int64 → pm_H → Prop} : pm_wp pm_code pm_meta d 178 3 ([.ref 79, .ref 94, .int x2, .int x3, .int x4], [], (pm_Gb L b, I, J)) Q ↔ if x2 ≤ x4 then pm_wp pm_code pm_meta d 178 58 ([.ref 79, .ref 94, .int x2, .int x3, .int x4], [], (pm_Gb L b, I, J)) Q else pm_wp pm_code pm_meta d 178 9 ([.ref 79, .ref 94, .int x2, .int x3, .int x4], [], (pm_Gb L b, I, J)) Q := (pm_bk_iff pc_ch_178 3 3 _).trans (pm_brd)
theorem pb_178v14_58 {d L : Nat} {b : Bool} {I : Nat → Nat → Int32} {J : Nat → Nat → Int64} {x2 x3 x4 : Int32} {Q : Int32 → Int64 → pm_H → Prop} : pm_wp pm_code pm_meta d 178 58 ([.ref 79, .ref 94, .int x2, .int x3, .int x4], [], (pm_Gb L b, I, J)) Q ↔ Q 0 0 (pm_Gb L b, I, J) := (pm_bk_iff pc_ch_178 1 58 _).trans (pm_tt)
theorem pb_178v14_9 {d L : Nat} {b : Bool} {I : Nat → Nat → Int32} {J : Nat → Nat → Int64} {x2 x3 x4 : Int32} {Q : Int32 → Int64 → pm_H → Prop} : pm_wp pm_code pm_meta d 178 9 ([.ref 79, .ref 94, .int x2, .int x3, .int x4], [], (pm_Gb L b, I, J)) Q ↔ if x3 = 0 then pm_wp pm_code pm_meta d 178 29 ([.ref 79, .ref 94, .int x2, .int x3, .int x4], [], (pm_Gb L b, I, J)) Q else pm_wp pm_code pm_meta d 178 13 ([.ref 79, .ref 94, .int x2, .int x3, .int x4], [], (pm_Gb L b, I, J)) Q := (pm_bk_iff pc_ch_178 2 9 _).trans (pm_brd)
theorem pb_178v14_29 {d L : Nat} {b : Bool} {I : Nat → Nat → Int32} {J : Nat → Nat → Int64} {x2 x3 x4 : Int32} {Q : Int32 → Int64 → pm_H → Prop} : pm_wp pm_code pm_meta d 178 29 ([.ref 79, .ref 94, .int x2, .int x3, .int x4], [], (pm_Gb L b, I, J)) Q ↔ pm_in (I 79 58) 4200 = true ∧ (pm_in x4 24 = true ∧ (pm_wp pm_code pm_meta d 178 42 ([.ref 79, .ref 94, .int x2, .int x3, .int x4], [], (pm_Gb L b, (pm_u I 94 x4.toNatClampNeg (I 136 (I 79 58).toNatClampNeg)), J)) Q)) := (pm_bk_iff pc_ch_178 8 29 _).trans (and_congr Iff.rfl (and_congr Iff.rfl (Iff.rfl)))
theorem pb_178v14_13 {d L : Nat} {b : Bool} {I : Nat → Nat → Int32} {J : Nat → Nat → Int64} {x2 x3 x4 : Int32} {Q : Int32 → Int64 → pm_H → Prop} : pm_wp pm_code pm_meta d 178 13 ([.ref 79, .ref 94, .int x2, .int x3, .int x4], [], (pm_Gb L b, I, J)) Q ↔ pm_in x4 24 = true ∧ (pm_in (I 79 58) 4200 = true ∧ (pm_wp pm_code pm_meta d 178 42 ([.ref 79, .ref 94, .int x2, .int x3, .int x4], [], (pm_Gb L b, (pm_u I 136 (I 79 58).toNatClampNeg (I 94 x4.toNatClampNeg)), J)) Q)) := (pm_bk_iff pc_ch_178 9 13 _).trans (and_congr Iff.rfl (and_congr Iff.rfl (Iff.rfl)))
theorem pb_178v14_42 {d L : Nat} {b : Bool} {I : Nat → Nat → Int32} {J : Nat → Nat → Int64} {x2 x3 x4 : Int32} {Q : Int32 → Int64 → pm_H → Prop} : pm_wp pm_code pm_meta d 178 42 ([.ref 79, .ref 94, .int x2, .int x3, .int x4], [], (pm_Gb L b, I, J)) Q ↔ pm_wp pm_code pm_meta d 178 3 ([.ref 79, .ref 94, .int x2, .int x3, .int (x4 + 1)], [], (pm_Gb L b, (pm_u I 79 58 ((I 79 58) + 1)), J)) Q := (pm_bk_iff pc_ch_178 8 42 _).trans (Iff.rfl)
theorem cop_k_94 {d L : Nat} {b : Bool} {I : Nat → Nat → Int32} {J : Nat → Nat → Int64} {Q : Int32 → Int64 → pm_H → Prop} {I1 : Nat → Nat → Int32} (hP : pr_kp 14 228 I I1) (hQ : ∀ I2, pr_kp 15 252 I I2 → Q 0 0 (pm_Gb L b, I2, J)) : pm_wc pm_code pm_meta d 178 [.ref 79, .ref 94, .int 24, .int 1] (pm_Gb L b, I1, J) Q := by
  rw [pb_178v14_0]
  refine cop_k (A := fun x I' => pm_wp pm_code pm_meta d 178 3 ([.ref 79, .ref 94, .int 24, .int 1, .int x], [], (pm_Gb L b, I', J)) Q) (E' := fun _ I' => Q 0 0 (pm_Gb L b, I', J)) (r := 94) (of := 228) (len := 24) (n := 14) (by decide) rfl rfl rfl (fun m I' hm h58 h => ?_) (fun I' h => ?_) hP hQ
  · have g := on_n (a := 228 + m) (by omega)
    have gm := on_n (a := m) (by omega)
    rw [pb_178v14_3, if_neg (by rw [show (24 : Int32) = Int32.ofNat 24 from rfl, on_le (by omega) (by omega)]; omega), pb_178v14_9, if_neg (by decide), pb_178v14_13, h58, g.2.1, gm.2.1]
    refine ⟨pi_in gm.1 (by rw [gm.2.2]; omega), pi_in g.1 (by rw [g.2.2]; omega), ?_⟩
    rw [pb_178v14_42, pm_u_row, if_neg (by decide), h58, on_s, on_s]
    exact h
  · show pm_wp _ _ _ _ _ _ _
    rw [pb_178v14_3, if_pos (by decide), pb_178v14_58]
    exact h
theorem cop_a_94 {d L : Nat} {b : Bool} {I : Nat → Nat → Int32} {J : Nat → Nat → Int64} {Q : Int32 → Int64 → pm_H → Prop} {I1 : Nat → Nat → Int32} (hP : pr_ap 14 228 I I1) (hQ : ∀ I2, pr_ap 15 252 I I2 → Q 0 0 (pm_Gb L b, I2, J)) : pm_wc pm_code pm_meta d 178 [.ref 79, .ref 94, .int 24, .int 0] (pm_Gb L b, I1, J) Q := by
  rw [pb_178v14_0]
  refine cop_a (A := fun x I' => pm_wp pm_code pm_meta d 178 3 ([.ref 79, .ref 94, .int 24, .int 0, .int x], [], (pm_Gb L b, I', J)) Q) (E' := fun _ I' => Q 0 0 (pm_Gb L b, I', J)) (r := 94) (of := 228) (len := 24) (n := 14) (by decide) rfl rfl rfl (fun m I' hm h58 h => ?_) (fun I' h => ?_) hP hQ
  · have g := on_n (a := 228 + m) (by omega)
    have gm := on_n (a := m) (by omega)
    rw [pb_178v14_3, if_neg (by rw [show (24 : Int32) = Int32.ofNat 24 from rfl, on_le (by omega) (by omega)]; omega), pb_178v14_9, if_pos rfl, pb_178v14_29, h58, g.2.1, gm.2.1]
    refine ⟨pi_in g.1 (by rw [g.2.2]; omega), pi_in gm.1 (by rw [gm.2.2]; omega), ?_⟩
    rw [pb_178v14_42, pm_u_row, if_neg (by decide), h58, on_s, on_s]
    exact h
  · show pm_wp _ _ _ _ _ _ _
    rw [pb_178v14_3, if_pos (by decide), pb_178v14_58]
    exact h
theorem pb_178v15_0 {d L : Nat} {b : Bool} {I : Nat → Nat → Int32} {J : Nat → Nat → Int64} {x2 x3 : Int32} {Q : Int32 → Int64 → pm_H → Prop} : pm_wc pm_code pm_meta d 178 [.ref 79, .ref 95, .int x2, .int x3] (pm_Gb L b, I, J) Q ↔ pm_wp pm_code pm_meta d 178 3 ([.ref 79, .ref 95, .int x2, .int x3, .int 0], [], (pm_Gb L b, I, J)) Q := (pm_bk_iff pc_ch_178 2 0 _).trans (Iff.rfl)
theorem pb_178v15_3 {d L : Nat} {b : Bool} {I : Nat → Nat → Int32} {J : Nat → Nat → Int64} {x2 x3 x4 : Int32} {Q : Int32 → Int64 → pm_H → Prop} : pm_wp pm_code pm_meta d 178 3 ([.ref 79, .ref 95, .int x2, .int x3, .int x4], [], (pm_Gb L b, I, J)) Q ↔ if x2 ≤ x4 then pm_wp pm_code pm_meta d 178 58 ([.ref 79, .ref 95, .int x2, .int x3, .int x4], [], (pm_Gb L b, I, J)) Q else pm_wp pm_code pm_meta d 178 9 ([.ref 79, .ref 95, .int x2, .int x3, .int x4], [], (pm_Gb L b, I, J)) Q := (pm_bk_iff pc_ch_178 3 3 _).trans (pm_brd)
theorem pb_178v15_58 {d L : Nat} {b : Bool} {I : Nat → Nat → Int32} {J : Nat → Nat → Int64} {x2 x3 x4 : Int32} {Q : Int32 → Int64 → pm_H → Prop} : pm_wp pm_code pm_meta d 178 58 ([.ref 79, .ref 95, .int x2, .int x3, .int x4], [], (pm_Gb L b, I, J)) Q ↔ Q 0 0 (pm_Gb L b, I, J) := (pm_bk_iff pc_ch_178 1 58 _).trans (pm_tt)
theorem pb_178v15_9 {d L : Nat} {b : Bool} {I : Nat → Nat → Int32} {J : Nat → Nat → Int64} {x2 x3 x4 : Int32} {Q : Int32 → Int64 → pm_H → Prop} : pm_wp pm_code pm_meta d 178 9 ([.ref 79, .ref 95, .int x2, .int x3, .int x4], [], (pm_Gb L b, I, J)) Q ↔ if x3 = 0 then pm_wp pm_code pm_meta d 178 29 ([.ref 79, .ref 95, .int x2, .int x3, .int x4], [], (pm_Gb L b, I, J)) Q else pm_wp pm_code pm_meta d 178 13 ([.ref 79, .ref 95, .int x2, .int x3, .int x4], [], (pm_Gb L b, I, J)) Q := (pm_bk_iff pc_ch_178 2 9 _).trans (pm_brd)
theorem pb_178v15_29 {d L : Nat} {b : Bool} {I : Nat → Nat → Int32} {J : Nat → Nat → Int64} {x2 x3 x4 : Int32} {Q : Int32 → Int64 → pm_H → Prop} : pm_wp pm_code pm_meta d 178 29 ([.ref 79, .ref 95, .int x2, .int x3, .int x4], [], (pm_Gb L b, I, J)) Q ↔ pm_in (I 79 58) 4200 = true ∧ (pm_in x4 24 = true ∧ (pm_wp pm_code pm_meta d 178 42 ([.ref 79, .ref 95, .int x2, .int x3, .int x4], [], (pm_Gb L b, (pm_u I 95 x4.toNatClampNeg (I 136 (I 79 58).toNatClampNeg)), J)) Q)) := (pm_bk_iff pc_ch_178 8 29 _).trans (and_congr Iff.rfl (and_congr Iff.rfl (Iff.rfl)))
theorem pb_178v15_13 {d L : Nat} {b : Bool} {I : Nat → Nat → Int32} {J : Nat → Nat → Int64} {x2 x3 x4 : Int32} {Q : Int32 → Int64 → pm_H → Prop} : pm_wp pm_code pm_meta d 178 13 ([.ref 79, .ref 95, .int x2, .int x3, .int x4], [], (pm_Gb L b, I, J)) Q ↔ pm_in x4 24 = true ∧ (pm_in (I 79 58) 4200 = true ∧ (pm_wp pm_code pm_meta d 178 42 ([.ref 79, .ref 95, .int x2, .int x3, .int x4], [], (pm_Gb L b, (pm_u I 136 (I 79 58).toNatClampNeg (I 95 x4.toNatClampNeg)), J)) Q)) := (pm_bk_iff pc_ch_178 9 13 _).trans (and_congr Iff.rfl (and_congr Iff.rfl (Iff.rfl)))
theorem pb_178v15_42 {d L : Nat} {b : Bool} {I : Nat → Nat → Int32} {J : Nat → Nat → Int64} {x2 x3 x4 : Int32} {Q : Int32 → Int64 → pm_H → Prop} : pm_wp pm_code pm_meta d 178 42 ([.ref 79, .ref 95, .int x2, .int x3, .int x4], [], (pm_Gb L b, I, J)) Q ↔ pm_wp pm_code pm_meta d 178 3 ([.ref 79, .ref 95, .int x2, .int x3, .int (x4 + 1)], [], (pm_Gb L b, (pm_u I 79 58 ((I 79 58) + 1)), J)) Q := (pm_bk_iff pc_ch_178 8 42 _).trans (Iff.rfl)
theorem cop_k_95 {d L : Nat} {b : Bool} {I : Nat → Nat → Int32} {J : Nat → Nat → Int64} {Q : Int32 → Int64 → pm_H → Prop} {I1 : Nat → Nat → Int32} (hP : pr_kp 15 252 I I1) (hQ : ∀ I2, pr_kp 16 276 I I2 → Q 0 0 (pm_Gb L b, I2, J)) : pm_wc pm_code pm_meta d 178 [.ref 79, .ref 95, .int 24, .int 1] (pm_Gb L b, I1, J) Q := by
  rw [pb_178v15_0]
  refine cop_k (A := fun x I' => pm_wp pm_code pm_meta d 178 3 ([.ref 79, .ref 95, .int 24, .int 1, .int x], [], (pm_Gb L b, I', J)) Q) (E' := fun _ I' => Q 0 0 (pm_Gb L b, I', J)) (r := 95) (of := 252) (len := 24) (n := 15) (by decide) rfl rfl rfl (fun m I' hm h58 h => ?_) (fun I' h => ?_) hP hQ
  · have g := on_n (a := 252 + m) (by omega)
    have gm := on_n (a := m) (by omega)
    rw [pb_178v15_3, if_neg (by rw [show (24 : Int32) = Int32.ofNat 24 from rfl, on_le (by omega) (by omega)]; omega), pb_178v15_9, if_neg (by decide), pb_178v15_13, h58, g.2.1, gm.2.1]
    refine ⟨pi_in gm.1 (by rw [gm.2.2]; omega), pi_in g.1 (by rw [g.2.2]; omega), ?_⟩
    rw [pb_178v15_42, pm_u_row, if_neg (by decide), h58, on_s, on_s]
    exact h
  · show pm_wp _ _ _ _ _ _ _
    rw [pb_178v15_3, if_pos (by decide), pb_178v15_58]
    exact h
theorem cop_a_95 {d L : Nat} {b : Bool} {I : Nat → Nat → Int32} {J : Nat → Nat → Int64} {Q : Int32 → Int64 → pm_H → Prop} {I1 : Nat → Nat → Int32} (hP : pr_ap 15 252 I I1) (hQ : ∀ I2, pr_ap 16 276 I I2 → Q 0 0 (pm_Gb L b, I2, J)) : pm_wc pm_code pm_meta d 178 [.ref 79, .ref 95, .int 24, .int 0] (pm_Gb L b, I1, J) Q := by
  rw [pb_178v15_0]
  refine cop_a (A := fun x I' => pm_wp pm_code pm_meta d 178 3 ([.ref 79, .ref 95, .int 24, .int 0, .int x], [], (pm_Gb L b, I', J)) Q) (E' := fun _ I' => Q 0 0 (pm_Gb L b, I', J)) (r := 95) (of := 252) (len := 24) (n := 15) (by decide) rfl rfl rfl (fun m I' hm h58 h => ?_) (fun I' h => ?_) hP hQ
  · have g := on_n (a := 252 + m) (by omega)
    have gm := on_n (a := m) (by omega)
    rw [pb_178v15_3, if_neg (by rw [show (24 : Int32) = Int32.ofNat 24 from rfl, on_le (by omega) (by omega)]; omega), pb_178v15_9, if_pos rfl, pb_178v15_29, h58, g.2.1, gm.2.1]
    refine ⟨pi_in g.1 (by rw [g.2.2]; omega), pi_in gm.1 (by rw [gm.2.2]; omega), ?_⟩
    rw [pb_178v15_42, pm_u_row, if_neg (by decide), h58, on_s, on_s]
    exact h
  · show pm_wp _ _ _ _ _ _ _
    rw [pb_178v15_3, if_pos (by decide), pb_178v15_58]
    exact h
theorem pb_178v16_0 {d L : Nat} {b : Bool} {I : Nat → Nat → Int32} {J : Nat → Nat → Int64} {x2 x3 : Int32} {Q : Int32 → Int64 → pm_H → Prop} : pm_wc pm_code pm_meta d 178 [.ref 79, .ref 96, .int x2, .int x3] (pm_Gb L b, I, J) Q ↔ pm_wp pm_code pm_meta d 178 3 ([.ref 79, .ref 96, .int x2, .int x3, .int 0], [], (pm_Gb L b, I, J)) Q := (pm_bk_iff pc_ch_178 2 0 _).trans (Iff.rfl)
theorem pb_178v16_3 {d L : Nat} {b : Bool} {I : Nat → Nat → Int32} {J : Nat → Nat → Int64} {x2 x3 x4 : Int32} {Q : Int32 → Int64 → pm_H → Prop} : pm_wp pm_code pm_meta d 178 3 ([.ref 79, .ref 96, .int x2, .int x3, .int x4], [], (pm_Gb L b, I, J)) Q ↔ if x2 ≤ x4 then pm_wp pm_code pm_meta d 178 58 ([.ref 79, .ref 96, .int x2, .int x3, .int x4], [], (pm_Gb L b, I, J)) Q else pm_wp pm_code pm_meta d 178 9 ([.ref 79, .ref 96, .int x2, .int x3, .int x4], [], (pm_Gb L b, I, J)) Q := (pm_bk_iff pc_ch_178 3 3 _).trans (pm_brd)
theorem pb_178v16_58 {d L : Nat} {b : Bool} {I : Nat → Nat → Int32} {J : Nat → Nat → Int64} {x2 x3 x4 : Int32} {Q : Int32 → Int64 → pm_H → Prop} : pm_wp pm_code pm_meta d 178 58 ([.ref 79, .ref 96, .int x2, .int x3, .int x4], [], (pm_Gb L b, I, J)) Q ↔ Q 0 0 (pm_Gb L b, I, J) := (pm_bk_iff pc_ch_178 1 58 _).trans (pm_tt)
theorem pb_178v16_9 {d L : Nat} {b : Bool} {I : Nat → Nat → Int32} {J : Nat → Nat → Int64} {x2 x3 x4 : Int32} {Q : Int32 → Int64 → pm_H → Prop} : pm_wp pm_code pm_meta d 178 9 ([.ref 79, .ref 96, .int x2, .int x3, .int x4], [], (pm_Gb L b, I, J)) Q ↔ if x3 = 0 then pm_wp pm_code pm_meta d 178 29 ([.ref 79, .ref 96, .int x2, .int x3, .int x4], [], (pm_Gb L b, I, J)) Q else pm_wp pm_code pm_meta d 178 13 ([.ref 79, .ref 96, .int x2, .int x3, .int x4], [], (pm_Gb L b, I, J)) Q := (pm_bk_iff pc_ch_178 2 9 _).trans (pm_brd)
theorem pb_178v16_29 {d L : Nat} {b : Bool} {I : Nat → Nat → Int32} {J : Nat → Nat → Int64} {x2 x3 x4 : Int32} {Q : Int32 → Int64 → pm_H → Prop} : pm_wp pm_code pm_meta d 178 29 ([.ref 79, .ref 96, .int x2, .int x3, .int x4], [], (pm_Gb L b, I, J)) Q ↔ pm_in (I 79 58) 4200 = true ∧ (pm_in x4 24 = true ∧ (pm_wp pm_code pm_meta d 178 42 ([.ref 79, .ref 96, .int x2, .int x3, .int x4], [], (pm_Gb L b, (pm_u I 96 x4.toNatClampNeg (I 136 (I 79 58).toNatClampNeg)), J)) Q)) := (pm_bk_iff pc_ch_178 8 29 _).trans (and_congr Iff.rfl (and_congr Iff.rfl (Iff.rfl)))
theorem pb_178v16_13 {d L : Nat} {b : Bool} {I : Nat → Nat → Int32} {J : Nat → Nat → Int64} {x2 x3 x4 : Int32} {Q : Int32 → Int64 → pm_H → Prop} : pm_wp pm_code pm_meta d 178 13 ([.ref 79, .ref 96, .int x2, .int x3, .int x4], [], (pm_Gb L b, I, J)) Q ↔ pm_in x4 24 = true ∧ (pm_in (I 79 58) 4200 = true ∧ (pm_wp pm_code pm_meta d 178 42 ([.ref 79, .ref 96, .int x2, .int x3, .int x4], [], (pm_Gb L b, (pm_u I 136 (I 79 58).toNatClampNeg (I 96 x4.toNatClampNeg)), J)) Q)) := (pm_bk_iff pc_ch_178 9 13 _).trans (and_congr Iff.rfl (and_congr Iff.rfl (Iff.rfl)))
theorem pb_178v16_42 {d L : Nat} {b : Bool} {I : Nat → Nat → Int32} {J : Nat → Nat → Int64} {x2 x3 x4 : Int32} {Q : Int32 → Int64 → pm_H → Prop} : pm_wp pm_code pm_meta d 178 42 ([.ref 79, .ref 96, .int x2, .int x3, .int x4], [], (pm_Gb L b, I, J)) Q ↔ pm_wp pm_code pm_meta d 178 3 ([.ref 79, .ref 96, .int x2, .int x3, .int (x4 + 1)], [], (pm_Gb L b, (pm_u I 79 58 ((I 79 58) + 1)), J)) Q := (pm_bk_iff pc_ch_178 8 42 _).trans (Iff.rfl)
theorem cop_k_96 {d L : Nat} {b : Bool} {I : Nat → Nat → Int32} {J : Nat → Nat → Int64} {Q : Int32 → Int64 → pm_H → Prop} {I1 : Nat → Nat → Int32} (hP : pr_kp 16 276 I I1) (hQ : ∀ I2, pr_kp 17 300 I I2 → Q 0 0 (pm_Gb L b, I2, J)) : pm_wc pm_code pm_meta d 178 [.ref 79, .ref 96, .int 24, .int 1] (pm_Gb L b, I1, J) Q := by
  rw [pb_178v16_0]
  refine cop_k (A := fun x I' => pm_wp pm_code pm_meta d 178 3 ([.ref 79, .ref 96, .int 24, .int 1, .int x], [], (pm_Gb L b, I', J)) Q) (E' := fun _ I' => Q 0 0 (pm_Gb L b, I', J)) (r := 96) (of := 276) (len := 24) (n := 16) (by decide) rfl rfl rfl (fun m I' hm h58 h => ?_) (fun I' h => ?_) hP hQ
  · have g := on_n (a := 276 + m) (by omega)
    have gm := on_n (a := m) (by omega)
    rw [pb_178v16_3, if_neg (by rw [show (24 : Int32) = Int32.ofNat 24 from rfl, on_le (by omega) (by omega)]; omega), pb_178v16_9, if_neg (by decide), pb_178v16_13, h58, g.2.1, gm.2.1]
    refine ⟨pi_in gm.1 (by rw [gm.2.2]; omega), pi_in g.1 (by rw [g.2.2]; omega), ?_⟩
    rw [pb_178v16_42, pm_u_row, if_neg (by decide), h58, on_s, on_s]
    exact h
  · show pm_wp _ _ _ _ _ _ _
    rw [pb_178v16_3, if_pos (by decide), pb_178v16_58]
    exact h
theorem cop_a_96 {d L : Nat} {b : Bool} {I : Nat → Nat → Int32} {J : Nat → Nat → Int64} {Q : Int32 → Int64 → pm_H → Prop} {I1 : Nat → Nat → Int32} (hP : pr_ap 16 276 I I1) (hQ : ∀ I2, pr_ap 17 300 I I2 → Q 0 0 (pm_Gb L b, I2, J)) : pm_wc pm_code pm_meta d 178 [.ref 79, .ref 96, .int 24, .int 0] (pm_Gb L b, I1, J) Q := by
  rw [pb_178v16_0]
  refine cop_a (A := fun x I' => pm_wp pm_code pm_meta d 178 3 ([.ref 79, .ref 96, .int 24, .int 0, .int x], [], (pm_Gb L b, I', J)) Q) (E' := fun _ I' => Q 0 0 (pm_Gb L b, I', J)) (r := 96) (of := 276) (len := 24) (n := 16) (by decide) rfl rfl rfl (fun m I' hm h58 h => ?_) (fun I' h => ?_) hP hQ
  · have g := on_n (a := 276 + m) (by omega)
    have gm := on_n (a := m) (by omega)
    rw [pb_178v16_3, if_neg (by rw [show (24 : Int32) = Int32.ofNat 24 from rfl, on_le (by omega) (by omega)]; omega), pb_178v16_9, if_pos rfl, pb_178v16_29, h58, g.2.1, gm.2.1]
    refine ⟨pi_in g.1 (by rw [g.2.2]; omega), pi_in gm.1 (by rw [gm.2.2]; omega), ?_⟩
    rw [pb_178v16_42, pm_u_row, if_neg (by decide), h58, on_s, on_s]
    exact h
  · show pm_wp _ _ _ _ _ _ _
    rw [pb_178v16_3, if_pos (by decide), pb_178v16_58]
    exact h
theorem pb_178v17_0 {d L : Nat} {b : Bool} {I : Nat → Nat → Int32} {J : Nat → Nat → Int64} {x2 x3 : Int32} {Q : Int32 → Int64 → pm_H → Prop} : pm_wc pm_code pm_meta d 178 [.ref 79, .ref 97, .int x2, .int x3] (pm_Gb L b, I, J) Q ↔ pm_wp pm_code pm_meta d 178 3 ([.ref 79, .ref 97, .int x2, .int x3, .int 0], [], (pm_Gb L b, I, J)) Q := (pm_bk_iff pc_ch_178 2 0 _).trans (Iff.rfl)
theorem pb_178v17_3 {d L : Nat} {b : Bool} {I : Nat → Nat → Int32} {J : Nat → Nat → Int64} {x2 x3 x4 : Int32} {Q : Int32 → Int64 → pm_H → Prop} : pm_wp pm_code pm_meta d 178 3 ([.ref 79, .ref 97, .int x2, .int x3, .int x4], [], (pm_Gb L b, I, J)) Q ↔ if x2 ≤ x4 then pm_wp pm_code pm_meta d 178 58 ([.ref 79, .ref 97, .int x2, .int x3, .int x4], [], (pm_Gb L b, I, J)) Q else pm_wp pm_code pm_meta d 178 9 ([.ref 79, .ref 97, .int x2, .int x3, .int x4], [], (pm_Gb L b, I, J)) Q := (pm_bk_iff pc_ch_178 3 3 _).trans (pm_brd)
theorem pb_178v17_58 {d L : Nat} {b : Bool} {I : Nat → Nat → Int32} {J : Nat → Nat → Int64} {x2 x3 x4 : Int32} {Q : Int32 → Int64 → pm_H → Prop} : pm_wp pm_code pm_meta d 178 58 ([.ref 79, .ref 97, .int x2, .int x3, .int x4], [], (pm_Gb L b, I, J)) Q ↔ Q 0 0 (pm_Gb L b, I, J) := (pm_bk_iff pc_ch_178 1 58 _).trans (pm_tt)
theorem pb_178v17_9 {d L : Nat} {b : Bool} {I : Nat → Nat → Int32} {J : Nat → Nat → Int64} {x2 x3 x4 : Int32} {Q : Int32 → Int64 → pm_H → Prop} : pm_wp pm_code pm_meta d 178 9 ([.ref 79, .ref 97, .int x2, .int x3, .int x4], [], (pm_Gb L b, I, J)) Q ↔ if x3 = 0 then pm_wp pm_code pm_meta d 178 29 ([.ref 79, .ref 97, .int x2, .int x3, .int x4], [], (pm_Gb L b, I, J)) Q else pm_wp pm_code pm_meta d 178 13 ([.ref 79, .ref 97, .int x2, .int x3, .int x4], [], (pm_Gb L b, I, J)) Q := (pm_bk_iff pc_ch_178 2 9 _).trans (pm_brd)
theorem pb_178v17_29 {d L : Nat} {b : Bool} {I : Nat → Nat → Int32} {J : Nat → Nat → Int64} {x2 x3 x4 : Int32} {Q : Int32 → Int64 → pm_H → Prop} : pm_wp pm_code pm_meta d 178 29 ([.ref 79, .ref 97, .int x2, .int x3, .int x4], [], (pm_Gb L b, I, J)) Q ↔ pm_in (I 79 58) 4200 = true ∧ (pm_in x4 24 = true ∧ (pm_wp pm_code pm_meta d 178 42 ([.ref 79, .ref 97, .int x2, .int x3, .int x4], [], (pm_Gb L b, (pm_u I 97 x4.toNatClampNeg (I 136 (I 79 58).toNatClampNeg)), J)) Q)) := (pm_bk_iff pc_ch_178 8 29 _).trans (and_congr Iff.rfl (and_congr Iff.rfl (Iff.rfl)))
theorem pb_178v17_13 {d L : Nat} {b : Bool} {I : Nat → Nat → Int32} {J : Nat → Nat → Int64} {x2 x3 x4 : Int32} {Q : Int32 → Int64 → pm_H → Prop} : pm_wp pm_code pm_meta d 178 13 ([.ref 79, .ref 97, .int x2, .int x3, .int x4], [], (pm_Gb L b, I, J)) Q ↔ pm_in x4 24 = true ∧ (pm_in (I 79 58) 4200 = true ∧ (pm_wp pm_code pm_meta d 178 42 ([.ref 79, .ref 97, .int x2, .int x3, .int x4], [], (pm_Gb L b, (pm_u I 136 (I 79 58).toNatClampNeg (I 97 x4.toNatClampNeg)), J)) Q)) := (pm_bk_iff pc_ch_178 9 13 _).trans (and_congr Iff.rfl (and_congr Iff.rfl (Iff.rfl)))
theorem pb_178v17_42 {d L : Nat} {b : Bool} {I : Nat → Nat → Int32} {J : Nat → Nat → Int64} {x2 x3 x4 : Int32} {Q : Int32 → Int64 → pm_H → Prop} : pm_wp pm_code pm_meta d 178 42 ([.ref 79, .ref 97, .int x2, .int x3, .int x4], [], (pm_Gb L b, I, J)) Q ↔ pm_wp pm_code pm_meta d 178 3 ([.ref 79, .ref 97, .int x2, .int x3, .int (x4 + 1)], [], (pm_Gb L b, (pm_u I 79 58 ((I 79 58) + 1)), J)) Q := (pm_bk_iff pc_ch_178 8 42 _).trans (Iff.rfl)
theorem cop_k_97 {d L : Nat} {b : Bool} {I : Nat → Nat → Int32} {J : Nat → Nat → Int64} {Q : Int32 → Int64 → pm_H → Prop} {I1 : Nat → Nat → Int32} (hP : pr_kp 17 300 I I1) (hQ : ∀ I2, pr_kp 18 324 I I2 → Q 0 0 (pm_Gb L b, I2, J)) : pm_wc pm_code pm_meta d 178 [.ref 79, .ref 97, .int 24, .int 1] (pm_Gb L b, I1, J) Q := by
  rw [pb_178v17_0]
  refine cop_k (A := fun x I' => pm_wp pm_code pm_meta d 178 3 ([.ref 79, .ref 97, .int 24, .int 1, .int x], [], (pm_Gb L b, I', J)) Q) (E' := fun _ I' => Q 0 0 (pm_Gb L b, I', J)) (r := 97) (of := 300) (len := 24) (n := 17) (by decide) rfl rfl rfl (fun m I' hm h58 h => ?_) (fun I' h => ?_) hP hQ
  · have g := on_n (a := 300 + m) (by omega)
    have gm := on_n (a := m) (by omega)
    rw [pb_178v17_3, if_neg (by rw [show (24 : Int32) = Int32.ofNat 24 from rfl, on_le (by omega) (by omega)]; omega), pb_178v17_9, if_neg (by decide), pb_178v17_13, h58, g.2.1, gm.2.1]
    refine ⟨pi_in gm.1 (by rw [gm.2.2]; omega), pi_in g.1 (by rw [g.2.2]; omega), ?_⟩
    rw [pb_178v17_42, pm_u_row, if_neg (by decide), h58, on_s, on_s]
    exact h
  · show pm_wp _ _ _ _ _ _ _
    rw [pb_178v17_3, if_pos (by decide), pb_178v17_58]
    exact h
theorem cop_a_97 {d L : Nat} {b : Bool} {I : Nat → Nat → Int32} {J : Nat → Nat → Int64} {Q : Int32 → Int64 → pm_H → Prop} {I1 : Nat → Nat → Int32} (hP : pr_ap 17 300 I I1) (hQ : ∀ I2, pr_ap 18 324 I I2 → Q 0 0 (pm_Gb L b, I2, J)) : pm_wc pm_code pm_meta d 178 [.ref 79, .ref 97, .int 24, .int 0] (pm_Gb L b, I1, J) Q := by
  rw [pb_178v17_0]
  refine cop_a (A := fun x I' => pm_wp pm_code pm_meta d 178 3 ([.ref 79, .ref 97, .int 24, .int 0, .int x], [], (pm_Gb L b, I', J)) Q) (E' := fun _ I' => Q 0 0 (pm_Gb L b, I', J)) (r := 97) (of := 300) (len := 24) (n := 17) (by decide) rfl rfl rfl (fun m I' hm h58 h => ?_) (fun I' h => ?_) hP hQ
  · have g := on_n (a := 300 + m) (by omega)
    have gm := on_n (a := m) (by omega)
    rw [pb_178v17_3, if_neg (by rw [show (24 : Int32) = Int32.ofNat 24 from rfl, on_le (by omega) (by omega)]; omega), pb_178v17_9, if_pos rfl, pb_178v17_29, h58, g.2.1, gm.2.1]
    refine ⟨pi_in g.1 (by rw [g.2.2]; omega), pi_in gm.1 (by rw [gm.2.2]; omega), ?_⟩
    rw [pb_178v17_42, pm_u_row, if_neg (by decide), h58, on_s, on_s]
    exact h
  · show pm_wp _ _ _ _ _ _ _
    rw [pb_178v17_3, if_pos (by decide), pb_178v17_58]
    exact h
theorem pb_178v18_0 {d L : Nat} {b : Bool} {I : Nat → Nat → Int32} {J : Nat → Nat → Int64} {x2 x3 : Int32} {Q : Int32 → Int64 → pm_H → Prop} : pm_wc pm_code pm_meta d 178 [.ref 79, .ref 98, .int x2, .int x3] (pm_Gb L b, I, J) Q ↔ pm_wp pm_code pm_meta d 178 3 ([.ref 79, .ref 98, .int x2, .int x3, .int 0], [], (pm_Gb L b, I, J)) Q := (pm_bk_iff pc_ch_178 2 0 _).trans (Iff.rfl)
theorem pb_178v18_3 {d L : Nat} {b : Bool} {I : Nat → Nat → Int32} {J : Nat → Nat → Int64} {x2 x3 x4 : Int32} {Q : Int32 → Int64 → pm_H → Prop} : pm_wp pm_code pm_meta d 178 3 ([.ref 79, .ref 98, .int x2, .int x3, .int x4], [], (pm_Gb L b, I, J)) Q ↔ if x2 ≤ x4 then pm_wp pm_code pm_meta d 178 58 ([.ref 79, .ref 98, .int x2, .int x3, .int x4], [], (pm_Gb L b, I, J)) Q else pm_wp pm_code pm_meta d 178 9 ([.ref 79, .ref 98, .int x2, .int x3, .int x4], [], (pm_Gb L b, I, J)) Q := (pm_bk_iff pc_ch_178 3 3 _).trans (pm_brd)
theorem pb_178v18_58 {d L : Nat} {b : Bool} {I : Nat → Nat → Int32} {J : Nat → Nat → Int64} {x2 x3 x4 : Int32} {Q : Int32 → Int64 → pm_H → Prop} : pm_wp pm_code pm_meta d 178 58 ([.ref 79, .ref 98, .int x2, .int x3, .int x4], [], (pm_Gb L b, I, J)) Q ↔ Q 0 0 (pm_Gb L b, I, J) := (pm_bk_iff pc_ch_178 1 58 _).trans (pm_tt)
theorem pb_178v18_9 {d L : Nat} {b : Bool} {I : Nat → Nat → Int32} {J : Nat → Nat → Int64} {x2 x3 x4 : Int32} {Q : Int32 → Int64 → pm_H → Prop} : pm_wp pm_code pm_meta d 178 9 ([.ref 79, .ref 98, .int x2, .int x3, .int x4], [], (pm_Gb L b, I, J)) Q ↔ if x3 = 0 then pm_wp pm_code pm_meta d 178 29 ([.ref 79, .ref 98, .int x2, .int x3, .int x4], [], (pm_Gb L b, I, J)) Q else pm_wp pm_code pm_meta d 178 13 ([.ref 79, .ref 98, .int x2, .int x3, .int x4], [], (pm_Gb L b, I, J)) Q := (pm_bk_iff pc_ch_178 2 9 _).trans (pm_brd)
theorem pb_178v18_29 {d L : Nat} {b : Bool} {I : Nat → Nat → Int32} {J : Nat → Nat → Int64} {x2 x3 x4 : Int32} {Q : Int32 → Int64 → pm_H → Prop} : pm_wp pm_code pm_meta d 178 29 ([.ref 79, .ref 98, .int x2, .int x3, .int x4], [], (pm_Gb L b, I, J)) Q ↔ pm_in (I 79 58) 4200 = true ∧ (pm_in x4 24 = true ∧ (pm_wp pm_code pm_meta d 178 42 ([.ref 79, .ref 98, .int x2, .int x3, .int x4], [], (pm_Gb L b, (pm_u I 98 x4.toNatClampNeg (I 136 (I 79 58).toNatClampNeg)), J)) Q)) := (pm_bk_iff pc_ch_178 8 29 _).trans (and_congr Iff.rfl (and_congr Iff.rfl (Iff.rfl)))
theorem pb_178v18_13 {d L : Nat} {b : Bool} {I : Nat → Nat → Int32} {J : Nat → Nat → Int64} {x2 x3 x4 : Int32} {Q : Int32 → Int64 → pm_H → Prop} : pm_wp pm_code pm_meta d 178 13 ([.ref 79, .ref 98, .int x2, .int x3, .int x4], [], (pm_Gb L b, I, J)) Q ↔ pm_in x4 24 = true ∧ (pm_in (I 79 58) 4200 = true ∧ (pm_wp pm_code pm_meta d 178 42 ([.ref 79, .ref 98, .int x2, .int x3, .int x4], [], (pm_Gb L b, (pm_u I 136 (I 79 58).toNatClampNeg (I 98 x4.toNatClampNeg)), J)) Q)) := (pm_bk_iff pc_ch_178 9 13 _).trans (and_congr Iff.rfl (and_congr Iff.rfl (Iff.rfl)))
theorem pb_178v18_42 {d L : Nat} {b : Bool} {I : Nat → Nat → Int32} {J : Nat → Nat → Int64} {x2 x3 x4 : Int32} {Q : Int32 → Int64 → pm_H → Prop} : pm_wp pm_code pm_meta d 178 42 ([.ref 79, .ref 98, .int x2, .int x3, .int x4], [], (pm_Gb L b, I, J)) Q ↔ pm_wp pm_code pm_meta d 178 3 ([.ref 79, .ref 98, .int x2, .int x3, .int (x4 + 1)], [], (pm_Gb L b, (pm_u I 79 58 ((I 79 58) + 1)), J)) Q := (pm_bk_iff pc_ch_178 8 42 _).trans (Iff.rfl)
theorem cop_k_98 {d L : Nat} {b : Bool} {I : Nat → Nat → Int32} {J : Nat → Nat → Int64} {Q : Int32 → Int64 → pm_H → Prop} {I1 : Nat → Nat → Int32} (hP : pr_kp 18 324 I I1) (hQ : ∀ I2, pr_kp 19 348 I I2 → Q 0 0 (pm_Gb L b, I2, J)) : pm_wc pm_code pm_meta d 178 [.ref 79, .ref 98, .int 24, .int 1] (pm_Gb L b, I1, J) Q := by
  rw [pb_178v18_0]
  refine cop_k (A := fun x I' => pm_wp pm_code pm_meta d 178 3 ([.ref 79, .ref 98, .int 24, .int 1, .int x], [], (pm_Gb L b, I', J)) Q) (E' := fun _ I' => Q 0 0 (pm_Gb L b, I', J)) (r := 98) (of := 324) (len := 24) (n := 18) (by decide) rfl rfl rfl (fun m I' hm h58 h => ?_) (fun I' h => ?_) hP hQ
  · have g := on_n (a := 324 + m) (by omega)
    have gm := on_n (a := m) (by omega)
    rw [pb_178v18_3, if_neg (by rw [show (24 : Int32) = Int32.ofNat 24 from rfl, on_le (by omega) (by omega)]; omega), pb_178v18_9, if_neg (by decide), pb_178v18_13, h58, g.2.1, gm.2.1]
    refine ⟨pi_in gm.1 (by rw [gm.2.2]; omega), pi_in g.1 (by rw [g.2.2]; omega), ?_⟩
    rw [pb_178v18_42, pm_u_row, if_neg (by decide), h58, on_s, on_s]
    exact h
  · show pm_wp _ _ _ _ _ _ _
    rw [pb_178v18_3, if_pos (by decide), pb_178v18_58]
    exact h
theorem cop_a_98 {d L : Nat} {b : Bool} {I : Nat → Nat → Int32} {J : Nat → Nat → Int64} {Q : Int32 → Int64 → pm_H → Prop} {I1 : Nat → Nat → Int32} (hP : pr_ap 18 324 I I1) (hQ : ∀ I2, pr_ap 19 348 I I2 → Q 0 0 (pm_Gb L b, I2, J)) : pm_wc pm_code pm_meta d 178 [.ref 79, .ref 98, .int 24, .int 0] (pm_Gb L b, I1, J) Q := by
  rw [pb_178v18_0]
  refine cop_a (A := fun x I' => pm_wp pm_code pm_meta d 178 3 ([.ref 79, .ref 98, .int 24, .int 0, .int x], [], (pm_Gb L b, I', J)) Q) (E' := fun _ I' => Q 0 0 (pm_Gb L b, I', J)) (r := 98) (of := 324) (len := 24) (n := 18) (by decide) rfl rfl rfl (fun m I' hm h58 h => ?_) (fun I' h => ?_) hP hQ
  · have g := on_n (a := 324 + m) (by omega)
    have gm := on_n (a := m) (by omega)
    rw [pb_178v18_3, if_neg (by rw [show (24 : Int32) = Int32.ofNat 24 from rfl, on_le (by omega) (by omega)]; omega), pb_178v18_9, if_pos rfl, pb_178v18_29, h58, g.2.1, gm.2.1]
    refine ⟨pi_in g.1 (by rw [g.2.2]; omega), pi_in gm.1 (by rw [gm.2.2]; omega), ?_⟩
    rw [pb_178v18_42, pm_u_row, if_neg (by decide), h58, on_s, on_s]
    exact h
  · show pm_wp _ _ _ _ _ _ _
    rw [pb_178v18_3, if_pos (by decide), pb_178v18_58]
    exact h
theorem pb_178v19_0 {d L : Nat} {b : Bool} {I : Nat → Nat → Int32} {J : Nat → Nat → Int64} {x2 x3 : Int32} {Q : Int32 → Int64 → pm_H → Prop} : pm_wc pm_code pm_meta d 178 [.ref 79, .ref 99, .int x2, .int x3] (pm_Gb L b, I, J) Q ↔ pm_wp pm_code pm_meta d 178 3 ([.ref 79, .ref 99, .int x2, .int x3, .int 0], [], (pm_Gb L b, I, J)) Q := (pm_bk_iff pc_ch_178 2 0 _).trans (Iff.rfl)
theorem pb_178v19_3 {d L : Nat} {b : Bool} {I : Nat → Nat → Int32} {J : Nat → Nat → Int64} {x2 x3 x4 : Int32} {Q : Int32 → Int64 → pm_H → Prop} : pm_wp pm_code pm_meta d 178 3 ([.ref 79, .ref 99, .int x2, .int x3, .int x4], [], (pm_Gb L b, I, J)) Q ↔ if x2 ≤ x4 then pm_wp pm_code pm_meta d 178 58 ([.ref 79, .ref 99, .int x2, .int x3, .int x4], [], (pm_Gb L b, I, J)) Q else pm_wp pm_code pm_meta d 178 9 ([.ref 79, .ref 99, .int x2, .int x3, .int x4], [], (pm_Gb L b, I, J)) Q := (pm_bk_iff pc_ch_178 3 3 _).trans (pm_brd)
theorem pb_178v19_58 {d L : Nat} {b : Bool} {I : Nat → Nat → Int32} {J : Nat → Nat → Int64} {x2 x3 x4 : Int32} {Q : Int32 → Int64 → pm_H → Prop} : pm_wp pm_code pm_meta d 178 58 ([.ref 79, .ref 99, .int x2, .int x3, .int x4], [], (pm_Gb L b, I, J)) Q ↔ Q 0 0 (pm_Gb L b, I, J) := (pm_bk_iff pc_ch_178 1 58 _).trans (pm_tt)
theorem pb_178v19_9 {d L : Nat} {b : Bool} {I : Nat → Nat → Int32} {J : Nat → Nat → Int64} {x2 x3 x4 : Int32} {Q : Int32 → Int64 → pm_H → Prop} : pm_wp pm_code pm_meta d 178 9 ([.ref 79, .ref 99, .int x2, .int x3, .int x4], [], (pm_Gb L b, I, J)) Q ↔ if x3 = 0 then pm_wp pm_code pm_meta d 178 29 ([.ref 79, .ref 99, .int x2, .int x3, .int x4], [], (pm_Gb L b, I, J)) Q else pm_wp pm_code pm_meta d 178 13 ([.ref 79, .ref 99, .int x2, .int x3, .int x4], [], (pm_Gb L b, I, J)) Q := (pm_bk_iff pc_ch_178 2 9 _).trans (pm_brd)
theorem pb_178v19_29 {d L : Nat} {b : Bool} {I : Nat → Nat → Int32} {J : Nat → Nat → Int64} {x2 x3 x4 : Int32} {Q : Int32 → Int64 → pm_H → Prop} : pm_wp pm_code pm_meta d 178 29 ([.ref 79, .ref 99, .int x2, .int x3, .int x4], [], (pm_Gb L b, I, J)) Q ↔ pm_in (I 79 58) 4200 = true ∧ (pm_in x4 24 = true ∧ (pm_wp pm_code pm_meta d 178 42 ([.ref 79, .ref 99, .int x2, .int x3, .int x4], [], (pm_Gb L b, (pm_u I 99 x4.toNatClampNeg (I 136 (I 79 58).toNatClampNeg)), J)) Q)) := (pm_bk_iff pc_ch_178 8 29 _).trans (and_congr Iff.rfl (and_congr Iff.rfl (Iff.rfl)))
theorem pb_178v19_13 {d L : Nat} {b : Bool} {I : Nat → Nat → Int32} {J : Nat → Nat → Int64} {x2 x3 x4 : Int32} {Q : Int32 → Int64 → pm_H → Prop} : pm_wp pm_code pm_meta d 178 13 ([.ref 79, .ref 99, .int x2, .int x3, .int x4], [], (pm_Gb L b, I, J)) Q ↔ pm_in x4 24 = true ∧ (pm_in (I 79 58) 4200 = true ∧ (pm_wp pm_code pm_meta d 178 42 ([.ref 79, .ref 99, .int x2, .int x3, .int x4], [], (pm_Gb L b, (pm_u I 136 (I 79 58).toNatClampNeg (I 99 x4.toNatClampNeg)), J)) Q)) := (pm_bk_iff pc_ch_178 9 13 _).trans (and_congr Iff.rfl (and_congr Iff.rfl (Iff.rfl)))
theorem pb_178v19_42 {d L : Nat} {b : Bool} {I : Nat → Nat → Int32} {J : Nat → Nat → Int64} {x2 x3 x4 : Int32} {Q : Int32 → Int64 → pm_H → Prop} : pm_wp pm_code pm_meta d 178 42 ([.ref 79, .ref 99, .int x2, .int x3, .int x4], [], (pm_Gb L b, I, J)) Q ↔ pm_wp pm_code pm_meta d 178 3 ([.ref 79, .ref 99, .int x2, .int x3, .int (x4 + 1)], [], (pm_Gb L b, (pm_u I 79 58 ((I 79 58) + 1)), J)) Q := (pm_bk_iff pc_ch_178 8 42 _).trans (Iff.rfl)
theorem cop_k_99 {d L : Nat} {b : Bool} {I : Nat → Nat → Int32} {J : Nat → Nat → Int64} {Q : Int32 → Int64 → pm_H → Prop} {I1 : Nat → Nat → Int32} (hP : pr_kp 19 348 I I1) (hQ : ∀ I2, pr_kp 20 372 I I2 → Q 0 0 (pm_Gb L b, I2, J)) : pm_wc pm_code pm_meta d 178 [.ref 79, .ref 99, .int 24, .int 1] (pm_Gb L b, I1, J) Q := by
  rw [pb_178v19_0]
  refine cop_k (A := fun x I' => pm_wp pm_code pm_meta d 178 3 ([.ref 79, .ref 99, .int 24, .int 1, .int x], [], (pm_Gb L b, I', J)) Q) (E' := fun _ I' => Q 0 0 (pm_Gb L b, I', J)) (r := 99) (of := 348) (len := 24) (n := 19) (by decide) rfl rfl rfl (fun m I' hm h58 h => ?_) (fun I' h => ?_) hP hQ
  · have g := on_n (a := 348 + m) (by omega)
    have gm := on_n (a := m) (by omega)
    rw [pb_178v19_3, if_neg (by rw [show (24 : Int32) = Int32.ofNat 24 from rfl, on_le (by omega) (by omega)]; omega), pb_178v19_9, if_neg (by decide), pb_178v19_13, h58, g.2.1, gm.2.1]
    refine ⟨pi_in gm.1 (by rw [gm.2.2]; omega), pi_in g.1 (by rw [g.2.2]; omega), ?_⟩
    rw [pb_178v19_42, pm_u_row, if_neg (by decide), h58, on_s, on_s]
    exact h
  · show pm_wp _ _ _ _ _ _ _
    rw [pb_178v19_3, if_pos (by decide), pb_178v19_58]
    exact h
theorem cop_a_99 {d L : Nat} {b : Bool} {I : Nat → Nat → Int32} {J : Nat → Nat → Int64} {Q : Int32 → Int64 → pm_H → Prop} {I1 : Nat → Nat → Int32} (hP : pr_ap 19 348 I I1) (hQ : ∀ I2, pr_ap 20 372 I I2 → Q 0 0 (pm_Gb L b, I2, J)) : pm_wc pm_code pm_meta d 178 [.ref 79, .ref 99, .int 24, .int 0] (pm_Gb L b, I1, J) Q := by
  rw [pb_178v19_0]
  refine cop_a (A := fun x I' => pm_wp pm_code pm_meta d 178 3 ([.ref 79, .ref 99, .int 24, .int 0, .int x], [], (pm_Gb L b, I', J)) Q) (E' := fun _ I' => Q 0 0 (pm_Gb L b, I', J)) (r := 99) (of := 348) (len := 24) (n := 19) (by decide) rfl rfl rfl (fun m I' hm h58 h => ?_) (fun I' h => ?_) hP hQ
  · have g := on_n (a := 348 + m) (by omega)
    have gm := on_n (a := m) (by omega)
    rw [pb_178v19_3, if_neg (by rw [show (24 : Int32) = Int32.ofNat 24 from rfl, on_le (by omega) (by omega)]; omega), pb_178v19_9, if_pos rfl, pb_178v19_29, h58, g.2.1, gm.2.1]
    refine ⟨pi_in g.1 (by rw [g.2.2]; omega), pi_in gm.1 (by rw [gm.2.2]; omega), ?_⟩
    rw [pb_178v19_42, pm_u_row, if_neg (by decide), h58, on_s, on_s]
    exact h
  · show pm_wp _ _ _ _ _ _ _
    rw [pb_178v19_3, if_pos (by decide), pb_178v19_58]
    exact h
theorem pb_178v20_0 {d L : Nat} {b : Bool} {I : Nat → Nat → Int32} {J : Nat → Nat → Int64} {x2 x3 : Int32} {Q : Int32 → Int64 → pm_H → Prop} : pm_wc pm_code pm_meta d 178 [.ref 79, .ref 100, .int x2, .int x3] (pm_Gb L b, I, J) Q ↔ pm_wp pm_code pm_meta d 178 3 ([.ref 79, .ref 100, .int x2, .int x3, .int 0], [], (pm_Gb L b, I, J)) Q := (pm_bk_iff pc_ch_178 2 0 _).trans (Iff.rfl)
theorem pb_178v20_3 {d L : Nat} {b : Bool} {I : Nat → Nat → Int32} {J : Nat → Nat → Int64} {x2 x3 x4 : Int32} {Q : Int32 → Int64 → pm_H → Prop} : pm_wp pm_code pm_meta d 178 3 ([.ref 79, .ref 100, .int x2, .int x3, .int x4], [], (pm_Gb L b, I, J)) Q ↔ if x2 ≤ x4 then pm_wp pm_code pm_meta d 178 58 ([.ref 79, .ref 100, .int x2, .int x3, .int x4], [], (pm_Gb L b, I, J)) Q else pm_wp pm_code pm_meta d 178 9 ([.ref 79, .ref 100, .int x2, .int x3, .int x4], [], (pm_Gb L b, I, J)) Q := (pm_bk_iff pc_ch_178 3 3 _).trans (pm_brd)
theorem pb_178v20_58 {d L : Nat} {b : Bool} {I : Nat → Nat → Int32} {J : Nat → Nat → Int64} {x2 x3 x4 : Int32} {Q : Int32 → Int64 → pm_H → Prop} : pm_wp pm_code pm_meta d 178 58 ([.ref 79, .ref 100, .int x2, .int x3, .int x4], [], (pm_Gb L b, I, J)) Q ↔ Q 0 0 (pm_Gb L b, I, J) := (pm_bk_iff pc_ch_178 1 58 _).trans (pm_tt)
theorem pb_178v20_9 {d L : Nat} {b : Bool} {I : Nat → Nat → Int32} {J : Nat → Nat → Int64} {x2 x3 x4 : Int32} {Q : Int32 → Int64 → pm_H → Prop} : pm_wp pm_code pm_meta d 178 9 ([.ref 79, .ref 100, .int x2, .int x3, .int x4], [], (pm_Gb L b, I, J)) Q ↔ if x3 = 0 then pm_wp pm_code pm_meta d 178 29 ([.ref 79, .ref 100, .int x2, .int x3, .int x4], [], (pm_Gb L b, I, J)) Q else pm_wp pm_code pm_meta d 178 13 ([.ref 79, .ref 100, .int x2, .int x3, .int x4], [], (pm_Gb L b, I, J)) Q := (pm_bk_iff pc_ch_178 2 9 _).trans (pm_brd)
theorem pb_178v20_29 {d L : Nat} {b : Bool} {I : Nat → Nat → Int32} {J : Nat → Nat → Int64} {x2 x3 x4 : Int32} {Q : Int32 → Int64 → pm_H → Prop} : pm_wp pm_code pm_meta d 178 29 ([.ref 79, .ref 100, .int x2, .int x3, .int x4], [], (pm_Gb L b, I, J)) Q ↔ pm_in (I 79 58) 4200 = true ∧ (pm_in x4 24 = true ∧ (pm_wp pm_code pm_meta d 178 42 ([.ref 79, .ref 100, .int x2, .int x3, .int x4], [], (pm_Gb L b, (pm_u I 100 x4.toNatClampNeg (I 136 (I 79 58).toNatClampNeg)), J)) Q)) := (pm_bk_iff pc_ch_178 8 29 _).trans (and_congr Iff.rfl (and_congr Iff.rfl (Iff.rfl)))
theorem pb_178v20_13 {d L : Nat} {b : Bool} {I : Nat → Nat → Int32} {J : Nat → Nat → Int64} {x2 x3 x4 : Int32} {Q : Int32 → Int64 → pm_H → Prop} : pm_wp pm_code pm_meta d 178 13 ([.ref 79, .ref 100, .int x2, .int x3, .int x4], [], (pm_Gb L b, I, J)) Q ↔ pm_in x4 24 = true ∧ (pm_in (I 79 58) 4200 = true ∧ (pm_wp pm_code pm_meta d 178 42 ([.ref 79, .ref 100, .int x2, .int x3, .int x4], [], (pm_Gb L b, (pm_u I 136 (I 79 58).toNatClampNeg (I 100 x4.toNatClampNeg)), J)) Q)) := (pm_bk_iff pc_ch_178 9 13 _).trans (and_congr Iff.rfl (and_congr Iff.rfl (Iff.rfl)))
theorem pb_178v20_42 {d L : Nat} {b : Bool} {I : Nat → Nat → Int32} {J : Nat → Nat → Int64} {x2 x3 x4 : Int32} {Q : Int32 → Int64 → pm_H → Prop} : pm_wp pm_code pm_meta d 178 42 ([.ref 79, .ref 100, .int x2, .int x3, .int x4], [], (pm_Gb L b, I, J)) Q ↔ pm_wp pm_code pm_meta d 178 3 ([.ref 79, .ref 100, .int x2, .int x3, .int (x4 + 1)], [], (pm_Gb L b, (pm_u I 79 58 ((I 79 58) + 1)), J)) Q := (pm_bk_iff pc_ch_178 8 42 _).trans (Iff.rfl)
theorem cop_k_100 {d L : Nat} {b : Bool} {I : Nat → Nat → Int32} {J : Nat → Nat → Int64} {Q : Int32 → Int64 → pm_H → Prop} {I1 : Nat → Nat → Int32} (hP : pr_kp 20 372 I I1) (hQ : ∀ I2, pr_kp 21 396 I I2 → Q 0 0 (pm_Gb L b, I2, J)) : pm_wc pm_code pm_meta d 178 [.ref 79, .ref 100, .int 24, .int 1] (pm_Gb L b, I1, J) Q := by
  rw [pb_178v20_0]
  refine cop_k (A := fun x I' => pm_wp pm_code pm_meta d 178 3 ([.ref 79, .ref 100, .int 24, .int 1, .int x], [], (pm_Gb L b, I', J)) Q) (E' := fun _ I' => Q 0 0 (pm_Gb L b, I', J)) (r := 100) (of := 372) (len := 24) (n := 20) (by decide) rfl rfl rfl (fun m I' hm h58 h => ?_) (fun I' h => ?_) hP hQ
  · have g := on_n (a := 372 + m) (by omega)
    have gm := on_n (a := m) (by omega)
    rw [pb_178v20_3, if_neg (by rw [show (24 : Int32) = Int32.ofNat 24 from rfl, on_le (by omega) (by omega)]; omega), pb_178v20_9, if_neg (by decide), pb_178v20_13, h58, g.2.1, gm.2.1]
    refine ⟨pi_in gm.1 (by rw [gm.2.2]; omega), pi_in g.1 (by rw [g.2.2]; omega), ?_⟩
    rw [pb_178v20_42, pm_u_row, if_neg (by decide), h58, on_s, on_s]
    exact h
  · show pm_wp _ _ _ _ _ _ _
    rw [pb_178v20_3, if_pos (by decide), pb_178v20_58]
    exact h
theorem cop_a_100 {d L : Nat} {b : Bool} {I : Nat → Nat → Int32} {J : Nat → Nat → Int64} {Q : Int32 → Int64 → pm_H → Prop} {I1 : Nat → Nat → Int32} (hP : pr_ap 20 372 I I1) (hQ : ∀ I2, pr_ap 21 396 I I2 → Q 0 0 (pm_Gb L b, I2, J)) : pm_wc pm_code pm_meta d 178 [.ref 79, .ref 100, .int 24, .int 0] (pm_Gb L b, I1, J) Q := by
  rw [pb_178v20_0]
  refine cop_a (A := fun x I' => pm_wp pm_code pm_meta d 178 3 ([.ref 79, .ref 100, .int 24, .int 0, .int x], [], (pm_Gb L b, I', J)) Q) (E' := fun _ I' => Q 0 0 (pm_Gb L b, I', J)) (r := 100) (of := 372) (len := 24) (n := 20) (by decide) rfl rfl rfl (fun m I' hm h58 h => ?_) (fun I' h => ?_) hP hQ
  · have g := on_n (a := 372 + m) (by omega)
    have gm := on_n (a := m) (by omega)
    rw [pb_178v20_3, if_neg (by rw [show (24 : Int32) = Int32.ofNat 24 from rfl, on_le (by omega) (by omega)]; omega), pb_178v20_9, if_pos rfl, pb_178v20_29, h58, g.2.1, gm.2.1]
    refine ⟨pi_in g.1 (by rw [g.2.2]; omega), pi_in gm.1 (by rw [gm.2.2]; omega), ?_⟩
    rw [pb_178v20_42, pm_u_row, if_neg (by decide), h58, on_s, on_s]
    exact h
  · show pm_wp _ _ _ _ _ _ _
    rw [pb_178v20_3, if_pos (by decide), pb_178v20_58]
    exact h
theorem pb_178v21_0 {d L : Nat} {b : Bool} {I : Nat → Nat → Int32} {J : Nat → Nat → Int64} {x2 x3 : Int32} {Q : Int32 → Int64 → pm_H → Prop} : pm_wc pm_code pm_meta d 178 [.ref 79, .ref 101, .int x2, .int x3] (pm_Gb L b, I, J) Q ↔ pm_wp pm_code pm_meta d 178 3 ([.ref 79, .ref 101, .int x2, .int x3, .int 0], [], (pm_Gb L b, I, J)) Q := (pm_bk_iff pc_ch_178 2 0 _).trans (Iff.rfl)
theorem pb_178v21_3 {d L : Nat} {b : Bool} {I : Nat → Nat → Int32} {J : Nat → Nat → Int64} {x2 x3 x4 : Int32} {Q : Int32 → Int64 → pm_H → Prop} : pm_wp pm_code pm_meta d 178 3 ([.ref 79, .ref 101, .int x2, .int x3, .int x4], [], (pm_Gb L b, I, J)) Q ↔ if x2 ≤ x4 then pm_wp pm_code pm_meta d 178 58 ([.ref 79, .ref 101, .int x2, .int x3, .int x4], [], (pm_Gb L b, I, J)) Q else pm_wp pm_code pm_meta d 178 9 ([.ref 79, .ref 101, .int x2, .int x3, .int x4], [], (pm_Gb L b, I, J)) Q := (pm_bk_iff pc_ch_178 3 3 _).trans (pm_brd)
theorem pb_178v21_58 {d L : Nat} {b : Bool} {I : Nat → Nat → Int32} {J : Nat → Nat → Int64} {x2 x3 x4 : Int32} {Q : Int32 → Int64 → pm_H → Prop} : pm_wp pm_code pm_meta d 178 58 ([.ref 79, .ref 101, .int x2, .int x3, .int x4], [], (pm_Gb L b, I, J)) Q ↔ Q 0 0 (pm_Gb L b, I, J) := (pm_bk_iff pc_ch_178 1 58 _).trans (pm_tt)
theorem pb_178v21_9 {d L : Nat} {b : Bool} {I : Nat → Nat → Int32} {J : Nat → Nat → Int64} {x2 x3 x4 : Int32} {Q : Int32 → Int64 → pm_H → Prop} : pm_wp pm_code pm_meta d 178 9 ([.ref 79, .ref 101, .int x2, .int x3, .int x4], [], (pm_Gb L b, I, J)) Q ↔ if x3 = 0 then pm_wp pm_code pm_meta d 178 29 ([.ref 79, .ref 101, .int x2, .int x3, .int x4], [], (pm_Gb L b, I, J)) Q else pm_wp pm_code pm_meta d 178 13 ([.ref 79, .ref 101, .int x2, .int x3, .int x4], [], (pm_Gb L b, I, J)) Q := (pm_bk_iff pc_ch_178 2 9 _).trans (pm_brd)
theorem pb_178v21_29 {d L : Nat} {b : Bool} {I : Nat → Nat → Int32} {J : Nat → Nat → Int64} {x2 x3 x4 : Int32} {Q : Int32 → Int64 → pm_H → Prop} : pm_wp pm_code pm_meta d 178 29 ([.ref 79, .ref 101, .int x2, .int x3, .int x4], [], (pm_Gb L b, I, J)) Q ↔ pm_in (I 79 58) 4200 = true ∧ (pm_in x4 24 = true ∧ (pm_wp pm_code pm_meta d 178 42 ([.ref 79, .ref 101, .int x2, .int x3, .int x4], [], (pm_Gb L b, (pm_u I 101 x4.toNatClampNeg (I 136 (I 79 58).toNatClampNeg)), J)) Q)) := (pm_bk_iff pc_ch_178 8 29 _).trans (and_congr Iff.rfl (and_congr Iff.rfl (Iff.rfl)))
theorem pb_178v21_13 {d L : Nat} {b : Bool} {I : Nat → Nat → Int32} {J : Nat → Nat → Int64} {x2 x3 x4 : Int32} {Q : Int32 → Int64 → pm_H → Prop} : pm_wp pm_code pm_meta d 178 13 ([.ref 79, .ref 101, .int x2, .int x3, .int x4], [], (pm_Gb L b, I, J)) Q ↔ pm_in x4 24 = true ∧ (pm_in (I 79 58) 4200 = true ∧ (pm_wp pm_code pm_meta d 178 42 ([.ref 79, .ref 101, .int x2, .int x3, .int x4], [], (pm_Gb L b, (pm_u I 136 (I 79 58).toNatClampNeg (I 101 x4.toNatClampNeg)), J)) Q)) := (pm_bk_iff pc_ch_178 9 13 _).trans (and_congr Iff.rfl (and_congr Iff.rfl (Iff.rfl)))
theorem pb_178v21_42 {d L : Nat} {b : Bool} {I : Nat → Nat → Int32} {J : Nat → Nat → Int64} {x2 x3 x4 : Int32} {Q : Int32 → Int64 → pm_H → Prop} : pm_wp pm_code pm_meta d 178 42 ([.ref 79, .ref 101, .int x2, .int x3, .int x4], [], (pm_Gb L b, I, J)) Q ↔ pm_wp pm_code pm_meta d 178 3 ([.ref 79, .ref 101, .int x2, .int x3, .int (x4 + 1)], [], (pm_Gb L b, (pm_u I 79 58 ((I 79 58) + 1)), J)) Q := (pm_bk_iff pc_ch_178 8 42 _).trans (Iff.rfl)
theorem cop_k_101 {d L : Nat} {b : Bool} {I : Nat → Nat → Int32} {J : Nat → Nat → Int64} {Q : Int32 → Int64 → pm_H → Prop} {I1 : Nat → Nat → Int32} (hP : pr_kp 21 396 I I1) (hQ : ∀ I2, pr_kp 22 420 I I2 → Q 0 0 (pm_Gb L b, I2, J)) : pm_wc pm_code pm_meta d 178 [.ref 79, .ref 101, .int 24, .int 1] (pm_Gb L b, I1, J) Q := by
  rw [pb_178v21_0]
  refine cop_k (A := fun x I' => pm_wp pm_code pm_meta d 178 3 ([.ref 79, .ref 101, .int 24, .int 1, .int x], [], (pm_Gb L b, I', J)) Q) (E' := fun _ I' => Q 0 0 (pm_Gb L b, I', J)) (r := 101) (of := 396) (len := 24) (n := 21) (by decide) rfl rfl rfl (fun m I' hm h58 h => ?_) (fun I' h => ?_) hP hQ
  · have g := on_n (a := 396 + m) (by omega)
    have gm := on_n (a := m) (by omega)
    rw [pb_178v21_3, if_neg (by rw [show (24 : Int32) = Int32.ofNat 24 from rfl, on_le (by omega) (by omega)]; omega), pb_178v21_9, if_neg (by decide), pb_178v21_13, h58, g.2.1, gm.2.1]
    refine ⟨pi_in gm.1 (by rw [gm.2.2]; omega), pi_in g.1 (by rw [g.2.2]; omega), ?_⟩
    rw [pb_178v21_42, pm_u_row, if_neg (by decide), h58, on_s, on_s]
    exact h
  · show pm_wp _ _ _ _ _ _ _
    rw [pb_178v21_3, if_pos (by decide), pb_178v21_58]
    exact h
theorem cop_a_101 {d L : Nat} {b : Bool} {I : Nat → Nat → Int32} {J : Nat → Nat → Int64} {Q : Int32 → Int64 → pm_H → Prop} {I1 : Nat → Nat → Int32} (hP : pr_ap 21 396 I I1) (hQ : ∀ I2, pr_ap 22 420 I I2 → Q 0 0 (pm_Gb L b, I2, J)) : pm_wc pm_code pm_meta d 178 [.ref 79, .ref 101, .int 24, .int 0] (pm_Gb L b, I1, J) Q := by
  rw [pb_178v21_0]
  refine cop_a (A := fun x I' => pm_wp pm_code pm_meta d 178 3 ([.ref 79, .ref 101, .int 24, .int 0, .int x], [], (pm_Gb L b, I', J)) Q) (E' := fun _ I' => Q 0 0 (pm_Gb L b, I', J)) (r := 101) (of := 396) (len := 24) (n := 21) (by decide) rfl rfl rfl (fun m I' hm h58 h => ?_) (fun I' h => ?_) hP hQ
  · have g := on_n (a := 396 + m) (by omega)
    have gm := on_n (a := m) (by omega)
    rw [pb_178v21_3, if_neg (by rw [show (24 : Int32) = Int32.ofNat 24 from rfl, on_le (by omega) (by omega)]; omega), pb_178v21_9, if_pos rfl, pb_178v21_29, h58, g.2.1, gm.2.1]
    refine ⟨pi_in g.1 (by rw [g.2.2]; omega), pi_in gm.1 (by rw [gm.2.2]; omega), ?_⟩
    rw [pb_178v21_42, pm_u_row, if_neg (by decide), h58, on_s, on_s]
    exact h
  · show pm_wp _ _ _ _ _ _ _
    rw [pb_178v21_3, if_pos (by decide), pb_178v21_58]
    exact h
theorem pb_178v22_0 {d L : Nat} {b : Bool} {I : Nat → Nat → Int32} {J : Nat → Nat → Int64} {x2 x3 : Int32} {Q : Int32 → Int64 → pm_H → Prop} : pm_wc pm_code pm_meta d 178 [.ref 79, .ref 102, .int x2, .int x3] (pm_Gb L b, I, J) Q ↔ pm_wp pm_code pm_meta d 178 3 ([.ref 79, .ref 102, .int x2, .int x3, .int 0], [], (pm_Gb L b, I, J)) Q := (pm_bk_iff pc_ch_178 2 0 _).trans (Iff.rfl)
theorem pb_178v22_3 {d L : Nat} {b : Bool} {I : Nat → Nat → Int32} {J : Nat → Nat → Int64} {x2 x3 x4 : Int32} {Q : Int32 → Int64 → pm_H → Prop} : pm_wp pm_code pm_meta d 178 3 ([.ref 79, .ref 102, .int x2, .int x3, .int x4], [], (pm_Gb L b, I, J)) Q ↔ if x2 ≤ x4 then pm_wp pm_code pm_meta d 178 58 ([.ref 79, .ref 102, .int x2, .int x3, .int x4], [], (pm_Gb L b, I, J)) Q else pm_wp pm_code pm_meta d 178 9 ([.ref 79, .ref 102, .int x2, .int x3, .int x4], [], (pm_Gb L b, I, J)) Q := (pm_bk_iff pc_ch_178 3 3 _).trans (pm_brd)
theorem pb_178v22_58 {d L : Nat} {b : Bool} {I : Nat → Nat → Int32} {J : Nat → Nat → Int64} {x2 x3 x4 : Int32} {Q : Int32 → Int64 → pm_H → Prop} : pm_wp pm_code pm_meta d 178 58 ([.ref 79, .ref 102, .int x2, .int x3, .int x4], [], (pm_Gb L b, I, J)) Q ↔ Q 0 0 (pm_Gb L b, I, J) := (pm_bk_iff pc_ch_178 1 58 _).trans (pm_tt)
theorem pb_178v22_9 {d L : Nat} {b : Bool} {I : Nat → Nat → Int32} {J : Nat → Nat → Int64} {x2 x3 x4 : Int32} {Q : Int32 → Int64 → pm_H → Prop} : pm_wp pm_code pm_meta d 178 9 ([.ref 79, .ref 102, .int x2, .int x3, .int x4], [], (pm_Gb L b, I, J)) Q ↔ if x3 = 0 then pm_wp pm_code pm_meta d 178 29 ([.ref 79, .ref 102, .int x2, .int x3, .int x4], [], (pm_Gb L b, I, J)) Q else pm_wp pm_code pm_meta d 178 13 ([.ref 79, .ref 102, .int x2, .int x3, .int x4], [], (pm_Gb L b, I, J)) Q := (pm_bk_iff pc_ch_178 2 9 _).trans (pm_brd)
theorem pb_178v22_29 {d L : Nat} {b : Bool} {I : Nat → Nat → Int32} {J : Nat → Nat → Int64} {x2 x3 x4 : Int32} {Q : Int32 → Int64 → pm_H → Prop} : pm_wp pm_code pm_meta d 178 29 ([.ref 79, .ref 102, .int x2, .int x3, .int x4], [], (pm_Gb L b, I, J)) Q ↔ pm_in (I 79 58) 4200 = true ∧ (pm_in x4 24 = true ∧ (pm_wp pm_code pm_meta d 178 42 ([.ref 79, .ref 102, .int x2, .int x3, .int x4], [], (pm_Gb L b, (pm_u I 102 x4.toNatClampNeg (I 136 (I 79 58).toNatClampNeg)), J)) Q)) := (pm_bk_iff pc_ch_178 8 29 _).trans (and_congr Iff.rfl (and_congr Iff.rfl (Iff.rfl)))
theorem pb_178v22_13 {d L : Nat} {b : Bool} {I : Nat → Nat → Int32} {J : Nat → Nat → Int64} {x2 x3 x4 : Int32} {Q : Int32 → Int64 → pm_H → Prop} : pm_wp pm_code pm_meta d 178 13 ([.ref 79, .ref 102, .int x2, .int x3, .int x4], [], (pm_Gb L b, I, J)) Q ↔ pm_in x4 24 = true ∧ (pm_in (I 79 58) 4200 = true ∧ (pm_wp pm_code pm_meta d 178 42 ([.ref 79, .ref 102, .int x2, .int x3, .int x4], [], (pm_Gb L b, (pm_u I 136 (I 79 58).toNatClampNeg (I 102 x4.toNatClampNeg)), J)) Q)) := (pm_bk_iff pc_ch_178 9 13 _).trans (and_congr Iff.rfl (and_congr Iff.rfl (Iff.rfl)))
theorem pb_178v22_42 {d L : Nat} {b : Bool} {I : Nat → Nat → Int32} {J : Nat → Nat → Int64} {x2 x3 x4 : Int32} {Q : Int32 → Int64 → pm_H → Prop} : pm_wp pm_code pm_meta d 178 42 ([.ref 79, .ref 102, .int x2, .int x3, .int x4], [], (pm_Gb L b, I, J)) Q ↔ pm_wp pm_code pm_meta d 178 3 ([.ref 79, .ref 102, .int x2, .int x3, .int (x4 + 1)], [], (pm_Gb L b, (pm_u I 79 58 ((I 79 58) + 1)), J)) Q := (pm_bk_iff pc_ch_178 8 42 _).trans (Iff.rfl)
theorem cop_k_102 {d L : Nat} {b : Bool} {I : Nat → Nat → Int32} {J : Nat → Nat → Int64} {Q : Int32 → Int64 → pm_H → Prop} {I1 : Nat → Nat → Int32} (hP : pr_kp 22 420 I I1) (hQ : ∀ I2, pr_kp 23 444 I I2 → Q 0 0 (pm_Gb L b, I2, J)) : pm_wc pm_code pm_meta d 178 [.ref 79, .ref 102, .int 24, .int 1] (pm_Gb L b, I1, J) Q := by
  rw [pb_178v22_0]
  refine cop_k (A := fun x I' => pm_wp pm_code pm_meta d 178 3 ([.ref 79, .ref 102, .int 24, .int 1, .int x], [], (pm_Gb L b, I', J)) Q) (E' := fun _ I' => Q 0 0 (pm_Gb L b, I', J)) (r := 102) (of := 420) (len := 24) (n := 22) (by decide) rfl rfl rfl (fun m I' hm h58 h => ?_) (fun I' h => ?_) hP hQ
  · have g := on_n (a := 420 + m) (by omega)
    have gm := on_n (a := m) (by omega)
    rw [pb_178v22_3, if_neg (by rw [show (24 : Int32) = Int32.ofNat 24 from rfl, on_le (by omega) (by omega)]; omega), pb_178v22_9, if_neg (by decide), pb_178v22_13, h58, g.2.1, gm.2.1]
    refine ⟨pi_in gm.1 (by rw [gm.2.2]; omega), pi_in g.1 (by rw [g.2.2]; omega), ?_⟩
    rw [pb_178v22_42, pm_u_row, if_neg (by decide), h58, on_s, on_s]
    exact h
  · show pm_wp _ _ _ _ _ _ _
    rw [pb_178v22_3, if_pos (by decide), pb_178v22_58]
    exact h
theorem cop_a_102 {d L : Nat} {b : Bool} {I : Nat → Nat → Int32} {J : Nat → Nat → Int64} {Q : Int32 → Int64 → pm_H → Prop} {I1 : Nat → Nat → Int32} (hP : pr_ap 22 420 I I1) (hQ : ∀ I2, pr_ap 23 444 I I2 → Q 0 0 (pm_Gb L b, I2, J)) : pm_wc pm_code pm_meta d 178 [.ref 79, .ref 102, .int 24, .int 0] (pm_Gb L b, I1, J) Q := by
  rw [pb_178v22_0]
  refine cop_a (A := fun x I' => pm_wp pm_code pm_meta d 178 3 ([.ref 79, .ref 102, .int 24, .int 0, .int x], [], (pm_Gb L b, I', J)) Q) (E' := fun _ I' => Q 0 0 (pm_Gb L b, I', J)) (r := 102) (of := 420) (len := 24) (n := 22) (by decide) rfl rfl rfl (fun m I' hm h58 h => ?_) (fun I' h => ?_) hP hQ
  · have g := on_n (a := 420 + m) (by omega)
    have gm := on_n (a := m) (by omega)
    rw [pb_178v22_3, if_neg (by rw [show (24 : Int32) = Int32.ofNat 24 from rfl, on_le (by omega) (by omega)]; omega), pb_178v22_9, if_pos rfl, pb_178v22_29, h58, g.2.1, gm.2.1]
    refine ⟨pi_in g.1 (by rw [g.2.2]; omega), pi_in gm.1 (by rw [gm.2.2]; omega), ?_⟩
    rw [pb_178v22_42, pm_u_row, if_neg (by decide), h58, on_s, on_s]
    exact h
  · show pm_wp _ _ _ _ _ _ _
    rw [pb_178v22_3, if_pos (by decide), pb_178v22_58]
    exact h
theorem pb_178v23_0 {d L : Nat} {b : Bool} {I : Nat → Nat → Int32} {J : Nat → Nat → Int64} {x2 x3 : Int32} {Q : Int32 → Int64 → pm_H → Prop} : pm_wc pm_code pm_meta d 178 [.ref 79, .ref 103, .int x2, .int x3] (pm_Gb L b, I, J) Q ↔ pm_wp pm_code pm_meta d 178 3 ([.ref 79, .ref 103, .int x2, .int x3, .int 0], [], (pm_Gb L b, I, J)) Q := (pm_bk_iff pc_ch_178 2 0 _).trans (Iff.rfl)
theorem pb_178v23_3 {d L : Nat} {b : Bool} {I : Nat → Nat → Int32} {J : Nat → Nat → Int64} {x2 x3 x4 : Int32} {Q : Int32 → Int64 → pm_H → Prop} : pm_wp pm_code pm_meta d 178 3 ([.ref 79, .ref 103, .int x2, .int x3, .int x4], [], (pm_Gb L b, I, J)) Q ↔ if x2 ≤ x4 then pm_wp pm_code pm_meta d 178 58 ([.ref 79, .ref 103, .int x2, .int x3, .int x4], [], (pm_Gb L b, I, J)) Q else pm_wp pm_code pm_meta d 178 9 ([.ref 79, .ref 103, .int x2, .int x3, .int x4], [], (pm_Gb L b, I, J)) Q := (pm_bk_iff pc_ch_178 3 3 _).trans (pm_brd)
theorem pb_178v23_58 {d L : Nat} {b : Bool} {I : Nat → Nat → Int32} {J : Nat → Nat → Int64} {x2 x3 x4 : Int32} {Q : Int32 → Int64 → pm_H → Prop} : pm_wp pm_code pm_meta d 178 58 ([.ref 79, .ref 103, .int x2, .int x3, .int x4], [], (pm_Gb L b, I, J)) Q ↔ Q 0 0 (pm_Gb L b, I, J) := (pm_bk_iff pc_ch_178 1 58 _).trans (pm_tt)
theorem pb_178v23_9 {d L : Nat} {b : Bool} {I : Nat → Nat → Int32} {J : Nat → Nat → Int64} {x2 x3 x4 : Int32} {Q : Int32 → Int64 → pm_H → Prop} : pm_wp pm_code pm_meta d 178 9 ([.ref 79, .ref 103, .int x2, .int x3, .int x4], [], (pm_Gb L b, I, J)) Q ↔ if x3 = 0 then pm_wp pm_code pm_meta d 178 29 ([.ref 79, .ref 103, .int x2, .int x3, .int x4], [], (pm_Gb L b, I, J)) Q else pm_wp pm_code pm_meta d 178 13 ([.ref 79, .ref 103, .int x2, .int x3, .int x4], [], (pm_Gb L b, I, J)) Q := (pm_bk_iff pc_ch_178 2 9 _).trans (pm_brd)
theorem pb_178v23_29 {d L : Nat} {b : Bool} {I : Nat → Nat → Int32} {J : Nat → Nat → Int64} {x2 x3 x4 : Int32} {Q : Int32 → Int64 → pm_H → Prop} : pm_wp pm_code pm_meta d 178 29 ([.ref 79, .ref 103, .int x2, .int x3, .int x4], [], (pm_Gb L b, I, J)) Q ↔ pm_in (I 79 58) 4200 = true ∧ (pm_in x4 24 = true ∧ (pm_wp pm_code pm_meta d 178 42 ([.ref 79, .ref 103, .int x2, .int x3, .int x4], [], (pm_Gb L b, (pm_u I 103 x4.toNatClampNeg (I 136 (I 79 58).toNatClampNeg)), J)) Q)) := (pm_bk_iff pc_ch_178 8 29 _).trans (and_congr Iff.rfl (and_congr Iff.rfl (Iff.rfl)))
theorem pb_178v23_13 {d L : Nat} {b : Bool} {I : Nat → Nat → Int32} {J : Nat → Nat → Int64} {x2 x3 x4 : Int32} {Q : Int32 → Int64 → pm_H → Prop} : pm_wp pm_code pm_meta d 178 13 ([.ref 79, .ref 103, .int x2, .int x3, .int x4], [], (pm_Gb L b, I, J)) Q ↔ pm_in x4 24 = true ∧ (pm_in (I 79 58) 4200 = true ∧ (pm_wp pm_code pm_meta d 178 42 ([.ref 79, .ref 103, .int x2, .int x3, .int x4], [], (pm_Gb L b, (pm_u I 136 (I 79 58).toNatClampNeg (I 103 x4.toNatClampNeg)), J)) Q)) := (pm_bk_iff pc_ch_178 9 13 _).trans (and_congr Iff.rfl (and_congr Iff.rfl (Iff.rfl)))
theorem pb_178v23_42 {d L : Nat} {b : Bool} {I : Nat → Nat → Int32} {J : Nat → Nat → Int64} {x2 x3 x4 : Int32} {Q : Int32 → Int64 → pm_H → Prop} : pm_wp pm_code pm_meta d 178 42 ([.ref 79, .ref 103, .int x2, .int x3, .int x4], [], (pm_Gb L b, I, J)) Q ↔ pm_wp pm_code pm_meta d 178 3 ([.ref 79, .ref 103, .int x2, .int x3, .int (x4 + 1)], [], (pm_Gb L b, (pm_u I 79 58 ((I 79 58) + 1)), J)) Q := (pm_bk_iff pc_ch_178 8 42 _).trans (Iff.rfl)
theorem cop_k_103 {d L : Nat} {b : Bool} {I : Nat → Nat → Int32} {J : Nat → Nat → Int64} {Q : Int32 → Int64 → pm_H → Prop} {I1 : Nat → Nat → Int32} (hP : pr_kp 23 444 I I1) (hQ : ∀ I2, pr_kp 24 468 I I2 → Q 0 0 (pm_Gb L b, I2, J)) : pm_wc pm_code pm_meta d 178 [.ref 79, .ref 103, .int 24, .int 1] (pm_Gb L b, I1, J) Q := by
  rw [pb_178v23_0]
  refine cop_k (A := fun x I' => pm_wp pm_code pm_meta d 178 3 ([.ref 79, .ref 103, .int 24, .int 1, .int x], [], (pm_Gb L b, I', J)) Q) (E' := fun _ I' => Q 0 0 (pm_Gb L b, I', J)) (r := 103) (of := 444) (len := 24) (n := 23) (by decide) rfl rfl rfl (fun m I' hm h58 h => ?_) (fun I' h => ?_) hP hQ
  · have g := on_n (a := 444 + m) (by omega)
    have gm := on_n (a := m) (by omega)
    rw [pb_178v23_3, if_neg (by rw [show (24 : Int32) = Int32.ofNat 24 from rfl, on_le (by omega) (by omega)]; omega), pb_178v23_9, if_neg (by decide), pb_178v23_13, h58, g.2.1, gm.2.1]
    refine ⟨pi_in gm.1 (by rw [gm.2.2]; omega), pi_in g.1 (by rw [g.2.2]; omega), ?_⟩
    rw [pb_178v23_42, pm_u_row, if_neg (by decide), h58, on_s, on_s]
    exact h
  · show pm_wp _ _ _ _ _ _ _
    rw [pb_178v23_3, if_pos (by decide), pb_178v23_58]
    exact h
theorem cop_a_103 {d L : Nat} {b : Bool} {I : Nat → Nat → Int32} {J : Nat → Nat → Int64} {Q : Int32 → Int64 → pm_H → Prop} {I1 : Nat → Nat → Int32} (hP : pr_ap 23 444 I I1) (hQ : ∀ I2, pr_ap 24 468 I I2 → Q 0 0 (pm_Gb L b, I2, J)) : pm_wc pm_code pm_meta d 178 [.ref 79, .ref 103, .int 24, .int 0] (pm_Gb L b, I1, J) Q := by
  rw [pb_178v23_0]
  refine cop_a (A := fun x I' => pm_wp pm_code pm_meta d 178 3 ([.ref 79, .ref 103, .int 24, .int 0, .int x], [], (pm_Gb L b, I', J)) Q) (E' := fun _ I' => Q 0 0 (pm_Gb L b, I', J)) (r := 103) (of := 444) (len := 24) (n := 23) (by decide) rfl rfl rfl (fun m I' hm h58 h => ?_) (fun I' h => ?_) hP hQ
  · have g := on_n (a := 444 + m) (by omega)
    have gm := on_n (a := m) (by omega)
    rw [pb_178v23_3, if_neg (by rw [show (24 : Int32) = Int32.ofNat 24 from rfl, on_le (by omega) (by omega)]; omega), pb_178v23_9, if_pos rfl, pb_178v23_29, h58, g.2.1, gm.2.1]
    refine ⟨pi_in g.1 (by rw [g.2.2]; omega), pi_in gm.1 (by rw [gm.2.2]; omega), ?_⟩
    rw [pb_178v23_42, pm_u_row, if_neg (by decide), h58, on_s, on_s]
    exact h
  · show pm_wp _ _ _ _ _ _ _
    rw [pb_178v23_3, if_pos (by decide), pb_178v23_58]
    exact h
theorem pb_178v24_0 {d L : Nat} {b : Bool} {I : Nat → Nat → Int32} {J : Nat → Nat → Int64} {x2 x3 : Int32} {Q : Int32 → Int64 → pm_H → Prop} : pm_wc pm_code pm_meta d 178 [.ref 79, .ref 104, .int x2, .int x3] (pm_Gb L b, I, J) Q ↔ pm_wp pm_code pm_meta d 178 3 ([.ref 79, .ref 104, .int x2, .int x3, .int 0], [], (pm_Gb L b, I, J)) Q := (pm_bk_iff pc_ch_178 2 0 _).trans (Iff.rfl)
theorem pb_178v24_3 {d L : Nat} {b : Bool} {I : Nat → Nat → Int32} {J : Nat → Nat → Int64} {x2 x3 x4 : Int32} {Q : Int32 → Int64 → pm_H → Prop} : pm_wp pm_code pm_meta d 178 3 ([.ref 79, .ref 104, .int x2, .int x3, .int x4], [], (pm_Gb L b, I, J)) Q ↔ if x2 ≤ x4 then pm_wp pm_code pm_meta d 178 58 ([.ref 79, .ref 104, .int x2, .int x3, .int x4], [], (pm_Gb L b, I, J)) Q else pm_wp pm_code pm_meta d 178 9 ([.ref 79, .ref 104, .int x2, .int x3, .int x4], [], (pm_Gb L b, I, J)) Q := (pm_bk_iff pc_ch_178 3 3 _).trans (pm_brd)
theorem pb_178v24_58 {d L : Nat} {b : Bool} {I : Nat → Nat → Int32} {J : Nat → Nat → Int64} {x2 x3 x4 : Int32} {Q : Int32 → Int64 → pm_H → Prop} : pm_wp pm_code pm_meta d 178 58 ([.ref 79, .ref 104, .int x2, .int x3, .int x4], [], (pm_Gb L b, I, J)) Q ↔ Q 0 0 (pm_Gb L b, I, J) := (pm_bk_iff pc_ch_178 1 58 _).trans (pm_tt)
theorem pb_178v24_9 {d L : Nat} {b : Bool} {I : Nat → Nat → Int32} {J : Nat → Nat → Int64} {x2 x3 x4 : Int32} {Q : Int32 → Int64 → pm_H → Prop} : pm_wp pm_code pm_meta d 178 9 ([.ref 79, .ref 104, .int x2, .int x3, .int x4], [], (pm_Gb L b, I, J)) Q ↔ if x3 = 0 then pm_wp pm_code pm_meta d 178 29 ([.ref 79, .ref 104, .int x2, .int x3, .int x4], [], (pm_Gb L b, I, J)) Q else pm_wp pm_code pm_meta d 178 13 ([.ref 79, .ref 104, .int x2, .int x3, .int x4], [], (pm_Gb L b, I, J)) Q := (pm_bk_iff pc_ch_178 2 9 _).trans (pm_brd)
theorem pb_178v24_29 {d L : Nat} {b : Bool} {I : Nat → Nat → Int32} {J : Nat → Nat → Int64} {x2 x3 x4 : Int32} {Q : Int32 → Int64 → pm_H → Prop} : pm_wp pm_code pm_meta d 178 29 ([.ref 79, .ref 104, .int x2, .int x3, .int x4], [], (pm_Gb L b, I, J)) Q ↔ pm_in (I 79 58) 4200 = true ∧ (pm_in x4 24 = true ∧ (pm_wp pm_code pm_meta d 178 42 ([.ref 79, .ref 104, .int x2, .int x3, .int x4], [], (pm_Gb L b, (pm_u I 104 x4.toNatClampNeg (I 136 (I 79 58).toNatClampNeg)), J)) Q)) := (pm_bk_iff pc_ch_178 8 29 _).trans (and_congr Iff.rfl (and_congr Iff.rfl (Iff.rfl)))
theorem pb_178v24_13 {d L : Nat} {b : Bool} {I : Nat → Nat → Int32} {J : Nat → Nat → Int64} {x2 x3 x4 : Int32} {Q : Int32 → Int64 → pm_H → Prop} : pm_wp pm_code pm_meta d 178 13 ([.ref 79, .ref 104, .int x2, .int x3, .int x4], [], (pm_Gb L b, I, J)) Q ↔ pm_in x4 24 = true ∧ (pm_in (I 79 58) 4200 = true ∧ (pm_wp pm_code pm_meta d 178 42 ([.ref 79, .ref 104, .int x2, .int x3, .int x4], [], (pm_Gb L b, (pm_u I 136 (I 79 58).toNatClampNeg (I 104 x4.toNatClampNeg)), J)) Q)) := (pm_bk_iff pc_ch_178 9 13 _).trans (and_congr Iff.rfl (and_congr Iff.rfl (Iff.rfl)))
theorem pb_178v24_42 {d L : Nat} {b : Bool} {I : Nat → Nat → Int32} {J : Nat → Nat → Int64} {x2 x3 x4 : Int32} {Q : Int32 → Int64 → pm_H → Prop} : pm_wp pm_code pm_meta d 178 42 ([.ref 79, .ref 104, .int x2, .int x3, .int x4], [], (pm_Gb L b, I, J)) Q ↔ pm_wp pm_code pm_meta d 178 3 ([.ref 79, .ref 104, .int x2, .int x3, .int (x4 + 1)], [], (pm_Gb L b, (pm_u I 79 58 ((I 79 58) + 1)), J)) Q := (pm_bk_iff pc_ch_178 8 42 _).trans (Iff.rfl)
theorem cop_k_104 {d L : Nat} {b : Bool} {I : Nat → Nat → Int32} {J : Nat → Nat → Int64} {Q : Int32 → Int64 → pm_H → Prop} {I1 : Nat → Nat → Int32} (hP : pr_kp 24 468 I I1) (hQ : ∀ I2, pr_kp 25 492 I I2 → Q 0 0 (pm_Gb L b, I2, J)) : pm_wc pm_code pm_meta d 178 [.ref 79, .ref 104, .int 24, .int 1] (pm_Gb L b, I1, J) Q := by
  rw [pb_178v24_0]
  refine cop_k (A := fun x I' => pm_wp pm_code pm_meta d 178 3 ([.ref 79, .ref 104, .int 24, .int 1, .int x], [], (pm_Gb L b, I', J)) Q) (E' := fun _ I' => Q 0 0 (pm_Gb L b, I', J)) (r := 104) (of := 468) (len := 24) (n := 24) (by decide) rfl rfl rfl (fun m I' hm h58 h => ?_) (fun I' h => ?_) hP hQ
  · have g := on_n (a := 468 + m) (by omega)
    have gm := on_n (a := m) (by omega)
    rw [pb_178v24_3, if_neg (by rw [show (24 : Int32) = Int32.ofNat 24 from rfl, on_le (by omega) (by omega)]; omega), pb_178v24_9, if_neg (by decide), pb_178v24_13, h58, g.2.1, gm.2.1]
    refine ⟨pi_in gm.1 (by rw [gm.2.2]; omega), pi_in g.1 (by rw [g.2.2]; omega), ?_⟩
    rw [pb_178v24_42, pm_u_row, if_neg (by decide), h58, on_s, on_s]
    exact h
  · show pm_wp _ _ _ _ _ _ _
    rw [pb_178v24_3, if_pos (by decide), pb_178v24_58]
    exact h
theorem cop_a_104 {d L : Nat} {b : Bool} {I : Nat → Nat → Int32} {J : Nat → Nat → Int64} {Q : Int32 → Int64 → pm_H → Prop} {I1 : Nat → Nat → Int32} (hP : pr_ap 24 468 I I1) (hQ : ∀ I2, pr_ap 25 492 I I2 → Q 0 0 (pm_Gb L b, I2, J)) : pm_wc pm_code pm_meta d 178 [.ref 79, .ref 104, .int 24, .int 0] (pm_Gb L b, I1, J) Q := by
  rw [pb_178v24_0]
  refine cop_a (A := fun x I' => pm_wp pm_code pm_meta d 178 3 ([.ref 79, .ref 104, .int 24, .int 0, .int x], [], (pm_Gb L b, I', J)) Q) (E' := fun _ I' => Q 0 0 (pm_Gb L b, I', J)) (r := 104) (of := 468) (len := 24) (n := 24) (by decide) rfl rfl rfl (fun m I' hm h58 h => ?_) (fun I' h => ?_) hP hQ
  · have g := on_n (a := 468 + m) (by omega)
    have gm := on_n (a := m) (by omega)
    rw [pb_178v24_3, if_neg (by rw [show (24 : Int32) = Int32.ofNat 24 from rfl, on_le (by omega) (by omega)]; omega), pb_178v24_9, if_pos rfl, pb_178v24_29, h58, g.2.1, gm.2.1]
    refine ⟨pi_in g.1 (by rw [g.2.2]; omega), pi_in gm.1 (by rw [gm.2.2]; omega), ?_⟩
    rw [pb_178v24_42, pm_u_row, if_neg (by decide), h58, on_s, on_s]
    exact h
  · show pm_wp _ _ _ _ _ _ _
    rw [pb_178v24_3, if_pos (by decide), pb_178v24_58]
    exact h
theorem pb_178v25_0 {d L : Nat} {b : Bool} {I : Nat → Nat → Int32} {J : Nat → Nat → Int64} {x2 x3 : Int32} {Q : Int32 → Int64 → pm_H → Prop} : pm_wc pm_code pm_meta d 178 [.ref 79, .ref 105, .int x2, .int x3] (pm_Gb L b, I, J) Q ↔ pm_wp pm_code pm_meta d 178 3 ([.ref 79, .ref 105, .int x2, .int x3, .int 0], [], (pm_Gb L b, I, J)) Q := (pm_bk_iff pc_ch_178 2 0 _).trans (Iff.rfl)
theorem pb_178v25_3 {d L : Nat} {b : Bool} {I : Nat → Nat → Int32} {J : Nat → Nat → Int64} {x2 x3 x4 : Int32} {Q : Int32 → Int64 → pm_H → Prop} : pm_wp pm_code pm_meta d 178 3 ([.ref 79, .ref 105, .int x2, .int x3, .int x4], [], (pm_Gb L b, I, J)) Q ↔ if x2 ≤ x4 then pm_wp pm_code pm_meta d 178 58 ([.ref 79, .ref 105, .int x2, .int x3, .int x4], [], (pm_Gb L b, I, J)) Q else pm_wp pm_code pm_meta d 178 9 ([.ref 79, .ref 105, .int x2, .int x3, .int x4], [], (pm_Gb L b, I, J)) Q := (pm_bk_iff pc_ch_178 3 3 _).trans (pm_brd)
theorem pb_178v25_58 {d L : Nat} {b : Bool} {I : Nat → Nat → Int32} {J : Nat → Nat → Int64} {x2 x3 x4 : Int32} {Q : Int32 → Int64 → pm_H → Prop} : pm_wp pm_code pm_meta d 178 58 ([.ref 79, .ref 105, .int x2, .int x3, .int x4], [], (pm_Gb L b, I, J)) Q ↔ Q 0 0 (pm_Gb L b, I, J) := (pm_bk_iff pc_ch_178 1 58 _).trans (pm_tt)
theorem pb_178v25_9 {d L : Nat} {b : Bool} {I : Nat → Nat → Int32} {J : Nat → Nat → Int64} {x2 x3 x4 : Int32} {Q : Int32 → Int64 → pm_H → Prop} : pm_wp pm_code pm_meta d 178 9 ([.ref 79, .ref 105, .int x2, .int x3, .int x4], [], (pm_Gb L b, I, J)) Q ↔ if x3 = 0 then pm_wp pm_code pm_meta d 178 29 ([.ref 79, .ref 105, .int x2, .int x3, .int x4], [], (pm_Gb L b, I, J)) Q else pm_wp pm_code pm_meta d 178 13 ([.ref 79, .ref 105, .int x2, .int x3, .int x4], [], (pm_Gb L b, I, J)) Q := (pm_bk_iff pc_ch_178 2 9 _).trans (pm_brd)
theorem pb_178v25_29 {d L : Nat} {b : Bool} {I : Nat → Nat → Int32} {J : Nat → Nat → Int64} {x2 x3 x4 : Int32} {Q : Int32 → Int64 → pm_H → Prop} : pm_wp pm_code pm_meta d 178 29 ([.ref 79, .ref 105, .int x2, .int x3, .int x4], [], (pm_Gb L b, I, J)) Q ↔ pm_in (I 79 58) 4200 = true ∧ (pm_in x4 24 = true ∧ (pm_wp pm_code pm_meta d 178 42 ([.ref 79, .ref 105, .int x2, .int x3, .int x4], [], (pm_Gb L b, (pm_u I 105 x4.toNatClampNeg (I 136 (I 79 58).toNatClampNeg)), J)) Q)) := (pm_bk_iff pc_ch_178 8 29 _).trans (and_congr Iff.rfl (and_congr Iff.rfl (Iff.rfl)))
theorem pb_178v25_13 {d L : Nat} {b : Bool} {I : Nat → Nat → Int32} {J : Nat → Nat → Int64} {x2 x3 x4 : Int32} {Q : Int32 → Int64 → pm_H → Prop} : pm_wp pm_code pm_meta d 178 13 ([.ref 79, .ref 105, .int x2, .int x3, .int x4], [], (pm_Gb L b, I, J)) Q ↔ pm_in x4 24 = true ∧ (pm_in (I 79 58) 4200 = true ∧ (pm_wp pm_code pm_meta d 178 42 ([.ref 79, .ref 105, .int x2, .int x3, .int x4], [], (pm_Gb L b, (pm_u I 136 (I 79 58).toNatClampNeg (I 105 x4.toNatClampNeg)), J)) Q)) := (pm_bk_iff pc_ch_178 9 13 _).trans (and_congr Iff.rfl (and_congr Iff.rfl (Iff.rfl)))
theorem pb_178v25_42 {d L : Nat} {b : Bool} {I : Nat → Nat → Int32} {J : Nat → Nat → Int64} {x2 x3 x4 : Int32} {Q : Int32 → Int64 → pm_H → Prop} : pm_wp pm_code pm_meta d 178 42 ([.ref 79, .ref 105, .int x2, .int x3, .int x4], [], (pm_Gb L b, I, J)) Q ↔ pm_wp pm_code pm_meta d 178 3 ([.ref 79, .ref 105, .int x2, .int x3, .int (x4 + 1)], [], (pm_Gb L b, (pm_u I 79 58 ((I 79 58) + 1)), J)) Q := (pm_bk_iff pc_ch_178 8 42 _).trans (Iff.rfl)
theorem cop_k_105 {d L : Nat} {b : Bool} {I : Nat → Nat → Int32} {J : Nat → Nat → Int64} {Q : Int32 → Int64 → pm_H → Prop} {I1 : Nat → Nat → Int32} (hP : pr_kp 25 492 I I1) (hQ : ∀ I2, pr_kp 26 516 I I2 → Q 0 0 (pm_Gb L b, I2, J)) : pm_wc pm_code pm_meta d 178 [.ref 79, .ref 105, .int 24, .int 1] (pm_Gb L b, I1, J) Q := by
  rw [pb_178v25_0]
  refine cop_k (A := fun x I' => pm_wp pm_code pm_meta d 178 3 ([.ref 79, .ref 105, .int 24, .int 1, .int x], [], (pm_Gb L b, I', J)) Q) (E' := fun _ I' => Q 0 0 (pm_Gb L b, I', J)) (r := 105) (of := 492) (len := 24) (n := 25) (by decide) rfl rfl rfl (fun m I' hm h58 h => ?_) (fun I' h => ?_) hP hQ
  · have g := on_n (a := 492 + m) (by omega)
    have gm := on_n (a := m) (by omega)
    rw [pb_178v25_3, if_neg (by rw [show (24 : Int32) = Int32.ofNat 24 from rfl, on_le (by omega) (by omega)]; omega), pb_178v25_9, if_neg (by decide), pb_178v25_13, h58, g.2.1, gm.2.1]
    refine ⟨pi_in gm.1 (by rw [gm.2.2]; omega), pi_in g.1 (by rw [g.2.2]; omega), ?_⟩
    rw [pb_178v25_42, pm_u_row, if_neg (by decide), h58, on_s, on_s]
    exact h
  · show pm_wp _ _ _ _ _ _ _
    rw [pb_178v25_3, if_pos (by decide), pb_178v25_58]
    exact h
theorem cop_a_105 {d L : Nat} {b : Bool} {I : Nat → Nat → Int32} {J : Nat → Nat → Int64} {Q : Int32 → Int64 → pm_H → Prop} {I1 : Nat → Nat → Int32} (hP : pr_ap 25 492 I I1) (hQ : ∀ I2, pr_ap 26 516 I I2 → Q 0 0 (pm_Gb L b, I2, J)) : pm_wc pm_code pm_meta d 178 [.ref 79, .ref 105, .int 24, .int 0] (pm_Gb L b, I1, J) Q := by
  rw [pb_178v25_0]
  refine cop_a (A := fun x I' => pm_wp pm_code pm_meta d 178 3 ([.ref 79, .ref 105, .int 24, .int 0, .int x], [], (pm_Gb L b, I', J)) Q) (E' := fun _ I' => Q 0 0 (pm_Gb L b, I', J)) (r := 105) (of := 492) (len := 24) (n := 25) (by decide) rfl rfl rfl (fun m I' hm h58 h => ?_) (fun I' h => ?_) hP hQ
  · have g := on_n (a := 492 + m) (by omega)
    have gm := on_n (a := m) (by omega)
    rw [pb_178v25_3, if_neg (by rw [show (24 : Int32) = Int32.ofNat 24 from rfl, on_le (by omega) (by omega)]; omega), pb_178v25_9, if_pos rfl, pb_178v25_29, h58, g.2.1, gm.2.1]
    refine ⟨pi_in g.1 (by rw [g.2.2]; omega), pi_in gm.1 (by rw [gm.2.2]; omega), ?_⟩
    rw [pb_178v25_42, pm_u_row, if_neg (by decide), h58, on_s, on_s]
    exact h
  · show pm_wp _ _ _ _ _ _ _
    rw [pb_178v25_3, if_pos (by decide), pb_178v25_58]
    exact h
theorem pb_178v26_0 {d L : Nat} {b : Bool} {I : Nat → Nat → Int32} {J : Nat → Nat → Int64} {x2 x3 : Int32} {Q : Int32 → Int64 → pm_H → Prop} : pm_wc pm_code pm_meta d 178 [.ref 79, .ref 106, .int x2, .int x3] (pm_Gb L b, I, J) Q ↔ pm_wp pm_code pm_meta d 178 3 ([.ref 79, .ref 106, .int x2, .int x3, .int 0], [], (pm_Gb L b, I, J)) Q := (pm_bk_iff pc_ch_178 2 0 _).trans (Iff.rfl)
theorem pb_178v26_3 {d L : Nat} {b : Bool} {I : Nat → Nat → Int32} {J : Nat → Nat → Int64} {x2 x3 x4 : Int32} {Q : Int32 → Int64 → pm_H → Prop} : pm_wp pm_code pm_meta d 178 3 ([.ref 79, .ref 106, .int x2, .int x3, .int x4], [], (pm_Gb L b, I, J)) Q ↔ if x2 ≤ x4 then pm_wp pm_code pm_meta d 178 58 ([.ref 79, .ref 106, .int x2, .int x3, .int x4], [], (pm_Gb L b, I, J)) Q else pm_wp pm_code pm_meta d 178 9 ([.ref 79, .ref 106, .int x2, .int x3, .int x4], [], (pm_Gb L b, I, J)) Q := (pm_bk_iff pc_ch_178 3 3 _).trans (pm_brd)
theorem pb_178v26_58 {d L : Nat} {b : Bool} {I : Nat → Nat → Int32} {J : Nat → Nat → Int64} {x2 x3 x4 : Int32} {Q : Int32 → Int64 → pm_H → Prop} : pm_wp pm_code pm_meta d 178 58 ([.ref 79, .ref 106, .int x2, .int x3, .int x4], [], (pm_Gb L b, I, J)) Q ↔ Q 0 0 (pm_Gb L b, I, J) := (pm_bk_iff pc_ch_178 1 58 _).trans (pm_tt)
theorem pb_178v26_9 {d L : Nat} {b : Bool} {I : Nat → Nat → Int32} {J : Nat → Nat → Int64} {x2 x3 x4 : Int32} {Q : Int32 → Int64 → pm_H → Prop} : pm_wp pm_code pm_meta d 178 9 ([.ref 79, .ref 106, .int x2, .int x3, .int x4], [], (pm_Gb L b, I, J)) Q ↔ if x3 = 0 then pm_wp pm_code pm_meta d 178 29 ([.ref 79, .ref 106, .int x2, .int x3, .int x4], [], (pm_Gb L b, I, J)) Q else pm_wp pm_code pm_meta d 178 13 ([.ref 79, .ref 106, .int x2, .int x3, .int x4], [], (pm_Gb L b, I, J)) Q := (pm_bk_iff pc_ch_178 2 9 _).trans (pm_brd)
theorem pb_178v26_29 {d L : Nat} {b : Bool} {I : Nat → Nat → Int32} {J : Nat → Nat → Int64} {x2 x3 x4 : Int32} {Q : Int32 → Int64 → pm_H → Prop} : pm_wp pm_code pm_meta d 178 29 ([.ref 79, .ref 106, .int x2, .int x3, .int x4], [], (pm_Gb L b, I, J)) Q ↔ pm_in (I 79 58) 4200 = true ∧ (pm_in x4 24 = true ∧ (pm_wp pm_code pm_meta d 178 42 ([.ref 79, .ref 106, .int x2, .int x3, .int x4], [], (pm_Gb L b, (pm_u I 106 x4.toNatClampNeg (I 136 (I 79 58).toNatClampNeg)), J)) Q)) := (pm_bk_iff pc_ch_178 8 29 _).trans (and_congr Iff.rfl (and_congr Iff.rfl (Iff.rfl)))
theorem pb_178v26_13 {d L : Nat} {b : Bool} {I : Nat → Nat → Int32} {J : Nat → Nat → Int64} {x2 x3 x4 : Int32} {Q : Int32 → Int64 → pm_H → Prop} : pm_wp pm_code pm_meta d 178 13 ([.ref 79, .ref 106, .int x2, .int x3, .int x4], [], (pm_Gb L b, I, J)) Q ↔ pm_in x4 24 = true ∧ (pm_in (I 79 58) 4200 = true ∧ (pm_wp pm_code pm_meta d 178 42 ([.ref 79, .ref 106, .int x2, .int x3, .int x4], [], (pm_Gb L b, (pm_u I 136 (I 79 58).toNatClampNeg (I 106 x4.toNatClampNeg)), J)) Q)) := (pm_bk_iff pc_ch_178 9 13 _).trans (and_congr Iff.rfl (and_congr Iff.rfl (Iff.rfl)))
theorem pb_178v26_42 {d L : Nat} {b : Bool} {I : Nat → Nat → Int32} {J : Nat → Nat → Int64} {x2 x3 x4 : Int32} {Q : Int32 → Int64 → pm_H → Prop} : pm_wp pm_code pm_meta d 178 42 ([.ref 79, .ref 106, .int x2, .int x3, .int x4], [], (pm_Gb L b, I, J)) Q ↔ pm_wp pm_code pm_meta d 178 3 ([.ref 79, .ref 106, .int x2, .int x3, .int (x4 + 1)], [], (pm_Gb L b, (pm_u I 79 58 ((I 79 58) + 1)), J)) Q := (pm_bk_iff pc_ch_178 8 42 _).trans (Iff.rfl)
theorem cop_k_106 {d L : Nat} {b : Bool} {I : Nat → Nat → Int32} {J : Nat → Nat → Int64} {Q : Int32 → Int64 → pm_H → Prop} {I1 : Nat → Nat → Int32} (hP : pr_kp 26 516 I I1) (hQ : ∀ I2, pr_kp 27 540 I I2 → Q 0 0 (pm_Gb L b, I2, J)) : pm_wc pm_code pm_meta d 178 [.ref 79, .ref 106, .int 24, .int 1] (pm_Gb L b, I1, J) Q := by
  rw [pb_178v26_0]
  refine cop_k (A := fun x I' => pm_wp pm_code pm_meta d 178 3 ([.ref 79, .ref 106, .int 24, .int 1, .int x], [], (pm_Gb L b, I', J)) Q) (E' := fun _ I' => Q 0 0 (pm_Gb L b, I', J)) (r := 106) (of := 516) (len := 24) (n := 26) (by decide) rfl rfl rfl (fun m I' hm h58 h => ?_) (fun I' h => ?_) hP hQ
  · have g := on_n (a := 516 + m) (by omega)
    have gm := on_n (a := m) (by omega)
    rw [pb_178v26_3, if_neg (by rw [show (24 : Int32) = Int32.ofNat 24 from rfl, on_le (by omega) (by omega)]; omega), pb_178v26_9, if_neg (by decide), pb_178v26_13, h58, g.2.1, gm.2.1]
    refine ⟨pi_in gm.1 (by rw [gm.2.2]; omega), pi_in g.1 (by rw [g.2.2]; omega), ?_⟩
    rw [pb_178v26_42, pm_u_row, if_neg (by decide), h58, on_s, on_s]
    exact h
  · show pm_wp _ _ _ _ _ _ _
    rw [pb_178v26_3, if_pos (by decide), pb_178v26_58]
    exact h
theorem cop_a_106 {d L : Nat} {b : Bool} {I : Nat → Nat → Int32} {J : Nat → Nat → Int64} {Q : Int32 → Int64 → pm_H → Prop} {I1 : Nat → Nat → Int32} (hP : pr_ap 26 516 I I1) (hQ : ∀ I2, pr_ap 27 540 I I2 → Q 0 0 (pm_Gb L b, I2, J)) : pm_wc pm_code pm_meta d 178 [.ref 79, .ref 106, .int 24, .int 0] (pm_Gb L b, I1, J) Q := by
  rw [pb_178v26_0]
  refine cop_a (A := fun x I' => pm_wp pm_code pm_meta d 178 3 ([.ref 79, .ref 106, .int 24, .int 0, .int x], [], (pm_Gb L b, I', J)) Q) (E' := fun _ I' => Q 0 0 (pm_Gb L b, I', J)) (r := 106) (of := 516) (len := 24) (n := 26) (by decide) rfl rfl rfl (fun m I' hm h58 h => ?_) (fun I' h => ?_) hP hQ
  · have g := on_n (a := 516 + m) (by omega)
    have gm := on_n (a := m) (by omega)
    rw [pb_178v26_3, if_neg (by rw [show (24 : Int32) = Int32.ofNat 24 from rfl, on_le (by omega) (by omega)]; omega), pb_178v26_9, if_pos rfl, pb_178v26_29, h58, g.2.1, gm.2.1]
    refine ⟨pi_in g.1 (by rw [g.2.2]; omega), pi_in gm.1 (by rw [gm.2.2]; omega), ?_⟩
    rw [pb_178v26_42, pm_u_row, if_neg (by decide), h58, on_s, on_s]
    exact h
  · show pm_wp _ _ _ _ _ _ _
    rw [pb_178v26_3, if_pos (by decide), pb_178v26_58]
    exact h
theorem pb_178v27_0 {d L : Nat} {b : Bool} {I : Nat → Nat → Int32} {J : Nat → Nat → Int64} {x2 x3 : Int32} {Q : Int32 → Int64 → pm_H → Prop} : pm_wc pm_code pm_meta d 178 [.ref 79, .ref 107, .int x2, .int x3] (pm_Gb L b, I, J) Q ↔ pm_wp pm_code pm_meta d 178 3 ([.ref 79, .ref 107, .int x2, .int x3, .int 0], [], (pm_Gb L b, I, J)) Q := (pm_bk_iff pc_ch_178 2 0 _).trans (Iff.rfl)
theorem pb_178v27_3 {d L : Nat} {b : Bool} {I : Nat → Nat → Int32} {J : Nat → Nat → Int64} {x2 x3 x4 : Int32} {Q : Int32 → Int64 → pm_H → Prop} : pm_wp pm_code pm_meta d 178 3 ([.ref 79, .ref 107, .int x2, .int x3, .int x4], [], (pm_Gb L b, I, J)) Q ↔ if x2 ≤ x4 then pm_wp pm_code pm_meta d 178 58 ([.ref 79, .ref 107, .int x2, .int x3, .int x4], [], (pm_Gb L b, I, J)) Q else pm_wp pm_code pm_meta d 178 9 ([.ref 79, .ref 107, .int x2, .int x3, .int x4], [], (pm_Gb L b, I, J)) Q := (pm_bk_iff pc_ch_178 3 3 _).trans (pm_brd)
theorem pb_178v27_58 {d L : Nat} {b : Bool} {I : Nat → Nat → Int32} {J : Nat → Nat → Int64} {x2 x3 x4 : Int32} {Q : Int32 → Int64 → pm_H → Prop} : pm_wp pm_code pm_meta d 178 58 ([.ref 79, .ref 107, .int x2, .int x3, .int x4], [], (pm_Gb L b, I, J)) Q ↔ Q 0 0 (pm_Gb L b, I, J) := (pm_bk_iff pc_ch_178 1 58 _).trans (pm_tt)
theorem pb_178v27_9 {d L : Nat} {b : Bool} {I : Nat → Nat → Int32} {J : Nat → Nat → Int64} {x2 x3 x4 : Int32} {Q : Int32 → Int64 → pm_H → Prop} : pm_wp pm_code pm_meta d 178 9 ([.ref 79, .ref 107, .int x2, .int x3, .int x4], [], (pm_Gb L b, I, J)) Q ↔ if x3 = 0 then pm_wp pm_code pm_meta d 178 29 ([.ref 79, .ref 107, .int x2, .int x3, .int x4], [], (pm_Gb L b, I, J)) Q else pm_wp pm_code pm_meta d 178 13 ([.ref 79, .ref 107, .int x2, .int x3, .int x4], [], (pm_Gb L b, I, J)) Q := (pm_bk_iff pc_ch_178 2 9 _).trans (pm_brd)
theorem pb_178v27_29 {d L : Nat} {b : Bool} {I : Nat → Nat → Int32} {J : Nat → Nat → Int64} {x2 x3 x4 : Int32} {Q : Int32 → Int64 → pm_H → Prop} : pm_wp pm_code pm_meta d 178 29 ([.ref 79, .ref 107, .int x2, .int x3, .int x4], [], (pm_Gb L b, I, J)) Q ↔ pm_in (I 79 58) 4200 = true ∧ (pm_in x4 24 = true ∧ (pm_wp pm_code pm_meta d 178 42 ([.ref 79, .ref 107, .int x2, .int x3, .int x4], [], (pm_Gb L b, (pm_u I 107 x4.toNatClampNeg (I 136 (I 79 58).toNatClampNeg)), J)) Q)) := (pm_bk_iff pc_ch_178 8 29 _).trans (and_congr Iff.rfl (and_congr Iff.rfl (Iff.rfl)))
theorem pb_178v27_13 {d L : Nat} {b : Bool} {I : Nat → Nat → Int32} {J : Nat → Nat → Int64} {x2 x3 x4 : Int32} {Q : Int32 → Int64 → pm_H → Prop} : pm_wp pm_code pm_meta d 178 13 ([.ref 79, .ref 107, .int x2, .int x3, .int x4], [], (pm_Gb L b, I, J)) Q ↔ pm_in x4 24 = true ∧ (pm_in (I 79 58) 4200 = true ∧ (pm_wp pm_code pm_meta d 178 42 ([.ref 79, .ref 107, .int x2, .int x3, .int x4], [], (pm_Gb L b, (pm_u I 136 (I 79 58).toNatClampNeg (I 107 x4.toNatClampNeg)), J)) Q)) := (pm_bk_iff pc_ch_178 9 13 _).trans (and_congr Iff.rfl (and_congr Iff.rfl (Iff.rfl)))
theorem pb_178v27_42 {d L : Nat} {b : Bool} {I : Nat → Nat → Int32} {J : Nat → Nat → Int64} {x2 x3 x4 : Int32} {Q : Int32 → Int64 → pm_H → Prop} : pm_wp pm_code pm_meta d 178 42 ([.ref 79, .ref 107, .int x2, .int x3, .int x4], [], (pm_Gb L b, I, J)) Q ↔ pm_wp pm_code pm_meta d 178 3 ([.ref 79, .ref 107, .int x2, .int x3, .int (x4 + 1)], [], (pm_Gb L b, (pm_u I 79 58 ((I 79 58) + 1)), J)) Q := (pm_bk_iff pc_ch_178 8 42 _).trans (Iff.rfl)
theorem cop_k_107 {d L : Nat} {b : Bool} {I : Nat → Nat → Int32} {J : Nat → Nat → Int64} {Q : Int32 → Int64 → pm_H → Prop} {I1 : Nat → Nat → Int32} (hP : pr_kp 27 540 I I1) (hQ : ∀ I2, pr_kp 28 564 I I2 → Q 0 0 (pm_Gb L b, I2, J)) : pm_wc pm_code pm_meta d 178 [.ref 79, .ref 107, .int 24, .int 1] (pm_Gb L b, I1, J) Q := by
  rw [pb_178v27_0]
  refine cop_k (A := fun x I' => pm_wp pm_code pm_meta d 178 3 ([.ref 79, .ref 107, .int 24, .int 1, .int x], [], (pm_Gb L b, I', J)) Q) (E' := fun _ I' => Q 0 0 (pm_Gb L b, I', J)) (r := 107) (of := 540) (len := 24) (n := 27) (by decide) rfl rfl rfl (fun m I' hm h58 h => ?_) (fun I' h => ?_) hP hQ
  · have g := on_n (a := 540 + m) (by omega)
    have gm := on_n (a := m) (by omega)
    rw [pb_178v27_3, if_neg (by rw [show (24 : Int32) = Int32.ofNat 24 from rfl, on_le (by omega) (by omega)]; omega), pb_178v27_9, if_neg (by decide), pb_178v27_13, h58, g.2.1, gm.2.1]
    refine ⟨pi_in gm.1 (by rw [gm.2.2]; omega), pi_in g.1 (by rw [g.2.2]; omega), ?_⟩
    rw [pb_178v27_42, pm_u_row, if_neg (by decide), h58, on_s, on_s]
    exact h
  · show pm_wp _ _ _ _ _ _ _
    rw [pb_178v27_3, if_pos (by decide), pb_178v27_58]
    exact h
theorem cop_a_107 {d L : Nat} {b : Bool} {I : Nat → Nat → Int32} {J : Nat → Nat → Int64} {Q : Int32 → Int64 → pm_H → Prop} {I1 : Nat → Nat → Int32} (hP : pr_ap 27 540 I I1) (hQ : ∀ I2, pr_ap 28 564 I I2 → Q 0 0 (pm_Gb L b, I2, J)) : pm_wc pm_code pm_meta d 178 [.ref 79, .ref 107, .int 24, .int 0] (pm_Gb L b, I1, J) Q := by
  rw [pb_178v27_0]
  refine cop_a (A := fun x I' => pm_wp pm_code pm_meta d 178 3 ([.ref 79, .ref 107, .int 24, .int 0, .int x], [], (pm_Gb L b, I', J)) Q) (E' := fun _ I' => Q 0 0 (pm_Gb L b, I', J)) (r := 107) (of := 540) (len := 24) (n := 27) (by decide) rfl rfl rfl (fun m I' hm h58 h => ?_) (fun I' h => ?_) hP hQ
  · have g := on_n (a := 540 + m) (by omega)
    have gm := on_n (a := m) (by omega)
    rw [pb_178v27_3, if_neg (by rw [show (24 : Int32) = Int32.ofNat 24 from rfl, on_le (by omega) (by omega)]; omega), pb_178v27_9, if_pos rfl, pb_178v27_29, h58, g.2.1, gm.2.1]
    refine ⟨pi_in g.1 (by rw [g.2.2]; omega), pi_in gm.1 (by rw [gm.2.2]; omega), ?_⟩
    rw [pb_178v27_42, pm_u_row, if_neg (by decide), h58, on_s, on_s]
    exact h
  · show pm_wp _ _ _ _ _ _ _
    rw [pb_178v27_3, if_pos (by decide), pb_178v27_58]
    exact h
theorem pb_178v28_0 {d L : Nat} {b : Bool} {I : Nat → Nat → Int32} {J : Nat → Nat → Int64} {x2 x3 : Int32} {Q : Int32 → Int64 → pm_H → Prop} : pm_wc pm_code pm_meta d 178 [.ref 79, .ref 108, .int x2, .int x3] (pm_Gb L b, I, J) Q ↔ pm_wp pm_code pm_meta d 178 3 ([.ref 79, .ref 108, .int x2, .int x3, .int 0], [], (pm_Gb L b, I, J)) Q := (pm_bk_iff pc_ch_178 2 0 _).trans (Iff.rfl)
theorem pb_178v28_3 {d L : Nat} {b : Bool} {I : Nat → Nat → Int32} {J : Nat → Nat → Int64} {x2 x3 x4 : Int32} {Q : Int32 → Int64 → pm_H → Prop} : pm_wp pm_code pm_meta d 178 3 ([.ref 79, .ref 108, .int x2, .int x3, .int x4], [], (pm_Gb L b, I, J)) Q ↔ if x2 ≤ x4 then pm_wp pm_code pm_meta d 178 58 ([.ref 79, .ref 108, .int x2, .int x3, .int x4], [], (pm_Gb L b, I, J)) Q else pm_wp pm_code pm_meta d 178 9 ([.ref 79, .ref 108, .int x2, .int x3, .int x4], [], (pm_Gb L b, I, J)) Q := (pm_bk_iff pc_ch_178 3 3 _).trans (pm_brd)
theorem pb_178v28_58 {d L : Nat} {b : Bool} {I : Nat → Nat → Int32} {J : Nat → Nat → Int64} {x2 x3 x4 : Int32} {Q : Int32 → Int64 → pm_H → Prop} : pm_wp pm_code pm_meta d 178 58 ([.ref 79, .ref 108, .int x2, .int x3, .int x4], [], (pm_Gb L b, I, J)) Q ↔ Q 0 0 (pm_Gb L b, I, J) := (pm_bk_iff pc_ch_178 1 58 _).trans (pm_tt)
theorem pb_178v28_9 {d L : Nat} {b : Bool} {I : Nat → Nat → Int32} {J : Nat → Nat → Int64} {x2 x3 x4 : Int32} {Q : Int32 → Int64 → pm_H → Prop} : pm_wp pm_code pm_meta d 178 9 ([.ref 79, .ref 108, .int x2, .int x3, .int x4], [], (pm_Gb L b, I, J)) Q ↔ if x3 = 0 then pm_wp pm_code pm_meta d 178 29 ([.ref 79, .ref 108, .int x2, .int x3, .int x4], [], (pm_Gb L b, I, J)) Q else pm_wp pm_code pm_meta d 178 13 ([.ref 79, .ref 108, .int x2, .int x3, .int x4], [], (pm_Gb L b, I, J)) Q := (pm_bk_iff pc_ch_178 2 9 _).trans (pm_brd)
theorem pb_178v28_29 {d L : Nat} {b : Bool} {I : Nat → Nat → Int32} {J : Nat → Nat → Int64} {x2 x3 x4 : Int32} {Q : Int32 → Int64 → pm_H → Prop} : pm_wp pm_code pm_meta d 178 29 ([.ref 79, .ref 108, .int x2, .int x3, .int x4], [], (pm_Gb L b, I, J)) Q ↔ pm_in (I 79 58) 4200 = true ∧ (pm_in x4 24 = true ∧ (pm_wp pm_code pm_meta d 178 42 ([.ref 79, .ref 108, .int x2, .int x3, .int x4], [], (pm_Gb L b, (pm_u I 108 x4.toNatClampNeg (I 136 (I 79 58).toNatClampNeg)), J)) Q)) := (pm_bk_iff pc_ch_178 8 29 _).trans (and_congr Iff.rfl (and_congr Iff.rfl (Iff.rfl)))
theorem pb_178v28_13 {d L : Nat} {b : Bool} {I : Nat → Nat → Int32} {J : Nat → Nat → Int64} {x2 x3 x4 : Int32} {Q : Int32 → Int64 → pm_H → Prop} : pm_wp pm_code pm_meta d 178 13 ([.ref 79, .ref 108, .int x2, .int x3, .int x4], [], (pm_Gb L b, I, J)) Q ↔ pm_in x4 24 = true ∧ (pm_in (I 79 58) 4200 = true ∧ (pm_wp pm_code pm_meta d 178 42 ([.ref 79, .ref 108, .int x2, .int x3, .int x4], [], (pm_Gb L b, (pm_u I 136 (I 79 58).toNatClampNeg (I 108 x4.toNatClampNeg)), J)) Q)) := (pm_bk_iff pc_ch_178 9 13 _).trans (and_congr Iff.rfl (and_congr Iff.rfl (Iff.rfl)))
theorem pb_178v28_42 {d L : Nat} {b : Bool} {I : Nat → Nat → Int32} {J : Nat → Nat → Int64} {x2 x3 x4 : Int32} {Q : Int32 → Int64 → pm_H → Prop} : pm_wp pm_code pm_meta d 178 42 ([.ref 79, .ref 108, .int x2, .int x3, .int x4], [], (pm_Gb L b, I, J)) Q ↔ pm_wp pm_code pm_meta d 178 3 ([.ref 79, .ref 108, .int x2, .int x3, .int (x4 + 1)], [], (pm_Gb L b, (pm_u I 79 58 ((I 79 58) + 1)), J)) Q := (pm_bk_iff pc_ch_178 8 42 _).trans (Iff.rfl)
theorem cop_k_108 {d L : Nat} {b : Bool} {I : Nat → Nat → Int32} {J : Nat → Nat → Int64} {Q : Int32 → Int64 → pm_H → Prop} {I1 : Nat → Nat → Int32} (hP : pr_kp 28 564 I I1) (hQ : ∀ I2, pr_kp 29 588 I I2 → Q 0 0 (pm_Gb L b, I2, J)) : pm_wc pm_code pm_meta d 178 [.ref 79, .ref 108, .int 24, .int 1] (pm_Gb L b, I1, J) Q := by
  rw [pb_178v28_0]
  refine cop_k (A := fun x I' => pm_wp pm_code pm_meta d 178 3 ([.ref 79, .ref 108, .int 24, .int 1, .int x], [], (pm_Gb L b, I', J)) Q) (E' := fun _ I' => Q 0 0 (pm_Gb L b, I', J)) (r := 108) (of := 564) (len := 24) (n := 28) (by decide) rfl rfl rfl (fun m I' hm h58 h => ?_) (fun I' h => ?_) hP hQ
  · have g := on_n (a := 564 + m) (by omega)
    have gm := on_n (a := m) (by omega)
    rw [pb_178v28_3, if_neg (by rw [show (24 : Int32) = Int32.ofNat 24 from rfl, on_le (by omega) (by omega)]; omega), pb_178v28_9, if_neg (by decide), pb_178v28_13, h58, g.2.1, gm.2.1]
    refine ⟨pi_in gm.1 (by rw [gm.2.2]; omega), pi_in g.1 (by rw [g.2.2]; omega), ?_⟩
    rw [pb_178v28_42, pm_u_row, if_neg (by decide), h58, on_s, on_s]
    exact h
  · show pm_wp _ _ _ _ _ _ _
    rw [pb_178v28_3, if_pos (by decide), pb_178v28_58]
    exact h
theorem cop_a_108 {d L : Nat} {b : Bool} {I : Nat → Nat → Int32} {J : Nat → Nat → Int64} {Q : Int32 → Int64 → pm_H → Prop} {I1 : Nat → Nat → Int32} (hP : pr_ap 28 564 I I1) (hQ : ∀ I2, pr_ap 29 588 I I2 → Q 0 0 (pm_Gb L b, I2, J)) : pm_wc pm_code pm_meta d 178 [.ref 79, .ref 108, .int 24, .int 0] (pm_Gb L b, I1, J) Q := by
  rw [pb_178v28_0]
  refine cop_a (A := fun x I' => pm_wp pm_code pm_meta d 178 3 ([.ref 79, .ref 108, .int 24, .int 0, .int x], [], (pm_Gb L b, I', J)) Q) (E' := fun _ I' => Q 0 0 (pm_Gb L b, I', J)) (r := 108) (of := 564) (len := 24) (n := 28) (by decide) rfl rfl rfl (fun m I' hm h58 h => ?_) (fun I' h => ?_) hP hQ
  · have g := on_n (a := 564 + m) (by omega)
    have gm := on_n (a := m) (by omega)
    rw [pb_178v28_3, if_neg (by rw [show (24 : Int32) = Int32.ofNat 24 from rfl, on_le (by omega) (by omega)]; omega), pb_178v28_9, if_pos rfl, pb_178v28_29, h58, g.2.1, gm.2.1]
    refine ⟨pi_in g.1 (by rw [g.2.2]; omega), pi_in gm.1 (by rw [gm.2.2]; omega), ?_⟩
    rw [pb_178v28_42, pm_u_row, if_neg (by decide), h58, on_s, on_s]
    exact h
  · show pm_wp _ _ _ _ _ _ _
    rw [pb_178v28_3, if_pos (by decide), pb_178v28_58]
    exact h
theorem pb_178v29_0 {d L : Nat} {b : Bool} {I : Nat → Nat → Int32} {J : Nat → Nat → Int64} {x2 x3 : Int32} {Q : Int32 → Int64 → pm_H → Prop} : pm_wc pm_code pm_meta d 178 [.ref 79, .ref 109, .int x2, .int x3] (pm_Gb L b, I, J) Q ↔ pm_wp pm_code pm_meta d 178 3 ([.ref 79, .ref 109, .int x2, .int x3, .int 0], [], (pm_Gb L b, I, J)) Q := (pm_bk_iff pc_ch_178 2 0 _).trans (Iff.rfl)
theorem pb_178v29_3 {d L : Nat} {b : Bool} {I : Nat → Nat → Int32} {J : Nat → Nat → Int64} {x2 x3 x4 : Int32} {Q : Int32 → Int64 → pm_H → Prop} : pm_wp pm_code pm_meta d 178 3 ([.ref 79, .ref 109, .int x2, .int x3, .int x4], [], (pm_Gb L b, I, J)) Q ↔ if x2 ≤ x4 then pm_wp pm_code pm_meta d 178 58 ([.ref 79, .ref 109, .int x2, .int x3, .int x4], [], (pm_Gb L b, I, J)) Q else pm_wp pm_code pm_meta d 178 9 ([.ref 79, .ref 109, .int x2, .int x3, .int x4], [], (pm_Gb L b, I, J)) Q := (pm_bk_iff pc_ch_178 3 3 _).trans (pm_brd)
theorem pb_178v29_58 {d L : Nat} {b : Bool} {I : Nat → Nat → Int32} {J : Nat → Nat → Int64} {x2 x3 x4 : Int32} {Q : Int32 → Int64 → pm_H → Prop} : pm_wp pm_code pm_meta d 178 58 ([.ref 79, .ref 109, .int x2, .int x3, .int x4], [], (pm_Gb L b, I, J)) Q ↔ Q 0 0 (pm_Gb L b, I, J) := (pm_bk_iff pc_ch_178 1 58 _).trans (pm_tt)
theorem pb_178v29_9 {d L : Nat} {b : Bool} {I : Nat → Nat → Int32} {J : Nat → Nat → Int64} {x2 x3 x4 : Int32} {Q : Int32 → Int64 → pm_H → Prop} : pm_wp pm_code pm_meta d 178 9 ([.ref 79, .ref 109, .int x2, .int x3, .int x4], [], (pm_Gb L b, I, J)) Q ↔ if x3 = 0 then pm_wp pm_code pm_meta d 178 29 ([.ref 79, .ref 109, .int x2, .int x3, .int x4], [], (pm_Gb L b, I, J)) Q else pm_wp pm_code pm_meta d 178 13 ([.ref 79, .ref 109, .int x2, .int x3, .int x4], [], (pm_Gb L b, I, J)) Q := (pm_bk_iff pc_ch_178 2 9 _).trans (pm_brd)
theorem pb_178v29_29 {d L : Nat} {b : Bool} {I : Nat → Nat → Int32} {J : Nat → Nat → Int64} {x2 x3 x4 : Int32} {Q : Int32 → Int64 → pm_H → Prop} : pm_wp pm_code pm_meta d 178 29 ([.ref 79, .ref 109, .int x2, .int x3, .int x4], [], (pm_Gb L b, I, J)) Q ↔ pm_in (I 79 58) 4200 = true ∧ (pm_in x4 24 = true ∧ (pm_wp pm_code pm_meta d 178 42 ([.ref 79, .ref 109, .int x2, .int x3, .int x4], [], (pm_Gb L b, (pm_u I 109 x4.toNatClampNeg (I 136 (I 79 58).toNatClampNeg)), J)) Q)) := (pm_bk_iff pc_ch_178 8 29 _).trans (and_congr Iff.rfl (and_congr Iff.rfl (Iff.rfl)))
theorem pb_178v29_13 {d L : Nat} {b : Bool} {I : Nat → Nat → Int32} {J : Nat → Nat → Int64} {x2 x3 x4 : Int32} {Q : Int32 → Int64 → pm_H → Prop} : pm_wp pm_code pm_meta d 178 13 ([.ref 79, .ref 109, .int x2, .int x3, .int x4], [], (pm_Gb L b, I, J)) Q ↔ pm_in x4 24 = true ∧ (pm_in (I 79 58) 4200 = true ∧ (pm_wp pm_code pm_meta d 178 42 ([.ref 79, .ref 109, .int x2, .int x3, .int x4], [], (pm_Gb L b, (pm_u I 136 (I 79 58).toNatClampNeg (I 109 x4.toNatClampNeg)), J)) Q)) := (pm_bk_iff pc_ch_178 9 13 _).trans (and_congr Iff.rfl (and_congr Iff.rfl (Iff.rfl)))
theorem pb_178v29_42 {d L : Nat} {b : Bool} {I : Nat → Nat → Int32} {J : Nat → Nat → Int64} {x2 x3 x4 : Int32} {Q : Int32 → Int64 → pm_H → Prop} : pm_wp pm_code pm_meta d 178 42 ([.ref 79, .ref 109, .int x2, .int x3, .int x4], [], (pm_Gb L b, I, J)) Q ↔ pm_wp pm_code pm_meta d 178 3 ([.ref 79, .ref 109, .int x2, .int x3, .int (x4 + 1)], [], (pm_Gb L b, (pm_u I 79 58 ((I 79 58) + 1)), J)) Q := (pm_bk_iff pc_ch_178 8 42 _).trans (Iff.rfl)
theorem cop_k_109 {d L : Nat} {b : Bool} {I : Nat → Nat → Int32} {J : Nat → Nat → Int64} {Q : Int32 → Int64 → pm_H → Prop} {I1 : Nat → Nat → Int32} (hP : pr_kp 29 588 I I1) (hQ : ∀ I2, pr_kp 30 612 I I2 → Q 0 0 (pm_Gb L b, I2, J)) : pm_wc pm_code pm_meta d 178 [.ref 79, .ref 109, .int 24, .int 1] (pm_Gb L b, I1, J) Q := by
  rw [pb_178v29_0]
  refine cop_k (A := fun x I' => pm_wp pm_code pm_meta d 178 3 ([.ref 79, .ref 109, .int 24, .int 1, .int x], [], (pm_Gb L b, I', J)) Q) (E' := fun _ I' => Q 0 0 (pm_Gb L b, I', J)) (r := 109) (of := 588) (len := 24) (n := 29) (by decide) rfl rfl rfl (fun m I' hm h58 h => ?_) (fun I' h => ?_) hP hQ
  · have g := on_n (a := 588 + m) (by omega)
    have gm := on_n (a := m) (by omega)
    rw [pb_178v29_3, if_neg (by rw [show (24 : Int32) = Int32.ofNat 24 from rfl, on_le (by omega) (by omega)]; omega), pb_178v29_9, if_neg (by decide), pb_178v29_13, h58, g.2.1, gm.2.1]
    refine ⟨pi_in gm.1 (by rw [gm.2.2]; omega), pi_in g.1 (by rw [g.2.2]; omega), ?_⟩
    rw [pb_178v29_42, pm_u_row, if_neg (by decide), h58, on_s, on_s]
    exact h
  · show pm_wp _ _ _ _ _ _ _
    rw [pb_178v29_3, if_pos (by decide), pb_178v29_58]
    exact h
theorem cop_a_109 {d L : Nat} {b : Bool} {I : Nat → Nat → Int32} {J : Nat → Nat → Int64} {Q : Int32 → Int64 → pm_H → Prop} {I1 : Nat → Nat → Int32} (hP : pr_ap 29 588 I I1) (hQ : ∀ I2, pr_ap 30 612 I I2 → Q 0 0 (pm_Gb L b, I2, J)) : pm_wc pm_code pm_meta d 178 [.ref 79, .ref 109, .int 24, .int 0] (pm_Gb L b, I1, J) Q := by
  rw [pb_178v29_0]
  refine cop_a (A := fun x I' => pm_wp pm_code pm_meta d 178 3 ([.ref 79, .ref 109, .int 24, .int 0, .int x], [], (pm_Gb L b, I', J)) Q) (E' := fun _ I' => Q 0 0 (pm_Gb L b, I', J)) (r := 109) (of := 588) (len := 24) (n := 29) (by decide) rfl rfl rfl (fun m I' hm h58 h => ?_) (fun I' h => ?_) hP hQ
  · have g := on_n (a := 588 + m) (by omega)
    have gm := on_n (a := m) (by omega)
    rw [pb_178v29_3, if_neg (by rw [show (24 : Int32) = Int32.ofNat 24 from rfl, on_le (by omega) (by omega)]; omega), pb_178v29_9, if_pos rfl, pb_178v29_29, h58, g.2.1, gm.2.1]
    refine ⟨pi_in g.1 (by rw [g.2.2]; omega), pi_in gm.1 (by rw [gm.2.2]; omega), ?_⟩
    rw [pb_178v29_42, pm_u_row, if_neg (by decide), h58, on_s, on_s]
    exact h
  · show pm_wp _ _ _ _ _ _ _
    rw [pb_178v29_3, if_pos (by decide), pb_178v29_58]
    exact h
theorem pb_178v30_0 {d L : Nat} {b : Bool} {I : Nat → Nat → Int32} {J : Nat → Nat → Int64} {x2 x3 : Int32} {Q : Int32 → Int64 → pm_H → Prop} : pm_wc pm_code pm_meta d 178 [.ref 79, .ref 110, .int x2, .int x3] (pm_Gb L b, I, J) Q ↔ pm_wp pm_code pm_meta d 178 3 ([.ref 79, .ref 110, .int x2, .int x3, .int 0], [], (pm_Gb L b, I, J)) Q := (pm_bk_iff pc_ch_178 2 0 _).trans (Iff.rfl)
theorem pb_178v30_3 {d L : Nat} {b : Bool} {I : Nat → Nat → Int32} {J : Nat → Nat → Int64} {x2 x3 x4 : Int32} {Q : Int32 → Int64 → pm_H → Prop} : pm_wp pm_code pm_meta d 178 3 ([.ref 79, .ref 110, .int x2, .int x3, .int x4], [], (pm_Gb L b, I, J)) Q ↔ if x2 ≤ x4 then pm_wp pm_code pm_meta d 178 58 ([.ref 79, .ref 110, .int x2, .int x3, .int x4], [], (pm_Gb L b, I, J)) Q else pm_wp pm_code pm_meta d 178 9 ([.ref 79, .ref 110, .int x2, .int x3, .int x4], [], (pm_Gb L b, I, J)) Q := (pm_bk_iff pc_ch_178 3 3 _).trans (pm_brd)
theorem pb_178v30_58 {d L : Nat} {b : Bool} {I : Nat → Nat → Int32} {J : Nat → Nat → Int64} {x2 x3 x4 : Int32} {Q : Int32 → Int64 → pm_H → Prop} : pm_wp pm_code pm_meta d 178 58 ([.ref 79, .ref 110, .int x2, .int x3, .int x4], [], (pm_Gb L b, I, J)) Q ↔ Q 0 0 (pm_Gb L b, I, J) := (pm_bk_iff pc_ch_178 1 58 _).trans (pm_tt)
theorem pb_178v30_9 {d L : Nat} {b : Bool} {I : Nat → Nat → Int32} {J : Nat → Nat → Int64} {x2 x3 x4 : Int32} {Q : Int32 → Int64 → pm_H → Prop} : pm_wp pm_code pm_meta d 178 9 ([.ref 79, .ref 110, .int x2, .int x3, .int x4], [], (pm_Gb L b, I, J)) Q ↔ if x3 = 0 then pm_wp pm_code pm_meta d 178 29 ([.ref 79, .ref 110, .int x2, .int x3, .int x4], [], (pm_Gb L b, I, J)) Q else pm_wp pm_code pm_meta d 178 13 ([.ref 79, .ref 110, .int x2, .int x3, .int x4], [], (pm_Gb L b, I, J)) Q := (pm_bk_iff pc_ch_178 2 9 _).trans (pm_brd)
theorem pb_178v30_29 {d L : Nat} {b : Bool} {I : Nat → Nat → Int32} {J : Nat → Nat → Int64} {x2 x3 x4 : Int32} {Q : Int32 → Int64 → pm_H → Prop} : pm_wp pm_code pm_meta d 178 29 ([.ref 79, .ref 110, .int x2, .int x3, .int x4], [], (pm_Gb L b, I, J)) Q ↔ pm_in (I 79 58) 4200 = true ∧ (pm_in x4 24 = true ∧ (pm_wp pm_code pm_meta d 178 42 ([.ref 79, .ref 110, .int x2, .int x3, .int x4], [], (pm_Gb L b, (pm_u I 110 x4.toNatClampNeg (I 136 (I 79 58).toNatClampNeg)), J)) Q)) := (pm_bk_iff pc_ch_178 8 29 _).trans (and_congr Iff.rfl (and_congr Iff.rfl (Iff.rfl)))
theorem pb_178v30_13 {d L : Nat} {b : Bool} {I : Nat → Nat → Int32} {J : Nat → Nat → Int64} {x2 x3 x4 : Int32} {Q : Int32 → Int64 → pm_H → Prop} : pm_wp pm_code pm_meta d 178 13 ([.ref 79, .ref 110, .int x2, .int x3, .int x4], [], (pm_Gb L b, I, J)) Q ↔ pm_in x4 24 = true ∧ (pm_in (I 79 58) 4200 = true ∧ (pm_wp pm_code pm_meta d 178 42 ([.ref 79, .ref 110, .int x2, .int x3, .int x4], [], (pm_Gb L b, (pm_u I 136 (I 79 58).toNatClampNeg (I 110 x4.toNatClampNeg)), J)) Q)) := (pm_bk_iff pc_ch_178 9 13 _).trans (and_congr Iff.rfl (and_congr Iff.rfl (Iff.rfl)))
theorem pb_178v30_42 {d L : Nat} {b : Bool} {I : Nat → Nat → Int32} {J : Nat → Nat → Int64} {x2 x3 x4 : Int32} {Q : Int32 → Int64 → pm_H → Prop} : pm_wp pm_code pm_meta d 178 42 ([.ref 79, .ref 110, .int x2, .int x3, .int x4], [], (pm_Gb L b, I, J)) Q ↔ pm_wp pm_code pm_meta d 178 3 ([.ref 79, .ref 110, .int x2, .int x3, .int (x4 + 1)], [], (pm_Gb L b, (pm_u I 79 58 ((I 79 58) + 1)), J)) Q := (pm_bk_iff pc_ch_178 8 42 _).trans (Iff.rfl)
theorem cop_k_110 {d L : Nat} {b : Bool} {I : Nat → Nat → Int32} {J : Nat → Nat → Int64} {Q : Int32 → Int64 → pm_H → Prop} {I1 : Nat → Nat → Int32} (hP : pr_kp 30 612 I I1) (hQ : ∀ I2, pr_kp 31 636 I I2 → Q 0 0 (pm_Gb L b, I2, J)) : pm_wc pm_code pm_meta d 178 [.ref 79, .ref 110, .int 24, .int 1] (pm_Gb L b, I1, J) Q := by
  rw [pb_178v30_0]
  refine cop_k (A := fun x I' => pm_wp pm_code pm_meta d 178 3 ([.ref 79, .ref 110, .int 24, .int 1, .int x], [], (pm_Gb L b, I', J)) Q) (E' := fun _ I' => Q 0 0 (pm_Gb L b, I', J)) (r := 110) (of := 612) (len := 24) (n := 30) (by decide) rfl rfl rfl (fun m I' hm h58 h => ?_) (fun I' h => ?_) hP hQ
  · have g := on_n (a := 612 + m) (by omega)
    have gm := on_n (a := m) (by omega)
    rw [pb_178v30_3, if_neg (by rw [show (24 : Int32) = Int32.ofNat 24 from rfl, on_le (by omega) (by omega)]; omega), pb_178v30_9, if_neg (by decide), pb_178v30_13, h58, g.2.1, gm.2.1]
    refine ⟨pi_in gm.1 (by rw [gm.2.2]; omega), pi_in g.1 (by rw [g.2.2]; omega), ?_⟩
    rw [pb_178v30_42, pm_u_row, if_neg (by decide), h58, on_s, on_s]
    exact h
  · show pm_wp _ _ _ _ _ _ _
    rw [pb_178v30_3, if_pos (by decide), pb_178v30_58]
    exact h
theorem cop_a_110 {d L : Nat} {b : Bool} {I : Nat → Nat → Int32} {J : Nat → Nat → Int64} {Q : Int32 → Int64 → pm_H → Prop} {I1 : Nat → Nat → Int32} (hP : pr_ap 30 612 I I1) (hQ : ∀ I2, pr_ap 31 636 I I2 → Q 0 0 (pm_Gb L b, I2, J)) : pm_wc pm_code pm_meta d 178 [.ref 79, .ref 110, .int 24, .int 0] (pm_Gb L b, I1, J) Q := by
  rw [pb_178v30_0]
  refine cop_a (A := fun x I' => pm_wp pm_code pm_meta d 178 3 ([.ref 79, .ref 110, .int 24, .int 0, .int x], [], (pm_Gb L b, I', J)) Q) (E' := fun _ I' => Q 0 0 (pm_Gb L b, I', J)) (r := 110) (of := 612) (len := 24) (n := 30) (by decide) rfl rfl rfl (fun m I' hm h58 h => ?_) (fun I' h => ?_) hP hQ
  · have g := on_n (a := 612 + m) (by omega)
    have gm := on_n (a := m) (by omega)
    rw [pb_178v30_3, if_neg (by rw [show (24 : Int32) = Int32.ofNat 24 from rfl, on_le (by omega) (by omega)]; omega), pb_178v30_9, if_pos rfl, pb_178v30_29, h58, g.2.1, gm.2.1]
    refine ⟨pi_in g.1 (by rw [g.2.2]; omega), pi_in gm.1 (by rw [gm.2.2]; omega), ?_⟩
    rw [pb_178v30_42, pm_u_row, if_neg (by decide), h58, on_s, on_s]
    exact h
  · show pm_wp _ _ _ _ _ _ _
    rw [pb_178v30_3, if_pos (by decide), pb_178v30_58]
    exact h
theorem pb_178v31_0 {d L : Nat} {b : Bool} {I : Nat → Nat → Int32} {J : Nat → Nat → Int64} {x2 x3 : Int32} {Q : Int32 → Int64 → pm_H → Prop} : pm_wc pm_code pm_meta d 178 [.ref 79, .ref 111, .int x2, .int x3] (pm_Gb L b, I, J) Q ↔ pm_wp pm_code pm_meta d 178 3 ([.ref 79, .ref 111, .int x2, .int x3, .int 0], [], (pm_Gb L b, I, J)) Q := (pm_bk_iff pc_ch_178 2 0 _).trans (Iff.rfl)
theorem pb_178v31_3 {d L : Nat} {b : Bool} {I : Nat → Nat → Int32} {J : Nat → Nat → Int64} {x2 x3 x4 : Int32} {Q : Int32 → Int64 → pm_H → Prop} : pm_wp pm_code pm_meta d 178 3 ([.ref 79, .ref 111, .int x2, .int x3, .int x4], [], (pm_Gb L b, I, J)) Q ↔ if x2 ≤ x4 then pm_wp pm_code pm_meta d 178 58 ([.ref 79, .ref 111, .int x2, .int x3, .int x4], [], (pm_Gb L b, I, J)) Q else pm_wp pm_code pm_meta d 178 9 ([.ref 79, .ref 111, .int x2, .int x3, .int x4], [], (pm_Gb L b, I, J)) Q := (pm_bk_iff pc_ch_178 3 3 _).trans (pm_brd)
theorem pb_178v31_58 {d L : Nat} {b : Bool} {I : Nat → Nat → Int32} {J : Nat → Nat → Int64} {x2 x3 x4 : Int32} {Q : Int32 → Int64 → pm_H → Prop} : pm_wp pm_code pm_meta d 178 58 ([.ref 79, .ref 111, .int x2, .int x3, .int x4], [], (pm_Gb L b, I, J)) Q ↔ Q 0 0 (pm_Gb L b, I, J) := (pm_bk_iff pc_ch_178 1 58 _).trans (pm_tt)
theorem pb_178v31_9 {d L : Nat} {b : Bool} {I : Nat → Nat → Int32} {J : Nat → Nat → Int64} {x2 x3 x4 : Int32} {Q : Int32 → Int64 → pm_H → Prop} : pm_wp pm_code pm_meta d 178 9 ([.ref 79, .ref 111, .int x2, .int x3, .int x4], [], (pm_Gb L b, I, J)) Q ↔ if x3 = 0 then pm_wp pm_code pm_meta d 178 29 ([.ref 79, .ref 111, .int x2, .int x3, .int x4], [], (pm_Gb L b, I, J)) Q else pm_wp pm_code pm_meta d 178 13 ([.ref 79, .ref 111, .int x2, .int x3, .int x4], [], (pm_Gb L b, I, J)) Q := (pm_bk_iff pc_ch_178 2 9 _).trans (pm_brd)
theorem pb_178v31_29 {d L : Nat} {b : Bool} {I : Nat → Nat → Int32} {J : Nat → Nat → Int64} {x2 x3 x4 : Int32} {Q : Int32 → Int64 → pm_H → Prop} : pm_wp pm_code pm_meta d 178 29 ([.ref 79, .ref 111, .int x2, .int x3, .int x4], [], (pm_Gb L b, I, J)) Q ↔ pm_in (I 79 58) 4200 = true ∧ (pm_in x4 72 = true ∧ (pm_wp pm_code pm_meta d 178 42 ([.ref 79, .ref 111, .int x2, .int x3, .int x4], [], (pm_Gb L b, (pm_u I 111 x4.toNatClampNeg (I 136 (I 79 58).toNatClampNeg)), J)) Q)) := (pm_bk_iff pc_ch_178 8 29 _).trans (and_congr Iff.rfl (and_congr Iff.rfl (Iff.rfl)))
theorem pb_178v31_13 {d L : Nat} {b : Bool} {I : Nat → Nat → Int32} {J : Nat → Nat → Int64} {x2 x3 x4 : Int32} {Q : Int32 → Int64 → pm_H → Prop} : pm_wp pm_code pm_meta d 178 13 ([.ref 79, .ref 111, .int x2, .int x3, .int x4], [], (pm_Gb L b, I, J)) Q ↔ pm_in x4 72 = true ∧ (pm_in (I 79 58) 4200 = true ∧ (pm_wp pm_code pm_meta d 178 42 ([.ref 79, .ref 111, .int x2, .int x3, .int x4], [], (pm_Gb L b, (pm_u I 136 (I 79 58).toNatClampNeg (I 111 x4.toNatClampNeg)), J)) Q)) := (pm_bk_iff pc_ch_178 9 13 _).trans (and_congr Iff.rfl (and_congr Iff.rfl (Iff.rfl)))
theorem pb_178v31_42 {d L : Nat} {b : Bool} {I : Nat → Nat → Int32} {J : Nat → Nat → Int64} {x2 x3 x4 : Int32} {Q : Int32 → Int64 → pm_H → Prop} : pm_wp pm_code pm_meta d 178 42 ([.ref 79, .ref 111, .int x2, .int x3, .int x4], [], (pm_Gb L b, I, J)) Q ↔ pm_wp pm_code pm_meta d 178 3 ([.ref 79, .ref 111, .int x2, .int x3, .int (x4 + 1)], [], (pm_Gb L b, (pm_u I 79 58 ((I 79 58) + 1)), J)) Q := (pm_bk_iff pc_ch_178 8 42 _).trans (Iff.rfl)
theorem cop_k_111 {d L : Nat} {b : Bool} {I : Nat → Nat → Int32} {J : Nat → Nat → Int64} {Q : Int32 → Int64 → pm_H → Prop} {I1 : Nat → Nat → Int32} (hP : pr_kp 31 636 I I1) (hQ : ∀ I2, pr_kp 32 708 I I2 → Q 0 0 (pm_Gb L b, I2, J)) : pm_wc pm_code pm_meta d 178 [.ref 79, .ref 111, .int 72, .int 1] (pm_Gb L b, I1, J) Q := by
  rw [pb_178v31_0]
  refine cop_k (A := fun x I' => pm_wp pm_code pm_meta d 178 3 ([.ref 79, .ref 111, .int 72, .int 1, .int x], [], (pm_Gb L b, I', J)) Q) (E' := fun _ I' => Q 0 0 (pm_Gb L b, I', J)) (r := 111) (of := 636) (len := 72) (n := 31) (by decide) rfl rfl rfl (fun m I' hm h58 h => ?_) (fun I' h => ?_) hP hQ
  · have g := on_n (a := 636 + m) (by omega)
    have gm := on_n (a := m) (by omega)
    rw [pb_178v31_3, if_neg (by rw [show (72 : Int32) = Int32.ofNat 72 from rfl, on_le (by omega) (by omega)]; omega), pb_178v31_9, if_neg (by decide), pb_178v31_13, h58, g.2.1, gm.2.1]
    refine ⟨pi_in gm.1 (by rw [gm.2.2]; omega), pi_in g.1 (by rw [g.2.2]; omega), ?_⟩
    rw [pb_178v31_42, pm_u_row, if_neg (by decide), h58, on_s, on_s]
    exact h
  · show pm_wp _ _ _ _ _ _ _
    rw [pb_178v31_3, if_pos (by decide), pb_178v31_58]
    exact h
theorem cop_a_111 {d L : Nat} {b : Bool} {I : Nat → Nat → Int32} {J : Nat → Nat → Int64} {Q : Int32 → Int64 → pm_H → Prop} {I1 : Nat → Nat → Int32} (hP : pr_ap 31 636 I I1) (hQ : ∀ I2, pr_ap 32 708 I I2 → Q 0 0 (pm_Gb L b, I2, J)) : pm_wc pm_code pm_meta d 178 [.ref 79, .ref 111, .int 72, .int 0] (pm_Gb L b, I1, J) Q := by
  rw [pb_178v31_0]
  refine cop_a (A := fun x I' => pm_wp pm_code pm_meta d 178 3 ([.ref 79, .ref 111, .int 72, .int 0, .int x], [], (pm_Gb L b, I', J)) Q) (E' := fun _ I' => Q 0 0 (pm_Gb L b, I', J)) (r := 111) (of := 636) (len := 72) (n := 31) (by decide) rfl rfl rfl (fun m I' hm h58 h => ?_) (fun I' h => ?_) hP hQ
  · have g := on_n (a := 636 + m) (by omega)
    have gm := on_n (a := m) (by omega)
    rw [pb_178v31_3, if_neg (by rw [show (72 : Int32) = Int32.ofNat 72 from rfl, on_le (by omega) (by omega)]; omega), pb_178v31_9, if_pos rfl, pb_178v31_29, h58, g.2.1, gm.2.1]
    refine ⟨pi_in g.1 (by rw [g.2.2]; omega), pi_in gm.1 (by rw [gm.2.2]; omega), ?_⟩
    rw [pb_178v31_42, pm_u_row, if_neg (by decide), h58, on_s, on_s]
    exact h
  · show pm_wp _ _ _ _ _ _ _
    rw [pb_178v31_3, if_pos (by decide), pb_178v31_58]
    exact h
theorem pb_178v32_0 {d L : Nat} {b : Bool} {I : Nat → Nat → Int32} {J : Nat → Nat → Int64} {x2 x3 : Int32} {Q : Int32 → Int64 → pm_H → Prop} : pm_wc pm_code pm_meta d 178 [.ref 79, .ref 112, .int x2, .int x3] (pm_Gb L b, I, J) Q ↔ pm_wp pm_code pm_meta d 178 3 ([.ref 79, .ref 112, .int x2, .int x3, .int 0], [], (pm_Gb L b, I, J)) Q := (pm_bk_iff pc_ch_178 2 0 _).trans (Iff.rfl)
theorem pb_178v32_3 {d L : Nat} {b : Bool} {I : Nat → Nat → Int32} {J : Nat → Nat → Int64} {x2 x3 x4 : Int32} {Q : Int32 → Int64 → pm_H → Prop} : pm_wp pm_code pm_meta d 178 3 ([.ref 79, .ref 112, .int x2, .int x3, .int x4], [], (pm_Gb L b, I, J)) Q ↔ if x2 ≤ x4 then pm_wp pm_code pm_meta d 178 58 ([.ref 79, .ref 112, .int x2, .int x3, .int x4], [], (pm_Gb L b, I, J)) Q else pm_wp pm_code pm_meta d 178 9 ([.ref 79, .ref 112, .int x2, .int x3, .int x4], [], (pm_Gb L b, I, J)) Q := (pm_bk_iff pc_ch_178 3 3 _).trans (pm_brd)
theorem pb_178v32_58 {d L : Nat} {b : Bool} {I : Nat → Nat → Int32} {J : Nat → Nat → Int64} {x2 x3 x4 : Int32} {Q : Int32 → Int64 → pm_H → Prop} : pm_wp pm_code pm_meta d 178 58 ([.ref 79, .ref 112, .int x2, .int x3, .int x4], [], (pm_Gb L b, I, J)) Q ↔ Q 0 0 (pm_Gb L b, I, J) := (pm_bk_iff pc_ch_178 1 58 _).trans (pm_tt)
theorem pb_178v32_9 {d L : Nat} {b : Bool} {I : Nat → Nat → Int32} {J : Nat → Nat → Int64} {x2 x3 x4 : Int32} {Q : Int32 → Int64 → pm_H → Prop} : pm_wp pm_code pm_meta d 178 9 ([.ref 79, .ref 112, .int x2, .int x3, .int x4], [], (pm_Gb L b, I, J)) Q ↔ if x3 = 0 then pm_wp pm_code pm_meta d 178 29 ([.ref 79, .ref 112, .int x2, .int x3, .int x4], [], (pm_Gb L b, I, J)) Q else pm_wp pm_code pm_meta d 178 13 ([.ref 79, .ref 112, .int x2, .int x3, .int x4], [], (pm_Gb L b, I, J)) Q := (pm_bk_iff pc_ch_178 2 9 _).trans (pm_brd)
theorem pb_178v32_29 {d L : Nat} {b : Bool} {I : Nat → Nat → Int32} {J : Nat → Nat → Int64} {x2 x3 x4 : Int32} {Q : Int32 → Int64 → pm_H → Prop} : pm_wp pm_code pm_meta d 178 29 ([.ref 79, .ref 112, .int x2, .int x3, .int x4], [], (pm_Gb L b, I, J)) Q ↔ pm_in (I 79 58) 4200 = true ∧ (pm_in x4 13 = true ∧ (pm_wp pm_code pm_meta d 178 42 ([.ref 79, .ref 112, .int x2, .int x3, .int x4], [], (pm_Gb L b, (pm_u I 112 x4.toNatClampNeg (I 136 (I 79 58).toNatClampNeg)), J)) Q)) := (pm_bk_iff pc_ch_178 8 29 _).trans (and_congr Iff.rfl (and_congr Iff.rfl (Iff.rfl)))
theorem pb_178v32_13 {d L : Nat} {b : Bool} {I : Nat → Nat → Int32} {J : Nat → Nat → Int64} {x2 x3 x4 : Int32} {Q : Int32 → Int64 → pm_H → Prop} : pm_wp pm_code pm_meta d 178 13 ([.ref 79, .ref 112, .int x2, .int x3, .int x4], [], (pm_Gb L b, I, J)) Q ↔ pm_in x4 13 = true ∧ (pm_in (I 79 58) 4200 = true ∧ (pm_wp pm_code pm_meta d 178 42 ([.ref 79, .ref 112, .int x2, .int x3, .int x4], [], (pm_Gb L b, (pm_u I 136 (I 79 58).toNatClampNeg (I 112 x4.toNatClampNeg)), J)) Q)) := (pm_bk_iff pc_ch_178 9 13 _).trans (and_congr Iff.rfl (and_congr Iff.rfl (Iff.rfl)))
theorem pb_178v32_42 {d L : Nat} {b : Bool} {I : Nat → Nat → Int32} {J : Nat → Nat → Int64} {x2 x3 x4 : Int32} {Q : Int32 → Int64 → pm_H → Prop} : pm_wp pm_code pm_meta d 178 42 ([.ref 79, .ref 112, .int x2, .int x3, .int x4], [], (pm_Gb L b, I, J)) Q ↔ pm_wp pm_code pm_meta d 178 3 ([.ref 79, .ref 112, .int x2, .int x3, .int (x4 + 1)], [], (pm_Gb L b, (pm_u I 79 58 ((I 79 58) + 1)), J)) Q := (pm_bk_iff pc_ch_178 8 42 _).trans (Iff.rfl)
theorem cop_k_112 {d L : Nat} {b : Bool} {I : Nat → Nat → Int32} {J : Nat → Nat → Int64} {Q : Int32 → Int64 → pm_H → Prop} {I1 : Nat → Nat → Int32} (hP : pr_kp 32 708 I I1) (hQ : ∀ I2, pr_kp 33 720 I I2 → Q 0 0 (pm_Gb L b, I2, J)) : pm_wc pm_code pm_meta d 178 [.ref 79, .ref 112, .int 12, .int 1] (pm_Gb L b, I1, J) Q := by
  rw [pb_178v32_0]
  refine cop_k (A := fun x I' => pm_wp pm_code pm_meta d 178 3 ([.ref 79, .ref 112, .int 12, .int 1, .int x], [], (pm_Gb L b, I', J)) Q) (E' := fun _ I' => Q 0 0 (pm_Gb L b, I', J)) (r := 112) (of := 708) (len := 12) (n := 32) (by decide) rfl rfl rfl (fun m I' hm h58 h => ?_) (fun I' h => ?_) hP hQ
  · have g := on_n (a := 708 + m) (by omega)
    have gm := on_n (a := m) (by omega)
    rw [pb_178v32_3, if_neg (by rw [show (12 : Int32) = Int32.ofNat 12 from rfl, on_le (by omega) (by omega)]; omega), pb_178v32_9, if_neg (by decide), pb_178v32_13, h58, g.2.1, gm.2.1]
    refine ⟨pi_in gm.1 (by rw [gm.2.2]; omega), pi_in g.1 (by rw [g.2.2]; omega), ?_⟩
    rw [pb_178v32_42, pm_u_row, if_neg (by decide), h58, on_s, on_s]
    exact h
  · show pm_wp _ _ _ _ _ _ _
    rw [pb_178v32_3, if_pos (by decide), pb_178v32_58]
    exact h
theorem cop_a_112 {d L : Nat} {b : Bool} {I : Nat → Nat → Int32} {J : Nat → Nat → Int64} {Q : Int32 → Int64 → pm_H → Prop} {I1 : Nat → Nat → Int32} (hP : pr_ap 32 708 I I1) (hQ : ∀ I2, pr_ap 33 720 I I2 → Q 0 0 (pm_Gb L b, I2, J)) : pm_wc pm_code pm_meta d 178 [.ref 79, .ref 112, .int 12, .int 0] (pm_Gb L b, I1, J) Q := by
  rw [pb_178v32_0]
  refine cop_a (A := fun x I' => pm_wp pm_code pm_meta d 178 3 ([.ref 79, .ref 112, .int 12, .int 0, .int x], [], (pm_Gb L b, I', J)) Q) (E' := fun _ I' => Q 0 0 (pm_Gb L b, I', J)) (r := 112) (of := 708) (len := 12) (n := 32) (by decide) rfl rfl rfl (fun m I' hm h58 h => ?_) (fun I' h => ?_) hP hQ
  · have g := on_n (a := 708 + m) (by omega)
    have gm := on_n (a := m) (by omega)
    rw [pb_178v32_3, if_neg (by rw [show (12 : Int32) = Int32.ofNat 12 from rfl, on_le (by omega) (by omega)]; omega), pb_178v32_9, if_pos rfl, pb_178v32_29, h58, g.2.1, gm.2.1]
    refine ⟨pi_in g.1 (by rw [g.2.2]; omega), pi_in gm.1 (by rw [gm.2.2]; omega), ?_⟩
    rw [pb_178v32_42, pm_u_row, if_neg (by decide), h58, on_s, on_s]
    exact h
  · show pm_wp _ _ _ _ _ _ _
    rw [pb_178v32_3, if_pos (by decide), pb_178v32_58]
    exact h
theorem pb_178v33_0 {d L : Nat} {b : Bool} {I : Nat → Nat → Int32} {J : Nat → Nat → Int64} {x2 x3 : Int32} {Q : Int32 → Int64 → pm_H → Prop} : pm_wc pm_code pm_meta d 178 [.ref 79, .ref 113, .int x2, .int x3] (pm_Gb L b, I, J) Q ↔ pm_wp pm_code pm_meta d 178 3 ([.ref 79, .ref 113, .int x2, .int x3, .int 0], [], (pm_Gb L b, I, J)) Q := (pm_bk_iff pc_ch_178 2 0 _).trans (Iff.rfl)
theorem pb_178v33_3 {d L : Nat} {b : Bool} {I : Nat → Nat → Int32} {J : Nat → Nat → Int64} {x2 x3 x4 : Int32} {Q : Int32 → Int64 → pm_H → Prop} : pm_wp pm_code pm_meta d 178 3 ([.ref 79, .ref 113, .int x2, .int x3, .int x4], [], (pm_Gb L b, I, J)) Q ↔ if x2 ≤ x4 then pm_wp pm_code pm_meta d 178 58 ([.ref 79, .ref 113, .int x2, .int x3, .int x4], [], (pm_Gb L b, I, J)) Q else pm_wp pm_code pm_meta d 178 9 ([.ref 79, .ref 113, .int x2, .int x3, .int x4], [], (pm_Gb L b, I, J)) Q := (pm_bk_iff pc_ch_178 3 3 _).trans (pm_brd)
theorem pb_178v33_58 {d L : Nat} {b : Bool} {I : Nat → Nat → Int32} {J : Nat → Nat → Int64} {x2 x3 x4 : Int32} {Q : Int32 → Int64 → pm_H → Prop} : pm_wp pm_code pm_meta d 178 58 ([.ref 79, .ref 113, .int x2, .int x3, .int x4], [], (pm_Gb L b, I, J)) Q ↔ Q 0 0 (pm_Gb L b, I, J) := (pm_bk_iff pc_ch_178 1 58 _).trans (pm_tt)
theorem pb_178v33_9 {d L : Nat} {b : Bool} {I : Nat → Nat → Int32} {J : Nat → Nat → Int64} {x2 x3 x4 : Int32} {Q : Int32 → Int64 → pm_H → Prop} : pm_wp pm_code pm_meta d 178 9 ([.ref 79, .ref 113, .int x2, .int x3, .int x4], [], (pm_Gb L b, I, J)) Q ↔ if x3 = 0 then pm_wp pm_code pm_meta d 178 29 ([.ref 79, .ref 113, .int x2, .int x3, .int x4], [], (pm_Gb L b, I, J)) Q else pm_wp pm_code pm_meta d 178 13 ([.ref 79, .ref 113, .int x2, .int x3, .int x4], [], (pm_Gb L b, I, J)) Q := (pm_bk_iff pc_ch_178 2 9 _).trans (pm_brd)
theorem pb_178v33_29 {d L : Nat} {b : Bool} {I : Nat → Nat → Int32} {J : Nat → Nat → Int64} {x2 x3 x4 : Int32} {Q : Int32 → Int64 → pm_H → Prop} : pm_wp pm_code pm_meta d 178 29 ([.ref 79, .ref 113, .int x2, .int x3, .int x4], [], (pm_Gb L b, I, J)) Q ↔ pm_in (I 79 58) 4200 = true ∧ (pm_in x4 13 = true ∧ (pm_wp pm_code pm_meta d 178 42 ([.ref 79, .ref 113, .int x2, .int x3, .int x4], [], (pm_Gb L b, (pm_u I 113 x4.toNatClampNeg (I 136 (I 79 58).toNatClampNeg)), J)) Q)) := (pm_bk_iff pc_ch_178 8 29 _).trans (and_congr Iff.rfl (and_congr Iff.rfl (Iff.rfl)))
theorem pb_178v33_13 {d L : Nat} {b : Bool} {I : Nat → Nat → Int32} {J : Nat → Nat → Int64} {x2 x3 x4 : Int32} {Q : Int32 → Int64 → pm_H → Prop} : pm_wp pm_code pm_meta d 178 13 ([.ref 79, .ref 113, .int x2, .int x3, .int x4], [], (pm_Gb L b, I, J)) Q ↔ pm_in x4 13 = true ∧ (pm_in (I 79 58) 4200 = true ∧ (pm_wp pm_code pm_meta d 178 42 ([.ref 79, .ref 113, .int x2, .int x3, .int x4], [], (pm_Gb L b, (pm_u I 136 (I 79 58).toNatClampNeg (I 113 x4.toNatClampNeg)), J)) Q)) := (pm_bk_iff pc_ch_178 9 13 _).trans (and_congr Iff.rfl (and_congr Iff.rfl (Iff.rfl)))
theorem pb_178v33_42 {d L : Nat} {b : Bool} {I : Nat → Nat → Int32} {J : Nat → Nat → Int64} {x2 x3 x4 : Int32} {Q : Int32 → Int64 → pm_H → Prop} : pm_wp pm_code pm_meta d 178 42 ([.ref 79, .ref 113, .int x2, .int x3, .int x4], [], (pm_Gb L b, I, J)) Q ↔ pm_wp pm_code pm_meta d 178 3 ([.ref 79, .ref 113, .int x2, .int x3, .int (x4 + 1)], [], (pm_Gb L b, (pm_u I 79 58 ((I 79 58) + 1)), J)) Q := (pm_bk_iff pc_ch_178 8 42 _).trans (Iff.rfl)
theorem cop_k_113 {d L : Nat} {b : Bool} {I : Nat → Nat → Int32} {J : Nat → Nat → Int64} {Q : Int32 → Int64 → pm_H → Prop} {I1 : Nat → Nat → Int32} (hP : pr_kp 33 720 I I1) (hQ : ∀ I2, pr_kp 34 732 I I2 → Q 0 0 (pm_Gb L b, I2, J)) : pm_wc pm_code pm_meta d 178 [.ref 79, .ref 113, .int 12, .int 1] (pm_Gb L b, I1, J) Q := by
  rw [pb_178v33_0]
  refine cop_k (A := fun x I' => pm_wp pm_code pm_meta d 178 3 ([.ref 79, .ref 113, .int 12, .int 1, .int x], [], (pm_Gb L b, I', J)) Q) (E' := fun _ I' => Q 0 0 (pm_Gb L b, I', J)) (r := 113) (of := 720) (len := 12) (n := 33) (by decide) rfl rfl rfl (fun m I' hm h58 h => ?_) (fun I' h => ?_) hP hQ
  · have g := on_n (a := 720 + m) (by omega)
    have gm := on_n (a := m) (by omega)
    rw [pb_178v33_3, if_neg (by rw [show (12 : Int32) = Int32.ofNat 12 from rfl, on_le (by omega) (by omega)]; omega), pb_178v33_9, if_neg (by decide), pb_178v33_13, h58, g.2.1, gm.2.1]
    refine ⟨pi_in gm.1 (by rw [gm.2.2]; omega), pi_in g.1 (by rw [g.2.2]; omega), ?_⟩
    rw [pb_178v33_42, pm_u_row, if_neg (by decide), h58, on_s, on_s]
    exact h
  · show pm_wp _ _ _ _ _ _ _
    rw [pb_178v33_3, if_pos (by decide), pb_178v33_58]
    exact h
theorem cop_a_113 {d L : Nat} {b : Bool} {I : Nat → Nat → Int32} {J : Nat → Nat → Int64} {Q : Int32 → Int64 → pm_H → Prop} {I1 : Nat → Nat → Int32} (hP : pr_ap 33 720 I I1) (hQ : ∀ I2, pr_ap 34 732 I I2 → Q 0 0 (pm_Gb L b, I2, J)) : pm_wc pm_code pm_meta d 178 [.ref 79, .ref 113, .int 12, .int 0] (pm_Gb L b, I1, J) Q := by
  rw [pb_178v33_0]
  refine cop_a (A := fun x I' => pm_wp pm_code pm_meta d 178 3 ([.ref 79, .ref 113, .int 12, .int 0, .int x], [], (pm_Gb L b, I', J)) Q) (E' := fun _ I' => Q 0 0 (pm_Gb L b, I', J)) (r := 113) (of := 720) (len := 12) (n := 33) (by decide) rfl rfl rfl (fun m I' hm h58 h => ?_) (fun I' h => ?_) hP hQ
  · have g := on_n (a := 720 + m) (by omega)
    have gm := on_n (a := m) (by omega)
    rw [pb_178v33_3, if_neg (by rw [show (12 : Int32) = Int32.ofNat 12 from rfl, on_le (by omega) (by omega)]; omega), pb_178v33_9, if_pos rfl, pb_178v33_29, h58, g.2.1, gm.2.1]
    refine ⟨pi_in g.1 (by rw [g.2.2]; omega), pi_in gm.1 (by rw [gm.2.2]; omega), ?_⟩
    rw [pb_178v33_42, pm_u_row, if_neg (by decide), h58, on_s, on_s]
    exact h
  · show pm_wp _ _ _ _ _ _ _
    rw [pb_178v33_3, if_pos (by decide), pb_178v33_58]
    exact h
theorem pb_178v34_0 {d L : Nat} {b : Bool} {I : Nat → Nat → Int32} {J : Nat → Nat → Int64} {x2 x3 : Int32} {Q : Int32 → Int64 → pm_H → Prop} : pm_wc pm_code pm_meta d 178 [.ref 79, .ref 114, .int x2, .int x3] (pm_Gb L b, I, J) Q ↔ pm_wp pm_code pm_meta d 178 3 ([.ref 79, .ref 114, .int x2, .int x3, .int 0], [], (pm_Gb L b, I, J)) Q := (pm_bk_iff pc_ch_178 2 0 _).trans (Iff.rfl)
theorem pb_178v34_3 {d L : Nat} {b : Bool} {I : Nat → Nat → Int32} {J : Nat → Nat → Int64} {x2 x3 x4 : Int32} {Q : Int32 → Int64 → pm_H → Prop} : pm_wp pm_code pm_meta d 178 3 ([.ref 79, .ref 114, .int x2, .int x3, .int x4], [], (pm_Gb L b, I, J)) Q ↔ if x2 ≤ x4 then pm_wp pm_code pm_meta d 178 58 ([.ref 79, .ref 114, .int x2, .int x3, .int x4], [], (pm_Gb L b, I, J)) Q else pm_wp pm_code pm_meta d 178 9 ([.ref 79, .ref 114, .int x2, .int x3, .int x4], [], (pm_Gb L b, I, J)) Q := (pm_bk_iff pc_ch_178 3 3 _).trans (pm_brd)
theorem pb_178v34_58 {d L : Nat} {b : Bool} {I : Nat → Nat → Int32} {J : Nat → Nat → Int64} {x2 x3 x4 : Int32} {Q : Int32 → Int64 → pm_H → Prop} : pm_wp pm_code pm_meta d 178 58 ([.ref 79, .ref 114, .int x2, .int x3, .int x4], [], (pm_Gb L b, I, J)) Q ↔ Q 0 0 (pm_Gb L b, I, J) := (pm_bk_iff pc_ch_178 1 58 _).trans (pm_tt)
theorem pb_178v34_9 {d L : Nat} {b : Bool} {I : Nat → Nat → Int32} {J : Nat → Nat → Int64} {x2 x3 x4 : Int32} {Q : Int32 → Int64 → pm_H → Prop} : pm_wp pm_code pm_meta d 178 9 ([.ref 79, .ref 114, .int x2, .int x3, .int x4], [], (pm_Gb L b, I, J)) Q ↔ if x3 = 0 then pm_wp pm_code pm_meta d 178 29 ([.ref 79, .ref 114, .int x2, .int x3, .int x4], [], (pm_Gb L b, I, J)) Q else pm_wp pm_code pm_meta d 178 13 ([.ref 79, .ref 114, .int x2, .int x3, .int x4], [], (pm_Gb L b, I, J)) Q := (pm_bk_iff pc_ch_178 2 9 _).trans (pm_brd)
theorem pb_178v34_29 {d L : Nat} {b : Bool} {I : Nat → Nat → Int32} {J : Nat → Nat → Int64} {x2 x3 x4 : Int32} {Q : Int32 → Int64 → pm_H → Prop} : pm_wp pm_code pm_meta d 178 29 ([.ref 79, .ref 114, .int x2, .int x3, .int x4], [], (pm_Gb L b, I, J)) Q ↔ pm_in (I 79 58) 4200 = true ∧ (pm_in x4 13 = true ∧ (pm_wp pm_code pm_meta d 178 42 ([.ref 79, .ref 114, .int x2, .int x3, .int x4], [], (pm_Gb L b, (pm_u I 114 x4.toNatClampNeg (I 136 (I 79 58).toNatClampNeg)), J)) Q)) := (pm_bk_iff pc_ch_178 8 29 _).trans (and_congr Iff.rfl (and_congr Iff.rfl (Iff.rfl)))
theorem pb_178v34_13 {d L : Nat} {b : Bool} {I : Nat → Nat → Int32} {J : Nat → Nat → Int64} {x2 x3 x4 : Int32} {Q : Int32 → Int64 → pm_H → Prop} : pm_wp pm_code pm_meta d 178 13 ([.ref 79, .ref 114, .int x2, .int x3, .int x4], [], (pm_Gb L b, I, J)) Q ↔ pm_in x4 13 = true ∧ (pm_in (I 79 58) 4200 = true ∧ (pm_wp pm_code pm_meta d 178 42 ([.ref 79, .ref 114, .int x2, .int x3, .int x4], [], (pm_Gb L b, (pm_u I 136 (I 79 58).toNatClampNeg (I 114 x4.toNatClampNeg)), J)) Q)) := (pm_bk_iff pc_ch_178 9 13 _).trans (and_congr Iff.rfl (and_congr Iff.rfl (Iff.rfl)))
theorem pb_178v34_42 {d L : Nat} {b : Bool} {I : Nat → Nat → Int32} {J : Nat → Nat → Int64} {x2 x3 x4 : Int32} {Q : Int32 → Int64 → pm_H → Prop} : pm_wp pm_code pm_meta d 178 42 ([.ref 79, .ref 114, .int x2, .int x3, .int x4], [], (pm_Gb L b, I, J)) Q ↔ pm_wp pm_code pm_meta d 178 3 ([.ref 79, .ref 114, .int x2, .int x3, .int (x4 + 1)], [], (pm_Gb L b, (pm_u I 79 58 ((I 79 58) + 1)), J)) Q := (pm_bk_iff pc_ch_178 8 42 _).trans (Iff.rfl)
theorem cop_k_114 {d L : Nat} {b : Bool} {I : Nat → Nat → Int32} {J : Nat → Nat → Int64} {Q : Int32 → Int64 → pm_H → Prop} {I1 : Nat → Nat → Int32} (hP : pr_kp 34 732 I I1) (hQ : ∀ I2, pr_kp 35 744 I I2 → Q 0 0 (pm_Gb L b, I2, J)) : pm_wc pm_code pm_meta d 178 [.ref 79, .ref 114, .int 12, .int 1] (pm_Gb L b, I1, J) Q := by
  rw [pb_178v34_0]
  refine cop_k (A := fun x I' => pm_wp pm_code pm_meta d 178 3 ([.ref 79, .ref 114, .int 12, .int 1, .int x], [], (pm_Gb L b, I', J)) Q) (E' := fun _ I' => Q 0 0 (pm_Gb L b, I', J)) (r := 114) (of := 732) (len := 12) (n := 34) (by decide) rfl rfl rfl (fun m I' hm h58 h => ?_) (fun I' h => ?_) hP hQ
  · have g := on_n (a := 732 + m) (by omega)
    have gm := on_n (a := m) (by omega)
    rw [pb_178v34_3, if_neg (by rw [show (12 : Int32) = Int32.ofNat 12 from rfl, on_le (by omega) (by omega)]; omega), pb_178v34_9, if_neg (by decide), pb_178v34_13, h58, g.2.1, gm.2.1]
    refine ⟨pi_in gm.1 (by rw [gm.2.2]; omega), pi_in g.1 (by rw [g.2.2]; omega), ?_⟩
    rw [pb_178v34_42, pm_u_row, if_neg (by decide), h58, on_s, on_s]
    exact h
  · show pm_wp _ _ _ _ _ _ _
    rw [pb_178v34_3, if_pos (by decide), pb_178v34_58]
    exact h
theorem cop_a_114 {d L : Nat} {b : Bool} {I : Nat → Nat → Int32} {J : Nat → Nat → Int64} {Q : Int32 → Int64 → pm_H → Prop} {I1 : Nat → Nat → Int32} (hP : pr_ap 34 732 I I1) (hQ : ∀ I2, pr_ap 35 744 I I2 → Q 0 0 (pm_Gb L b, I2, J)) : pm_wc pm_code pm_meta d 178 [.ref 79, .ref 114, .int 12, .int 0] (pm_Gb L b, I1, J) Q := by
  rw [pb_178v34_0]
  refine cop_a (A := fun x I' => pm_wp pm_code pm_meta d 178 3 ([.ref 79, .ref 114, .int 12, .int 0, .int x], [], (pm_Gb L b, I', J)) Q) (E' := fun _ I' => Q 0 0 (pm_Gb L b, I', J)) (r := 114) (of := 732) (len := 12) (n := 34) (by decide) rfl rfl rfl (fun m I' hm h58 h => ?_) (fun I' h => ?_) hP hQ
  · have g := on_n (a := 732 + m) (by omega)
    have gm := on_n (a := m) (by omega)
    rw [pb_178v34_3, if_neg (by rw [show (12 : Int32) = Int32.ofNat 12 from rfl, on_le (by omega) (by omega)]; omega), pb_178v34_9, if_pos rfl, pb_178v34_29, h58, g.2.1, gm.2.1]
    refine ⟨pi_in g.1 (by rw [g.2.2]; omega), pi_in gm.1 (by rw [gm.2.2]; omega), ?_⟩
    rw [pb_178v34_42, pm_u_row, if_neg (by decide), h58, on_s, on_s]
    exact h
  · show pm_wp _ _ _ _ _ _ _
    rw [pb_178v34_3, if_pos (by decide), pb_178v34_58]
    exact h
theorem pb_178v35_0 {d L : Nat} {b : Bool} {I : Nat → Nat → Int32} {J : Nat → Nat → Int64} {x2 x3 : Int32} {Q : Int32 → Int64 → pm_H → Prop} : pm_wc pm_code pm_meta d 178 [.ref 79, .ref 115, .int x2, .int x3] (pm_Gb L b, I, J) Q ↔ pm_wp pm_code pm_meta d 178 3 ([.ref 79, .ref 115, .int x2, .int x3, .int 0], [], (pm_Gb L b, I, J)) Q := (pm_bk_iff pc_ch_178 2 0 _).trans (Iff.rfl)
theorem pb_178v35_3 {d L : Nat} {b : Bool} {I : Nat → Nat → Int32} {J : Nat → Nat → Int64} {x2 x3 x4 : Int32} {Q : Int32 → Int64 → pm_H → Prop} : pm_wp pm_code pm_meta d 178 3 ([.ref 79, .ref 115, .int x2, .int x3, .int x4], [], (pm_Gb L b, I, J)) Q ↔ if x2 ≤ x4 then pm_wp pm_code pm_meta d 178 58 ([.ref 79, .ref 115, .int x2, .int x3, .int x4], [], (pm_Gb L b, I, J)) Q else pm_wp pm_code pm_meta d 178 9 ([.ref 79, .ref 115, .int x2, .int x3, .int x4], [], (pm_Gb L b, I, J)) Q := (pm_bk_iff pc_ch_178 3 3 _).trans (pm_brd)
theorem pb_178v35_58 {d L : Nat} {b : Bool} {I : Nat → Nat → Int32} {J : Nat → Nat → Int64} {x2 x3 x4 : Int32} {Q : Int32 → Int64 → pm_H → Prop} : pm_wp pm_code pm_meta d 178 58 ([.ref 79, .ref 115, .int x2, .int x3, .int x4], [], (pm_Gb L b, I, J)) Q ↔ Q 0 0 (pm_Gb L b, I, J) := (pm_bk_iff pc_ch_178 1 58 _).trans (pm_tt)
theorem pb_178v35_9 {d L : Nat} {b : Bool} {I : Nat → Nat → Int32} {J : Nat → Nat → Int64} {x2 x3 x4 : Int32} {Q : Int32 → Int64 → pm_H → Prop} : pm_wp pm_code pm_meta d 178 9 ([.ref 79, .ref 115, .int x2, .int x3, .int x4], [], (pm_Gb L b, I, J)) Q ↔ if x3 = 0 then pm_wp pm_code pm_meta d 178 29 ([.ref 79, .ref 115, .int x2, .int x3, .int x4], [], (pm_Gb L b, I, J)) Q else pm_wp pm_code pm_meta d 178 13 ([.ref 79, .ref 115, .int x2, .int x3, .int x4], [], (pm_Gb L b, I, J)) Q := (pm_bk_iff pc_ch_178 2 9 _).trans (pm_brd)
theorem pb_178v35_29 {d L : Nat} {b : Bool} {I : Nat → Nat → Int32} {J : Nat → Nat → Int64} {x2 x3 x4 : Int32} {Q : Int32 → Int64 → pm_H → Prop} : pm_wp pm_code pm_meta d 178 29 ([.ref 79, .ref 115, .int x2, .int x3, .int x4], [], (pm_Gb L b, I, J)) Q ↔ pm_in (I 79 58) 4200 = true ∧ (pm_in x4 13 = true ∧ (pm_wp pm_code pm_meta d 178 42 ([.ref 79, .ref 115, .int x2, .int x3, .int x4], [], (pm_Gb L b, (pm_u I 115 x4.toNatClampNeg (I 136 (I 79 58).toNatClampNeg)), J)) Q)) := (pm_bk_iff pc_ch_178 8 29 _).trans (and_congr Iff.rfl (and_congr Iff.rfl (Iff.rfl)))
theorem pb_178v35_13 {d L : Nat} {b : Bool} {I : Nat → Nat → Int32} {J : Nat → Nat → Int64} {x2 x3 x4 : Int32} {Q : Int32 → Int64 → pm_H → Prop} : pm_wp pm_code pm_meta d 178 13 ([.ref 79, .ref 115, .int x2, .int x3, .int x4], [], (pm_Gb L b, I, J)) Q ↔ pm_in x4 13 = true ∧ (pm_in (I 79 58) 4200 = true ∧ (pm_wp pm_code pm_meta d 178 42 ([.ref 79, .ref 115, .int x2, .int x3, .int x4], [], (pm_Gb L b, (pm_u I 136 (I 79 58).toNatClampNeg (I 115 x4.toNatClampNeg)), J)) Q)) := (pm_bk_iff pc_ch_178 9 13 _).trans (and_congr Iff.rfl (and_congr Iff.rfl (Iff.rfl)))
theorem pb_178v35_42 {d L : Nat} {b : Bool} {I : Nat → Nat → Int32} {J : Nat → Nat → Int64} {x2 x3 x4 : Int32} {Q : Int32 → Int64 → pm_H → Prop} : pm_wp pm_code pm_meta d 178 42 ([.ref 79, .ref 115, .int x2, .int x3, .int x4], [], (pm_Gb L b, I, J)) Q ↔ pm_wp pm_code pm_meta d 178 3 ([.ref 79, .ref 115, .int x2, .int x3, .int (x4 + 1)], [], (pm_Gb L b, (pm_u I 79 58 ((I 79 58) + 1)), J)) Q := (pm_bk_iff pc_ch_178 8 42 _).trans (Iff.rfl)
theorem cop_k_115 {d L : Nat} {b : Bool} {I : Nat → Nat → Int32} {J : Nat → Nat → Int64} {Q : Int32 → Int64 → pm_H → Prop} {I1 : Nat → Nat → Int32} (hP : pr_kp 35 744 I I1) (hQ : ∀ I2, pr_kp 36 756 I I2 → Q 0 0 (pm_Gb L b, I2, J)) : pm_wc pm_code pm_meta d 178 [.ref 79, .ref 115, .int 12, .int 1] (pm_Gb L b, I1, J) Q := by
  rw [pb_178v35_0]
  refine cop_k (A := fun x I' => pm_wp pm_code pm_meta d 178 3 ([.ref 79, .ref 115, .int 12, .int 1, .int x], [], (pm_Gb L b, I', J)) Q) (E' := fun _ I' => Q 0 0 (pm_Gb L b, I', J)) (r := 115) (of := 744) (len := 12) (n := 35) (by decide) rfl rfl rfl (fun m I' hm h58 h => ?_) (fun I' h => ?_) hP hQ
  · have g := on_n (a := 744 + m) (by omega)
    have gm := on_n (a := m) (by omega)
    rw [pb_178v35_3, if_neg (by rw [show (12 : Int32) = Int32.ofNat 12 from rfl, on_le (by omega) (by omega)]; omega), pb_178v35_9, if_neg (by decide), pb_178v35_13, h58, g.2.1, gm.2.1]
    refine ⟨pi_in gm.1 (by rw [gm.2.2]; omega), pi_in g.1 (by rw [g.2.2]; omega), ?_⟩
    rw [pb_178v35_42, pm_u_row, if_neg (by decide), h58, on_s, on_s]
    exact h
  · show pm_wp _ _ _ _ _ _ _
    rw [pb_178v35_3, if_pos (by decide), pb_178v35_58]
    exact h
theorem cop_a_115 {d L : Nat} {b : Bool} {I : Nat → Nat → Int32} {J : Nat → Nat → Int64} {Q : Int32 → Int64 → pm_H → Prop} {I1 : Nat → Nat → Int32} (hP : pr_ap 35 744 I I1) (hQ : ∀ I2, pr_ap 36 756 I I2 → Q 0 0 (pm_Gb L b, I2, J)) : pm_wc pm_code pm_meta d 178 [.ref 79, .ref 115, .int 12, .int 0] (pm_Gb L b, I1, J) Q := by
  rw [pb_178v35_0]
  refine cop_a (A := fun x I' => pm_wp pm_code pm_meta d 178 3 ([.ref 79, .ref 115, .int 12, .int 0, .int x], [], (pm_Gb L b, I', J)) Q) (E' := fun _ I' => Q 0 0 (pm_Gb L b, I', J)) (r := 115) (of := 744) (len := 12) (n := 35) (by decide) rfl rfl rfl (fun m I' hm h58 h => ?_) (fun I' h => ?_) hP hQ
  · have g := on_n (a := 744 + m) (by omega)
    have gm := on_n (a := m) (by omega)
    rw [pb_178v35_3, if_neg (by rw [show (12 : Int32) = Int32.ofNat 12 from rfl, on_le (by omega) (by omega)]; omega), pb_178v35_9, if_pos rfl, pb_178v35_29, h58, g.2.1, gm.2.1]
    refine ⟨pi_in g.1 (by rw [g.2.2]; omega), pi_in gm.1 (by rw [gm.2.2]; omega), ?_⟩
    rw [pb_178v35_42, pm_u_row, if_neg (by decide), h58, on_s, on_s]
    exact h
  · show pm_wp _ _ _ _ _ _ _
    rw [pb_178v35_3, if_pos (by decide), pb_178v35_58]
    exact h
theorem pb_178v36_0 {d L : Nat} {b : Bool} {I : Nat → Nat → Int32} {J : Nat → Nat → Int64} {x2 x3 : Int32} {Q : Int32 → Int64 → pm_H → Prop} : pm_wc pm_code pm_meta d 178 [.ref 79, .ref 116, .int x2, .int x3] (pm_Gb L b, I, J) Q ↔ pm_wp pm_code pm_meta d 178 3 ([.ref 79, .ref 116, .int x2, .int x3, .int 0], [], (pm_Gb L b, I, J)) Q := (pm_bk_iff pc_ch_178 2 0 _).trans (Iff.rfl)
theorem pb_178v36_3 {d L : Nat} {b : Bool} {I : Nat → Nat → Int32} {J : Nat → Nat → Int64} {x2 x3 x4 : Int32} {Q : Int32 → Int64 → pm_H → Prop} : pm_wp pm_code pm_meta d 178 3 ([.ref 79, .ref 116, .int x2, .int x3, .int x4], [], (pm_Gb L b, I, J)) Q ↔ if x2 ≤ x4 then pm_wp pm_code pm_meta d 178 58 ([.ref 79, .ref 116, .int x2, .int x3, .int x4], [], (pm_Gb L b, I, J)) Q else pm_wp pm_code pm_meta d 178 9 ([.ref 79, .ref 116, .int x2, .int x3, .int x4], [], (pm_Gb L b, I, J)) Q := (pm_bk_iff pc_ch_178 3 3 _).trans (pm_brd)
theorem pb_178v36_58 {d L : Nat} {b : Bool} {I : Nat → Nat → Int32} {J : Nat → Nat → Int64} {x2 x3 x4 : Int32} {Q : Int32 → Int64 → pm_H → Prop} : pm_wp pm_code pm_meta d 178 58 ([.ref 79, .ref 116, .int x2, .int x3, .int x4], [], (pm_Gb L b, I, J)) Q ↔ Q 0 0 (pm_Gb L b, I, J) := (pm_bk_iff pc_ch_178 1 58 _).trans (pm_tt)
theorem pb_178v36_9 {d L : Nat} {b : Bool} {I : Nat → Nat → Int32} {J : Nat → Nat → Int64} {x2 x3 x4 : Int32} {Q : Int32 → Int64 → pm_H → Prop} : pm_wp pm_code pm_meta d 178 9 ([.ref 79, .ref 116, .int x2, .int x3, .int x4], [], (pm_Gb L b, I, J)) Q ↔ if x3 = 0 then pm_wp pm_code pm_meta d 178 29 ([.ref 79, .ref 116, .int x2, .int x3, .int x4], [], (pm_Gb L b, I, J)) Q else pm_wp pm_code pm_meta d 178 13 ([.ref 79, .ref 116, .int x2, .int x3, .int x4], [], (pm_Gb L b, I, J)) Q := (pm_bk_iff pc_ch_178 2 9 _).trans (pm_brd)
theorem pb_178v36_29 {d L : Nat} {b : Bool} {I : Nat → Nat → Int32} {J : Nat → Nat → Int64} {x2 x3 x4 : Int32} {Q : Int32 → Int64 → pm_H → Prop} : pm_wp pm_code pm_meta d 178 29 ([.ref 79, .ref 116, .int x2, .int x3, .int x4], [], (pm_Gb L b, I, J)) Q ↔ pm_in (I 79 58) 4200 = true ∧ (pm_in x4 13 = true ∧ (pm_wp pm_code pm_meta d 178 42 ([.ref 79, .ref 116, .int x2, .int x3, .int x4], [], (pm_Gb L b, (pm_u I 116 x4.toNatClampNeg (I 136 (I 79 58).toNatClampNeg)), J)) Q)) := (pm_bk_iff pc_ch_178 8 29 _).trans (and_congr Iff.rfl (and_congr Iff.rfl (Iff.rfl)))
theorem pb_178v36_13 {d L : Nat} {b : Bool} {I : Nat → Nat → Int32} {J : Nat → Nat → Int64} {x2 x3 x4 : Int32} {Q : Int32 → Int64 → pm_H → Prop} : pm_wp pm_code pm_meta d 178 13 ([.ref 79, .ref 116, .int x2, .int x3, .int x4], [], (pm_Gb L b, I, J)) Q ↔ pm_in x4 13 = true ∧ (pm_in (I 79 58) 4200 = true ∧ (pm_wp pm_code pm_meta d 178 42 ([.ref 79, .ref 116, .int x2, .int x3, .int x4], [], (pm_Gb L b, (pm_u I 136 (I 79 58).toNatClampNeg (I 116 x4.toNatClampNeg)), J)) Q)) := (pm_bk_iff pc_ch_178 9 13 _).trans (and_congr Iff.rfl (and_congr Iff.rfl (Iff.rfl)))
theorem pb_178v36_42 {d L : Nat} {b : Bool} {I : Nat → Nat → Int32} {J : Nat → Nat → Int64} {x2 x3 x4 : Int32} {Q : Int32 → Int64 → pm_H → Prop} : pm_wp pm_code pm_meta d 178 42 ([.ref 79, .ref 116, .int x2, .int x3, .int x4], [], (pm_Gb L b, I, J)) Q ↔ pm_wp pm_code pm_meta d 178 3 ([.ref 79, .ref 116, .int x2, .int x3, .int (x4 + 1)], [], (pm_Gb L b, (pm_u I 79 58 ((I 79 58) + 1)), J)) Q := (pm_bk_iff pc_ch_178 8 42 _).trans (Iff.rfl)
theorem cop_k_116 {d L : Nat} {b : Bool} {I : Nat → Nat → Int32} {J : Nat → Nat → Int64} {Q : Int32 → Int64 → pm_H → Prop} {I1 : Nat → Nat → Int32} (hP : pr_kp 36 756 I I1) (hQ : ∀ I2, pr_kp 37 768 I I2 → Q 0 0 (pm_Gb L b, I2, J)) : pm_wc pm_code pm_meta d 178 [.ref 79, .ref 116, .int 12, .int 1] (pm_Gb L b, I1, J) Q := by
  rw [pb_178v36_0]
  refine cop_k (A := fun x I' => pm_wp pm_code pm_meta d 178 3 ([.ref 79, .ref 116, .int 12, .int 1, .int x], [], (pm_Gb L b, I', J)) Q) (E' := fun _ I' => Q 0 0 (pm_Gb L b, I', J)) (r := 116) (of := 756) (len := 12) (n := 36) (by decide) rfl rfl rfl (fun m I' hm h58 h => ?_) (fun I' h => ?_) hP hQ
  · have g := on_n (a := 756 + m) (by omega)
    have gm := on_n (a := m) (by omega)
    rw [pb_178v36_3, if_neg (by rw [show (12 : Int32) = Int32.ofNat 12 from rfl, on_le (by omega) (by omega)]; omega), pb_178v36_9, if_neg (by decide), pb_178v36_13, h58, g.2.1, gm.2.1]
    refine ⟨pi_in gm.1 (by rw [gm.2.2]; omega), pi_in g.1 (by rw [g.2.2]; omega), ?_⟩
    rw [pb_178v36_42, pm_u_row, if_neg (by decide), h58, on_s, on_s]
    exact h
  · show pm_wp _ _ _ _ _ _ _
    rw [pb_178v36_3, if_pos (by decide), pb_178v36_58]
    exact h
theorem cop_a_116 {d L : Nat} {b : Bool} {I : Nat → Nat → Int32} {J : Nat → Nat → Int64} {Q : Int32 → Int64 → pm_H → Prop} {I1 : Nat → Nat → Int32} (hP : pr_ap 36 756 I I1) (hQ : ∀ I2, pr_ap 37 768 I I2 → Q 0 0 (pm_Gb L b, I2, J)) : pm_wc pm_code pm_meta d 178 [.ref 79, .ref 116, .int 12, .int 0] (pm_Gb L b, I1, J) Q := by
  rw [pb_178v36_0]
  refine cop_a (A := fun x I' => pm_wp pm_code pm_meta d 178 3 ([.ref 79, .ref 116, .int 12, .int 0, .int x], [], (pm_Gb L b, I', J)) Q) (E' := fun _ I' => Q 0 0 (pm_Gb L b, I', J)) (r := 116) (of := 756) (len := 12) (n := 36) (by decide) rfl rfl rfl (fun m I' hm h58 h => ?_) (fun I' h => ?_) hP hQ
  · have g := on_n (a := 756 + m) (by omega)
    have gm := on_n (a := m) (by omega)
    rw [pb_178v36_3, if_neg (by rw [show (12 : Int32) = Int32.ofNat 12 from rfl, on_le (by omega) (by omega)]; omega), pb_178v36_9, if_pos rfl, pb_178v36_29, h58, g.2.1, gm.2.1]
    refine ⟨pi_in g.1 (by rw [g.2.2]; omega), pi_in gm.1 (by rw [gm.2.2]; omega), ?_⟩
    rw [pb_178v36_42, pm_u_row, if_neg (by decide), h58, on_s, on_s]
    exact h
  · show pm_wp _ _ _ _ _ _ _
    rw [pb_178v36_3, if_pos (by decide), pb_178v36_58]
    exact h
theorem pb_178v37_0 {d L : Nat} {b : Bool} {I : Nat → Nat → Int32} {J : Nat → Nat → Int64} {x2 x3 : Int32} {Q : Int32 → Int64 → pm_H → Prop} : pm_wc pm_code pm_meta d 178 [.ref 79, .ref 117, .int x2, .int x3] (pm_Gb L b, I, J) Q ↔ pm_wp pm_code pm_meta d 178 3 ([.ref 79, .ref 117, .int x2, .int x3, .int 0], [], (pm_Gb L b, I, J)) Q := (pm_bk_iff pc_ch_178 2 0 _).trans (Iff.rfl)
theorem pb_178v37_3 {d L : Nat} {b : Bool} {I : Nat → Nat → Int32} {J : Nat → Nat → Int64} {x2 x3 x4 : Int32} {Q : Int32 → Int64 → pm_H → Prop} : pm_wp pm_code pm_meta d 178 3 ([.ref 79, .ref 117, .int x2, .int x3, .int x4], [], (pm_Gb L b, I, J)) Q ↔ if x2 ≤ x4 then pm_wp pm_code pm_meta d 178 58 ([.ref 79, .ref 117, .int x2, .int x3, .int x4], [], (pm_Gb L b, I, J)) Q else pm_wp pm_code pm_meta d 178 9 ([.ref 79, .ref 117, .int x2, .int x3, .int x4], [], (pm_Gb L b, I, J)) Q := (pm_bk_iff pc_ch_178 3 3 _).trans (pm_brd)
theorem pb_178v37_58 {d L : Nat} {b : Bool} {I : Nat → Nat → Int32} {J : Nat → Nat → Int64} {x2 x3 x4 : Int32} {Q : Int32 → Int64 → pm_H → Prop} : pm_wp pm_code pm_meta d 178 58 ([.ref 79, .ref 117, .int x2, .int x3, .int x4], [], (pm_Gb L b, I, J)) Q ↔ Q 0 0 (pm_Gb L b, I, J) := (pm_bk_iff pc_ch_178 1 58 _).trans (pm_tt)
theorem pb_178v37_9 {d L : Nat} {b : Bool} {I : Nat → Nat → Int32} {J : Nat → Nat → Int64} {x2 x3 x4 : Int32} {Q : Int32 → Int64 → pm_H → Prop} : pm_wp pm_code pm_meta d 178 9 ([.ref 79, .ref 117, .int x2, .int x3, .int x4], [], (pm_Gb L b, I, J)) Q ↔ if x3 = 0 then pm_wp pm_code pm_meta d 178 29 ([.ref 79, .ref 117, .int x2, .int x3, .int x4], [], (pm_Gb L b, I, J)) Q else pm_wp pm_code pm_meta d 178 13 ([.ref 79, .ref 117, .int x2, .int x3, .int x4], [], (pm_Gb L b, I, J)) Q := (pm_bk_iff pc_ch_178 2 9 _).trans (pm_brd)
theorem pb_178v37_29 {d L : Nat} {b : Bool} {I : Nat → Nat → Int32} {J : Nat → Nat → Int64} {x2 x3 x4 : Int32} {Q : Int32 → Int64 → pm_H → Prop} : pm_wp pm_code pm_meta d 178 29 ([.ref 79, .ref 117, .int x2, .int x3, .int x4], [], (pm_Gb L b, I, J)) Q ↔ pm_in (I 79 58) 4200 = true ∧ (pm_in x4 130 = true ∧ (pm_wp pm_code pm_meta d 178 42 ([.ref 79, .ref 117, .int x2, .int x3, .int x4], [], (pm_Gb L b, (pm_u I 117 x4.toNatClampNeg (I 136 (I 79 58).toNatClampNeg)), J)) Q)) := (pm_bk_iff pc_ch_178 8 29 _).trans (and_congr Iff.rfl (and_congr Iff.rfl (Iff.rfl)))
theorem pb_178v37_13 {d L : Nat} {b : Bool} {I : Nat → Nat → Int32} {J : Nat → Nat → Int64} {x2 x3 x4 : Int32} {Q : Int32 → Int64 → pm_H → Prop} : pm_wp pm_code pm_meta d 178 13 ([.ref 79, .ref 117, .int x2, .int x3, .int x4], [], (pm_Gb L b, I, J)) Q ↔ pm_in x4 130 = true ∧ (pm_in (I 79 58) 4200 = true ∧ (pm_wp pm_code pm_meta d 178 42 ([.ref 79, .ref 117, .int x2, .int x3, .int x4], [], (pm_Gb L b, (pm_u I 136 (I 79 58).toNatClampNeg (I 117 x4.toNatClampNeg)), J)) Q)) := (pm_bk_iff pc_ch_178 9 13 _).trans (and_congr Iff.rfl (and_congr Iff.rfl (Iff.rfl)))
theorem pb_178v37_42 {d L : Nat} {b : Bool} {I : Nat → Nat → Int32} {J : Nat → Nat → Int64} {x2 x3 x4 : Int32} {Q : Int32 → Int64 → pm_H → Prop} : pm_wp pm_code pm_meta d 178 42 ([.ref 79, .ref 117, .int x2, .int x3, .int x4], [], (pm_Gb L b, I, J)) Q ↔ pm_wp pm_code pm_meta d 178 3 ([.ref 79, .ref 117, .int x2, .int x3, .int (x4 + 1)], [], (pm_Gb L b, (pm_u I 79 58 ((I 79 58) + 1)), J)) Q := (pm_bk_iff pc_ch_178 8 42 _).trans (Iff.rfl)
theorem cop_k_117 {d L : Nat} {b : Bool} {I : Nat → Nat → Int32} {J : Nat → Nat → Int64} {Q : Int32 → Int64 → pm_H → Prop} {I1 : Nat → Nat → Int32} (hP : pr_kp 37 768 I I1) (hQ : ∀ I2, pr_kp 38 888 I I2 → Q 0 0 (pm_Gb L b, I2, J)) : pm_wc pm_code pm_meta d 178 [.ref 79, .ref 117, .int 120, .int 1] (pm_Gb L b, I1, J) Q := by
  rw [pb_178v37_0]
  refine cop_k (A := fun x I' => pm_wp pm_code pm_meta d 178 3 ([.ref 79, .ref 117, .int 120, .int 1, .int x], [], (pm_Gb L b, I', J)) Q) (E' := fun _ I' => Q 0 0 (pm_Gb L b, I', J)) (r := 117) (of := 768) (len := 120) (n := 37) (by decide) rfl rfl rfl (fun m I' hm h58 h => ?_) (fun I' h => ?_) hP hQ
  · have g := on_n (a := 768 + m) (by omega)
    have gm := on_n (a := m) (by omega)
    rw [pb_178v37_3, if_neg (by rw [show (120 : Int32) = Int32.ofNat 120 from rfl, on_le (by omega) (by omega)]; omega), pb_178v37_9, if_neg (by decide), pb_178v37_13, h58, g.2.1, gm.2.1]
    refine ⟨pi_in gm.1 (by rw [gm.2.2]; omega), pi_in g.1 (by rw [g.2.2]; omega), ?_⟩
    rw [pb_178v37_42, pm_u_row, if_neg (by decide), h58, on_s, on_s]
    exact h
  · show pm_wp _ _ _ _ _ _ _
    rw [pb_178v37_3, if_pos (by decide), pb_178v37_58]
    exact h
theorem cop_a_117 {d L : Nat} {b : Bool} {I : Nat → Nat → Int32} {J : Nat → Nat → Int64} {Q : Int32 → Int64 → pm_H → Prop} {I1 : Nat → Nat → Int32} (hP : pr_ap 37 768 I I1) (hQ : ∀ I2, pr_ap 38 888 I I2 → Q 0 0 (pm_Gb L b, I2, J)) : pm_wc pm_code pm_meta d 178 [.ref 79, .ref 117, .int 120, .int 0] (pm_Gb L b, I1, J) Q := by
  rw [pb_178v37_0]
  refine cop_a (A := fun x I' => pm_wp pm_code pm_meta d 178 3 ([.ref 79, .ref 117, .int 120, .int 0, .int x], [], (pm_Gb L b, I', J)) Q) (E' := fun _ I' => Q 0 0 (pm_Gb L b, I', J)) (r := 117) (of := 768) (len := 120) (n := 37) (by decide) rfl rfl rfl (fun m I' hm h58 h => ?_) (fun I' h => ?_) hP hQ
  · have g := on_n (a := 768 + m) (by omega)
    have gm := on_n (a := m) (by omega)
    rw [pb_178v37_3, if_neg (by rw [show (120 : Int32) = Int32.ofNat 120 from rfl, on_le (by omega) (by omega)]; omega), pb_178v37_9, if_pos rfl, pb_178v37_29, h58, g.2.1, gm.2.1]
    refine ⟨pi_in g.1 (by rw [g.2.2]; omega), pi_in gm.1 (by rw [gm.2.2]; omega), ?_⟩
    rw [pb_178v37_42, pm_u_row, if_neg (by decide), h58, on_s, on_s]
    exact h
  · show pm_wp _ _ _ _ _ _ _
    rw [pb_178v37_3, if_pos (by decide), pb_178v37_58]
    exact h
theorem pb_178v38_0 {d L : Nat} {b : Bool} {I : Nat → Nat → Int32} {J : Nat → Nat → Int64} {x2 x3 : Int32} {Q : Int32 → Int64 → pm_H → Prop} : pm_wc pm_code pm_meta d 178 [.ref 79, .ref 118, .int x2, .int x3] (pm_Gb L b, I, J) Q ↔ pm_wp pm_code pm_meta d 178 3 ([.ref 79, .ref 118, .int x2, .int x3, .int 0], [], (pm_Gb L b, I, J)) Q := (pm_bk_iff pc_ch_178 2 0 _).trans (Iff.rfl)
theorem pb_178v38_3 {d L : Nat} {b : Bool} {I : Nat → Nat → Int32} {J : Nat → Nat → Int64} {x2 x3 x4 : Int32} {Q : Int32 → Int64 → pm_H → Prop} : pm_wp pm_code pm_meta d 178 3 ([.ref 79, .ref 118, .int x2, .int x3, .int x4], [], (pm_Gb L b, I, J)) Q ↔ if x2 ≤ x4 then pm_wp pm_code pm_meta d 178 58 ([.ref 79, .ref 118, .int x2, .int x3, .int x4], [], (pm_Gb L b, I, J)) Q else pm_wp pm_code pm_meta d 178 9 ([.ref 79, .ref 118, .int x2, .int x3, .int x4], [], (pm_Gb L b, I, J)) Q := (pm_bk_iff pc_ch_178 3 3 _).trans (pm_brd)
theorem pb_178v38_58 {d L : Nat} {b : Bool} {I : Nat → Nat → Int32} {J : Nat → Nat → Int64} {x2 x3 x4 : Int32} {Q : Int32 → Int64 → pm_H → Prop} : pm_wp pm_code pm_meta d 178 58 ([.ref 79, .ref 118, .int x2, .int x3, .int x4], [], (pm_Gb L b, I, J)) Q ↔ Q 0 0 (pm_Gb L b, I, J) := (pm_bk_iff pc_ch_178 1 58 _).trans (pm_tt)
theorem pb_178v38_9 {d L : Nat} {b : Bool} {I : Nat → Nat → Int32} {J : Nat → Nat → Int64} {x2 x3 x4 : Int32} {Q : Int32 → Int64 → pm_H → Prop} : pm_wp pm_code pm_meta d 178 9 ([.ref 79, .ref 118, .int x2, .int x3, .int x4], [], (pm_Gb L b, I, J)) Q ↔ if x3 = 0 then pm_wp pm_code pm_meta d 178 29 ([.ref 79, .ref 118, .int x2, .int x3, .int x4], [], (pm_Gb L b, I, J)) Q else pm_wp pm_code pm_meta d 178 13 ([.ref 79, .ref 118, .int x2, .int x3, .int x4], [], (pm_Gb L b, I, J)) Q := (pm_bk_iff pc_ch_178 2 9 _).trans (pm_brd)
theorem pb_178v38_29 {d L : Nat} {b : Bool} {I : Nat → Nat → Int32} {J : Nat → Nat → Int64} {x2 x3 x4 : Int32} {Q : Int32 → Int64 → pm_H → Prop} : pm_wp pm_code pm_meta d 178 29 ([.ref 79, .ref 118, .int x2, .int x3, .int x4], [], (pm_Gb L b, I, J)) Q ↔ pm_in (I 79 58) 4200 = true ∧ (pm_in x4 130 = true ∧ (pm_wp pm_code pm_meta d 178 42 ([.ref 79, .ref 118, .int x2, .int x3, .int x4], [], (pm_Gb L b, (pm_u I 118 x4.toNatClampNeg (I 136 (I 79 58).toNatClampNeg)), J)) Q)) := (pm_bk_iff pc_ch_178 8 29 _).trans (and_congr Iff.rfl (and_congr Iff.rfl (Iff.rfl)))
theorem pb_178v38_13 {d L : Nat} {b : Bool} {I : Nat → Nat → Int32} {J : Nat → Nat → Int64} {x2 x3 x4 : Int32} {Q : Int32 → Int64 → pm_H → Prop} : pm_wp pm_code pm_meta d 178 13 ([.ref 79, .ref 118, .int x2, .int x3, .int x4], [], (pm_Gb L b, I, J)) Q ↔ pm_in x4 130 = true ∧ (pm_in (I 79 58) 4200 = true ∧ (pm_wp pm_code pm_meta d 178 42 ([.ref 79, .ref 118, .int x2, .int x3, .int x4], [], (pm_Gb L b, (pm_u I 136 (I 79 58).toNatClampNeg (I 118 x4.toNatClampNeg)), J)) Q)) := (pm_bk_iff pc_ch_178 9 13 _).trans (and_congr Iff.rfl (and_congr Iff.rfl (Iff.rfl)))
theorem pb_178v38_42 {d L : Nat} {b : Bool} {I : Nat → Nat → Int32} {J : Nat → Nat → Int64} {x2 x3 x4 : Int32} {Q : Int32 → Int64 → pm_H → Prop} : pm_wp pm_code pm_meta d 178 42 ([.ref 79, .ref 118, .int x2, .int x3, .int x4], [], (pm_Gb L b, I, J)) Q ↔ pm_wp pm_code pm_meta d 178 3 ([.ref 79, .ref 118, .int x2, .int x3, .int (x4 + 1)], [], (pm_Gb L b, (pm_u I 79 58 ((I 79 58) + 1)), J)) Q := (pm_bk_iff pc_ch_178 8 42 _).trans (Iff.rfl)
theorem cop_k_118 {d L : Nat} {b : Bool} {I : Nat → Nat → Int32} {J : Nat → Nat → Int64} {Q : Int32 → Int64 → pm_H → Prop} {I1 : Nat → Nat → Int32} (hP : pr_kp 38 888 I I1) (hQ : ∀ I2, pr_kp 39 1008 I I2 → Q 0 0 (pm_Gb L b, I2, J)) : pm_wc pm_code pm_meta d 178 [.ref 79, .ref 118, .int 120, .int 1] (pm_Gb L b, I1, J) Q := by
  rw [pb_178v38_0]
  refine cop_k (A := fun x I' => pm_wp pm_code pm_meta d 178 3 ([.ref 79, .ref 118, .int 120, .int 1, .int x], [], (pm_Gb L b, I', J)) Q) (E' := fun _ I' => Q 0 0 (pm_Gb L b, I', J)) (r := 118) (of := 888) (len := 120) (n := 38) (by decide) rfl rfl rfl (fun m I' hm h58 h => ?_) (fun I' h => ?_) hP hQ
  · have g := on_n (a := 888 + m) (by omega)
    have gm := on_n (a := m) (by omega)
    rw [pb_178v38_3, if_neg (by rw [show (120 : Int32) = Int32.ofNat 120 from rfl, on_le (by omega) (by omega)]; omega), pb_178v38_9, if_neg (by decide), pb_178v38_13, h58, g.2.1, gm.2.1]
    refine ⟨pi_in gm.1 (by rw [gm.2.2]; omega), pi_in g.1 (by rw [g.2.2]; omega), ?_⟩
    rw [pb_178v38_42, pm_u_row, if_neg (by decide), h58, on_s, on_s]
    exact h
  · show pm_wp _ _ _ _ _ _ _
    rw [pb_178v38_3, if_pos (by decide), pb_178v38_58]
    exact h
theorem cop_a_118 {d L : Nat} {b : Bool} {I : Nat → Nat → Int32} {J : Nat → Nat → Int64} {Q : Int32 → Int64 → pm_H → Prop} {I1 : Nat → Nat → Int32} (hP : pr_ap 38 888 I I1) (hQ : ∀ I2, pr_ap 39 1008 I I2 → Q 0 0 (pm_Gb L b, I2, J)) : pm_wc pm_code pm_meta d 178 [.ref 79, .ref 118, .int 120, .int 0] (pm_Gb L b, I1, J) Q := by
  rw [pb_178v38_0]
  refine cop_a (A := fun x I' => pm_wp pm_code pm_meta d 178 3 ([.ref 79, .ref 118, .int 120, .int 0, .int x], [], (pm_Gb L b, I', J)) Q) (E' := fun _ I' => Q 0 0 (pm_Gb L b, I', J)) (r := 118) (of := 888) (len := 120) (n := 38) (by decide) rfl rfl rfl (fun m I' hm h58 h => ?_) (fun I' h => ?_) hP hQ
  · have g := on_n (a := 888 + m) (by omega)
    have gm := on_n (a := m) (by omega)
    rw [pb_178v38_3, if_neg (by rw [show (120 : Int32) = Int32.ofNat 120 from rfl, on_le (by omega) (by omega)]; omega), pb_178v38_9, if_pos rfl, pb_178v38_29, h58, g.2.1, gm.2.1]
    refine ⟨pi_in g.1 (by rw [g.2.2]; omega), pi_in gm.1 (by rw [gm.2.2]; omega), ?_⟩
    rw [pb_178v38_42, pm_u_row, if_neg (by decide), h58, on_s, on_s]
    exact h
  · show pm_wp _ _ _ _ _ _ _
    rw [pb_178v38_3, if_pos (by decide), pb_178v38_58]
    exact h
theorem pb_178v39_0 {d L : Nat} {b : Bool} {I : Nat → Nat → Int32} {J : Nat → Nat → Int64} {x2 x3 : Int32} {Q : Int32 → Int64 → pm_H → Prop} : pm_wc pm_code pm_meta d 178 [.ref 79, .ref 119, .int x2, .int x3] (pm_Gb L b, I, J) Q ↔ pm_wp pm_code pm_meta d 178 3 ([.ref 79, .ref 119, .int x2, .int x3, .int 0], [], (pm_Gb L b, I, J)) Q := (pm_bk_iff pc_ch_178 2 0 _).trans (Iff.rfl)
theorem pb_178v39_3 {d L : Nat} {b : Bool} {I : Nat → Nat → Int32} {J : Nat → Nat → Int64} {x2 x3 x4 : Int32} {Q : Int32 → Int64 → pm_H → Prop} : pm_wp pm_code pm_meta d 178 3 ([.ref 79, .ref 119, .int x2, .int x3, .int x4], [], (pm_Gb L b, I, J)) Q ↔ if x2 ≤ x4 then pm_wp pm_code pm_meta d 178 58 ([.ref 79, .ref 119, .int x2, .int x3, .int x4], [], (pm_Gb L b, I, J)) Q else pm_wp pm_code pm_meta d 178 9 ([.ref 79, .ref 119, .int x2, .int x3, .int x4], [], (pm_Gb L b, I, J)) Q := (pm_bk_iff pc_ch_178 3 3 _).trans (pm_brd)
theorem pb_178v39_58 {d L : Nat} {b : Bool} {I : Nat → Nat → Int32} {J : Nat → Nat → Int64} {x2 x3 x4 : Int32} {Q : Int32 → Int64 → pm_H → Prop} : pm_wp pm_code pm_meta d 178 58 ([.ref 79, .ref 119, .int x2, .int x3, .int x4], [], (pm_Gb L b, I, J)) Q ↔ Q 0 0 (pm_Gb L b, I, J) := (pm_bk_iff pc_ch_178 1 58 _).trans (pm_tt)
theorem pb_178v39_9 {d L : Nat} {b : Bool} {I : Nat → Nat → Int32} {J : Nat → Nat → Int64} {x2 x3 x4 : Int32} {Q : Int32 → Int64 → pm_H → Prop} : pm_wp pm_code pm_meta d 178 9 ([.ref 79, .ref 119, .int x2, .int x3, .int x4], [], (pm_Gb L b, I, J)) Q ↔ if x3 = 0 then pm_wp pm_code pm_meta d 178 29 ([.ref 79, .ref 119, .int x2, .int x3, .int x4], [], (pm_Gb L b, I, J)) Q else pm_wp pm_code pm_meta d 178 13 ([.ref 79, .ref 119, .int x2, .int x3, .int x4], [], (pm_Gb L b, I, J)) Q := (pm_bk_iff pc_ch_178 2 9 _).trans (pm_brd)
theorem pb_178v39_29 {d L : Nat} {b : Bool} {I : Nat → Nat → Int32} {J : Nat → Nat → Int64} {x2 x3 x4 : Int32} {Q : Int32 → Int64 → pm_H → Prop} : pm_wp pm_code pm_meta d 178 29 ([.ref 79, .ref 119, .int x2, .int x3, .int x4], [], (pm_Gb L b, I, J)) Q ↔ pm_in (I 79 58) 4200 = true ∧ (pm_in x4 130 = true ∧ (pm_wp pm_code pm_meta d 178 42 ([.ref 79, .ref 119, .int x2, .int x3, .int x4], [], (pm_Gb L b, (pm_u I 119 x4.toNatClampNeg (I 136 (I 79 58).toNatClampNeg)), J)) Q)) := (pm_bk_iff pc_ch_178 8 29 _).trans (and_congr Iff.rfl (and_congr Iff.rfl (Iff.rfl)))
theorem pb_178v39_13 {d L : Nat} {b : Bool} {I : Nat → Nat → Int32} {J : Nat → Nat → Int64} {x2 x3 x4 : Int32} {Q : Int32 → Int64 → pm_H → Prop} : pm_wp pm_code pm_meta d 178 13 ([.ref 79, .ref 119, .int x2, .int x3, .int x4], [], (pm_Gb L b, I, J)) Q ↔ pm_in x4 130 = true ∧ (pm_in (I 79 58) 4200 = true ∧ (pm_wp pm_code pm_meta d 178 42 ([.ref 79, .ref 119, .int x2, .int x3, .int x4], [], (pm_Gb L b, (pm_u I 136 (I 79 58).toNatClampNeg (I 119 x4.toNatClampNeg)), J)) Q)) := (pm_bk_iff pc_ch_178 9 13 _).trans (and_congr Iff.rfl (and_congr Iff.rfl (Iff.rfl)))
theorem pb_178v39_42 {d L : Nat} {b : Bool} {I : Nat → Nat → Int32} {J : Nat → Nat → Int64} {x2 x3 x4 : Int32} {Q : Int32 → Int64 → pm_H → Prop} : pm_wp pm_code pm_meta d 178 42 ([.ref 79, .ref 119, .int x2, .int x3, .int x4], [], (pm_Gb L b, I, J)) Q ↔ pm_wp pm_code pm_meta d 178 3 ([.ref 79, .ref 119, .int x2, .int x3, .int (x4 + 1)], [], (pm_Gb L b, (pm_u I 79 58 ((I 79 58) + 1)), J)) Q := (pm_bk_iff pc_ch_178 8 42 _).trans (Iff.rfl)
theorem cop_k_119 {d L : Nat} {b : Bool} {I : Nat → Nat → Int32} {J : Nat → Nat → Int64} {Q : Int32 → Int64 → pm_H → Prop} {I1 : Nat → Nat → Int32} (hP : pr_kp 39 1008 I I1) (hQ : ∀ I2, pr_kp 40 1128 I I2 → Q 0 0 (pm_Gb L b, I2, J)) : pm_wc pm_code pm_meta d 178 [.ref 79, .ref 119, .int 120, .int 1] (pm_Gb L b, I1, J) Q := by
  rw [pb_178v39_0]
  refine cop_k (A := fun x I' => pm_wp pm_code pm_meta d 178 3 ([.ref 79, .ref 119, .int 120, .int 1, .int x], [], (pm_Gb L b, I', J)) Q) (E' := fun _ I' => Q 0 0 (pm_Gb L b, I', J)) (r := 119) (of := 1008) (len := 120) (n := 39) (by decide) rfl rfl rfl (fun m I' hm h58 h => ?_) (fun I' h => ?_) hP hQ
  · have g := on_n (a := 1008 + m) (by omega)
    have gm := on_n (a := m) (by omega)
    rw [pb_178v39_3, if_neg (by rw [show (120 : Int32) = Int32.ofNat 120 from rfl, on_le (by omega) (by omega)]; omega), pb_178v39_9, if_neg (by decide), pb_178v39_13, h58, g.2.1, gm.2.1]
    refine ⟨pi_in gm.1 (by rw [gm.2.2]; omega), pi_in g.1 (by rw [g.2.2]; omega), ?_⟩
    rw [pb_178v39_42, pm_u_row, if_neg (by decide), h58, on_s, on_s]
    exact h
  · show pm_wp _ _ _ _ _ _ _
    rw [pb_178v39_3, if_pos (by decide), pb_178v39_58]
    exact h
theorem cop_a_119 {d L : Nat} {b : Bool} {I : Nat → Nat → Int32} {J : Nat → Nat → Int64} {Q : Int32 → Int64 → pm_H → Prop} {I1 : Nat → Nat → Int32} (hP : pr_ap 39 1008 I I1) (hQ : ∀ I2, pr_ap 40 1128 I I2 → Q 0 0 (pm_Gb L b, I2, J)) : pm_wc pm_code pm_meta d 178 [.ref 79, .ref 119, .int 120, .int 0] (pm_Gb L b, I1, J) Q := by
  rw [pb_178v39_0]
  refine cop_a (A := fun x I' => pm_wp pm_code pm_meta d 178 3 ([.ref 79, .ref 119, .int 120, .int 0, .int x], [], (pm_Gb L b, I', J)) Q) (E' := fun _ I' => Q 0 0 (pm_Gb L b, I', J)) (r := 119) (of := 1008) (len := 120) (n := 39) (by decide) rfl rfl rfl (fun m I' hm h58 h => ?_) (fun I' h => ?_) hP hQ
  · have g := on_n (a := 1008 + m) (by omega)
    have gm := on_n (a := m) (by omega)
    rw [pb_178v39_3, if_neg (by rw [show (120 : Int32) = Int32.ofNat 120 from rfl, on_le (by omega) (by omega)]; omega), pb_178v39_9, if_pos rfl, pb_178v39_29, h58, g.2.1, gm.2.1]
    refine ⟨pi_in g.1 (by rw [g.2.2]; omega), pi_in gm.1 (by rw [gm.2.2]; omega), ?_⟩
    rw [pb_178v39_42, pm_u_row, if_neg (by decide), h58, on_s, on_s]
    exact h
  · show pm_wp _ _ _ _ _ _ _
    rw [pb_178v39_3, if_pos (by decide), pb_178v39_58]
    exact h
theorem pb_178v40_0 {d L : Nat} {b : Bool} {I : Nat → Nat → Int32} {J : Nat → Nat → Int64} {x2 x3 : Int32} {Q : Int32 → Int64 → pm_H → Prop} : pm_wc pm_code pm_meta d 178 [.ref 79, .ref 120, .int x2, .int x3] (pm_Gb L b, I, J) Q ↔ pm_wp pm_code pm_meta d 178 3 ([.ref 79, .ref 120, .int x2, .int x3, .int 0], [], (pm_Gb L b, I, J)) Q := (pm_bk_iff pc_ch_178 2 0 _).trans (Iff.rfl)
theorem pb_178v40_3 {d L : Nat} {b : Bool} {I : Nat → Nat → Int32} {J : Nat → Nat → Int64} {x2 x3 x4 : Int32} {Q : Int32 → Int64 → pm_H → Prop} : pm_wp pm_code pm_meta d 178 3 ([.ref 79, .ref 120, .int x2, .int x3, .int x4], [], (pm_Gb L b, I, J)) Q ↔ if x2 ≤ x4 then pm_wp pm_code pm_meta d 178 58 ([.ref 79, .ref 120, .int x2, .int x3, .int x4], [], (pm_Gb L b, I, J)) Q else pm_wp pm_code pm_meta d 178 9 ([.ref 79, .ref 120, .int x2, .int x3, .int x4], [], (pm_Gb L b, I, J)) Q := (pm_bk_iff pc_ch_178 3 3 _).trans (pm_brd)
theorem pb_178v40_58 {d L : Nat} {b : Bool} {I : Nat → Nat → Int32} {J : Nat → Nat → Int64} {x2 x3 x4 : Int32} {Q : Int32 → Int64 → pm_H → Prop} : pm_wp pm_code pm_meta d 178 58 ([.ref 79, .ref 120, .int x2, .int x3, .int x4], [], (pm_Gb L b, I, J)) Q ↔ Q 0 0 (pm_Gb L b, I, J) := (pm_bk_iff pc_ch_178 1 58 _).trans (pm_tt)
theorem pb_178v40_9 {d L : Nat} {b : Bool} {I : Nat → Nat → Int32} {J : Nat → Nat → Int64} {x2 x3 x4 : Int32} {Q : Int32 → Int64 → pm_H → Prop} : pm_wp pm_code pm_meta d 178 9 ([.ref 79, .ref 120, .int x2, .int x3, .int x4], [], (pm_Gb L b, I, J)) Q ↔ if x3 = 0 then pm_wp pm_code pm_meta d 178 29 ([.ref 79, .ref 120, .int x2, .int x3, .int x4], [], (pm_Gb L b, I, J)) Q else pm_wp pm_code pm_meta d 178 13 ([.ref 79, .ref 120, .int x2, .int x3, .int x4], [], (pm_Gb L b, I, J)) Q := (pm_bk_iff pc_ch_178 2 9 _).trans (pm_brd)
theorem pb_178v40_29 {d L : Nat} {b : Bool} {I : Nat → Nat → Int32} {J : Nat → Nat → Int64} {x2 x3 x4 : Int32} {Q : Int32 → Int64 → pm_H → Prop} : pm_wp pm_code pm_meta d 178 29 ([.ref 79, .ref 120, .int x2, .int x3, .int x4], [], (pm_Gb L b, I, J)) Q ↔ pm_in (I 79 58) 4200 = true ∧ (pm_in x4 130 = true ∧ (pm_wp pm_code pm_meta d 178 42 ([.ref 79, .ref 120, .int x2, .int x3, .int x4], [], (pm_Gb L b, (pm_u I 120 x4.toNatClampNeg (I 136 (I 79 58).toNatClampNeg)), J)) Q)) := (pm_bk_iff pc_ch_178 8 29 _).trans (and_congr Iff.rfl (and_congr Iff.rfl (Iff.rfl)))
theorem pb_178v40_13 {d L : Nat} {b : Bool} {I : Nat → Nat → Int32} {J : Nat → Nat → Int64} {x2 x3 x4 : Int32} {Q : Int32 → Int64 → pm_H → Prop} : pm_wp pm_code pm_meta d 178 13 ([.ref 79, .ref 120, .int x2, .int x3, .int x4], [], (pm_Gb L b, I, J)) Q ↔ pm_in x4 130 = true ∧ (pm_in (I 79 58) 4200 = true ∧ (pm_wp pm_code pm_meta d 178 42 ([.ref 79, .ref 120, .int x2, .int x3, .int x4], [], (pm_Gb L b, (pm_u I 136 (I 79 58).toNatClampNeg (I 120 x4.toNatClampNeg)), J)) Q)) := (pm_bk_iff pc_ch_178 9 13 _).trans (and_congr Iff.rfl (and_congr Iff.rfl (Iff.rfl)))
theorem pb_178v40_42 {d L : Nat} {b : Bool} {I : Nat → Nat → Int32} {J : Nat → Nat → Int64} {x2 x3 x4 : Int32} {Q : Int32 → Int64 → pm_H → Prop} : pm_wp pm_code pm_meta d 178 42 ([.ref 79, .ref 120, .int x2, .int x3, .int x4], [], (pm_Gb L b, I, J)) Q ↔ pm_wp pm_code pm_meta d 178 3 ([.ref 79, .ref 120, .int x2, .int x3, .int (x4 + 1)], [], (pm_Gb L b, (pm_u I 79 58 ((I 79 58) + 1)), J)) Q := (pm_bk_iff pc_ch_178 8 42 _).trans (Iff.rfl)
theorem cop_k_120 {d L : Nat} {b : Bool} {I : Nat → Nat → Int32} {J : Nat → Nat → Int64} {Q : Int32 → Int64 → pm_H → Prop} {I1 : Nat → Nat → Int32} (hP : pr_kp 40 1128 I I1) (hQ : ∀ I2, pr_kp 41 1248 I I2 → Q 0 0 (pm_Gb L b, I2, J)) : pm_wc pm_code pm_meta d 178 [.ref 79, .ref 120, .int 120, .int 1] (pm_Gb L b, I1, J) Q := by
  rw [pb_178v40_0]
  refine cop_k (A := fun x I' => pm_wp pm_code pm_meta d 178 3 ([.ref 79, .ref 120, .int 120, .int 1, .int x], [], (pm_Gb L b, I', J)) Q) (E' := fun _ I' => Q 0 0 (pm_Gb L b, I', J)) (r := 120) (of := 1128) (len := 120) (n := 40) (by decide) rfl rfl rfl (fun m I' hm h58 h => ?_) (fun I' h => ?_) hP hQ
  · have g := on_n (a := 1128 + m) (by omega)
    have gm := on_n (a := m) (by omega)
    rw [pb_178v40_3, if_neg (by rw [show (120 : Int32) = Int32.ofNat 120 from rfl, on_le (by omega) (by omega)]; omega), pb_178v40_9, if_neg (by decide), pb_178v40_13, h58, g.2.1, gm.2.1]
    refine ⟨pi_in gm.1 (by rw [gm.2.2]; omega), pi_in g.1 (by rw [g.2.2]; omega), ?_⟩
    rw [pb_178v40_42, pm_u_row, if_neg (by decide), h58, on_s, on_s]
    exact h
  · show pm_wp _ _ _ _ _ _ _
    rw [pb_178v40_3, if_pos (by decide), pb_178v40_58]
    exact h
theorem cop_a_120 {d L : Nat} {b : Bool} {I : Nat → Nat → Int32} {J : Nat → Nat → Int64} {Q : Int32 → Int64 → pm_H → Prop} {I1 : Nat → Nat → Int32} (hP : pr_ap 40 1128 I I1) (hQ : ∀ I2, pr_ap 41 1248 I I2 → Q 0 0 (pm_Gb L b, I2, J)) : pm_wc pm_code pm_meta d 178 [.ref 79, .ref 120, .int 120, .int 0] (pm_Gb L b, I1, J) Q := by
  rw [pb_178v40_0]
  refine cop_a (A := fun x I' => pm_wp pm_code pm_meta d 178 3 ([.ref 79, .ref 120, .int 120, .int 0, .int x], [], (pm_Gb L b, I', J)) Q) (E' := fun _ I' => Q 0 0 (pm_Gb L b, I', J)) (r := 120) (of := 1128) (len := 120) (n := 40) (by decide) rfl rfl rfl (fun m I' hm h58 h => ?_) (fun I' h => ?_) hP hQ
  · have g := on_n (a := 1128 + m) (by omega)
    have gm := on_n (a := m) (by omega)
    rw [pb_178v40_3, if_neg (by rw [show (120 : Int32) = Int32.ofNat 120 from rfl, on_le (by omega) (by omega)]; omega), pb_178v40_9, if_pos rfl, pb_178v40_29, h58, g.2.1, gm.2.1]
    refine ⟨pi_in g.1 (by rw [g.2.2]; omega), pi_in gm.1 (by rw [gm.2.2]; omega), ?_⟩
    rw [pb_178v40_42, pm_u_row, if_neg (by decide), h58, on_s, on_s]
    exact h
  · show pm_wp _ _ _ _ _ _ _
    rw [pb_178v40_3, if_pos (by decide), pb_178v40_58]
    exact h
theorem pb_178v41_0 {d L : Nat} {b : Bool} {I : Nat → Nat → Int32} {J : Nat → Nat → Int64} {x2 x3 : Int32} {Q : Int32 → Int64 → pm_H → Prop} : pm_wc pm_code pm_meta d 178 [.ref 79, .ref 121, .int x2, .int x3] (pm_Gb L b, I, J) Q ↔ pm_wp pm_code pm_meta d 178 3 ([.ref 79, .ref 121, .int x2, .int x3, .int 0], [], (pm_Gb L b, I, J)) Q := (pm_bk_iff pc_ch_178 2 0 _).trans (Iff.rfl)
theorem pb_178v41_3 {d L : Nat} {b : Bool} {I : Nat → Nat → Int32} {J : Nat → Nat → Int64} {x2 x3 x4 : Int32} {Q : Int32 → Int64 → pm_H → Prop} : pm_wp pm_code pm_meta d 178 3 ([.ref 79, .ref 121, .int x2, .int x3, .int x4], [], (pm_Gb L b, I, J)) Q ↔ if x2 ≤ x4 then pm_wp pm_code pm_meta d 178 58 ([.ref 79, .ref 121, .int x2, .int x3, .int x4], [], (pm_Gb L b, I, J)) Q else pm_wp pm_code pm_meta d 178 9 ([.ref 79, .ref 121, .int x2, .int x3, .int x4], [], (pm_Gb L b, I, J)) Q := (pm_bk_iff pc_ch_178 3 3 _).trans (pm_brd)
theorem pb_178v41_58 {d L : Nat} {b : Bool} {I : Nat → Nat → Int32} {J : Nat → Nat → Int64} {x2 x3 x4 : Int32} {Q : Int32 → Int64 → pm_H → Prop} : pm_wp pm_code pm_meta d 178 58 ([.ref 79, .ref 121, .int x2, .int x3, .int x4], [], (pm_Gb L b, I, J)) Q ↔ Q 0 0 (pm_Gb L b, I, J) := (pm_bk_iff pc_ch_178 1 58 _).trans (pm_tt)
theorem pb_178v41_9 {d L : Nat} {b : Bool} {I : Nat → Nat → Int32} {J : Nat → Nat → Int64} {x2 x3 x4 : Int32} {Q : Int32 → Int64 → pm_H → Prop} : pm_wp pm_code pm_meta d 178 9 ([.ref 79, .ref 121, .int x2, .int x3, .int x4], [], (pm_Gb L b, I, J)) Q ↔ if x3 = 0 then pm_wp pm_code pm_meta d 178 29 ([.ref 79, .ref 121, .int x2, .int x3, .int x4], [], (pm_Gb L b, I, J)) Q else pm_wp pm_code pm_meta d 178 13 ([.ref 79, .ref 121, .int x2, .int x3, .int x4], [], (pm_Gb L b, I, J)) Q := (pm_bk_iff pc_ch_178 2 9 _).trans (pm_brd)
theorem pb_178v41_29 {d L : Nat} {b : Bool} {I : Nat → Nat → Int32} {J : Nat → Nat → Int64} {x2 x3 x4 : Int32} {Q : Int32 → Int64 → pm_H → Prop} : pm_wp pm_code pm_meta d 178 29 ([.ref 79, .ref 121, .int x2, .int x3, .int x4], [], (pm_Gb L b, I, J)) Q ↔ pm_in (I 79 58) 4200 = true ∧ (pm_in x4 130 = true ∧ (pm_wp pm_code pm_meta d 178 42 ([.ref 79, .ref 121, .int x2, .int x3, .int x4], [], (pm_Gb L b, (pm_u I 121 x4.toNatClampNeg (I 136 (I 79 58).toNatClampNeg)), J)) Q)) := (pm_bk_iff pc_ch_178 8 29 _).trans (and_congr Iff.rfl (and_congr Iff.rfl (Iff.rfl)))
theorem pb_178v41_13 {d L : Nat} {b : Bool} {I : Nat → Nat → Int32} {J : Nat → Nat → Int64} {x2 x3 x4 : Int32} {Q : Int32 → Int64 → pm_H → Prop} : pm_wp pm_code pm_meta d 178 13 ([.ref 79, .ref 121, .int x2, .int x3, .int x4], [], (pm_Gb L b, I, J)) Q ↔ pm_in x4 130 = true ∧ (pm_in (I 79 58) 4200 = true ∧ (pm_wp pm_code pm_meta d 178 42 ([.ref 79, .ref 121, .int x2, .int x3, .int x4], [], (pm_Gb L b, (pm_u I 136 (I 79 58).toNatClampNeg (I 121 x4.toNatClampNeg)), J)) Q)) := (pm_bk_iff pc_ch_178 9 13 _).trans (and_congr Iff.rfl (and_congr Iff.rfl (Iff.rfl)))
theorem pb_178v41_42 {d L : Nat} {b : Bool} {I : Nat → Nat → Int32} {J : Nat → Nat → Int64} {x2 x3 x4 : Int32} {Q : Int32 → Int64 → pm_H → Prop} : pm_wp pm_code pm_meta d 178 42 ([.ref 79, .ref 121, .int x2, .int x3, .int x4], [], (pm_Gb L b, I, J)) Q ↔ pm_wp pm_code pm_meta d 178 3 ([.ref 79, .ref 121, .int x2, .int x3, .int (x4 + 1)], [], (pm_Gb L b, (pm_u I 79 58 ((I 79 58) + 1)), J)) Q := (pm_bk_iff pc_ch_178 8 42 _).trans (Iff.rfl)
theorem cop_k_121 {d L : Nat} {b : Bool} {I : Nat → Nat → Int32} {J : Nat → Nat → Int64} {Q : Int32 → Int64 → pm_H → Prop} {I1 : Nat → Nat → Int32} (hP : pr_kp 41 1248 I I1) (hQ : ∀ I2, pr_kp 42 1368 I I2 → Q 0 0 (pm_Gb L b, I2, J)) : pm_wc pm_code pm_meta d 178 [.ref 79, .ref 121, .int 120, .int 1] (pm_Gb L b, I1, J) Q := by
  rw [pb_178v41_0]
  refine cop_k (A := fun x I' => pm_wp pm_code pm_meta d 178 3 ([.ref 79, .ref 121, .int 120, .int 1, .int x], [], (pm_Gb L b, I', J)) Q) (E' := fun _ I' => Q 0 0 (pm_Gb L b, I', J)) (r := 121) (of := 1248) (len := 120) (n := 41) (by decide) rfl rfl rfl (fun m I' hm h58 h => ?_) (fun I' h => ?_) hP hQ
  · have g := on_n (a := 1248 + m) (by omega)
    have gm := on_n (a := m) (by omega)
    rw [pb_178v41_3, if_neg (by rw [show (120 : Int32) = Int32.ofNat 120 from rfl, on_le (by omega) (by omega)]; omega), pb_178v41_9, if_neg (by decide), pb_178v41_13, h58, g.2.1, gm.2.1]
    refine ⟨pi_in gm.1 (by rw [gm.2.2]; omega), pi_in g.1 (by rw [g.2.2]; omega), ?_⟩
    rw [pb_178v41_42, pm_u_row, if_neg (by decide), h58, on_s, on_s]
    exact h
  · show pm_wp _ _ _ _ _ _ _
    rw [pb_178v41_3, if_pos (by decide), pb_178v41_58]
    exact h
theorem cop_a_121 {d L : Nat} {b : Bool} {I : Nat → Nat → Int32} {J : Nat → Nat → Int64} {Q : Int32 → Int64 → pm_H → Prop} {I1 : Nat → Nat → Int32} (hP : pr_ap 41 1248 I I1) (hQ : ∀ I2, pr_ap 42 1368 I I2 → Q 0 0 (pm_Gb L b, I2, J)) : pm_wc pm_code pm_meta d 178 [.ref 79, .ref 121, .int 120, .int 0] (pm_Gb L b, I1, J) Q := by
  rw [pb_178v41_0]
  refine cop_a (A := fun x I' => pm_wp pm_code pm_meta d 178 3 ([.ref 79, .ref 121, .int 120, .int 0, .int x], [], (pm_Gb L b, I', J)) Q) (E' := fun _ I' => Q 0 0 (pm_Gb L b, I', J)) (r := 121) (of := 1248) (len := 120) (n := 41) (by decide) rfl rfl rfl (fun m I' hm h58 h => ?_) (fun I' h => ?_) hP hQ
  · have g := on_n (a := 1248 + m) (by omega)
    have gm := on_n (a := m) (by omega)
    rw [pb_178v41_3, if_neg (by rw [show (120 : Int32) = Int32.ofNat 120 from rfl, on_le (by omega) (by omega)]; omega), pb_178v41_9, if_pos rfl, pb_178v41_29, h58, g.2.1, gm.2.1]
    refine ⟨pi_in g.1 (by rw [g.2.2]; omega), pi_in gm.1 (by rw [gm.2.2]; omega), ?_⟩
    rw [pb_178v41_42, pm_u_row, if_neg (by decide), h58, on_s, on_s]
    exact h
  · show pm_wp _ _ _ _ _ _ _
    rw [pb_178v41_3, if_pos (by decide), pb_178v41_58]
    exact h
theorem pb_178v42_0 {d L : Nat} {b : Bool} {I : Nat → Nat → Int32} {J : Nat → Nat → Int64} {x2 x3 : Int32} {Q : Int32 → Int64 → pm_H → Prop} : pm_wc pm_code pm_meta d 178 [.ref 79, .ref 122, .int x2, .int x3] (pm_Gb L b, I, J) Q ↔ pm_wp pm_code pm_meta d 178 3 ([.ref 79, .ref 122, .int x2, .int x3, .int 0], [], (pm_Gb L b, I, J)) Q := (pm_bk_iff pc_ch_178 2 0 _).trans (Iff.rfl)
theorem pb_178v42_3 {d L : Nat} {b : Bool} {I : Nat → Nat → Int32} {J : Nat → Nat → Int64} {x2 x3 x4 : Int32} {Q : Int32 → Int64 → pm_H → Prop} : pm_wp pm_code pm_meta d 178 3 ([.ref 79, .ref 122, .int x2, .int x3, .int x4], [], (pm_Gb L b, I, J)) Q ↔ if x2 ≤ x4 then pm_wp pm_code pm_meta d 178 58 ([.ref 79, .ref 122, .int x2, .int x3, .int x4], [], (pm_Gb L b, I, J)) Q else pm_wp pm_code pm_meta d 178 9 ([.ref 79, .ref 122, .int x2, .int x3, .int x4], [], (pm_Gb L b, I, J)) Q := (pm_bk_iff pc_ch_178 3 3 _).trans (pm_brd)
theorem pb_178v42_58 {d L : Nat} {b : Bool} {I : Nat → Nat → Int32} {J : Nat → Nat → Int64} {x2 x3 x4 : Int32} {Q : Int32 → Int64 → pm_H → Prop} : pm_wp pm_code pm_meta d 178 58 ([.ref 79, .ref 122, .int x2, .int x3, .int x4], [], (pm_Gb L b, I, J)) Q ↔ Q 0 0 (pm_Gb L b, I, J) := (pm_bk_iff pc_ch_178 1 58 _).trans (pm_tt)
theorem pb_178v42_9 {d L : Nat} {b : Bool} {I : Nat → Nat → Int32} {J : Nat → Nat → Int64} {x2 x3 x4 : Int32} {Q : Int32 → Int64 → pm_H → Prop} : pm_wp pm_code pm_meta d 178 9 ([.ref 79, .ref 122, .int x2, .int x3, .int x4], [], (pm_Gb L b, I, J)) Q ↔ if x3 = 0 then pm_wp pm_code pm_meta d 178 29 ([.ref 79, .ref 122, .int x2, .int x3, .int x4], [], (pm_Gb L b, I, J)) Q else pm_wp pm_code pm_meta d 178 13 ([.ref 79, .ref 122, .int x2, .int x3, .int x4], [], (pm_Gb L b, I, J)) Q := (pm_bk_iff pc_ch_178 2 9 _).trans (pm_brd)
theorem pb_178v42_29 {d L : Nat} {b : Bool} {I : Nat → Nat → Int32} {J : Nat → Nat → Int64} {x2 x3 x4 : Int32} {Q : Int32 → Int64 → pm_H → Prop} : pm_wp pm_code pm_meta d 178 29 ([.ref 79, .ref 122, .int x2, .int x3, .int x4], [], (pm_Gb L b, I, J)) Q ↔ pm_in (I 79 58) 4200 = true ∧ (pm_in x4 1040 = true ∧ (pm_wp pm_code pm_meta d 178 42 ([.ref 79, .ref 122, .int x2, .int x3, .int x4], [], (pm_Gb L b, (pm_u I 122 x4.toNatClampNeg (I 136 (I 79 58).toNatClampNeg)), J)) Q)) := (pm_bk_iff pc_ch_178 8 29 _).trans (and_congr Iff.rfl (and_congr Iff.rfl (Iff.rfl)))
theorem pb_178v42_13 {d L : Nat} {b : Bool} {I : Nat → Nat → Int32} {J : Nat → Nat → Int64} {x2 x3 x4 : Int32} {Q : Int32 → Int64 → pm_H → Prop} : pm_wp pm_code pm_meta d 178 13 ([.ref 79, .ref 122, .int x2, .int x3, .int x4], [], (pm_Gb L b, I, J)) Q ↔ pm_in x4 1040 = true ∧ (pm_in (I 79 58) 4200 = true ∧ (pm_wp pm_code pm_meta d 178 42 ([.ref 79, .ref 122, .int x2, .int x3, .int x4], [], (pm_Gb L b, (pm_u I 136 (I 79 58).toNatClampNeg (I 122 x4.toNatClampNeg)), J)) Q)) := (pm_bk_iff pc_ch_178 9 13 _).trans (and_congr Iff.rfl (and_congr Iff.rfl (Iff.rfl)))
theorem pb_178v42_42 {d L : Nat} {b : Bool} {I : Nat → Nat → Int32} {J : Nat → Nat → Int64} {x2 x3 x4 : Int32} {Q : Int32 → Int64 → pm_H → Prop} : pm_wp pm_code pm_meta d 178 42 ([.ref 79, .ref 122, .int x2, .int x3, .int x4], [], (pm_Gb L b, I, J)) Q ↔ pm_wp pm_code pm_meta d 178 3 ([.ref 79, .ref 122, .int x2, .int x3, .int (x4 + 1)], [], (pm_Gb L b, (pm_u I 79 58 ((I 79 58) + 1)), J)) Q := (pm_bk_iff pc_ch_178 8 42 _).trans (Iff.rfl)
theorem cop_k_122 {d L : Nat} {b : Bool} {I : Nat → Nat → Int32} {J : Nat → Nat → Int64} {Q : Int32 → Int64 → pm_H → Prop} {I1 : Nat → Nat → Int32} (hP : pr_kp 42 1368 I I1) (hQ : ∀ I2, pr_kp 43 2328 I I2 → Q 0 0 (pm_Gb L b, I2, J)) : pm_wc pm_code pm_meta d 178 [.ref 79, .ref 122, .int 960, .int 1] (pm_Gb L b, I1, J) Q := by
  rw [pb_178v42_0]
  refine cop_k (A := fun x I' => pm_wp pm_code pm_meta d 178 3 ([.ref 79, .ref 122, .int 960, .int 1, .int x], [], (pm_Gb L b, I', J)) Q) (E' := fun _ I' => Q 0 0 (pm_Gb L b, I', J)) (r := 122) (of := 1368) (len := 960) (n := 42) (by decide) rfl rfl rfl (fun m I' hm h58 h => ?_) (fun I' h => ?_) hP hQ
  · have g := on_n (a := 1368 + m) (by omega)
    have gm := on_n (a := m) (by omega)
    rw [pb_178v42_3, if_neg (by rw [show (960 : Int32) = Int32.ofNat 960 from rfl, on_le (by omega) (by omega)]; omega), pb_178v42_9, if_neg (by decide), pb_178v42_13, h58, g.2.1, gm.2.1]
    refine ⟨pi_in gm.1 (by rw [gm.2.2]; omega), pi_in g.1 (by rw [g.2.2]; omega), ?_⟩
    rw [pb_178v42_42, pm_u_row, if_neg (by decide), h58, on_s, on_s]
    exact h
  · show pm_wp _ _ _ _ _ _ _
    rw [pb_178v42_3, if_pos (by decide), pb_178v42_58]
    exact h
theorem cop_a_122 {d L : Nat} {b : Bool} {I : Nat → Nat → Int32} {J : Nat → Nat → Int64} {Q : Int32 → Int64 → pm_H → Prop} {I1 : Nat → Nat → Int32} (hP : pr_ap 42 1368 I I1) (hQ : ∀ I2, pr_ap 43 2328 I I2 → Q 0 0 (pm_Gb L b, I2, J)) : pm_wc pm_code pm_meta d 178 [.ref 79, .ref 122, .int 960, .int 0] (pm_Gb L b, I1, J) Q := by
  rw [pb_178v42_0]
  refine cop_a (A := fun x I' => pm_wp pm_code pm_meta d 178 3 ([.ref 79, .ref 122, .int 960, .int 0, .int x], [], (pm_Gb L b, I', J)) Q) (E' := fun _ I' => Q 0 0 (pm_Gb L b, I', J)) (r := 122) (of := 1368) (len := 960) (n := 42) (by decide) rfl rfl rfl (fun m I' hm h58 h => ?_) (fun I' h => ?_) hP hQ
  · have g := on_n (a := 1368 + m) (by omega)
    have gm := on_n (a := m) (by omega)
    rw [pb_178v42_3, if_neg (by rw [show (960 : Int32) = Int32.ofNat 960 from rfl, on_le (by omega) (by omega)]; omega), pb_178v42_9, if_pos rfl, pb_178v42_29, h58, g.2.1, gm.2.1]
    refine ⟨pi_in g.1 (by rw [g.2.2]; omega), pi_in gm.1 (by rw [gm.2.2]; omega), ?_⟩
    rw [pb_178v42_42, pm_u_row, if_neg (by decide), h58, on_s, on_s]
    exact h
  · show pm_wp _ _ _ _ _ _ _
    rw [pb_178v42_3, if_pos (by decide), pb_178v42_58]
    exact h
theorem pb_178v43_0 {d L : Nat} {b : Bool} {I : Nat → Nat → Int32} {J : Nat → Nat → Int64} {x2 x3 : Int32} {Q : Int32 → Int64 → pm_H → Prop} : pm_wc pm_code pm_meta d 178 [.ref 79, .ref 123, .int x2, .int x3] (pm_Gb L b, I, J) Q ↔ pm_wp pm_code pm_meta d 178 3 ([.ref 79, .ref 123, .int x2, .int x3, .int 0], [], (pm_Gb L b, I, J)) Q := (pm_bk_iff pc_ch_178 2 0 _).trans (Iff.rfl)
theorem pb_178v43_3 {d L : Nat} {b : Bool} {I : Nat → Nat → Int32} {J : Nat → Nat → Int64} {x2 x3 x4 : Int32} {Q : Int32 → Int64 → pm_H → Prop} : pm_wp pm_code pm_meta d 178 3 ([.ref 79, .ref 123, .int x2, .int x3, .int x4], [], (pm_Gb L b, I, J)) Q ↔ if x2 ≤ x4 then pm_wp pm_code pm_meta d 178 58 ([.ref 79, .ref 123, .int x2, .int x3, .int x4], [], (pm_Gb L b, I, J)) Q else pm_wp pm_code pm_meta d 178 9 ([.ref 79, .ref 123, .int x2, .int x3, .int x4], [], (pm_Gb L b, I, J)) Q := (pm_bk_iff pc_ch_178 3 3 _).trans (pm_brd)
theorem pb_178v43_58 {d L : Nat} {b : Bool} {I : Nat → Nat → Int32} {J : Nat → Nat → Int64} {x2 x3 x4 : Int32} {Q : Int32 → Int64 → pm_H → Prop} : pm_wp pm_code pm_meta d 178 58 ([.ref 79, .ref 123, .int x2, .int x3, .int x4], [], (pm_Gb L b, I, J)) Q ↔ Q 0 0 (pm_Gb L b, I, J) := (pm_bk_iff pc_ch_178 1 58 _).trans (pm_tt)
theorem pb_178v43_9 {d L : Nat} {b : Bool} {I : Nat → Nat → Int32} {J : Nat → Nat → Int64} {x2 x3 x4 : Int32} {Q : Int32 → Int64 → pm_H → Prop} : pm_wp pm_code pm_meta d 178 9 ([.ref 79, .ref 123, .int x2, .int x3, .int x4], [], (pm_Gb L b, I, J)) Q ↔ if x3 = 0 then pm_wp pm_code pm_meta d 178 29 ([.ref 79, .ref 123, .int x2, .int x3, .int x4], [], (pm_Gb L b, I, J)) Q else pm_wp pm_code pm_meta d 178 13 ([.ref 79, .ref 123, .int x2, .int x3, .int x4], [], (pm_Gb L b, I, J)) Q := (pm_bk_iff pc_ch_178 2 9 _).trans (pm_brd)
theorem pb_178v43_29 {d L : Nat} {b : Bool} {I : Nat → Nat → Int32} {J : Nat → Nat → Int64} {x2 x3 x4 : Int32} {Q : Int32 → Int64 → pm_H → Prop} : pm_wp pm_code pm_meta d 178 29 ([.ref 79, .ref 123, .int x2, .int x3, .int x4], [], (pm_Gb L b, I, J)) Q ↔ pm_in (I 79 58) 4200 = true ∧ (pm_in x4 1040 = true ∧ (pm_wp pm_code pm_meta d 178 42 ([.ref 79, .ref 123, .int x2, .int x3, .int x4], [], (pm_Gb L b, (pm_u I 123 x4.toNatClampNeg (I 136 (I 79 58).toNatClampNeg)), J)) Q)) := (pm_bk_iff pc_ch_178 8 29 _).trans (and_congr Iff.rfl (and_congr Iff.rfl (Iff.rfl)))
theorem pb_178v43_13 {d L : Nat} {b : Bool} {I : Nat → Nat → Int32} {J : Nat → Nat → Int64} {x2 x3 x4 : Int32} {Q : Int32 → Int64 → pm_H → Prop} : pm_wp pm_code pm_meta d 178 13 ([.ref 79, .ref 123, .int x2, .int x3, .int x4], [], (pm_Gb L b, I, J)) Q ↔ pm_in x4 1040 = true ∧ (pm_in (I 79 58) 4200 = true ∧ (pm_wp pm_code pm_meta d 178 42 ([.ref 79, .ref 123, .int x2, .int x3, .int x4], [], (pm_Gb L b, (pm_u I 136 (I 79 58).toNatClampNeg (I 123 x4.toNatClampNeg)), J)) Q)) := (pm_bk_iff pc_ch_178 9 13 _).trans (and_congr Iff.rfl (and_congr Iff.rfl (Iff.rfl)))
theorem pb_178v43_42 {d L : Nat} {b : Bool} {I : Nat → Nat → Int32} {J : Nat → Nat → Int64} {x2 x3 x4 : Int32} {Q : Int32 → Int64 → pm_H → Prop} : pm_wp pm_code pm_meta d 178 42 ([.ref 79, .ref 123, .int x2, .int x3, .int x4], [], (pm_Gb L b, I, J)) Q ↔ pm_wp pm_code pm_meta d 178 3 ([.ref 79, .ref 123, .int x2, .int x3, .int (x4 + 1)], [], (pm_Gb L b, (pm_u I 79 58 ((I 79 58) + 1)), J)) Q := (pm_bk_iff pc_ch_178 8 42 _).trans (Iff.rfl)
theorem cop_k_123 {d L : Nat} {b : Bool} {I : Nat → Nat → Int32} {J : Nat → Nat → Int64} {Q : Int32 → Int64 → pm_H → Prop} {I1 : Nat → Nat → Int32} (hP : pr_kp 43 2328 I I1) (hQ : ∀ I2, pr_kp 44 3288 I I2 → Q 0 0 (pm_Gb L b, I2, J)) : pm_wc pm_code pm_meta d 178 [.ref 79, .ref 123, .int 960, .int 1] (pm_Gb L b, I1, J) Q := by
  rw [pb_178v43_0]
  refine cop_k (A := fun x I' => pm_wp pm_code pm_meta d 178 3 ([.ref 79, .ref 123, .int 960, .int 1, .int x], [], (pm_Gb L b, I', J)) Q) (E' := fun _ I' => Q 0 0 (pm_Gb L b, I', J)) (r := 123) (of := 2328) (len := 960) (n := 43) (by decide) rfl rfl rfl (fun m I' hm h58 h => ?_) (fun I' h => ?_) hP hQ
  · have g := on_n (a := 2328 + m) (by omega)
    have gm := on_n (a := m) (by omega)
    rw [pb_178v43_3, if_neg (by rw [show (960 : Int32) = Int32.ofNat 960 from rfl, on_le (by omega) (by omega)]; omega), pb_178v43_9, if_neg (by decide), pb_178v43_13, h58, g.2.1, gm.2.1]
    refine ⟨pi_in gm.1 (by rw [gm.2.2]; omega), pi_in g.1 (by rw [g.2.2]; omega), ?_⟩
    rw [pb_178v43_42, pm_u_row, if_neg (by decide), h58, on_s, on_s]
    exact h
  · show pm_wp _ _ _ _ _ _ _
    rw [pb_178v43_3, if_pos (by decide), pb_178v43_58]
    exact h
theorem cop_a_123 {d L : Nat} {b : Bool} {I : Nat → Nat → Int32} {J : Nat → Nat → Int64} {Q : Int32 → Int64 → pm_H → Prop} {I1 : Nat → Nat → Int32} (hP : pr_ap 43 2328 I I1) (hQ : ∀ I2, pr_ap 44 3288 I I2 → Q 0 0 (pm_Gb L b, I2, J)) : pm_wc pm_code pm_meta d 178 [.ref 79, .ref 123, .int 960, .int 0] (pm_Gb L b, I1, J) Q := by
  rw [pb_178v43_0]
  refine cop_a (A := fun x I' => pm_wp pm_code pm_meta d 178 3 ([.ref 79, .ref 123, .int 960, .int 0, .int x], [], (pm_Gb L b, I', J)) Q) (E' := fun _ I' => Q 0 0 (pm_Gb L b, I', J)) (r := 123) (of := 2328) (len := 960) (n := 43) (by decide) rfl rfl rfl (fun m I' hm h58 h => ?_) (fun I' h => ?_) hP hQ
  · have g := on_n (a := 2328 + m) (by omega)
    have gm := on_n (a := m) (by omega)
    rw [pb_178v43_3, if_neg (by rw [show (960 : Int32) = Int32.ofNat 960 from rfl, on_le (by omega) (by omega)]; omega), pb_178v43_9, if_pos rfl, pb_178v43_29, h58, g.2.1, gm.2.1]
    refine ⟨pi_in g.1 (by rw [g.2.2]; omega), pi_in gm.1 (by rw [gm.2.2]; omega), ?_⟩
    rw [pb_178v43_42, pm_u_row, if_neg (by decide), h58, on_s, on_s]
    exact h
  · show pm_wp _ _ _ _ _ _ _
    rw [pb_178v43_3, if_pos (by decide), pb_178v43_58]
    exact h
theorem pb_178v44_0 {d L : Nat} {b : Bool} {I : Nat → Nat → Int32} {J : Nat → Nat → Int64} {x2 x3 : Int32} {Q : Int32 → Int64 → pm_H → Prop} : pm_wc pm_code pm_meta d 178 [.ref 79, .ref 124, .int x2, .int x3] (pm_Gb L b, I, J) Q ↔ pm_wp pm_code pm_meta d 178 3 ([.ref 79, .ref 124, .int x2, .int x3, .int 0], [], (pm_Gb L b, I, J)) Q := (pm_bk_iff pc_ch_178 2 0 _).trans (Iff.rfl)
theorem pb_178v44_3 {d L : Nat} {b : Bool} {I : Nat → Nat → Int32} {J : Nat → Nat → Int64} {x2 x3 x4 : Int32} {Q : Int32 → Int64 → pm_H → Prop} : pm_wp pm_code pm_meta d 178 3 ([.ref 79, .ref 124, .int x2, .int x3, .int x4], [], (pm_Gb L b, I, J)) Q ↔ if x2 ≤ x4 then pm_wp pm_code pm_meta d 178 58 ([.ref 79, .ref 124, .int x2, .int x3, .int x4], [], (pm_Gb L b, I, J)) Q else pm_wp pm_code pm_meta d 178 9 ([.ref 79, .ref 124, .int x2, .int x3, .int x4], [], (pm_Gb L b, I, J)) Q := (pm_bk_iff pc_ch_178 3 3 _).trans (pm_brd)
theorem pb_178v44_58 {d L : Nat} {b : Bool} {I : Nat → Nat → Int32} {J : Nat → Nat → Int64} {x2 x3 x4 : Int32} {Q : Int32 → Int64 → pm_H → Prop} : pm_wp pm_code pm_meta d 178 58 ([.ref 79, .ref 124, .int x2, .int x3, .int x4], [], (pm_Gb L b, I, J)) Q ↔ Q 0 0 (pm_Gb L b, I, J) := (pm_bk_iff pc_ch_178 1 58 _).trans (pm_tt)
theorem pb_178v44_9 {d L : Nat} {b : Bool} {I : Nat → Nat → Int32} {J : Nat → Nat → Int64} {x2 x3 x4 : Int32} {Q : Int32 → Int64 → pm_H → Prop} : pm_wp pm_code pm_meta d 178 9 ([.ref 79, .ref 124, .int x2, .int x3, .int x4], [], (pm_Gb L b, I, J)) Q ↔ if x3 = 0 then pm_wp pm_code pm_meta d 178 29 ([.ref 79, .ref 124, .int x2, .int x3, .int x4], [], (pm_Gb L b, I, J)) Q else pm_wp pm_code pm_meta d 178 13 ([.ref 79, .ref 124, .int x2, .int x3, .int x4], [], (pm_Gb L b, I, J)) Q := (pm_bk_iff pc_ch_178 2 9 _).trans (pm_brd)
theorem pb_178v44_29 {d L : Nat} {b : Bool} {I : Nat → Nat → Int32} {J : Nat → Nat → Int64} {x2 x3 x4 : Int32} {Q : Int32 → Int64 → pm_H → Prop} : pm_wp pm_code pm_meta d 178 29 ([.ref 79, .ref 124, .int x2, .int x3, .int x4], [], (pm_Gb L b, I, J)) Q ↔ pm_in (I 79 58) 4200 = true ∧ (pm_in x4 4 = true ∧ (pm_wp pm_code pm_meta d 178 42 ([.ref 79, .ref 124, .int x2, .int x3, .int x4], [], (pm_Gb L b, (pm_u I 124 x4.toNatClampNeg (I 136 (I 79 58).toNatClampNeg)), J)) Q)) := (pm_bk_iff pc_ch_178 8 29 _).trans (and_congr Iff.rfl (and_congr Iff.rfl (Iff.rfl)))
theorem pb_178v44_13 {d L : Nat} {b : Bool} {I : Nat → Nat → Int32} {J : Nat → Nat → Int64} {x2 x3 x4 : Int32} {Q : Int32 → Int64 → pm_H → Prop} : pm_wp pm_code pm_meta d 178 13 ([.ref 79, .ref 124, .int x2, .int x3, .int x4], [], (pm_Gb L b, I, J)) Q ↔ pm_in x4 4 = true ∧ (pm_in (I 79 58) 4200 = true ∧ (pm_wp pm_code pm_meta d 178 42 ([.ref 79, .ref 124, .int x2, .int x3, .int x4], [], (pm_Gb L b, (pm_u I 136 (I 79 58).toNatClampNeg (I 124 x4.toNatClampNeg)), J)) Q)) := (pm_bk_iff pc_ch_178 9 13 _).trans (and_congr Iff.rfl (and_congr Iff.rfl (Iff.rfl)))
theorem pb_178v44_42 {d L : Nat} {b : Bool} {I : Nat → Nat → Int32} {J : Nat → Nat → Int64} {x2 x3 x4 : Int32} {Q : Int32 → Int64 → pm_H → Prop} : pm_wp pm_code pm_meta d 178 42 ([.ref 79, .ref 124, .int x2, .int x3, .int x4], [], (pm_Gb L b, I, J)) Q ↔ pm_wp pm_code pm_meta d 178 3 ([.ref 79, .ref 124, .int x2, .int x3, .int (x4 + 1)], [], (pm_Gb L b, (pm_u I 79 58 ((I 79 58) + 1)), J)) Q := (pm_bk_iff pc_ch_178 8 42 _).trans (Iff.rfl)
theorem cop_k_124 {d L : Nat} {b : Bool} {I : Nat → Nat → Int32} {J : Nat → Nat → Int64} {Q : Int32 → Int64 → pm_H → Prop} {I1 : Nat → Nat → Int32} (hP : pr_kp 44 3288 I I1) (hQ : ∀ I2, pr_kp 45 3292 I I2 → Q 0 0 (pm_Gb L b, I2, J)) : pm_wc pm_code pm_meta d 178 [.ref 79, .ref 124, .int 4, .int 1] (pm_Gb L b, I1, J) Q := by
  rw [pb_178v44_0]
  refine cop_k (A := fun x I' => pm_wp pm_code pm_meta d 178 3 ([.ref 79, .ref 124, .int 4, .int 1, .int x], [], (pm_Gb L b, I', J)) Q) (E' := fun _ I' => Q 0 0 (pm_Gb L b, I', J)) (r := 124) (of := 3288) (len := 4) (n := 44) (by decide) rfl rfl rfl (fun m I' hm h58 h => ?_) (fun I' h => ?_) hP hQ
  · have g := on_n (a := 3288 + m) (by omega)
    have gm := on_n (a := m) (by omega)
    rw [pb_178v44_3, if_neg (by rw [show (4 : Int32) = Int32.ofNat 4 from rfl, on_le (by omega) (by omega)]; omega), pb_178v44_9, if_neg (by decide), pb_178v44_13, h58, g.2.1, gm.2.1]
    refine ⟨pi_in gm.1 (by rw [gm.2.2]; omega), pi_in g.1 (by rw [g.2.2]; omega), ?_⟩
    rw [pb_178v44_42, pm_u_row, if_neg (by decide), h58, on_s, on_s]
    exact h
  · show pm_wp _ _ _ _ _ _ _
    rw [pb_178v44_3, if_pos (by decide), pb_178v44_58]
    exact h
theorem cop_a_124 {d L : Nat} {b : Bool} {I : Nat → Nat → Int32} {J : Nat → Nat → Int64} {Q : Int32 → Int64 → pm_H → Prop} {I1 : Nat → Nat → Int32} (hP : pr_ap 44 3288 I I1) (hQ : ∀ I2, pr_ap 45 3292 I I2 → Q 0 0 (pm_Gb L b, I2, J)) : pm_wc pm_code pm_meta d 178 [.ref 79, .ref 124, .int 4, .int 0] (pm_Gb L b, I1, J) Q := by
  rw [pb_178v44_0]
  refine cop_a (A := fun x I' => pm_wp pm_code pm_meta d 178 3 ([.ref 79, .ref 124, .int 4, .int 0, .int x], [], (pm_Gb L b, I', J)) Q) (E' := fun _ I' => Q 0 0 (pm_Gb L b, I', J)) (r := 124) (of := 3288) (len := 4) (n := 44) (by decide) rfl rfl rfl (fun m I' hm h58 h => ?_) (fun I' h => ?_) hP hQ
  · have g := on_n (a := 3288 + m) (by omega)
    have gm := on_n (a := m) (by omega)
    rw [pb_178v44_3, if_neg (by rw [show (4 : Int32) = Int32.ofNat 4 from rfl, on_le (by omega) (by omega)]; omega), pb_178v44_9, if_pos rfl, pb_178v44_29, h58, g.2.1, gm.2.1]
    refine ⟨pi_in g.1 (by rw [g.2.2]; omega), pi_in gm.1 (by rw [gm.2.2]; omega), ?_⟩
    rw [pb_178v44_42, pm_u_row, if_neg (by decide), h58, on_s, on_s]
    exact h
  · show pm_wp _ _ _ _ _ _ _
    rw [pb_178v44_3, if_pos (by decide), pb_178v44_58]
    exact h
theorem pb_178v45_0 {d L : Nat} {b : Bool} {I : Nat → Nat → Int32} {J : Nat → Nat → Int64} {x2 x3 : Int32} {Q : Int32 → Int64 → pm_H → Prop} : pm_wc pm_code pm_meta d 178 [.ref 79, .ref 125, .int x2, .int x3] (pm_Gb L b, I, J) Q ↔ pm_wp pm_code pm_meta d 178 3 ([.ref 79, .ref 125, .int x2, .int x3, .int 0], [], (pm_Gb L b, I, J)) Q := (pm_bk_iff pc_ch_178 2 0 _).trans (Iff.rfl)
theorem pb_178v45_3 {d L : Nat} {b : Bool} {I : Nat → Nat → Int32} {J : Nat → Nat → Int64} {x2 x3 x4 : Int32} {Q : Int32 → Int64 → pm_H → Prop} : pm_wp pm_code pm_meta d 178 3 ([.ref 79, .ref 125, .int x2, .int x3, .int x4], [], (pm_Gb L b, I, J)) Q ↔ if x2 ≤ x4 then pm_wp pm_code pm_meta d 178 58 ([.ref 79, .ref 125, .int x2, .int x3, .int x4], [], (pm_Gb L b, I, J)) Q else pm_wp pm_code pm_meta d 178 9 ([.ref 79, .ref 125, .int x2, .int x3, .int x4], [], (pm_Gb L b, I, J)) Q := (pm_bk_iff pc_ch_178 3 3 _).trans (pm_brd)
theorem pb_178v45_58 {d L : Nat} {b : Bool} {I : Nat → Nat → Int32} {J : Nat → Nat → Int64} {x2 x3 x4 : Int32} {Q : Int32 → Int64 → pm_H → Prop} : pm_wp pm_code pm_meta d 178 58 ([.ref 79, .ref 125, .int x2, .int x3, .int x4], [], (pm_Gb L b, I, J)) Q ↔ Q 0 0 (pm_Gb L b, I, J) := (pm_bk_iff pc_ch_178 1 58 _).trans (pm_tt)
theorem pb_178v45_9 {d L : Nat} {b : Bool} {I : Nat → Nat → Int32} {J : Nat → Nat → Int64} {x2 x3 x4 : Int32} {Q : Int32 → Int64 → pm_H → Prop} : pm_wp pm_code pm_meta d 178 9 ([.ref 79, .ref 125, .int x2, .int x3, .int x4], [], (pm_Gb L b, I, J)) Q ↔ if x3 = 0 then pm_wp pm_code pm_meta d 178 29 ([.ref 79, .ref 125, .int x2, .int x3, .int x4], [], (pm_Gb L b, I, J)) Q else pm_wp pm_code pm_meta d 178 13 ([.ref 79, .ref 125, .int x2, .int x3, .int x4], [], (pm_Gb L b, I, J)) Q := (pm_bk_iff pc_ch_178 2 9 _).trans (pm_brd)
theorem pb_178v45_29 {d L : Nat} {b : Bool} {I : Nat → Nat → Int32} {J : Nat → Nat → Int64} {x2 x3 x4 : Int32} {Q : Int32 → Int64 → pm_H → Prop} : pm_wp pm_code pm_meta d 178 29 ([.ref 79, .ref 125, .int x2, .int x3, .int x4], [], (pm_Gb L b, I, J)) Q ↔ pm_in (I 79 58) 4200 = true ∧ (pm_in x4 24 = true ∧ (pm_wp pm_code pm_meta d 178 42 ([.ref 79, .ref 125, .int x2, .int x3, .int x4], [], (pm_Gb L b, (pm_u I 125 x4.toNatClampNeg (I 136 (I 79 58).toNatClampNeg)), J)) Q)) := (pm_bk_iff pc_ch_178 8 29 _).trans (and_congr Iff.rfl (and_congr Iff.rfl (Iff.rfl)))
theorem pb_178v45_13 {d L : Nat} {b : Bool} {I : Nat → Nat → Int32} {J : Nat → Nat → Int64} {x2 x3 x4 : Int32} {Q : Int32 → Int64 → pm_H → Prop} : pm_wp pm_code pm_meta d 178 13 ([.ref 79, .ref 125, .int x2, .int x3, .int x4], [], (pm_Gb L b, I, J)) Q ↔ pm_in x4 24 = true ∧ (pm_in (I 79 58) 4200 = true ∧ (pm_wp pm_code pm_meta d 178 42 ([.ref 79, .ref 125, .int x2, .int x3, .int x4], [], (pm_Gb L b, (pm_u I 136 (I 79 58).toNatClampNeg (I 125 x4.toNatClampNeg)), J)) Q)) := (pm_bk_iff pc_ch_178 9 13 _).trans (and_congr Iff.rfl (and_congr Iff.rfl (Iff.rfl)))
theorem pb_178v45_42 {d L : Nat} {b : Bool} {I : Nat → Nat → Int32} {J : Nat → Nat → Int64} {x2 x3 x4 : Int32} {Q : Int32 → Int64 → pm_H → Prop} : pm_wp pm_code pm_meta d 178 42 ([.ref 79, .ref 125, .int x2, .int x3, .int x4], [], (pm_Gb L b, I, J)) Q ↔ pm_wp pm_code pm_meta d 178 3 ([.ref 79, .ref 125, .int x2, .int x3, .int (x4 + 1)], [], (pm_Gb L b, (pm_u I 79 58 ((I 79 58) + 1)), J)) Q := (pm_bk_iff pc_ch_178 8 42 _).trans (Iff.rfl)
theorem cop_k_125 {d L : Nat} {b : Bool} {I : Nat → Nat → Int32} {J : Nat → Nat → Int64} {Q : Int32 → Int64 → pm_H → Prop} {I1 : Nat → Nat → Int32} (hP : pr_kp 45 3292 I I1) (hQ : ∀ I2, pr_kp 46 3316 I I2 → Q 0 0 (pm_Gb L b, I2, J)) : pm_wc pm_code pm_meta d 178 [.ref 79, .ref 125, .int 24, .int 1] (pm_Gb L b, I1, J) Q := by
  rw [pb_178v45_0]
  refine cop_k (A := fun x I' => pm_wp pm_code pm_meta d 178 3 ([.ref 79, .ref 125, .int 24, .int 1, .int x], [], (pm_Gb L b, I', J)) Q) (E' := fun _ I' => Q 0 0 (pm_Gb L b, I', J)) (r := 125) (of := 3292) (len := 24) (n := 45) (by decide) rfl rfl rfl (fun m I' hm h58 h => ?_) (fun I' h => ?_) hP hQ
  · have g := on_n (a := 3292 + m) (by omega)
    have gm := on_n (a := m) (by omega)
    rw [pb_178v45_3, if_neg (by rw [show (24 : Int32) = Int32.ofNat 24 from rfl, on_le (by omega) (by omega)]; omega), pb_178v45_9, if_neg (by decide), pb_178v45_13, h58, g.2.1, gm.2.1]
    refine ⟨pi_in gm.1 (by rw [gm.2.2]; omega), pi_in g.1 (by rw [g.2.2]; omega), ?_⟩
    rw [pb_178v45_42, pm_u_row, if_neg (by decide), h58, on_s, on_s]
    exact h
  · show pm_wp _ _ _ _ _ _ _
    rw [pb_178v45_3, if_pos (by decide), pb_178v45_58]
    exact h
theorem cop_a_125 {d L : Nat} {b : Bool} {I : Nat → Nat → Int32} {J : Nat → Nat → Int64} {Q : Int32 → Int64 → pm_H → Prop} {I1 : Nat → Nat → Int32} (hP : pr_ap 45 3292 I I1) (hQ : ∀ I2, pr_ap 46 3316 I I2 → Q 0 0 (pm_Gb L b, I2, J)) : pm_wc pm_code pm_meta d 178 [.ref 79, .ref 125, .int 24, .int 0] (pm_Gb L b, I1, J) Q := by
  rw [pb_178v45_0]
  refine cop_a (A := fun x I' => pm_wp pm_code pm_meta d 178 3 ([.ref 79, .ref 125, .int 24, .int 0, .int x], [], (pm_Gb L b, I', J)) Q) (E' := fun _ I' => Q 0 0 (pm_Gb L b, I', J)) (r := 125) (of := 3292) (len := 24) (n := 45) (by decide) rfl rfl rfl (fun m I' hm h58 h => ?_) (fun I' h => ?_) hP hQ
  · have g := on_n (a := 3292 + m) (by omega)
    have gm := on_n (a := m) (by omega)
    rw [pb_178v45_3, if_neg (by rw [show (24 : Int32) = Int32.ofNat 24 from rfl, on_le (by omega) (by omega)]; omega), pb_178v45_9, if_pos rfl, pb_178v45_29, h58, g.2.1, gm.2.1]
    refine ⟨pi_in g.1 (by rw [g.2.2]; omega), pi_in gm.1 (by rw [gm.2.2]; omega), ?_⟩
    rw [pb_178v45_42, pm_u_row, if_neg (by decide), h58, on_s, on_s]
    exact h
  · show pm_wp _ _ _ _ _ _ _
    rw [pb_178v45_3, if_pos (by decide), pb_178v45_58]
    exact h
theorem pb_178v46_0 {d L : Nat} {b : Bool} {I : Nat → Nat → Int32} {J : Nat → Nat → Int64} {x2 x3 : Int32} {Q : Int32 → Int64 → pm_H → Prop} : pm_wc pm_code pm_meta d 178 [.ref 79, .ref 126, .int x2, .int x3] (pm_Gb L b, I, J) Q ↔ pm_wp pm_code pm_meta d 178 3 ([.ref 79, .ref 126, .int x2, .int x3, .int 0], [], (pm_Gb L b, I, J)) Q := (pm_bk_iff pc_ch_178 2 0 _).trans (Iff.rfl)
theorem pb_178v46_3 {d L : Nat} {b : Bool} {I : Nat → Nat → Int32} {J : Nat → Nat → Int64} {x2 x3 x4 : Int32} {Q : Int32 → Int64 → pm_H → Prop} : pm_wp pm_code pm_meta d 178 3 ([.ref 79, .ref 126, .int x2, .int x3, .int x4], [], (pm_Gb L b, I, J)) Q ↔ if x2 ≤ x4 then pm_wp pm_code pm_meta d 178 58 ([.ref 79, .ref 126, .int x2, .int x3, .int x4], [], (pm_Gb L b, I, J)) Q else pm_wp pm_code pm_meta d 178 9 ([.ref 79, .ref 126, .int x2, .int x3, .int x4], [], (pm_Gb L b, I, J)) Q := (pm_bk_iff pc_ch_178 3 3 _).trans (pm_brd)
theorem pb_178v46_58 {d L : Nat} {b : Bool} {I : Nat → Nat → Int32} {J : Nat → Nat → Int64} {x2 x3 x4 : Int32} {Q : Int32 → Int64 → pm_H → Prop} : pm_wp pm_code pm_meta d 178 58 ([.ref 79, .ref 126, .int x2, .int x3, .int x4], [], (pm_Gb L b, I, J)) Q ↔ Q 0 0 (pm_Gb L b, I, J) := (pm_bk_iff pc_ch_178 1 58 _).trans (pm_tt)
theorem pb_178v46_9 {d L : Nat} {b : Bool} {I : Nat → Nat → Int32} {J : Nat → Nat → Int64} {x2 x3 x4 : Int32} {Q : Int32 → Int64 → pm_H → Prop} : pm_wp pm_code pm_meta d 178 9 ([.ref 79, .ref 126, .int x2, .int x3, .int x4], [], (pm_Gb L b, I, J)) Q ↔ if x3 = 0 then pm_wp pm_code pm_meta d 178 29 ([.ref 79, .ref 126, .int x2, .int x3, .int x4], [], (pm_Gb L b, I, J)) Q else pm_wp pm_code pm_meta d 178 13 ([.ref 79, .ref 126, .int x2, .int x3, .int x4], [], (pm_Gb L b, I, J)) Q := (pm_bk_iff pc_ch_178 2 9 _).trans (pm_brd)
theorem pb_178v46_29 {d L : Nat} {b : Bool} {I : Nat → Nat → Int32} {J : Nat → Nat → Int64} {x2 x3 x4 : Int32} {Q : Int32 → Int64 → pm_H → Prop} : pm_wp pm_code pm_meta d 178 29 ([.ref 79, .ref 126, .int x2, .int x3, .int x4], [], (pm_Gb L b, I, J)) Q ↔ pm_in (I 79 58) 4200 = true ∧ (pm_in x4 24 = true ∧ (pm_wp pm_code pm_meta d 178 42 ([.ref 79, .ref 126, .int x2, .int x3, .int x4], [], (pm_Gb L b, (pm_u I 126 x4.toNatClampNeg (I 136 (I 79 58).toNatClampNeg)), J)) Q)) := (pm_bk_iff pc_ch_178 8 29 _).trans (and_congr Iff.rfl (and_congr Iff.rfl (Iff.rfl)))
theorem pb_178v46_13 {d L : Nat} {b : Bool} {I : Nat → Nat → Int32} {J : Nat → Nat → Int64} {x2 x3 x4 : Int32} {Q : Int32 → Int64 → pm_H → Prop} : pm_wp pm_code pm_meta d 178 13 ([.ref 79, .ref 126, .int x2, .int x3, .int x4], [], (pm_Gb L b, I, J)) Q ↔ pm_in x4 24 = true ∧ (pm_in (I 79 58) 4200 = true ∧ (pm_wp pm_code pm_meta d 178 42 ([.ref 79, .ref 126, .int x2, .int x3, .int x4], [], (pm_Gb L b, (pm_u I 136 (I 79 58).toNatClampNeg (I 126 x4.toNatClampNeg)), J)) Q)) := (pm_bk_iff pc_ch_178 9 13 _).trans (and_congr Iff.rfl (and_congr Iff.rfl (Iff.rfl)))
theorem pb_178v46_42 {d L : Nat} {b : Bool} {I : Nat → Nat → Int32} {J : Nat → Nat → Int64} {x2 x3 x4 : Int32} {Q : Int32 → Int64 → pm_H → Prop} : pm_wp pm_code pm_meta d 178 42 ([.ref 79, .ref 126, .int x2, .int x3, .int x4], [], (pm_Gb L b, I, J)) Q ↔ pm_wp pm_code pm_meta d 178 3 ([.ref 79, .ref 126, .int x2, .int x3, .int (x4 + 1)], [], (pm_Gb L b, (pm_u I 79 58 ((I 79 58) + 1)), J)) Q := (pm_bk_iff pc_ch_178 8 42 _).trans (Iff.rfl)
theorem cop_k_126 {d L : Nat} {b : Bool} {I : Nat → Nat → Int32} {J : Nat → Nat → Int64} {Q : Int32 → Int64 → pm_H → Prop} {I1 : Nat → Nat → Int32} (hP : pr_kp 46 3316 I I1) (hQ : ∀ I2, pr_kp 47 3340 I I2 → Q 0 0 (pm_Gb L b, I2, J)) : pm_wc pm_code pm_meta d 178 [.ref 79, .ref 126, .int 24, .int 1] (pm_Gb L b, I1, J) Q := by
  rw [pb_178v46_0]
  refine cop_k (A := fun x I' => pm_wp pm_code pm_meta d 178 3 ([.ref 79, .ref 126, .int 24, .int 1, .int x], [], (pm_Gb L b, I', J)) Q) (E' := fun _ I' => Q 0 0 (pm_Gb L b, I', J)) (r := 126) (of := 3316) (len := 24) (n := 46) (by decide) rfl rfl rfl (fun m I' hm h58 h => ?_) (fun I' h => ?_) hP hQ
  · have g := on_n (a := 3316 + m) (by omega)
    have gm := on_n (a := m) (by omega)
    rw [pb_178v46_3, if_neg (by rw [show (24 : Int32) = Int32.ofNat 24 from rfl, on_le (by omega) (by omega)]; omega), pb_178v46_9, if_neg (by decide), pb_178v46_13, h58, g.2.1, gm.2.1]
    refine ⟨pi_in gm.1 (by rw [gm.2.2]; omega), pi_in g.1 (by rw [g.2.2]; omega), ?_⟩
    rw [pb_178v46_42, pm_u_row, if_neg (by decide), h58, on_s, on_s]
    exact h
  · show pm_wp _ _ _ _ _ _ _
    rw [pb_178v46_3, if_pos (by decide), pb_178v46_58]
    exact h
theorem cop_a_126 {d L : Nat} {b : Bool} {I : Nat → Nat → Int32} {J : Nat → Nat → Int64} {Q : Int32 → Int64 → pm_H → Prop} {I1 : Nat → Nat → Int32} (hP : pr_ap 46 3316 I I1) (hQ : ∀ I2, pr_ap 47 3340 I I2 → Q 0 0 (pm_Gb L b, I2, J)) : pm_wc pm_code pm_meta d 178 [.ref 79, .ref 126, .int 24, .int 0] (pm_Gb L b, I1, J) Q := by
  rw [pb_178v46_0]
  refine cop_a (A := fun x I' => pm_wp pm_code pm_meta d 178 3 ([.ref 79, .ref 126, .int 24, .int 0, .int x], [], (pm_Gb L b, I', J)) Q) (E' := fun _ I' => Q 0 0 (pm_Gb L b, I', J)) (r := 126) (of := 3316) (len := 24) (n := 46) (by decide) rfl rfl rfl (fun m I' hm h58 h => ?_) (fun I' h => ?_) hP hQ
  · have g := on_n (a := 3316 + m) (by omega)
    have gm := on_n (a := m) (by omega)
    rw [pb_178v46_3, if_neg (by rw [show (24 : Int32) = Int32.ofNat 24 from rfl, on_le (by omega) (by omega)]; omega), pb_178v46_9, if_pos rfl, pb_178v46_29, h58, g.2.1, gm.2.1]
    refine ⟨pi_in g.1 (by rw [g.2.2]; omega), pi_in gm.1 (by rw [gm.2.2]; omega), ?_⟩
    rw [pb_178v46_42, pm_u_row, if_neg (by decide), h58, on_s, on_s]
    exact h
  · show pm_wp _ _ _ _ _ _ _
    rw [pb_178v46_3, if_pos (by decide), pb_178v46_58]
    exact h
theorem pb_178v47_0 {d L : Nat} {b : Bool} {I : Nat → Nat → Int32} {J : Nat → Nat → Int64} {x2 x3 : Int32} {Q : Int32 → Int64 → pm_H → Prop} : pm_wc pm_code pm_meta d 178 [.ref 79, .ref 127, .int x2, .int x3] (pm_Gb L b, I, J) Q ↔ pm_wp pm_code pm_meta d 178 3 ([.ref 79, .ref 127, .int x2, .int x3, .int 0], [], (pm_Gb L b, I, J)) Q := (pm_bk_iff pc_ch_178 2 0 _).trans (Iff.rfl)
theorem pb_178v47_3 {d L : Nat} {b : Bool} {I : Nat → Nat → Int32} {J : Nat → Nat → Int64} {x2 x3 x4 : Int32} {Q : Int32 → Int64 → pm_H → Prop} : pm_wp pm_code pm_meta d 178 3 ([.ref 79, .ref 127, .int x2, .int x3, .int x4], [], (pm_Gb L b, I, J)) Q ↔ if x2 ≤ x4 then pm_wp pm_code pm_meta d 178 58 ([.ref 79, .ref 127, .int x2, .int x3, .int x4], [], (pm_Gb L b, I, J)) Q else pm_wp pm_code pm_meta d 178 9 ([.ref 79, .ref 127, .int x2, .int x3, .int x4], [], (pm_Gb L b, I, J)) Q := (pm_bk_iff pc_ch_178 3 3 _).trans (pm_brd)
theorem pb_178v47_58 {d L : Nat} {b : Bool} {I : Nat → Nat → Int32} {J : Nat → Nat → Int64} {x2 x3 x4 : Int32} {Q : Int32 → Int64 → pm_H → Prop} : pm_wp pm_code pm_meta d 178 58 ([.ref 79, .ref 127, .int x2, .int x3, .int x4], [], (pm_Gb L b, I, J)) Q ↔ Q 0 0 (pm_Gb L b, I, J) := (pm_bk_iff pc_ch_178 1 58 _).trans (pm_tt)
theorem pb_178v47_9 {d L : Nat} {b : Bool} {I : Nat → Nat → Int32} {J : Nat → Nat → Int64} {x2 x3 x4 : Int32} {Q : Int32 → Int64 → pm_H → Prop} : pm_wp pm_code pm_meta d 178 9 ([.ref 79, .ref 127, .int x2, .int x3, .int x4], [], (pm_Gb L b, I, J)) Q ↔ if x3 = 0 then pm_wp pm_code pm_meta d 178 29 ([.ref 79, .ref 127, .int x2, .int x3, .int x4], [], (pm_Gb L b, I, J)) Q else pm_wp pm_code pm_meta d 178 13 ([.ref 79, .ref 127, .int x2, .int x3, .int x4], [], (pm_Gb L b, I, J)) Q := (pm_bk_iff pc_ch_178 2 9 _).trans (pm_brd)
theorem pb_178v47_29 {d L : Nat} {b : Bool} {I : Nat → Nat → Int32} {J : Nat → Nat → Int64} {x2 x3 x4 : Int32} {Q : Int32 → Int64 → pm_H → Prop} : pm_wp pm_code pm_meta d 178 29 ([.ref 79, .ref 127, .int x2, .int x3, .int x4], [], (pm_Gb L b, I, J)) Q ↔ pm_in (I 79 58) 4200 = true ∧ (pm_in x4 24 = true ∧ (pm_wp pm_code pm_meta d 178 42 ([.ref 79, .ref 127, .int x2, .int x3, .int x4], [], (pm_Gb L b, (pm_u I 127 x4.toNatClampNeg (I 136 (I 79 58).toNatClampNeg)), J)) Q)) := (pm_bk_iff pc_ch_178 8 29 _).trans (and_congr Iff.rfl (and_congr Iff.rfl (Iff.rfl)))
theorem pb_178v47_13 {d L : Nat} {b : Bool} {I : Nat → Nat → Int32} {J : Nat → Nat → Int64} {x2 x3 x4 : Int32} {Q : Int32 → Int64 → pm_H → Prop} : pm_wp pm_code pm_meta d 178 13 ([.ref 79, .ref 127, .int x2, .int x3, .int x4], [], (pm_Gb L b, I, J)) Q ↔ pm_in x4 24 = true ∧ (pm_in (I 79 58) 4200 = true ∧ (pm_wp pm_code pm_meta d 178 42 ([.ref 79, .ref 127, .int x2, .int x3, .int x4], [], (pm_Gb L b, (pm_u I 136 (I 79 58).toNatClampNeg (I 127 x4.toNatClampNeg)), J)) Q)) := (pm_bk_iff pc_ch_178 9 13 _).trans (and_congr Iff.rfl (and_congr Iff.rfl (Iff.rfl)))
theorem pb_178v47_42 {d L : Nat} {b : Bool} {I : Nat → Nat → Int32} {J : Nat → Nat → Int64} {x2 x3 x4 : Int32} {Q : Int32 → Int64 → pm_H → Prop} : pm_wp pm_code pm_meta d 178 42 ([.ref 79, .ref 127, .int x2, .int x3, .int x4], [], (pm_Gb L b, I, J)) Q ↔ pm_wp pm_code pm_meta d 178 3 ([.ref 79, .ref 127, .int x2, .int x3, .int (x4 + 1)], [], (pm_Gb L b, (pm_u I 79 58 ((I 79 58) + 1)), J)) Q := (pm_bk_iff pc_ch_178 8 42 _).trans (Iff.rfl)
theorem cop_k_127 {d L : Nat} {b : Bool} {I : Nat → Nat → Int32} {J : Nat → Nat → Int64} {Q : Int32 → Int64 → pm_H → Prop} {I1 : Nat → Nat → Int32} (hP : pr_kp 47 3340 I I1) (hQ : ∀ I2, pr_kp 48 3364 I I2 → Q 0 0 (pm_Gb L b, I2, J)) : pm_wc pm_code pm_meta d 178 [.ref 79, .ref 127, .int 24, .int 1] (pm_Gb L b, I1, J) Q := by
  rw [pb_178v47_0]
  refine cop_k (A := fun x I' => pm_wp pm_code pm_meta d 178 3 ([.ref 79, .ref 127, .int 24, .int 1, .int x], [], (pm_Gb L b, I', J)) Q) (E' := fun _ I' => Q 0 0 (pm_Gb L b, I', J)) (r := 127) (of := 3340) (len := 24) (n := 47) (by decide) rfl rfl rfl (fun m I' hm h58 h => ?_) (fun I' h => ?_) hP hQ
  · have g := on_n (a := 3340 + m) (by omega)
    have gm := on_n (a := m) (by omega)
    rw [pb_178v47_3, if_neg (by rw [show (24 : Int32) = Int32.ofNat 24 from rfl, on_le (by omega) (by omega)]; omega), pb_178v47_9, if_neg (by decide), pb_178v47_13, h58, g.2.1, gm.2.1]
    refine ⟨pi_in gm.1 (by rw [gm.2.2]; omega), pi_in g.1 (by rw [g.2.2]; omega), ?_⟩
    rw [pb_178v47_42, pm_u_row, if_neg (by decide), h58, on_s, on_s]
    exact h
  · show pm_wp _ _ _ _ _ _ _
    rw [pb_178v47_3, if_pos (by decide), pb_178v47_58]
    exact h
theorem cop_a_127 {d L : Nat} {b : Bool} {I : Nat → Nat → Int32} {J : Nat → Nat → Int64} {Q : Int32 → Int64 → pm_H → Prop} {I1 : Nat → Nat → Int32} (hP : pr_ap 47 3340 I I1) (hQ : ∀ I2, pr_ap 48 3364 I I2 → Q 0 0 (pm_Gb L b, I2, J)) : pm_wc pm_code pm_meta d 178 [.ref 79, .ref 127, .int 24, .int 0] (pm_Gb L b, I1, J) Q := by
  rw [pb_178v47_0]
  refine cop_a (A := fun x I' => pm_wp pm_code pm_meta d 178 3 ([.ref 79, .ref 127, .int 24, .int 0, .int x], [], (pm_Gb L b, I', J)) Q) (E' := fun _ I' => Q 0 0 (pm_Gb L b, I', J)) (r := 127) (of := 3340) (len := 24) (n := 47) (by decide) rfl rfl rfl (fun m I' hm h58 h => ?_) (fun I' h => ?_) hP hQ
  · have g := on_n (a := 3340 + m) (by omega)
    have gm := on_n (a := m) (by omega)
    rw [pb_178v47_3, if_neg (by rw [show (24 : Int32) = Int32.ofNat 24 from rfl, on_le (by omega) (by omega)]; omega), pb_178v47_9, if_pos rfl, pb_178v47_29, h58, g.2.1, gm.2.1]
    refine ⟨pi_in g.1 (by rw [g.2.2]; omega), pi_in gm.1 (by rw [gm.2.2]; omega), ?_⟩
    rw [pb_178v47_42, pm_u_row, if_neg (by decide), h58, on_s, on_s]
    exact h
  · show pm_wp _ _ _ _ _ _ _
    rw [pb_178v47_3, if_pos (by decide), pb_178v47_58]
    exact h
theorem pb_178v48_0 {d L : Nat} {b : Bool} {I : Nat → Nat → Int32} {J : Nat → Nat → Int64} {x2 x3 : Int32} {Q : Int32 → Int64 → pm_H → Prop} : pm_wc pm_code pm_meta d 178 [.ref 79, .ref 128, .int x2, .int x3] (pm_Gb L b, I, J) Q ↔ pm_wp pm_code pm_meta d 178 3 ([.ref 79, .ref 128, .int x2, .int x3, .int 0], [], (pm_Gb L b, I, J)) Q := (pm_bk_iff pc_ch_178 2 0 _).trans (Iff.rfl)
theorem pb_178v48_3 {d L : Nat} {b : Bool} {I : Nat → Nat → Int32} {J : Nat → Nat → Int64} {x2 x3 x4 : Int32} {Q : Int32 → Int64 → pm_H → Prop} : pm_wp pm_code pm_meta d 178 3 ([.ref 79, .ref 128, .int x2, .int x3, .int x4], [], (pm_Gb L b, I, J)) Q ↔ if x2 ≤ x4 then pm_wp pm_code pm_meta d 178 58 ([.ref 79, .ref 128, .int x2, .int x3, .int x4], [], (pm_Gb L b, I, J)) Q else pm_wp pm_code pm_meta d 178 9 ([.ref 79, .ref 128, .int x2, .int x3, .int x4], [], (pm_Gb L b, I, J)) Q := (pm_bk_iff pc_ch_178 3 3 _).trans (pm_brd)
theorem pb_178v48_58 {d L : Nat} {b : Bool} {I : Nat → Nat → Int32} {J : Nat → Nat → Int64} {x2 x3 x4 : Int32} {Q : Int32 → Int64 → pm_H → Prop} : pm_wp pm_code pm_meta d 178 58 ([.ref 79, .ref 128, .int x2, .int x3, .int x4], [], (pm_Gb L b, I, J)) Q ↔ Q 0 0 (pm_Gb L b, I, J) := (pm_bk_iff pc_ch_178 1 58 _).trans (pm_tt)
theorem pb_178v48_9 {d L : Nat} {b : Bool} {I : Nat → Nat → Int32} {J : Nat → Nat → Int64} {x2 x3 x4 : Int32} {Q : Int32 → Int64 → pm_H → Prop} : pm_wp pm_code pm_meta d 178 9 ([.ref 79, .ref 128, .int x2, .int x3, .int x4], [], (pm_Gb L b, I, J)) Q ↔ if x3 = 0 then pm_wp pm_code pm_meta d 178 29 ([.ref 79, .ref 128, .int x2, .int x3, .int x4], [], (pm_Gb L b, I, J)) Q else pm_wp pm_code pm_meta d 178 13 ([.ref 79, .ref 128, .int x2, .int x3, .int x4], [], (pm_Gb L b, I, J)) Q := (pm_bk_iff pc_ch_178 2 9 _).trans (pm_brd)
theorem pb_178v48_29 {d L : Nat} {b : Bool} {I : Nat → Nat → Int32} {J : Nat → Nat → Int64} {x2 x3 x4 : Int32} {Q : Int32 → Int64 → pm_H → Prop} : pm_wp pm_code pm_meta d 178 29 ([.ref 79, .ref 128, .int x2, .int x3, .int x4], [], (pm_Gb L b, I, J)) Q ↔ pm_in (I 79 58) 4200 = true ∧ (pm_in x4 7 = true ∧ (pm_wp pm_code pm_meta d 178 42 ([.ref 79, .ref 128, .int x2, .int x3, .int x4], [], (pm_Gb L b, (pm_u I 128 x4.toNatClampNeg (I 136 (I 79 58).toNatClampNeg)), J)) Q)) := (pm_bk_iff pc_ch_178 8 29 _).trans (and_congr Iff.rfl (and_congr Iff.rfl (Iff.rfl)))
theorem pb_178v48_13 {d L : Nat} {b : Bool} {I : Nat → Nat → Int32} {J : Nat → Nat → Int64} {x2 x3 x4 : Int32} {Q : Int32 → Int64 → pm_H → Prop} : pm_wp pm_code pm_meta d 178 13 ([.ref 79, .ref 128, .int x2, .int x3, .int x4], [], (pm_Gb L b, I, J)) Q ↔ pm_in x4 7 = true ∧ (pm_in (I 79 58) 4200 = true ∧ (pm_wp pm_code pm_meta d 178 42 ([.ref 79, .ref 128, .int x2, .int x3, .int x4], [], (pm_Gb L b, (pm_u I 136 (I 79 58).toNatClampNeg (I 128 x4.toNatClampNeg)), J)) Q)) := (pm_bk_iff pc_ch_178 9 13 _).trans (and_congr Iff.rfl (and_congr Iff.rfl (Iff.rfl)))
theorem pb_178v48_42 {d L : Nat} {b : Bool} {I : Nat → Nat → Int32} {J : Nat → Nat → Int64} {x2 x3 x4 : Int32} {Q : Int32 → Int64 → pm_H → Prop} : pm_wp pm_code pm_meta d 178 42 ([.ref 79, .ref 128, .int x2, .int x3, .int x4], [], (pm_Gb L b, I, J)) Q ↔ pm_wp pm_code pm_meta d 178 3 ([.ref 79, .ref 128, .int x2, .int x3, .int (x4 + 1)], [], (pm_Gb L b, (pm_u I 79 58 ((I 79 58) + 1)), J)) Q := (pm_bk_iff pc_ch_178 8 42 _).trans (Iff.rfl)
theorem cop_k_128 {d L : Nat} {b : Bool} {I : Nat → Nat → Int32} {J : Nat → Nat → Int64} {Q : Int32 → Int64 → pm_H → Prop} {I1 : Nat → Nat → Int32} (hP : pr_kp 48 3364 I I1) (hQ : ∀ I2, pr_kp 49 3371 I I2 → Q 0 0 (pm_Gb L b, I2, J)) : pm_wc pm_code pm_meta d 178 [.ref 79, .ref 128, .int 7, .int 1] (pm_Gb L b, I1, J) Q := by
  rw [pb_178v48_0]
  refine cop_k (A := fun x I' => pm_wp pm_code pm_meta d 178 3 ([.ref 79, .ref 128, .int 7, .int 1, .int x], [], (pm_Gb L b, I', J)) Q) (E' := fun _ I' => Q 0 0 (pm_Gb L b, I', J)) (r := 128) (of := 3364) (len := 7) (n := 48) (by decide) rfl rfl rfl (fun m I' hm h58 h => ?_) (fun I' h => ?_) hP hQ
  · have g := on_n (a := 3364 + m) (by omega)
    have gm := on_n (a := m) (by omega)
    rw [pb_178v48_3, if_neg (by rw [show (7 : Int32) = Int32.ofNat 7 from rfl, on_le (by omega) (by omega)]; omega), pb_178v48_9, if_neg (by decide), pb_178v48_13, h58, g.2.1, gm.2.1]
    refine ⟨pi_in gm.1 (by rw [gm.2.2]; omega), pi_in g.1 (by rw [g.2.2]; omega), ?_⟩
    rw [pb_178v48_42, pm_u_row, if_neg (by decide), h58, on_s, on_s]
    exact h
  · show pm_wp _ _ _ _ _ _ _
    rw [pb_178v48_3, if_pos (by decide), pb_178v48_58]
    exact h
theorem cop_a_128 {d L : Nat} {b : Bool} {I : Nat → Nat → Int32} {J : Nat → Nat → Int64} {Q : Int32 → Int64 → pm_H → Prop} {I1 : Nat → Nat → Int32} (hP : pr_ap 48 3364 I I1) (hQ : ∀ I2, pr_ap 49 3371 I I2 → Q 0 0 (pm_Gb L b, I2, J)) : pm_wc pm_code pm_meta d 178 [.ref 79, .ref 128, .int 7, .int 0] (pm_Gb L b, I1, J) Q := by
  rw [pb_178v48_0]
  refine cop_a (A := fun x I' => pm_wp pm_code pm_meta d 178 3 ([.ref 79, .ref 128, .int 7, .int 0, .int x], [], (pm_Gb L b, I', J)) Q) (E' := fun _ I' => Q 0 0 (pm_Gb L b, I', J)) (r := 128) (of := 3364) (len := 7) (n := 48) (by decide) rfl rfl rfl (fun m I' hm h58 h => ?_) (fun I' h => ?_) hP hQ
  · have g := on_n (a := 3364 + m) (by omega)
    have gm := on_n (a := m) (by omega)
    rw [pb_178v48_3, if_neg (by rw [show (7 : Int32) = Int32.ofNat 7 from rfl, on_le (by omega) (by omega)]; omega), pb_178v48_9, if_pos rfl, pb_178v48_29, h58, g.2.1, gm.2.1]
    refine ⟨pi_in g.1 (by rw [g.2.2]; omega), pi_in gm.1 (by rw [gm.2.2]; omega), ?_⟩
    rw [pb_178v48_42, pm_u_row, if_neg (by decide), h58, on_s, on_s]
    exact h
  · show pm_wp _ _ _ _ _ _ _
    rw [pb_178v48_3, if_pos (by decide), pb_178v48_58]
    exact h
theorem pb_178v49_0 {d L : Nat} {b : Bool} {I : Nat → Nat → Int32} {J : Nat → Nat → Int64} {x2 x3 : Int32} {Q : Int32 → Int64 → pm_H → Prop} : pm_wc pm_code pm_meta d 178 [.ref 79, .ref 129, .int x2, .int x3] (pm_Gb L b, I, J) Q ↔ pm_wp pm_code pm_meta d 178 3 ([.ref 79, .ref 129, .int x2, .int x3, .int 0], [], (pm_Gb L b, I, J)) Q := (pm_bk_iff pc_ch_178 2 0 _).trans (Iff.rfl)
theorem pb_178v49_3 {d L : Nat} {b : Bool} {I : Nat → Nat → Int32} {J : Nat → Nat → Int64} {x2 x3 x4 : Int32} {Q : Int32 → Int64 → pm_H → Prop} : pm_wp pm_code pm_meta d 178 3 ([.ref 79, .ref 129, .int x2, .int x3, .int x4], [], (pm_Gb L b, I, J)) Q ↔ if x2 ≤ x4 then pm_wp pm_code pm_meta d 178 58 ([.ref 79, .ref 129, .int x2, .int x3, .int x4], [], (pm_Gb L b, I, J)) Q else pm_wp pm_code pm_meta d 178 9 ([.ref 79, .ref 129, .int x2, .int x3, .int x4], [], (pm_Gb L b, I, J)) Q := (pm_bk_iff pc_ch_178 3 3 _).trans (pm_brd)
theorem pb_178v49_58 {d L : Nat} {b : Bool} {I : Nat → Nat → Int32} {J : Nat → Nat → Int64} {x2 x3 x4 : Int32} {Q : Int32 → Int64 → pm_H → Prop} : pm_wp pm_code pm_meta d 178 58 ([.ref 79, .ref 129, .int x2, .int x3, .int x4], [], (pm_Gb L b, I, J)) Q ↔ Q 0 0 (pm_Gb L b, I, J) := (pm_bk_iff pc_ch_178 1 58 _).trans (pm_tt)
theorem pb_178v49_9 {d L : Nat} {b : Bool} {I : Nat → Nat → Int32} {J : Nat → Nat → Int64} {x2 x3 x4 : Int32} {Q : Int32 → Int64 → pm_H → Prop} : pm_wp pm_code pm_meta d 178 9 ([.ref 79, .ref 129, .int x2, .int x3, .int x4], [], (pm_Gb L b, I, J)) Q ↔ if x3 = 0 then pm_wp pm_code pm_meta d 178 29 ([.ref 79, .ref 129, .int x2, .int x3, .int x4], [], (pm_Gb L b, I, J)) Q else pm_wp pm_code pm_meta d 178 13 ([.ref 79, .ref 129, .int x2, .int x3, .int x4], [], (pm_Gb L b, I, J)) Q := (pm_bk_iff pc_ch_178 2 9 _).trans (pm_brd)
theorem pb_178v49_29 {d L : Nat} {b : Bool} {I : Nat → Nat → Int32} {J : Nat → Nat → Int64} {x2 x3 x4 : Int32} {Q : Int32 → Int64 → pm_H → Prop} : pm_wp pm_code pm_meta d 178 29 ([.ref 79, .ref 129, .int x2, .int x3, .int x4], [], (pm_Gb L b, I, J)) Q ↔ pm_in (I 79 58) 4200 = true ∧ (pm_in x4 3 = true ∧ (pm_wp pm_code pm_meta d 178 42 ([.ref 79, .ref 129, .int x2, .int x3, .int x4], [], (pm_Gb L b, (pm_u I 129 x4.toNatClampNeg (I 136 (I 79 58).toNatClampNeg)), J)) Q)) := (pm_bk_iff pc_ch_178 8 29 _).trans (and_congr Iff.rfl (and_congr Iff.rfl (Iff.rfl)))
theorem pb_178v49_13 {d L : Nat} {b : Bool} {I : Nat → Nat → Int32} {J : Nat → Nat → Int64} {x2 x3 x4 : Int32} {Q : Int32 → Int64 → pm_H → Prop} : pm_wp pm_code pm_meta d 178 13 ([.ref 79, .ref 129, .int x2, .int x3, .int x4], [], (pm_Gb L b, I, J)) Q ↔ pm_in x4 3 = true ∧ (pm_in (I 79 58) 4200 = true ∧ (pm_wp pm_code pm_meta d 178 42 ([.ref 79, .ref 129, .int x2, .int x3, .int x4], [], (pm_Gb L b, (pm_u I 136 (I 79 58).toNatClampNeg (I 129 x4.toNatClampNeg)), J)) Q)) := (pm_bk_iff pc_ch_178 9 13 _).trans (and_congr Iff.rfl (and_congr Iff.rfl (Iff.rfl)))
theorem pb_178v49_42 {d L : Nat} {b : Bool} {I : Nat → Nat → Int32} {J : Nat → Nat → Int64} {x2 x3 x4 : Int32} {Q : Int32 → Int64 → pm_H → Prop} : pm_wp pm_code pm_meta d 178 42 ([.ref 79, .ref 129, .int x2, .int x3, .int x4], [], (pm_Gb L b, I, J)) Q ↔ pm_wp pm_code pm_meta d 178 3 ([.ref 79, .ref 129, .int x2, .int x3, .int (x4 + 1)], [], (pm_Gb L b, (pm_u I 79 58 ((I 79 58) + 1)), J)) Q := (pm_bk_iff pc_ch_178 8 42 _).trans (Iff.rfl)
theorem cop_k_129 {d L : Nat} {b : Bool} {I : Nat → Nat → Int32} {J : Nat → Nat → Int64} {Q : Int32 → Int64 → pm_H → Prop} {I1 : Nat → Nat → Int32} (hP : pr_kp 49 3371 I I1) (hQ : ∀ I2, pr_kp 50 3374 I I2 → Q 0 0 (pm_Gb L b, I2, J)) : pm_wc pm_code pm_meta d 178 [.ref 79, .ref 129, .int 3, .int 1] (pm_Gb L b, I1, J) Q := by
  rw [pb_178v49_0]
  refine cop_k (A := fun x I' => pm_wp pm_code pm_meta d 178 3 ([.ref 79, .ref 129, .int 3, .int 1, .int x], [], (pm_Gb L b, I', J)) Q) (E' := fun _ I' => Q 0 0 (pm_Gb L b, I', J)) (r := 129) (of := 3371) (len := 3) (n := 49) (by decide) rfl rfl rfl (fun m I' hm h58 h => ?_) (fun I' h => ?_) hP hQ
  · have g := on_n (a := 3371 + m) (by omega)
    have gm := on_n (a := m) (by omega)
    rw [pb_178v49_3, if_neg (by rw [show (3 : Int32) = Int32.ofNat 3 from rfl, on_le (by omega) (by omega)]; omega), pb_178v49_9, if_neg (by decide), pb_178v49_13, h58, g.2.1, gm.2.1]
    refine ⟨pi_in gm.1 (by rw [gm.2.2]; omega), pi_in g.1 (by rw [g.2.2]; omega), ?_⟩
    rw [pb_178v49_42, pm_u_row, if_neg (by decide), h58, on_s, on_s]
    exact h
  · show pm_wp _ _ _ _ _ _ _
    rw [pb_178v49_3, if_pos (by decide), pb_178v49_58]
    exact h
theorem cop_a_129 {d L : Nat} {b : Bool} {I : Nat → Nat → Int32} {J : Nat → Nat → Int64} {Q : Int32 → Int64 → pm_H → Prop} {I1 : Nat → Nat → Int32} (hP : pr_ap 49 3371 I I1) (hQ : ∀ I2, pr_ap 50 3374 I I2 → Q 0 0 (pm_Gb L b, I2, J)) : pm_wc pm_code pm_meta d 178 [.ref 79, .ref 129, .int 3, .int 0] (pm_Gb L b, I1, J) Q := by
  rw [pb_178v49_0]
  refine cop_a (A := fun x I' => pm_wp pm_code pm_meta d 178 3 ([.ref 79, .ref 129, .int 3, .int 0, .int x], [], (pm_Gb L b, I', J)) Q) (E' := fun _ I' => Q 0 0 (pm_Gb L b, I', J)) (r := 129) (of := 3371) (len := 3) (n := 49) (by decide) rfl rfl rfl (fun m I' hm h58 h => ?_) (fun I' h => ?_) hP hQ
  · have g := on_n (a := 3371 + m) (by omega)
    have gm := on_n (a := m) (by omega)
    rw [pb_178v49_3, if_neg (by rw [show (3 : Int32) = Int32.ofNat 3 from rfl, on_le (by omega) (by omega)]; omega), pb_178v49_9, if_pos rfl, pb_178v49_29, h58, g.2.1, gm.2.1]
    refine ⟨pi_in g.1 (by rw [g.2.2]; omega), pi_in gm.1 (by rw [gm.2.2]; omega), ?_⟩
    rw [pb_178v49_42, pm_u_row, if_neg (by decide), h58, on_s, on_s]
    exact h
  · show pm_wp _ _ _ _ _ _ _
    rw [pb_178v49_3, if_pos (by decide), pb_178v49_58]
    exact h
theorem pb_178v50_0 {d L : Nat} {b : Bool} {I : Nat → Nat → Int32} {J : Nat → Nat → Int64} {x2 x3 : Int32} {Q : Int32 → Int64 → pm_H → Prop} : pm_wc pm_code pm_meta d 178 [.ref 79, .ref 130, .int x2, .int x3] (pm_Gb L b, I, J) Q ↔ pm_wp pm_code pm_meta d 178 3 ([.ref 79, .ref 130, .int x2, .int x3, .int 0], [], (pm_Gb L b, I, J)) Q := (pm_bk_iff pc_ch_178 2 0 _).trans (Iff.rfl)
theorem pb_178v50_3 {d L : Nat} {b : Bool} {I : Nat → Nat → Int32} {J : Nat → Nat → Int64} {x2 x3 x4 : Int32} {Q : Int32 → Int64 → pm_H → Prop} : pm_wp pm_code pm_meta d 178 3 ([.ref 79, .ref 130, .int x2, .int x3, .int x4], [], (pm_Gb L b, I, J)) Q ↔ if x2 ≤ x4 then pm_wp pm_code pm_meta d 178 58 ([.ref 79, .ref 130, .int x2, .int x3, .int x4], [], (pm_Gb L b, I, J)) Q else pm_wp pm_code pm_meta d 178 9 ([.ref 79, .ref 130, .int x2, .int x3, .int x4], [], (pm_Gb L b, I, J)) Q := (pm_bk_iff pc_ch_178 3 3 _).trans (pm_brd)
theorem pb_178v50_58 {d L : Nat} {b : Bool} {I : Nat → Nat → Int32} {J : Nat → Nat → Int64} {x2 x3 x4 : Int32} {Q : Int32 → Int64 → pm_H → Prop} : pm_wp pm_code pm_meta d 178 58 ([.ref 79, .ref 130, .int x2, .int x3, .int x4], [], (pm_Gb L b, I, J)) Q ↔ Q 0 0 (pm_Gb L b, I, J) := (pm_bk_iff pc_ch_178 1 58 _).trans (pm_tt)
theorem pb_178v50_9 {d L : Nat} {b : Bool} {I : Nat → Nat → Int32} {J : Nat → Nat → Int64} {x2 x3 x4 : Int32} {Q : Int32 → Int64 → pm_H → Prop} : pm_wp pm_code pm_meta d 178 9 ([.ref 79, .ref 130, .int x2, .int x3, .int x4], [], (pm_Gb L b, I, J)) Q ↔ if x3 = 0 then pm_wp pm_code pm_meta d 178 29 ([.ref 79, .ref 130, .int x2, .int x3, .int x4], [], (pm_Gb L b, I, J)) Q else pm_wp pm_code pm_meta d 178 13 ([.ref 79, .ref 130, .int x2, .int x3, .int x4], [], (pm_Gb L b, I, J)) Q := (pm_bk_iff pc_ch_178 2 9 _).trans (pm_brd)
theorem pb_178v50_29 {d L : Nat} {b : Bool} {I : Nat → Nat → Int32} {J : Nat → Nat → Int64} {x2 x3 x4 : Int32} {Q : Int32 → Int64 → pm_H → Prop} : pm_wp pm_code pm_meta d 178 29 ([.ref 79, .ref 130, .int x2, .int x3, .int x4], [], (pm_Gb L b, I, J)) Q ↔ pm_in (I 79 58) 4200 = true ∧ (pm_in x4 24 = true ∧ (pm_wp pm_code pm_meta d 178 42 ([.ref 79, .ref 130, .int x2, .int x3, .int x4], [], (pm_Gb L b, (pm_u I 130 x4.toNatClampNeg (I 136 (I 79 58).toNatClampNeg)), J)) Q)) := (pm_bk_iff pc_ch_178 8 29 _).trans (and_congr Iff.rfl (and_congr Iff.rfl (Iff.rfl)))
theorem pb_178v50_13 {d L : Nat} {b : Bool} {I : Nat → Nat → Int32} {J : Nat → Nat → Int64} {x2 x3 x4 : Int32} {Q : Int32 → Int64 → pm_H → Prop} : pm_wp pm_code pm_meta d 178 13 ([.ref 79, .ref 130, .int x2, .int x3, .int x4], [], (pm_Gb L b, I, J)) Q ↔ pm_in x4 24 = true ∧ (pm_in (I 79 58) 4200 = true ∧ (pm_wp pm_code pm_meta d 178 42 ([.ref 79, .ref 130, .int x2, .int x3, .int x4], [], (pm_Gb L b, (pm_u I 136 (I 79 58).toNatClampNeg (I 130 x4.toNatClampNeg)), J)) Q)) := (pm_bk_iff pc_ch_178 9 13 _).trans (and_congr Iff.rfl (and_congr Iff.rfl (Iff.rfl)))
theorem pb_178v50_42 {d L : Nat} {b : Bool} {I : Nat → Nat → Int32} {J : Nat → Nat → Int64} {x2 x3 x4 : Int32} {Q : Int32 → Int64 → pm_H → Prop} : pm_wp pm_code pm_meta d 178 42 ([.ref 79, .ref 130, .int x2, .int x3, .int x4], [], (pm_Gb L b, I, J)) Q ↔ pm_wp pm_code pm_meta d 178 3 ([.ref 79, .ref 130, .int x2, .int x3, .int (x4 + 1)], [], (pm_Gb L b, (pm_u I 79 58 ((I 79 58) + 1)), J)) Q := (pm_bk_iff pc_ch_178 8 42 _).trans (Iff.rfl)
theorem cop_k_130 {d L : Nat} {b : Bool} {I : Nat → Nat → Int32} {J : Nat → Nat → Int64} {Q : Int32 → Int64 → pm_H → Prop} {I1 : Nat → Nat → Int32} (hP : pr_kp 50 3374 I I1) (hQ : ∀ I2, pr_kp 51 3398 I I2 → Q 0 0 (pm_Gb L b, I2, J)) : pm_wc pm_code pm_meta d 178 [.ref 79, .ref 130, .int 24, .int 1] (pm_Gb L b, I1, J) Q := by
  rw [pb_178v50_0]
  refine cop_k (A := fun x I' => pm_wp pm_code pm_meta d 178 3 ([.ref 79, .ref 130, .int 24, .int 1, .int x], [], (pm_Gb L b, I', J)) Q) (E' := fun _ I' => Q 0 0 (pm_Gb L b, I', J)) (r := 130) (of := 3374) (len := 24) (n := 50) (by decide) rfl rfl rfl (fun m I' hm h58 h => ?_) (fun I' h => ?_) hP hQ
  · have g := on_n (a := 3374 + m) (by omega)
    have gm := on_n (a := m) (by omega)
    rw [pb_178v50_3, if_neg (by rw [show (24 : Int32) = Int32.ofNat 24 from rfl, on_le (by omega) (by omega)]; omega), pb_178v50_9, if_neg (by decide), pb_178v50_13, h58, g.2.1, gm.2.1]
    refine ⟨pi_in gm.1 (by rw [gm.2.2]; omega), pi_in g.1 (by rw [g.2.2]; omega), ?_⟩
    rw [pb_178v50_42, pm_u_row, if_neg (by decide), h58, on_s, on_s]
    exact h
  · show pm_wp _ _ _ _ _ _ _
    rw [pb_178v50_3, if_pos (by decide), pb_178v50_58]
    exact h
theorem cop_a_130 {d L : Nat} {b : Bool} {I : Nat → Nat → Int32} {J : Nat → Nat → Int64} {Q : Int32 → Int64 → pm_H → Prop} {I1 : Nat → Nat → Int32} (hP : pr_ap 50 3374 I I1) (hQ : ∀ I2, pr_ap 51 3398 I I2 → Q 0 0 (pm_Gb L b, I2, J)) : pm_wc pm_code pm_meta d 178 [.ref 79, .ref 130, .int 24, .int 0] (pm_Gb L b, I1, J) Q := by
  rw [pb_178v50_0]
  refine cop_a (A := fun x I' => pm_wp pm_code pm_meta d 178 3 ([.ref 79, .ref 130, .int 24, .int 0, .int x], [], (pm_Gb L b, I', J)) Q) (E' := fun _ I' => Q 0 0 (pm_Gb L b, I', J)) (r := 130) (of := 3374) (len := 24) (n := 50) (by decide) rfl rfl rfl (fun m I' hm h58 h => ?_) (fun I' h => ?_) hP hQ
  · have g := on_n (a := 3374 + m) (by omega)
    have gm := on_n (a := m) (by omega)
    rw [pb_178v50_3, if_neg (by rw [show (24 : Int32) = Int32.ofNat 24 from rfl, on_le (by omega) (by omega)]; omega), pb_178v50_9, if_pos rfl, pb_178v50_29, h58, g.2.1, gm.2.1]
    refine ⟨pi_in g.1 (by rw [g.2.2]; omega), pi_in gm.1 (by rw [gm.2.2]; omega), ?_⟩
    rw [pb_178v50_42, pm_u_row, if_neg (by decide), h58, on_s, on_s]
    exact h
  · show pm_wp _ _ _ _ _ _ _
    rw [pb_178v50_3, if_pos (by decide), pb_178v50_58]
    exact h
theorem pb_178v51_0 {d L : Nat} {b : Bool} {I : Nat → Nat → Int32} {J : Nat → Nat → Int64} {x2 x3 : Int32} {Q : Int32 → Int64 → pm_H → Prop} : pm_wc pm_code pm_meta d 178 [.ref 79, .ref 131, .int x2, .int x3] (pm_Gb L b, I, J) Q ↔ pm_wp pm_code pm_meta d 178 3 ([.ref 79, .ref 131, .int x2, .int x3, .int 0], [], (pm_Gb L b, I, J)) Q := (pm_bk_iff pc_ch_178 2 0 _).trans (Iff.rfl)
theorem pb_178v51_3 {d L : Nat} {b : Bool} {I : Nat → Nat → Int32} {J : Nat → Nat → Int64} {x2 x3 x4 : Int32} {Q : Int32 → Int64 → pm_H → Prop} : pm_wp pm_code pm_meta d 178 3 ([.ref 79, .ref 131, .int x2, .int x3, .int x4], [], (pm_Gb L b, I, J)) Q ↔ if x2 ≤ x4 then pm_wp pm_code pm_meta d 178 58 ([.ref 79, .ref 131, .int x2, .int x3, .int x4], [], (pm_Gb L b, I, J)) Q else pm_wp pm_code pm_meta d 178 9 ([.ref 79, .ref 131, .int x2, .int x3, .int x4], [], (pm_Gb L b, I, J)) Q := (pm_bk_iff pc_ch_178 3 3 _).trans (pm_brd)
theorem pb_178v51_58 {d L : Nat} {b : Bool} {I : Nat → Nat → Int32} {J : Nat → Nat → Int64} {x2 x3 x4 : Int32} {Q : Int32 → Int64 → pm_H → Prop} : pm_wp pm_code pm_meta d 178 58 ([.ref 79, .ref 131, .int x2, .int x3, .int x4], [], (pm_Gb L b, I, J)) Q ↔ Q 0 0 (pm_Gb L b, I, J) := (pm_bk_iff pc_ch_178 1 58 _).trans (pm_tt)
theorem pb_178v51_9 {d L : Nat} {b : Bool} {I : Nat → Nat → Int32} {J : Nat → Nat → Int64} {x2 x3 x4 : Int32} {Q : Int32 → Int64 → pm_H → Prop} : pm_wp pm_code pm_meta d 178 9 ([.ref 79, .ref 131, .int x2, .int x3, .int x4], [], (pm_Gb L b, I, J)) Q ↔ if x3 = 0 then pm_wp pm_code pm_meta d 178 29 ([.ref 79, .ref 131, .int x2, .int x3, .int x4], [], (pm_Gb L b, I, J)) Q else pm_wp pm_code pm_meta d 178 13 ([.ref 79, .ref 131, .int x2, .int x3, .int x4], [], (pm_Gb L b, I, J)) Q := (pm_bk_iff pc_ch_178 2 9 _).trans (pm_brd)
theorem pb_178v51_29 {d L : Nat} {b : Bool} {I : Nat → Nat → Int32} {J : Nat → Nat → Int64} {x2 x3 x4 : Int32} {Q : Int32 → Int64 → pm_H → Prop} : pm_wp pm_code pm_meta d 178 29 ([.ref 79, .ref 131, .int x2, .int x3, .int x4], [], (pm_Gb L b, I, J)) Q ↔ pm_in (I 79 58) 4200 = true ∧ (pm_in x4 24 = true ∧ (pm_wp pm_code pm_meta d 178 42 ([.ref 79, .ref 131, .int x2, .int x3, .int x4], [], (pm_Gb L b, (pm_u I 131 x4.toNatClampNeg (I 136 (I 79 58).toNatClampNeg)), J)) Q)) := (pm_bk_iff pc_ch_178 8 29 _).trans (and_congr Iff.rfl (and_congr Iff.rfl (Iff.rfl)))
theorem pb_178v51_13 {d L : Nat} {b : Bool} {I : Nat → Nat → Int32} {J : Nat → Nat → Int64} {x2 x3 x4 : Int32} {Q : Int32 → Int64 → pm_H → Prop} : pm_wp pm_code pm_meta d 178 13 ([.ref 79, .ref 131, .int x2, .int x3, .int x4], [], (pm_Gb L b, I, J)) Q ↔ pm_in x4 24 = true ∧ (pm_in (I 79 58) 4200 = true ∧ (pm_wp pm_code pm_meta d 178 42 ([.ref 79, .ref 131, .int x2, .int x3, .int x4], [], (pm_Gb L b, (pm_u I 136 (I 79 58).toNatClampNeg (I 131 x4.toNatClampNeg)), J)) Q)) := (pm_bk_iff pc_ch_178 9 13 _).trans (and_congr Iff.rfl (and_congr Iff.rfl (Iff.rfl)))
theorem pb_178v51_42 {d L : Nat} {b : Bool} {I : Nat → Nat → Int32} {J : Nat → Nat → Int64} {x2 x3 x4 : Int32} {Q : Int32 → Int64 → pm_H → Prop} : pm_wp pm_code pm_meta d 178 42 ([.ref 79, .ref 131, .int x2, .int x3, .int x4], [], (pm_Gb L b, I, J)) Q ↔ pm_wp pm_code pm_meta d 178 3 ([.ref 79, .ref 131, .int x2, .int x3, .int (x4 + 1)], [], (pm_Gb L b, (pm_u I 79 58 ((I 79 58) + 1)), J)) Q := (pm_bk_iff pc_ch_178 8 42 _).trans (Iff.rfl)
theorem cop_k_131 {d L : Nat} {b : Bool} {I : Nat → Nat → Int32} {J : Nat → Nat → Int64} {Q : Int32 → Int64 → pm_H → Prop} {I1 : Nat → Nat → Int32} (hP : pr_kp 51 3398 I I1) (hQ : ∀ I2, pr_kp 52 3422 I I2 → Q 0 0 (pm_Gb L b, I2, J)) : pm_wc pm_code pm_meta d 178 [.ref 79, .ref 131, .int 24, .int 1] (pm_Gb L b, I1, J) Q := by
  rw [pb_178v51_0]
  refine cop_k (A := fun x I' => pm_wp pm_code pm_meta d 178 3 ([.ref 79, .ref 131, .int 24, .int 1, .int x], [], (pm_Gb L b, I', J)) Q) (E' := fun _ I' => Q 0 0 (pm_Gb L b, I', J)) (r := 131) (of := 3398) (len := 24) (n := 51) (by decide) rfl rfl rfl (fun m I' hm h58 h => ?_) (fun I' h => ?_) hP hQ
  · have g := on_n (a := 3398 + m) (by omega)
    have gm := on_n (a := m) (by omega)
    rw [pb_178v51_3, if_neg (by rw [show (24 : Int32) = Int32.ofNat 24 from rfl, on_le (by omega) (by omega)]; omega), pb_178v51_9, if_neg (by decide), pb_178v51_13, h58, g.2.1, gm.2.1]
    refine ⟨pi_in gm.1 (by rw [gm.2.2]; omega), pi_in g.1 (by rw [g.2.2]; omega), ?_⟩
    rw [pb_178v51_42, pm_u_row, if_neg (by decide), h58, on_s, on_s]
    exact h
  · show pm_wp _ _ _ _ _ _ _
    rw [pb_178v51_3, if_pos (by decide), pb_178v51_58]
    exact h
theorem cop_a_131 {d L : Nat} {b : Bool} {I : Nat → Nat → Int32} {J : Nat → Nat → Int64} {Q : Int32 → Int64 → pm_H → Prop} {I1 : Nat → Nat → Int32} (hP : pr_ap 51 3398 I I1) (hQ : ∀ I2, pr_ap 52 3422 I I2 → Q 0 0 (pm_Gb L b, I2, J)) : pm_wc pm_code pm_meta d 178 [.ref 79, .ref 131, .int 24, .int 0] (pm_Gb L b, I1, J) Q := by
  rw [pb_178v51_0]
  refine cop_a (A := fun x I' => pm_wp pm_code pm_meta d 178 3 ([.ref 79, .ref 131, .int 24, .int 0, .int x], [], (pm_Gb L b, I', J)) Q) (E' := fun _ I' => Q 0 0 (pm_Gb L b, I', J)) (r := 131) (of := 3398) (len := 24) (n := 51) (by decide) rfl rfl rfl (fun m I' hm h58 h => ?_) (fun I' h => ?_) hP hQ
  · have g := on_n (a := 3398 + m) (by omega)
    have gm := on_n (a := m) (by omega)
    rw [pb_178v51_3, if_neg (by rw [show (24 : Int32) = Int32.ofNat 24 from rfl, on_le (by omega) (by omega)]; omega), pb_178v51_9, if_pos rfl, pb_178v51_29, h58, g.2.1, gm.2.1]
    refine ⟨pi_in g.1 (by rw [g.2.2]; omega), pi_in gm.1 (by rw [gm.2.2]; omega), ?_⟩
    rw [pb_178v51_42, pm_u_row, if_neg (by decide), h58, on_s, on_s]
    exact h
  · show pm_wp _ _ _ _ _ _ _
    rw [pb_178v51_3, if_pos (by decide), pb_178v51_58]
    exact h
theorem pb_178v52_0 {d L : Nat} {b : Bool} {I : Nat → Nat → Int32} {J : Nat → Nat → Int64} {x2 x3 : Int32} {Q : Int32 → Int64 → pm_H → Prop} : pm_wc pm_code pm_meta d 178 [.ref 79, .ref 132, .int x2, .int x3] (pm_Gb L b, I, J) Q ↔ pm_wp pm_code pm_meta d 178 3 ([.ref 79, .ref 132, .int x2, .int x3, .int 0], [], (pm_Gb L b, I, J)) Q := (pm_bk_iff pc_ch_178 2 0 _).trans (Iff.rfl)
theorem pb_178v52_3 {d L : Nat} {b : Bool} {I : Nat → Nat → Int32} {J : Nat → Nat → Int64} {x2 x3 x4 : Int32} {Q : Int32 → Int64 → pm_H → Prop} : pm_wp pm_code pm_meta d 178 3 ([.ref 79, .ref 132, .int x2, .int x3, .int x4], [], (pm_Gb L b, I, J)) Q ↔ if x2 ≤ x4 then pm_wp pm_code pm_meta d 178 58 ([.ref 79, .ref 132, .int x2, .int x3, .int x4], [], (pm_Gb L b, I, J)) Q else pm_wp pm_code pm_meta d 178 9 ([.ref 79, .ref 132, .int x2, .int x3, .int x4], [], (pm_Gb L b, I, J)) Q := (pm_bk_iff pc_ch_178 3 3 _).trans (pm_brd)
theorem pb_178v52_58 {d L : Nat} {b : Bool} {I : Nat → Nat → Int32} {J : Nat → Nat → Int64} {x2 x3 x4 : Int32} {Q : Int32 → Int64 → pm_H → Prop} : pm_wp pm_code pm_meta d 178 58 ([.ref 79, .ref 132, .int x2, .int x3, .int x4], [], (pm_Gb L b, I, J)) Q ↔ Q 0 0 (pm_Gb L b, I, J) := (pm_bk_iff pc_ch_178 1 58 _).trans (pm_tt)
theorem pb_178v52_9 {d L : Nat} {b : Bool} {I : Nat → Nat → Int32} {J : Nat → Nat → Int64} {x2 x3 x4 : Int32} {Q : Int32 → Int64 → pm_H → Prop} : pm_wp pm_code pm_meta d 178 9 ([.ref 79, .ref 132, .int x2, .int x3, .int x4], [], (pm_Gb L b, I, J)) Q ↔ if x3 = 0 then pm_wp pm_code pm_meta d 178 29 ([.ref 79, .ref 132, .int x2, .int x3, .int x4], [], (pm_Gb L b, I, J)) Q else pm_wp pm_code pm_meta d 178 13 ([.ref 79, .ref 132, .int x2, .int x3, .int x4], [], (pm_Gb L b, I, J)) Q := (pm_bk_iff pc_ch_178 2 9 _).trans (pm_brd)
theorem pb_178v52_29 {d L : Nat} {b : Bool} {I : Nat → Nat → Int32} {J : Nat → Nat → Int64} {x2 x3 x4 : Int32} {Q : Int32 → Int64 → pm_H → Prop} : pm_wp pm_code pm_meta d 178 29 ([.ref 79, .ref 132, .int x2, .int x3, .int x4], [], (pm_Gb L b, I, J)) Q ↔ pm_in (I 79 58) 4200 = true ∧ (pm_in x4 24 = true ∧ (pm_wp pm_code pm_meta d 178 42 ([.ref 79, .ref 132, .int x2, .int x3, .int x4], [], (pm_Gb L b, (pm_u I 132 x4.toNatClampNeg (I 136 (I 79 58).toNatClampNeg)), J)) Q)) := (pm_bk_iff pc_ch_178 8 29 _).trans (and_congr Iff.rfl (and_congr Iff.rfl (Iff.rfl)))
theorem pb_178v52_13 {d L : Nat} {b : Bool} {I : Nat → Nat → Int32} {J : Nat → Nat → Int64} {x2 x3 x4 : Int32} {Q : Int32 → Int64 → pm_H → Prop} : pm_wp pm_code pm_meta d 178 13 ([.ref 79, .ref 132, .int x2, .int x3, .int x4], [], (pm_Gb L b, I, J)) Q ↔ pm_in x4 24 = true ∧ (pm_in (I 79 58) 4200 = true ∧ (pm_wp pm_code pm_meta d 178 42 ([.ref 79, .ref 132, .int x2, .int x3, .int x4], [], (pm_Gb L b, (pm_u I 136 (I 79 58).toNatClampNeg (I 132 x4.toNatClampNeg)), J)) Q)) := (pm_bk_iff pc_ch_178 9 13 _).trans (and_congr Iff.rfl (and_congr Iff.rfl (Iff.rfl)))
theorem pb_178v52_42 {d L : Nat} {b : Bool} {I : Nat → Nat → Int32} {J : Nat → Nat → Int64} {x2 x3 x4 : Int32} {Q : Int32 → Int64 → pm_H → Prop} : pm_wp pm_code pm_meta d 178 42 ([.ref 79, .ref 132, .int x2, .int x3, .int x4], [], (pm_Gb L b, I, J)) Q ↔ pm_wp pm_code pm_meta d 178 3 ([.ref 79, .ref 132, .int x2, .int x3, .int (x4 + 1)], [], (pm_Gb L b, (pm_u I 79 58 ((I 79 58) + 1)), J)) Q := (pm_bk_iff pc_ch_178 8 42 _).trans (Iff.rfl)
theorem cop_k_132 {d L : Nat} {b : Bool} {I : Nat → Nat → Int32} {J : Nat → Nat → Int64} {Q : Int32 → Int64 → pm_H → Prop} {I1 : Nat → Nat → Int32} (hP : pr_kp 52 3422 I I1) (hQ : ∀ I2, pr_kp 53 3446 I I2 → Q 0 0 (pm_Gb L b, I2, J)) : pm_wc pm_code pm_meta d 178 [.ref 79, .ref 132, .int 24, .int 1] (pm_Gb L b, I1, J) Q := by
  rw [pb_178v52_0]
  refine cop_k (A := fun x I' => pm_wp pm_code pm_meta d 178 3 ([.ref 79, .ref 132, .int 24, .int 1, .int x], [], (pm_Gb L b, I', J)) Q) (E' := fun _ I' => Q 0 0 (pm_Gb L b, I', J)) (r := 132) (of := 3422) (len := 24) (n := 52) (by decide) rfl rfl rfl (fun m I' hm h58 h => ?_) (fun I' h => ?_) hP hQ
  · have g := on_n (a := 3422 + m) (by omega)
    have gm := on_n (a := m) (by omega)
    rw [pb_178v52_3, if_neg (by rw [show (24 : Int32) = Int32.ofNat 24 from rfl, on_le (by omega) (by omega)]; omega), pb_178v52_9, if_neg (by decide), pb_178v52_13, h58, g.2.1, gm.2.1]
    refine ⟨pi_in gm.1 (by rw [gm.2.2]; omega), pi_in g.1 (by rw [g.2.2]; omega), ?_⟩
    rw [pb_178v52_42, pm_u_row, if_neg (by decide), h58, on_s, on_s]
    exact h
  · show pm_wp _ _ _ _ _ _ _
    rw [pb_178v52_3, if_pos (by decide), pb_178v52_58]
    exact h
theorem cop_a_132 {d L : Nat} {b : Bool} {I : Nat → Nat → Int32} {J : Nat → Nat → Int64} {Q : Int32 → Int64 → pm_H → Prop} {I1 : Nat → Nat → Int32} (hP : pr_ap 52 3422 I I1) (hQ : ∀ I2, pr_ap 53 3446 I I2 → Q 0 0 (pm_Gb L b, I2, J)) : pm_wc pm_code pm_meta d 178 [.ref 79, .ref 132, .int 24, .int 0] (pm_Gb L b, I1, J) Q := by
  rw [pb_178v52_0]
  refine cop_a (A := fun x I' => pm_wp pm_code pm_meta d 178 3 ([.ref 79, .ref 132, .int 24, .int 0, .int x], [], (pm_Gb L b, I', J)) Q) (E' := fun _ I' => Q 0 0 (pm_Gb L b, I', J)) (r := 132) (of := 3422) (len := 24) (n := 52) (by decide) rfl rfl rfl (fun m I' hm h58 h => ?_) (fun I' h => ?_) hP hQ
  · have g := on_n (a := 3422 + m) (by omega)
    have gm := on_n (a := m) (by omega)
    rw [pb_178v52_3, if_neg (by rw [show (24 : Int32) = Int32.ofNat 24 from rfl, on_le (by omega) (by omega)]; omega), pb_178v52_9, if_pos rfl, pb_178v52_29, h58, g.2.1, gm.2.1]
    refine ⟨pi_in g.1 (by rw [g.2.2]; omega), pi_in gm.1 (by rw [gm.2.2]; omega), ?_⟩
    rw [pb_178v52_42, pm_u_row, if_neg (by decide), h58, on_s, on_s]
    exact h
  · show pm_wp _ _ _ _ _ _ _
    rw [pb_178v52_3, if_pos (by decide), pb_178v52_58]
    exact h
theorem pb_178v53_0 {d L : Nat} {b : Bool} {I : Nat → Nat → Int32} {J : Nat → Nat → Int64} {x2 x3 : Int32} {Q : Int32 → Int64 → pm_H → Prop} : pm_wc pm_code pm_meta d 178 [.ref 79, .ref 133, .int x2, .int x3] (pm_Gb L b, I, J) Q ↔ pm_wp pm_code pm_meta d 178 3 ([.ref 79, .ref 133, .int x2, .int x3, .int 0], [], (pm_Gb L b, I, J)) Q := (pm_bk_iff pc_ch_178 2 0 _).trans (Iff.rfl)
theorem pb_178v53_3 {d L : Nat} {b : Bool} {I : Nat → Nat → Int32} {J : Nat → Nat → Int64} {x2 x3 x4 : Int32} {Q : Int32 → Int64 → pm_H → Prop} : pm_wp pm_code pm_meta d 178 3 ([.ref 79, .ref 133, .int x2, .int x3, .int x4], [], (pm_Gb L b, I, J)) Q ↔ if x2 ≤ x4 then pm_wp pm_code pm_meta d 178 58 ([.ref 79, .ref 133, .int x2, .int x3, .int x4], [], (pm_Gb L b, I, J)) Q else pm_wp pm_code pm_meta d 178 9 ([.ref 79, .ref 133, .int x2, .int x3, .int x4], [], (pm_Gb L b, I, J)) Q := (pm_bk_iff pc_ch_178 3 3 _).trans (pm_brd)
theorem pb_178v53_58 {d L : Nat} {b : Bool} {I : Nat → Nat → Int32} {J : Nat → Nat → Int64} {x2 x3 x4 : Int32} {Q : Int32 → Int64 → pm_H → Prop} : pm_wp pm_code pm_meta d 178 58 ([.ref 79, .ref 133, .int x2, .int x3, .int x4], [], (pm_Gb L b, I, J)) Q ↔ Q 0 0 (pm_Gb L b, I, J) := (pm_bk_iff pc_ch_178 1 58 _).trans (pm_tt)
theorem pb_178v53_9 {d L : Nat} {b : Bool} {I : Nat → Nat → Int32} {J : Nat → Nat → Int64} {x2 x3 x4 : Int32} {Q : Int32 → Int64 → pm_H → Prop} : pm_wp pm_code pm_meta d 178 9 ([.ref 79, .ref 133, .int x2, .int x3, .int x4], [], (pm_Gb L b, I, J)) Q ↔ if x3 = 0 then pm_wp pm_code pm_meta d 178 29 ([.ref 79, .ref 133, .int x2, .int x3, .int x4], [], (pm_Gb L b, I, J)) Q else pm_wp pm_code pm_meta d 178 13 ([.ref 79, .ref 133, .int x2, .int x3, .int x4], [], (pm_Gb L b, I, J)) Q := (pm_bk_iff pc_ch_178 2 9 _).trans (pm_brd)
theorem pb_178v53_29 {d L : Nat} {b : Bool} {I : Nat → Nat → Int32} {J : Nat → Nat → Int64} {x2 x3 x4 : Int32} {Q : Int32 → Int64 → pm_H → Prop} : pm_wp pm_code pm_meta d 178 29 ([.ref 79, .ref 133, .int x2, .int x3, .int x4], [], (pm_Gb L b, I, J)) Q ↔ pm_in (I 79 58) 4200 = true ∧ (pm_in x4 24 = true ∧ (pm_wp pm_code pm_meta d 178 42 ([.ref 79, .ref 133, .int x2, .int x3, .int x4], [], (pm_Gb L b, (pm_u I 133 x4.toNatClampNeg (I 136 (I 79 58).toNatClampNeg)), J)) Q)) := (pm_bk_iff pc_ch_178 8 29 _).trans (and_congr Iff.rfl (and_congr Iff.rfl (Iff.rfl)))
theorem pb_178v53_13 {d L : Nat} {b : Bool} {I : Nat → Nat → Int32} {J : Nat → Nat → Int64} {x2 x3 x4 : Int32} {Q : Int32 → Int64 → pm_H → Prop} : pm_wp pm_code pm_meta d 178 13 ([.ref 79, .ref 133, .int x2, .int x3, .int x4], [], (pm_Gb L b, I, J)) Q ↔ pm_in x4 24 = true ∧ (pm_in (I 79 58) 4200 = true ∧ (pm_wp pm_code pm_meta d 178 42 ([.ref 79, .ref 133, .int x2, .int x3, .int x4], [], (pm_Gb L b, (pm_u I 136 (I 79 58).toNatClampNeg (I 133 x4.toNatClampNeg)), J)) Q)) := (pm_bk_iff pc_ch_178 9 13 _).trans (and_congr Iff.rfl (and_congr Iff.rfl (Iff.rfl)))
theorem pb_178v53_42 {d L : Nat} {b : Bool} {I : Nat → Nat → Int32} {J : Nat → Nat → Int64} {x2 x3 x4 : Int32} {Q : Int32 → Int64 → pm_H → Prop} : pm_wp pm_code pm_meta d 178 42 ([.ref 79, .ref 133, .int x2, .int x3, .int x4], [], (pm_Gb L b, I, J)) Q ↔ pm_wp pm_code pm_meta d 178 3 ([.ref 79, .ref 133, .int x2, .int x3, .int (x4 + 1)], [], (pm_Gb L b, (pm_u I 79 58 ((I 79 58) + 1)), J)) Q := (pm_bk_iff pc_ch_178 8 42 _).trans (Iff.rfl)
theorem cop_k_133 {d L : Nat} {b : Bool} {I : Nat → Nat → Int32} {J : Nat → Nat → Int64} {Q : Int32 → Int64 → pm_H → Prop} {I1 : Nat → Nat → Int32} (hP : pr_kp 53 3446 I I1) (hQ : ∀ I2, pr_kp 54 3470 I I2 → Q 0 0 (pm_Gb L b, I2, J)) : pm_wc pm_code pm_meta d 178 [.ref 79, .ref 133, .int 24, .int 1] (pm_Gb L b, I1, J) Q := by
  rw [pb_178v53_0]
  refine cop_k (A := fun x I' => pm_wp pm_code pm_meta d 178 3 ([.ref 79, .ref 133, .int 24, .int 1, .int x], [], (pm_Gb L b, I', J)) Q) (E' := fun _ I' => Q 0 0 (pm_Gb L b, I', J)) (r := 133) (of := 3446) (len := 24) (n := 53) (by decide) rfl rfl rfl (fun m I' hm h58 h => ?_) (fun I' h => ?_) hP hQ
  · have g := on_n (a := 3446 + m) (by omega)
    have gm := on_n (a := m) (by omega)
    rw [pb_178v53_3, if_neg (by rw [show (24 : Int32) = Int32.ofNat 24 from rfl, on_le (by omega) (by omega)]; omega), pb_178v53_9, if_neg (by decide), pb_178v53_13, h58, g.2.1, gm.2.1]
    refine ⟨pi_in gm.1 (by rw [gm.2.2]; omega), pi_in g.1 (by rw [g.2.2]; omega), ?_⟩
    rw [pb_178v53_42, pm_u_row, if_neg (by decide), h58, on_s, on_s]
    exact h
  · show pm_wp _ _ _ _ _ _ _
    rw [pb_178v53_3, if_pos (by decide), pb_178v53_58]
    exact h
theorem cop_a_133 {d L : Nat} {b : Bool} {I : Nat → Nat → Int32} {J : Nat → Nat → Int64} {Q : Int32 → Int64 → pm_H → Prop} {I1 : Nat → Nat → Int32} (hP : pr_ap 53 3446 I I1) (hQ : ∀ I2, pr_ap 54 3470 I I2 → Q 0 0 (pm_Gb L b, I2, J)) : pm_wc pm_code pm_meta d 178 [.ref 79, .ref 133, .int 24, .int 0] (pm_Gb L b, I1, J) Q := by
  rw [pb_178v53_0]
  refine cop_a (A := fun x I' => pm_wp pm_code pm_meta d 178 3 ([.ref 79, .ref 133, .int 24, .int 0, .int x], [], (pm_Gb L b, I', J)) Q) (E' := fun _ I' => Q 0 0 (pm_Gb L b, I', J)) (r := 133) (of := 3446) (len := 24) (n := 53) (by decide) rfl rfl rfl (fun m I' hm h58 h => ?_) (fun I' h => ?_) hP hQ
  · have g := on_n (a := 3446 + m) (by omega)
    have gm := on_n (a := m) (by omega)
    rw [pb_178v53_3, if_neg (by rw [show (24 : Int32) = Int32.ofNat 24 from rfl, on_le (by omega) (by omega)]; omega), pb_178v53_9, if_pos rfl, pb_178v53_29, h58, g.2.1, gm.2.1]
    refine ⟨pi_in g.1 (by rw [g.2.2]; omega), pi_in gm.1 (by rw [gm.2.2]; omega), ?_⟩
    rw [pb_178v53_42, pm_u_row, if_neg (by decide), h58, on_s, on_s]
    exact h
  · show pm_wp _ _ _ _ _ _ _
    rw [pb_178v53_3, if_pos (by decide), pb_178v53_58]
    exact h
theorem pb_178v54_0 {d L : Nat} {b : Bool} {I : Nat → Nat → Int32} {J : Nat → Nat → Int64} {x2 x3 : Int32} {Q : Int32 → Int64 → pm_H → Prop} : pm_wc pm_code pm_meta d 178 [.ref 79, .ref 134, .int x2, .int x3] (pm_Gb L b, I, J) Q ↔ pm_wp pm_code pm_meta d 178 3 ([.ref 79, .ref 134, .int x2, .int x3, .int 0], [], (pm_Gb L b, I, J)) Q := (pm_bk_iff pc_ch_178 2 0 _).trans (Iff.rfl)
theorem pb_178v54_3 {d L : Nat} {b : Bool} {I : Nat → Nat → Int32} {J : Nat → Nat → Int64} {x2 x3 x4 : Int32} {Q : Int32 → Int64 → pm_H → Prop} : pm_wp pm_code pm_meta d 178 3 ([.ref 79, .ref 134, .int x2, .int x3, .int x4], [], (pm_Gb L b, I, J)) Q ↔ if x2 ≤ x4 then pm_wp pm_code pm_meta d 178 58 ([.ref 79, .ref 134, .int x2, .int x3, .int x4], [], (pm_Gb L b, I, J)) Q else pm_wp pm_code pm_meta d 178 9 ([.ref 79, .ref 134, .int x2, .int x3, .int x4], [], (pm_Gb L b, I, J)) Q := (pm_bk_iff pc_ch_178 3 3 _).trans (pm_brd)
theorem pb_178v54_58 {d L : Nat} {b : Bool} {I : Nat → Nat → Int32} {J : Nat → Nat → Int64} {x2 x3 x4 : Int32} {Q : Int32 → Int64 → pm_H → Prop} : pm_wp pm_code pm_meta d 178 58 ([.ref 79, .ref 134, .int x2, .int x3, .int x4], [], (pm_Gb L b, I, J)) Q ↔ Q 0 0 (pm_Gb L b, I, J) := (pm_bk_iff pc_ch_178 1 58 _).trans (pm_tt)
theorem pb_178v54_9 {d L : Nat} {b : Bool} {I : Nat → Nat → Int32} {J : Nat → Nat → Int64} {x2 x3 x4 : Int32} {Q : Int32 → Int64 → pm_H → Prop} : pm_wp pm_code pm_meta d 178 9 ([.ref 79, .ref 134, .int x2, .int x3, .int x4], [], (pm_Gb L b, I, J)) Q ↔ if x3 = 0 then pm_wp pm_code pm_meta d 178 29 ([.ref 79, .ref 134, .int x2, .int x3, .int x4], [], (pm_Gb L b, I, J)) Q else pm_wp pm_code pm_meta d 178 13 ([.ref 79, .ref 134, .int x2, .int x3, .int x4], [], (pm_Gb L b, I, J)) Q := (pm_bk_iff pc_ch_178 2 9 _).trans (pm_brd)
theorem pb_178v54_29 {d L : Nat} {b : Bool} {I : Nat → Nat → Int32} {J : Nat → Nat → Int64} {x2 x3 x4 : Int32} {Q : Int32 → Int64 → pm_H → Prop} : pm_wp pm_code pm_meta d 178 29 ([.ref 79, .ref 134, .int x2, .int x3, .int x4], [], (pm_Gb L b, I, J)) Q ↔ pm_in (I 79 58) 4200 = true ∧ (pm_in x4 24 = true ∧ (pm_wp pm_code pm_meta d 178 42 ([.ref 79, .ref 134, .int x2, .int x3, .int x4], [], (pm_Gb L b, (pm_u I 134 x4.toNatClampNeg (I 136 (I 79 58).toNatClampNeg)), J)) Q)) := (pm_bk_iff pc_ch_178 8 29 _).trans (and_congr Iff.rfl (and_congr Iff.rfl (Iff.rfl)))
theorem pb_178v54_13 {d L : Nat} {b : Bool} {I : Nat → Nat → Int32} {J : Nat → Nat → Int64} {x2 x3 x4 : Int32} {Q : Int32 → Int64 → pm_H → Prop} : pm_wp pm_code pm_meta d 178 13 ([.ref 79, .ref 134, .int x2, .int x3, .int x4], [], (pm_Gb L b, I, J)) Q ↔ pm_in x4 24 = true ∧ (pm_in (I 79 58) 4200 = true ∧ (pm_wp pm_code pm_meta d 178 42 ([.ref 79, .ref 134, .int x2, .int x3, .int x4], [], (pm_Gb L b, (pm_u I 136 (I 79 58).toNatClampNeg (I 134 x4.toNatClampNeg)), J)) Q)) := (pm_bk_iff pc_ch_178 9 13 _).trans (and_congr Iff.rfl (and_congr Iff.rfl (Iff.rfl)))
theorem pb_178v54_42 {d L : Nat} {b : Bool} {I : Nat → Nat → Int32} {J : Nat → Nat → Int64} {x2 x3 x4 : Int32} {Q : Int32 → Int64 → pm_H → Prop} : pm_wp pm_code pm_meta d 178 42 ([.ref 79, .ref 134, .int x2, .int x3, .int x4], [], (pm_Gb L b, I, J)) Q ↔ pm_wp pm_code pm_meta d 178 3 ([.ref 79, .ref 134, .int x2, .int x3, .int (x4 + 1)], [], (pm_Gb L b, (pm_u I 79 58 ((I 79 58) + 1)), J)) Q := (pm_bk_iff pc_ch_178 8 42 _).trans (Iff.rfl)
theorem cop_k_134 {d L : Nat} {b : Bool} {I : Nat → Nat → Int32} {J : Nat → Nat → Int64} {Q : Int32 → Int64 → pm_H → Prop} {I1 : Nat → Nat → Int32} (hP : pr_kp 54 3470 I I1) (hQ : ∀ I2, pr_kp 55 3494 I I2 → Q 0 0 (pm_Gb L b, I2, J)) : pm_wc pm_code pm_meta d 178 [.ref 79, .ref 134, .int 24, .int 1] (pm_Gb L b, I1, J) Q := by
  rw [pb_178v54_0]
  refine cop_k (A := fun x I' => pm_wp pm_code pm_meta d 178 3 ([.ref 79, .ref 134, .int 24, .int 1, .int x], [], (pm_Gb L b, I', J)) Q) (E' := fun _ I' => Q 0 0 (pm_Gb L b, I', J)) (r := 134) (of := 3470) (len := 24) (n := 54) (by decide) rfl rfl rfl (fun m I' hm h58 h => ?_) (fun I' h => ?_) hP hQ
  · have g := on_n (a := 3470 + m) (by omega)
    have gm := on_n (a := m) (by omega)
    rw [pb_178v54_3, if_neg (by rw [show (24 : Int32) = Int32.ofNat 24 from rfl, on_le (by omega) (by omega)]; omega), pb_178v54_9, if_neg (by decide), pb_178v54_13, h58, g.2.1, gm.2.1]
    refine ⟨pi_in gm.1 (by rw [gm.2.2]; omega), pi_in g.1 (by rw [g.2.2]; omega), ?_⟩
    rw [pb_178v54_42, pm_u_row, if_neg (by decide), h58, on_s, on_s]
    exact h
  · show pm_wp _ _ _ _ _ _ _
    rw [pb_178v54_3, if_pos (by decide), pb_178v54_58]
    exact h
theorem cop_a_134 {d L : Nat} {b : Bool} {I : Nat → Nat → Int32} {J : Nat → Nat → Int64} {Q : Int32 → Int64 → pm_H → Prop} {I1 : Nat → Nat → Int32} (hP : pr_ap 54 3470 I I1) (hQ : ∀ I2, pr_ap 55 3494 I I2 → Q 0 0 (pm_Gb L b, I2, J)) : pm_wc pm_code pm_meta d 178 [.ref 79, .ref 134, .int 24, .int 0] (pm_Gb L b, I1, J) Q := by
  rw [pb_178v54_0]
  refine cop_a (A := fun x I' => pm_wp pm_code pm_meta d 178 3 ([.ref 79, .ref 134, .int 24, .int 0, .int x], [], (pm_Gb L b, I', J)) Q) (E' := fun _ I' => Q 0 0 (pm_Gb L b, I', J)) (r := 134) (of := 3470) (len := 24) (n := 54) (by decide) rfl rfl rfl (fun m I' hm h58 h => ?_) (fun I' h => ?_) hP hQ
  · have g := on_n (a := 3470 + m) (by omega)
    have gm := on_n (a := m) (by omega)
    rw [pb_178v54_3, if_neg (by rw [show (24 : Int32) = Int32.ofNat 24 from rfl, on_le (by omega) (by omega)]; omega), pb_178v54_9, if_pos rfl, pb_178v54_29, h58, g.2.1, gm.2.1]
    refine ⟨pi_in g.1 (by rw [g.2.2]; omega), pi_in gm.1 (by rw [gm.2.2]; omega), ?_⟩
    rw [pb_178v54_42, pm_u_row, if_neg (by decide), h58, on_s, on_s]
    exact h
  · show pm_wp _ _ _ _ _ _ _
    rw [pb_178v54_3, if_pos (by decide), pb_178v54_58]
    exact h
theorem pb_178v55_0 {d L : Nat} {b : Bool} {I : Nat → Nat → Int32} {J : Nat → Nat → Int64} {x2 x3 : Int32} {Q : Int32 → Int64 → pm_H → Prop} : pm_wc pm_code pm_meta d 178 [.ref 79, .ref 135, .int x2, .int x3] (pm_Gb L b, I, J) Q ↔ pm_wp pm_code pm_meta d 178 3 ([.ref 79, .ref 135, .int x2, .int x3, .int 0], [], (pm_Gb L b, I, J)) Q := (pm_bk_iff pc_ch_178 2 0 _).trans (Iff.rfl)
theorem pb_178v55_3 {d L : Nat} {b : Bool} {I : Nat → Nat → Int32} {J : Nat → Nat → Int64} {x2 x3 x4 : Int32} {Q : Int32 → Int64 → pm_H → Prop} : pm_wp pm_code pm_meta d 178 3 ([.ref 79, .ref 135, .int x2, .int x3, .int x4], [], (pm_Gb L b, I, J)) Q ↔ if x2 ≤ x4 then pm_wp pm_code pm_meta d 178 58 ([.ref 79, .ref 135, .int x2, .int x3, .int x4], [], (pm_Gb L b, I, J)) Q else pm_wp pm_code pm_meta d 178 9 ([.ref 79, .ref 135, .int x2, .int x3, .int x4], [], (pm_Gb L b, I, J)) Q := (pm_bk_iff pc_ch_178 3 3 _).trans (pm_brd)
theorem pb_178v55_58 {d L : Nat} {b : Bool} {I : Nat → Nat → Int32} {J : Nat → Nat → Int64} {x2 x3 x4 : Int32} {Q : Int32 → Int64 → pm_H → Prop} : pm_wp pm_code pm_meta d 178 58 ([.ref 79, .ref 135, .int x2, .int x3, .int x4], [], (pm_Gb L b, I, J)) Q ↔ Q 0 0 (pm_Gb L b, I, J) := (pm_bk_iff pc_ch_178 1 58 _).trans (pm_tt)
theorem pb_178v55_9 {d L : Nat} {b : Bool} {I : Nat → Nat → Int32} {J : Nat → Nat → Int64} {x2 x3 x4 : Int32} {Q : Int32 → Int64 → pm_H → Prop} : pm_wp pm_code pm_meta d 178 9 ([.ref 79, .ref 135, .int x2, .int x3, .int x4], [], (pm_Gb L b, I, J)) Q ↔ if x3 = 0 then pm_wp pm_code pm_meta d 178 29 ([.ref 79, .ref 135, .int x2, .int x3, .int x4], [], (pm_Gb L b, I, J)) Q else pm_wp pm_code pm_meta d 178 13 ([.ref 79, .ref 135, .int x2, .int x3, .int x4], [], (pm_Gb L b, I, J)) Q := (pm_bk_iff pc_ch_178 2 9 _).trans (pm_brd)
theorem pb_178v55_29 {d L : Nat} {b : Bool} {I : Nat → Nat → Int32} {J : Nat → Nat → Int64} {x2 x3 x4 : Int32} {Q : Int32 → Int64 → pm_H → Prop} : pm_wp pm_code pm_meta d 178 29 ([.ref 79, .ref 135, .int x2, .int x3, .int x4], [], (pm_Gb L b, I, J)) Q ↔ pm_in (I 79 58) 4200 = true ∧ (pm_in x4 24 = true ∧ (pm_wp pm_code pm_meta d 178 42 ([.ref 79, .ref 135, .int x2, .int x3, .int x4], [], (pm_Gb L b, (pm_u I 135 x4.toNatClampNeg (I 136 (I 79 58).toNatClampNeg)), J)) Q)) := (pm_bk_iff pc_ch_178 8 29 _).trans (and_congr Iff.rfl (and_congr Iff.rfl (Iff.rfl)))
theorem pb_178v55_13 {d L : Nat} {b : Bool} {I : Nat → Nat → Int32} {J : Nat → Nat → Int64} {x2 x3 x4 : Int32} {Q : Int32 → Int64 → pm_H → Prop} : pm_wp pm_code pm_meta d 178 13 ([.ref 79, .ref 135, .int x2, .int x3, .int x4], [], (pm_Gb L b, I, J)) Q ↔ pm_in x4 24 = true ∧ (pm_in (I 79 58) 4200 = true ∧ (pm_wp pm_code pm_meta d 178 42 ([.ref 79, .ref 135, .int x2, .int x3, .int x4], [], (pm_Gb L b, (pm_u I 136 (I 79 58).toNatClampNeg (I 135 x4.toNatClampNeg)), J)) Q)) := (pm_bk_iff pc_ch_178 9 13 _).trans (and_congr Iff.rfl (and_congr Iff.rfl (Iff.rfl)))
theorem pb_178v55_42 {d L : Nat} {b : Bool} {I : Nat → Nat → Int32} {J : Nat → Nat → Int64} {x2 x3 x4 : Int32} {Q : Int32 → Int64 → pm_H → Prop} : pm_wp pm_code pm_meta d 178 42 ([.ref 79, .ref 135, .int x2, .int x3, .int x4], [], (pm_Gb L b, I, J)) Q ↔ pm_wp pm_code pm_meta d 178 3 ([.ref 79, .ref 135, .int x2, .int x3, .int (x4 + 1)], [], (pm_Gb L b, (pm_u I 79 58 ((I 79 58) + 1)), J)) Q := (pm_bk_iff pc_ch_178 8 42 _).trans (Iff.rfl)
theorem cop_k_135 {d L : Nat} {b : Bool} {I : Nat → Nat → Int32} {J : Nat → Nat → Int64} {Q : Int32 → Int64 → pm_H → Prop} {I1 : Nat → Nat → Int32} (hP : pr_kp 55 3494 I I1) (hQ : ∀ I2, pr_kp 56 3518 I I2 → Q 0 0 (pm_Gb L b, I2, J)) : pm_wc pm_code pm_meta d 178 [.ref 79, .ref 135, .int 24, .int 1] (pm_Gb L b, I1, J) Q := by
  rw [pb_178v55_0]
  refine cop_k (A := fun x I' => pm_wp pm_code pm_meta d 178 3 ([.ref 79, .ref 135, .int 24, .int 1, .int x], [], (pm_Gb L b, I', J)) Q) (E' := fun _ I' => Q 0 0 (pm_Gb L b, I', J)) (r := 135) (of := 3494) (len := 24) (n := 55) (by decide) rfl rfl rfl (fun m I' hm h58 h => ?_) (fun I' h => ?_) hP hQ
  · have g := on_n (a := 3494 + m) (by omega)
    have gm := on_n (a := m) (by omega)
    rw [pb_178v55_3, if_neg (by rw [show (24 : Int32) = Int32.ofNat 24 from rfl, on_le (by omega) (by omega)]; omega), pb_178v55_9, if_neg (by decide), pb_178v55_13, h58, g.2.1, gm.2.1]
    refine ⟨pi_in gm.1 (by rw [gm.2.2]; omega), pi_in g.1 (by rw [g.2.2]; omega), ?_⟩
    rw [pb_178v55_42, pm_u_row, if_neg (by decide), h58, on_s, on_s]
    exact h
  · show pm_wp _ _ _ _ _ _ _
    rw [pb_178v55_3, if_pos (by decide), pb_178v55_58]
    exact h
theorem cop_a_135 {d L : Nat} {b : Bool} {I : Nat → Nat → Int32} {J : Nat → Nat → Int64} {Q : Int32 → Int64 → pm_H → Prop} {I1 : Nat → Nat → Int32} (hP : pr_ap 55 3494 I I1) (hQ : ∀ I2, pr_ap 56 3518 I I2 → Q 0 0 (pm_Gb L b, I2, J)) : pm_wc pm_code pm_meta d 178 [.ref 79, .ref 135, .int 24, .int 0] (pm_Gb L b, I1, J) Q := by
  rw [pb_178v55_0]
  refine cop_a (A := fun x I' => pm_wp pm_code pm_meta d 178 3 ([.ref 79, .ref 135, .int 24, .int 0, .int x], [], (pm_Gb L b, I', J)) Q) (E' := fun _ I' => Q 0 0 (pm_Gb L b, I', J)) (r := 135) (of := 3494) (len := 24) (n := 55) (by decide) rfl rfl rfl (fun m I' hm h58 h => ?_) (fun I' h => ?_) hP hQ
  · have g := on_n (a := 3494 + m) (by omega)
    have gm := on_n (a := m) (by omega)
    rw [pb_178v55_3, if_neg (by rw [show (24 : Int32) = Int32.ofNat 24 from rfl, on_le (by omega) (by omega)]; omega), pb_178v55_9, if_pos rfl, pb_178v55_29, h58, g.2.1, gm.2.1]
    refine ⟨pi_in g.1 (by rw [g.2.2]; omega), pi_in gm.1 (by rw [gm.2.2]; omega), ?_⟩
    rw [pb_178v55_42, pm_u_row, if_neg (by decide), h58, on_s, on_s]
    exact h
  · show pm_wp _ _ _ _ _ _ _
    rw [pb_178v55_3, if_pos (by decide), pb_178v55_58]
    exact h
theorem copAll_k {d L : Nat} {b : Bool} {I : Nat → Nat → Int32} {J : Nat → Nat → Int64} {Q : Int32 → Int64 → pm_H → Prop} (hQ : ∀ I', pr_kp 56 3518 (pm_u I 79 58 0) I' → Q 0 0 (pm_Gb L b, I', J)) : pm_wc pm_code pm_meta (d + 1) 179 [.ref 79, .int 1] (pm_Gb L b, I, J) Q := by
  rw [pb_179_0]
  have h0 : pr_kp 0 0 (pm_u I 79 58 0) (pm_u I 79 58 0) := ⟨fun _ _ _ => rfl, fun _ _ => rfl, by rw [pm_u_at]; rfl, fun i hi => absurd hi (Nat.not_lt_zero _)⟩
  refine cop_k_80 h0 (fun I1 h1 => ?_)
  rw [pb_179_16]
  refine cop_k_81 h1 (fun I2 h2 => ?_)
  rw [pb_179_27]
  refine cop_k_82 h2 (fun I3 h3 => ?_)
  rw [pb_179_38]
  refine cop_k_83 h3 (fun I4 h4 => ?_)
  rw [pb_179_49]
  refine cop_k_84 h4 (fun I5 h5 => ?_)
  rw [pb_179_60]
  refine cop_k_85 h5 (fun I6 h6 => ?_)
  rw [pb_179_71]
  refine cop_k_86 h6 (fun I7 h7 => ?_)
  rw [pb_179_82]
  refine cop_k_87 h7 (fun I8 h8 => ?_)
  rw [pb_179_93]
  refine cop_k_88 h8 (fun I9 h9 => ?_)
  rw [pb_179_104]
  refine cop_k_89 h9 (fun I10 h10 => ?_)
  rw [pb_179_115]
  refine cop_k_90 h10 (fun I11 h11 => ?_)
  rw [pb_179_126]
  refine cop_k_91 h11 (fun I12 h12 => ?_)
  rw [pb_179_137]
  refine cop_k_92 h12 (fun I13 h13 => ?_)
  rw [pb_179_148]
  refine cop_k_93 h13 (fun I14 h14 => ?_)
  rw [pb_179_159]
  refine cop_k_94 h14 (fun I15 h15 => ?_)
  rw [pb_179_170]
  refine cop_k_95 h15 (fun I16 h16 => ?_)
  rw [pb_179_181]
  refine cop_k_96 h16 (fun I17 h17 => ?_)
  rw [pb_179_192]
  refine cop_k_97 h17 (fun I18 h18 => ?_)
  rw [pb_179_203]
  refine cop_k_98 h18 (fun I19 h19 => ?_)
  rw [pb_179_214]
  refine cop_k_99 h19 (fun I20 h20 => ?_)
  rw [pb_179_225]
  refine cop_k_100 h20 (fun I21 h21 => ?_)
  rw [pb_179_236]
  refine cop_k_101 h21 (fun I22 h22 => ?_)
  rw [pb_179_247]
  refine cop_k_102 h22 (fun I23 h23 => ?_)
  rw [pb_179_258]
  refine cop_k_103 h23 (fun I24 h24 => ?_)
  rw [pb_179_269]
  refine cop_k_104 h24 (fun I25 h25 => ?_)
  rw [pb_179_280]
  refine cop_k_105 h25 (fun I26 h26 => ?_)
  rw [pb_179_291]
  refine cop_k_106 h26 (fun I27 h27 => ?_)
  rw [pb_179_302]
  refine cop_k_107 h27 (fun I28 h28 => ?_)
  rw [pb_179_313]
  refine cop_k_108 h28 (fun I29 h29 => ?_)
  rw [pb_179_324]
  refine cop_k_109 h29 (fun I30 h30 => ?_)
  rw [pb_179_335]
  refine cop_k_110 h30 (fun I31 h31 => ?_)
  rw [pb_179_346]
  refine cop_k_111 h31 (fun I32 h32 => ?_)
  rw [pb_179_357]
  refine cop_k_112 h32 (fun I33 h33 => ?_)
  rw [pb_179_368]
  refine cop_k_113 h33 (fun I34 h34 => ?_)
  rw [pb_179_379]
  refine cop_k_114 h34 (fun I35 h35 => ?_)
  rw [pb_179_390]
  refine cop_k_115 h35 (fun I36 h36 => ?_)
  rw [pb_179_401]
  refine cop_k_116 h36 (fun I37 h37 => ?_)
  rw [pb_179_412]
  refine cop_k_117 h37 (fun I38 h38 => ?_)
  rw [pb_179_423]
  refine cop_k_118 h38 (fun I39 h39 => ?_)
  rw [pb_179_434]
  refine cop_k_119 h39 (fun I40 h40 => ?_)
  rw [pb_179_445]
  refine cop_k_120 h40 (fun I41 h41 => ?_)
  rw [pb_179_456]
  refine cop_k_121 h41 (fun I42 h42 => ?_)
  rw [pb_179_467]
  refine cop_k_122 h42 (fun I43 h43 => ?_)
  rw [pb_179_479]
  refine cop_k_123 h43 (fun I44 h44 => ?_)
  rw [pb_179_491]
  refine cop_k_124 h44 (fun I45 h45 => ?_)
  rw [pb_179_501]
  refine cop_k_125 h45 (fun I46 h46 => ?_)
  rw [pb_179_512]
  refine cop_k_126 h46 (fun I47 h47 => ?_)
  rw [pb_179_523]
  refine cop_k_127 h47 (fun I48 h48 => ?_)
  rw [pb_179_534]
  refine cop_k_128 h48 (fun I49 h49 => ?_)
  rw [pb_179_545]
  refine cop_k_129 h49 (fun I50 h50 => ?_)
  rw [pb_179_555]
  refine cop_k_130 h50 (fun I51 h51 => ?_)
  rw [pb_179_566]
  refine cop_k_131 h51 (fun I52 h52 => ?_)
  rw [pb_179_577]
  refine cop_k_132 h52 (fun I53 h53 => ?_)
  rw [pb_179_588]
  refine cop_k_133 h53 (fun I54 h54 => ?_)
  rw [pb_179_599]
  refine cop_k_134 h54 (fun I55 h55 => ?_)
  rw [pb_179_610]
  refine cop_k_135 h55 (fun I56 h56 => ?_)
  rw [pb_179_621]
  exact hQ I56 h56
theorem copAll_a {d L : Nat} {b : Bool} {I : Nat → Nat → Int32} {J : Nat → Nat → Int64} {Q : Int32 → Int64 → pm_H → Prop} (hQ : ∀ I', pr_ap 56 3518 (pm_u I 79 58 0) I' → Q 0 0 (pm_Gb L b, I', J)) : pm_wc pm_code pm_meta (d + 1) 179 [.ref 79, .int 0] (pm_Gb L b, I, J) Q := by
  rw [pb_179_0]
  have h0 : pr_ap 0 0 (pm_u I 79 58 0) (pm_u I 79 58 0) := ⟨fun _ _ _ => rfl, fun _ _ => rfl, by rw [pm_u_at]; rfl, fun i hi => absurd hi (Nat.not_lt_zero _)⟩
  refine cop_a_80 h0 (fun I1 h1 => ?_)
  rw [pb_179_16]
  refine cop_a_81 h1 (fun I2 h2 => ?_)
  rw [pb_179_27]
  refine cop_a_82 h2 (fun I3 h3 => ?_)
  rw [pb_179_38]
  refine cop_a_83 h3 (fun I4 h4 => ?_)
  rw [pb_179_49]
  refine cop_a_84 h4 (fun I5 h5 => ?_)
  rw [pb_179_60]
  refine cop_a_85 h5 (fun I6 h6 => ?_)
  rw [pb_179_71]
  refine cop_a_86 h6 (fun I7 h7 => ?_)
  rw [pb_179_82]
  refine cop_a_87 h7 (fun I8 h8 => ?_)
  rw [pb_179_93]
  refine cop_a_88 h8 (fun I9 h9 => ?_)
  rw [pb_179_104]
  refine cop_a_89 h9 (fun I10 h10 => ?_)
  rw [pb_179_115]
  refine cop_a_90 h10 (fun I11 h11 => ?_)
  rw [pb_179_126]
  refine cop_a_91 h11 (fun I12 h12 => ?_)
  rw [pb_179_137]
  refine cop_a_92 h12 (fun I13 h13 => ?_)
  rw [pb_179_148]
  refine cop_a_93 h13 (fun I14 h14 => ?_)
  rw [pb_179_159]
  refine cop_a_94 h14 (fun I15 h15 => ?_)
  rw [pb_179_170]
  refine cop_a_95 h15 (fun I16 h16 => ?_)
  rw [pb_179_181]
  refine cop_a_96 h16 (fun I17 h17 => ?_)
  rw [pb_179_192]
  refine cop_a_97 h17 (fun I18 h18 => ?_)
  rw [pb_179_203]
  refine cop_a_98 h18 (fun I19 h19 => ?_)
  rw [pb_179_214]
  refine cop_a_99 h19 (fun I20 h20 => ?_)
  rw [pb_179_225]
  refine cop_a_100 h20 (fun I21 h21 => ?_)
  rw [pb_179_236]
  refine cop_a_101 h21 (fun I22 h22 => ?_)
  rw [pb_179_247]
  refine cop_a_102 h22 (fun I23 h23 => ?_)
  rw [pb_179_258]
  refine cop_a_103 h23 (fun I24 h24 => ?_)
  rw [pb_179_269]
  refine cop_a_104 h24 (fun I25 h25 => ?_)
  rw [pb_179_280]
  refine cop_a_105 h25 (fun I26 h26 => ?_)
  rw [pb_179_291]
  refine cop_a_106 h26 (fun I27 h27 => ?_)
  rw [pb_179_302]
  refine cop_a_107 h27 (fun I28 h28 => ?_)
  rw [pb_179_313]
  refine cop_a_108 h28 (fun I29 h29 => ?_)
  rw [pb_179_324]
  refine cop_a_109 h29 (fun I30 h30 => ?_)
  rw [pb_179_335]
  refine cop_a_110 h30 (fun I31 h31 => ?_)
  rw [pb_179_346]
  refine cop_a_111 h31 (fun I32 h32 => ?_)
  rw [pb_179_357]
  refine cop_a_112 h32 (fun I33 h33 => ?_)
  rw [pb_179_368]
  refine cop_a_113 h33 (fun I34 h34 => ?_)
  rw [pb_179_379]
  refine cop_a_114 h34 (fun I35 h35 => ?_)
  rw [pb_179_390]
  refine cop_a_115 h35 (fun I36 h36 => ?_)
  rw [pb_179_401]
  refine cop_a_116 h36 (fun I37 h37 => ?_)
  rw [pb_179_412]
  refine cop_a_117 h37 (fun I38 h38 => ?_)
  rw [pb_179_423]
  refine cop_a_118 h38 (fun I39 h39 => ?_)
  rw [pb_179_434]
  refine cop_a_119 h39 (fun I40 h40 => ?_)
  rw [pb_179_445]
  refine cop_a_120 h40 (fun I41 h41 => ?_)
  rw [pb_179_456]
  refine cop_a_121 h41 (fun I42 h42 => ?_)
  rw [pb_179_467]
  refine cop_a_122 h42 (fun I43 h43 => ?_)
  rw [pb_179_479]
  refine cop_a_123 h43 (fun I44 h44 => ?_)
  rw [pb_179_491]
  refine cop_a_124 h44 (fun I45 h45 => ?_)
  rw [pb_179_501]
  refine cop_a_125 h45 (fun I46 h46 => ?_)
  rw [pb_179_512]
  refine cop_a_126 h46 (fun I47 h47 => ?_)
  rw [pb_179_523]
  refine cop_a_127 h47 (fun I48 h48 => ?_)
  rw [pb_179_534]
  refine cop_a_128 h48 (fun I49 h49 => ?_)
  rw [pb_179_545]
  refine cop_a_129 h49 (fun I50 h50 => ?_)
  rw [pb_179_555]
  refine cop_a_130 h50 (fun I51 h51 => ?_)
  rw [pb_179_566]
  refine cop_a_131 h51 (fun I52 h52 => ?_)
  rw [pb_179_577]
  refine cop_a_132 h52 (fun I53 h53 => ?_)
  rw [pb_179_588]
  refine cop_a_133 h53 (fun I54 h54 => ?_)
  rw [pb_179_599]
  refine cop_a_134 h54 (fun I55 h55 => ?_)
  rw [pb_179_610]
  refine cop_a_135 h55 (fun I56 h56 => ?_)
  rw [pb_179_621]
  exact hQ I56 h56

