/-! NUMBERS AND ROWS for the pure part; tables as iffs. -/
theorem pi_add {a b : Int32} (h1 : -2147483648 ≤ a.toInt + b.toInt) (h2 : a.toInt + b.toInt < 2147483648) : (a + b).toInt = a.toInt + b.toInt := by
  rw [Int32.toInt_add]; exact Int.bmod_eq_of_le (by omega) (by omega)
theorem pi_sub {a b : Int32} (h1 : -2147483648 ≤ a.toInt - b.toInt) (h2 : a.toInt - b.toInt < 2147483648) : (a - b).toInt = a.toInt - b.toInt := by
  rw [Int32.toInt_sub]; exact Int.bmod_eq_of_le (by omega) (by omega)
theorem pi_mul {a b : Int32} (h1 : -2147483648 ≤ a.toInt * b.toInt) (h2 : a.toInt * b.toInt < 2147483648) : (a * b).toInt = a.toInt * b.toInt := by
  rw [Int32.toInt_mul]; exact Int.bmod_eq_of_le (by omega) (by omega)
theorem pi_tn (a : Int32) : a.toNatClampNeg = a.toInt.toNat := rfl
theorem pi_le {a b : Int32} : a ≤ b ↔ a.toInt ≤ b.toInt := Int32.le_iff_toInt_le
theorem pi_lt {a b : Int32} : a < b ↔ a.toInt < b.toInt := Int32.lt_iff_toInt_lt
theorem pi_eq {a b : Int32} : a = b ↔ a.toInt = b.toInt := Int32.toInt_inj.symm
theorem pi_lo (a : Int32) : -2147483648 ≤ a.toInt := Int32.le_toInt a
theorem pi_hi (a : Int32) : a.toInt < 2147483648 := Int32.toInt_lt a
theorem pi_0 : (0 : Int32).toInt = 0 := rfl
theorem pi_1 : (1 : Int32).toInt = 1 := rfl
theorem pi_tnlt {a b : Int32} (h0 : 0 ≤ a) (h : a < b) : a.toNatClampNeg < b.toNatClampNeg := by
  rw [pi_le] at h0; rw [pi_lt] at h; rw [pi_tn, pi_tn]; rw [pi_0] at h0; omega
theorem pi_tni {a : Int32} (h0 : 0 ≤ a) : (a.toNatClampNeg : Int) = a.toInt := by
  rw [pi_le, pi_0] at h0; rw [pi_tn]; omega
theorem pi_tneq {a b : Int32} (h0 : 0 ≤ a) (h1 : 0 ≤ b) : a.toNatClampNeg = b.toNatClampNeg ↔ a = b := by
  have := pi_tni h0; have := pi_tni h1
  rw [pi_eq]; omega
theorem pi_tn1 {a : Int32} (h0 : 0 ≤ a) (h : a < 2147483647) : (a + 1).toNatClampNeg = a.toNatClampNeg + 1 := by
  rw [pi_le, pi_0] at h0; rw [pi_lt] at h
  have h : a.toInt < 2147483647 := h
  rw [pi_tn, pi_tn, pi_add (by rw [pi_1]; omega) (by rw [pi_1]; omega), pi_1]; omega
theorem pi_in {i : Int32} {n : Nat} (h0 : 0 ≤ i) (h : i.toInt < n) : pm_in i n = true := by
  have := pi_tni h0
  unfold pm_in
  rw [decide_eq_true h0, decide_eq_true (by omega : i.toNatClampNeg < n)]; rfl
theorem pi_cell {r k w lim : Int32} {n : Nat} (h0 : 0 ≤ r) (h1 : r < lim) (h2 : 0 ≤ k) (h3 : k < w) (hn : lim.toInt * w.toInt = n) (hb : n < 2147483648) : (r * w + k).toNatClampNeg = w.toNatClampNeg * r.toNatClampNeg + k.toNatClampNeg ∧ pm_in (r * w + k) n = true := by
  rw [pi_le, pi_0] at h0 h2
  rw [pi_lt] at h1 h3
  have e1 : 0 ≤ r.toInt * w.toInt := Int.mul_nonneg h0 (by omega)
  have e2 : (r.toInt + 1) * w.toInt ≤ lim.toInt * w.toInt := Int.mul_le_mul_of_nonneg_right (by omega) (by omega)
  rw [Int.add_mul, Int.one_mul] at e2
  have e3 : (r * w).toInt = r.toInt * w.toInt := pi_mul (by omega) (by omega)
  have e4 : (r * w + k).toInt = r.toInt * w.toInt + k.toInt := by rw [pi_add (by omega) (by omega), e3]
  refine ⟨?_, pi_in (by rw [pi_le, pi_0]; omega) (by omega)⟩
  have e5 : (w.toInt.toNat * r.toInt.toNat : Nat) = (r.toInt * w.toInt).toNat := by
    rw [Nat.mul_comm]; exact (Int.toNat_mul h0 (by omega)).symm
  rw [pi_tn, pi_tn, pi_tn, pi_tn, e4, e5]; omega
/-- rows -/
def pm_w {α : Type} (r : Nat → α) (k : Nat) (v : α) : Nat → α := fun j => if j = k then v else r j
theorem pm_u_row {α : Type} (f : Nat → Nat → α) (a k : Nat) (v : α) (b : Nat) : pm_u f a k v b = if b = a then pm_w (f a) k v else f b := by
  funext j
  unfold pm_u pm_w
  by_cases h : b = a
  · subst h; by_cases h2 : j = k <;> simp [h2]
  · simp [h]
theorem pm_w_at {α : Type} (r : Nat → α) (k : Nat) (v : α) (j : Nat) : pm_w r k v j = if j = k then v else r j := rfl
/-- a stretch of a row is 0 -/
def pm_zr (f : Nat → Nat → Int32) (c p q : Nat) : Nat → Nat → Int32 := fun a j => if a = c ∧ p ≤ j ∧ j < q then 0 else f a j
def pm_zw (r : Nat → Int32) (p q : Nat) : Nat → Int32 := fun j => if p ≤ j ∧ j < q then 0 else r j
theorem pm_zr_row (f : Nat → Nat → Int32) (c p q b : Nat) : pm_zr f c p q b = if b = c then pm_zw (f c) p q else f b := by
  funext j
  unfold pm_zr pm_zw
  by_cases h : b = c
  · subst h; simp
  · simp [h]
/-- a condition as an answer -/
def pm_b (p : Prop) [Decidable p] : Int32 := if p then 1 else 0
theorem pm_b_eq0 {p : Prop} [Decidable p] : (pm_b p = 0) = ¬ p := by unfold pm_b; by_cases h : p <;> simp [h]
theorem pm_b_eq1 {p : Prop} [Decidable p] : (pm_b p = 1) = p := by unfold pm_b; by_cases h : p <;> simp [h]
theorem pm_b_fit {p : Prop} [Decidable p] : (pm_b p == 0 || pm_b p == 1) = true := by unfold pm_b; by_cases h : p <;> simp [h]
theorem pm_b_bi {b : Bool} {p : Prop} [Decidable p] (h : b = decide p) : pm_bi b = pm_b p := by subst h; unfold pm_bi pm_b; by_cases h : p <;> simp [h]
theorem pm_b_t {p : Prop} [Decidable p] (h : p) : pm_b p = 1 := if_pos h
theorem pm_b_f {p : Prop} [Decidable p] (h : ¬ p) : pm_b p = 0 := if_neg h
theorem pm_b_cg {p q : Prop} [Decidable p] [Decidable q] (h : p ↔ q) : pm_b p = pm_b q := by unfold pm_b; by_cases h2 : p <;> simp [h2, h.symm, ← h]
theorem pm_k0 : ((0 : Int32) == 0 || (0 : Int32) == 1) = true := rfl
theorem pm_k1 : ((1 : Int32) == 0 || (1 : Int32) == 1) = true := rfl
/-- a table's numbers: width, limit, and how many rows there are -/
def pm_ti (r : Nat → Int32) (w lim : Int32) : Prop := r 1 = w ∧ r 2 = lim ∧ 0 ≤ r 3 ∧ r 3 ≤ lim
theorem pm_ti_w {r : Nat → Int32} {w lim v : Int32} (h : pm_ti r w lim) (h0 : 0 ≤ v) (h1 : v ≤ lim) : pm_ti (pm_w r 3 v) w lim := ⟨h.1, h.2.1, h0, h1⟩
theorem pt_has_12 {d L : Nat} {b : Bool} {I : Nat → Nat → Int32} {J : Nat → Nat → Int64} {r : Int32} {Q : Int32 → Int64 → pm_H → Prop} : pm_wc pm_code pm_meta d 81 [.ref 12, .int r] (pm_Gb L b, I, J) Q ↔ Q (pm_b (0 ≤ r ∧ r < I 12 3)) 0 (pm_Gb L b, I, J) := by
  rw [← pm_b_bi (b := decide (0 ≤ r) && decide (r < I 12 3)) (by simp)]
  exact pm_wc_iff (fun _ h => pm_ts_has (c := 13) (n := 32) (w := I 12 1) ⟨rfl, by decide, rfl, rfl, by decide, rfl⟩ h) Q
theorem pt_has_14 {d L : Nat} {b : Bool} {I : Nat → Nat → Int32} {J : Nat → Nat → Int64} {r : Int32} {Q : Int32 → Int64 → pm_H → Prop} : pm_wc pm_code pm_meta d 81 [.ref 14, .int r] (pm_Gb L b, I, J) Q ↔ Q (pm_b (0 ≤ r ∧ r < I 14 3)) 0 (pm_Gb L b, I, J) := by
  rw [← pm_b_bi (b := decide (0 ≤ r) && decide (r < I 14 3)) (by simp)]
  exact pm_wc_iff (fun _ h => pm_ts_has (c := 15) (n := 80) (w := I 14 1) ⟨rfl, by decide, rfl, rfl, by decide, rfl⟩ h) Q
theorem pt_has_16 {d L : Nat} {b : Bool} {I : Nat → Nat → Int32} {J : Nat → Nat → Int64} {r : Int32} {Q : Int32 → Int64 → pm_H → Prop} : pm_wc pm_code pm_meta d 81 [.ref 16, .int r] (pm_Gb L b, I, J) Q ↔ Q (pm_b (0 ≤ r ∧ r < I 16 3)) 0 (pm_Gb L b, I, J) := by
  rw [← pm_b_bi (b := decide (0 ≤ r) && decide (r < I 16 3)) (by simp)]
  exact pm_wc_iff (fun _ h => pm_ts_has (c := 17) (n := 120) (w := I 16 1) ⟨rfl, by decide, rfl, rfl, by decide, rfl⟩ h) Q
theorem pt_has_18 {d L : Nat} {b : Bool} {I : Nat → Nat → Int32} {J : Nat → Nat → Int64} {r : Int32} {Q : Int32 → Int64 → pm_H → Prop} : pm_wc pm_code pm_meta d 81 [.ref 18, .int r] (pm_Gb L b, I, J) Q ↔ Q (pm_b (0 ≤ r ∧ r < I 18 3)) 0 (pm_Gb L b, I, J) := by
  rw [← pm_b_bi (b := decide (0 ≤ r) && decide (r < I 18 3)) (by simp)]
  exact pm_wc_iff (fun _ h => pm_ts_has (c := 19) (n := 384) (w := I 18 1) ⟨rfl, by decide, rfl, rfl, by decide, rfl⟩ h) Q
theorem pt_has_20 {d L : Nat} {b : Bool} {I : Nat → Nat → Int32} {J : Nat → Nat → Int64} {r : Int32} {Q : Int32 → Int64 → pm_H → Prop} : pm_wc pm_code pm_meta d 81 [.ref 20, .int r] (pm_Gb L b, I, J) Q ↔ Q (pm_b (0 ≤ r ∧ r < I 20 3)) 0 (pm_Gb L b, I, J) := by
  rw [← pm_b_bi (b := decide (0 ≤ r) && decide (r < I 20 3)) (by simp)]
  exact pm_wc_iff (fun _ h => pm_ts_has (c := 21) (n := 60) (w := I 20 1) ⟨rfl, by decide, rfl, rfl, by decide, rfl⟩ h) Q
theorem pt_has_49 {d L : Nat} {b : Bool} {I : Nat → Nat → Int32} {J : Nat → Nat → Int64} {r : Int32} {Q : Int32 → Int64 → pm_H → Prop} : pm_wc pm_code pm_meta d 81 [.ref 49, .int r] (pm_Gb L b, I, J) Q ↔ Q (pm_b (0 ≤ r ∧ r < I 49 3)) 0 (pm_Gb L b, I, J) := by
  rw [← pm_b_bi (b := decide (0 ≤ r) && decide (r < I 49 3)) (by simp)]
  exact pm_wc_iff (fun _ h => pm_ts_has (c := 50) (n := 14) (w := I 49 1) ⟨rfl, by decide, rfl, rfl, by decide, rfl⟩ h) Q
theorem pt_has_71 {d L : Nat} {b : Bool} {I : Nat → Nat → Int32} {J : Nat → Nat → Int64} {r : Int32} {Q : Int32 → Int64 → pm_H → Prop} : pm_wc pm_code pm_meta d 81 [.ref 71, .int r] (pm_Gb L b, I, J) Q ↔ Q (pm_b (0 ≤ r ∧ r < I 71 3)) 0 (pm_Gb L b, I, J) := by
  rw [← pm_b_bi (b := decide (0 ≤ r) && decide (r < I 71 3)) (by simp)]
  exact pm_wc_iff (fun _ h => pm_ts_has (c := 72) (n := 8) (w := I 71 1) ⟨rfl, by decide, rfl, rfl, by decide, rfl⟩ h) Q
theorem pt_has_75 {d L : Nat} {b : Bool} {I : Nat → Nat → Int32} {J : Nat → Nat → Int64} {r : Int32} {Q : Int32 → Int64 → pm_H → Prop} : pm_wc pm_code pm_meta d 81 [.ref 75, .int r] (pm_Gb L b, I, J) Q ↔ Q (pm_b (0 ≤ r ∧ r < I 75 3)) 0 (pm_Gb L b, I, J) := by
  rw [← pm_b_bi (b := decide (0 ≤ r) && decide (r < I 75 3)) (by simp)]
  exact pm_wc_iff (fun _ h => pm_ts_has (c := 76) (n := 12) (w := I 75 1) ⟨rfl, by decide, rfl, rfl, by decide, rfl⟩ h) Q
theorem pt_has_77 {d L : Nat} {b : Bool} {I : Nat → Nat → Int32} {J : Nat → Nat → Int64} {r : Int32} {Q : Int32 → Int64 → pm_H → Prop} : pm_wc pm_code pm_meta d 81 [.ref 77, .int r] (pm_Gb L b, I, J) Q ↔ Q (pm_b (0 ≤ r ∧ r < I 77 3)) 0 (pm_Gb L b, I, J) := by
  rw [← pm_b_bi (b := decide (0 ≤ r) && decide (r < I 77 3)) (by simp)]
  exact pm_wc_iff (fun _ h => pm_ts_has (c := 78) (n := 30) (w := I 77 1) ⟨rfl, by decide, rfl, rfl, by decide, rfl⟩ h) Q
theorem pt_full_12 {d L : Nat} {b : Bool} {I : Nat → Nat → Int32} {J : Nat → Nat → Int64} {Q : Int32 → Int64 → pm_H → Prop} (ht : pm_ti (I 12) 2 16) : pm_wc pm_code pm_meta d 82 [.ref 12] (pm_Gb L b, I, J) Q ↔ Q (pm_b (16 ≤ I 12 3)) 0 (pm_Gb L b, I, J) := by
  rw [← pm_b_bi (b := decide (I 12 2 ≤ I 12 3)) (by rw [ht.2.1])]
  exact pm_wc_iff (fun _ h => pm_ts_full (c := 13) (n := 32) (w := I 12 1) ⟨rfl, by decide, rfl, rfl, by decide, rfl⟩ h) Q
theorem pt_full_14 {d L : Nat} {b : Bool} {I : Nat → Nat → Int32} {J : Nat → Nat → Int64} {Q : Int32 → Int64 → pm_H → Prop} (ht : pm_ti (I 14) 10 8) : pm_wc pm_code pm_meta d 82 [.ref 14] (pm_Gb L b, I, J) Q ↔ Q (pm_b (8 ≤ I 14 3)) 0 (pm_Gb L b, I, J) := by
  rw [← pm_b_bi (b := decide (I 14 2 ≤ I 14 3)) (by rw [ht.2.1])]
  exact pm_wc_iff (fun _ h => pm_ts_full (c := 15) (n := 80) (w := I 14 1) ⟨rfl, by decide, rfl, rfl, by decide, rfl⟩ h) Q
theorem pt_full_16 {d L : Nat} {b : Bool} {I : Nat → Nat → Int32} {J : Nat → Nat → Int64} {Q : Int32 → Int64 → pm_H → Prop} (ht : pm_ti (I 16) 5 24) : pm_wc pm_code pm_meta d 82 [.ref 16] (pm_Gb L b, I, J) Q ↔ Q (pm_b (24 ≤ I 16 3)) 0 (pm_Gb L b, I, J) := by
  rw [← pm_b_bi (b := decide (I 16 2 ≤ I 16 3)) (by rw [ht.2.1])]
  exact pm_wc_iff (fun _ h => pm_ts_full (c := 17) (n := 120) (w := I 16 1) ⟨rfl, by decide, rfl, rfl, by decide, rfl⟩ h) Q
theorem pt_full_18 {d L : Nat} {b : Bool} {I : Nat → Nat → Int32} {J : Nat → Nat → Int64} {Q : Int32 → Int64 → pm_H → Prop} (ht : pm_ti (I 18) 16 24) : pm_wc pm_code pm_meta d 82 [.ref 18] (pm_Gb L b, I, J) Q ↔ Q (pm_b (24 ≤ I 18 3)) 0 (pm_Gb L b, I, J) := by
  rw [← pm_b_bi (b := decide (I 18 2 ≤ I 18 3)) (by rw [ht.2.1])]
  exact pm_wc_iff (fun _ h => pm_ts_full (c := 19) (n := 384) (w := I 18 1) ⟨rfl, by decide, rfl, rfl, by decide, rfl⟩ h) Q
theorem pt_full_20 {d L : Nat} {b : Bool} {I : Nat → Nat → Int32} {J : Nat → Nat → Int64} {Q : Int32 → Int64 → pm_H → Prop} (ht : pm_ti (I 20) 5 12) : pm_wc pm_code pm_meta d 82 [.ref 20] (pm_Gb L b, I, J) Q ↔ Q (pm_b (12 ≤ I 20 3)) 0 (pm_Gb L b, I, J) := by
  rw [← pm_b_bi (b := decide (I 20 2 ≤ I 20 3)) (by rw [ht.2.1])]
  exact pm_wc_iff (fun _ h => pm_ts_full (c := 21) (n := 60) (w := I 20 1) ⟨rfl, by decide, rfl, rfl, by decide, rfl⟩ h) Q
theorem pt_full_28 {d L : Nat} {b : Bool} {I : Nat → Nat → Int32} {J : Nat → Nat → Int64} {Q : Int32 → Int64 → pm_H → Prop} (ht : pm_ti (I 28) 3 24) : pm_wc pm_code pm_meta d 82 [.ref 28] (pm_Gb L b, I, J) Q ↔ Q (pm_b (24 ≤ I 28 3)) 0 (pm_Gb L b, I, J) := by
  rw [← pm_b_bi (b := decide (I 28 2 ≤ I 28 3)) (by rw [ht.2.1])]
  exact pm_wc_iff (fun _ h => pm_ts_full (c := 29) (n := 72) (w := I 28 1) ⟨rfl, by decide, rfl, rfl, by decide, rfl⟩ h) Q
theorem pt_full_30 {d L : Nat} {b : Bool} {I : Nat → Nat → Int32} {J : Nat → Nat → Int64} {Q : Int32 → Int64 → pm_H → Prop} (ht : pm_ti (I 30) 1 7) : pm_wc pm_code pm_meta d 82 [.ref 30] (pm_Gb L b, I, J) Q ↔ Q (pm_b (7 ≤ I 30 3)) 0 (pm_Gb L b, I, J) := by
  rw [← pm_b_bi (b := decide (I 30 2 ≤ I 30 3)) (by rw [ht.2.1])]
  exact pm_wc_iff (fun _ h => pm_ts_full (c := 31) (n := 7) (w := I 30 1) ⟨rfl, by decide, rfl, rfl, by decide, rfl⟩ h) Q
theorem pt_full_32 {d L : Nat} {b : Bool} {I : Nat → Nat → Int32} {J : Nat → Nat → Int64} {Q : Int32 → Int64 → pm_H → Prop} (ht : pm_ti (I 32) 1 3) : pm_wc pm_code pm_meta d 82 [.ref 32] (pm_Gb L b, I, J) Q ↔ Q (pm_b (3 ≤ I 32 3)) 0 (pm_Gb L b, I, J) := by
  rw [← pm_b_bi (b := decide (I 32 2 ≤ I 32 3)) (by rw [ht.2.1])]
  exact pm_wc_iff (fun _ h => pm_ts_full (c := 33) (n := 3) (w := I 32 1) ⟨rfl, by decide, rfl, rfl, by decide, rfl⟩ h) Q
theorem pt_full_34 {d L : Nat} {b : Bool} {I : Nat → Nat → Int32} {J : Nat → Nat → Int64} {Q : Int32 → Int64 → pm_H → Prop} (ht : pm_ti (I 34) 6 24) : pm_wc pm_code pm_meta d 82 [.ref 34] (pm_Gb L b, I, J) Q ↔ Q (pm_b (24 ≤ I 34 3)) 0 (pm_Gb L b, I, J) := by
  rw [← pm_b_bi (b := decide (I 34 2 ≤ I 34 3)) (by rw [ht.2.1])]
  exact pm_wc_iff (fun _ h => pm_ts_full (c := 35) (n := 144) (w := I 34 1) ⟨rfl, by decide, rfl, rfl, by decide, rfl⟩ h) Q
theorem pt_full_44 {d L : Nat} {b : Bool} {I : Nat → Nat → Int32} {J : Nat → Nat → Int64} {Q : Int32 → Int64 → pm_H → Prop} (ht : pm_ti (I 44) 5 10) : pm_wc pm_code pm_meta d 82 [.ref 44] (pm_Gb L b, I, J) Q ↔ Q (pm_b (10 ≤ I 44 3)) 0 (pm_Gb L b, I, J) := by
  rw [← pm_b_bi (b := decide (I 44 2 ≤ I 44 3)) (by rw [ht.2.1])]
  exact pm_wc_iff (fun _ h => pm_ts_full (c := 45) (n := 50) (w := I 44 1) ⟨rfl, by decide, rfl, rfl, by decide, rfl⟩ h) Q
theorem pt_in_10 {I : Nat → Nat → Int32} {r k : Int32} (ht : pm_ti (I 10) 10 10) (h : pm_tin r k (I 10 3) (I 10 1) = true) : (r * I 10 1 + k).toNatClampNeg = 10 * r.toNatClampNeg + k.toNatClampNeg ∧ pm_in (r * I 10 1 + k) 100 = true := by
  obtain ⟨h1, h2, h3, h4⟩ := ht
  rw [h1] at h ⊢
  simp only [pm_tin, Bool.and_eq_true, decide_eq_true_eq] at h
  obtain ⟨⟨⟨a1, a2⟩, a3⟩, a4⟩ := h
  exact pi_cell (lim := 10) (w := 10) a1 (by rw [pi_lt] at a2 ⊢; rw [pi_le] at h4; omega) a3 a4 rfl (by decide)
theorem pt_in_12 {I : Nat → Nat → Int32} {r k : Int32} (ht : pm_ti (I 12) 2 16) (h : pm_tin r k (I 12 3) (I 12 1) = true) : (r * I 12 1 + k).toNatClampNeg = 2 * r.toNatClampNeg + k.toNatClampNeg ∧ pm_in (r * I 12 1 + k) 32 = true := by
  obtain ⟨h1, h2, h3, h4⟩ := ht
  rw [h1] at h ⊢
  simp only [pm_tin, Bool.and_eq_true, decide_eq_true_eq] at h
  obtain ⟨⟨⟨a1, a2⟩, a3⟩, a4⟩ := h
  exact pi_cell (lim := 16) (w := 2) a1 (by rw [pi_lt] at a2 ⊢; rw [pi_le] at h4; omega) a3 a4 rfl (by decide)
theorem pt_in_14 {I : Nat → Nat → Int32} {r k : Int32} (ht : pm_ti (I 14) 10 8) (h : pm_tin r k (I 14 3) (I 14 1) = true) : (r * I 14 1 + k).toNatClampNeg = 10 * r.toNatClampNeg + k.toNatClampNeg ∧ pm_in (r * I 14 1 + k) 80 = true := by
  obtain ⟨h1, h2, h3, h4⟩ := ht
  rw [h1] at h ⊢
  simp only [pm_tin, Bool.and_eq_true, decide_eq_true_eq] at h
  obtain ⟨⟨⟨a1, a2⟩, a3⟩, a4⟩ := h
  exact pi_cell (lim := 8) (w := 10) a1 (by rw [pi_lt] at a2 ⊢; rw [pi_le] at h4; omega) a3 a4 rfl (by decide)
theorem pt_in_16 {I : Nat → Nat → Int32} {r k : Int32} (ht : pm_ti (I 16) 5 24) (h : pm_tin r k (I 16 3) (I 16 1) = true) : (r * I 16 1 + k).toNatClampNeg = 5 * r.toNatClampNeg + k.toNatClampNeg ∧ pm_in (r * I 16 1 + k) 120 = true := by
  obtain ⟨h1, h2, h3, h4⟩ := ht
  rw [h1] at h ⊢
  simp only [pm_tin, Bool.and_eq_true, decide_eq_true_eq] at h
  obtain ⟨⟨⟨a1, a2⟩, a3⟩, a4⟩ := h
  exact pi_cell (lim := 24) (w := 5) a1 (by rw [pi_lt] at a2 ⊢; rw [pi_le] at h4; omega) a3 a4 rfl (by decide)
theorem pt_in_18 {I : Nat → Nat → Int32} {r k : Int32} (ht : pm_ti (I 18) 16 24) (h : pm_tin r k (I 18 3) (I 18 1) = true) : (r * I 18 1 + k).toNatClampNeg = 16 * r.toNatClampNeg + k.toNatClampNeg ∧ pm_in (r * I 18 1 + k) 384 = true := by
  obtain ⟨h1, h2, h3, h4⟩ := ht
  rw [h1] at h ⊢
  simp only [pm_tin, Bool.and_eq_true, decide_eq_true_eq] at h
  obtain ⟨⟨⟨a1, a2⟩, a3⟩, a4⟩ := h
  exact pi_cell (lim := 24) (w := 16) a1 (by rw [pi_lt] at a2 ⊢; rw [pi_le] at h4; omega) a3 a4 rfl (by decide)
theorem pt_in_20 {I : Nat → Nat → Int32} {r k : Int32} (ht : pm_ti (I 20) 5 12) (h : pm_tin r k (I 20 3) (I 20 1) = true) : (r * I 20 1 + k).toNatClampNeg = 5 * r.toNatClampNeg + k.toNatClampNeg ∧ pm_in (r * I 20 1 + k) 60 = true := by
  obtain ⟨h1, h2, h3, h4⟩ := ht
  rw [h1] at h ⊢
  simp only [pm_tin, Bool.and_eq_true, decide_eq_true_eq] at h
  obtain ⟨⟨⟨a1, a2⟩, a3⟩, a4⟩ := h
  exact pi_cell (lim := 12) (w := 5) a1 (by rw [pi_lt] at a2 ⊢; rw [pi_le] at h4; omega) a3 a4 rfl (by decide)
theorem pt_in_22 {I : Nat → Nat → Int32} {r k : Int32} (ht : pm_ti (I 22) 5 120) (h : pm_tin r k (I 22 3) (I 22 1) = true) : (r * I 22 1 + k).toNatClampNeg = 5 * r.toNatClampNeg + k.toNatClampNeg ∧ pm_in (r * I 22 1 + k) 600 = true := by
  obtain ⟨h1, h2, h3, h4⟩ := ht
  rw [h1] at h ⊢
  simp only [pm_tin, Bool.and_eq_true, decide_eq_true_eq] at h
  obtain ⟨⟨⟨a1, a2⟩, a3⟩, a4⟩ := h
  exact pi_cell (lim := 120) (w := 5) a1 (by rw [pi_lt] at a2 ⊢; rw [pi_le] at h4; omega) a3 a4 rfl (by decide)
theorem pt_in_24 {I : Nat → Nat → Int32} {r k : Int32} (ht : pm_ti (I 24) 2 1200) (h : pm_tin r k (I 24 3) (I 24 1) = true) : (r * I 24 1 + k).toNatClampNeg = 2 * r.toNatClampNeg + k.toNatClampNeg ∧ pm_in (r * I 24 1 + k) 2400 = true := by
  obtain ⟨h1, h2, h3, h4⟩ := ht
  rw [h1] at h ⊢
  simp only [pm_tin, Bool.and_eq_true, decide_eq_true_eq] at h
  obtain ⟨⟨⟨a1, a2⟩, a3⟩, a4⟩ := h
  exact pi_cell (lim := 1200) (w := 2) a1 (by rw [pi_lt] at a2 ⊢; rw [pi_le] at h4; omega) a3 a4 rfl (by decide)
theorem pt_in_26 {I : Nat → Nat → Int32} {r k : Int32} (ht : pm_ti (I 26) 1 4) (h : pm_tin r k (I 26 3) (I 26 1) = true) : (r * I 26 1 + k).toNatClampNeg = 1 * r.toNatClampNeg + k.toNatClampNeg ∧ pm_in (r * I 26 1 + k) 4 = true := by
  obtain ⟨h1, h2, h3, h4⟩ := ht
  rw [h1] at h ⊢
  simp only [pm_tin, Bool.and_eq_true, decide_eq_true_eq] at h
  obtain ⟨⟨⟨a1, a2⟩, a3⟩, a4⟩ := h
  exact pi_cell (lim := 4) (w := 1) a1 (by rw [pi_lt] at a2 ⊢; rw [pi_le] at h4; omega) a3 a4 rfl (by decide)
theorem pt_in_28 {I : Nat → Nat → Int32} {r k : Int32} (ht : pm_ti (I 28) 3 24) (h : pm_tin r k (I 28 3) (I 28 1) = true) : (r * I 28 1 + k).toNatClampNeg = 3 * r.toNatClampNeg + k.toNatClampNeg ∧ pm_in (r * I 28 1 + k) 72 = true := by
  obtain ⟨h1, h2, h3, h4⟩ := ht
  rw [h1] at h ⊢
  simp only [pm_tin, Bool.and_eq_true, decide_eq_true_eq] at h
  obtain ⟨⟨⟨a1, a2⟩, a3⟩, a4⟩ := h
  exact pi_cell (lim := 24) (w := 3) a1 (by rw [pi_lt] at a2 ⊢; rw [pi_le] at h4; omega) a3 a4 rfl (by decide)
theorem pt_in_30 {I : Nat → Nat → Int32} {r k : Int32} (ht : pm_ti (I 30) 1 7) (h : pm_tin r k (I 30 3) (I 30 1) = true) : (r * I 30 1 + k).toNatClampNeg = 1 * r.toNatClampNeg + k.toNatClampNeg ∧ pm_in (r * I 30 1 + k) 7 = true := by
  obtain ⟨h1, h2, h3, h4⟩ := ht
  rw [h1] at h ⊢
  simp only [pm_tin, Bool.and_eq_true, decide_eq_true_eq] at h
  obtain ⟨⟨⟨a1, a2⟩, a3⟩, a4⟩ := h
  exact pi_cell (lim := 7) (w := 1) a1 (by rw [pi_lt] at a2 ⊢; rw [pi_le] at h4; omega) a3 a4 rfl (by decide)
theorem pt_in_32 {I : Nat → Nat → Int32} {r k : Int32} (ht : pm_ti (I 32) 1 3) (h : pm_tin r k (I 32 3) (I 32 1) = true) : (r * I 32 1 + k).toNatClampNeg = 1 * r.toNatClampNeg + k.toNatClampNeg ∧ pm_in (r * I 32 1 + k) 3 = true := by
  obtain ⟨h1, h2, h3, h4⟩ := ht
  rw [h1] at h ⊢
  simp only [pm_tin, Bool.and_eq_true, decide_eq_true_eq] at h
  obtain ⟨⟨⟨a1, a2⟩, a3⟩, a4⟩ := h
  exact pi_cell (lim := 3) (w := 1) a1 (by rw [pi_lt] at a2 ⊢; rw [pi_le] at h4; omega) a3 a4 rfl (by decide)
theorem pt_in_34 {I : Nat → Nat → Int32} {r k : Int32} (ht : pm_ti (I 34) 6 24) (h : pm_tin r k (I 34 3) (I 34 1) = true) : (r * I 34 1 + k).toNatClampNeg = 6 * r.toNatClampNeg + k.toNatClampNeg ∧ pm_in (r * I 34 1 + k) 144 = true := by
  obtain ⟨h1, h2, h3, h4⟩ := ht
  rw [h1] at h ⊢
  simp only [pm_tin, Bool.and_eq_true, decide_eq_true_eq] at h
  obtain ⟨⟨⟨a1, a2⟩, a3⟩, a4⟩ := h
  exact pi_cell (lim := 24) (w := 6) a1 (by rw [pi_lt] at a2 ⊢; rw [pi_le] at h4; omega) a3 a4 rfl (by decide)
theorem pt_in_38 {I : Nat → Nat → Int32} {r k : Int32} (ht : pm_ti (I 38) 3 24) (h : pm_tin r k (I 38 3) (I 38 1) = true) : (r * I 38 1 + k).toNatClampNeg = 3 * r.toNatClampNeg + k.toNatClampNeg ∧ pm_in (r * I 38 1 + k) 72 = true := by
  obtain ⟨h1, h2, h3, h4⟩ := ht
  rw [h1] at h ⊢
  simp only [pm_tin, Bool.and_eq_true, decide_eq_true_eq] at h
  obtain ⟨⟨⟨a1, a2⟩, a3⟩, a4⟩ := h
  exact pi_cell (lim := 24) (w := 3) a1 (by rw [pi_lt] at a2 ⊢; rw [pi_le] at h4; omega) a3 a4 rfl (by decide)
theorem pt_in_42 {I : Nat → Nat → Int32} {r k : Int32} (ht : pm_ti (I 42) 3 301) (h : pm_tin r k (I 42 3) (I 42 1) = true) : (r * I 42 1 + k).toNatClampNeg = 3 * r.toNatClampNeg + k.toNatClampNeg ∧ pm_in (r * I 42 1 + k) 903 = true := by
  obtain ⟨h1, h2, h3, h4⟩ := ht
  rw [h1] at h ⊢
  simp only [pm_tin, Bool.and_eq_true, decide_eq_true_eq] at h
  obtain ⟨⟨⟨a1, a2⟩, a3⟩, a4⟩ := h
  exact pi_cell (lim := 301) (w := 3) a1 (by rw [pi_lt] at a2 ⊢; rw [pi_le] at h4; omega) a3 a4 rfl (by decide)
theorem pt_in_44 {I : Nat → Nat → Int32} {r k : Int32} (ht : pm_ti (I 44) 5 10) (h : pm_tin r k (I 44 3) (I 44 1) = true) : (r * I 44 1 + k).toNatClampNeg = 5 * r.toNatClampNeg + k.toNatClampNeg ∧ pm_in (r * I 44 1 + k) 50 = true := by
  obtain ⟨h1, h2, h3, h4⟩ := ht
  rw [h1] at h ⊢
  simp only [pm_tin, Bool.and_eq_true, decide_eq_true_eq] at h
  obtain ⟨⟨⟨a1, a2⟩, a3⟩, a4⟩ := h
  exact pi_cell (lim := 10) (w := 5) a1 (by rw [pi_lt] at a2 ⊢; rw [pi_le] at h4; omega) a3 a4 rfl (by decide)
theorem pt_in_46 {I : Nat → Nat → Int32} {r k : Int32} (ht : pm_ti (I 46) 2 100) (h : pm_tin r k (I 46 3) (I 46 1) = true) : (r * I 46 1 + k).toNatClampNeg = 2 * r.toNatClampNeg + k.toNatClampNeg ∧ pm_in (r * I 46 1 + k) 200 = true := by
  obtain ⟨h1, h2, h3, h4⟩ := ht
  rw [h1] at h ⊢
  simp only [pm_tin, Bool.and_eq_true, decide_eq_true_eq] at h
  obtain ⟨⟨⟨a1, a2⟩, a3⟩, a4⟩ := h
  exact pi_cell (lim := 100) (w := 2) a1 (by rw [pi_lt] at a2 ⊢; rw [pi_le] at h4; omega) a3 a4 rfl (by decide)
theorem pt_in_49 {I : Nat → Nat → Int32} {r k : Int32} (ht : pm_ti (I 49) 2 7) (h : pm_tin r k (I 49 3) (I 49 1) = true) : (r * I 49 1 + k).toNatClampNeg = 2 * r.toNatClampNeg + k.toNatClampNeg ∧ pm_in (r * I 49 1 + k) 14 = true := by
  obtain ⟨h1, h2, h3, h4⟩ := ht
  rw [h1] at h ⊢
  simp only [pm_tin, Bool.and_eq_true, decide_eq_true_eq] at h
  obtain ⟨⟨⟨a1, a2⟩, a3⟩, a4⟩ := h
  exact pi_cell (lim := 7) (w := 2) a1 (by rw [pi_lt] at a2 ⊢; rw [pi_le] at h4; omega) a3 a4 rfl (by decide)
theorem pt_in_51 {I : Nat → Nat → Int32} {r k : Int32} (ht : pm_ti (I 51) 2 7) (h : pm_tin r k (I 51 3) (I 51 1) = true) : (r * I 51 1 + k).toNatClampNeg = 2 * r.toNatClampNeg + k.toNatClampNeg ∧ pm_in (r * I 51 1 + k) 14 = true := by
  obtain ⟨h1, h2, h3, h4⟩ := ht
  rw [h1] at h ⊢
  simp only [pm_tin, Bool.and_eq_true, decide_eq_true_eq] at h
  obtain ⟨⟨⟨a1, a2⟩, a3⟩, a4⟩ := h
  exact pi_cell (lim := 7) (w := 2) a1 (by rw [pi_lt] at a2 ⊢; rw [pi_le] at h4; omega) a3 a4 rfl (by decide)
theorem pt_in_53 {I : Nat → Nat → Int32} {r k : Int32} (ht : pm_ti (I 53) 1 7) (h : pm_tin r k (I 53 3) (I 53 1) = true) : (r * I 53 1 + k).toNatClampNeg = 1 * r.toNatClampNeg + k.toNatClampNeg ∧ pm_in (r * I 53 1 + k) 7 = true := by
  obtain ⟨h1, h2, h3, h4⟩ := ht
  rw [h1] at h ⊢
  simp only [pm_tin, Bool.and_eq_true, decide_eq_true_eq] at h
  obtain ⟨⟨⟨a1, a2⟩, a3⟩, a4⟩ := h
  exact pi_cell (lim := 7) (w := 1) a1 (by rw [pi_lt] at a2 ⊢; rw [pi_le] at h4; omega) a3 a4 rfl (by decide)
theorem pt_in_55 {I : Nat → Nat → Int32} {r k : Int32} (ht : pm_ti (I 55) 1 7) (h : pm_tin r k (I 55 3) (I 55 1) = true) : (r * I 55 1 + k).toNatClampNeg = 1 * r.toNatClampNeg + k.toNatClampNeg ∧ pm_in (r * I 55 1 + k) 7 = true := by
  obtain ⟨h1, h2, h3, h4⟩ := ht
  rw [h1] at h ⊢
  simp only [pm_tin, Bool.and_eq_true, decide_eq_true_eq] at h
  obtain ⟨⟨⟨a1, a2⟩, a3⟩, a4⟩ := h
  exact pi_cell (lim := 7) (w := 1) a1 (by rw [pi_lt] at a2 ⊢; rw [pi_le] at h4; omega) a3 a4 rfl (by decide)
theorem pt_in_58 {I : Nat → Nat → Int32} {r k : Int32} (ht : pm_ti (I 58) 1 3) (h : pm_tin r k (I 58 3) (I 58 1) = true) : (r * I 58 1 + k).toNatClampNeg = 1 * r.toNatClampNeg + k.toNatClampNeg ∧ pm_in (r * I 58 1 + k) 3 = true := by
  obtain ⟨h1, h2, h3, h4⟩ := ht
  rw [h1] at h ⊢
  simp only [pm_tin, Bool.and_eq_true, decide_eq_true_eq] at h
  obtain ⟨⟨⟨a1, a2⟩, a3⟩, a4⟩ := h
  exact pi_cell (lim := 3) (w := 1) a1 (by rw [pi_lt] at a2 ⊢; rw [pi_le] at h4; omega) a3 a4 rfl (by decide)
theorem pt_in_60 {I : Nat → Nat → Int32} {r k : Int32} (ht : pm_ti (I 60) 1 7) (h : pm_tin r k (I 60 3) (I 60 1) = true) : (r * I 60 1 + k).toNatClampNeg = 1 * r.toNatClampNeg + k.toNatClampNeg ∧ pm_in (r * I 60 1 + k) 7 = true := by
  obtain ⟨h1, h2, h3, h4⟩ := ht
  rw [h1] at h ⊢
  simp only [pm_tin, Bool.and_eq_true, decide_eq_true_eq] at h
  obtain ⟨⟨⟨a1, a2⟩, a3⟩, a4⟩ := h
  exact pi_cell (lim := 7) (w := 1) a1 (by rw [pi_lt] at a2 ⊢; rw [pi_le] at h4; omega) a3 a4 rfl (by decide)
theorem pt_in_62 {I : Nat → Nat → Int32} {r k : Int32} (ht : pm_ti (I 62) 1 7) (h : pm_tin r k (I 62 3) (I 62 1) = true) : (r * I 62 1 + k).toNatClampNeg = 1 * r.toNatClampNeg + k.toNatClampNeg ∧ pm_in (r * I 62 1 + k) 7 = true := by
  obtain ⟨h1, h2, h3, h4⟩ := ht
  rw [h1] at h ⊢
  simp only [pm_tin, Bool.and_eq_true, decide_eq_true_eq] at h
  obtain ⟨⟨⟨a1, a2⟩, a3⟩, a4⟩ := h
  exact pi_cell (lim := 7) (w := 1) a1 (by rw [pi_lt] at a2 ⊢; rw [pi_le] at h4; omega) a3 a4 rfl (by decide)
theorem pt_in_65 {I : Nat → Nat → Int32} {r k : Int32} (ht : pm_ti (I 65) 1 24) (h : pm_tin r k (I 65 3) (I 65 1) = true) : (r * I 65 1 + k).toNatClampNeg = 1 * r.toNatClampNeg + k.toNatClampNeg ∧ pm_in (r * I 65 1 + k) 24 = true := by
  obtain ⟨h1, h2, h3, h4⟩ := ht
  rw [h1] at h ⊢
  simp only [pm_tin, Bool.and_eq_true, decide_eq_true_eq] at h
  obtain ⟨⟨⟨a1, a2⟩, a3⟩, a4⟩ := h
  exact pi_cell (lim := 24) (w := 1) a1 (by rw [pi_lt] at a2 ⊢; rw [pi_le] at h4; omega) a3 a4 rfl (by decide)
theorem pt_in_68 {I : Nat → Nat → Int32} {r k : Int32} (ht : pm_ti (I 68) 1 256) (h : pm_tin r k (I 68 3) (I 68 1) = true) : (r * I 68 1 + k).toNatClampNeg = 1 * r.toNatClampNeg + k.toNatClampNeg ∧ pm_in (r * I 68 1 + k) 256 = true := by
  obtain ⟨h1, h2, h3, h4⟩ := ht
  rw [h1] at h ⊢
  simp only [pm_tin, Bool.and_eq_true, decide_eq_true_eq] at h
  obtain ⟨⟨⟨a1, a2⟩, a3⟩, a4⟩ := h
  exact pi_cell (lim := 256) (w := 1) a1 (by rw [pi_lt] at a2 ⊢; rw [pi_le] at h4; omega) a3 a4 rfl (by decide)
theorem pt_in_71 {I : Nat → Nat → Int32} {r k : Int32} (ht : pm_ti (I 71) 2 4) (h : pm_tin r k (I 71 3) (I 71 1) = true) : (r * I 71 1 + k).toNatClampNeg = 2 * r.toNatClampNeg + k.toNatClampNeg ∧ pm_in (r * I 71 1 + k) 8 = true := by
  obtain ⟨h1, h2, h3, h4⟩ := ht
  rw [h1] at h ⊢
  simp only [pm_tin, Bool.and_eq_true, decide_eq_true_eq] at h
  obtain ⟨⟨⟨a1, a2⟩, a3⟩, a4⟩ := h
  exact pi_cell (lim := 4) (w := 2) a1 (by rw [pi_lt] at a2 ⊢; rw [pi_le] at h4; omega) a3 a4 rfl (by decide)
theorem pt_in_73 {I : Nat → Nat → Int32} {r k : Int32} (ht : pm_ti (I 73) 40 4) (h : pm_tin r k (I 73 3) (I 73 1) = true) : (r * I 73 1 + k).toNatClampNeg = 40 * r.toNatClampNeg + k.toNatClampNeg ∧ pm_in (r * I 73 1 + k) 160 = true := by
  obtain ⟨h1, h2, h3, h4⟩ := ht
  rw [h1] at h ⊢
  simp only [pm_tin, Bool.and_eq_true, decide_eq_true_eq] at h
  obtain ⟨⟨⟨a1, a2⟩, a3⟩, a4⟩ := h
  exact pi_cell (lim := 4) (w := 40) a1 (by rw [pi_lt] at a2 ⊢; rw [pi_le] at h4; omega) a3 a4 rfl (by decide)
theorem pt_in_75 {I : Nat → Nat → Int32} {r k : Int32} (ht : pm_ti (I 75) 3 4) (h : pm_tin r k (I 75 3) (I 75 1) = true) : (r * I 75 1 + k).toNatClampNeg = 3 * r.toNatClampNeg + k.toNatClampNeg ∧ pm_in (r * I 75 1 + k) 12 = true := by
  obtain ⟨h1, h2, h3, h4⟩ := ht
  rw [h1] at h ⊢
  simp only [pm_tin, Bool.and_eq_true, decide_eq_true_eq] at h
  obtain ⟨⟨⟨a1, a2⟩, a3⟩, a4⟩ := h
  exact pi_cell (lim := 4) (w := 3) a1 (by rw [pi_lt] at a2 ⊢; rw [pi_le] at h4; omega) a3 a4 rfl (by decide)
theorem pt_in_77 {I : Nat → Nat → Int32} {r k : Int32} (ht : pm_ti (I 77) 1 30) (h : pm_tin r k (I 77 3) (I 77 1) = true) : (r * I 77 1 + k).toNatClampNeg = 1 * r.toNatClampNeg + k.toNatClampNeg ∧ pm_in (r * I 77 1 + k) 30 = true := by
  obtain ⟨h1, h2, h3, h4⟩ := ht
  rw [h1] at h ⊢
  simp only [pm_tin, Bool.and_eq_true, decide_eq_true_eq] at h
  obtain ⟨⟨⟨a1, a2⟩, a3⟩, a4⟩ := h
  exact pi_cell (lim := 30) (w := 1) a1 (by rw [pi_lt] at a2 ⊢; rw [pi_le] at h4; omega) a3 a4 rfl (by decide)
theorem pt_get_10 {d L : Nat} {b : Bool} {I : Nat → Nat → Int32} {J : Nat → Nat → Int64} {r k : Int32} {Q : Int32 → Int64 → pm_H → Prop} (ht : pm_ti (I 10) 10 10) : pm_wc pm_code pm_meta d 83 [.ref 10, .int r, .int k] (pm_Gb L b, I, J) Q ↔ Q (if (0 ≤ r ∧ r < I 10 3) ∧ 0 ≤ k ∧ k < 10 then I 11 (10 * r.toNatClampNeg + k.toNatClampNeg) else 0) 0 (pm_Gb L b, I, J) := by
  have e : (if pm_tin r k (I 10 3) (I 10 1) then I 11 (r * I 10 1 + k).toNatClampNeg else 0) = (if (0 ≤ r ∧ r < I 10 3) ∧ 0 ≤ k ∧ k < 10 then I 11 (10 * r.toNatClampNeg + k.toNatClampNeg) else 0) := by
    by_cases h : pm_tin r k (I 10 3) (I 10 1) = true
    · rw [if_pos h, (pt_in_10 ht h).1]
      simp only [pm_tin, Bool.and_eq_true, decide_eq_true_eq, ht.1, and_assoc] at h
      rw [if_pos (by simpa only [and_assoc] using h)]
    · rw [if_neg h]
      simp only [pm_tin, Bool.and_eq_true, decide_eq_true_eq, ht.1, and_assoc] at h
      rw [if_neg (by simpa only [and_assoc] using h)]
  rw [← e]
  have htb : pm_tb (pm_Gb L b, I, J) 10 11 100 (I 10 1) := ⟨rfl, by decide, rfl, rfl, by decide, rfl⟩
  have hin : pm_tin r k (I 10 3) (I 10 1) = true → pm_in (r * I 10 1 + k) 100 = true := fun h => (pt_in_10 ht h).2
  refine pm_wc_iff (fun Q' h => ?_) Q
  refine pm_ts_get htb hin ?_
  exact h
theorem pt_get_10_0 {d L : Nat} {b : Bool} {I : Nat → Nat → Int32} {J : Nat → Nat → Int64} {r : Int32} {Q : Int32 → Int64 → pm_H → Prop} (ht : pm_ti (I 10) 10 10) : pm_wc pm_code pm_meta d 83 [.ref 10, .int r, .int 0] (pm_Gb L b, I, J) Q ↔ Q (if 0 ≤ r ∧ r < I 10 3 then I 11 (10 * r.toNatClampNeg + 0) else 0) 0 (pm_Gb L b, I, J) := by
  rw [pt_get_10 ht]
  simp only [show ((0 : Int32) ≤ 0 ∧ (0 : Int32) < 10) = True from eq_true (by decide), and_true]
  exact Iff.rfl
theorem pt_get_10_1 {d L : Nat} {b : Bool} {I : Nat → Nat → Int32} {J : Nat → Nat → Int64} {r : Int32} {Q : Int32 → Int64 → pm_H → Prop} (ht : pm_ti (I 10) 10 10) : pm_wc pm_code pm_meta d 83 [.ref 10, .int r, .int 1] (pm_Gb L b, I, J) Q ↔ Q (if 0 ≤ r ∧ r < I 10 3 then I 11 (10 * r.toNatClampNeg + 1) else 0) 0 (pm_Gb L b, I, J) := by
  rw [pt_get_10 ht]
  simp only [show ((0 : Int32) ≤ 1 ∧ (1 : Int32) < 10) = True from eq_true (by decide), and_true]
  exact Iff.rfl
theorem pt_get_10_2 {d L : Nat} {b : Bool} {I : Nat → Nat → Int32} {J : Nat → Nat → Int64} {r : Int32} {Q : Int32 → Int64 → pm_H → Prop} (ht : pm_ti (I 10) 10 10) : pm_wc pm_code pm_meta d 83 [.ref 10, .int r, .int 2] (pm_Gb L b, I, J) Q ↔ Q (if 0 ≤ r ∧ r < I 10 3 then I 11 (10 * r.toNatClampNeg + 2) else 0) 0 (pm_Gb L b, I, J) := by
  rw [pt_get_10 ht]
  simp only [show ((0 : Int32) ≤ 2 ∧ (2 : Int32) < 10) = True from eq_true (by decide), and_true]
  exact Iff.rfl
theorem pt_get_10_3 {d L : Nat} {b : Bool} {I : Nat → Nat → Int32} {J : Nat → Nat → Int64} {r : Int32} {Q : Int32 → Int64 → pm_H → Prop} (ht : pm_ti (I 10) 10 10) : pm_wc pm_code pm_meta d 83 [.ref 10, .int r, .int 3] (pm_Gb L b, I, J) Q ↔ Q (if 0 ≤ r ∧ r < I 10 3 then I 11 (10 * r.toNatClampNeg + 3) else 0) 0 (pm_Gb L b, I, J) := by
  rw [pt_get_10 ht]
  simp only [show ((0 : Int32) ≤ 3 ∧ (3 : Int32) < 10) = True from eq_true (by decide), and_true]
  exact Iff.rfl
theorem pt_get_10_4 {d L : Nat} {b : Bool} {I : Nat → Nat → Int32} {J : Nat → Nat → Int64} {r : Int32} {Q : Int32 → Int64 → pm_H → Prop} (ht : pm_ti (I 10) 10 10) : pm_wc pm_code pm_meta d 83 [.ref 10, .int r, .int 4] (pm_Gb L b, I, J) Q ↔ Q (if 0 ≤ r ∧ r < I 10 3 then I 11 (10 * r.toNatClampNeg + 4) else 0) 0 (pm_Gb L b, I, J) := by
  rw [pt_get_10 ht]
  simp only [show ((0 : Int32) ≤ 4 ∧ (4 : Int32) < 10) = True from eq_true (by decide), and_true]
  exact Iff.rfl
theorem pt_get_10_5 {d L : Nat} {b : Bool} {I : Nat → Nat → Int32} {J : Nat → Nat → Int64} {r : Int32} {Q : Int32 → Int64 → pm_H → Prop} (ht : pm_ti (I 10) 10 10) : pm_wc pm_code pm_meta d 83 [.ref 10, .int r, .int 5] (pm_Gb L b, I, J) Q ↔ Q (if 0 ≤ r ∧ r < I 10 3 then I 11 (10 * r.toNatClampNeg + 5) else 0) 0 (pm_Gb L b, I, J) := by
  rw [pt_get_10 ht]
  simp only [show ((0 : Int32) ≤ 5 ∧ (5 : Int32) < 10) = True from eq_true (by decide), and_true]
  exact Iff.rfl
theorem pt_get_10_6 {d L : Nat} {b : Bool} {I : Nat → Nat → Int32} {J : Nat → Nat → Int64} {r : Int32} {Q : Int32 → Int64 → pm_H → Prop} (ht : pm_ti (I 10) 10 10) : pm_wc pm_code pm_meta d 83 [.ref 10, .int r, .int 6] (pm_Gb L b, I, J) Q ↔ Q (if 0 ≤ r ∧ r < I 10 3 then I 11 (10 * r.toNatClampNeg + 6) else 0) 0 (pm_Gb L b, I, J) := by
  rw [pt_get_10 ht]
  simp only [show ((0 : Int32) ≤ 6 ∧ (6 : Int32) < 10) = True from eq_true (by decide), and_true]
  exact Iff.rfl
theorem pt_get_10_7 {d L : Nat} {b : Bool} {I : Nat → Nat → Int32} {J : Nat → Nat → Int64} {r : Int32} {Q : Int32 → Int64 → pm_H → Prop} (ht : pm_ti (I 10) 10 10) : pm_wc pm_code pm_meta d 83 [.ref 10, .int r, .int 7] (pm_Gb L b, I, J) Q ↔ Q (if 0 ≤ r ∧ r < I 10 3 then I 11 (10 * r.toNatClampNeg + 7) else 0) 0 (pm_Gb L b, I, J) := by
  rw [pt_get_10 ht]
  simp only [show ((0 : Int32) ≤ 7 ∧ (7 : Int32) < 10) = True from eq_true (by decide), and_true]
  exact Iff.rfl
theorem pt_get_10_8 {d L : Nat} {b : Bool} {I : Nat → Nat → Int32} {J : Nat → Nat → Int64} {r : Int32} {Q : Int32 → Int64 → pm_H → Prop} (ht : pm_ti (I 10) 10 10) : pm_wc pm_code pm_meta d 83 [.ref 10, .int r, .int 8] (pm_Gb L b, I, J) Q ↔ Q (if 0 ≤ r ∧ r < I 10 3 then I 11 (10 * r.toNatClampNeg + 8) else 0) 0 (pm_Gb L b, I, J) := by
  rw [pt_get_10 ht]
  simp only [show ((0 : Int32) ≤ 8 ∧ (8 : Int32) < 10) = True from eq_true (by decide), and_true]
  exact Iff.rfl
theorem pt_get_10_9 {d L : Nat} {b : Bool} {I : Nat → Nat → Int32} {J : Nat → Nat → Int64} {r : Int32} {Q : Int32 → Int64 → pm_H → Prop} (ht : pm_ti (I 10) 10 10) : pm_wc pm_code pm_meta d 83 [.ref 10, .int r, .int 9] (pm_Gb L b, I, J) Q ↔ Q (if 0 ≤ r ∧ r < I 10 3 then I 11 (10 * r.toNatClampNeg + 9) else 0) 0 (pm_Gb L b, I, J) := by
  rw [pt_get_10 ht]
  simp only [show ((0 : Int32) ≤ 9 ∧ (9 : Int32) < 10) = True from eq_true (by decide), and_true]
  exact Iff.rfl
theorem pt_get_12 {d L : Nat} {b : Bool} {I : Nat → Nat → Int32} {J : Nat → Nat → Int64} {r k : Int32} {Q : Int32 → Int64 → pm_H → Prop} (ht : pm_ti (I 12) 2 16) : pm_wc pm_code pm_meta d 83 [.ref 12, .int r, .int k] (pm_Gb L b, I, J) Q ↔ Q (if (0 ≤ r ∧ r < I 12 3) ∧ 0 ≤ k ∧ k < 2 then I 13 (2 * r.toNatClampNeg + k.toNatClampNeg) else 0) 0 (pm_Gb L b, I, J) := by
  have e : (if pm_tin r k (I 12 3) (I 12 1) then I 13 (r * I 12 1 + k).toNatClampNeg else 0) = (if (0 ≤ r ∧ r < I 12 3) ∧ 0 ≤ k ∧ k < 2 then I 13 (2 * r.toNatClampNeg + k.toNatClampNeg) else 0) := by
    by_cases h : pm_tin r k (I 12 3) (I 12 1) = true
    · rw [if_pos h, (pt_in_12 ht h).1]
      simp only [pm_tin, Bool.and_eq_true, decide_eq_true_eq, ht.1, and_assoc] at h
      rw [if_pos (by simpa only [and_assoc] using h)]
    · rw [if_neg h]
      simp only [pm_tin, Bool.and_eq_true, decide_eq_true_eq, ht.1, and_assoc] at h
      rw [if_neg (by simpa only [and_assoc] using h)]
  rw [← e]
  have htb : pm_tb (pm_Gb L b, I, J) 12 13 32 (I 12 1) := ⟨rfl, by decide, rfl, rfl, by decide, rfl⟩
  have hin : pm_tin r k (I 12 3) (I 12 1) = true → pm_in (r * I 12 1 + k) 32 = true := fun h => (pt_in_12 ht h).2
  refine pm_wc_iff (fun Q' h => ?_) Q
  refine pm_ts_get htb hin ?_
  exact h
theorem pt_get_12_0 {d L : Nat} {b : Bool} {I : Nat → Nat → Int32} {J : Nat → Nat → Int64} {r : Int32} {Q : Int32 → Int64 → pm_H → Prop} (ht : pm_ti (I 12) 2 16) : pm_wc pm_code pm_meta d 83 [.ref 12, .int r, .int 0] (pm_Gb L b, I, J) Q ↔ Q (if 0 ≤ r ∧ r < I 12 3 then I 13 (2 * r.toNatClampNeg + 0) else 0) 0 (pm_Gb L b, I, J) := by
  rw [pt_get_12 ht]
  simp only [show ((0 : Int32) ≤ 0 ∧ (0 : Int32) < 2) = True from eq_true (by decide), and_true]
  exact Iff.rfl
theorem pt_get_12_1 {d L : Nat} {b : Bool} {I : Nat → Nat → Int32} {J : Nat → Nat → Int64} {r : Int32} {Q : Int32 → Int64 → pm_H → Prop} (ht : pm_ti (I 12) 2 16) : pm_wc pm_code pm_meta d 83 [.ref 12, .int r, .int 1] (pm_Gb L b, I, J) Q ↔ Q (if 0 ≤ r ∧ r < I 12 3 then I 13 (2 * r.toNatClampNeg + 1) else 0) 0 (pm_Gb L b, I, J) := by
  rw [pt_get_12 ht]
  simp only [show ((0 : Int32) ≤ 1 ∧ (1 : Int32) < 2) = True from eq_true (by decide), and_true]
  exact Iff.rfl
theorem pt_get_14 {d L : Nat} {b : Bool} {I : Nat → Nat → Int32} {J : Nat → Nat → Int64} {r k : Int32} {Q : Int32 → Int64 → pm_H → Prop} (ht : pm_ti (I 14) 10 8) : pm_wc pm_code pm_meta d 83 [.ref 14, .int r, .int k] (pm_Gb L b, I, J) Q ↔ Q (if (0 ≤ r ∧ r < I 14 3) ∧ 0 ≤ k ∧ k < 10 then I 15 (10 * r.toNatClampNeg + k.toNatClampNeg) else 0) 0 (pm_Gb L b, I, J) := by
  have e : (if pm_tin r k (I 14 3) (I 14 1) then I 15 (r * I 14 1 + k).toNatClampNeg else 0) = (if (0 ≤ r ∧ r < I 14 3) ∧ 0 ≤ k ∧ k < 10 then I 15 (10 * r.toNatClampNeg + k.toNatClampNeg) else 0) := by
    by_cases h : pm_tin r k (I 14 3) (I 14 1) = true
    · rw [if_pos h, (pt_in_14 ht h).1]
      simp only [pm_tin, Bool.and_eq_true, decide_eq_true_eq, ht.1, and_assoc] at h
      rw [if_pos (by simpa only [and_assoc] using h)]
    · rw [if_neg h]
      simp only [pm_tin, Bool.and_eq_true, decide_eq_true_eq, ht.1, and_assoc] at h
      rw [if_neg (by simpa only [and_assoc] using h)]
  rw [← e]
  have htb : pm_tb (pm_Gb L b, I, J) 14 15 80 (I 14 1) := ⟨rfl, by decide, rfl, rfl, by decide, rfl⟩
  have hin : pm_tin r k (I 14 3) (I 14 1) = true → pm_in (r * I 14 1 + k) 80 = true := fun h => (pt_in_14 ht h).2
  refine pm_wc_iff (fun Q' h => ?_) Q
  refine pm_ts_get htb hin ?_
  exact h
theorem pt_get_14_0 {d L : Nat} {b : Bool} {I : Nat → Nat → Int32} {J : Nat → Nat → Int64} {r : Int32} {Q : Int32 → Int64 → pm_H → Prop} (ht : pm_ti (I 14) 10 8) : pm_wc pm_code pm_meta d 83 [.ref 14, .int r, .int 0] (pm_Gb L b, I, J) Q ↔ Q (if 0 ≤ r ∧ r < I 14 3 then I 15 (10 * r.toNatClampNeg + 0) else 0) 0 (pm_Gb L b, I, J) := by
  rw [pt_get_14 ht]
  simp only [show ((0 : Int32) ≤ 0 ∧ (0 : Int32) < 10) = True from eq_true (by decide), and_true]
  exact Iff.rfl
theorem pt_get_14_1 {d L : Nat} {b : Bool} {I : Nat → Nat → Int32} {J : Nat → Nat → Int64} {r : Int32} {Q : Int32 → Int64 → pm_H → Prop} (ht : pm_ti (I 14) 10 8) : pm_wc pm_code pm_meta d 83 [.ref 14, .int r, .int 1] (pm_Gb L b, I, J) Q ↔ Q (if 0 ≤ r ∧ r < I 14 3 then I 15 (10 * r.toNatClampNeg + 1) else 0) 0 (pm_Gb L b, I, J) := by
  rw [pt_get_14 ht]
  simp only [show ((0 : Int32) ≤ 1 ∧ (1 : Int32) < 10) = True from eq_true (by decide), and_true]
  exact Iff.rfl
theorem pt_get_14_2 {d L : Nat} {b : Bool} {I : Nat → Nat → Int32} {J : Nat → Nat → Int64} {r : Int32} {Q : Int32 → Int64 → pm_H → Prop} (ht : pm_ti (I 14) 10 8) : pm_wc pm_code pm_meta d 83 [.ref 14, .int r, .int 2] (pm_Gb L b, I, J) Q ↔ Q (if 0 ≤ r ∧ r < I 14 3 then I 15 (10 * r.toNatClampNeg + 2) else 0) 0 (pm_Gb L b, I, J) := by
  rw [pt_get_14 ht]
  simp only [show ((0 : Int32) ≤ 2 ∧ (2 : Int32) < 10) = True from eq_true (by decide), and_true]
  exact Iff.rfl
theorem pt_get_14_3 {d L : Nat} {b : Bool} {I : Nat → Nat → Int32} {J : Nat → Nat → Int64} {r : Int32} {Q : Int32 → Int64 → pm_H → Prop} (ht : pm_ti (I 14) 10 8) : pm_wc pm_code pm_meta d 83 [.ref 14, .int r, .int 3] (pm_Gb L b, I, J) Q ↔ Q (if 0 ≤ r ∧ r < I 14 3 then I 15 (10 * r.toNatClampNeg + 3) else 0) 0 (pm_Gb L b, I, J) := by
  rw [pt_get_14 ht]
  simp only [show ((0 : Int32) ≤ 3 ∧ (3 : Int32) < 10) = True from eq_true (by decide), and_true]
  exact Iff.rfl
theorem pt_get_14_4 {d L : Nat} {b : Bool} {I : Nat → Nat → Int32} {J : Nat → Nat → Int64} {r : Int32} {Q : Int32 → Int64 → pm_H → Prop} (ht : pm_ti (I 14) 10 8) : pm_wc pm_code pm_meta d 83 [.ref 14, .int r, .int 4] (pm_Gb L b, I, J) Q ↔ Q (if 0 ≤ r ∧ r < I 14 3 then I 15 (10 * r.toNatClampNeg + 4) else 0) 0 (pm_Gb L b, I, J) := by
  rw [pt_get_14 ht]
  simp only [show ((0 : Int32) ≤ 4 ∧ (4 : Int32) < 10) = True from eq_true (by decide), and_true]
  exact Iff.rfl
theorem pt_get_14_5 {d L : Nat} {b : Bool} {I : Nat → Nat → Int32} {J : Nat → Nat → Int64} {r : Int32} {Q : Int32 → Int64 → pm_H → Prop} (ht : pm_ti (I 14) 10 8) : pm_wc pm_code pm_meta d 83 [.ref 14, .int r, .int 5] (pm_Gb L b, I, J) Q ↔ Q (if 0 ≤ r ∧ r < I 14 3 then I 15 (10 * r.toNatClampNeg + 5) else 0) 0 (pm_Gb L b, I, J) := by
  rw [pt_get_14 ht]
  simp only [show ((0 : Int32) ≤ 5 ∧ (5 : Int32) < 10) = True from eq_true (by decide), and_true]
  exact Iff.rfl
theorem pt_get_14_6 {d L : Nat} {b : Bool} {I : Nat → Nat → Int32} {J : Nat → Nat → Int64} {r : Int32} {Q : Int32 → Int64 → pm_H → Prop} (ht : pm_ti (I 14) 10 8) : pm_wc pm_code pm_meta d 83 [.ref 14, .int r, .int 6] (pm_Gb L b, I, J) Q ↔ Q (if 0 ≤ r ∧ r < I 14 3 then I 15 (10 * r.toNatClampNeg + 6) else 0) 0 (pm_Gb L b, I, J) := by
  rw [pt_get_14 ht]
  simp only [show ((0 : Int32) ≤ 6 ∧ (6 : Int32) < 10) = True from eq_true (by decide), and_true]
  exact Iff.rfl
theorem pt_get_14_7 {d L : Nat} {b : Bool} {I : Nat → Nat → Int32} {J : Nat → Nat → Int64} {r : Int32} {Q : Int32 → Int64 → pm_H → Prop} (ht : pm_ti (I 14) 10 8) : pm_wc pm_code pm_meta d 83 [.ref 14, .int r, .int 7] (pm_Gb L b, I, J) Q ↔ Q (if 0 ≤ r ∧ r < I 14 3 then I 15 (10 * r.toNatClampNeg + 7) else 0) 0 (pm_Gb L b, I, J) := by
  rw [pt_get_14 ht]
  simp only [show ((0 : Int32) ≤ 7 ∧ (7 : Int32) < 10) = True from eq_true (by decide), and_true]
  exact Iff.rfl
theorem pt_get_14_8 {d L : Nat} {b : Bool} {I : Nat → Nat → Int32} {J : Nat → Nat → Int64} {r : Int32} {Q : Int32 → Int64 → pm_H → Prop} (ht : pm_ti (I 14) 10 8) : pm_wc pm_code pm_meta d 83 [.ref 14, .int r, .int 8] (pm_Gb L b, I, J) Q ↔ Q (if 0 ≤ r ∧ r < I 14 3 then I 15 (10 * r.toNatClampNeg + 8) else 0) 0 (pm_Gb L b, I, J) := by
  rw [pt_get_14 ht]
  simp only [show ((0 : Int32) ≤ 8 ∧ (8 : Int32) < 10) = True from eq_true (by decide), and_true]
  exact Iff.rfl
theorem pt_get_14_9 {d L : Nat} {b : Bool} {I : Nat → Nat → Int32} {J : Nat → Nat → Int64} {r : Int32} {Q : Int32 → Int64 → pm_H → Prop} (ht : pm_ti (I 14) 10 8) : pm_wc pm_code pm_meta d 83 [.ref 14, .int r, .int 9] (pm_Gb L b, I, J) Q ↔ Q (if 0 ≤ r ∧ r < I 14 3 then I 15 (10 * r.toNatClampNeg + 9) else 0) 0 (pm_Gb L b, I, J) := by
  rw [pt_get_14 ht]
  simp only [show ((0 : Int32) ≤ 9 ∧ (9 : Int32) < 10) = True from eq_true (by decide), and_true]
  exact Iff.rfl
theorem pt_get_16 {d L : Nat} {b : Bool} {I : Nat → Nat → Int32} {J : Nat → Nat → Int64} {r k : Int32} {Q : Int32 → Int64 → pm_H → Prop} (ht : pm_ti (I 16) 5 24) : pm_wc pm_code pm_meta d 83 [.ref 16, .int r, .int k] (pm_Gb L b, I, J) Q ↔ Q (if (0 ≤ r ∧ r < I 16 3) ∧ 0 ≤ k ∧ k < 5 then I 17 (5 * r.toNatClampNeg + k.toNatClampNeg) else 0) 0 (pm_Gb L b, I, J) := by
  have e : (if pm_tin r k (I 16 3) (I 16 1) then I 17 (r * I 16 1 + k).toNatClampNeg else 0) = (if (0 ≤ r ∧ r < I 16 3) ∧ 0 ≤ k ∧ k < 5 then I 17 (5 * r.toNatClampNeg + k.toNatClampNeg) else 0) := by
    by_cases h : pm_tin r k (I 16 3) (I 16 1) = true
    · rw [if_pos h, (pt_in_16 ht h).1]
      simp only [pm_tin, Bool.and_eq_true, decide_eq_true_eq, ht.1, and_assoc] at h
      rw [if_pos (by simpa only [and_assoc] using h)]
    · rw [if_neg h]
      simp only [pm_tin, Bool.and_eq_true, decide_eq_true_eq, ht.1, and_assoc] at h
      rw [if_neg (by simpa only [and_assoc] using h)]
  rw [← e]
  have htb : pm_tb (pm_Gb L b, I, J) 16 17 120 (I 16 1) := ⟨rfl, by decide, rfl, rfl, by decide, rfl⟩
  have hin : pm_tin r k (I 16 3) (I 16 1) = true → pm_in (r * I 16 1 + k) 120 = true := fun h => (pt_in_16 ht h).2
  refine pm_wc_iff (fun Q' h => ?_) Q
  refine pm_ts_get htb hin ?_
  exact h
theorem pt_get_16_0 {d L : Nat} {b : Bool} {I : Nat → Nat → Int32} {J : Nat → Nat → Int64} {r : Int32} {Q : Int32 → Int64 → pm_H → Prop} (ht : pm_ti (I 16) 5 24) : pm_wc pm_code pm_meta d 83 [.ref 16, .int r, .int 0] (pm_Gb L b, I, J) Q ↔ Q (if 0 ≤ r ∧ r < I 16 3 then I 17 (5 * r.toNatClampNeg + 0) else 0) 0 (pm_Gb L b, I, J) := by
  rw [pt_get_16 ht]
  simp only [show ((0 : Int32) ≤ 0 ∧ (0 : Int32) < 5) = True from eq_true (by decide), and_true]
  exact Iff.rfl
theorem pt_get_16_1 {d L : Nat} {b : Bool} {I : Nat → Nat → Int32} {J : Nat → Nat → Int64} {r : Int32} {Q : Int32 → Int64 → pm_H → Prop} (ht : pm_ti (I 16) 5 24) : pm_wc pm_code pm_meta d 83 [.ref 16, .int r, .int 1] (pm_Gb L b, I, J) Q ↔ Q (if 0 ≤ r ∧ r < I 16 3 then I 17 (5 * r.toNatClampNeg + 1) else 0) 0 (pm_Gb L b, I, J) := by
  rw [pt_get_16 ht]
  simp only [show ((0 : Int32) ≤ 1 ∧ (1 : Int32) < 5) = True from eq_true (by decide), and_true]
  exact Iff.rfl
theorem pt_get_16_2 {d L : Nat} {b : Bool} {I : Nat → Nat → Int32} {J : Nat → Nat → Int64} {r : Int32} {Q : Int32 → Int64 → pm_H → Prop} (ht : pm_ti (I 16) 5 24) : pm_wc pm_code pm_meta d 83 [.ref 16, .int r, .int 2] (pm_Gb L b, I, J) Q ↔ Q (if 0 ≤ r ∧ r < I 16 3 then I 17 (5 * r.toNatClampNeg + 2) else 0) 0 (pm_Gb L b, I, J) := by
  rw [pt_get_16 ht]
  simp only [show ((0 : Int32) ≤ 2 ∧ (2 : Int32) < 5) = True from eq_true (by decide), and_true]
  exact Iff.rfl
theorem pt_get_16_3 {d L : Nat} {b : Bool} {I : Nat → Nat → Int32} {J : Nat → Nat → Int64} {r : Int32} {Q : Int32 → Int64 → pm_H → Prop} (ht : pm_ti (I 16) 5 24) : pm_wc pm_code pm_meta d 83 [.ref 16, .int r, .int 3] (pm_Gb L b, I, J) Q ↔ Q (if 0 ≤ r ∧ r < I 16 3 then I 17 (5 * r.toNatClampNeg + 3) else 0) 0 (pm_Gb L b, I, J) := by
  rw [pt_get_16 ht]
  simp only [show ((0 : Int32) ≤ 3 ∧ (3 : Int32) < 5) = True from eq_true (by decide), and_true]
  exact Iff.rfl
theorem pt_get_16_4 {d L : Nat} {b : Bool} {I : Nat → Nat → Int32} {J : Nat → Nat → Int64} {r : Int32} {Q : Int32 → Int64 → pm_H → Prop} (ht : pm_ti (I 16) 5 24) : pm_wc pm_code pm_meta d 83 [.ref 16, .int r, .int 4] (pm_Gb L b, I, J) Q ↔ Q (if 0 ≤ r ∧ r < I 16 3 then I 17 (5 * r.toNatClampNeg + 4) else 0) 0 (pm_Gb L b, I, J) := by
  rw [pt_get_16 ht]
  simp only [show ((0 : Int32) ≤ 4 ∧ (4 : Int32) < 5) = True from eq_true (by decide), and_true]
  exact Iff.rfl
theorem pt_get_18 {d L : Nat} {b : Bool} {I : Nat → Nat → Int32} {J : Nat → Nat → Int64} {r k : Int32} {Q : Int32 → Int64 → pm_H → Prop} (ht : pm_ti (I 18) 16 24) : pm_wc pm_code pm_meta d 83 [.ref 18, .int r, .int k] (pm_Gb L b, I, J) Q ↔ Q (if (0 ≤ r ∧ r < I 18 3) ∧ 0 ≤ k ∧ k < 16 then I 19 (16 * r.toNatClampNeg + k.toNatClampNeg) else 0) 0 (pm_Gb L b, I, J) := by
  have e : (if pm_tin r k (I 18 3) (I 18 1) then I 19 (r * I 18 1 + k).toNatClampNeg else 0) = (if (0 ≤ r ∧ r < I 18 3) ∧ 0 ≤ k ∧ k < 16 then I 19 (16 * r.toNatClampNeg + k.toNatClampNeg) else 0) := by
    by_cases h : pm_tin r k (I 18 3) (I 18 1) = true
    · rw [if_pos h, (pt_in_18 ht h).1]
      simp only [pm_tin, Bool.and_eq_true, decide_eq_true_eq, ht.1, and_assoc] at h
      rw [if_pos (by simpa only [and_assoc] using h)]
    · rw [if_neg h]
      simp only [pm_tin, Bool.and_eq_true, decide_eq_true_eq, ht.1, and_assoc] at h
      rw [if_neg (by simpa only [and_assoc] using h)]
  rw [← e]
  have htb : pm_tb (pm_Gb L b, I, J) 18 19 384 (I 18 1) := ⟨rfl, by decide, rfl, rfl, by decide, rfl⟩
  have hin : pm_tin r k (I 18 3) (I 18 1) = true → pm_in (r * I 18 1 + k) 384 = true := fun h => (pt_in_18 ht h).2
  refine pm_wc_iff (fun Q' h => ?_) Q
  refine pm_ts_get htb hin ?_
  exact h
theorem pt_get_18_0 {d L : Nat} {b : Bool} {I : Nat → Nat → Int32} {J : Nat → Nat → Int64} {r : Int32} {Q : Int32 → Int64 → pm_H → Prop} (ht : pm_ti (I 18) 16 24) : pm_wc pm_code pm_meta d 83 [.ref 18, .int r, .int 0] (pm_Gb L b, I, J) Q ↔ Q (if 0 ≤ r ∧ r < I 18 3 then I 19 (16 * r.toNatClampNeg + 0) else 0) 0 (pm_Gb L b, I, J) := by
  rw [pt_get_18 ht]
  simp only [show ((0 : Int32) ≤ 0 ∧ (0 : Int32) < 16) = True from eq_true (by decide), and_true]
  exact Iff.rfl
theorem pt_get_18_1 {d L : Nat} {b : Bool} {I : Nat → Nat → Int32} {J : Nat → Nat → Int64} {r : Int32} {Q : Int32 → Int64 → pm_H → Prop} (ht : pm_ti (I 18) 16 24) : pm_wc pm_code pm_meta d 83 [.ref 18, .int r, .int 1] (pm_Gb L b, I, J) Q ↔ Q (if 0 ≤ r ∧ r < I 18 3 then I 19 (16 * r.toNatClampNeg + 1) else 0) 0 (pm_Gb L b, I, J) := by
  rw [pt_get_18 ht]
  simp only [show ((0 : Int32) ≤ 1 ∧ (1 : Int32) < 16) = True from eq_true (by decide), and_true]
  exact Iff.rfl
theorem pt_get_18_2 {d L : Nat} {b : Bool} {I : Nat → Nat → Int32} {J : Nat → Nat → Int64} {r : Int32} {Q : Int32 → Int64 → pm_H → Prop} (ht : pm_ti (I 18) 16 24) : pm_wc pm_code pm_meta d 83 [.ref 18, .int r, .int 2] (pm_Gb L b, I, J) Q ↔ Q (if 0 ≤ r ∧ r < I 18 3 then I 19 (16 * r.toNatClampNeg + 2) else 0) 0 (pm_Gb L b, I, J) := by
  rw [pt_get_18 ht]
  simp only [show ((0 : Int32) ≤ 2 ∧ (2 : Int32) < 16) = True from eq_true (by decide), and_true]
  exact Iff.rfl
theorem pt_get_18_3 {d L : Nat} {b : Bool} {I : Nat → Nat → Int32} {J : Nat → Nat → Int64} {r : Int32} {Q : Int32 → Int64 → pm_H → Prop} (ht : pm_ti (I 18) 16 24) : pm_wc pm_code pm_meta d 83 [.ref 18, .int r, .int 3] (pm_Gb L b, I, J) Q ↔ Q (if 0 ≤ r ∧ r < I 18 3 then I 19 (16 * r.toNatClampNeg + 3) else 0) 0 (pm_Gb L b, I, J) := by
  rw [pt_get_18 ht]
  simp only [show ((0 : Int32) ≤ 3 ∧ (3 : Int32) < 16) = True from eq_true (by decide), and_true]
  exact Iff.rfl
theorem pt_get_18_4 {d L : Nat} {b : Bool} {I : Nat → Nat → Int32} {J : Nat → Nat → Int64} {r : Int32} {Q : Int32 → Int64 → pm_H → Prop} (ht : pm_ti (I 18) 16 24) : pm_wc pm_code pm_meta d 83 [.ref 18, .int r, .int 4] (pm_Gb L b, I, J) Q ↔ Q (if 0 ≤ r ∧ r < I 18 3 then I 19 (16 * r.toNatClampNeg + 4) else 0) 0 (pm_Gb L b, I, J) := by
  rw [pt_get_18 ht]
  simp only [show ((0 : Int32) ≤ 4 ∧ (4 : Int32) < 16) = True from eq_true (by decide), and_true]
  exact Iff.rfl
theorem pt_get_18_5 {d L : Nat} {b : Bool} {I : Nat → Nat → Int32} {J : Nat → Nat → Int64} {r : Int32} {Q : Int32 → Int64 → pm_H → Prop} (ht : pm_ti (I 18) 16 24) : pm_wc pm_code pm_meta d 83 [.ref 18, .int r, .int 5] (pm_Gb L b, I, J) Q ↔ Q (if 0 ≤ r ∧ r < I 18 3 then I 19 (16 * r.toNatClampNeg + 5) else 0) 0 (pm_Gb L b, I, J) := by
  rw [pt_get_18 ht]
  simp only [show ((0 : Int32) ≤ 5 ∧ (5 : Int32) < 16) = True from eq_true (by decide), and_true]
  exact Iff.rfl
theorem pt_get_18_6 {d L : Nat} {b : Bool} {I : Nat → Nat → Int32} {J : Nat → Nat → Int64} {r : Int32} {Q : Int32 → Int64 → pm_H → Prop} (ht : pm_ti (I 18) 16 24) : pm_wc pm_code pm_meta d 83 [.ref 18, .int r, .int 6] (pm_Gb L b, I, J) Q ↔ Q (if 0 ≤ r ∧ r < I 18 3 then I 19 (16 * r.toNatClampNeg + 6) else 0) 0 (pm_Gb L b, I, J) := by
  rw [pt_get_18 ht]
  simp only [show ((0 : Int32) ≤ 6 ∧ (6 : Int32) < 16) = True from eq_true (by decide), and_true]
  exact Iff.rfl
theorem pt_get_18_7 {d L : Nat} {b : Bool} {I : Nat → Nat → Int32} {J : Nat → Nat → Int64} {r : Int32} {Q : Int32 → Int64 → pm_H → Prop} (ht : pm_ti (I 18) 16 24) : pm_wc pm_code pm_meta d 83 [.ref 18, .int r, .int 7] (pm_Gb L b, I, J) Q ↔ Q (if 0 ≤ r ∧ r < I 18 3 then I 19 (16 * r.toNatClampNeg + 7) else 0) 0 (pm_Gb L b, I, J) := by
  rw [pt_get_18 ht]
  simp only [show ((0 : Int32) ≤ 7 ∧ (7 : Int32) < 16) = True from eq_true (by decide), and_true]
  exact Iff.rfl
theorem pt_get_18_8 {d L : Nat} {b : Bool} {I : Nat → Nat → Int32} {J : Nat → Nat → Int64} {r : Int32} {Q : Int32 → Int64 → pm_H → Prop} (ht : pm_ti (I 18) 16 24) : pm_wc pm_code pm_meta d 83 [.ref 18, .int r, .int 8] (pm_Gb L b, I, J) Q ↔ Q (if 0 ≤ r ∧ r < I 18 3 then I 19 (16 * r.toNatClampNeg + 8) else 0) 0 (pm_Gb L b, I, J) := by
  rw [pt_get_18 ht]
  simp only [show ((0 : Int32) ≤ 8 ∧ (8 : Int32) < 16) = True from eq_true (by decide), and_true]
  exact Iff.rfl
theorem pt_get_18_9 {d L : Nat} {b : Bool} {I : Nat → Nat → Int32} {J : Nat → Nat → Int64} {r : Int32} {Q : Int32 → Int64 → pm_H → Prop} (ht : pm_ti (I 18) 16 24) : pm_wc pm_code pm_meta d 83 [.ref 18, .int r, .int 9] (pm_Gb L b, I, J) Q ↔ Q (if 0 ≤ r ∧ r < I 18 3 then I 19 (16 * r.toNatClampNeg + 9) else 0) 0 (pm_Gb L b, I, J) := by
  rw [pt_get_18 ht]
  simp only [show ((0 : Int32) ≤ 9 ∧ (9 : Int32) < 16) = True from eq_true (by decide), and_true]
  exact Iff.rfl
theorem pt_get_18_10 {d L : Nat} {b : Bool} {I : Nat → Nat → Int32} {J : Nat → Nat → Int64} {r : Int32} {Q : Int32 → Int64 → pm_H → Prop} (ht : pm_ti (I 18) 16 24) : pm_wc pm_code pm_meta d 83 [.ref 18, .int r, .int 10] (pm_Gb L b, I, J) Q ↔ Q (if 0 ≤ r ∧ r < I 18 3 then I 19 (16 * r.toNatClampNeg + 10) else 0) 0 (pm_Gb L b, I, J) := by
  rw [pt_get_18 ht]
  simp only [show ((0 : Int32) ≤ 10 ∧ (10 : Int32) < 16) = True from eq_true (by decide), and_true]
  exact Iff.rfl
theorem pt_get_18_11 {d L : Nat} {b : Bool} {I : Nat → Nat → Int32} {J : Nat → Nat → Int64} {r : Int32} {Q : Int32 → Int64 → pm_H → Prop} (ht : pm_ti (I 18) 16 24) : pm_wc pm_code pm_meta d 83 [.ref 18, .int r, .int 11] (pm_Gb L b, I, J) Q ↔ Q (if 0 ≤ r ∧ r < I 18 3 then I 19 (16 * r.toNatClampNeg + 11) else 0) 0 (pm_Gb L b, I, J) := by
  rw [pt_get_18 ht]
  simp only [show ((0 : Int32) ≤ 11 ∧ (11 : Int32) < 16) = True from eq_true (by decide), and_true]
  exact Iff.rfl
theorem pt_get_18_12 {d L : Nat} {b : Bool} {I : Nat → Nat → Int32} {J : Nat → Nat → Int64} {r : Int32} {Q : Int32 → Int64 → pm_H → Prop} (ht : pm_ti (I 18) 16 24) : pm_wc pm_code pm_meta d 83 [.ref 18, .int r, .int 12] (pm_Gb L b, I, J) Q ↔ Q (if 0 ≤ r ∧ r < I 18 3 then I 19 (16 * r.toNatClampNeg + 12) else 0) 0 (pm_Gb L b, I, J) := by
  rw [pt_get_18 ht]
  simp only [show ((0 : Int32) ≤ 12 ∧ (12 : Int32) < 16) = True from eq_true (by decide), and_true]
  exact Iff.rfl
theorem pt_get_18_13 {d L : Nat} {b : Bool} {I : Nat → Nat → Int32} {J : Nat → Nat → Int64} {r : Int32} {Q : Int32 → Int64 → pm_H → Prop} (ht : pm_ti (I 18) 16 24) : pm_wc pm_code pm_meta d 83 [.ref 18, .int r, .int 13] (pm_Gb L b, I, J) Q ↔ Q (if 0 ≤ r ∧ r < I 18 3 then I 19 (16 * r.toNatClampNeg + 13) else 0) 0 (pm_Gb L b, I, J) := by
  rw [pt_get_18 ht]
  simp only [show ((0 : Int32) ≤ 13 ∧ (13 : Int32) < 16) = True from eq_true (by decide), and_true]
  exact Iff.rfl
theorem pt_get_18_14 {d L : Nat} {b : Bool} {I : Nat → Nat → Int32} {J : Nat → Nat → Int64} {r : Int32} {Q : Int32 → Int64 → pm_H → Prop} (ht : pm_ti (I 18) 16 24) : pm_wc pm_code pm_meta d 83 [.ref 18, .int r, .int 14] (pm_Gb L b, I, J) Q ↔ Q (if 0 ≤ r ∧ r < I 18 3 then I 19 (16 * r.toNatClampNeg + 14) else 0) 0 (pm_Gb L b, I, J) := by
  rw [pt_get_18 ht]
  simp only [show ((0 : Int32) ≤ 14 ∧ (14 : Int32) < 16) = True from eq_true (by decide), and_true]
  exact Iff.rfl
theorem pt_get_18_15 {d L : Nat} {b : Bool} {I : Nat → Nat → Int32} {J : Nat → Nat → Int64} {r : Int32} {Q : Int32 → Int64 → pm_H → Prop} (ht : pm_ti (I 18) 16 24) : pm_wc pm_code pm_meta d 83 [.ref 18, .int r, .int 15] (pm_Gb L b, I, J) Q ↔ Q (if 0 ≤ r ∧ r < I 18 3 then I 19 (16 * r.toNatClampNeg + 15) else 0) 0 (pm_Gb L b, I, J) := by
  rw [pt_get_18 ht]
  simp only [show ((0 : Int32) ≤ 15 ∧ (15 : Int32) < 16) = True from eq_true (by decide), and_true]
  exact Iff.rfl
theorem pt_get_20 {d L : Nat} {b : Bool} {I : Nat → Nat → Int32} {J : Nat → Nat → Int64} {r k : Int32} {Q : Int32 → Int64 → pm_H → Prop} (ht : pm_ti (I 20) 5 12) : pm_wc pm_code pm_meta d 83 [.ref 20, .int r, .int k] (pm_Gb L b, I, J) Q ↔ Q (if (0 ≤ r ∧ r < I 20 3) ∧ 0 ≤ k ∧ k < 5 then I 21 (5 * r.toNatClampNeg + k.toNatClampNeg) else 0) 0 (pm_Gb L b, I, J) := by
  have e : (if pm_tin r k (I 20 3) (I 20 1) then I 21 (r * I 20 1 + k).toNatClampNeg else 0) = (if (0 ≤ r ∧ r < I 20 3) ∧ 0 ≤ k ∧ k < 5 then I 21 (5 * r.toNatClampNeg + k.toNatClampNeg) else 0) := by
    by_cases h : pm_tin r k (I 20 3) (I 20 1) = true
    · rw [if_pos h, (pt_in_20 ht h).1]
      simp only [pm_tin, Bool.and_eq_true, decide_eq_true_eq, ht.1, and_assoc] at h
      rw [if_pos (by simpa only [and_assoc] using h)]
    · rw [if_neg h]
      simp only [pm_tin, Bool.and_eq_true, decide_eq_true_eq, ht.1, and_assoc] at h
      rw [if_neg (by simpa only [and_assoc] using h)]
  rw [← e]
  have htb : pm_tb (pm_Gb L b, I, J) 20 21 60 (I 20 1) := ⟨rfl, by decide, rfl, rfl, by decide, rfl⟩
  have hin : pm_tin r k (I 20 3) (I 20 1) = true → pm_in (r * I 20 1 + k) 60 = true := fun h => (pt_in_20 ht h).2
  refine pm_wc_iff (fun Q' h => ?_) Q
  refine pm_ts_get htb hin ?_
  exact h
theorem pt_get_20_0 {d L : Nat} {b : Bool} {I : Nat → Nat → Int32} {J : Nat → Nat → Int64} {r : Int32} {Q : Int32 → Int64 → pm_H → Prop} (ht : pm_ti (I 20) 5 12) : pm_wc pm_code pm_meta d 83 [.ref 20, .int r, .int 0] (pm_Gb L b, I, J) Q ↔ Q (if 0 ≤ r ∧ r < I 20 3 then I 21 (5 * r.toNatClampNeg + 0) else 0) 0 (pm_Gb L b, I, J) := by
  rw [pt_get_20 ht]
  simp only [show ((0 : Int32) ≤ 0 ∧ (0 : Int32) < 5) = True from eq_true (by decide), and_true]
  exact Iff.rfl
theorem pt_get_20_1 {d L : Nat} {b : Bool} {I : Nat → Nat → Int32} {J : Nat → Nat → Int64} {r : Int32} {Q : Int32 → Int64 → pm_H → Prop} (ht : pm_ti (I 20) 5 12) : pm_wc pm_code pm_meta d 83 [.ref 20, .int r, .int 1] (pm_Gb L b, I, J) Q ↔ Q (if 0 ≤ r ∧ r < I 20 3 then I 21 (5 * r.toNatClampNeg + 1) else 0) 0 (pm_Gb L b, I, J) := by
  rw [pt_get_20 ht]
  simp only [show ((0 : Int32) ≤ 1 ∧ (1 : Int32) < 5) = True from eq_true (by decide), and_true]
  exact Iff.rfl
theorem pt_get_20_2 {d L : Nat} {b : Bool} {I : Nat → Nat → Int32} {J : Nat → Nat → Int64} {r : Int32} {Q : Int32 → Int64 → pm_H → Prop} (ht : pm_ti (I 20) 5 12) : pm_wc pm_code pm_meta d 83 [.ref 20, .int r, .int 2] (pm_Gb L b, I, J) Q ↔ Q (if 0 ≤ r ∧ r < I 20 3 then I 21 (5 * r.toNatClampNeg + 2) else 0) 0 (pm_Gb L b, I, J) := by
  rw [pt_get_20 ht]
  simp only [show ((0 : Int32) ≤ 2 ∧ (2 : Int32) < 5) = True from eq_true (by decide), and_true]
  exact Iff.rfl
theorem pt_get_20_3 {d L : Nat} {b : Bool} {I : Nat → Nat → Int32} {J : Nat → Nat → Int64} {r : Int32} {Q : Int32 → Int64 → pm_H → Prop} (ht : pm_ti (I 20) 5 12) : pm_wc pm_code pm_meta d 83 [.ref 20, .int r, .int 3] (pm_Gb L b, I, J) Q ↔ Q (if 0 ≤ r ∧ r < I 20 3 then I 21 (5 * r.toNatClampNeg + 3) else 0) 0 (pm_Gb L b, I, J) := by
  rw [pt_get_20 ht]
  simp only [show ((0 : Int32) ≤ 3 ∧ (3 : Int32) < 5) = True from eq_true (by decide), and_true]
  exact Iff.rfl
theorem pt_get_20_4 {d L : Nat} {b : Bool} {I : Nat → Nat → Int32} {J : Nat → Nat → Int64} {r : Int32} {Q : Int32 → Int64 → pm_H → Prop} (ht : pm_ti (I 20) 5 12) : pm_wc pm_code pm_meta d 83 [.ref 20, .int r, .int 4] (pm_Gb L b, I, J) Q ↔ Q (if 0 ≤ r ∧ r < I 20 3 then I 21 (5 * r.toNatClampNeg + 4) else 0) 0 (pm_Gb L b, I, J) := by
  rw [pt_get_20 ht]
  simp only [show ((0 : Int32) ≤ 4 ∧ (4 : Int32) < 5) = True from eq_true (by decide), and_true]
  exact Iff.rfl
theorem pt_get_22 {d L : Nat} {b : Bool} {I : Nat → Nat → Int32} {J : Nat → Nat → Int64} {r k : Int32} {Q : Int32 → Int64 → pm_H → Prop} (ht : pm_ti (I 22) 5 120) : pm_wc pm_code pm_meta d 83 [.ref 22, .int r, .int k] (pm_Gb L b, I, J) Q ↔ Q (if (0 ≤ r ∧ r < I 22 3) ∧ 0 ≤ k ∧ k < 5 then I 23 (5 * r.toNatClampNeg + k.toNatClampNeg) else 0) 0 (pm_Gb L b, I, J) := by
  have e : (if pm_tin r k (I 22 3) (I 22 1) then I 23 (r * I 22 1 + k).toNatClampNeg else 0) = (if (0 ≤ r ∧ r < I 22 3) ∧ 0 ≤ k ∧ k < 5 then I 23 (5 * r.toNatClampNeg + k.toNatClampNeg) else 0) := by
    by_cases h : pm_tin r k (I 22 3) (I 22 1) = true
    · rw [if_pos h, (pt_in_22 ht h).1]
      simp only [pm_tin, Bool.and_eq_true, decide_eq_true_eq, ht.1, and_assoc] at h
      rw [if_pos (by simpa only [and_assoc] using h)]
    · rw [if_neg h]
      simp only [pm_tin, Bool.and_eq_true, decide_eq_true_eq, ht.1, and_assoc] at h
      rw [if_neg (by simpa only [and_assoc] using h)]
  rw [← e]
  have htb : pm_tb (pm_Gb L b, I, J) 22 23 600 (I 22 1) := ⟨rfl, by decide, rfl, rfl, by decide, rfl⟩
  have hin : pm_tin r k (I 22 3) (I 22 1) = true → pm_in (r * I 22 1 + k) 600 = true := fun h => (pt_in_22 ht h).2
  refine pm_wc_iff (fun Q' h => ?_) Q
  refine pm_ts_get htb hin ?_
  exact h
theorem pt_get_22_0 {d L : Nat} {b : Bool} {I : Nat → Nat → Int32} {J : Nat → Nat → Int64} {r : Int32} {Q : Int32 → Int64 → pm_H → Prop} (ht : pm_ti (I 22) 5 120) : pm_wc pm_code pm_meta d 83 [.ref 22, .int r, .int 0] (pm_Gb L b, I, J) Q ↔ Q (if 0 ≤ r ∧ r < I 22 3 then I 23 (5 * r.toNatClampNeg + 0) else 0) 0 (pm_Gb L b, I, J) := by
  rw [pt_get_22 ht]
  simp only [show ((0 : Int32) ≤ 0 ∧ (0 : Int32) < 5) = True from eq_true (by decide), and_true]
  exact Iff.rfl
theorem pt_get_22_1 {d L : Nat} {b : Bool} {I : Nat → Nat → Int32} {J : Nat → Nat → Int64} {r : Int32} {Q : Int32 → Int64 → pm_H → Prop} (ht : pm_ti (I 22) 5 120) : pm_wc pm_code pm_meta d 83 [.ref 22, .int r, .int 1] (pm_Gb L b, I, J) Q ↔ Q (if 0 ≤ r ∧ r < I 22 3 then I 23 (5 * r.toNatClampNeg + 1) else 0) 0 (pm_Gb L b, I, J) := by
  rw [pt_get_22 ht]
  simp only [show ((0 : Int32) ≤ 1 ∧ (1 : Int32) < 5) = True from eq_true (by decide), and_true]
  exact Iff.rfl
theorem pt_get_22_2 {d L : Nat} {b : Bool} {I : Nat → Nat → Int32} {J : Nat → Nat → Int64} {r : Int32} {Q : Int32 → Int64 → pm_H → Prop} (ht : pm_ti (I 22) 5 120) : pm_wc pm_code pm_meta d 83 [.ref 22, .int r, .int 2] (pm_Gb L b, I, J) Q ↔ Q (if 0 ≤ r ∧ r < I 22 3 then I 23 (5 * r.toNatClampNeg + 2) else 0) 0 (pm_Gb L b, I, J) := by
  rw [pt_get_22 ht]
  simp only [show ((0 : Int32) ≤ 2 ∧ (2 : Int32) < 5) = True from eq_true (by decide), and_true]
  exact Iff.rfl
theorem pt_get_22_3 {d L : Nat} {b : Bool} {I : Nat → Nat → Int32} {J : Nat → Nat → Int64} {r : Int32} {Q : Int32 → Int64 → pm_H → Prop} (ht : pm_ti (I 22) 5 120) : pm_wc pm_code pm_meta d 83 [.ref 22, .int r, .int 3] (pm_Gb L b, I, J) Q ↔ Q (if 0 ≤ r ∧ r < I 22 3 then I 23 (5 * r.toNatClampNeg + 3) else 0) 0 (pm_Gb L b, I, J) := by
  rw [pt_get_22 ht]
  simp only [show ((0 : Int32) ≤ 3 ∧ (3 : Int32) < 5) = True from eq_true (by decide), and_true]
  exact Iff.rfl
theorem pt_get_22_4 {d L : Nat} {b : Bool} {I : Nat → Nat → Int32} {J : Nat → Nat → Int64} {r : Int32} {Q : Int32 → Int64 → pm_H → Prop} (ht : pm_ti (I 22) 5 120) : pm_wc pm_code pm_meta d 83 [.ref 22, .int r, .int 4] (pm_Gb L b, I, J) Q ↔ Q (if 0 ≤ r ∧ r < I 22 3 then I 23 (5 * r.toNatClampNeg + 4) else 0) 0 (pm_Gb L b, I, J) := by
  rw [pt_get_22 ht]
  simp only [show ((0 : Int32) ≤ 4 ∧ (4 : Int32) < 5) = True from eq_true (by decide), and_true]
  exact Iff.rfl
theorem pt_get_24 {d L : Nat} {b : Bool} {I : Nat → Nat → Int32} {J : Nat → Nat → Int64} {r k : Int32} {Q : Int32 → Int64 → pm_H → Prop} (ht : pm_ti (I 24) 2 1200) : pm_wc pm_code pm_meta d 83 [.ref 24, .int r, .int k] (pm_Gb L b, I, J) Q ↔ Q (if (0 ≤ r ∧ r < I 24 3) ∧ 0 ≤ k ∧ k < 2 then I 25 (2 * r.toNatClampNeg + k.toNatClampNeg) else 0) 0 (pm_Gb L b, I, J) := by
  have e : (if pm_tin r k (I 24 3) (I 24 1) then I 25 (r * I 24 1 + k).toNatClampNeg else 0) = (if (0 ≤ r ∧ r < I 24 3) ∧ 0 ≤ k ∧ k < 2 then I 25 (2 * r.toNatClampNeg + k.toNatClampNeg) else 0) := by
    by_cases h : pm_tin r k (I 24 3) (I 24 1) = true
    · rw [if_pos h, (pt_in_24 ht h).1]
      simp only [pm_tin, Bool.and_eq_true, decide_eq_true_eq, ht.1, and_assoc] at h
      rw [if_pos (by simpa only [and_assoc] using h)]
    · rw [if_neg h]
      simp only [pm_tin, Bool.and_eq_true, decide_eq_true_eq, ht.1, and_assoc] at h
      rw [if_neg (by simpa only [and_assoc] using h)]
  rw [← e]
  have htb : pm_tb (pm_Gb L b, I, J) 24 25 2400 (I 24 1) := ⟨rfl, by decide, rfl, rfl, by decide, rfl⟩
  have hin : pm_tin r k (I 24 3) (I 24 1) = true → pm_in (r * I 24 1 + k) 2400 = true := fun h => (pt_in_24 ht h).2
  refine pm_wc_iff (fun Q' h => ?_) Q
  refine pm_ts_get htb hin ?_
  exact h
theorem pt_get_24_0 {d L : Nat} {b : Bool} {I : Nat → Nat → Int32} {J : Nat → Nat → Int64} {r : Int32} {Q : Int32 → Int64 → pm_H → Prop} (ht : pm_ti (I 24) 2 1200) : pm_wc pm_code pm_meta d 83 [.ref 24, .int r, .int 0] (pm_Gb L b, I, J) Q ↔ Q (if 0 ≤ r ∧ r < I 24 3 then I 25 (2 * r.toNatClampNeg + 0) else 0) 0 (pm_Gb L b, I, J) := by
  rw [pt_get_24 ht]
  simp only [show ((0 : Int32) ≤ 0 ∧ (0 : Int32) < 2) = True from eq_true (by decide), and_true]
  exact Iff.rfl
theorem pt_get_24_1 {d L : Nat} {b : Bool} {I : Nat → Nat → Int32} {J : Nat → Nat → Int64} {r : Int32} {Q : Int32 → Int64 → pm_H → Prop} (ht : pm_ti (I 24) 2 1200) : pm_wc pm_code pm_meta d 83 [.ref 24, .int r, .int 1] (pm_Gb L b, I, J) Q ↔ Q (if 0 ≤ r ∧ r < I 24 3 then I 25 (2 * r.toNatClampNeg + 1) else 0) 0 (pm_Gb L b, I, J) := by
  rw [pt_get_24 ht]
  simp only [show ((0 : Int32) ≤ 1 ∧ (1 : Int32) < 2) = True from eq_true (by decide), and_true]
  exact Iff.rfl
theorem pt_get_26 {d L : Nat} {b : Bool} {I : Nat → Nat → Int32} {J : Nat → Nat → Int64} {r k : Int32} {Q : Int32 → Int64 → pm_H → Prop} (ht : pm_ti (I 26) 1 4) : pm_wc pm_code pm_meta d 83 [.ref 26, .int r, .int k] (pm_Gb L b, I, J) Q ↔ Q (if (0 ≤ r ∧ r < I 26 3) ∧ 0 ≤ k ∧ k < 1 then I 27 (1 * r.toNatClampNeg + k.toNatClampNeg) else 0) 0 (pm_Gb L b, I, J) := by
  have e : (if pm_tin r k (I 26 3) (I 26 1) then I 27 (r * I 26 1 + k).toNatClampNeg else 0) = (if (0 ≤ r ∧ r < I 26 3) ∧ 0 ≤ k ∧ k < 1 then I 27 (1 * r.toNatClampNeg + k.toNatClampNeg) else 0) := by
    by_cases h : pm_tin r k (I 26 3) (I 26 1) = true
    · rw [if_pos h, (pt_in_26 ht h).1]
      simp only [pm_tin, Bool.and_eq_true, decide_eq_true_eq, ht.1, and_assoc] at h
      rw [if_pos (by simpa only [and_assoc] using h)]
    · rw [if_neg h]
      simp only [pm_tin, Bool.and_eq_true, decide_eq_true_eq, ht.1, and_assoc] at h
      rw [if_neg (by simpa only [and_assoc] using h)]
  rw [← e]
  have htb : pm_tb (pm_Gb L b, I, J) 26 27 4 (I 26 1) := ⟨rfl, by decide, rfl, rfl, by decide, rfl⟩
  have hin : pm_tin r k (I 26 3) (I 26 1) = true → pm_in (r * I 26 1 + k) 4 = true := fun h => (pt_in_26 ht h).2
  refine pm_wc_iff (fun Q' h => ?_) Q
  refine pm_ts_get htb hin ?_
  exact h
theorem pt_get_26_0 {d L : Nat} {b : Bool} {I : Nat → Nat → Int32} {J : Nat → Nat → Int64} {r : Int32} {Q : Int32 → Int64 → pm_H → Prop} (ht : pm_ti (I 26) 1 4) : pm_wc pm_code pm_meta d 83 [.ref 26, .int r, .int 0] (pm_Gb L b, I, J) Q ↔ Q (if 0 ≤ r ∧ r < I 26 3 then I 27 (1 * r.toNatClampNeg + 0) else 0) 0 (pm_Gb L b, I, J) := by
  rw [pt_get_26 ht]
  simp only [show ((0 : Int32) ≤ 0 ∧ (0 : Int32) < 1) = True from eq_true (by decide), and_true]
  exact Iff.rfl
theorem pt_get_28 {d L : Nat} {b : Bool} {I : Nat → Nat → Int32} {J : Nat → Nat → Int64} {r k : Int32} {Q : Int32 → Int64 → pm_H → Prop} (ht : pm_ti (I 28) 3 24) : pm_wc pm_code pm_meta d 83 [.ref 28, .int r, .int k] (pm_Gb L b, I, J) Q ↔ Q (if (0 ≤ r ∧ r < I 28 3) ∧ 0 ≤ k ∧ k < 3 then I 29 (3 * r.toNatClampNeg + k.toNatClampNeg) else 0) 0 (pm_Gb L b, I, J) := by
  have e : (if pm_tin r k (I 28 3) (I 28 1) then I 29 (r * I 28 1 + k).toNatClampNeg else 0) = (if (0 ≤ r ∧ r < I 28 3) ∧ 0 ≤ k ∧ k < 3 then I 29 (3 * r.toNatClampNeg + k.toNatClampNeg) else 0) := by
    by_cases h : pm_tin r k (I 28 3) (I 28 1) = true
    · rw [if_pos h, (pt_in_28 ht h).1]
      simp only [pm_tin, Bool.and_eq_true, decide_eq_true_eq, ht.1, and_assoc] at h
      rw [if_pos (by simpa only [and_assoc] using h)]
    · rw [if_neg h]
      simp only [pm_tin, Bool.and_eq_true, decide_eq_true_eq, ht.1, and_assoc] at h
      rw [if_neg (by simpa only [and_assoc] using h)]
  rw [← e]
  have htb : pm_tb (pm_Gb L b, I, J) 28 29 72 (I 28 1) := ⟨rfl, by decide, rfl, rfl, by decide, rfl⟩
  have hin : pm_tin r k (I 28 3) (I 28 1) = true → pm_in (r * I 28 1 + k) 72 = true := fun h => (pt_in_28 ht h).2
  refine pm_wc_iff (fun Q' h => ?_) Q
  refine pm_ts_get htb hin ?_
  exact h
theorem pt_get_28_0 {d L : Nat} {b : Bool} {I : Nat → Nat → Int32} {J : Nat → Nat → Int64} {r : Int32} {Q : Int32 → Int64 → pm_H → Prop} (ht : pm_ti (I 28) 3 24) : pm_wc pm_code pm_meta d 83 [.ref 28, .int r, .int 0] (pm_Gb L b, I, J) Q ↔ Q (if 0 ≤ r ∧ r < I 28 3 then I 29 (3 * r.toNatClampNeg + 0) else 0) 0 (pm_Gb L b, I, J) := by
  rw [pt_get_28 ht]
  simp only [show ((0 : Int32) ≤ 0 ∧ (0 : Int32) < 3) = True from eq_true (by decide), and_true]
  exact Iff.rfl
theorem pt_get_28_1 {d L : Nat} {b : Bool} {I : Nat → Nat → Int32} {J : Nat → Nat → Int64} {r : Int32} {Q : Int32 → Int64 → pm_H → Prop} (ht : pm_ti (I 28) 3 24) : pm_wc pm_code pm_meta d 83 [.ref 28, .int r, .int 1] (pm_Gb L b, I, J) Q ↔ Q (if 0 ≤ r ∧ r < I 28 3 then I 29 (3 * r.toNatClampNeg + 1) else 0) 0 (pm_Gb L b, I, J) := by
  rw [pt_get_28 ht]
  simp only [show ((0 : Int32) ≤ 1 ∧ (1 : Int32) < 3) = True from eq_true (by decide), and_true]
  exact Iff.rfl
theorem pt_get_28_2 {d L : Nat} {b : Bool} {I : Nat → Nat → Int32} {J : Nat → Nat → Int64} {r : Int32} {Q : Int32 → Int64 → pm_H → Prop} (ht : pm_ti (I 28) 3 24) : pm_wc pm_code pm_meta d 83 [.ref 28, .int r, .int 2] (pm_Gb L b, I, J) Q ↔ Q (if 0 ≤ r ∧ r < I 28 3 then I 29 (3 * r.toNatClampNeg + 2) else 0) 0 (pm_Gb L b, I, J) := by
  rw [pt_get_28 ht]
  simp only [show ((0 : Int32) ≤ 2 ∧ (2 : Int32) < 3) = True from eq_true (by decide), and_true]
  exact Iff.rfl
theorem pt_get_30 {d L : Nat} {b : Bool} {I : Nat → Nat → Int32} {J : Nat → Nat → Int64} {r k : Int32} {Q : Int32 → Int64 → pm_H → Prop} (ht : pm_ti (I 30) 1 7) : pm_wc pm_code pm_meta d 83 [.ref 30, .int r, .int k] (pm_Gb L b, I, J) Q ↔ Q (if (0 ≤ r ∧ r < I 30 3) ∧ 0 ≤ k ∧ k < 1 then I 31 (1 * r.toNatClampNeg + k.toNatClampNeg) else 0) 0 (pm_Gb L b, I, J) := by
  have e : (if pm_tin r k (I 30 3) (I 30 1) then I 31 (r * I 30 1 + k).toNatClampNeg else 0) = (if (0 ≤ r ∧ r < I 30 3) ∧ 0 ≤ k ∧ k < 1 then I 31 (1 * r.toNatClampNeg + k.toNatClampNeg) else 0) := by
    by_cases h : pm_tin r k (I 30 3) (I 30 1) = true
    · rw [if_pos h, (pt_in_30 ht h).1]
      simp only [pm_tin, Bool.and_eq_true, decide_eq_true_eq, ht.1, and_assoc] at h
      rw [if_pos (by simpa only [and_assoc] using h)]
    · rw [if_neg h]
      simp only [pm_tin, Bool.and_eq_true, decide_eq_true_eq, ht.1, and_assoc] at h
      rw [if_neg (by simpa only [and_assoc] using h)]
  rw [← e]
  have htb : pm_tb (pm_Gb L b, I, J) 30 31 7 (I 30 1) := ⟨rfl, by decide, rfl, rfl, by decide, rfl⟩
  have hin : pm_tin r k (I 30 3) (I 30 1) = true → pm_in (r * I 30 1 + k) 7 = true := fun h => (pt_in_30 ht h).2
  refine pm_wc_iff (fun Q' h => ?_) Q
  refine pm_ts_get htb hin ?_
  exact h
theorem pt_get_30_0 {d L : Nat} {b : Bool} {I : Nat → Nat → Int32} {J : Nat → Nat → Int64} {r : Int32} {Q : Int32 → Int64 → pm_H → Prop} (ht : pm_ti (I 30) 1 7) : pm_wc pm_code pm_meta d 83 [.ref 30, .int r, .int 0] (pm_Gb L b, I, J) Q ↔ Q (if 0 ≤ r ∧ r < I 30 3 then I 31 (1 * r.toNatClampNeg + 0) else 0) 0 (pm_Gb L b, I, J) := by
  rw [pt_get_30 ht]
  simp only [show ((0 : Int32) ≤ 0 ∧ (0 : Int32) < 1) = True from eq_true (by decide), and_true]
  exact Iff.rfl
theorem pt_get_32 {d L : Nat} {b : Bool} {I : Nat → Nat → Int32} {J : Nat → Nat → Int64} {r k : Int32} {Q : Int32 → Int64 → pm_H → Prop} (ht : pm_ti (I 32) 1 3) : pm_wc pm_code pm_meta d 83 [.ref 32, .int r, .int k] (pm_Gb L b, I, J) Q ↔ Q (if (0 ≤ r ∧ r < I 32 3) ∧ 0 ≤ k ∧ k < 1 then I 33 (1 * r.toNatClampNeg + k.toNatClampNeg) else 0) 0 (pm_Gb L b, I, J) := by
  have e : (if pm_tin r k (I 32 3) (I 32 1) then I 33 (r * I 32 1 + k).toNatClampNeg else 0) = (if (0 ≤ r ∧ r < I 32 3) ∧ 0 ≤ k ∧ k < 1 then I 33 (1 * r.toNatClampNeg + k.toNatClampNeg) else 0) := by
    by_cases h : pm_tin r k (I 32 3) (I 32 1) = true
    · rw [if_pos h, (pt_in_32 ht h).1]
      simp only [pm_tin, Bool.and_eq_true, decide_eq_true_eq, ht.1, and_assoc] at h
      rw [if_pos (by simpa only [and_assoc] using h)]
    · rw [if_neg h]
      simp only [pm_tin, Bool.and_eq_true, decide_eq_true_eq, ht.1, and_assoc] at h
      rw [if_neg (by simpa only [and_assoc] using h)]
  rw [← e]
  have htb : pm_tb (pm_Gb L b, I, J) 32 33 3 (I 32 1) := ⟨rfl, by decide, rfl, rfl, by decide, rfl⟩
  have hin : pm_tin r k (I 32 3) (I 32 1) = true → pm_in (r * I 32 1 + k) 3 = true := fun h => (pt_in_32 ht h).2
  refine pm_wc_iff (fun Q' h => ?_) Q
  refine pm_ts_get htb hin ?_
  exact h
theorem pt_get_32_0 {d L : Nat} {b : Bool} {I : Nat → Nat → Int32} {J : Nat → Nat → Int64} {r : Int32} {Q : Int32 → Int64 → pm_H → Prop} (ht : pm_ti (I 32) 1 3) : pm_wc pm_code pm_meta d 83 [.ref 32, .int r, .int 0] (pm_Gb L b, I, J) Q ↔ Q (if 0 ≤ r ∧ r < I 32 3 then I 33 (1 * r.toNatClampNeg + 0) else 0) 0 (pm_Gb L b, I, J) := by
  rw [pt_get_32 ht]
  simp only [show ((0 : Int32) ≤ 0 ∧ (0 : Int32) < 1) = True from eq_true (by decide), and_true]
  exact Iff.rfl
theorem pt_get_34 {d L : Nat} {b : Bool} {I : Nat → Nat → Int32} {J : Nat → Nat → Int64} {r k : Int32} {Q : Int32 → Int64 → pm_H → Prop} (ht : pm_ti (I 34) 6 24) : pm_wc pm_code pm_meta d 83 [.ref 34, .int r, .int k] (pm_Gb L b, I, J) Q ↔ Q (if (0 ≤ r ∧ r < I 34 3) ∧ 0 ≤ k ∧ k < 6 then I 35 (6 * r.toNatClampNeg + k.toNatClampNeg) else 0) 0 (pm_Gb L b, I, J) := by
  have e : (if pm_tin r k (I 34 3) (I 34 1) then I 35 (r * I 34 1 + k).toNatClampNeg else 0) = (if (0 ≤ r ∧ r < I 34 3) ∧ 0 ≤ k ∧ k < 6 then I 35 (6 * r.toNatClampNeg + k.toNatClampNeg) else 0) := by
    by_cases h : pm_tin r k (I 34 3) (I 34 1) = true
    · rw [if_pos h, (pt_in_34 ht h).1]
      simp only [pm_tin, Bool.and_eq_true, decide_eq_true_eq, ht.1, and_assoc] at h
      rw [if_pos (by simpa only [and_assoc] using h)]
    · rw [if_neg h]
      simp only [pm_tin, Bool.and_eq_true, decide_eq_true_eq, ht.1, and_assoc] at h
      rw [if_neg (by simpa only [and_assoc] using h)]
  rw [← e]
  have htb : pm_tb (pm_Gb L b, I, J) 34 35 144 (I 34 1) := ⟨rfl, by decide, rfl, rfl, by decide, rfl⟩
  have hin : pm_tin r k (I 34 3) (I 34 1) = true → pm_in (r * I 34 1 + k) 144 = true := fun h => (pt_in_34 ht h).2
  refine pm_wc_iff (fun Q' h => ?_) Q
  refine pm_ts_get htb hin ?_
  exact h
theorem pt_get_34_0 {d L : Nat} {b : Bool} {I : Nat → Nat → Int32} {J : Nat → Nat → Int64} {r : Int32} {Q : Int32 → Int64 → pm_H → Prop} (ht : pm_ti (I 34) 6 24) : pm_wc pm_code pm_meta d 83 [.ref 34, .int r, .int 0] (pm_Gb L b, I, J) Q ↔ Q (if 0 ≤ r ∧ r < I 34 3 then I 35 (6 * r.toNatClampNeg + 0) else 0) 0 (pm_Gb L b, I, J) := by
  rw [pt_get_34 ht]
  simp only [show ((0 : Int32) ≤ 0 ∧ (0 : Int32) < 6) = True from eq_true (by decide), and_true]
  exact Iff.rfl
theorem pt_get_34_1 {d L : Nat} {b : Bool} {I : Nat → Nat → Int32} {J : Nat → Nat → Int64} {r : Int32} {Q : Int32 → Int64 → pm_H → Prop} (ht : pm_ti (I 34) 6 24) : pm_wc pm_code pm_meta d 83 [.ref 34, .int r, .int 1] (pm_Gb L b, I, J) Q ↔ Q (if 0 ≤ r ∧ r < I 34 3 then I 35 (6 * r.toNatClampNeg + 1) else 0) 0 (pm_Gb L b, I, J) := by
  rw [pt_get_34 ht]
  simp only [show ((0 : Int32) ≤ 1 ∧ (1 : Int32) < 6) = True from eq_true (by decide), and_true]
  exact Iff.rfl
theorem pt_get_34_2 {d L : Nat} {b : Bool} {I : Nat → Nat → Int32} {J : Nat → Nat → Int64} {r : Int32} {Q : Int32 → Int64 → pm_H → Prop} (ht : pm_ti (I 34) 6 24) : pm_wc pm_code pm_meta d 83 [.ref 34, .int r, .int 2] (pm_Gb L b, I, J) Q ↔ Q (if 0 ≤ r ∧ r < I 34 3 then I 35 (6 * r.toNatClampNeg + 2) else 0) 0 (pm_Gb L b, I, J) := by
  rw [pt_get_34 ht]
  simp only [show ((0 : Int32) ≤ 2 ∧ (2 : Int32) < 6) = True from eq_true (by decide), and_true]
  exact Iff.rfl
theorem pt_get_34_3 {d L : Nat} {b : Bool} {I : Nat → Nat → Int32} {J : Nat → Nat → Int64} {r : Int32} {Q : Int32 → Int64 → pm_H → Prop} (ht : pm_ti (I 34) 6 24) : pm_wc pm_code pm_meta d 83 [.ref 34, .int r, .int 3] (pm_Gb L b, I, J) Q ↔ Q (if 0 ≤ r ∧ r < I 34 3 then I 35 (6 * r.toNatClampNeg + 3) else 0) 0 (pm_Gb L b, I, J) := by
  rw [pt_get_34 ht]
  simp only [show ((0 : Int32) ≤ 3 ∧ (3 : Int32) < 6) = True from eq_true (by decide), and_true]
  exact Iff.rfl
theorem pt_get_34_4 {d L : Nat} {b : Bool} {I : Nat → Nat → Int32} {J : Nat → Nat → Int64} {r : Int32} {Q : Int32 → Int64 → pm_H → Prop} (ht : pm_ti (I 34) 6 24) : pm_wc pm_code pm_meta d 83 [.ref 34, .int r, .int 4] (pm_Gb L b, I, J) Q ↔ Q (if 0 ≤ r ∧ r < I 34 3 then I 35 (6 * r.toNatClampNeg + 4) else 0) 0 (pm_Gb L b, I, J) := by
  rw [pt_get_34 ht]
  simp only [show ((0 : Int32) ≤ 4 ∧ (4 : Int32) < 6) = True from eq_true (by decide), and_true]
  exact Iff.rfl
theorem pt_get_34_5 {d L : Nat} {b : Bool} {I : Nat → Nat → Int32} {J : Nat → Nat → Int64} {r : Int32} {Q : Int32 → Int64 → pm_H → Prop} (ht : pm_ti (I 34) 6 24) : pm_wc pm_code pm_meta d 83 [.ref 34, .int r, .int 5] (pm_Gb L b, I, J) Q ↔ Q (if 0 ≤ r ∧ r < I 34 3 then I 35 (6 * r.toNatClampNeg + 5) else 0) 0 (pm_Gb L b, I, J) := by
  rw [pt_get_34 ht]
  simp only [show ((0 : Int32) ≤ 5 ∧ (5 : Int32) < 6) = True from eq_true (by decide), and_true]
  exact Iff.rfl
theorem pt_get_38 {d L : Nat} {b : Bool} {I : Nat → Nat → Int32} {J : Nat → Nat → Int64} {r k : Int32} {Q : Int32 → Int64 → pm_H → Prop} (ht : pm_ti (I 38) 3 24) : pm_wc pm_code pm_meta d 83 [.ref 38, .int r, .int k] (pm_Gb L b, I, J) Q ↔ Q (if (0 ≤ r ∧ r < I 38 3) ∧ 0 ≤ k ∧ k < 3 then I 39 (3 * r.toNatClampNeg + k.toNatClampNeg) else 0) 0 (pm_Gb L b, I, J) := by
  have e : (if pm_tin r k (I 38 3) (I 38 1) then I 39 (r * I 38 1 + k).toNatClampNeg else 0) = (if (0 ≤ r ∧ r < I 38 3) ∧ 0 ≤ k ∧ k < 3 then I 39 (3 * r.toNatClampNeg + k.toNatClampNeg) else 0) := by
    by_cases h : pm_tin r k (I 38 3) (I 38 1) = true
    · rw [if_pos h, (pt_in_38 ht h).1]
      simp only [pm_tin, Bool.and_eq_true, decide_eq_true_eq, ht.1, and_assoc] at h
      rw [if_pos (by simpa only [and_assoc] using h)]
    · rw [if_neg h]
      simp only [pm_tin, Bool.and_eq_true, decide_eq_true_eq, ht.1, and_assoc] at h
      rw [if_neg (by simpa only [and_assoc] using h)]
  rw [← e]
  have htb : pm_tb (pm_Gb L b, I, J) 38 39 72 (I 38 1) := ⟨rfl, by decide, rfl, rfl, by decide, rfl⟩
  have hin : pm_tin r k (I 38 3) (I 38 1) = true → pm_in (r * I 38 1 + k) 72 = true := fun h => (pt_in_38 ht h).2
  refine pm_wc_iff (fun Q' h => ?_) Q
  refine pm_ts_get htb hin ?_
  exact h
theorem pt_get_38_0 {d L : Nat} {b : Bool} {I : Nat → Nat → Int32} {J : Nat → Nat → Int64} {r : Int32} {Q : Int32 → Int64 → pm_H → Prop} (ht : pm_ti (I 38) 3 24) : pm_wc pm_code pm_meta d 83 [.ref 38, .int r, .int 0] (pm_Gb L b, I, J) Q ↔ Q (if 0 ≤ r ∧ r < I 38 3 then I 39 (3 * r.toNatClampNeg + 0) else 0) 0 (pm_Gb L b, I, J) := by
  rw [pt_get_38 ht]
  simp only [show ((0 : Int32) ≤ 0 ∧ (0 : Int32) < 3) = True from eq_true (by decide), and_true]
  exact Iff.rfl
theorem pt_get_38_1 {d L : Nat} {b : Bool} {I : Nat → Nat → Int32} {J : Nat → Nat → Int64} {r : Int32} {Q : Int32 → Int64 → pm_H → Prop} (ht : pm_ti (I 38) 3 24) : pm_wc pm_code pm_meta d 83 [.ref 38, .int r, .int 1] (pm_Gb L b, I, J) Q ↔ Q (if 0 ≤ r ∧ r < I 38 3 then I 39 (3 * r.toNatClampNeg + 1) else 0) 0 (pm_Gb L b, I, J) := by
  rw [pt_get_38 ht]
  simp only [show ((0 : Int32) ≤ 1 ∧ (1 : Int32) < 3) = True from eq_true (by decide), and_true]
  exact Iff.rfl
theorem pt_get_38_2 {d L : Nat} {b : Bool} {I : Nat → Nat → Int32} {J : Nat → Nat → Int64} {r : Int32} {Q : Int32 → Int64 → pm_H → Prop} (ht : pm_ti (I 38) 3 24) : pm_wc pm_code pm_meta d 83 [.ref 38, .int r, .int 2] (pm_Gb L b, I, J) Q ↔ Q (if 0 ≤ r ∧ r < I 38 3 then I 39 (3 * r.toNatClampNeg + 2) else 0) 0 (pm_Gb L b, I, J) := by
  rw [pt_get_38 ht]
  simp only [show ((0 : Int32) ≤ 2 ∧ (2 : Int32) < 3) = True from eq_true (by decide), and_true]
  exact Iff.rfl
theorem pt_get_42 {d L : Nat} {b : Bool} {I : Nat → Nat → Int32} {J : Nat → Nat → Int64} {r k : Int32} {Q : Int32 → Int64 → pm_H → Prop} (ht : pm_ti (I 42) 3 301) : pm_wc pm_code pm_meta d 83 [.ref 42, .int r, .int k] (pm_Gb L b, I, J) Q ↔ Q (if (0 ≤ r ∧ r < I 42 3) ∧ 0 ≤ k ∧ k < 3 then I 43 (3 * r.toNatClampNeg + k.toNatClampNeg) else 0) 0 (pm_Gb L b, I, J) := by
  have e : (if pm_tin r k (I 42 3) (I 42 1) then I 43 (r * I 42 1 + k).toNatClampNeg else 0) = (if (0 ≤ r ∧ r < I 42 3) ∧ 0 ≤ k ∧ k < 3 then I 43 (3 * r.toNatClampNeg + k.toNatClampNeg) else 0) := by
    by_cases h : pm_tin r k (I 42 3) (I 42 1) = true
    · rw [if_pos h, (pt_in_42 ht h).1]
      simp only [pm_tin, Bool.and_eq_true, decide_eq_true_eq, ht.1, and_assoc] at h
      rw [if_pos (by simpa only [and_assoc] using h)]
    · rw [if_neg h]
      simp only [pm_tin, Bool.and_eq_true, decide_eq_true_eq, ht.1, and_assoc] at h
      rw [if_neg (by simpa only [and_assoc] using h)]
  rw [← e]
  have htb : pm_tb (pm_Gb L b, I, J) 42 43 903 (I 42 1) := ⟨rfl, by decide, rfl, rfl, by decide, rfl⟩
  have hin : pm_tin r k (I 42 3) (I 42 1) = true → pm_in (r * I 42 1 + k) 903 = true := fun h => (pt_in_42 ht h).2
  refine pm_wc_iff (fun Q' h => ?_) Q
  refine pm_ts_get htb hin ?_
  exact h
theorem pt_get_42_0 {d L : Nat} {b : Bool} {I : Nat → Nat → Int32} {J : Nat → Nat → Int64} {r : Int32} {Q : Int32 → Int64 → pm_H → Prop} (ht : pm_ti (I 42) 3 301) : pm_wc pm_code pm_meta d 83 [.ref 42, .int r, .int 0] (pm_Gb L b, I, J) Q ↔ Q (if 0 ≤ r ∧ r < I 42 3 then I 43 (3 * r.toNatClampNeg + 0) else 0) 0 (pm_Gb L b, I, J) := by
  rw [pt_get_42 ht]
  simp only [show ((0 : Int32) ≤ 0 ∧ (0 : Int32) < 3) = True from eq_true (by decide), and_true]
  exact Iff.rfl
theorem pt_get_42_1 {d L : Nat} {b : Bool} {I : Nat → Nat → Int32} {J : Nat → Nat → Int64} {r : Int32} {Q : Int32 → Int64 → pm_H → Prop} (ht : pm_ti (I 42) 3 301) : pm_wc pm_code pm_meta d 83 [.ref 42, .int r, .int 1] (pm_Gb L b, I, J) Q ↔ Q (if 0 ≤ r ∧ r < I 42 3 then I 43 (3 * r.toNatClampNeg + 1) else 0) 0 (pm_Gb L b, I, J) := by
  rw [pt_get_42 ht]
  simp only [show ((0 : Int32) ≤ 1 ∧ (1 : Int32) < 3) = True from eq_true (by decide), and_true]
  exact Iff.rfl
theorem pt_get_42_2 {d L : Nat} {b : Bool} {I : Nat → Nat → Int32} {J : Nat → Nat → Int64} {r : Int32} {Q : Int32 → Int64 → pm_H → Prop} (ht : pm_ti (I 42) 3 301) : pm_wc pm_code pm_meta d 83 [.ref 42, .int r, .int 2] (pm_Gb L b, I, J) Q ↔ Q (if 0 ≤ r ∧ r < I 42 3 then I 43 (3 * r.toNatClampNeg + 2) else 0) 0 (pm_Gb L b, I, J) := by
  rw [pt_get_42 ht]
  simp only [show ((0 : Int32) ≤ 2 ∧ (2 : Int32) < 3) = True from eq_true (by decide), and_true]
  exact Iff.rfl
theorem pt_get_44 {d L : Nat} {b : Bool} {I : Nat → Nat → Int32} {J : Nat → Nat → Int64} {r k : Int32} {Q : Int32 → Int64 → pm_H → Prop} (ht : pm_ti (I 44) 5 10) : pm_wc pm_code pm_meta d 83 [.ref 44, .int r, .int k] (pm_Gb L b, I, J) Q ↔ Q (if (0 ≤ r ∧ r < I 44 3) ∧ 0 ≤ k ∧ k < 5 then I 45 (5 * r.toNatClampNeg + k.toNatClampNeg) else 0) 0 (pm_Gb L b, I, J) := by
  have e : (if pm_tin r k (I 44 3) (I 44 1) then I 45 (r * I 44 1 + k).toNatClampNeg else 0) = (if (0 ≤ r ∧ r < I 44 3) ∧ 0 ≤ k ∧ k < 5 then I 45 (5 * r.toNatClampNeg + k.toNatClampNeg) else 0) := by
    by_cases h : pm_tin r k (I 44 3) (I 44 1) = true
    · rw [if_pos h, (pt_in_44 ht h).1]
      simp only [pm_tin, Bool.and_eq_true, decide_eq_true_eq, ht.1, and_assoc] at h
      rw [if_pos (by simpa only [and_assoc] using h)]
    · rw [if_neg h]
      simp only [pm_tin, Bool.and_eq_true, decide_eq_true_eq, ht.1, and_assoc] at h
      rw [if_neg (by simpa only [and_assoc] using h)]
  rw [← e]
  have htb : pm_tb (pm_Gb L b, I, J) 44 45 50 (I 44 1) := ⟨rfl, by decide, rfl, rfl, by decide, rfl⟩
  have hin : pm_tin r k (I 44 3) (I 44 1) = true → pm_in (r * I 44 1 + k) 50 = true := fun h => (pt_in_44 ht h).2
  refine pm_wc_iff (fun Q' h => ?_) Q
  refine pm_ts_get htb hin ?_
  exact h
theorem pt_get_44_0 {d L : Nat} {b : Bool} {I : Nat → Nat → Int32} {J : Nat → Nat → Int64} {r : Int32} {Q : Int32 → Int64 → pm_H → Prop} (ht : pm_ti (I 44) 5 10) : pm_wc pm_code pm_meta d 83 [.ref 44, .int r, .int 0] (pm_Gb L b, I, J) Q ↔ Q (if 0 ≤ r ∧ r < I 44 3 then I 45 (5 * r.toNatClampNeg + 0) else 0) 0 (pm_Gb L b, I, J) := by
  rw [pt_get_44 ht]
  simp only [show ((0 : Int32) ≤ 0 ∧ (0 : Int32) < 5) = True from eq_true (by decide), and_true]
  exact Iff.rfl
theorem pt_get_44_1 {d L : Nat} {b : Bool} {I : Nat → Nat → Int32} {J : Nat → Nat → Int64} {r : Int32} {Q : Int32 → Int64 → pm_H → Prop} (ht : pm_ti (I 44) 5 10) : pm_wc pm_code pm_meta d 83 [.ref 44, .int r, .int 1] (pm_Gb L b, I, J) Q ↔ Q (if 0 ≤ r ∧ r < I 44 3 then I 45 (5 * r.toNatClampNeg + 1) else 0) 0 (pm_Gb L b, I, J) := by
  rw [pt_get_44 ht]
  simp only [show ((0 : Int32) ≤ 1 ∧ (1 : Int32) < 5) = True from eq_true (by decide), and_true]
  exact Iff.rfl
theorem pt_get_44_2 {d L : Nat} {b : Bool} {I : Nat → Nat → Int32} {J : Nat → Nat → Int64} {r : Int32} {Q : Int32 → Int64 → pm_H → Prop} (ht : pm_ti (I 44) 5 10) : pm_wc pm_code pm_meta d 83 [.ref 44, .int r, .int 2] (pm_Gb L b, I, J) Q ↔ Q (if 0 ≤ r ∧ r < I 44 3 then I 45 (5 * r.toNatClampNeg + 2) else 0) 0 (pm_Gb L b, I, J) := by
  rw [pt_get_44 ht]
  simp only [show ((0 : Int32) ≤ 2 ∧ (2 : Int32) < 5) = True from eq_true (by decide), and_true]
  exact Iff.rfl
theorem pt_get_44_3 {d L : Nat} {b : Bool} {I : Nat → Nat → Int32} {J : Nat → Nat → Int64} {r : Int32} {Q : Int32 → Int64 → pm_H → Prop} (ht : pm_ti (I 44) 5 10) : pm_wc pm_code pm_meta d 83 [.ref 44, .int r, .int 3] (pm_Gb L b, I, J) Q ↔ Q (if 0 ≤ r ∧ r < I 44 3 then I 45 (5 * r.toNatClampNeg + 3) else 0) 0 (pm_Gb L b, I, J) := by
  rw [pt_get_44 ht]
  simp only [show ((0 : Int32) ≤ 3 ∧ (3 : Int32) < 5) = True from eq_true (by decide), and_true]
  exact Iff.rfl
theorem pt_get_44_4 {d L : Nat} {b : Bool} {I : Nat → Nat → Int32} {J : Nat → Nat → Int64} {r : Int32} {Q : Int32 → Int64 → pm_H → Prop} (ht : pm_ti (I 44) 5 10) : pm_wc pm_code pm_meta d 83 [.ref 44, .int r, .int 4] (pm_Gb L b, I, J) Q ↔ Q (if 0 ≤ r ∧ r < I 44 3 then I 45 (5 * r.toNatClampNeg + 4) else 0) 0 (pm_Gb L b, I, J) := by
  rw [pt_get_44 ht]
  simp only [show ((0 : Int32) ≤ 4 ∧ (4 : Int32) < 5) = True from eq_true (by decide), and_true]
  exact Iff.rfl
theorem pt_get_46 {d L : Nat} {b : Bool} {I : Nat → Nat → Int32} {J : Nat → Nat → Int64} {r k : Int32} {Q : Int32 → Int64 → pm_H → Prop} (ht : pm_ti (I 46) 2 100) : pm_wc pm_code pm_meta d 83 [.ref 46, .int r, .int k] (pm_Gb L b, I, J) Q ↔ Q (if (0 ≤ r ∧ r < I 46 3) ∧ 0 ≤ k ∧ k < 2 then I 47 (2 * r.toNatClampNeg + k.toNatClampNeg) else 0) 0 (pm_Gb L b, I, J) := by
  have e : (if pm_tin r k (I 46 3) (I 46 1) then I 47 (r * I 46 1 + k).toNatClampNeg else 0) = (if (0 ≤ r ∧ r < I 46 3) ∧ 0 ≤ k ∧ k < 2 then I 47 (2 * r.toNatClampNeg + k.toNatClampNeg) else 0) := by
    by_cases h : pm_tin r k (I 46 3) (I 46 1) = true
    · rw [if_pos h, (pt_in_46 ht h).1]
      simp only [pm_tin, Bool.and_eq_true, decide_eq_true_eq, ht.1, and_assoc] at h
      rw [if_pos (by simpa only [and_assoc] using h)]
    · rw [if_neg h]
      simp only [pm_tin, Bool.and_eq_true, decide_eq_true_eq, ht.1, and_assoc] at h
      rw [if_neg (by simpa only [and_assoc] using h)]
  rw [← e]
  have htb : pm_tb (pm_Gb L b, I, J) 46 47 200 (I 46 1) := ⟨rfl, by decide, rfl, rfl, by decide, rfl⟩
  have hin : pm_tin r k (I 46 3) (I 46 1) = true → pm_in (r * I 46 1 + k) 200 = true := fun h => (pt_in_46 ht h).2
  refine pm_wc_iff (fun Q' h => ?_) Q
  refine pm_ts_get htb hin ?_
  exact h
theorem pt_get_46_0 {d L : Nat} {b : Bool} {I : Nat → Nat → Int32} {J : Nat → Nat → Int64} {r : Int32} {Q : Int32 → Int64 → pm_H → Prop} (ht : pm_ti (I 46) 2 100) : pm_wc pm_code pm_meta d 83 [.ref 46, .int r, .int 0] (pm_Gb L b, I, J) Q ↔ Q (if 0 ≤ r ∧ r < I 46 3 then I 47 (2 * r.toNatClampNeg + 0) else 0) 0 (pm_Gb L b, I, J) := by
  rw [pt_get_46 ht]
  simp only [show ((0 : Int32) ≤ 0 ∧ (0 : Int32) < 2) = True from eq_true (by decide), and_true]
  exact Iff.rfl
theorem pt_get_46_1 {d L : Nat} {b : Bool} {I : Nat → Nat → Int32} {J : Nat → Nat → Int64} {r : Int32} {Q : Int32 → Int64 → pm_H → Prop} (ht : pm_ti (I 46) 2 100) : pm_wc pm_code pm_meta d 83 [.ref 46, .int r, .int 1] (pm_Gb L b, I, J) Q ↔ Q (if 0 ≤ r ∧ r < I 46 3 then I 47 (2 * r.toNatClampNeg + 1) else 0) 0 (pm_Gb L b, I, J) := by
  rw [pt_get_46 ht]
  simp only [show ((0 : Int32) ≤ 1 ∧ (1 : Int32) < 2) = True from eq_true (by decide), and_true]
  exact Iff.rfl
theorem pt_get_49 {d L : Nat} {b : Bool} {I : Nat → Nat → Int32} {J : Nat → Nat → Int64} {r k : Int32} {Q : Int32 → Int64 → pm_H → Prop} (ht : pm_ti (I 49) 2 7) : pm_wc pm_code pm_meta d 83 [.ref 49, .int r, .int k] (pm_Gb L b, I, J) Q ↔ Q (if (0 ≤ r ∧ r < I 49 3) ∧ 0 ≤ k ∧ k < 2 then I 50 (2 * r.toNatClampNeg + k.toNatClampNeg) else 0) 0 (pm_Gb L b, I, J) := by
  have e : (if pm_tin r k (I 49 3) (I 49 1) then I 50 (r * I 49 1 + k).toNatClampNeg else 0) = (if (0 ≤ r ∧ r < I 49 3) ∧ 0 ≤ k ∧ k < 2 then I 50 (2 * r.toNatClampNeg + k.toNatClampNeg) else 0) := by
    by_cases h : pm_tin r k (I 49 3) (I 49 1) = true
    · rw [if_pos h, (pt_in_49 ht h).1]
      simp only [pm_tin, Bool.and_eq_true, decide_eq_true_eq, ht.1, and_assoc] at h
      rw [if_pos (by simpa only [and_assoc] using h)]
    · rw [if_neg h]
      simp only [pm_tin, Bool.and_eq_true, decide_eq_true_eq, ht.1, and_assoc] at h
      rw [if_neg (by simpa only [and_assoc] using h)]
  rw [← e]
  have htb : pm_tb (pm_Gb L b, I, J) 49 50 14 (I 49 1) := ⟨rfl, by decide, rfl, rfl, by decide, rfl⟩
  have hin : pm_tin r k (I 49 3) (I 49 1) = true → pm_in (r * I 49 1 + k) 14 = true := fun h => (pt_in_49 ht h).2
  refine pm_wc_iff (fun Q' h => ?_) Q
  refine pm_ts_get htb hin ?_
  exact h
theorem pt_get_49_0 {d L : Nat} {b : Bool} {I : Nat → Nat → Int32} {J : Nat → Nat → Int64} {r : Int32} {Q : Int32 → Int64 → pm_H → Prop} (ht : pm_ti (I 49) 2 7) : pm_wc pm_code pm_meta d 83 [.ref 49, .int r, .int 0] (pm_Gb L b, I, J) Q ↔ Q (if 0 ≤ r ∧ r < I 49 3 then I 50 (2 * r.toNatClampNeg + 0) else 0) 0 (pm_Gb L b, I, J) := by
  rw [pt_get_49 ht]
  simp only [show ((0 : Int32) ≤ 0 ∧ (0 : Int32) < 2) = True from eq_true (by decide), and_true]
  exact Iff.rfl
theorem pt_get_49_1 {d L : Nat} {b : Bool} {I : Nat → Nat → Int32} {J : Nat → Nat → Int64} {r : Int32} {Q : Int32 → Int64 → pm_H → Prop} (ht : pm_ti (I 49) 2 7) : pm_wc pm_code pm_meta d 83 [.ref 49, .int r, .int 1] (pm_Gb L b, I, J) Q ↔ Q (if 0 ≤ r ∧ r < I 49 3 then I 50 (2 * r.toNatClampNeg + 1) else 0) 0 (pm_Gb L b, I, J) := by
  rw [pt_get_49 ht]
  simp only [show ((0 : Int32) ≤ 1 ∧ (1 : Int32) < 2) = True from eq_true (by decide), and_true]
  exact Iff.rfl
theorem pt_get_51 {d L : Nat} {b : Bool} {I : Nat → Nat → Int32} {J : Nat → Nat → Int64} {r k : Int32} {Q : Int32 → Int64 → pm_H → Prop} (ht : pm_ti (I 51) 2 7) : pm_wc pm_code pm_meta d 83 [.ref 51, .int r, .int k] (pm_Gb L b, I, J) Q ↔ Q (if (0 ≤ r ∧ r < I 51 3) ∧ 0 ≤ k ∧ k < 2 then I 52 (2 * r.toNatClampNeg + k.toNatClampNeg) else 0) 0 (pm_Gb L b, I, J) := by
  have e : (if pm_tin r k (I 51 3) (I 51 1) then I 52 (r * I 51 1 + k).toNatClampNeg else 0) = (if (0 ≤ r ∧ r < I 51 3) ∧ 0 ≤ k ∧ k < 2 then I 52 (2 * r.toNatClampNeg + k.toNatClampNeg) else 0) := by
    by_cases h : pm_tin r k (I 51 3) (I 51 1) = true
    · rw [if_pos h, (pt_in_51 ht h).1]
      simp only [pm_tin, Bool.and_eq_true, decide_eq_true_eq, ht.1, and_assoc] at h
      rw [if_pos (by simpa only [and_assoc] using h)]
    · rw [if_neg h]
      simp only [pm_tin, Bool.and_eq_true, decide_eq_true_eq, ht.1, and_assoc] at h
      rw [if_neg (by simpa only [and_assoc] using h)]
  rw [← e]
  have htb : pm_tb (pm_Gb L b, I, J) 51 52 14 (I 51 1) := ⟨rfl, by decide, rfl, rfl, by decide, rfl⟩
  have hin : pm_tin r k (I 51 3) (I 51 1) = true → pm_in (r * I 51 1 + k) 14 = true := fun h => (pt_in_51 ht h).2
  refine pm_wc_iff (fun Q' h => ?_) Q
  refine pm_ts_get htb hin ?_
  exact h
theorem pt_get_51_0 {d L : Nat} {b : Bool} {I : Nat → Nat → Int32} {J : Nat → Nat → Int64} {r : Int32} {Q : Int32 → Int64 → pm_H → Prop} (ht : pm_ti (I 51) 2 7) : pm_wc pm_code pm_meta d 83 [.ref 51, .int r, .int 0] (pm_Gb L b, I, J) Q ↔ Q (if 0 ≤ r ∧ r < I 51 3 then I 52 (2 * r.toNatClampNeg + 0) else 0) 0 (pm_Gb L b, I, J) := by
  rw [pt_get_51 ht]
  simp only [show ((0 : Int32) ≤ 0 ∧ (0 : Int32) < 2) = True from eq_true (by decide), and_true]
  exact Iff.rfl
theorem pt_get_51_1 {d L : Nat} {b : Bool} {I : Nat → Nat → Int32} {J : Nat → Nat → Int64} {r : Int32} {Q : Int32 → Int64 → pm_H → Prop} (ht : pm_ti (I 51) 2 7) : pm_wc pm_code pm_meta d 83 [.ref 51, .int r, .int 1] (pm_Gb L b, I, J) Q ↔ Q (if 0 ≤ r ∧ r < I 51 3 then I 52 (2 * r.toNatClampNeg + 1) else 0) 0 (pm_Gb L b, I, J) := by
  rw [pt_get_51 ht]
  simp only [show ((0 : Int32) ≤ 1 ∧ (1 : Int32) < 2) = True from eq_true (by decide), and_true]
  exact Iff.rfl
theorem pt_get_55 {d L : Nat} {b : Bool} {I : Nat → Nat → Int32} {J : Nat → Nat → Int64} {r k : Int32} {Q : Int32 → Int64 → pm_H → Prop} (ht : pm_ti (I 55) 1 7) : pm_wc pm_code pm_meta d 83 [.ref 55, .int r, .int k] (pm_Gb L b, I, J) Q ↔ Q (if (0 ≤ r ∧ r < I 55 3) ∧ 0 ≤ k ∧ k < 1 then I 56 (1 * r.toNatClampNeg + k.toNatClampNeg) else 0) 0 (pm_Gb L b, I, J) := by
  have e : (if pm_tin r k (I 55 3) (I 55 1) then I 56 (r * I 55 1 + k).toNatClampNeg else 0) = (if (0 ≤ r ∧ r < I 55 3) ∧ 0 ≤ k ∧ k < 1 then I 56 (1 * r.toNatClampNeg + k.toNatClampNeg) else 0) := by
    by_cases h : pm_tin r k (I 55 3) (I 55 1) = true
    · rw [if_pos h, (pt_in_55 ht h).1]
      simp only [pm_tin, Bool.and_eq_true, decide_eq_true_eq, ht.1, and_assoc] at h
      rw [if_pos (by simpa only [and_assoc] using h)]
    · rw [if_neg h]
      simp only [pm_tin, Bool.and_eq_true, decide_eq_true_eq, ht.1, and_assoc] at h
      rw [if_neg (by simpa only [and_assoc] using h)]
  rw [← e]
  have htb : pm_tb (pm_Gb L b, I, J) 55 56 7 (I 55 1) := ⟨rfl, by decide, rfl, rfl, by decide, rfl⟩
  have hin : pm_tin r k (I 55 3) (I 55 1) = true → pm_in (r * I 55 1 + k) 7 = true := fun h => (pt_in_55 ht h).2
  refine pm_wc_iff (fun Q' h => ?_) Q
  refine pm_ts_get htb hin ?_
  exact h
theorem pt_get_55_0 {d L : Nat} {b : Bool} {I : Nat → Nat → Int32} {J : Nat → Nat → Int64} {r : Int32} {Q : Int32 → Int64 → pm_H → Prop} (ht : pm_ti (I 55) 1 7) : pm_wc pm_code pm_meta d 83 [.ref 55, .int r, .int 0] (pm_Gb L b, I, J) Q ↔ Q (if 0 ≤ r ∧ r < I 55 3 then I 56 (1 * r.toNatClampNeg + 0) else 0) 0 (pm_Gb L b, I, J) := by
  rw [pt_get_55 ht]
  simp only [show ((0 : Int32) ≤ 0 ∧ (0 : Int32) < 1) = True from eq_true (by decide), and_true]
  exact Iff.rfl
theorem pt_get_58 {d L : Nat} {b : Bool} {I : Nat → Nat → Int32} {J : Nat → Nat → Int64} {r k : Int32} {Q : Int32 → Int64 → pm_H → Prop} (ht : pm_ti (I 58) 1 3) : pm_wc pm_code pm_meta d 83 [.ref 58, .int r, .int k] (pm_Gb L b, I, J) Q ↔ Q (if (0 ≤ r ∧ r < I 58 3) ∧ 0 ≤ k ∧ k < 1 then I 59 (1 * r.toNatClampNeg + k.toNatClampNeg) else 0) 0 (pm_Gb L b, I, J) := by
  have e : (if pm_tin r k (I 58 3) (I 58 1) then I 59 (r * I 58 1 + k).toNatClampNeg else 0) = (if (0 ≤ r ∧ r < I 58 3) ∧ 0 ≤ k ∧ k < 1 then I 59 (1 * r.toNatClampNeg + k.toNatClampNeg) else 0) := by
    by_cases h : pm_tin r k (I 58 3) (I 58 1) = true
    · rw [if_pos h, (pt_in_58 ht h).1]
      simp only [pm_tin, Bool.and_eq_true, decide_eq_true_eq, ht.1, and_assoc] at h
      rw [if_pos (by simpa only [and_assoc] using h)]
    · rw [if_neg h]
      simp only [pm_tin, Bool.and_eq_true, decide_eq_true_eq, ht.1, and_assoc] at h
      rw [if_neg (by simpa only [and_assoc] using h)]
  rw [← e]
  have htb : pm_tb (pm_Gb L b, I, J) 58 59 3 (I 58 1) := ⟨rfl, by decide, rfl, rfl, by decide, rfl⟩
  have hin : pm_tin r k (I 58 3) (I 58 1) = true → pm_in (r * I 58 1 + k) 3 = true := fun h => (pt_in_58 ht h).2
  refine pm_wc_iff (fun Q' h => ?_) Q
  refine pm_ts_get htb hin ?_
  exact h
theorem pt_get_58_0 {d L : Nat} {b : Bool} {I : Nat → Nat → Int32} {J : Nat → Nat → Int64} {r : Int32} {Q : Int32 → Int64 → pm_H → Prop} (ht : pm_ti (I 58) 1 3) : pm_wc pm_code pm_meta d 83 [.ref 58, .int r, .int 0] (pm_Gb L b, I, J) Q ↔ Q (if 0 ≤ r ∧ r < I 58 3 then I 59 (1 * r.toNatClampNeg + 0) else 0) 0 (pm_Gb L b, I, J) := by
  rw [pt_get_58 ht]
  simp only [show ((0 : Int32) ≤ 0 ∧ (0 : Int32) < 1) = True from eq_true (by decide), and_true]
  exact Iff.rfl
theorem pt_get_62 {d L : Nat} {b : Bool} {I : Nat → Nat → Int32} {J : Nat → Nat → Int64} {r k : Int32} {Q : Int32 → Int64 → pm_H → Prop} (ht : pm_ti (I 62) 1 7) : pm_wc pm_code pm_meta d 83 [.ref 62, .int r, .int k] (pm_Gb L b, I, J) Q ↔ Q (if (0 ≤ r ∧ r < I 62 3) ∧ 0 ≤ k ∧ k < 1 then I 63 (1 * r.toNatClampNeg + k.toNatClampNeg) else 0) 0 (pm_Gb L b, I, J) := by
  have e : (if pm_tin r k (I 62 3) (I 62 1) then I 63 (r * I 62 1 + k).toNatClampNeg else 0) = (if (0 ≤ r ∧ r < I 62 3) ∧ 0 ≤ k ∧ k < 1 then I 63 (1 * r.toNatClampNeg + k.toNatClampNeg) else 0) := by
    by_cases h : pm_tin r k (I 62 3) (I 62 1) = true
    · rw [if_pos h, (pt_in_62 ht h).1]
      simp only [pm_tin, Bool.and_eq_true, decide_eq_true_eq, ht.1, and_assoc] at h
      rw [if_pos (by simpa only [and_assoc] using h)]
    · rw [if_neg h]
      simp only [pm_tin, Bool.and_eq_true, decide_eq_true_eq, ht.1, and_assoc] at h
      rw [if_neg (by simpa only [and_assoc] using h)]
  rw [← e]
  have htb : pm_tb (pm_Gb L b, I, J) 62 63 7 (I 62 1) := ⟨rfl, by decide, rfl, rfl, by decide, rfl⟩
  have hin : pm_tin r k (I 62 3) (I 62 1) = true → pm_in (r * I 62 1 + k) 7 = true := fun h => (pt_in_62 ht h).2
  refine pm_wc_iff (fun Q' h => ?_) Q
  refine pm_ts_get htb hin ?_
  exact h
theorem pt_get_62_0 {d L : Nat} {b : Bool} {I : Nat → Nat → Int32} {J : Nat → Nat → Int64} {r : Int32} {Q : Int32 → Int64 → pm_H → Prop} (ht : pm_ti (I 62) 1 7) : pm_wc pm_code pm_meta d 83 [.ref 62, .int r, .int 0] (pm_Gb L b, I, J) Q ↔ Q (if 0 ≤ r ∧ r < I 62 3 then I 63 (1 * r.toNatClampNeg + 0) else 0) 0 (pm_Gb L b, I, J) := by
  rw [pt_get_62 ht]
  simp only [show ((0 : Int32) ≤ 0 ∧ (0 : Int32) < 1) = True from eq_true (by decide), and_true]
  exact Iff.rfl
theorem pt_get_65 {d L : Nat} {b : Bool} {I : Nat → Nat → Int32} {J : Nat → Nat → Int64} {r k : Int32} {Q : Int32 → Int64 → pm_H → Prop} (ht : pm_ti (I 65) 1 24) : pm_wc pm_code pm_meta d 83 [.ref 65, .int r, .int k] (pm_Gb L b, I, J) Q ↔ Q (if (0 ≤ r ∧ r < I 65 3) ∧ 0 ≤ k ∧ k < 1 then I 66 (1 * r.toNatClampNeg + k.toNatClampNeg) else 0) 0 (pm_Gb L b, I, J) := by
  have e : (if pm_tin r k (I 65 3) (I 65 1) then I 66 (r * I 65 1 + k).toNatClampNeg else 0) = (if (0 ≤ r ∧ r < I 65 3) ∧ 0 ≤ k ∧ k < 1 then I 66 (1 * r.toNatClampNeg + k.toNatClampNeg) else 0) := by
    by_cases h : pm_tin r k (I 65 3) (I 65 1) = true
    · rw [if_pos h, (pt_in_65 ht h).1]
      simp only [pm_tin, Bool.and_eq_true, decide_eq_true_eq, ht.1, and_assoc] at h
      rw [if_pos (by simpa only [and_assoc] using h)]
    · rw [if_neg h]
      simp only [pm_tin, Bool.and_eq_true, decide_eq_true_eq, ht.1, and_assoc] at h
      rw [if_neg (by simpa only [and_assoc] using h)]
  rw [← e]
  have htb : pm_tb (pm_Gb L b, I, J) 65 66 24 (I 65 1) := ⟨rfl, by decide, rfl, rfl, by decide, rfl⟩
  have hin : pm_tin r k (I 65 3) (I 65 1) = true → pm_in (r * I 65 1 + k) 24 = true := fun h => (pt_in_65 ht h).2
  refine pm_wc_iff (fun Q' h => ?_) Q
  refine pm_ts_get htb hin ?_
  exact h
theorem pt_get_65_0 {d L : Nat} {b : Bool} {I : Nat → Nat → Int32} {J : Nat → Nat → Int64} {r : Int32} {Q : Int32 → Int64 → pm_H → Prop} (ht : pm_ti (I 65) 1 24) : pm_wc pm_code pm_meta d 83 [.ref 65, .int r, .int 0] (pm_Gb L b, I, J) Q ↔ Q (if 0 ≤ r ∧ r < I 65 3 then I 66 (1 * r.toNatClampNeg + 0) else 0) 0 (pm_Gb L b, I, J) := by
  rw [pt_get_65 ht]
  simp only [show ((0 : Int32) ≤ 0 ∧ (0 : Int32) < 1) = True from eq_true (by decide), and_true]
  exact Iff.rfl
theorem pt_get_68 {d L : Nat} {b : Bool} {I : Nat → Nat → Int32} {J : Nat → Nat → Int64} {r k : Int32} {Q : Int32 → Int64 → pm_H → Prop} (ht : pm_ti (I 68) 1 256) : pm_wc pm_code pm_meta d 83 [.ref 68, .int r, .int k] (pm_Gb L b, I, J) Q ↔ Q (if (0 ≤ r ∧ r < I 68 3) ∧ 0 ≤ k ∧ k < 1 then I 69 (1 * r.toNatClampNeg + k.toNatClampNeg) else 0) 0 (pm_Gb L b, I, J) := by
  have e : (if pm_tin r k (I 68 3) (I 68 1) then I 69 (r * I 68 1 + k).toNatClampNeg else 0) = (if (0 ≤ r ∧ r < I 68 3) ∧ 0 ≤ k ∧ k < 1 then I 69 (1 * r.toNatClampNeg + k.toNatClampNeg) else 0) := by
    by_cases h : pm_tin r k (I 68 3) (I 68 1) = true
    · rw [if_pos h, (pt_in_68 ht h).1]
      simp only [pm_tin, Bool.and_eq_true, decide_eq_true_eq, ht.1, and_assoc] at h
      rw [if_pos (by simpa only [and_assoc] using h)]
    · rw [if_neg h]
      simp only [pm_tin, Bool.and_eq_true, decide_eq_true_eq, ht.1, and_assoc] at h
      rw [if_neg (by simpa only [and_assoc] using h)]
  rw [← e]
  have htb : pm_tb (pm_Gb L b, I, J) 68 69 256 (I 68 1) := ⟨rfl, by decide, rfl, rfl, by decide, rfl⟩
  have hin : pm_tin r k (I 68 3) (I 68 1) = true → pm_in (r * I 68 1 + k) 256 = true := fun h => (pt_in_68 ht h).2
  refine pm_wc_iff (fun Q' h => ?_) Q
  refine pm_ts_get htb hin ?_
  exact h
theorem pt_get_68_0 {d L : Nat} {b : Bool} {I : Nat → Nat → Int32} {J : Nat → Nat → Int64} {r : Int32} {Q : Int32 → Int64 → pm_H → Prop} (ht : pm_ti (I 68) 1 256) : pm_wc pm_code pm_meta d 83 [.ref 68, .int r, .int 0] (pm_Gb L b, I, J) Q ↔ Q (if 0 ≤ r ∧ r < I 68 3 then I 69 (1 * r.toNatClampNeg + 0) else 0) 0 (pm_Gb L b, I, J) := by
  rw [pt_get_68 ht]
  simp only [show ((0 : Int32) ≤ 0 ∧ (0 : Int32) < 1) = True from eq_true (by decide), and_true]
  exact Iff.rfl
theorem pt_get_71 {d L : Nat} {b : Bool} {I : Nat → Nat → Int32} {J : Nat → Nat → Int64} {r k : Int32} {Q : Int32 → Int64 → pm_H → Prop} (ht : pm_ti (I 71) 2 4) : pm_wc pm_code pm_meta d 83 [.ref 71, .int r, .int k] (pm_Gb L b, I, J) Q ↔ Q (if (0 ≤ r ∧ r < I 71 3) ∧ 0 ≤ k ∧ k < 2 then I 72 (2 * r.toNatClampNeg + k.toNatClampNeg) else 0) 0 (pm_Gb L b, I, J) := by
  have e : (if pm_tin r k (I 71 3) (I 71 1) then I 72 (r * I 71 1 + k).toNatClampNeg else 0) = (if (0 ≤ r ∧ r < I 71 3) ∧ 0 ≤ k ∧ k < 2 then I 72 (2 * r.toNatClampNeg + k.toNatClampNeg) else 0) := by
    by_cases h : pm_tin r k (I 71 3) (I 71 1) = true
    · rw [if_pos h, (pt_in_71 ht h).1]
      simp only [pm_tin, Bool.and_eq_true, decide_eq_true_eq, ht.1, and_assoc] at h
      rw [if_pos (by simpa only [and_assoc] using h)]
    · rw [if_neg h]
      simp only [pm_tin, Bool.and_eq_true, decide_eq_true_eq, ht.1, and_assoc] at h
      rw [if_neg (by simpa only [and_assoc] using h)]
  rw [← e]
  have htb : pm_tb (pm_Gb L b, I, J) 71 72 8 (I 71 1) := ⟨rfl, by decide, rfl, rfl, by decide, rfl⟩
  have hin : pm_tin r k (I 71 3) (I 71 1) = true → pm_in (r * I 71 1 + k) 8 = true := fun h => (pt_in_71 ht h).2
  refine pm_wc_iff (fun Q' h => ?_) Q
  refine pm_ts_get htb hin ?_
  exact h
theorem pt_get_71_0 {d L : Nat} {b : Bool} {I : Nat → Nat → Int32} {J : Nat → Nat → Int64} {r : Int32} {Q : Int32 → Int64 → pm_H → Prop} (ht : pm_ti (I 71) 2 4) : pm_wc pm_code pm_meta d 83 [.ref 71, .int r, .int 0] (pm_Gb L b, I, J) Q ↔ Q (if 0 ≤ r ∧ r < I 71 3 then I 72 (2 * r.toNatClampNeg + 0) else 0) 0 (pm_Gb L b, I, J) := by
  rw [pt_get_71 ht]
  simp only [show ((0 : Int32) ≤ 0 ∧ (0 : Int32) < 2) = True from eq_true (by decide), and_true]
  exact Iff.rfl
theorem pt_get_71_1 {d L : Nat} {b : Bool} {I : Nat → Nat → Int32} {J : Nat → Nat → Int64} {r : Int32} {Q : Int32 → Int64 → pm_H → Prop} (ht : pm_ti (I 71) 2 4) : pm_wc pm_code pm_meta d 83 [.ref 71, .int r, .int 1] (pm_Gb L b, I, J) Q ↔ Q (if 0 ≤ r ∧ r < I 71 3 then I 72 (2 * r.toNatClampNeg + 1) else 0) 0 (pm_Gb L b, I, J) := by
  rw [pt_get_71 ht]
  simp only [show ((0 : Int32) ≤ 1 ∧ (1 : Int32) < 2) = True from eq_true (by decide), and_true]
  exact Iff.rfl
theorem pt_get_73 {d L : Nat} {b : Bool} {I : Nat → Nat → Int32} {J : Nat → Nat → Int64} {r k : Int32} {Q : Int32 → Int64 → pm_H → Prop} (ht : pm_ti (I 73) 40 4) : pm_wc pm_code pm_meta d 83 [.ref 73, .int r, .int k] (pm_Gb L b, I, J) Q ↔ Q (if (0 ≤ r ∧ r < I 73 3) ∧ 0 ≤ k ∧ k < 40 then I 74 (40 * r.toNatClampNeg + k.toNatClampNeg) else 0) 0 (pm_Gb L b, I, J) := by
  have e : (if pm_tin r k (I 73 3) (I 73 1) then I 74 (r * I 73 1 + k).toNatClampNeg else 0) = (if (0 ≤ r ∧ r < I 73 3) ∧ 0 ≤ k ∧ k < 40 then I 74 (40 * r.toNatClampNeg + k.toNatClampNeg) else 0) := by
    by_cases h : pm_tin r k (I 73 3) (I 73 1) = true
    · rw [if_pos h, (pt_in_73 ht h).1]
      simp only [pm_tin, Bool.and_eq_true, decide_eq_true_eq, ht.1, and_assoc] at h
      rw [if_pos (by simpa only [and_assoc] using h)]
    · rw [if_neg h]
      simp only [pm_tin, Bool.and_eq_true, decide_eq_true_eq, ht.1, and_assoc] at h
      rw [if_neg (by simpa only [and_assoc] using h)]
  rw [← e]
  have htb : pm_tb (pm_Gb L b, I, J) 73 74 160 (I 73 1) := ⟨rfl, by decide, rfl, rfl, by decide, rfl⟩
  have hin : pm_tin r k (I 73 3) (I 73 1) = true → pm_in (r * I 73 1 + k) 160 = true := fun h => (pt_in_73 ht h).2
  refine pm_wc_iff (fun Q' h => ?_) Q
  refine pm_ts_get htb hin ?_
  exact h
theorem pt_get_75 {d L : Nat} {b : Bool} {I : Nat → Nat → Int32} {J : Nat → Nat → Int64} {r k : Int32} {Q : Int32 → Int64 → pm_H → Prop} (ht : pm_ti (I 75) 3 4) : pm_wc pm_code pm_meta d 83 [.ref 75, .int r, .int k] (pm_Gb L b, I, J) Q ↔ Q (if (0 ≤ r ∧ r < I 75 3) ∧ 0 ≤ k ∧ k < 3 then I 76 (3 * r.toNatClampNeg + k.toNatClampNeg) else 0) 0 (pm_Gb L b, I, J) := by
  have e : (if pm_tin r k (I 75 3) (I 75 1) then I 76 (r * I 75 1 + k).toNatClampNeg else 0) = (if (0 ≤ r ∧ r < I 75 3) ∧ 0 ≤ k ∧ k < 3 then I 76 (3 * r.toNatClampNeg + k.toNatClampNeg) else 0) := by
    by_cases h : pm_tin r k (I 75 3) (I 75 1) = true
    · rw [if_pos h, (pt_in_75 ht h).1]
      simp only [pm_tin, Bool.and_eq_true, decide_eq_true_eq, ht.1, and_assoc] at h
      rw [if_pos (by simpa only [and_assoc] using h)]
    · rw [if_neg h]
      simp only [pm_tin, Bool.and_eq_true, decide_eq_true_eq, ht.1, and_assoc] at h
      rw [if_neg (by simpa only [and_assoc] using h)]
  rw [← e]
  have htb : pm_tb (pm_Gb L b, I, J) 75 76 12 (I 75 1) := ⟨rfl, by decide, rfl, rfl, by decide, rfl⟩
  have hin : pm_tin r k (I 75 3) (I 75 1) = true → pm_in (r * I 75 1 + k) 12 = true := fun h => (pt_in_75 ht h).2
  refine pm_wc_iff (fun Q' h => ?_) Q
  refine pm_ts_get htb hin ?_
  exact h
theorem pt_get_75_0 {d L : Nat} {b : Bool} {I : Nat → Nat → Int32} {J : Nat → Nat → Int64} {r : Int32} {Q : Int32 → Int64 → pm_H → Prop} (ht : pm_ti (I 75) 3 4) : pm_wc pm_code pm_meta d 83 [.ref 75, .int r, .int 0] (pm_Gb L b, I, J) Q ↔ Q (if 0 ≤ r ∧ r < I 75 3 then I 76 (3 * r.toNatClampNeg + 0) else 0) 0 (pm_Gb L b, I, J) := by
  rw [pt_get_75 ht]
  simp only [show ((0 : Int32) ≤ 0 ∧ (0 : Int32) < 3) = True from eq_true (by decide), and_true]
  exact Iff.rfl
theorem pt_get_75_1 {d L : Nat} {b : Bool} {I : Nat → Nat → Int32} {J : Nat → Nat → Int64} {r : Int32} {Q : Int32 → Int64 → pm_H → Prop} (ht : pm_ti (I 75) 3 4) : pm_wc pm_code pm_meta d 83 [.ref 75, .int r, .int 1] (pm_Gb L b, I, J) Q ↔ Q (if 0 ≤ r ∧ r < I 75 3 then I 76 (3 * r.toNatClampNeg + 1) else 0) 0 (pm_Gb L b, I, J) := by
  rw [pt_get_75 ht]
  simp only [show ((0 : Int32) ≤ 1 ∧ (1 : Int32) < 3) = True from eq_true (by decide), and_true]
  exact Iff.rfl
theorem pt_get_75_2 {d L : Nat} {b : Bool} {I : Nat → Nat → Int32} {J : Nat → Nat → Int64} {r : Int32} {Q : Int32 → Int64 → pm_H → Prop} (ht : pm_ti (I 75) 3 4) : pm_wc pm_code pm_meta d 83 [.ref 75, .int r, .int 2] (pm_Gb L b, I, J) Q ↔ Q (if 0 ≤ r ∧ r < I 75 3 then I 76 (3 * r.toNatClampNeg + 2) else 0) 0 (pm_Gb L b, I, J) := by
  rw [pt_get_75 ht]
  simp only [show ((0 : Int32) ≤ 2 ∧ (2 : Int32) < 3) = True from eq_true (by decide), and_true]
  exact Iff.rfl
theorem pt_get_77 {d L : Nat} {b : Bool} {I : Nat → Nat → Int32} {J : Nat → Nat → Int64} {r k : Int32} {Q : Int32 → Int64 → pm_H → Prop} (ht : pm_ti (I 77) 1 30) : pm_wc pm_code pm_meta d 83 [.ref 77, .int r, .int k] (pm_Gb L b, I, J) Q ↔ Q (if (0 ≤ r ∧ r < I 77 3) ∧ 0 ≤ k ∧ k < 1 then I 78 (1 * r.toNatClampNeg + k.toNatClampNeg) else 0) 0 (pm_Gb L b, I, J) := by
  have e : (if pm_tin r k (I 77 3) (I 77 1) then I 78 (r * I 77 1 + k).toNatClampNeg else 0) = (if (0 ≤ r ∧ r < I 77 3) ∧ 0 ≤ k ∧ k < 1 then I 78 (1 * r.toNatClampNeg + k.toNatClampNeg) else 0) := by
    by_cases h : pm_tin r k (I 77 3) (I 77 1) = true
    · rw [if_pos h, (pt_in_77 ht h).1]
      simp only [pm_tin, Bool.and_eq_true, decide_eq_true_eq, ht.1, and_assoc] at h
      rw [if_pos (by simpa only [and_assoc] using h)]
    · rw [if_neg h]
      simp only [pm_tin, Bool.and_eq_true, decide_eq_true_eq, ht.1, and_assoc] at h
      rw [if_neg (by simpa only [and_assoc] using h)]
  rw [← e]
  have htb : pm_tb (pm_Gb L b, I, J) 77 78 30 (I 77 1) := ⟨rfl, by decide, rfl, rfl, by decide, rfl⟩
  have hin : pm_tin r k (I 77 3) (I 77 1) = true → pm_in (r * I 77 1 + k) 30 = true := fun h => (pt_in_77 ht h).2
  refine pm_wc_iff (fun Q' h => ?_) Q
  refine pm_ts_get htb hin ?_
  exact h
theorem pt_get_77_0 {d L : Nat} {b : Bool} {I : Nat → Nat → Int32} {J : Nat → Nat → Int64} {r : Int32} {Q : Int32 → Int64 → pm_H → Prop} (ht : pm_ti (I 77) 1 30) : pm_wc pm_code pm_meta d 83 [.ref 77, .int r, .int 0] (pm_Gb L b, I, J) Q ↔ Q (if 0 ≤ r ∧ r < I 77 3 then I 78 (1 * r.toNatClampNeg + 0) else 0) 0 (pm_Gb L b, I, J) := by
  rw [pt_get_77 ht]
  simp only [show ((0 : Int32) ≤ 0 ∧ (0 : Int32) < 1) = True from eq_true (by decide), and_true]
  exact Iff.rfl
theorem pt_set_10 {d L : Nat} {b : Bool} {I : Nat → Nat → Int32} {J : Nat → Nat → Int64} {r k v : Int32} {Q : Int32 → Int64 → pm_H → Prop} (ht : pm_ti (I 10) 10 10) : pm_wc pm_code pm_meta d 84 [.ref 10, .int r, .int k, .int v] (pm_Gb L b, I, J) Q ↔ Q 0 0 (pm_Gb L b, (if (0 ≤ r ∧ r < I 10 3) ∧ 0 ≤ k ∧ k < 10 then pm_u I 11 (10 * r.toNatClampNeg + k.toNatClampNeg) v else I), J) := by
  have e : (if pm_tin r k (I 10 3) (I 10 1) then (pm_Gb L b, pm_u I 11 (r * I 10 1 + k).toNatClampNeg v, J) else (pm_Gb L b, I, J)) = (pm_Gb L b, (if (0 ≤ r ∧ r < I 10 3) ∧ 0 ≤ k ∧ k < 10 then pm_u I 11 (10 * r.toNatClampNeg + k.toNatClampNeg) v else I), J) := by
    by_cases h : pm_tin r k (I 10 3) (I 10 1) = true
    · rw [if_pos h, (pt_in_10 ht h).1]
      simp only [pm_tin, Bool.and_eq_true, decide_eq_true_eq, ht.1, and_assoc] at h
      rw [if_pos (by simpa only [and_assoc] using h)]
    · rw [if_neg h]
      simp only [pm_tin, Bool.and_eq_true, decide_eq_true_eq, ht.1, and_assoc] at h
      rw [if_neg (by simpa only [and_assoc] using h)]
  rw [← e]
  have htb : pm_tb (pm_Gb L b, I, J) 10 11 100 (I 10 1) := ⟨rfl, by decide, rfl, rfl, by decide, rfl⟩
  have hin : pm_tin r k (I 10 3) (I 10 1) = true → pm_in (r * I 10 1 + k) 100 = true := fun h => (pt_in_10 ht h).2
  refine pm_wc_iff (fun Q' h => ?_) Q
  refine pm_ts_set htb hin ?_
  exact h
theorem pt_set_10_0 {d L : Nat} {b : Bool} {I : Nat → Nat → Int32} {J : Nat → Nat → Int64} {r v : Int32} {Q : Int32 → Int64 → pm_H → Prop} (ht : pm_ti (I 10) 10 10) : pm_wc pm_code pm_meta d 84 [.ref 10, .int r, .int 0, .int v] (pm_Gb L b, I, J) Q ↔ Q 0 0 (pm_Gb L b, (if 0 ≤ r ∧ r < I 10 3 then pm_u I 11 (10 * r.toNatClampNeg + 0) v else I), J) := by
  rw [pt_set_10 ht]
  simp only [show ((0 : Int32) ≤ 0 ∧ (0 : Int32) < 10) = True from eq_true (by decide), and_true]
  exact Iff.rfl
theorem pt_set_10_1 {d L : Nat} {b : Bool} {I : Nat → Nat → Int32} {J : Nat → Nat → Int64} {r v : Int32} {Q : Int32 → Int64 → pm_H → Prop} (ht : pm_ti (I 10) 10 10) : pm_wc pm_code pm_meta d 84 [.ref 10, .int r, .int 1, .int v] (pm_Gb L b, I, J) Q ↔ Q 0 0 (pm_Gb L b, (if 0 ≤ r ∧ r < I 10 3 then pm_u I 11 (10 * r.toNatClampNeg + 1) v else I), J) := by
  rw [pt_set_10 ht]
  simp only [show ((0 : Int32) ≤ 1 ∧ (1 : Int32) < 10) = True from eq_true (by decide), and_true]
  exact Iff.rfl
theorem pt_set_10_2 {d L : Nat} {b : Bool} {I : Nat → Nat → Int32} {J : Nat → Nat → Int64} {r v : Int32} {Q : Int32 → Int64 → pm_H → Prop} (ht : pm_ti (I 10) 10 10) : pm_wc pm_code pm_meta d 84 [.ref 10, .int r, .int 2, .int v] (pm_Gb L b, I, J) Q ↔ Q 0 0 (pm_Gb L b, (if 0 ≤ r ∧ r < I 10 3 then pm_u I 11 (10 * r.toNatClampNeg + 2) v else I), J) := by
  rw [pt_set_10 ht]
  simp only [show ((0 : Int32) ≤ 2 ∧ (2 : Int32) < 10) = True from eq_true (by decide), and_true]
  exact Iff.rfl
theorem pt_set_10_3 {d L : Nat} {b : Bool} {I : Nat → Nat → Int32} {J : Nat → Nat → Int64} {r v : Int32} {Q : Int32 → Int64 → pm_H → Prop} (ht : pm_ti (I 10) 10 10) : pm_wc pm_code pm_meta d 84 [.ref 10, .int r, .int 3, .int v] (pm_Gb L b, I, J) Q ↔ Q 0 0 (pm_Gb L b, (if 0 ≤ r ∧ r < I 10 3 then pm_u I 11 (10 * r.toNatClampNeg + 3) v else I), J) := by
  rw [pt_set_10 ht]
  simp only [show ((0 : Int32) ≤ 3 ∧ (3 : Int32) < 10) = True from eq_true (by decide), and_true]
  exact Iff.rfl
theorem pt_set_10_4 {d L : Nat} {b : Bool} {I : Nat → Nat → Int32} {J : Nat → Nat → Int64} {r v : Int32} {Q : Int32 → Int64 → pm_H → Prop} (ht : pm_ti (I 10) 10 10) : pm_wc pm_code pm_meta d 84 [.ref 10, .int r, .int 4, .int v] (pm_Gb L b, I, J) Q ↔ Q 0 0 (pm_Gb L b, (if 0 ≤ r ∧ r < I 10 3 then pm_u I 11 (10 * r.toNatClampNeg + 4) v else I), J) := by
  rw [pt_set_10 ht]
  simp only [show ((0 : Int32) ≤ 4 ∧ (4 : Int32) < 10) = True from eq_true (by decide), and_true]
  exact Iff.rfl
theorem pt_set_10_5 {d L : Nat} {b : Bool} {I : Nat → Nat → Int32} {J : Nat → Nat → Int64} {r v : Int32} {Q : Int32 → Int64 → pm_H → Prop} (ht : pm_ti (I 10) 10 10) : pm_wc pm_code pm_meta d 84 [.ref 10, .int r, .int 5, .int v] (pm_Gb L b, I, J) Q ↔ Q 0 0 (pm_Gb L b, (if 0 ≤ r ∧ r < I 10 3 then pm_u I 11 (10 * r.toNatClampNeg + 5) v else I), J) := by
  rw [pt_set_10 ht]
  simp only [show ((0 : Int32) ≤ 5 ∧ (5 : Int32) < 10) = True from eq_true (by decide), and_true]
  exact Iff.rfl
theorem pt_set_10_6 {d L : Nat} {b : Bool} {I : Nat → Nat → Int32} {J : Nat → Nat → Int64} {r v : Int32} {Q : Int32 → Int64 → pm_H → Prop} (ht : pm_ti (I 10) 10 10) : pm_wc pm_code pm_meta d 84 [.ref 10, .int r, .int 6, .int v] (pm_Gb L b, I, J) Q ↔ Q 0 0 (pm_Gb L b, (if 0 ≤ r ∧ r < I 10 3 then pm_u I 11 (10 * r.toNatClampNeg + 6) v else I), J) := by
  rw [pt_set_10 ht]
  simp only [show ((0 : Int32) ≤ 6 ∧ (6 : Int32) < 10) = True from eq_true (by decide), and_true]
  exact Iff.rfl
theorem pt_set_10_7 {d L : Nat} {b : Bool} {I : Nat → Nat → Int32} {J : Nat → Nat → Int64} {r v : Int32} {Q : Int32 → Int64 → pm_H → Prop} (ht : pm_ti (I 10) 10 10) : pm_wc pm_code pm_meta d 84 [.ref 10, .int r, .int 7, .int v] (pm_Gb L b, I, J) Q ↔ Q 0 0 (pm_Gb L b, (if 0 ≤ r ∧ r < I 10 3 then pm_u I 11 (10 * r.toNatClampNeg + 7) v else I), J) := by
  rw [pt_set_10 ht]
  simp only [show ((0 : Int32) ≤ 7 ∧ (7 : Int32) < 10) = True from eq_true (by decide), and_true]
  exact Iff.rfl
theorem pt_set_10_8 {d L : Nat} {b : Bool} {I : Nat → Nat → Int32} {J : Nat → Nat → Int64} {r v : Int32} {Q : Int32 → Int64 → pm_H → Prop} (ht : pm_ti (I 10) 10 10) : pm_wc pm_code pm_meta d 84 [.ref 10, .int r, .int 8, .int v] (pm_Gb L b, I, J) Q ↔ Q 0 0 (pm_Gb L b, (if 0 ≤ r ∧ r < I 10 3 then pm_u I 11 (10 * r.toNatClampNeg + 8) v else I), J) := by
  rw [pt_set_10 ht]
  simp only [show ((0 : Int32) ≤ 8 ∧ (8 : Int32) < 10) = True from eq_true (by decide), and_true]
  exact Iff.rfl
theorem pt_set_10_9 {d L : Nat} {b : Bool} {I : Nat → Nat → Int32} {J : Nat → Nat → Int64} {r v : Int32} {Q : Int32 → Int64 → pm_H → Prop} (ht : pm_ti (I 10) 10 10) : pm_wc pm_code pm_meta d 84 [.ref 10, .int r, .int 9, .int v] (pm_Gb L b, I, J) Q ↔ Q 0 0 (pm_Gb L b, (if 0 ≤ r ∧ r < I 10 3 then pm_u I 11 (10 * r.toNatClampNeg + 9) v else I), J) := by
  rw [pt_set_10 ht]
  simp only [show ((0 : Int32) ≤ 9 ∧ (9 : Int32) < 10) = True from eq_true (by decide), and_true]
  exact Iff.rfl
theorem pt_set_12 {d L : Nat} {b : Bool} {I : Nat → Nat → Int32} {J : Nat → Nat → Int64} {r k v : Int32} {Q : Int32 → Int64 → pm_H → Prop} (ht : pm_ti (I 12) 2 16) : pm_wc pm_code pm_meta d 84 [.ref 12, .int r, .int k, .int v] (pm_Gb L b, I, J) Q ↔ Q 0 0 (pm_Gb L b, (if (0 ≤ r ∧ r < I 12 3) ∧ 0 ≤ k ∧ k < 2 then pm_u I 13 (2 * r.toNatClampNeg + k.toNatClampNeg) v else I), J) := by
  have e : (if pm_tin r k (I 12 3) (I 12 1) then (pm_Gb L b, pm_u I 13 (r * I 12 1 + k).toNatClampNeg v, J) else (pm_Gb L b, I, J)) = (pm_Gb L b, (if (0 ≤ r ∧ r < I 12 3) ∧ 0 ≤ k ∧ k < 2 then pm_u I 13 (2 * r.toNatClampNeg + k.toNatClampNeg) v else I), J) := by
    by_cases h : pm_tin r k (I 12 3) (I 12 1) = true
    · rw [if_pos h, (pt_in_12 ht h).1]
      simp only [pm_tin, Bool.and_eq_true, decide_eq_true_eq, ht.1, and_assoc] at h
      rw [if_pos (by simpa only [and_assoc] using h)]
    · rw [if_neg h]
      simp only [pm_tin, Bool.and_eq_true, decide_eq_true_eq, ht.1, and_assoc] at h
      rw [if_neg (by simpa only [and_assoc] using h)]
  rw [← e]
  have htb : pm_tb (pm_Gb L b, I, J) 12 13 32 (I 12 1) := ⟨rfl, by decide, rfl, rfl, by decide, rfl⟩
  have hin : pm_tin r k (I 12 3) (I 12 1) = true → pm_in (r * I 12 1 + k) 32 = true := fun h => (pt_in_12 ht h).2
  refine pm_wc_iff (fun Q' h => ?_) Q
  refine pm_ts_set htb hin ?_
  exact h
theorem pt_set_12_0 {d L : Nat} {b : Bool} {I : Nat → Nat → Int32} {J : Nat → Nat → Int64} {r v : Int32} {Q : Int32 → Int64 → pm_H → Prop} (ht : pm_ti (I 12) 2 16) : pm_wc pm_code pm_meta d 84 [.ref 12, .int r, .int 0, .int v] (pm_Gb L b, I, J) Q ↔ Q 0 0 (pm_Gb L b, (if 0 ≤ r ∧ r < I 12 3 then pm_u I 13 (2 * r.toNatClampNeg + 0) v else I), J) := by
  rw [pt_set_12 ht]
  simp only [show ((0 : Int32) ≤ 0 ∧ (0 : Int32) < 2) = True from eq_true (by decide), and_true]
  exact Iff.rfl
theorem pt_set_12_1 {d L : Nat} {b : Bool} {I : Nat → Nat → Int32} {J : Nat → Nat → Int64} {r v : Int32} {Q : Int32 → Int64 → pm_H → Prop} (ht : pm_ti (I 12) 2 16) : pm_wc pm_code pm_meta d 84 [.ref 12, .int r, .int 1, .int v] (pm_Gb L b, I, J) Q ↔ Q 0 0 (pm_Gb L b, (if 0 ≤ r ∧ r < I 12 3 then pm_u I 13 (2 * r.toNatClampNeg + 1) v else I), J) := by
  rw [pt_set_12 ht]
  simp only [show ((0 : Int32) ≤ 1 ∧ (1 : Int32) < 2) = True from eq_true (by decide), and_true]
  exact Iff.rfl
theorem pt_set_14 {d L : Nat} {b : Bool} {I : Nat → Nat → Int32} {J : Nat → Nat → Int64} {r k v : Int32} {Q : Int32 → Int64 → pm_H → Prop} (ht : pm_ti (I 14) 10 8) : pm_wc pm_code pm_meta d 84 [.ref 14, .int r, .int k, .int v] (pm_Gb L b, I, J) Q ↔ Q 0 0 (pm_Gb L b, (if (0 ≤ r ∧ r < I 14 3) ∧ 0 ≤ k ∧ k < 10 then pm_u I 15 (10 * r.toNatClampNeg + k.toNatClampNeg) v else I), J) := by
  have e : (if pm_tin r k (I 14 3) (I 14 1) then (pm_Gb L b, pm_u I 15 (r * I 14 1 + k).toNatClampNeg v, J) else (pm_Gb L b, I, J)) = (pm_Gb L b, (if (0 ≤ r ∧ r < I 14 3) ∧ 0 ≤ k ∧ k < 10 then pm_u I 15 (10 * r.toNatClampNeg + k.toNatClampNeg) v else I), J) := by
    by_cases h : pm_tin r k (I 14 3) (I 14 1) = true
    · rw [if_pos h, (pt_in_14 ht h).1]
      simp only [pm_tin, Bool.and_eq_true, decide_eq_true_eq, ht.1, and_assoc] at h
      rw [if_pos (by simpa only [and_assoc] using h)]
    · rw [if_neg h]
      simp only [pm_tin, Bool.and_eq_true, decide_eq_true_eq, ht.1, and_assoc] at h
      rw [if_neg (by simpa only [and_assoc] using h)]
  rw [← e]
  have htb : pm_tb (pm_Gb L b, I, J) 14 15 80 (I 14 1) := ⟨rfl, by decide, rfl, rfl, by decide, rfl⟩
  have hin : pm_tin r k (I 14 3) (I 14 1) = true → pm_in (r * I 14 1 + k) 80 = true := fun h => (pt_in_14 ht h).2
  refine pm_wc_iff (fun Q' h => ?_) Q
  refine pm_ts_set htb hin ?_
  exact h
theorem pt_set_14_0 {d L : Nat} {b : Bool} {I : Nat → Nat → Int32} {J : Nat → Nat → Int64} {r v : Int32} {Q : Int32 → Int64 → pm_H → Prop} (ht : pm_ti (I 14) 10 8) : pm_wc pm_code pm_meta d 84 [.ref 14, .int r, .int 0, .int v] (pm_Gb L b, I, J) Q ↔ Q 0 0 (pm_Gb L b, (if 0 ≤ r ∧ r < I 14 3 then pm_u I 15 (10 * r.toNatClampNeg + 0) v else I), J) := by
  rw [pt_set_14 ht]
  simp only [show ((0 : Int32) ≤ 0 ∧ (0 : Int32) < 10) = True from eq_true (by decide), and_true]
  exact Iff.rfl
theorem pt_set_14_1 {d L : Nat} {b : Bool} {I : Nat → Nat → Int32} {J : Nat → Nat → Int64} {r v : Int32} {Q : Int32 → Int64 → pm_H → Prop} (ht : pm_ti (I 14) 10 8) : pm_wc pm_code pm_meta d 84 [.ref 14, .int r, .int 1, .int v] (pm_Gb L b, I, J) Q ↔ Q 0 0 (pm_Gb L b, (if 0 ≤ r ∧ r < I 14 3 then pm_u I 15 (10 * r.toNatClampNeg + 1) v else I), J) := by
  rw [pt_set_14 ht]
  simp only [show ((0 : Int32) ≤ 1 ∧ (1 : Int32) < 10) = True from eq_true (by decide), and_true]
  exact Iff.rfl
theorem pt_set_14_2 {d L : Nat} {b : Bool} {I : Nat → Nat → Int32} {J : Nat → Nat → Int64} {r v : Int32} {Q : Int32 → Int64 → pm_H → Prop} (ht : pm_ti (I 14) 10 8) : pm_wc pm_code pm_meta d 84 [.ref 14, .int r, .int 2, .int v] (pm_Gb L b, I, J) Q ↔ Q 0 0 (pm_Gb L b, (if 0 ≤ r ∧ r < I 14 3 then pm_u I 15 (10 * r.toNatClampNeg + 2) v else I), J) := by
  rw [pt_set_14 ht]
  simp only [show ((0 : Int32) ≤ 2 ∧ (2 : Int32) < 10) = True from eq_true (by decide), and_true]
  exact Iff.rfl
theorem pt_set_14_3 {d L : Nat} {b : Bool} {I : Nat → Nat → Int32} {J : Nat → Nat → Int64} {r v : Int32} {Q : Int32 → Int64 → pm_H → Prop} (ht : pm_ti (I 14) 10 8) : pm_wc pm_code pm_meta d 84 [.ref 14, .int r, .int 3, .int v] (pm_Gb L b, I, J) Q ↔ Q 0 0 (pm_Gb L b, (if 0 ≤ r ∧ r < I 14 3 then pm_u I 15 (10 * r.toNatClampNeg + 3) v else I), J) := by
  rw [pt_set_14 ht]
  simp only [show ((0 : Int32) ≤ 3 ∧ (3 : Int32) < 10) = True from eq_true (by decide), and_true]
  exact Iff.rfl
theorem pt_set_14_4 {d L : Nat} {b : Bool} {I : Nat → Nat → Int32} {J : Nat → Nat → Int64} {r v : Int32} {Q : Int32 → Int64 → pm_H → Prop} (ht : pm_ti (I 14) 10 8) : pm_wc pm_code pm_meta d 84 [.ref 14, .int r, .int 4, .int v] (pm_Gb L b, I, J) Q ↔ Q 0 0 (pm_Gb L b, (if 0 ≤ r ∧ r < I 14 3 then pm_u I 15 (10 * r.toNatClampNeg + 4) v else I), J) := by
  rw [pt_set_14 ht]
  simp only [show ((0 : Int32) ≤ 4 ∧ (4 : Int32) < 10) = True from eq_true (by decide), and_true]
  exact Iff.rfl
theorem pt_set_14_5 {d L : Nat} {b : Bool} {I : Nat → Nat → Int32} {J : Nat → Nat → Int64} {r v : Int32} {Q : Int32 → Int64 → pm_H → Prop} (ht : pm_ti (I 14) 10 8) : pm_wc pm_code pm_meta d 84 [.ref 14, .int r, .int 5, .int v] (pm_Gb L b, I, J) Q ↔ Q 0 0 (pm_Gb L b, (if 0 ≤ r ∧ r < I 14 3 then pm_u I 15 (10 * r.toNatClampNeg + 5) v else I), J) := by
  rw [pt_set_14 ht]
  simp only [show ((0 : Int32) ≤ 5 ∧ (5 : Int32) < 10) = True from eq_true (by decide), and_true]
  exact Iff.rfl
theorem pt_set_14_6 {d L : Nat} {b : Bool} {I : Nat → Nat → Int32} {J : Nat → Nat → Int64} {r v : Int32} {Q : Int32 → Int64 → pm_H → Prop} (ht : pm_ti (I 14) 10 8) : pm_wc pm_code pm_meta d 84 [.ref 14, .int r, .int 6, .int v] (pm_Gb L b, I, J) Q ↔ Q 0 0 (pm_Gb L b, (if 0 ≤ r ∧ r < I 14 3 then pm_u I 15 (10 * r.toNatClampNeg + 6) v else I), J) := by
  rw [pt_set_14 ht]
  simp only [show ((0 : Int32) ≤ 6 ∧ (6 : Int32) < 10) = True from eq_true (by decide), and_true]
  exact Iff.rfl
theorem pt_set_14_7 {d L : Nat} {b : Bool} {I : Nat → Nat → Int32} {J : Nat → Nat → Int64} {r v : Int32} {Q : Int32 → Int64 → pm_H → Prop} (ht : pm_ti (I 14) 10 8) : pm_wc pm_code pm_meta d 84 [.ref 14, .int r, .int 7, .int v] (pm_Gb L b, I, J) Q ↔ Q 0 0 (pm_Gb L b, (if 0 ≤ r ∧ r < I 14 3 then pm_u I 15 (10 * r.toNatClampNeg + 7) v else I), J) := by
  rw [pt_set_14 ht]
  simp only [show ((0 : Int32) ≤ 7 ∧ (7 : Int32) < 10) = True from eq_true (by decide), and_true]
  exact Iff.rfl
theorem pt_set_14_8 {d L : Nat} {b : Bool} {I : Nat → Nat → Int32} {J : Nat → Nat → Int64} {r v : Int32} {Q : Int32 → Int64 → pm_H → Prop} (ht : pm_ti (I 14) 10 8) : pm_wc pm_code pm_meta d 84 [.ref 14, .int r, .int 8, .int v] (pm_Gb L b, I, J) Q ↔ Q 0 0 (pm_Gb L b, (if 0 ≤ r ∧ r < I 14 3 then pm_u I 15 (10 * r.toNatClampNeg + 8) v else I), J) := by
  rw [pt_set_14 ht]
  simp only [show ((0 : Int32) ≤ 8 ∧ (8 : Int32) < 10) = True from eq_true (by decide), and_true]
  exact Iff.rfl
theorem pt_set_14_9 {d L : Nat} {b : Bool} {I : Nat → Nat → Int32} {J : Nat → Nat → Int64} {r v : Int32} {Q : Int32 → Int64 → pm_H → Prop} (ht : pm_ti (I 14) 10 8) : pm_wc pm_code pm_meta d 84 [.ref 14, .int r, .int 9, .int v] (pm_Gb L b, I, J) Q ↔ Q 0 0 (pm_Gb L b, (if 0 ≤ r ∧ r < I 14 3 then pm_u I 15 (10 * r.toNatClampNeg + 9) v else I), J) := by
  rw [pt_set_14 ht]
  simp only [show ((0 : Int32) ≤ 9 ∧ (9 : Int32) < 10) = True from eq_true (by decide), and_true]
  exact Iff.rfl
theorem pt_set_16 {d L : Nat} {b : Bool} {I : Nat → Nat → Int32} {J : Nat → Nat → Int64} {r k v : Int32} {Q : Int32 → Int64 → pm_H → Prop} (ht : pm_ti (I 16) 5 24) : pm_wc pm_code pm_meta d 84 [.ref 16, .int r, .int k, .int v] (pm_Gb L b, I, J) Q ↔ Q 0 0 (pm_Gb L b, (if (0 ≤ r ∧ r < I 16 3) ∧ 0 ≤ k ∧ k < 5 then pm_u I 17 (5 * r.toNatClampNeg + k.toNatClampNeg) v else I), J) := by
  have e : (if pm_tin r k (I 16 3) (I 16 1) then (pm_Gb L b, pm_u I 17 (r * I 16 1 + k).toNatClampNeg v, J) else (pm_Gb L b, I, J)) = (pm_Gb L b, (if (0 ≤ r ∧ r < I 16 3) ∧ 0 ≤ k ∧ k < 5 then pm_u I 17 (5 * r.toNatClampNeg + k.toNatClampNeg) v else I), J) := by
    by_cases h : pm_tin r k (I 16 3) (I 16 1) = true
    · rw [if_pos h, (pt_in_16 ht h).1]
      simp only [pm_tin, Bool.and_eq_true, decide_eq_true_eq, ht.1, and_assoc] at h
      rw [if_pos (by simpa only [and_assoc] using h)]
    · rw [if_neg h]
      simp only [pm_tin, Bool.and_eq_true, decide_eq_true_eq, ht.1, and_assoc] at h
      rw [if_neg (by simpa only [and_assoc] using h)]
  rw [← e]
  have htb : pm_tb (pm_Gb L b, I, J) 16 17 120 (I 16 1) := ⟨rfl, by decide, rfl, rfl, by decide, rfl⟩
  have hin : pm_tin r k (I 16 3) (I 16 1) = true → pm_in (r * I 16 1 + k) 120 = true := fun h => (pt_in_16 ht h).2
  refine pm_wc_iff (fun Q' h => ?_) Q
  refine pm_ts_set htb hin ?_
  exact h
theorem pt_set_16_0 {d L : Nat} {b : Bool} {I : Nat → Nat → Int32} {J : Nat → Nat → Int64} {r v : Int32} {Q : Int32 → Int64 → pm_H → Prop} (ht : pm_ti (I 16) 5 24) : pm_wc pm_code pm_meta d 84 [.ref 16, .int r, .int 0, .int v] (pm_Gb L b, I, J) Q ↔ Q 0 0 (pm_Gb L b, (if 0 ≤ r ∧ r < I 16 3 then pm_u I 17 (5 * r.toNatClampNeg + 0) v else I), J) := by
  rw [pt_set_16 ht]
  simp only [show ((0 : Int32) ≤ 0 ∧ (0 : Int32) < 5) = True from eq_true (by decide), and_true]
  exact Iff.rfl
theorem pt_set_16_1 {d L : Nat} {b : Bool} {I : Nat → Nat → Int32} {J : Nat → Nat → Int64} {r v : Int32} {Q : Int32 → Int64 → pm_H → Prop} (ht : pm_ti (I 16) 5 24) : pm_wc pm_code pm_meta d 84 [.ref 16, .int r, .int 1, .int v] (pm_Gb L b, I, J) Q ↔ Q 0 0 (pm_Gb L b, (if 0 ≤ r ∧ r < I 16 3 then pm_u I 17 (5 * r.toNatClampNeg + 1) v else I), J) := by
  rw [pt_set_16 ht]
  simp only [show ((0 : Int32) ≤ 1 ∧ (1 : Int32) < 5) = True from eq_true (by decide), and_true]
  exact Iff.rfl
theorem pt_set_16_2 {d L : Nat} {b : Bool} {I : Nat → Nat → Int32} {J : Nat → Nat → Int64} {r v : Int32} {Q : Int32 → Int64 → pm_H → Prop} (ht : pm_ti (I 16) 5 24) : pm_wc pm_code pm_meta d 84 [.ref 16, .int r, .int 2, .int v] (pm_Gb L b, I, J) Q ↔ Q 0 0 (pm_Gb L b, (if 0 ≤ r ∧ r < I 16 3 then pm_u I 17 (5 * r.toNatClampNeg + 2) v else I), J) := by
  rw [pt_set_16 ht]
  simp only [show ((0 : Int32) ≤ 2 ∧ (2 : Int32) < 5) = True from eq_true (by decide), and_true]
  exact Iff.rfl
theorem pt_set_16_3 {d L : Nat} {b : Bool} {I : Nat → Nat → Int32} {J : Nat → Nat → Int64} {r v : Int32} {Q : Int32 → Int64 → pm_H → Prop} (ht : pm_ti (I 16) 5 24) : pm_wc pm_code pm_meta d 84 [.ref 16, .int r, .int 3, .int v] (pm_Gb L b, I, J) Q ↔ Q 0 0 (pm_Gb L b, (if 0 ≤ r ∧ r < I 16 3 then pm_u I 17 (5 * r.toNatClampNeg + 3) v else I), J) := by
  rw [pt_set_16 ht]
  simp only [show ((0 : Int32) ≤ 3 ∧ (3 : Int32) < 5) = True from eq_true (by decide), and_true]
  exact Iff.rfl
theorem pt_set_16_4 {d L : Nat} {b : Bool} {I : Nat → Nat → Int32} {J : Nat → Nat → Int64} {r v : Int32} {Q : Int32 → Int64 → pm_H → Prop} (ht : pm_ti (I 16) 5 24) : pm_wc pm_code pm_meta d 84 [.ref 16, .int r, .int 4, .int v] (pm_Gb L b, I, J) Q ↔ Q 0 0 (pm_Gb L b, (if 0 ≤ r ∧ r < I 16 3 then pm_u I 17 (5 * r.toNatClampNeg + 4) v else I), J) := by
  rw [pt_set_16 ht]
  simp only [show ((0 : Int32) ≤ 4 ∧ (4 : Int32) < 5) = True from eq_true (by decide), and_true]
  exact Iff.rfl
theorem pt_set_18 {d L : Nat} {b : Bool} {I : Nat → Nat → Int32} {J : Nat → Nat → Int64} {r k v : Int32} {Q : Int32 → Int64 → pm_H → Prop} (ht : pm_ti (I 18) 16 24) : pm_wc pm_code pm_meta d 84 [.ref 18, .int r, .int k, .int v] (pm_Gb L b, I, J) Q ↔ Q 0 0 (pm_Gb L b, (if (0 ≤ r ∧ r < I 18 3) ∧ 0 ≤ k ∧ k < 16 then pm_u I 19 (16 * r.toNatClampNeg + k.toNatClampNeg) v else I), J) := by
  have e : (if pm_tin r k (I 18 3) (I 18 1) then (pm_Gb L b, pm_u I 19 (r * I 18 1 + k).toNatClampNeg v, J) else (pm_Gb L b, I, J)) = (pm_Gb L b, (if (0 ≤ r ∧ r < I 18 3) ∧ 0 ≤ k ∧ k < 16 then pm_u I 19 (16 * r.toNatClampNeg + k.toNatClampNeg) v else I), J) := by
    by_cases h : pm_tin r k (I 18 3) (I 18 1) = true
    · rw [if_pos h, (pt_in_18 ht h).1]
      simp only [pm_tin, Bool.and_eq_true, decide_eq_true_eq, ht.1, and_assoc] at h
      rw [if_pos (by simpa only [and_assoc] using h)]
    · rw [if_neg h]
      simp only [pm_tin, Bool.and_eq_true, decide_eq_true_eq, ht.1, and_assoc] at h
      rw [if_neg (by simpa only [and_assoc] using h)]
  rw [← e]
  have htb : pm_tb (pm_Gb L b, I, J) 18 19 384 (I 18 1) := ⟨rfl, by decide, rfl, rfl, by decide, rfl⟩
  have hin : pm_tin r k (I 18 3) (I 18 1) = true → pm_in (r * I 18 1 + k) 384 = true := fun h => (pt_in_18 ht h).2
  refine pm_wc_iff (fun Q' h => ?_) Q
  refine pm_ts_set htb hin ?_
  exact h
theorem pt_set_18_0 {d L : Nat} {b : Bool} {I : Nat → Nat → Int32} {J : Nat → Nat → Int64} {r v : Int32} {Q : Int32 → Int64 → pm_H → Prop} (ht : pm_ti (I 18) 16 24) : pm_wc pm_code pm_meta d 84 [.ref 18, .int r, .int 0, .int v] (pm_Gb L b, I, J) Q ↔ Q 0 0 (pm_Gb L b, (if 0 ≤ r ∧ r < I 18 3 then pm_u I 19 (16 * r.toNatClampNeg + 0) v else I), J) := by
  rw [pt_set_18 ht]
  simp only [show ((0 : Int32) ≤ 0 ∧ (0 : Int32) < 16) = True from eq_true (by decide), and_true]
  exact Iff.rfl
theorem pt_set_18_1 {d L : Nat} {b : Bool} {I : Nat → Nat → Int32} {J : Nat → Nat → Int64} {r v : Int32} {Q : Int32 → Int64 → pm_H → Prop} (ht : pm_ti (I 18) 16 24) : pm_wc pm_code pm_meta d 84 [.ref 18, .int r, .int 1, .int v] (pm_Gb L b, I, J) Q ↔ Q 0 0 (pm_Gb L b, (if 0 ≤ r ∧ r < I 18 3 then pm_u I 19 (16 * r.toNatClampNeg + 1) v else I), J) := by
  rw [pt_set_18 ht]
  simp only [show ((0 : Int32) ≤ 1 ∧ (1 : Int32) < 16) = True from eq_true (by decide), and_true]
  exact Iff.rfl
theorem pt_set_18_2 {d L : Nat} {b : Bool} {I : Nat → Nat → Int32} {J : Nat → Nat → Int64} {r v : Int32} {Q : Int32 → Int64 → pm_H → Prop} (ht : pm_ti (I 18) 16 24) : pm_wc pm_code pm_meta d 84 [.ref 18, .int r, .int 2, .int v] (pm_Gb L b, I, J) Q ↔ Q 0 0 (pm_Gb L b, (if 0 ≤ r ∧ r < I 18 3 then pm_u I 19 (16 * r.toNatClampNeg + 2) v else I), J) := by
  rw [pt_set_18 ht]
  simp only [show ((0 : Int32) ≤ 2 ∧ (2 : Int32) < 16) = True from eq_true (by decide), and_true]
  exact Iff.rfl
theorem pt_set_18_3 {d L : Nat} {b : Bool} {I : Nat → Nat → Int32} {J : Nat → Nat → Int64} {r v : Int32} {Q : Int32 → Int64 → pm_H → Prop} (ht : pm_ti (I 18) 16 24) : pm_wc pm_code pm_meta d 84 [.ref 18, .int r, .int 3, .int v] (pm_Gb L b, I, J) Q ↔ Q 0 0 (pm_Gb L b, (if 0 ≤ r ∧ r < I 18 3 then pm_u I 19 (16 * r.toNatClampNeg + 3) v else I), J) := by
  rw [pt_set_18 ht]
  simp only [show ((0 : Int32) ≤ 3 ∧ (3 : Int32) < 16) = True from eq_true (by decide), and_true]
  exact Iff.rfl
theorem pt_set_18_4 {d L : Nat} {b : Bool} {I : Nat → Nat → Int32} {J : Nat → Nat → Int64} {r v : Int32} {Q : Int32 → Int64 → pm_H → Prop} (ht : pm_ti (I 18) 16 24) : pm_wc pm_code pm_meta d 84 [.ref 18, .int r, .int 4, .int v] (pm_Gb L b, I, J) Q ↔ Q 0 0 (pm_Gb L b, (if 0 ≤ r ∧ r < I 18 3 then pm_u I 19 (16 * r.toNatClampNeg + 4) v else I), J) := by
  rw [pt_set_18 ht]
  simp only [show ((0 : Int32) ≤ 4 ∧ (4 : Int32) < 16) = True from eq_true (by decide), and_true]
  exact Iff.rfl
theorem pt_set_18_5 {d L : Nat} {b : Bool} {I : Nat → Nat → Int32} {J : Nat → Nat → Int64} {r v : Int32} {Q : Int32 → Int64 → pm_H → Prop} (ht : pm_ti (I 18) 16 24) : pm_wc pm_code pm_meta d 84 [.ref 18, .int r, .int 5, .int v] (pm_Gb L b, I, J) Q ↔ Q 0 0 (pm_Gb L b, (if 0 ≤ r ∧ r < I 18 3 then pm_u I 19 (16 * r.toNatClampNeg + 5) v else I), J) := by
  rw [pt_set_18 ht]
  simp only [show ((0 : Int32) ≤ 5 ∧ (5 : Int32) < 16) = True from eq_true (by decide), and_true]
  exact Iff.rfl
theorem pt_set_18_6 {d L : Nat} {b : Bool} {I : Nat → Nat → Int32} {J : Nat → Nat → Int64} {r v : Int32} {Q : Int32 → Int64 → pm_H → Prop} (ht : pm_ti (I 18) 16 24) : pm_wc pm_code pm_meta d 84 [.ref 18, .int r, .int 6, .int v] (pm_Gb L b, I, J) Q ↔ Q 0 0 (pm_Gb L b, (if 0 ≤ r ∧ r < I 18 3 then pm_u I 19 (16 * r.toNatClampNeg + 6) v else I), J) := by
  rw [pt_set_18 ht]
  simp only [show ((0 : Int32) ≤ 6 ∧ (6 : Int32) < 16) = True from eq_true (by decide), and_true]
  exact Iff.rfl
theorem pt_set_18_7 {d L : Nat} {b : Bool} {I : Nat → Nat → Int32} {J : Nat → Nat → Int64} {r v : Int32} {Q : Int32 → Int64 → pm_H → Prop} (ht : pm_ti (I 18) 16 24) : pm_wc pm_code pm_meta d 84 [.ref 18, .int r, .int 7, .int v] (pm_Gb L b, I, J) Q ↔ Q 0 0 (pm_Gb L b, (if 0 ≤ r ∧ r < I 18 3 then pm_u I 19 (16 * r.toNatClampNeg + 7) v else I), J) := by
  rw [pt_set_18 ht]
  simp only [show ((0 : Int32) ≤ 7 ∧ (7 : Int32) < 16) = True from eq_true (by decide), and_true]
  exact Iff.rfl
theorem pt_set_18_8 {d L : Nat} {b : Bool} {I : Nat → Nat → Int32} {J : Nat → Nat → Int64} {r v : Int32} {Q : Int32 → Int64 → pm_H → Prop} (ht : pm_ti (I 18) 16 24) : pm_wc pm_code pm_meta d 84 [.ref 18, .int r, .int 8, .int v] (pm_Gb L b, I, J) Q ↔ Q 0 0 (pm_Gb L b, (if 0 ≤ r ∧ r < I 18 3 then pm_u I 19 (16 * r.toNatClampNeg + 8) v else I), J) := by
  rw [pt_set_18 ht]
  simp only [show ((0 : Int32) ≤ 8 ∧ (8 : Int32) < 16) = True from eq_true (by decide), and_true]
  exact Iff.rfl
theorem pt_set_18_9 {d L : Nat} {b : Bool} {I : Nat → Nat → Int32} {J : Nat → Nat → Int64} {r v : Int32} {Q : Int32 → Int64 → pm_H → Prop} (ht : pm_ti (I 18) 16 24) : pm_wc pm_code pm_meta d 84 [.ref 18, .int r, .int 9, .int v] (pm_Gb L b, I, J) Q ↔ Q 0 0 (pm_Gb L b, (if 0 ≤ r ∧ r < I 18 3 then pm_u I 19 (16 * r.toNatClampNeg + 9) v else I), J) := by
  rw [pt_set_18 ht]
  simp only [show ((0 : Int32) ≤ 9 ∧ (9 : Int32) < 16) = True from eq_true (by decide), and_true]
  exact Iff.rfl
theorem pt_set_18_10 {d L : Nat} {b : Bool} {I : Nat → Nat → Int32} {J : Nat → Nat → Int64} {r v : Int32} {Q : Int32 → Int64 → pm_H → Prop} (ht : pm_ti (I 18) 16 24) : pm_wc pm_code pm_meta d 84 [.ref 18, .int r, .int 10, .int v] (pm_Gb L b, I, J) Q ↔ Q 0 0 (pm_Gb L b, (if 0 ≤ r ∧ r < I 18 3 then pm_u I 19 (16 * r.toNatClampNeg + 10) v else I), J) := by
  rw [pt_set_18 ht]
  simp only [show ((0 : Int32) ≤ 10 ∧ (10 : Int32) < 16) = True from eq_true (by decide), and_true]
  exact Iff.rfl
theorem pt_set_18_11 {d L : Nat} {b : Bool} {I : Nat → Nat → Int32} {J : Nat → Nat → Int64} {r v : Int32} {Q : Int32 → Int64 → pm_H → Prop} (ht : pm_ti (I 18) 16 24) : pm_wc pm_code pm_meta d 84 [.ref 18, .int r, .int 11, .int v] (pm_Gb L b, I, J) Q ↔ Q 0 0 (pm_Gb L b, (if 0 ≤ r ∧ r < I 18 3 then pm_u I 19 (16 * r.toNatClampNeg + 11) v else I), J) := by
  rw [pt_set_18 ht]
  simp only [show ((0 : Int32) ≤ 11 ∧ (11 : Int32) < 16) = True from eq_true (by decide), and_true]
  exact Iff.rfl
theorem pt_set_18_12 {d L : Nat} {b : Bool} {I : Nat → Nat → Int32} {J : Nat → Nat → Int64} {r v : Int32} {Q : Int32 → Int64 → pm_H → Prop} (ht : pm_ti (I 18) 16 24) : pm_wc pm_code pm_meta d 84 [.ref 18, .int r, .int 12, .int v] (pm_Gb L b, I, J) Q ↔ Q 0 0 (pm_Gb L b, (if 0 ≤ r ∧ r < I 18 3 then pm_u I 19 (16 * r.toNatClampNeg + 12) v else I), J) := by
  rw [pt_set_18 ht]
  simp only [show ((0 : Int32) ≤ 12 ∧ (12 : Int32) < 16) = True from eq_true (by decide), and_true]
  exact Iff.rfl
theorem pt_set_18_13 {d L : Nat} {b : Bool} {I : Nat → Nat → Int32} {J : Nat → Nat → Int64} {r v : Int32} {Q : Int32 → Int64 → pm_H → Prop} (ht : pm_ti (I 18) 16 24) : pm_wc pm_code pm_meta d 84 [.ref 18, .int r, .int 13, .int v] (pm_Gb L b, I, J) Q ↔ Q 0 0 (pm_Gb L b, (if 0 ≤ r ∧ r < I 18 3 then pm_u I 19 (16 * r.toNatClampNeg + 13) v else I), J) := by
  rw [pt_set_18 ht]
  simp only [show ((0 : Int32) ≤ 13 ∧ (13 : Int32) < 16) = True from eq_true (by decide), and_true]
  exact Iff.rfl
theorem pt_set_18_14 {d L : Nat} {b : Bool} {I : Nat → Nat → Int32} {J : Nat → Nat → Int64} {r v : Int32} {Q : Int32 → Int64 → pm_H → Prop} (ht : pm_ti (I 18) 16 24) : pm_wc pm_code pm_meta d 84 [.ref 18, .int r, .int 14, .int v] (pm_Gb L b, I, J) Q ↔ Q 0 0 (pm_Gb L b, (if 0 ≤ r ∧ r < I 18 3 then pm_u I 19 (16 * r.toNatClampNeg + 14) v else I), J) := by
  rw [pt_set_18 ht]
  simp only [show ((0 : Int32) ≤ 14 ∧ (14 : Int32) < 16) = True from eq_true (by decide), and_true]
  exact Iff.rfl
theorem pt_set_18_15 {d L : Nat} {b : Bool} {I : Nat → Nat → Int32} {J : Nat → Nat → Int64} {r v : Int32} {Q : Int32 → Int64 → pm_H → Prop} (ht : pm_ti (I 18) 16 24) : pm_wc pm_code pm_meta d 84 [.ref 18, .int r, .int 15, .int v] (pm_Gb L b, I, J) Q ↔ Q 0 0 (pm_Gb L b, (if 0 ≤ r ∧ r < I 18 3 then pm_u I 19 (16 * r.toNatClampNeg + 15) v else I), J) := by
  rw [pt_set_18 ht]
  simp only [show ((0 : Int32) ≤ 15 ∧ (15 : Int32) < 16) = True from eq_true (by decide), and_true]
  exact Iff.rfl
theorem pt_set_20 {d L : Nat} {b : Bool} {I : Nat → Nat → Int32} {J : Nat → Nat → Int64} {r k v : Int32} {Q : Int32 → Int64 → pm_H → Prop} (ht : pm_ti (I 20) 5 12) : pm_wc pm_code pm_meta d 84 [.ref 20, .int r, .int k, .int v] (pm_Gb L b, I, J) Q ↔ Q 0 0 (pm_Gb L b, (if (0 ≤ r ∧ r < I 20 3) ∧ 0 ≤ k ∧ k < 5 then pm_u I 21 (5 * r.toNatClampNeg + k.toNatClampNeg) v else I), J) := by
  have e : (if pm_tin r k (I 20 3) (I 20 1) then (pm_Gb L b, pm_u I 21 (r * I 20 1 + k).toNatClampNeg v, J) else (pm_Gb L b, I, J)) = (pm_Gb L b, (if (0 ≤ r ∧ r < I 20 3) ∧ 0 ≤ k ∧ k < 5 then pm_u I 21 (5 * r.toNatClampNeg + k.toNatClampNeg) v else I), J) := by
    by_cases h : pm_tin r k (I 20 3) (I 20 1) = true
    · rw [if_pos h, (pt_in_20 ht h).1]
      simp only [pm_tin, Bool.and_eq_true, decide_eq_true_eq, ht.1, and_assoc] at h
      rw [if_pos (by simpa only [and_assoc] using h)]
    · rw [if_neg h]
      simp only [pm_tin, Bool.and_eq_true, decide_eq_true_eq, ht.1, and_assoc] at h
      rw [if_neg (by simpa only [and_assoc] using h)]
  rw [← e]
  have htb : pm_tb (pm_Gb L b, I, J) 20 21 60 (I 20 1) := ⟨rfl, by decide, rfl, rfl, by decide, rfl⟩
  have hin : pm_tin r k (I 20 3) (I 20 1) = true → pm_in (r * I 20 1 + k) 60 = true := fun h => (pt_in_20 ht h).2
  refine pm_wc_iff (fun Q' h => ?_) Q
  refine pm_ts_set htb hin ?_
  exact h
theorem pt_set_20_0 {d L : Nat} {b : Bool} {I : Nat → Nat → Int32} {J : Nat → Nat → Int64} {r v : Int32} {Q : Int32 → Int64 → pm_H → Prop} (ht : pm_ti (I 20) 5 12) : pm_wc pm_code pm_meta d 84 [.ref 20, .int r, .int 0, .int v] (pm_Gb L b, I, J) Q ↔ Q 0 0 (pm_Gb L b, (if 0 ≤ r ∧ r < I 20 3 then pm_u I 21 (5 * r.toNatClampNeg + 0) v else I), J) := by
  rw [pt_set_20 ht]
  simp only [show ((0 : Int32) ≤ 0 ∧ (0 : Int32) < 5) = True from eq_true (by decide), and_true]
  exact Iff.rfl
theorem pt_set_20_1 {d L : Nat} {b : Bool} {I : Nat → Nat → Int32} {J : Nat → Nat → Int64} {r v : Int32} {Q : Int32 → Int64 → pm_H → Prop} (ht : pm_ti (I 20) 5 12) : pm_wc pm_code pm_meta d 84 [.ref 20, .int r, .int 1, .int v] (pm_Gb L b, I, J) Q ↔ Q 0 0 (pm_Gb L b, (if 0 ≤ r ∧ r < I 20 3 then pm_u I 21 (5 * r.toNatClampNeg + 1) v else I), J) := by
  rw [pt_set_20 ht]
  simp only [show ((0 : Int32) ≤ 1 ∧ (1 : Int32) < 5) = True from eq_true (by decide), and_true]
  exact Iff.rfl
theorem pt_set_20_2 {d L : Nat} {b : Bool} {I : Nat → Nat → Int32} {J : Nat → Nat → Int64} {r v : Int32} {Q : Int32 → Int64 → pm_H → Prop} (ht : pm_ti (I 20) 5 12) : pm_wc pm_code pm_meta d 84 [.ref 20, .int r, .int 2, .int v] (pm_Gb L b, I, J) Q ↔ Q 0 0 (pm_Gb L b, (if 0 ≤ r ∧ r < I 20 3 then pm_u I 21 (5 * r.toNatClampNeg + 2) v else I), J) := by
  rw [pt_set_20 ht]
  simp only [show ((0 : Int32) ≤ 2 ∧ (2 : Int32) < 5) = True from eq_true (by decide), and_true]
  exact Iff.rfl
theorem pt_set_20_3 {d L : Nat} {b : Bool} {I : Nat → Nat → Int32} {J : Nat → Nat → Int64} {r v : Int32} {Q : Int32 → Int64 → pm_H → Prop} (ht : pm_ti (I 20) 5 12) : pm_wc pm_code pm_meta d 84 [.ref 20, .int r, .int 3, .int v] (pm_Gb L b, I, J) Q ↔ Q 0 0 (pm_Gb L b, (if 0 ≤ r ∧ r < I 20 3 then pm_u I 21 (5 * r.toNatClampNeg + 3) v else I), J) := by
  rw [pt_set_20 ht]
  simp only [show ((0 : Int32) ≤ 3 ∧ (3 : Int32) < 5) = True from eq_true (by decide), and_true]
  exact Iff.rfl
theorem pt_set_20_4 {d L : Nat} {b : Bool} {I : Nat → Nat → Int32} {J : Nat → Nat → Int64} {r v : Int32} {Q : Int32 → Int64 → pm_H → Prop} (ht : pm_ti (I 20) 5 12) : pm_wc pm_code pm_meta d 84 [.ref 20, .int r, .int 4, .int v] (pm_Gb L b, I, J) Q ↔ Q 0 0 (pm_Gb L b, (if 0 ≤ r ∧ r < I 20 3 then pm_u I 21 (5 * r.toNatClampNeg + 4) v else I), J) := by
  rw [pt_set_20 ht]
  simp only [show ((0 : Int32) ≤ 4 ∧ (4 : Int32) < 5) = True from eq_true (by decide), and_true]
  exact Iff.rfl
theorem pt_set_22 {d L : Nat} {b : Bool} {I : Nat → Nat → Int32} {J : Nat → Nat → Int64} {r k v : Int32} {Q : Int32 → Int64 → pm_H → Prop} (ht : pm_ti (I 22) 5 120) : pm_wc pm_code pm_meta d 84 [.ref 22, .int r, .int k, .int v] (pm_Gb L b, I, J) Q ↔ Q 0 0 (pm_Gb L b, (if (0 ≤ r ∧ r < I 22 3) ∧ 0 ≤ k ∧ k < 5 then pm_u I 23 (5 * r.toNatClampNeg + k.toNatClampNeg) v else I), J) := by
  have e : (if pm_tin r k (I 22 3) (I 22 1) then (pm_Gb L b, pm_u I 23 (r * I 22 1 + k).toNatClampNeg v, J) else (pm_Gb L b, I, J)) = (pm_Gb L b, (if (0 ≤ r ∧ r < I 22 3) ∧ 0 ≤ k ∧ k < 5 then pm_u I 23 (5 * r.toNatClampNeg + k.toNatClampNeg) v else I), J) := by
    by_cases h : pm_tin r k (I 22 3) (I 22 1) = true
    · rw [if_pos h, (pt_in_22 ht h).1]
      simp only [pm_tin, Bool.and_eq_true, decide_eq_true_eq, ht.1, and_assoc] at h
      rw [if_pos (by simpa only [and_assoc] using h)]
    · rw [if_neg h]
      simp only [pm_tin, Bool.and_eq_true, decide_eq_true_eq, ht.1, and_assoc] at h
      rw [if_neg (by simpa only [and_assoc] using h)]
  rw [← e]
  have htb : pm_tb (pm_Gb L b, I, J) 22 23 600 (I 22 1) := ⟨rfl, by decide, rfl, rfl, by decide, rfl⟩
  have hin : pm_tin r k (I 22 3) (I 22 1) = true → pm_in (r * I 22 1 + k) 600 = true := fun h => (pt_in_22 ht h).2
  refine pm_wc_iff (fun Q' h => ?_) Q
  refine pm_ts_set htb hin ?_
  exact h
theorem pt_set_22_0 {d L : Nat} {b : Bool} {I : Nat → Nat → Int32} {J : Nat → Nat → Int64} {r v : Int32} {Q : Int32 → Int64 → pm_H → Prop} (ht : pm_ti (I 22) 5 120) : pm_wc pm_code pm_meta d 84 [.ref 22, .int r, .int 0, .int v] (pm_Gb L b, I, J) Q ↔ Q 0 0 (pm_Gb L b, (if 0 ≤ r ∧ r < I 22 3 then pm_u I 23 (5 * r.toNatClampNeg + 0) v else I), J) := by
  rw [pt_set_22 ht]
  simp only [show ((0 : Int32) ≤ 0 ∧ (0 : Int32) < 5) = True from eq_true (by decide), and_true]
  exact Iff.rfl
theorem pt_set_22_1 {d L : Nat} {b : Bool} {I : Nat → Nat → Int32} {J : Nat → Nat → Int64} {r v : Int32} {Q : Int32 → Int64 → pm_H → Prop} (ht : pm_ti (I 22) 5 120) : pm_wc pm_code pm_meta d 84 [.ref 22, .int r, .int 1, .int v] (pm_Gb L b, I, J) Q ↔ Q 0 0 (pm_Gb L b, (if 0 ≤ r ∧ r < I 22 3 then pm_u I 23 (5 * r.toNatClampNeg + 1) v else I), J) := by
  rw [pt_set_22 ht]
  simp only [show ((0 : Int32) ≤ 1 ∧ (1 : Int32) < 5) = True from eq_true (by decide), and_true]
  exact Iff.rfl
theorem pt_set_22_2 {d L : Nat} {b : Bool} {I : Nat → Nat → Int32} {J : Nat → Nat → Int64} {r v : Int32} {Q : Int32 → Int64 → pm_H → Prop} (ht : pm_ti (I 22) 5 120) : pm_wc pm_code pm_meta d 84 [.ref 22, .int r, .int 2, .int v] (pm_Gb L b, I, J) Q ↔ Q 0 0 (pm_Gb L b, (if 0 ≤ r ∧ r < I 22 3 then pm_u I 23 (5 * r.toNatClampNeg + 2) v else I), J) := by
  rw [pt_set_22 ht]
  simp only [show ((0 : Int32) ≤ 2 ∧ (2 : Int32) < 5) = True from eq_true (by decide), and_true]
  exact Iff.rfl
theorem pt_set_22_3 {d L : Nat} {b : Bool} {I : Nat → Nat → Int32} {J : Nat → Nat → Int64} {r v : Int32} {Q : Int32 → Int64 → pm_H → Prop} (ht : pm_ti (I 22) 5 120) : pm_wc pm_code pm_meta d 84 [.ref 22, .int r, .int 3, .int v] (pm_Gb L b, I, J) Q ↔ Q 0 0 (pm_Gb L b, (if 0 ≤ r ∧ r < I 22 3 then pm_u I 23 (5 * r.toNatClampNeg + 3) v else I), J) := by
  rw [pt_set_22 ht]
  simp only [show ((0 : Int32) ≤ 3 ∧ (3 : Int32) < 5) = True from eq_true (by decide), and_true]
  exact Iff.rfl
theorem pt_set_22_4 {d L : Nat} {b : Bool} {I : Nat → Nat → Int32} {J : Nat → Nat → Int64} {r v : Int32} {Q : Int32 → Int64 → pm_H → Prop} (ht : pm_ti (I 22) 5 120) : pm_wc pm_code pm_meta d 84 [.ref 22, .int r, .int 4, .int v] (pm_Gb L b, I, J) Q ↔ Q 0 0 (pm_Gb L b, (if 0 ≤ r ∧ r < I 22 3 then pm_u I 23 (5 * r.toNatClampNeg + 4) v else I), J) := by
  rw [pt_set_22 ht]
  simp only [show ((0 : Int32) ≤ 4 ∧ (4 : Int32) < 5) = True from eq_true (by decide), and_true]
  exact Iff.rfl
theorem pt_set_24 {d L : Nat} {b : Bool} {I : Nat → Nat → Int32} {J : Nat → Nat → Int64} {r k v : Int32} {Q : Int32 → Int64 → pm_H → Prop} (ht : pm_ti (I 24) 2 1200) : pm_wc pm_code pm_meta d 84 [.ref 24, .int r, .int k, .int v] (pm_Gb L b, I, J) Q ↔ Q 0 0 (pm_Gb L b, (if (0 ≤ r ∧ r < I 24 3) ∧ 0 ≤ k ∧ k < 2 then pm_u I 25 (2 * r.toNatClampNeg + k.toNatClampNeg) v else I), J) := by
  have e : (if pm_tin r k (I 24 3) (I 24 1) then (pm_Gb L b, pm_u I 25 (r * I 24 1 + k).toNatClampNeg v, J) else (pm_Gb L b, I, J)) = (pm_Gb L b, (if (0 ≤ r ∧ r < I 24 3) ∧ 0 ≤ k ∧ k < 2 then pm_u I 25 (2 * r.toNatClampNeg + k.toNatClampNeg) v else I), J) := by
    by_cases h : pm_tin r k (I 24 3) (I 24 1) = true
    · rw [if_pos h, (pt_in_24 ht h).1]
      simp only [pm_tin, Bool.and_eq_true, decide_eq_true_eq, ht.1, and_assoc] at h
      rw [if_pos (by simpa only [and_assoc] using h)]
    · rw [if_neg h]
      simp only [pm_tin, Bool.and_eq_true, decide_eq_true_eq, ht.1, and_assoc] at h
      rw [if_neg (by simpa only [and_assoc] using h)]
  rw [← e]
  have htb : pm_tb (pm_Gb L b, I, J) 24 25 2400 (I 24 1) := ⟨rfl, by decide, rfl, rfl, by decide, rfl⟩
  have hin : pm_tin r k (I 24 3) (I 24 1) = true → pm_in (r * I 24 1 + k) 2400 = true := fun h => (pt_in_24 ht h).2
  refine pm_wc_iff (fun Q' h => ?_) Q
  refine pm_ts_set htb hin ?_
  exact h
theorem pt_set_24_0 {d L : Nat} {b : Bool} {I : Nat → Nat → Int32} {J : Nat → Nat → Int64} {r v : Int32} {Q : Int32 → Int64 → pm_H → Prop} (ht : pm_ti (I 24) 2 1200) : pm_wc pm_code pm_meta d 84 [.ref 24, .int r, .int 0, .int v] (pm_Gb L b, I, J) Q ↔ Q 0 0 (pm_Gb L b, (if 0 ≤ r ∧ r < I 24 3 then pm_u I 25 (2 * r.toNatClampNeg + 0) v else I), J) := by
  rw [pt_set_24 ht]
  simp only [show ((0 : Int32) ≤ 0 ∧ (0 : Int32) < 2) = True from eq_true (by decide), and_true]
  exact Iff.rfl
theorem pt_set_24_1 {d L : Nat} {b : Bool} {I : Nat → Nat → Int32} {J : Nat → Nat → Int64} {r v : Int32} {Q : Int32 → Int64 → pm_H → Prop} (ht : pm_ti (I 24) 2 1200) : pm_wc pm_code pm_meta d 84 [.ref 24, .int r, .int 1, .int v] (pm_Gb L b, I, J) Q ↔ Q 0 0 (pm_Gb L b, (if 0 ≤ r ∧ r < I 24 3 then pm_u I 25 (2 * r.toNatClampNeg + 1) v else I), J) := by
  rw [pt_set_24 ht]
  simp only [show ((0 : Int32) ≤ 1 ∧ (1 : Int32) < 2) = True from eq_true (by decide), and_true]
  exact Iff.rfl
theorem pt_set_26 {d L : Nat} {b : Bool} {I : Nat → Nat → Int32} {J : Nat → Nat → Int64} {r k v : Int32} {Q : Int32 → Int64 → pm_H → Prop} (ht : pm_ti (I 26) 1 4) : pm_wc pm_code pm_meta d 84 [.ref 26, .int r, .int k, .int v] (pm_Gb L b, I, J) Q ↔ Q 0 0 (pm_Gb L b, (if (0 ≤ r ∧ r < I 26 3) ∧ 0 ≤ k ∧ k < 1 then pm_u I 27 (1 * r.toNatClampNeg + k.toNatClampNeg) v else I), J) := by
  have e : (if pm_tin r k (I 26 3) (I 26 1) then (pm_Gb L b, pm_u I 27 (r * I 26 1 + k).toNatClampNeg v, J) else (pm_Gb L b, I, J)) = (pm_Gb L b, (if (0 ≤ r ∧ r < I 26 3) ∧ 0 ≤ k ∧ k < 1 then pm_u I 27 (1 * r.toNatClampNeg + k.toNatClampNeg) v else I), J) := by
    by_cases h : pm_tin r k (I 26 3) (I 26 1) = true
    · rw [if_pos h, (pt_in_26 ht h).1]
      simp only [pm_tin, Bool.and_eq_true, decide_eq_true_eq, ht.1, and_assoc] at h
      rw [if_pos (by simpa only [and_assoc] using h)]
    · rw [if_neg h]
      simp only [pm_tin, Bool.and_eq_true, decide_eq_true_eq, ht.1, and_assoc] at h
      rw [if_neg (by simpa only [and_assoc] using h)]
  rw [← e]
  have htb : pm_tb (pm_Gb L b, I, J) 26 27 4 (I 26 1) := ⟨rfl, by decide, rfl, rfl, by decide, rfl⟩
  have hin : pm_tin r k (I 26 3) (I 26 1) = true → pm_in (r * I 26 1 + k) 4 = true := fun h => (pt_in_26 ht h).2
  refine pm_wc_iff (fun Q' h => ?_) Q
  refine pm_ts_set htb hin ?_
  exact h
theorem pt_set_26_0 {d L : Nat} {b : Bool} {I : Nat → Nat → Int32} {J : Nat → Nat → Int64} {r v : Int32} {Q : Int32 → Int64 → pm_H → Prop} (ht : pm_ti (I 26) 1 4) : pm_wc pm_code pm_meta d 84 [.ref 26, .int r, .int 0, .int v] (pm_Gb L b, I, J) Q ↔ Q 0 0 (pm_Gb L b, (if 0 ≤ r ∧ r < I 26 3 then pm_u I 27 (1 * r.toNatClampNeg + 0) v else I), J) := by
  rw [pt_set_26 ht]
  simp only [show ((0 : Int32) ≤ 0 ∧ (0 : Int32) < 1) = True from eq_true (by decide), and_true]
  exact Iff.rfl
theorem pt_set_28 {d L : Nat} {b : Bool} {I : Nat → Nat → Int32} {J : Nat → Nat → Int64} {r k v : Int32} {Q : Int32 → Int64 → pm_H → Prop} (ht : pm_ti (I 28) 3 24) : pm_wc pm_code pm_meta d 84 [.ref 28, .int r, .int k, .int v] (pm_Gb L b, I, J) Q ↔ Q 0 0 (pm_Gb L b, (if (0 ≤ r ∧ r < I 28 3) ∧ 0 ≤ k ∧ k < 3 then pm_u I 29 (3 * r.toNatClampNeg + k.toNatClampNeg) v else I), J) := by
  have e : (if pm_tin r k (I 28 3) (I 28 1) then (pm_Gb L b, pm_u I 29 (r * I 28 1 + k).toNatClampNeg v, J) else (pm_Gb L b, I, J)) = (pm_Gb L b, (if (0 ≤ r ∧ r < I 28 3) ∧ 0 ≤ k ∧ k < 3 then pm_u I 29 (3 * r.toNatClampNeg + k.toNatClampNeg) v else I), J) := by
    by_cases h : pm_tin r k (I 28 3) (I 28 1) = true
    · rw [if_pos h, (pt_in_28 ht h).1]
      simp only [pm_tin, Bool.and_eq_true, decide_eq_true_eq, ht.1, and_assoc] at h
      rw [if_pos (by simpa only [and_assoc] using h)]
    · rw [if_neg h]
      simp only [pm_tin, Bool.and_eq_true, decide_eq_true_eq, ht.1, and_assoc] at h
      rw [if_neg (by simpa only [and_assoc] using h)]
  rw [← e]
  have htb : pm_tb (pm_Gb L b, I, J) 28 29 72 (I 28 1) := ⟨rfl, by decide, rfl, rfl, by decide, rfl⟩
  have hin : pm_tin r k (I 28 3) (I 28 1) = true → pm_in (r * I 28 1 + k) 72 = true := fun h => (pt_in_28 ht h).2
  refine pm_wc_iff (fun Q' h => ?_) Q
  refine pm_ts_set htb hin ?_
  exact h
theorem pt_set_28_0 {d L : Nat} {b : Bool} {I : Nat → Nat → Int32} {J : Nat → Nat → Int64} {r v : Int32} {Q : Int32 → Int64 → pm_H → Prop} (ht : pm_ti (I 28) 3 24) : pm_wc pm_code pm_meta d 84 [.ref 28, .int r, .int 0, .int v] (pm_Gb L b, I, J) Q ↔ Q 0 0 (pm_Gb L b, (if 0 ≤ r ∧ r < I 28 3 then pm_u I 29 (3 * r.toNatClampNeg + 0) v else I), J) := by
  rw [pt_set_28 ht]
  simp only [show ((0 : Int32) ≤ 0 ∧ (0 : Int32) < 3) = True from eq_true (by decide), and_true]
  exact Iff.rfl
theorem pt_set_28_1 {d L : Nat} {b : Bool} {I : Nat → Nat → Int32} {J : Nat → Nat → Int64} {r v : Int32} {Q : Int32 → Int64 → pm_H → Prop} (ht : pm_ti (I 28) 3 24) : pm_wc pm_code pm_meta d 84 [.ref 28, .int r, .int 1, .int v] (pm_Gb L b, I, J) Q ↔ Q 0 0 (pm_Gb L b, (if 0 ≤ r ∧ r < I 28 3 then pm_u I 29 (3 * r.toNatClampNeg + 1) v else I), J) := by
  rw [pt_set_28 ht]
  simp only [show ((0 : Int32) ≤ 1 ∧ (1 : Int32) < 3) = True from eq_true (by decide), and_true]
  exact Iff.rfl
theorem pt_set_28_2 {d L : Nat} {b : Bool} {I : Nat → Nat → Int32} {J : Nat → Nat → Int64} {r v : Int32} {Q : Int32 → Int64 → pm_H → Prop} (ht : pm_ti (I 28) 3 24) : pm_wc pm_code pm_meta d 84 [.ref 28, .int r, .int 2, .int v] (pm_Gb L b, I, J) Q ↔ Q 0 0 (pm_Gb L b, (if 0 ≤ r ∧ r < I 28 3 then pm_u I 29 (3 * r.toNatClampNeg + 2) v else I), J) := by
  rw [pt_set_28 ht]
  simp only [show ((0 : Int32) ≤ 2 ∧ (2 : Int32) < 3) = True from eq_true (by decide), and_true]
  exact Iff.rfl
theorem pt_set_30 {d L : Nat} {b : Bool} {I : Nat → Nat → Int32} {J : Nat → Nat → Int64} {r k v : Int32} {Q : Int32 → Int64 → pm_H → Prop} (ht : pm_ti (I 30) 1 7) : pm_wc pm_code pm_meta d 84 [.ref 30, .int r, .int k, .int v] (pm_Gb L b, I, J) Q ↔ Q 0 0 (pm_Gb L b, (if (0 ≤ r ∧ r < I 30 3) ∧ 0 ≤ k ∧ k < 1 then pm_u I 31 (1 * r.toNatClampNeg + k.toNatClampNeg) v else I), J) := by
  have e : (if pm_tin r k (I 30 3) (I 30 1) then (pm_Gb L b, pm_u I 31 (r * I 30 1 + k).toNatClampNeg v, J) else (pm_Gb L b, I, J)) = (pm_Gb L b, (if (0 ≤ r ∧ r < I 30 3) ∧ 0 ≤ k ∧ k < 1 then pm_u I 31 (1 * r.toNatClampNeg + k.toNatClampNeg) v else I), J) := by
    by_cases h : pm_tin r k (I 30 3) (I 30 1) = true
    · rw [if_pos h, (pt_in_30 ht h).1]
      simp only [pm_tin, Bool.and_eq_true, decide_eq_true_eq, ht.1, and_assoc] at h
      rw [if_pos (by simpa only [and_assoc] using h)]
    · rw [if_neg h]
      simp only [pm_tin, Bool.and_eq_true, decide_eq_true_eq, ht.1, and_assoc] at h
      rw [if_neg (by simpa only [and_assoc] using h)]
  rw [← e]
  have htb : pm_tb (pm_Gb L b, I, J) 30 31 7 (I 30 1) := ⟨rfl, by decide, rfl, rfl, by decide, rfl⟩
  have hin : pm_tin r k (I 30 3) (I 30 1) = true → pm_in (r * I 30 1 + k) 7 = true := fun h => (pt_in_30 ht h).2
  refine pm_wc_iff (fun Q' h => ?_) Q
  refine pm_ts_set htb hin ?_
  exact h
theorem pt_set_30_0 {d L : Nat} {b : Bool} {I : Nat → Nat → Int32} {J : Nat → Nat → Int64} {r v : Int32} {Q : Int32 → Int64 → pm_H → Prop} (ht : pm_ti (I 30) 1 7) : pm_wc pm_code pm_meta d 84 [.ref 30, .int r, .int 0, .int v] (pm_Gb L b, I, J) Q ↔ Q 0 0 (pm_Gb L b, (if 0 ≤ r ∧ r < I 30 3 then pm_u I 31 (1 * r.toNatClampNeg + 0) v else I), J) := by
  rw [pt_set_30 ht]
  simp only [show ((0 : Int32) ≤ 0 ∧ (0 : Int32) < 1) = True from eq_true (by decide), and_true]
  exact Iff.rfl
theorem pt_set_32 {d L : Nat} {b : Bool} {I : Nat → Nat → Int32} {J : Nat → Nat → Int64} {r k v : Int32} {Q : Int32 → Int64 → pm_H → Prop} (ht : pm_ti (I 32) 1 3) : pm_wc pm_code pm_meta d 84 [.ref 32, .int r, .int k, .int v] (pm_Gb L b, I, J) Q ↔ Q 0 0 (pm_Gb L b, (if (0 ≤ r ∧ r < I 32 3) ∧ 0 ≤ k ∧ k < 1 then pm_u I 33 (1 * r.toNatClampNeg + k.toNatClampNeg) v else I), J) := by
  have e : (if pm_tin r k (I 32 3) (I 32 1) then (pm_Gb L b, pm_u I 33 (r * I 32 1 + k).toNatClampNeg v, J) else (pm_Gb L b, I, J)) = (pm_Gb L b, (if (0 ≤ r ∧ r < I 32 3) ∧ 0 ≤ k ∧ k < 1 then pm_u I 33 (1 * r.toNatClampNeg + k.toNatClampNeg) v else I), J) := by
    by_cases h : pm_tin r k (I 32 3) (I 32 1) = true
    · rw [if_pos h, (pt_in_32 ht h).1]
      simp only [pm_tin, Bool.and_eq_true, decide_eq_true_eq, ht.1, and_assoc] at h
      rw [if_pos (by simpa only [and_assoc] using h)]
    · rw [if_neg h]
      simp only [pm_tin, Bool.and_eq_true, decide_eq_true_eq, ht.1, and_assoc] at h
      rw [if_neg (by simpa only [and_assoc] using h)]
  rw [← e]
  have htb : pm_tb (pm_Gb L b, I, J) 32 33 3 (I 32 1) := ⟨rfl, by decide, rfl, rfl, by decide, rfl⟩
  have hin : pm_tin r k (I 32 3) (I 32 1) = true → pm_in (r * I 32 1 + k) 3 = true := fun h => (pt_in_32 ht h).2
  refine pm_wc_iff (fun Q' h => ?_) Q
  refine pm_ts_set htb hin ?_
  exact h
theorem pt_set_32_0 {d L : Nat} {b : Bool} {I : Nat → Nat → Int32} {J : Nat → Nat → Int64} {r v : Int32} {Q : Int32 → Int64 → pm_H → Prop} (ht : pm_ti (I 32) 1 3) : pm_wc pm_code pm_meta d 84 [.ref 32, .int r, .int 0, .int v] (pm_Gb L b, I, J) Q ↔ Q 0 0 (pm_Gb L b, (if 0 ≤ r ∧ r < I 32 3 then pm_u I 33 (1 * r.toNatClampNeg + 0) v else I), J) := by
  rw [pt_set_32 ht]
  simp only [show ((0 : Int32) ≤ 0 ∧ (0 : Int32) < 1) = True from eq_true (by decide), and_true]
  exact Iff.rfl
theorem pt_set_34 {d L : Nat} {b : Bool} {I : Nat → Nat → Int32} {J : Nat → Nat → Int64} {r k v : Int32} {Q : Int32 → Int64 → pm_H → Prop} (ht : pm_ti (I 34) 6 24) : pm_wc pm_code pm_meta d 84 [.ref 34, .int r, .int k, .int v] (pm_Gb L b, I, J) Q ↔ Q 0 0 (pm_Gb L b, (if (0 ≤ r ∧ r < I 34 3) ∧ 0 ≤ k ∧ k < 6 then pm_u I 35 (6 * r.toNatClampNeg + k.toNatClampNeg) v else I), J) := by
  have e : (if pm_tin r k (I 34 3) (I 34 1) then (pm_Gb L b, pm_u I 35 (r * I 34 1 + k).toNatClampNeg v, J) else (pm_Gb L b, I, J)) = (pm_Gb L b, (if (0 ≤ r ∧ r < I 34 3) ∧ 0 ≤ k ∧ k < 6 then pm_u I 35 (6 * r.toNatClampNeg + k.toNatClampNeg) v else I), J) := by
    by_cases h : pm_tin r k (I 34 3) (I 34 1) = true
    · rw [if_pos h, (pt_in_34 ht h).1]
      simp only [pm_tin, Bool.and_eq_true, decide_eq_true_eq, ht.1, and_assoc] at h
      rw [if_pos (by simpa only [and_assoc] using h)]
    · rw [if_neg h]
      simp only [pm_tin, Bool.and_eq_true, decide_eq_true_eq, ht.1, and_assoc] at h
      rw [if_neg (by simpa only [and_assoc] using h)]
  rw [← e]
  have htb : pm_tb (pm_Gb L b, I, J) 34 35 144 (I 34 1) := ⟨rfl, by decide, rfl, rfl, by decide, rfl⟩
  have hin : pm_tin r k (I 34 3) (I 34 1) = true → pm_in (r * I 34 1 + k) 144 = true := fun h => (pt_in_34 ht h).2
  refine pm_wc_iff (fun Q' h => ?_) Q
  refine pm_ts_set htb hin ?_
  exact h
theorem pt_set_34_0 {d L : Nat} {b : Bool} {I : Nat → Nat → Int32} {J : Nat → Nat → Int64} {r v : Int32} {Q : Int32 → Int64 → pm_H → Prop} (ht : pm_ti (I 34) 6 24) : pm_wc pm_code pm_meta d 84 [.ref 34, .int r, .int 0, .int v] (pm_Gb L b, I, J) Q ↔ Q 0 0 (pm_Gb L b, (if 0 ≤ r ∧ r < I 34 3 then pm_u I 35 (6 * r.toNatClampNeg + 0) v else I), J) := by
  rw [pt_set_34 ht]
  simp only [show ((0 : Int32) ≤ 0 ∧ (0 : Int32) < 6) = True from eq_true (by decide), and_true]
  exact Iff.rfl
theorem pt_set_34_1 {d L : Nat} {b : Bool} {I : Nat → Nat → Int32} {J : Nat → Nat → Int64} {r v : Int32} {Q : Int32 → Int64 → pm_H → Prop} (ht : pm_ti (I 34) 6 24) : pm_wc pm_code pm_meta d 84 [.ref 34, .int r, .int 1, .int v] (pm_Gb L b, I, J) Q ↔ Q 0 0 (pm_Gb L b, (if 0 ≤ r ∧ r < I 34 3 then pm_u I 35 (6 * r.toNatClampNeg + 1) v else I), J) := by
  rw [pt_set_34 ht]
  simp only [show ((0 : Int32) ≤ 1 ∧ (1 : Int32) < 6) = True from eq_true (by decide), and_true]
  exact Iff.rfl
theorem pt_set_34_2 {d L : Nat} {b : Bool} {I : Nat → Nat → Int32} {J : Nat → Nat → Int64} {r v : Int32} {Q : Int32 → Int64 → pm_H → Prop} (ht : pm_ti (I 34) 6 24) : pm_wc pm_code pm_meta d 84 [.ref 34, .int r, .int 2, .int v] (pm_Gb L b, I, J) Q ↔ Q 0 0 (pm_Gb L b, (if 0 ≤ r ∧ r < I 34 3 then pm_u I 35 (6 * r.toNatClampNeg + 2) v else I), J) := by
  rw [pt_set_34 ht]
  simp only [show ((0 : Int32) ≤ 2 ∧ (2 : Int32) < 6) = True from eq_true (by decide), and_true]
  exact Iff.rfl
theorem pt_set_34_3 {d L : Nat} {b : Bool} {I : Nat → Nat → Int32} {J : Nat → Nat → Int64} {r v : Int32} {Q : Int32 → Int64 → pm_H → Prop} (ht : pm_ti (I 34) 6 24) : pm_wc pm_code pm_meta d 84 [.ref 34, .int r, .int 3, .int v] (pm_Gb L b, I, J) Q ↔ Q 0 0 (pm_Gb L b, (if 0 ≤ r ∧ r < I 34 3 then pm_u I 35 (6 * r.toNatClampNeg + 3) v else I), J) := by
  rw [pt_set_34 ht]
  simp only [show ((0 : Int32) ≤ 3 ∧ (3 : Int32) < 6) = True from eq_true (by decide), and_true]
  exact Iff.rfl
theorem pt_set_34_4 {d L : Nat} {b : Bool} {I : Nat → Nat → Int32} {J : Nat → Nat → Int64} {r v : Int32} {Q : Int32 → Int64 → pm_H → Prop} (ht : pm_ti (I 34) 6 24) : pm_wc pm_code pm_meta d 84 [.ref 34, .int r, .int 4, .int v] (pm_Gb L b, I, J) Q ↔ Q 0 0 (pm_Gb L b, (if 0 ≤ r ∧ r < I 34 3 then pm_u I 35 (6 * r.toNatClampNeg + 4) v else I), J) := by
  rw [pt_set_34 ht]
  simp only [show ((0 : Int32) ≤ 4 ∧ (4 : Int32) < 6) = True from eq_true (by decide), and_true]
  exact Iff.rfl
theorem pt_set_34_5 {d L : Nat} {b : Bool} {I : Nat → Nat → Int32} {J : Nat → Nat → Int64} {r v : Int32} {Q : Int32 → Int64 → pm_H → Prop} (ht : pm_ti (I 34) 6 24) : pm_wc pm_code pm_meta d 84 [.ref 34, .int r, .int 5, .int v] (pm_Gb L b, I, J) Q ↔ Q 0 0 (pm_Gb L b, (if 0 ≤ r ∧ r < I 34 3 then pm_u I 35 (6 * r.toNatClampNeg + 5) v else I), J) := by
  rw [pt_set_34 ht]
  simp only [show ((0 : Int32) ≤ 5 ∧ (5 : Int32) < 6) = True from eq_true (by decide), and_true]
  exact Iff.rfl
theorem pt_set_38 {d L : Nat} {b : Bool} {I : Nat → Nat → Int32} {J : Nat → Nat → Int64} {r k v : Int32} {Q : Int32 → Int64 → pm_H → Prop} (ht : pm_ti (I 38) 3 24) : pm_wc pm_code pm_meta d 84 [.ref 38, .int r, .int k, .int v] (pm_Gb L b, I, J) Q ↔ Q 0 0 (pm_Gb L b, (if (0 ≤ r ∧ r < I 38 3) ∧ 0 ≤ k ∧ k < 3 then pm_u I 39 (3 * r.toNatClampNeg + k.toNatClampNeg) v else I), J) := by
  have e : (if pm_tin r k (I 38 3) (I 38 1) then (pm_Gb L b, pm_u I 39 (r * I 38 1 + k).toNatClampNeg v, J) else (pm_Gb L b, I, J)) = (pm_Gb L b, (if (0 ≤ r ∧ r < I 38 3) ∧ 0 ≤ k ∧ k < 3 then pm_u I 39 (3 * r.toNatClampNeg + k.toNatClampNeg) v else I), J) := by
    by_cases h : pm_tin r k (I 38 3) (I 38 1) = true
    · rw [if_pos h, (pt_in_38 ht h).1]
      simp only [pm_tin, Bool.and_eq_true, decide_eq_true_eq, ht.1, and_assoc] at h
      rw [if_pos (by simpa only [and_assoc] using h)]
    · rw [if_neg h]
      simp only [pm_tin, Bool.and_eq_true, decide_eq_true_eq, ht.1, and_assoc] at h
      rw [if_neg (by simpa only [and_assoc] using h)]
  rw [← e]
  have htb : pm_tb (pm_Gb L b, I, J) 38 39 72 (I 38 1) := ⟨rfl, by decide, rfl, rfl, by decide, rfl⟩
  have hin : pm_tin r k (I 38 3) (I 38 1) = true → pm_in (r * I 38 1 + k) 72 = true := fun h => (pt_in_38 ht h).2
  refine pm_wc_iff (fun Q' h => ?_) Q
  refine pm_ts_set htb hin ?_
  exact h
theorem pt_set_38_0 {d L : Nat} {b : Bool} {I : Nat → Nat → Int32} {J : Nat → Nat → Int64} {r v : Int32} {Q : Int32 → Int64 → pm_H → Prop} (ht : pm_ti (I 38) 3 24) : pm_wc pm_code pm_meta d 84 [.ref 38, .int r, .int 0, .int v] (pm_Gb L b, I, J) Q ↔ Q 0 0 (pm_Gb L b, (if 0 ≤ r ∧ r < I 38 3 then pm_u I 39 (3 * r.toNatClampNeg + 0) v else I), J) := by
  rw [pt_set_38 ht]
  simp only [show ((0 : Int32) ≤ 0 ∧ (0 : Int32) < 3) = True from eq_true (by decide), and_true]
  exact Iff.rfl
theorem pt_set_38_1 {d L : Nat} {b : Bool} {I : Nat → Nat → Int32} {J : Nat → Nat → Int64} {r v : Int32} {Q : Int32 → Int64 → pm_H → Prop} (ht : pm_ti (I 38) 3 24) : pm_wc pm_code pm_meta d 84 [.ref 38, .int r, .int 1, .int v] (pm_Gb L b, I, J) Q ↔ Q 0 0 (pm_Gb L b, (if 0 ≤ r ∧ r < I 38 3 then pm_u I 39 (3 * r.toNatClampNeg + 1) v else I), J) := by
  rw [pt_set_38 ht]
  simp only [show ((0 : Int32) ≤ 1 ∧ (1 : Int32) < 3) = True from eq_true (by decide), and_true]
  exact Iff.rfl
theorem pt_set_38_2 {d L : Nat} {b : Bool} {I : Nat → Nat → Int32} {J : Nat → Nat → Int64} {r v : Int32} {Q : Int32 → Int64 → pm_H → Prop} (ht : pm_ti (I 38) 3 24) : pm_wc pm_code pm_meta d 84 [.ref 38, .int r, .int 2, .int v] (pm_Gb L b, I, J) Q ↔ Q 0 0 (pm_Gb L b, (if 0 ≤ r ∧ r < I 38 3 then pm_u I 39 (3 * r.toNatClampNeg + 2) v else I), J) := by
  rw [pt_set_38 ht]
  simp only [show ((0 : Int32) ≤ 2 ∧ (2 : Int32) < 3) = True from eq_true (by decide), and_true]
  exact Iff.rfl
theorem pt_set_42 {d L : Nat} {b : Bool} {I : Nat → Nat → Int32} {J : Nat → Nat → Int64} {r k v : Int32} {Q : Int32 → Int64 → pm_H → Prop} (ht : pm_ti (I 42) 3 301) : pm_wc pm_code pm_meta d 84 [.ref 42, .int r, .int k, .int v] (pm_Gb L b, I, J) Q ↔ Q 0 0 (pm_Gb L b, (if (0 ≤ r ∧ r < I 42 3) ∧ 0 ≤ k ∧ k < 3 then pm_u I 43 (3 * r.toNatClampNeg + k.toNatClampNeg) v else I), J) := by
  have e : (if pm_tin r k (I 42 3) (I 42 1) then (pm_Gb L b, pm_u I 43 (r * I 42 1 + k).toNatClampNeg v, J) else (pm_Gb L b, I, J)) = (pm_Gb L b, (if (0 ≤ r ∧ r < I 42 3) ∧ 0 ≤ k ∧ k < 3 then pm_u I 43 (3 * r.toNatClampNeg + k.toNatClampNeg) v else I), J) := by
    by_cases h : pm_tin r k (I 42 3) (I 42 1) = true
    · rw [if_pos h, (pt_in_42 ht h).1]
      simp only [pm_tin, Bool.and_eq_true, decide_eq_true_eq, ht.1, and_assoc] at h
      rw [if_pos (by simpa only [and_assoc] using h)]
    · rw [if_neg h]
      simp only [pm_tin, Bool.and_eq_true, decide_eq_true_eq, ht.1, and_assoc] at h
      rw [if_neg (by simpa only [and_assoc] using h)]
  rw [← e]
  have htb : pm_tb (pm_Gb L b, I, J) 42 43 903 (I 42 1) := ⟨rfl, by decide, rfl, rfl, by decide, rfl⟩
  have hin : pm_tin r k (I 42 3) (I 42 1) = true → pm_in (r * I 42 1 + k) 903 = true := fun h => (pt_in_42 ht h).2
  refine pm_wc_iff (fun Q' h => ?_) Q
  refine pm_ts_set htb hin ?_
  exact h
theorem pt_set_42_0 {d L : Nat} {b : Bool} {I : Nat → Nat → Int32} {J : Nat → Nat → Int64} {r v : Int32} {Q : Int32 → Int64 → pm_H → Prop} (ht : pm_ti (I 42) 3 301) : pm_wc pm_code pm_meta d 84 [.ref 42, .int r, .int 0, .int v] (pm_Gb L b, I, J) Q ↔ Q 0 0 (pm_Gb L b, (if 0 ≤ r ∧ r < I 42 3 then pm_u I 43 (3 * r.toNatClampNeg + 0) v else I), J) := by
  rw [pt_set_42 ht]
  simp only [show ((0 : Int32) ≤ 0 ∧ (0 : Int32) < 3) = True from eq_true (by decide), and_true]
  exact Iff.rfl
theorem pt_set_42_1 {d L : Nat} {b : Bool} {I : Nat → Nat → Int32} {J : Nat → Nat → Int64} {r v : Int32} {Q : Int32 → Int64 → pm_H → Prop} (ht : pm_ti (I 42) 3 301) : pm_wc pm_code pm_meta d 84 [.ref 42, .int r, .int 1, .int v] (pm_Gb L b, I, J) Q ↔ Q 0 0 (pm_Gb L b, (if 0 ≤ r ∧ r < I 42 3 then pm_u I 43 (3 * r.toNatClampNeg + 1) v else I), J) := by
  rw [pt_set_42 ht]
  simp only [show ((0 : Int32) ≤ 1 ∧ (1 : Int32) < 3) = True from eq_true (by decide), and_true]
  exact Iff.rfl
theorem pt_set_42_2 {d L : Nat} {b : Bool} {I : Nat → Nat → Int32} {J : Nat → Nat → Int64} {r v : Int32} {Q : Int32 → Int64 → pm_H → Prop} (ht : pm_ti (I 42) 3 301) : pm_wc pm_code pm_meta d 84 [.ref 42, .int r, .int 2, .int v] (pm_Gb L b, I, J) Q ↔ Q 0 0 (pm_Gb L b, (if 0 ≤ r ∧ r < I 42 3 then pm_u I 43 (3 * r.toNatClampNeg + 2) v else I), J) := by
  rw [pt_set_42 ht]
  simp only [show ((0 : Int32) ≤ 2 ∧ (2 : Int32) < 3) = True from eq_true (by decide), and_true]
  exact Iff.rfl
theorem pt_set_44 {d L : Nat} {b : Bool} {I : Nat → Nat → Int32} {J : Nat → Nat → Int64} {r k v : Int32} {Q : Int32 → Int64 → pm_H → Prop} (ht : pm_ti (I 44) 5 10) : pm_wc pm_code pm_meta d 84 [.ref 44, .int r, .int k, .int v] (pm_Gb L b, I, J) Q ↔ Q 0 0 (pm_Gb L b, (if (0 ≤ r ∧ r < I 44 3) ∧ 0 ≤ k ∧ k < 5 then pm_u I 45 (5 * r.toNatClampNeg + k.toNatClampNeg) v else I), J) := by
  have e : (if pm_tin r k (I 44 3) (I 44 1) then (pm_Gb L b, pm_u I 45 (r * I 44 1 + k).toNatClampNeg v, J) else (pm_Gb L b, I, J)) = (pm_Gb L b, (if (0 ≤ r ∧ r < I 44 3) ∧ 0 ≤ k ∧ k < 5 then pm_u I 45 (5 * r.toNatClampNeg + k.toNatClampNeg) v else I), J) := by
    by_cases h : pm_tin r k (I 44 3) (I 44 1) = true
    · rw [if_pos h, (pt_in_44 ht h).1]
      simp only [pm_tin, Bool.and_eq_true, decide_eq_true_eq, ht.1, and_assoc] at h
      rw [if_pos (by simpa only [and_assoc] using h)]
    · rw [if_neg h]
      simp only [pm_tin, Bool.and_eq_true, decide_eq_true_eq, ht.1, and_assoc] at h
      rw [if_neg (by simpa only [and_assoc] using h)]
  rw [← e]
  have htb : pm_tb (pm_Gb L b, I, J) 44 45 50 (I 44 1) := ⟨rfl, by decide, rfl, rfl, by decide, rfl⟩
  have hin : pm_tin r k (I 44 3) (I 44 1) = true → pm_in (r * I 44 1 + k) 50 = true := fun h => (pt_in_44 ht h).2
  refine pm_wc_iff (fun Q' h => ?_) Q
  refine pm_ts_set htb hin ?_
  exact h
theorem pt_set_44_0 {d L : Nat} {b : Bool} {I : Nat → Nat → Int32} {J : Nat → Nat → Int64} {r v : Int32} {Q : Int32 → Int64 → pm_H → Prop} (ht : pm_ti (I 44) 5 10) : pm_wc pm_code pm_meta d 84 [.ref 44, .int r, .int 0, .int v] (pm_Gb L b, I, J) Q ↔ Q 0 0 (pm_Gb L b, (if 0 ≤ r ∧ r < I 44 3 then pm_u I 45 (5 * r.toNatClampNeg + 0) v else I), J) := by
  rw [pt_set_44 ht]
  simp only [show ((0 : Int32) ≤ 0 ∧ (0 : Int32) < 5) = True from eq_true (by decide), and_true]
  exact Iff.rfl
theorem pt_set_44_1 {d L : Nat} {b : Bool} {I : Nat → Nat → Int32} {J : Nat → Nat → Int64} {r v : Int32} {Q : Int32 → Int64 → pm_H → Prop} (ht : pm_ti (I 44) 5 10) : pm_wc pm_code pm_meta d 84 [.ref 44, .int r, .int 1, .int v] (pm_Gb L b, I, J) Q ↔ Q 0 0 (pm_Gb L b, (if 0 ≤ r ∧ r < I 44 3 then pm_u I 45 (5 * r.toNatClampNeg + 1) v else I), J) := by
  rw [pt_set_44 ht]
  simp only [show ((0 : Int32) ≤ 1 ∧ (1 : Int32) < 5) = True from eq_true (by decide), and_true]
  exact Iff.rfl
theorem pt_set_44_2 {d L : Nat} {b : Bool} {I : Nat → Nat → Int32} {J : Nat → Nat → Int64} {r v : Int32} {Q : Int32 → Int64 → pm_H → Prop} (ht : pm_ti (I 44) 5 10) : pm_wc pm_code pm_meta d 84 [.ref 44, .int r, .int 2, .int v] (pm_Gb L b, I, J) Q ↔ Q 0 0 (pm_Gb L b, (if 0 ≤ r ∧ r < I 44 3 then pm_u I 45 (5 * r.toNatClampNeg + 2) v else I), J) := by
  rw [pt_set_44 ht]
  simp only [show ((0 : Int32) ≤ 2 ∧ (2 : Int32) < 5) = True from eq_true (by decide), and_true]
  exact Iff.rfl
theorem pt_set_44_3 {d L : Nat} {b : Bool} {I : Nat → Nat → Int32} {J : Nat → Nat → Int64} {r v : Int32} {Q : Int32 → Int64 → pm_H → Prop} (ht : pm_ti (I 44) 5 10) : pm_wc pm_code pm_meta d 84 [.ref 44, .int r, .int 3, .int v] (pm_Gb L b, I, J) Q ↔ Q 0 0 (pm_Gb L b, (if 0 ≤ r ∧ r < I 44 3 then pm_u I 45 (5 * r.toNatClampNeg + 3) v else I), J) := by
  rw [pt_set_44 ht]
  simp only [show ((0 : Int32) ≤ 3 ∧ (3 : Int32) < 5) = True from eq_true (by decide), and_true]
  exact Iff.rfl
theorem pt_set_44_4 {d L : Nat} {b : Bool} {I : Nat → Nat → Int32} {J : Nat → Nat → Int64} {r v : Int32} {Q : Int32 → Int64 → pm_H → Prop} (ht : pm_ti (I 44) 5 10) : pm_wc pm_code pm_meta d 84 [.ref 44, .int r, .int 4, .int v] (pm_Gb L b, I, J) Q ↔ Q 0 0 (pm_Gb L b, (if 0 ≤ r ∧ r < I 44 3 then pm_u I 45 (5 * r.toNatClampNeg + 4) v else I), J) := by
  rw [pt_set_44 ht]
  simp only [show ((0 : Int32) ≤ 4 ∧ (4 : Int32) < 5) = True from eq_true (by decide), and_true]
  exact Iff.rfl
theorem pt_set_46 {d L : Nat} {b : Bool} {I : Nat → Nat → Int32} {J : Nat → Nat → Int64} {r k v : Int32} {Q : Int32 → Int64 → pm_H → Prop} (ht : pm_ti (I 46) 2 100) : pm_wc pm_code pm_meta d 84 [.ref 46, .int r, .int k, .int v] (pm_Gb L b, I, J) Q ↔ Q 0 0 (pm_Gb L b, (if (0 ≤ r ∧ r < I 46 3) ∧ 0 ≤ k ∧ k < 2 then pm_u I 47 (2 * r.toNatClampNeg + k.toNatClampNeg) v else I), J) := by
  have e : (if pm_tin r k (I 46 3) (I 46 1) then (pm_Gb L b, pm_u I 47 (r * I 46 1 + k).toNatClampNeg v, J) else (pm_Gb L b, I, J)) = (pm_Gb L b, (if (0 ≤ r ∧ r < I 46 3) ∧ 0 ≤ k ∧ k < 2 then pm_u I 47 (2 * r.toNatClampNeg + k.toNatClampNeg) v else I), J) := by
    by_cases h : pm_tin r k (I 46 3) (I 46 1) = true
    · rw [if_pos h, (pt_in_46 ht h).1]
      simp only [pm_tin, Bool.and_eq_true, decide_eq_true_eq, ht.1, and_assoc] at h
      rw [if_pos (by simpa only [and_assoc] using h)]
    · rw [if_neg h]
      simp only [pm_tin, Bool.and_eq_true, decide_eq_true_eq, ht.1, and_assoc] at h
      rw [if_neg (by simpa only [and_assoc] using h)]
  rw [← e]
  have htb : pm_tb (pm_Gb L b, I, J) 46 47 200 (I 46 1) := ⟨rfl, by decide, rfl, rfl, by decide, rfl⟩
  have hin : pm_tin r k (I 46 3) (I 46 1) = true → pm_in (r * I 46 1 + k) 200 = true := fun h => (pt_in_46 ht h).2
  refine pm_wc_iff (fun Q' h => ?_) Q
  refine pm_ts_set htb hin ?_
  exact h
theorem pt_set_46_0 {d L : Nat} {b : Bool} {I : Nat → Nat → Int32} {J : Nat → Nat → Int64} {r v : Int32} {Q : Int32 → Int64 → pm_H → Prop} (ht : pm_ti (I 46) 2 100) : pm_wc pm_code pm_meta d 84 [.ref 46, .int r, .int 0, .int v] (pm_Gb L b, I, J) Q ↔ Q 0 0 (pm_Gb L b, (if 0 ≤ r ∧ r < I 46 3 then pm_u I 47 (2 * r.toNatClampNeg + 0) v else I), J) := by
  rw [pt_set_46 ht]
  simp only [show ((0 : Int32) ≤ 0 ∧ (0 : Int32) < 2) = True from eq_true (by decide), and_true]
  exact Iff.rfl
theorem pt_set_46_1 {d L : Nat} {b : Bool} {I : Nat → Nat → Int32} {J : Nat → Nat → Int64} {r v : Int32} {Q : Int32 → Int64 → pm_H → Prop} (ht : pm_ti (I 46) 2 100) : pm_wc pm_code pm_meta d 84 [.ref 46, .int r, .int 1, .int v] (pm_Gb L b, I, J) Q ↔ Q 0 0 (pm_Gb L b, (if 0 ≤ r ∧ r < I 46 3 then pm_u I 47 (2 * r.toNatClampNeg + 1) v else I), J) := by
  rw [pt_set_46 ht]
  simp only [show ((0 : Int32) ≤ 1 ∧ (1 : Int32) < 2) = True from eq_true (by decide), and_true]
  exact Iff.rfl
theorem pt_set_49 {d L : Nat} {b : Bool} {I : Nat → Nat → Int32} {J : Nat → Nat → Int64} {r k v : Int32} {Q : Int32 → Int64 → pm_H → Prop} (ht : pm_ti (I 49) 2 7) : pm_wc pm_code pm_meta d 84 [.ref 49, .int r, .int k, .int v] (pm_Gb L b, I, J) Q ↔ Q 0 0 (pm_Gb L b, (if (0 ≤ r ∧ r < I 49 3) ∧ 0 ≤ k ∧ k < 2 then pm_u I 50 (2 * r.toNatClampNeg + k.toNatClampNeg) v else I), J) := by
  have e : (if pm_tin r k (I 49 3) (I 49 1) then (pm_Gb L b, pm_u I 50 (r * I 49 1 + k).toNatClampNeg v, J) else (pm_Gb L b, I, J)) = (pm_Gb L b, (if (0 ≤ r ∧ r < I 49 3) ∧ 0 ≤ k ∧ k < 2 then pm_u I 50 (2 * r.toNatClampNeg + k.toNatClampNeg) v else I), J) := by
    by_cases h : pm_tin r k (I 49 3) (I 49 1) = true
    · rw [if_pos h, (pt_in_49 ht h).1]
      simp only [pm_tin, Bool.and_eq_true, decide_eq_true_eq, ht.1, and_assoc] at h
      rw [if_pos (by simpa only [and_assoc] using h)]
    · rw [if_neg h]
      simp only [pm_tin, Bool.and_eq_true, decide_eq_true_eq, ht.1, and_assoc] at h
      rw [if_neg (by simpa only [and_assoc] using h)]
  rw [← e]
  have htb : pm_tb (pm_Gb L b, I, J) 49 50 14 (I 49 1) := ⟨rfl, by decide, rfl, rfl, by decide, rfl⟩
  have hin : pm_tin r k (I 49 3) (I 49 1) = true → pm_in (r * I 49 1 + k) 14 = true := fun h => (pt_in_49 ht h).2
  refine pm_wc_iff (fun Q' h => ?_) Q
  refine pm_ts_set htb hin ?_
  exact h
theorem pt_set_49_0 {d L : Nat} {b : Bool} {I : Nat → Nat → Int32} {J : Nat → Nat → Int64} {r v : Int32} {Q : Int32 → Int64 → pm_H → Prop} (ht : pm_ti (I 49) 2 7) : pm_wc pm_code pm_meta d 84 [.ref 49, .int r, .int 0, .int v] (pm_Gb L b, I, J) Q ↔ Q 0 0 (pm_Gb L b, (if 0 ≤ r ∧ r < I 49 3 then pm_u I 50 (2 * r.toNatClampNeg + 0) v else I), J) := by
  rw [pt_set_49 ht]
  simp only [show ((0 : Int32) ≤ 0 ∧ (0 : Int32) < 2) = True from eq_true (by decide), and_true]
  exact Iff.rfl
theorem pt_set_49_1 {d L : Nat} {b : Bool} {I : Nat → Nat → Int32} {J : Nat → Nat → Int64} {r v : Int32} {Q : Int32 → Int64 → pm_H → Prop} (ht : pm_ti (I 49) 2 7) : pm_wc pm_code pm_meta d 84 [.ref 49, .int r, .int 1, .int v] (pm_Gb L b, I, J) Q ↔ Q 0 0 (pm_Gb L b, (if 0 ≤ r ∧ r < I 49 3 then pm_u I 50 (2 * r.toNatClampNeg + 1) v else I), J) := by
  rw [pt_set_49 ht]
  simp only [show ((0 : Int32) ≤ 1 ∧ (1 : Int32) < 2) = True from eq_true (by decide), and_true]
  exact Iff.rfl
theorem pt_set_53 {d L : Nat} {b : Bool} {I : Nat → Nat → Int32} {J : Nat → Nat → Int64} {r k v : Int32} {Q : Int32 → Int64 → pm_H → Prop} (ht : pm_ti (I 53) 1 7) : pm_wc pm_code pm_meta d 84 [.ref 53, .int r, .int k, .int v] (pm_Gb L b, I, J) Q ↔ Q 0 0 (pm_Gb L b, (if (0 ≤ r ∧ r < I 53 3) ∧ 0 ≤ k ∧ k < 1 then pm_u I 54 (1 * r.toNatClampNeg + k.toNatClampNeg) v else I), J) := by
  have e : (if pm_tin r k (I 53 3) (I 53 1) then (pm_Gb L b, pm_u I 54 (r * I 53 1 + k).toNatClampNeg v, J) else (pm_Gb L b, I, J)) = (pm_Gb L b, (if (0 ≤ r ∧ r < I 53 3) ∧ 0 ≤ k ∧ k < 1 then pm_u I 54 (1 * r.toNatClampNeg + k.toNatClampNeg) v else I), J) := by
    by_cases h : pm_tin r k (I 53 3) (I 53 1) = true
    · rw [if_pos h, (pt_in_53 ht h).1]
      simp only [pm_tin, Bool.and_eq_true, decide_eq_true_eq, ht.1, and_assoc] at h
      rw [if_pos (by simpa only [and_assoc] using h)]
    · rw [if_neg h]
      simp only [pm_tin, Bool.and_eq_true, decide_eq_true_eq, ht.1, and_assoc] at h
      rw [if_neg (by simpa only [and_assoc] using h)]
  rw [← e]
  have htb : pm_tb (pm_Gb L b, I, J) 53 54 7 (I 53 1) := ⟨rfl, by decide, rfl, rfl, by decide, rfl⟩
  have hin : pm_tin r k (I 53 3) (I 53 1) = true → pm_in (r * I 53 1 + k) 7 = true := fun h => (pt_in_53 ht h).2
  refine pm_wc_iff (fun Q' h => ?_) Q
  refine pm_ts_set htb hin ?_
  exact h
theorem pt_set_53_0 {d L : Nat} {b : Bool} {I : Nat → Nat → Int32} {J : Nat → Nat → Int64} {r v : Int32} {Q : Int32 → Int64 → pm_H → Prop} (ht : pm_ti (I 53) 1 7) : pm_wc pm_code pm_meta d 84 [.ref 53, .int r, .int 0, .int v] (pm_Gb L b, I, J) Q ↔ Q 0 0 (pm_Gb L b, (if 0 ≤ r ∧ r < I 53 3 then pm_u I 54 (1 * r.toNatClampNeg + 0) v else I), J) := by
  rw [pt_set_53 ht]
  simp only [show ((0 : Int32) ≤ 0 ∧ (0 : Int32) < 1) = True from eq_true (by decide), and_true]
  exact Iff.rfl
theorem pt_set_58 {d L : Nat} {b : Bool} {I : Nat → Nat → Int32} {J : Nat → Nat → Int64} {r k v : Int32} {Q : Int32 → Int64 → pm_H → Prop} (ht : pm_ti (I 58) 1 3) : pm_wc pm_code pm_meta d 84 [.ref 58, .int r, .int k, .int v] (pm_Gb L b, I, J) Q ↔ Q 0 0 (pm_Gb L b, (if (0 ≤ r ∧ r < I 58 3) ∧ 0 ≤ k ∧ k < 1 then pm_u I 59 (1 * r.toNatClampNeg + k.toNatClampNeg) v else I), J) := by
  have e : (if pm_tin r k (I 58 3) (I 58 1) then (pm_Gb L b, pm_u I 59 (r * I 58 1 + k).toNatClampNeg v, J) else (pm_Gb L b, I, J)) = (pm_Gb L b, (if (0 ≤ r ∧ r < I 58 3) ∧ 0 ≤ k ∧ k < 1 then pm_u I 59 (1 * r.toNatClampNeg + k.toNatClampNeg) v else I), J) := by
    by_cases h : pm_tin r k (I 58 3) (I 58 1) = true
    · rw [if_pos h, (pt_in_58 ht h).1]
      simp only [pm_tin, Bool.and_eq_true, decide_eq_true_eq, ht.1, and_assoc] at h
      rw [if_pos (by simpa only [and_assoc] using h)]
    · rw [if_neg h]
      simp only [pm_tin, Bool.and_eq_true, decide_eq_true_eq, ht.1, and_assoc] at h
      rw [if_neg (by simpa only [and_assoc] using h)]
  rw [← e]
  have htb : pm_tb (pm_Gb L b, I, J) 58 59 3 (I 58 1) := ⟨rfl, by decide, rfl, rfl, by decide, rfl⟩
  have hin : pm_tin r k (I 58 3) (I 58 1) = true → pm_in (r * I 58 1 + k) 3 = true := fun h => (pt_in_58 ht h).2
  refine pm_wc_iff (fun Q' h => ?_) Q
  refine pm_ts_set htb hin ?_
  exact h
theorem pt_set_58_0 {d L : Nat} {b : Bool} {I : Nat → Nat → Int32} {J : Nat → Nat → Int64} {r v : Int32} {Q : Int32 → Int64 → pm_H → Prop} (ht : pm_ti (I 58) 1 3) : pm_wc pm_code pm_meta d 84 [.ref 58, .int r, .int 0, .int v] (pm_Gb L b, I, J) Q ↔ Q 0 0 (pm_Gb L b, (if 0 ≤ r ∧ r < I 58 3 then pm_u I 59 (1 * r.toNatClampNeg + 0) v else I), J) := by
  rw [pt_set_58 ht]
  simp only [show ((0 : Int32) ≤ 0 ∧ (0 : Int32) < 1) = True from eq_true (by decide), and_true]
  exact Iff.rfl
theorem pt_set_60 {d L : Nat} {b : Bool} {I : Nat → Nat → Int32} {J : Nat → Nat → Int64} {r k v : Int32} {Q : Int32 → Int64 → pm_H → Prop} (ht : pm_ti (I 60) 1 7) : pm_wc pm_code pm_meta d 84 [.ref 60, .int r, .int k, .int v] (pm_Gb L b, I, J) Q ↔ Q 0 0 (pm_Gb L b, (if (0 ≤ r ∧ r < I 60 3) ∧ 0 ≤ k ∧ k < 1 then pm_u I 61 (1 * r.toNatClampNeg + k.toNatClampNeg) v else I), J) := by
  have e : (if pm_tin r k (I 60 3) (I 60 1) then (pm_Gb L b, pm_u I 61 (r * I 60 1 + k).toNatClampNeg v, J) else (pm_Gb L b, I, J)) = (pm_Gb L b, (if (0 ≤ r ∧ r < I 60 3) ∧ 0 ≤ k ∧ k < 1 then pm_u I 61 (1 * r.toNatClampNeg + k.toNatClampNeg) v else I), J) := by
    by_cases h : pm_tin r k (I 60 3) (I 60 1) = true
    · rw [if_pos h, (pt_in_60 ht h).1]
      simp only [pm_tin, Bool.and_eq_true, decide_eq_true_eq, ht.1, and_assoc] at h
      rw [if_pos (by simpa only [and_assoc] using h)]
    · rw [if_neg h]
      simp only [pm_tin, Bool.and_eq_true, decide_eq_true_eq, ht.1, and_assoc] at h
      rw [if_neg (by simpa only [and_assoc] using h)]
  rw [← e]
  have htb : pm_tb (pm_Gb L b, I, J) 60 61 7 (I 60 1) := ⟨rfl, by decide, rfl, rfl, by decide, rfl⟩
  have hin : pm_tin r k (I 60 3) (I 60 1) = true → pm_in (r * I 60 1 + k) 7 = true := fun h => (pt_in_60 ht h).2
  refine pm_wc_iff (fun Q' h => ?_) Q
  refine pm_ts_set htb hin ?_
  exact h
theorem pt_set_60_0 {d L : Nat} {b : Bool} {I : Nat → Nat → Int32} {J : Nat → Nat → Int64} {r v : Int32} {Q : Int32 → Int64 → pm_H → Prop} (ht : pm_ti (I 60) 1 7) : pm_wc pm_code pm_meta d 84 [.ref 60, .int r, .int 0, .int v] (pm_Gb L b, I, J) Q ↔ Q 0 0 (pm_Gb L b, (if 0 ≤ r ∧ r < I 60 3 then pm_u I 61 (1 * r.toNatClampNeg + 0) v else I), J) := by
  rw [pt_set_60 ht]
  simp only [show ((0 : Int32) ≤ 0 ∧ (0 : Int32) < 1) = True from eq_true (by decide), and_true]
  exact Iff.rfl
theorem pt_set_65 {d L : Nat} {b : Bool} {I : Nat → Nat → Int32} {J : Nat → Nat → Int64} {r k v : Int32} {Q : Int32 → Int64 → pm_H → Prop} (ht : pm_ti (I 65) 1 24) : pm_wc pm_code pm_meta d 84 [.ref 65, .int r, .int k, .int v] (pm_Gb L b, I, J) Q ↔ Q 0 0 (pm_Gb L b, (if (0 ≤ r ∧ r < I 65 3) ∧ 0 ≤ k ∧ k < 1 then pm_u I 66 (1 * r.toNatClampNeg + k.toNatClampNeg) v else I), J) := by
  have e : (if pm_tin r k (I 65 3) (I 65 1) then (pm_Gb L b, pm_u I 66 (r * I 65 1 + k).toNatClampNeg v, J) else (pm_Gb L b, I, J)) = (pm_Gb L b, (if (0 ≤ r ∧ r < I 65 3) ∧ 0 ≤ k ∧ k < 1 then pm_u I 66 (1 * r.toNatClampNeg + k.toNatClampNeg) v else I), J) := by
    by_cases h : pm_tin r k (I 65 3) (I 65 1) = true
    · rw [if_pos h, (pt_in_65 ht h).1]
      simp only [pm_tin, Bool.and_eq_true, decide_eq_true_eq, ht.1, and_assoc] at h
      rw [if_pos (by simpa only [and_assoc] using h)]
    · rw [if_neg h]
      simp only [pm_tin, Bool.and_eq_true, decide_eq_true_eq, ht.1, and_assoc] at h
      rw [if_neg (by simpa only [and_assoc] using h)]
  rw [← e]
  have htb : pm_tb (pm_Gb L b, I, J) 65 66 24 (I 65 1) := ⟨rfl, by decide, rfl, rfl, by decide, rfl⟩
  have hin : pm_tin r k (I 65 3) (I 65 1) = true → pm_in (r * I 65 1 + k) 24 = true := fun h => (pt_in_65 ht h).2
  refine pm_wc_iff (fun Q' h => ?_) Q
  refine pm_ts_set htb hin ?_
  exact h
theorem pt_set_65_0 {d L : Nat} {b : Bool} {I : Nat → Nat → Int32} {J : Nat → Nat → Int64} {r v : Int32} {Q : Int32 → Int64 → pm_H → Prop} (ht : pm_ti (I 65) 1 24) : pm_wc pm_code pm_meta d 84 [.ref 65, .int r, .int 0, .int v] (pm_Gb L b, I, J) Q ↔ Q 0 0 (pm_Gb L b, (if 0 ≤ r ∧ r < I 65 3 then pm_u I 66 (1 * r.toNatClampNeg + 0) v else I), J) := by
  rw [pt_set_65 ht]
  simp only [show ((0 : Int32) ≤ 0 ∧ (0 : Int32) < 1) = True from eq_true (by decide), and_true]
  exact Iff.rfl
theorem pt_set_68 {d L : Nat} {b : Bool} {I : Nat → Nat → Int32} {J : Nat → Nat → Int64} {r k v : Int32} {Q : Int32 → Int64 → pm_H → Prop} (ht : pm_ti (I 68) 1 256) : pm_wc pm_code pm_meta d 84 [.ref 68, .int r, .int k, .int v] (pm_Gb L b, I, J) Q ↔ Q 0 0 (pm_Gb L b, (if (0 ≤ r ∧ r < I 68 3) ∧ 0 ≤ k ∧ k < 1 then pm_u I 69 (1 * r.toNatClampNeg + k.toNatClampNeg) v else I), J) := by
  have e : (if pm_tin r k (I 68 3) (I 68 1) then (pm_Gb L b, pm_u I 69 (r * I 68 1 + k).toNatClampNeg v, J) else (pm_Gb L b, I, J)) = (pm_Gb L b, (if (0 ≤ r ∧ r < I 68 3) ∧ 0 ≤ k ∧ k < 1 then pm_u I 69 (1 * r.toNatClampNeg + k.toNatClampNeg) v else I), J) := by
    by_cases h : pm_tin r k (I 68 3) (I 68 1) = true
    · rw [if_pos h, (pt_in_68 ht h).1]
      simp only [pm_tin, Bool.and_eq_true, decide_eq_true_eq, ht.1, and_assoc] at h
      rw [if_pos (by simpa only [and_assoc] using h)]
    · rw [if_neg h]
      simp only [pm_tin, Bool.and_eq_true, decide_eq_true_eq, ht.1, and_assoc] at h
      rw [if_neg (by simpa only [and_assoc] using h)]
  rw [← e]
  have htb : pm_tb (pm_Gb L b, I, J) 68 69 256 (I 68 1) := ⟨rfl, by decide, rfl, rfl, by decide, rfl⟩
  have hin : pm_tin r k (I 68 3) (I 68 1) = true → pm_in (r * I 68 1 + k) 256 = true := fun h => (pt_in_68 ht h).2
  refine pm_wc_iff (fun Q' h => ?_) Q
  refine pm_ts_set htb hin ?_
  exact h
theorem pt_set_68_0 {d L : Nat} {b : Bool} {I : Nat → Nat → Int32} {J : Nat → Nat → Int64} {r v : Int32} {Q : Int32 → Int64 → pm_H → Prop} (ht : pm_ti (I 68) 1 256) : pm_wc pm_code pm_meta d 84 [.ref 68, .int r, .int 0, .int v] (pm_Gb L b, I, J) Q ↔ Q 0 0 (pm_Gb L b, (if 0 ≤ r ∧ r < I 68 3 then pm_u I 69 (1 * r.toNatClampNeg + 0) v else I), J) := by
  rw [pt_set_68 ht]
  simp only [show ((0 : Int32) ≤ 0 ∧ (0 : Int32) < 1) = True from eq_true (by decide), and_true]
  exact Iff.rfl
theorem pt_set_71 {d L : Nat} {b : Bool} {I : Nat → Nat → Int32} {J : Nat → Nat → Int64} {r k v : Int32} {Q : Int32 → Int64 → pm_H → Prop} (ht : pm_ti (I 71) 2 4) : pm_wc pm_code pm_meta d 84 [.ref 71, .int r, .int k, .int v] (pm_Gb L b, I, J) Q ↔ Q 0 0 (pm_Gb L b, (if (0 ≤ r ∧ r < I 71 3) ∧ 0 ≤ k ∧ k < 2 then pm_u I 72 (2 * r.toNatClampNeg + k.toNatClampNeg) v else I), J) := by
  have e : (if pm_tin r k (I 71 3) (I 71 1) then (pm_Gb L b, pm_u I 72 (r * I 71 1 + k).toNatClampNeg v, J) else (pm_Gb L b, I, J)) = (pm_Gb L b, (if (0 ≤ r ∧ r < I 71 3) ∧ 0 ≤ k ∧ k < 2 then pm_u I 72 (2 * r.toNatClampNeg + k.toNatClampNeg) v else I), J) := by
    by_cases h : pm_tin r k (I 71 3) (I 71 1) = true
    · rw [if_pos h, (pt_in_71 ht h).1]
      simp only [pm_tin, Bool.and_eq_true, decide_eq_true_eq, ht.1, and_assoc] at h
      rw [if_pos (by simpa only [and_assoc] using h)]
    · rw [if_neg h]
      simp only [pm_tin, Bool.and_eq_true, decide_eq_true_eq, ht.1, and_assoc] at h
      rw [if_neg (by simpa only [and_assoc] using h)]
  rw [← e]
  have htb : pm_tb (pm_Gb L b, I, J) 71 72 8 (I 71 1) := ⟨rfl, by decide, rfl, rfl, by decide, rfl⟩
  have hin : pm_tin r k (I 71 3) (I 71 1) = true → pm_in (r * I 71 1 + k) 8 = true := fun h => (pt_in_71 ht h).2
  refine pm_wc_iff (fun Q' h => ?_) Q
  refine pm_ts_set htb hin ?_
  exact h
theorem pt_set_71_0 {d L : Nat} {b : Bool} {I : Nat → Nat → Int32} {J : Nat → Nat → Int64} {r v : Int32} {Q : Int32 → Int64 → pm_H → Prop} (ht : pm_ti (I 71) 2 4) : pm_wc pm_code pm_meta d 84 [.ref 71, .int r, .int 0, .int v] (pm_Gb L b, I, J) Q ↔ Q 0 0 (pm_Gb L b, (if 0 ≤ r ∧ r < I 71 3 then pm_u I 72 (2 * r.toNatClampNeg + 0) v else I), J) := by
  rw [pt_set_71 ht]
  simp only [show ((0 : Int32) ≤ 0 ∧ (0 : Int32) < 2) = True from eq_true (by decide), and_true]
  exact Iff.rfl
theorem pt_set_71_1 {d L : Nat} {b : Bool} {I : Nat → Nat → Int32} {J : Nat → Nat → Int64} {r v : Int32} {Q : Int32 → Int64 → pm_H → Prop} (ht : pm_ti (I 71) 2 4) : pm_wc pm_code pm_meta d 84 [.ref 71, .int r, .int 1, .int v] (pm_Gb L b, I, J) Q ↔ Q 0 0 (pm_Gb L b, (if 0 ≤ r ∧ r < I 71 3 then pm_u I 72 (2 * r.toNatClampNeg + 1) v else I), J) := by
  rw [pt_set_71 ht]
  simp only [show ((0 : Int32) ≤ 1 ∧ (1 : Int32) < 2) = True from eq_true (by decide), and_true]
  exact Iff.rfl
theorem pt_set_73 {d L : Nat} {b : Bool} {I : Nat → Nat → Int32} {J : Nat → Nat → Int64} {r k v : Int32} {Q : Int32 → Int64 → pm_H → Prop} (ht : pm_ti (I 73) 40 4) : pm_wc pm_code pm_meta d 84 [.ref 73, .int r, .int k, .int v] (pm_Gb L b, I, J) Q ↔ Q 0 0 (pm_Gb L b, (if (0 ≤ r ∧ r < I 73 3) ∧ 0 ≤ k ∧ k < 40 then pm_u I 74 (40 * r.toNatClampNeg + k.toNatClampNeg) v else I), J) := by
  have e : (if pm_tin r k (I 73 3) (I 73 1) then (pm_Gb L b, pm_u I 74 (r * I 73 1 + k).toNatClampNeg v, J) else (pm_Gb L b, I, J)) = (pm_Gb L b, (if (0 ≤ r ∧ r < I 73 3) ∧ 0 ≤ k ∧ k < 40 then pm_u I 74 (40 * r.toNatClampNeg + k.toNatClampNeg) v else I), J) := by
    by_cases h : pm_tin r k (I 73 3) (I 73 1) = true
    · rw [if_pos h, (pt_in_73 ht h).1]
      simp only [pm_tin, Bool.and_eq_true, decide_eq_true_eq, ht.1, and_assoc] at h
      rw [if_pos (by simpa only [and_assoc] using h)]
    · rw [if_neg h]
      simp only [pm_tin, Bool.and_eq_true, decide_eq_true_eq, ht.1, and_assoc] at h
      rw [if_neg (by simpa only [and_assoc] using h)]
  rw [← e]
  have htb : pm_tb (pm_Gb L b, I, J) 73 74 160 (I 73 1) := ⟨rfl, by decide, rfl, rfl, by decide, rfl⟩
  have hin : pm_tin r k (I 73 3) (I 73 1) = true → pm_in (r * I 73 1 + k) 160 = true := fun h => (pt_in_73 ht h).2
  refine pm_wc_iff (fun Q' h => ?_) Q
  refine pm_ts_set htb hin ?_
  exact h
theorem pt_set_75 {d L : Nat} {b : Bool} {I : Nat → Nat → Int32} {J : Nat → Nat → Int64} {r k v : Int32} {Q : Int32 → Int64 → pm_H → Prop} (ht : pm_ti (I 75) 3 4) : pm_wc pm_code pm_meta d 84 [.ref 75, .int r, .int k, .int v] (pm_Gb L b, I, J) Q ↔ Q 0 0 (pm_Gb L b, (if (0 ≤ r ∧ r < I 75 3) ∧ 0 ≤ k ∧ k < 3 then pm_u I 76 (3 * r.toNatClampNeg + k.toNatClampNeg) v else I), J) := by
  have e : (if pm_tin r k (I 75 3) (I 75 1) then (pm_Gb L b, pm_u I 76 (r * I 75 1 + k).toNatClampNeg v, J) else (pm_Gb L b, I, J)) = (pm_Gb L b, (if (0 ≤ r ∧ r < I 75 3) ∧ 0 ≤ k ∧ k < 3 then pm_u I 76 (3 * r.toNatClampNeg + k.toNatClampNeg) v else I), J) := by
    by_cases h : pm_tin r k (I 75 3) (I 75 1) = true
    · rw [if_pos h, (pt_in_75 ht h).1]
      simp only [pm_tin, Bool.and_eq_true, decide_eq_true_eq, ht.1, and_assoc] at h
      rw [if_pos (by simpa only [and_assoc] using h)]
    · rw [if_neg h]
      simp only [pm_tin, Bool.and_eq_true, decide_eq_true_eq, ht.1, and_assoc] at h
      rw [if_neg (by simpa only [and_assoc] using h)]
  rw [← e]
  have htb : pm_tb (pm_Gb L b, I, J) 75 76 12 (I 75 1) := ⟨rfl, by decide, rfl, rfl, by decide, rfl⟩
  have hin : pm_tin r k (I 75 3) (I 75 1) = true → pm_in (r * I 75 1 + k) 12 = true := fun h => (pt_in_75 ht h).2
  refine pm_wc_iff (fun Q' h => ?_) Q
  refine pm_ts_set htb hin ?_
  exact h
theorem pt_set_75_0 {d L : Nat} {b : Bool} {I : Nat → Nat → Int32} {J : Nat → Nat → Int64} {r v : Int32} {Q : Int32 → Int64 → pm_H → Prop} (ht : pm_ti (I 75) 3 4) : pm_wc pm_code pm_meta d 84 [.ref 75, .int r, .int 0, .int v] (pm_Gb L b, I, J) Q ↔ Q 0 0 (pm_Gb L b, (if 0 ≤ r ∧ r < I 75 3 then pm_u I 76 (3 * r.toNatClampNeg + 0) v else I), J) := by
  rw [pt_set_75 ht]
  simp only [show ((0 : Int32) ≤ 0 ∧ (0 : Int32) < 3) = True from eq_true (by decide), and_true]
  exact Iff.rfl
theorem pt_set_75_1 {d L : Nat} {b : Bool} {I : Nat → Nat → Int32} {J : Nat → Nat → Int64} {r v : Int32} {Q : Int32 → Int64 → pm_H → Prop} (ht : pm_ti (I 75) 3 4) : pm_wc pm_code pm_meta d 84 [.ref 75, .int r, .int 1, .int v] (pm_Gb L b, I, J) Q ↔ Q 0 0 (pm_Gb L b, (if 0 ≤ r ∧ r < I 75 3 then pm_u I 76 (3 * r.toNatClampNeg + 1) v else I), J) := by
  rw [pt_set_75 ht]
  simp only [show ((0 : Int32) ≤ 1 ∧ (1 : Int32) < 3) = True from eq_true (by decide), and_true]
  exact Iff.rfl
theorem pt_set_75_2 {d L : Nat} {b : Bool} {I : Nat → Nat → Int32} {J : Nat → Nat → Int64} {r v : Int32} {Q : Int32 → Int64 → pm_H → Prop} (ht : pm_ti (I 75) 3 4) : pm_wc pm_code pm_meta d 84 [.ref 75, .int r, .int 2, .int v] (pm_Gb L b, I, J) Q ↔ Q 0 0 (pm_Gb L b, (if 0 ≤ r ∧ r < I 75 3 then pm_u I 76 (3 * r.toNatClampNeg + 2) v else I), J) := by
  rw [pt_set_75 ht]
  simp only [show ((0 : Int32) ≤ 2 ∧ (2 : Int32) < 3) = True from eq_true (by decide), and_true]
  exact Iff.rfl
theorem pt_set_77 {d L : Nat} {b : Bool} {I : Nat → Nat → Int32} {J : Nat → Nat → Int64} {r k v : Int32} {Q : Int32 → Int64 → pm_H → Prop} (ht : pm_ti (I 77) 1 30) : pm_wc pm_code pm_meta d 84 [.ref 77, .int r, .int k, .int v] (pm_Gb L b, I, J) Q ↔ Q 0 0 (pm_Gb L b, (if (0 ≤ r ∧ r < I 77 3) ∧ 0 ≤ k ∧ k < 1 then pm_u I 78 (1 * r.toNatClampNeg + k.toNatClampNeg) v else I), J) := by
  have e : (if pm_tin r k (I 77 3) (I 77 1) then (pm_Gb L b, pm_u I 78 (r * I 77 1 + k).toNatClampNeg v, J) else (pm_Gb L b, I, J)) = (pm_Gb L b, (if (0 ≤ r ∧ r < I 77 3) ∧ 0 ≤ k ∧ k < 1 then pm_u I 78 (1 * r.toNatClampNeg + k.toNatClampNeg) v else I), J) := by
    by_cases h : pm_tin r k (I 77 3) (I 77 1) = true
    · rw [if_pos h, (pt_in_77 ht h).1]
      simp only [pm_tin, Bool.and_eq_true, decide_eq_true_eq, ht.1, and_assoc] at h
      rw [if_pos (by simpa only [and_assoc] using h)]
    · rw [if_neg h]
      simp only [pm_tin, Bool.and_eq_true, decide_eq_true_eq, ht.1, and_assoc] at h
      rw [if_neg (by simpa only [and_assoc] using h)]
  rw [← e]
  have htb : pm_tb (pm_Gb L b, I, J) 77 78 30 (I 77 1) := ⟨rfl, by decide, rfl, rfl, by decide, rfl⟩
  have hin : pm_tin r k (I 77 3) (I 77 1) = true → pm_in (r * I 77 1 + k) 30 = true := fun h => (pt_in_77 ht h).2
  refine pm_wc_iff (fun Q' h => ?_) Q
  refine pm_ts_set htb hin ?_
  exact h
theorem pt_set_77_0 {d L : Nat} {b : Bool} {I : Nat → Nat → Int32} {J : Nat → Nat → Int64} {r v : Int32} {Q : Int32 → Int64 → pm_H → Prop} (ht : pm_ti (I 77) 1 30) : pm_wc pm_code pm_meta d 84 [.ref 77, .int r, .int 0, .int v] (pm_Gb L b, I, J) Q ↔ Q 0 0 (pm_Gb L b, (if 0 ≤ r ∧ r < I 77 3 then pm_u I 78 (1 * r.toNatClampNeg + 0) v else I), J) := by
  rw [pt_set_77 ht]
  simp only [show ((0 : Int32) ≤ 0 ∧ (0 : Int32) < 1) = True from eq_true (by decide), and_true]
  exact Iff.rfl
theorem pt_cut_30 {d L : Nat} {b : Bool} {I : Nat → Nat → Int32} {J : Nat → Nat → Int64} {r : Int32} {Q : Int32 → Int64 → pm_H → Prop} : pm_wc pm_code pm_meta d 87 [.ref 30, .int r] (pm_Gb L b, I, J) Q ↔ Q 0 0 (pm_Gb L b, (if 0 ≤ r ∧ r < I 30 3 then pm_u I 30 3 r else I), J) := by
  have e : (if decide (0 ≤ r) && decide (r < I 30 3) then (pm_Gb L b, pm_u I 30 3 r, J) else (pm_Gb L b, I, J)) = (pm_Gb L b, (if 0 ≤ r ∧ r < I 30 3 then pm_u I 30 3 r else I), J) := by
    by_cases h : 0 ≤ r ∧ r < I 30 3 <;> simp [h]
  rw [← e]
  exact pm_wc_iff (fun _ h => pm_ts_cut (c := 31) (n := 7) (w := I 30 1) ⟨rfl, by decide, rfl, rfl, by decide, rfl⟩ h) Q
theorem pt_cut_32 {d L : Nat} {b : Bool} {I : Nat → Nat → Int32} {J : Nat → Nat → Int64} {r : Int32} {Q : Int32 → Int64 → pm_H → Prop} : pm_wc pm_code pm_meta d 87 [.ref 32, .int r] (pm_Gb L b, I, J) Q ↔ Q 0 0 (pm_Gb L b, (if 0 ≤ r ∧ r < I 32 3 then pm_u I 32 3 r else I), J) := by
  have e : (if decide (0 ≤ r) && decide (r < I 32 3) then (pm_Gb L b, pm_u I 32 3 r, J) else (pm_Gb L b, I, J)) = (pm_Gb L b, (if 0 ≤ r ∧ r < I 32 3 then pm_u I 32 3 r else I), J) := by
    by_cases h : 0 ≤ r ∧ r < I 32 3 <;> simp [h]
  rw [← e]
  exact pm_wc_iff (fun _ h => pm_ts_cut (c := 33) (n := 3) (w := I 32 1) ⟨rfl, by decide, rfl, rfl, by decide, rfl⟩ h) Q
theorem pt_cut_38 {d L : Nat} {b : Bool} {I : Nat → Nat → Int32} {J : Nat → Nat → Int64} {r : Int32} {Q : Int32 → Int64 → pm_H → Prop} : pm_wc pm_code pm_meta d 87 [.ref 38, .int r] (pm_Gb L b, I, J) Q ↔ Q 0 0 (pm_Gb L b, (if 0 ≤ r ∧ r < I 38 3 then pm_u I 38 3 r else I), J) := by
  have e : (if decide (0 ≤ r) && decide (r < I 38 3) then (pm_Gb L b, pm_u I 38 3 r, J) else (pm_Gb L b, I, J)) = (pm_Gb L b, (if 0 ≤ r ∧ r < I 38 3 then pm_u I 38 3 r else I), J) := by
    by_cases h : 0 ≤ r ∧ r < I 38 3 <;> simp [h]
  rw [← e]
  exact pm_wc_iff (fun _ h => pm_ts_cut (c := 39) (n := 72) (w := I 38 1) ⟨rfl, by decide, rfl, rfl, by decide, rfl⟩ h) Q
theorem pt_cut_42 {d L : Nat} {b : Bool} {I : Nat → Nat → Int32} {J : Nat → Nat → Int64} {r : Int32} {Q : Int32 → Int64 → pm_H → Prop} : pm_wc pm_code pm_meta d 87 [.ref 42, .int r] (pm_Gb L b, I, J) Q ↔ Q 0 0 (pm_Gb L b, (if 0 ≤ r ∧ r < I 42 3 then pm_u I 42 3 r else I), J) := by
  have e : (if decide (0 ≤ r) && decide (r < I 42 3) then (pm_Gb L b, pm_u I 42 3 r, J) else (pm_Gb L b, I, J)) = (pm_Gb L b, (if 0 ≤ r ∧ r < I 42 3 then pm_u I 42 3 r else I), J) := by
    by_cases h : 0 ≤ r ∧ r < I 42 3 <;> simp [h]
  rw [← e]
  exact pm_wc_iff (fun _ h => pm_ts_cut (c := 43) (n := 903) (w := I 42 1) ⟨rfl, by decide, rfl, rfl, by decide, rfl⟩ h) Q
theorem pt_cut_44 {d L : Nat} {b : Bool} {I : Nat → Nat → Int32} {J : Nat → Nat → Int64} {r : Int32} {Q : Int32 → Int64 → pm_H → Prop} : pm_wc pm_code pm_meta d 87 [.ref 44, .int r] (pm_Gb L b, I, J) Q ↔ Q 0 0 (pm_Gb L b, (if 0 ≤ r ∧ r < I 44 3 then pm_u I 44 3 r else I), J) := by
  have e : (if decide (0 ≤ r) && decide (r < I 44 3) then (pm_Gb L b, pm_u I 44 3 r, J) else (pm_Gb L b, I, J)) = (pm_Gb L b, (if 0 ≤ r ∧ r < I 44 3 then pm_u I 44 3 r else I), J) := by
    by_cases h : 0 ≤ r ∧ r < I 44 3 <;> simp [h]
  rw [← e]
  exact pm_wc_iff (fun _ h => pm_ts_cut (c := 45) (n := 50) (w := I 44 1) ⟨rfl, by decide, rfl, rfl, by decide, rfl⟩ h) Q
theorem pt_cut_46 {d L : Nat} {b : Bool} {I : Nat → Nat → Int32} {J : Nat → Nat → Int64} {r : Int32} {Q : Int32 → Int64 → pm_H → Prop} : pm_wc pm_code pm_meta d 87 [.ref 46, .int r] (pm_Gb L b, I, J) Q ↔ Q 0 0 (pm_Gb L b, (if 0 ≤ r ∧ r < I 46 3 then pm_u I 46 3 r else I), J) := by
  have e : (if decide (0 ≤ r) && decide (r < I 46 3) then (pm_Gb L b, pm_u I 46 3 r, J) else (pm_Gb L b, I, J)) = (pm_Gb L b, (if 0 ≤ r ∧ r < I 46 3 then pm_u I 46 3 r else I), J) := by
    by_cases h : 0 ≤ r ∧ r < I 46 3 <;> simp [h]
  rw [← e]
  exact pm_wc_iff (fun _ h => pm_ts_cut (c := 47) (n := 200) (w := I 46 1) ⟨rfl, by decide, rfl, rfl, by decide, rfl⟩ h) Q
theorem pt_cut_49 {d L : Nat} {b : Bool} {I : Nat → Nat → Int32} {J : Nat → Nat → Int64} {r : Int32} {Q : Int32 → Int64 → pm_H → Prop} : pm_wc pm_code pm_meta d 87 [.ref 49, .int r] (pm_Gb L b, I, J) Q ↔ Q 0 0 (pm_Gb L b, (if 0 ≤ r ∧ r < I 49 3 then pm_u I 49 3 r else I), J) := by
  have e : (if decide (0 ≤ r) && decide (r < I 49 3) then (pm_Gb L b, pm_u I 49 3 r, J) else (pm_Gb L b, I, J)) = (pm_Gb L b, (if 0 ≤ r ∧ r < I 49 3 then pm_u I 49 3 r else I), J) := by
    by_cases h : 0 ≤ r ∧ r < I 49 3 <;> simp [h]
  rw [← e]
  exact pm_wc_iff (fun _ h => pm_ts_cut (c := 50) (n := 14) (w := I 49 1) ⟨rfl, by decide, rfl, rfl, by decide, rfl⟩ h) Q
theorem pt_cut_55 {d L : Nat} {b : Bool} {I : Nat → Nat → Int32} {J : Nat → Nat → Int64} {r : Int32} {Q : Int32 → Int64 → pm_H → Prop} : pm_wc pm_code pm_meta d 87 [.ref 55, .int r] (pm_Gb L b, I, J) Q ↔ Q 0 0 (pm_Gb L b, (if 0 ≤ r ∧ r < I 55 3 then pm_u I 55 3 r else I), J) := by
  have e : (if decide (0 ≤ r) && decide (r < I 55 3) then (pm_Gb L b, pm_u I 55 3 r, J) else (pm_Gb L b, I, J)) = (pm_Gb L b, (if 0 ≤ r ∧ r < I 55 3 then pm_u I 55 3 r else I), J) := by
    by_cases h : 0 ≤ r ∧ r < I 55 3 <;> simp [h]
  rw [← e]
  exact pm_wc_iff (fun _ h => pm_ts_cut (c := 56) (n := 7) (w := I 55 1) ⟨rfl, by decide, rfl, rfl, by decide, rfl⟩ h) Q
theorem pt_cut_65 {d L : Nat} {b : Bool} {I : Nat → Nat → Int32} {J : Nat → Nat → Int64} {r : Int32} {Q : Int32 → Int64 → pm_H → Prop} : pm_wc pm_code pm_meta d 87 [.ref 65, .int r] (pm_Gb L b, I, J) Q ↔ Q 0 0 (pm_Gb L b, (if 0 ≤ r ∧ r < I 65 3 then pm_u I 65 3 r else I), J) := by
  have e : (if decide (0 ≤ r) && decide (r < I 65 3) then (pm_Gb L b, pm_u I 65 3 r, J) else (pm_Gb L b, I, J)) = (pm_Gb L b, (if 0 ≤ r ∧ r < I 65 3 then pm_u I 65 3 r else I), J) := by
    by_cases h : 0 ≤ r ∧ r < I 65 3 <;> simp [h]
  rw [← e]
  exact pm_wc_iff (fun _ h => pm_ts_cut (c := 66) (n := 24) (w := I 65 1) ⟨rfl, by decide, rfl, rfl, by decide, rfl⟩ h) Q
theorem pt_cut_77 {d L : Nat} {b : Bool} {I : Nat → Nat → Int32} {J : Nat → Nat → Int64} {r : Int32} {Q : Int32 → Int64 → pm_H → Prop} : pm_wc pm_code pm_meta d 87 [.ref 77, .int r] (pm_Gb L b, I, J) Q ↔ Q 0 0 (pm_Gb L b, (if 0 ≤ r ∧ r < I 77 3 then pm_u I 77 3 r else I), J) := by
  have e : (if decide (0 ≤ r) && decide (r < I 77 3) then (pm_Gb L b, pm_u I 77 3 r, J) else (pm_Gb L b, I, J)) = (pm_Gb L b, (if 0 ≤ r ∧ r < I 77 3 then pm_u I 77 3 r else I), J) := by
    by_cases h : 0 ≤ r ∧ r < I 77 3 <;> simp [h]
  rw [← e]
  exact pm_wc_iff (fun _ h => pm_ts_cut (c := 78) (n := 30) (w := I 77 1) ⟨rfl, by decide, rfl, rfl, by decide, rfl⟩ h) Q
