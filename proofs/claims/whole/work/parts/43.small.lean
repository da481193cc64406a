/-! SMALL METHODS without a state, as iffs. -/
theorem pi_lt0 {x : Int32} : (x < 0) = (¬ 0 ≤ x) := by rw [Int32.not_le]
theorem px_isWithin {d L : Nat} {b : Bool} {I : Nat → Nat → Int32} {J : Nat → Nat → Int64} {x y z : Int32} {Q : Int32 → Int64 → pm_H → Prop} : pm_wc pm_code pm_meta d 112 [.int x, .int y, .int z] (pm_Gb L b, I, J) Q ↔ Q (pm_b (y ≤ x ∧ x ≤ z)) 0 (pm_Gb L b, I, J) := by
  simp only [pb_112_0, pb_112_14, pb_112_5, pb_112_15, pb_112_10, pm_k0, pm_k1, true_and]
  by_cases h1 : y ≤ x
  · rw [if_neg (Int32.not_lt.mpr h1)]
    by_cases h2 : x ≤ z
    · rw [if_neg (Int32.not_lt.mpr h2), pm_b_t ⟨h1, h2⟩]
    · rw [if_pos (Int32.not_le.mp h2), pm_b_f (fun h => h2 h.2)]
  · rw [if_pos (Int32.not_le.mp h1), pm_b_f (fun h => h1 h.1)]
theorem pr_in {d L : Nat} {b : Bool} {I : Nat → Nat → Int32} {J : Nat → Nat → Int64} {x y z : Int32} {Q : Int32 → Int64 → pm_H → Prop} : pm_wc pm_code pm_meta d 175 [.int x, .int y, .int z] (pm_Gb L b, I, J) Q ↔ Q (pm_b (y ≤ x ∧ x ≤ z)) 0 (pm_Gb L b, I, J) := by
  simp only [pb_175_0, pb_175_14, pb_175_5, pb_175_15, pb_175_10, pm_k0, pm_k1, true_and]
  by_cases h1 : y ≤ x
  · rw [if_neg (Int32.not_lt.mpr h1)]
    by_cases h2 : x ≤ z
    · rw [if_neg (Int32.not_lt.mpr h2), pm_b_t ⟨h1, h2⟩]
    · rw [if_pos (Int32.not_le.mp h2), pm_b_f (fun h => h2 h.2)]
  · rw [if_pos (Int32.not_le.mp h1), pm_b_f (fun h => h1 h.1)]
theorem px_isDay {d L : Nat} {b : Bool} {I : Nat → Nat → Int32} {J : Nat → Nat → Int64} {x : Int32} {Q : Int32 → Int64 → pm_H → Prop} : pm_wc pm_code pm_meta (d + 1) 113 [.int x] (pm_Gb L b, I, J) Q ↔ Q (pm_b (0 ≤ x ∧ x ≤ 3599)) 0 (pm_Gb L b, I, J) := by
  simp only [pb_113_0, pb_113_8, px_isWithin, pm_b_fit, true_and]
theorem px_isPlace {d L : Nat} {b : Bool} {I : Nat → Nat → Int32} {J : Nat → Nat → Int64} {x : Int32} {Q : Int32 → Int64 → pm_H → Prop} : pm_wc pm_code pm_meta (d + 1) 114 [.int x] (pm_Gb L b, I, J) Q ↔ Q (pm_b (0 ≤ x ∧ x ≤ 9)) 0 (pm_Gb L b, I, J) := by
  simp only [pb_114_0, pb_114_7, px_isWithin, pm_b_fit, true_and]
theorem pr_isDay {d L : Nat} {b : Bool} {I : Nat → Nat → Int32} {J : Nat → Nat → Int64} {x : Int32} {Q : Int32 → Int64 → pm_H → Prop} : pm_wc pm_code pm_meta (d + 1) 182 [.int x] (pm_Gb L b, I, J) Q ↔ Q (pm_b (0 ≤ x ∧ x ≤ 3599)) 0 (pm_Gb L b, I, J) := by
  simp only [pb_182_0, pb_182_8, pr_in, pm_b_fit, true_and]
theorem pr_isPlace {d L : Nat} {b : Bool} {I : Nat → Nat → Int32} {J : Nat → Nat → Int64} {x : Int32} {Q : Int32 → Int64 → pm_H → Prop} : pm_wc pm_code pm_meta (d + 1) 183 [.int x] (pm_Gb L b, I, J) Q ↔ Q (pm_b (0 ≤ x ∧ x ≤ 9)) 0 (pm_Gb L b, I, J) := by
  simp only [pb_183_0, pb_183_7, pr_in, pm_b_fit, true_and]

