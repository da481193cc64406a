/-! What waits while a COND is answered: one step, as a number. -/
def pm_evs (o : Int32) (ans : Prop) [Decidable ans] (k : Nat) : Nat :=
  if o = 1 then (k / 2) ||| (k % 2) else if o = 2 then (if k % 2 = 1 then k / 2 else k / 4 * 2) else if o = 3 then k ^^^ 1 else (2 * k) ||| (if ans then 1 else 0)
def pm_dp1 (o : Int32) : Int := if o = 1 ∨ o = 2 then -1 else if o = 3 then 0 else 1
theorem evs_lt {o : Int32} {ans : Prop} [Decidable ans] {k : Nat} {D : Int} (h0 : 0 ≤ D) (h1 : 0 ≤ D + pm_dp1 o) (hk : k < 2 ^ (D.toNat + 1)) : pm_evs o ans k < 2 ^ ((D + pm_dp1 o).toNat + 1) := by
  unfold pm_evs pm_dp1 at *
  by_cases c1 : o = 1
  · simp only [c1, true_or, if_true] at h1 ⊢
    have e : (D + -1).toNat + 1 = D.toNat := by omega
    rw [e]
    have hp : 2 ^ (D.toNat + 1) = 2 * 2 ^ D.toNat := by rw [Nat.pow_succ]; omega
    have h2 : 2 ≤ 2 ^ D.toNat := by
      have : 2 ^ 1 ≤ 2 ^ D.toNat := Nat.pow_le_pow_right (by decide) (by omega)
      exact this
    exact Nat.or_lt_two_pow (by omega) (by omega)
  · by_cases c2 : o = 2
    · have e21 : ¬ (2 : Int32) = 1 := by decide
      simp only [c2, e21, or_true, if_true, if_false] at h1 ⊢
      have e : (D + -1).toNat + 1 = D.toNat := by omega
      rw [e]
      have hp : 2 ^ (D.toNat + 1) = 2 * 2 ^ D.toNat := by rw [Nat.pow_succ]; omega
      split <;> omega
    · by_cases c3 : o = 3
      · have e31 : ¬ (3 : Int32) = 1 := by decide
        have e32 : ¬ (3 : Int32) = 2 := by decide
        simp only [c3, e31, e32, or_self, if_true, if_false] at h1 ⊢
        rw [Int.add_zero]
        have h2 : 1 < 2 ^ (D.toNat + 1) := Nat.one_lt_two_pow (by omega)
        exact Nat.xor_lt_two_pow hk h2
      · simp only [c1, c2, c3, or_self, if_false] at h1 ⊢
        have e : (D + 1).toNat + 1 = D.toNat + 1 + 1 := by omega
        rw [e]
        have hp : 2 ^ (D.toNat + 1 + 1) = 2 * 2 ^ (D.toNat + 1) := by rw [Nat.pow_succ]; omega
        have h2 : 1 < 2 ^ (D.toNat + 1 + 1) := Nat.one_lt_two_pow (by omega)
        exact Nat.or_lt_two_pow (by omega) (by split <;> omega)
theorem evs_64 {D : Int} {k : Nat} (h : k < 2 ^ (D.toNat + 1)) (hD : D ≤ 24) : k < 67108864 := by
  have : 2 ^ (D.toNat + 1) ≤ 2 ^ 25 := Nat.pow_le_pow_right (by decide) (by omega)
  have e : 2 ^ 25 = 33554432 := by decide
  omega
/-- the class's steps -/
theorem ev_or (k : Nat) (h : k < 67108864) {ans : Prop} [Decidable ans] : (Int32.ofNat k >>> ((1 : Int32) &&& 31)) ||| (Int32.ofNat k &&& 1) = Int32.ofNat (pm_evs 1 ans k) := by
  rw [hb_shr k h, hb_and1 k h, hb_or32 _ _ (by omega) (by omega)]; rfl
theorem ev_and (k : Nat) (h : k < 67108864) {ans : Prop} [Decidable ans] : (Int32.ofNat k >>> ((1 : Int32) &&& 31)) &&& (Int32.ofNat k ||| (-2)) = Int32.ofNat (pm_evs 2 ans k) := by
  rw [hb_shr k h, hb_land k h]; rfl
theorem ev_not (k : Nat) (h : k < 67108864) {ans : Prop} [Decidable ans] : Int32.ofNat k ^^^ 1 = Int32.ofNat (pm_evs 3 ans k) := by
  rw [hb_xor32 k h]; rfl
theorem px_withAnswer {d L : Nat} {b : Bool} {I : Nat → Nat → Int32} {J : Nat → Nat → Int64} {k : Nat} {o : Int32} {ans : Prop} [Decidable ans] {Q : Int32 → Int64 → pm_H → Prop} (h : k < 33554432) (h1 : ¬ o = 1) (h2 : ¬ o = 2) (h3 : ¬ o = 3) : pm_wc pm_code pm_meta d 47 [.int (Int32.ofNat k), .int (pm_b ans)] (pm_Gb L b, I, J) Q ↔ Q (Int32.ofNat (pm_evs o ans k)) 0 (pm_Gb L b, I, J) := by
  unfold pm_evs pm_b
  rw [if_neg h1, if_neg h2, if_neg h3, pb_47_0, hb_shl k (by omega)]
  by_cases c : ans
  · simp only [c, if_true, pl_1_0, if_false, pb_47_7, pb_47_12]
    rw [show (1 : Int32) = Int32.ofNat 1 from rfl, hb_or32 _ _ (by omega) (by omega)]
  · simp only [c, if_true, if_false, pb_47_11, pb_47_12]
    rw [show (0 : Int32) = Int32.ofNat 0 from rfl, hb_or32 _ _ (by omega) (by omega)]
/-- the reference's steps -/
theorem er_or (k : Nat) (h : k < 67108864) {ans : Prop} [Decidable ans] : (Int64.ofNat k >>> (Int32.toInt64 1 &&& 63)) ||| (Int64.ofNat k &&& 1) = Int64.ofNat (pm_evs 1 ans k) := by
  have e := hb_shr64 k 1 (Or.inl rfl) h
  rw [show Int32.ofNat 1 = (1 : Int32) from rfl] at e
  rw [e, hb_and64 k h, hb_or64 _ _ (by omega) (by omega)]; rfl
theorem er_not (k : Nat) (h : k < 67108864) {ans : Prop} [Decidable ans] : Int64.ofNat k ^^^ 1 = Int64.ofNat (pm_evs 3 ans k) := by
  rw [hb_xor64 k h]; rfl
theorem er_and1 (k : Nat) (h : k < 67108864) (h1 : k % 2 = 1) {ans : Prop} [Decidable ans] : Int64.ofNat k >>> (Int32.toInt64 1 &&& 63) = Int64.ofNat (pm_evs 2 ans k) := by
  have e := hb_shr64 k 1 (Or.inl rfl) h
  rw [show Int32.ofNat 1 = (1 : Int32) from rfl] at e
  have e21 : ¬ (2 : Int32) = 1 := by decide
  unfold pm_evs
  rw [e, if_neg e21, if_pos rfl, if_pos h1, Nat.pow_one]
theorem er_and0 (k : Nat) (h : k < 67108864) (h1 : ¬ k % 2 = 1) {ans : Prop} [Decidable ans] : (Int64.ofNat k >>> (Int32.toInt64 2 &&& 63)) <<< (Int32.toInt64 1 &&& 63) = Int64.ofNat (pm_evs 2 ans k) := by
  have e := hb_shr64 k 2 (Or.inr rfl) h
  rw [show Int32.ofNat 2 = (2 : Int32) from rfl] at e
  have e21 : ¬ (2 : Int32) = 1 := by decide
  unfold pm_evs
  rw [e, hb_shl64 _ (by omega), if_neg e21, if_pos rfl, if_neg h1, show 2 * (k / 2 ^ 2) = k / 4 * 2 from by omega]
theorem er_psh (k : Nat) (h : k < 33554432) {o : Int32} {ans : Prop} [Decidable ans] (h1 : ¬ o = 1) (h2 : ¬ o = 2) (h3 : ¬ o = 3) : (Int64.ofNat k <<< (Int32.toInt64 1 &&& 63)) ||| (if ans then 1 else 0) = Int64.ofNat (pm_evs o ans k) := by
  unfold pm_evs
  rw [if_neg h1, if_neg h2, if_neg h3, hb_shl64 k (by omega)]
  by_cases c : ans
  · simp only [c, if_true]
    rw [show (1 : Int64) = Int64.ofNat 1 from rfl, hb_or64 _ _ (by omega) (by omega)]
  · simp only [c, if_false]
    rw [show (0 : Int64) = Int64.ofNat 0 from rfl, hb_or64 _ _ (by omega) (by omega)]
theorem ev_low (k : Nat) (h : k < 67108864) : (Int32.ofNat k &&& 1 = 1) = (k % 2 = 1) := by
  rw [hb_and1 k h]
  rcases (by omega : k % 2 = 0 ∨ k % 2 = 1) with e | e <;> rw [e] <;> exact propext (by decide)
theorem er_low (k : Nat) (h : k < 67108864) : (lg_cmp (Int64.ofNat k &&& 1) 1 = 0) = (k % 2 = 1) := by
  rw [hb_and64 k h]
  rcases (by omega : k % 2 = 0 ∨ k % 2 = 1) with e | e <;> rw [e] <;> exact propext (by decide)

