/-! THE CALL order: the class's sets are the reference's. -/
theorem fu_bit {fell : Nat → Int32} {N t k : Nat} (hk : k < N) : ((pf_mk (fun k => 0 ≤ fell k) N) ||| t).testBit k = false ↔ (pf_mk (fun k => ¬ 0 ≤ fell k) N).testBit k = true ∧ t.testBit k = false := by
  rw [Nat.testBit_or, Bool.or_eq_false_iff, mk_bit]
  refine and_congr_left (fun _ => ?_)
  rw [Bool.eq_false_iff]
  exact ⟨fun h => ⟨hk, fun q => h (mk_bit N |>.mpr ⟨hk, q⟩)⟩, fun h q => h.2 (mk_bit N |>.mp q).2⟩
theorem fu_out {fell : Nat → Int32} {N k : Nat} (hk : N ≤ k) : (pf_mk (fun k => ¬ 0 ≤ fell k) N).testBit k = false := by
  rw [Bool.eq_false_iff]
  intro q
  have := (mk_bit N |>.mp q).1
  omega
theorem fu_lt {fell : Nat → Int32} {N t : Nat} (ht : pf_in t (pf_mk (fun k => ¬ 0 ≤ fell k) N)) (h0 : ¬ t = 0) : (pf_mk (fun k => 0 ≤ fell k) N) < (pf_mk (fun k => 0 ≤ fell k) N) ||| t := by
  have l : (pf_mk (fun k => 0 ≤ fell k) N) ≤ (pf_mk (fun k => 0 ≤ fell k) N) ||| t := Nat.left_le_or
  have ne : ¬ (pf_mk (fun k => 0 ≤ fell k) N) = (pf_mk (fun k => 0 ≤ fell k) N) ||| t := fun e => by
    apply h0
    apply Nat.eq_of_testBit_eq
    intro k
    rw [Nat.zero_testBit, Bool.eq_false_iff]
    intro q
    have z := mk_bit N |>.mp (ht k q)
    have w : ((pf_mk (fun k => 0 ≤ fell k) N) ||| t).testBit k = true := by rw [Nat.testBit_or, q, Bool.or_true]
    rw [← e] at w
    exact z.2 (mk_bit N |>.mp w).2
  omega
theorem fu_le {fell : Nat → Int32} {N t : Nat} (ht : pf_in t (pf_mk (fun k => ¬ 0 ≤ fell k) N)) : (pf_mk (fun k => 0 ≤ fell k) N) ||| t < 2 ^ N := by
  refine Nat.or_lt_two_pow (mk_lt N) ?_
  refine Nat.lt_of_not_le (fun q => ?_)
  obtain ⟨k, k1, k2⟩ := Nat.exists_ge_and_testBit_of_ge_two_pow q
  have := (mk_bit N |>.mp (ht k k2)).1
  omega
theorem fo_tail {f : Int32 → Int32 → Int32} : ∀ (m k : Nat) (b : Int32), k + m ≤ 8 → (∀ j s, k ≤ j → j < 8 → f s (Int32.ofNat j) = s) → pm_fo f m (Int32.ofNat k) b = b
  | 0, k, b, _, _ => rfl
  | m + 1, k, b, h, hf => by
    unfold pm_fo
    rw [hf k b (Nat.le_refl _) (by omega), pi_onadd (by omega)]
    exact fo_tail m (k + 1) b (by omega) (fun j s h1 h2 => hf j s (by omega) h2)
theorem m0_max {b v : Int32} (v0 : 0 ≤ v) : pf_m0 (if v ≤ b then b else v) = if pf_m0 b < v then v else pf_m0 b := by
  unfold pf_m0
  have e := pi_le.mp v0
  by_cases c1 : v ≤ b
  · have e1 := pi_le.mp c1
    have c2 : 0 ≤ b := by rw [pi_le]; omega
    rw [if_pos c1, if_pos c2, if_neg (Int32.not_lt.mpr c1)]
  · have c1' := Int32.not_le.mp c1
    rw [if_neg c1, if_pos v0]
    by_cases c2 : 0 ≤ b
    · rw [if_pos c2, if_pos c1']
    · rw [if_neg c2]
      by_cases c3 : 0 < v
      · rw [if_pos c3]
      · rw [if_neg c3]; exact (Int32.le_antisymm (Int32.not_lt.mp c3) v0)
theorem mb_rel {f br mo : Nat → Int32} {n : Int32} {S U t : Nat} {B : Int} (n0 : 0 ≤ n) (n8 : n ≤ 8) (hB : 0 ≤ B)
    (hb : ∀ k, k < n.toNatClampNeg → (S.testBit k = false ↔ U.testBit k = true ∧ t.testBit k = false)) (hu : ∀ k, n.toNatClampNeg ≤ k → U.testBit k = false)
    (hv : ∀ k, k < n.toNatClampNeg → S.testBit k = false → f (S ||| 2 ^ k) = br (t ||| 2 ^ k) + mo (t ||| 2 ^ k) ∧ 0 ≤ f (S ||| 2 ^ k) ∧ (f (S ||| 2 ^ k)).toInt ≤ B) :
    pf_mb f n S = pf_m0 (pf_mbr br mo U t) ∧ 0 ≤ pf_mb f n S ∧ (pf_mb f n S).toInt ≤ B := by
  have t1 := pi_tni n0
  have t2 := pi_le.mp n8
  have e8 : (8 : Int32).toInt = 8 := rfl
  unfold pf_mb pf_mbr
  have key : ∀ (m k : Nat) (a c : Int32), k + m = n.toNatClampNeg → a = pf_m0 c → 0 ≤ a → a.toInt ≤ B →
      pm_fo (fun (best h : Int32) => if S.testBit h.toNatClampNeg = false then (if best < f (S ||| 2 ^ h.toNatClampNeg) then f (S ||| 2 ^ h.toNatClampNeg) else best) else best) m (Int32.ofNat k) a = pf_m0 (pm_fo (pf_mbr1 br mo U t) (m + (8 - n.toNatClampNeg)) (Int32.ofNat k) c) ∧ 0 ≤ pm_fo (fun (best h : Int32) => if S.testBit h.toNatClampNeg = false then (if best < f (S ||| 2 ^ h.toNatClampNeg) then f (S ||| 2 ^ h.toNatClampNeg) else best) else best) m (Int32.ofNat k) a ∧ (pm_fo (fun (best h : Int32) => if S.testBit h.toNatClampNeg = false then (if best < f (S ||| 2 ^ h.toNatClampNeg) then f (S ||| 2 ^ h.toNatClampNeg) else best) else best) m (Int32.ofNat k) a).toInt ≤ B := by
    intro m
    induction m with
    | zero =>
      intro k a c hk ha a0 aB
      rw [Nat.zero_add, fo_tail (8 - n.toNatClampNeg) k c (by omega) (fun j s h1 h2 => by
        unfold pf_mbr1
        rw [(pi_on (j := j) (by omega)).2.1, if_neg (fun q => by rw [hu j (by omega)] at q; exact absurd q.1 (by decide))])]
      exact ⟨ha, a0, aB⟩
    | succ m ih =>
      intro k a c hk ha a0 aB
      have ek := pi_onadd (j := k) (by omega)
      have p := pi_on (j := k) (by omega)
      rw [show m + 1 + (8 - n.toNatClampNeg) = (m + (8 - n.toNatClampNeg)) + 1 by omega]
      unfold pm_fo
      rw [ek, p.2.1]
      by_cases c1 : S.testBit k = false
      · have z := hv k (by omega) c1
        have e2 : pf_mbr1 br mo U t c (Int32.ofNat k) = if f (S ||| 2 ^ k) ≤ c then c else f (S ||| 2 ^ k) := by
          unfold pf_mbr1
          rw [p.2.1, if_pos ((hb k (by omega)).mp c1), z.1]
        rw [if_pos c1, e2]
        refine ih (k + 1) _ _ (by omega) ?_ ?_ ?_
        · rw [m0_max z.2.1, ← ha]
        · split
          · exact z.2.1
          · exact a0
        · split
          · exact z.2.2
          · exact aB
      · have e2 : pf_mbr1 br mo U t c (Int32.ofNat k) = c := by
          unfold pf_mbr1
          rw [p.2.1, if_neg (fun q => c1 ((hb k (by omega)).mpr q))]
        rw [if_neg c1, e2]
        exact ih (k + 1) a c (by omega) ha a0 aB
  have z := key n.toNatClampNeg 0 0 (-1) (by omega) (by decide) (Int32.le_refl 0) (by rw [pi_0]; exact hB)
  rw [show n.toNatClampNeg + (8 - n.toNatClampNeg) = 8 by omega] at z
  exact z

