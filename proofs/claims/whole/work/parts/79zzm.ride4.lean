/-! THE CALL ride: lists and the next way. -/
theorem as_pcn {S n : Nat} (hn : n ≤ 24) (hS : S < 2 ^ n) : (pw_as (fun i => S.testBit i) 0 n).length = pf_pc 24 S := by
  have a := as_pc (S := S) 24 0
  rw [Nat.pow_zero, Nat.div_one] at a
  rw [← a]
  have z := as_add (P := fun i => S.testBit i) n 0 (24 - n)
  rw [show n + (24 - n) = 24 by omega] at z
  rw [z, as_nil (P := fun i => S.testBit i) (24 - n) (0 + n) (fun i h1 _ => Nat.testBit_lt_two_pow (Nat.lt_of_lt_of_le hS (Nat.pow_le_pow_right (show 0 < 2 by decide) (by omega)))), List.append_nil]
theorem ls_mid {A B : List Nat} {h j s : Nat} (e : ¬ s = A.length) : (A ++ h :: B)[s]? = (A ++ j :: B)[s]? := by
  by_cases c : s < A.length
  · rw [List.getElem?_append_left c, List.getElem?_append_left c]
  · rw [List.getElem?_append_right (by omega), List.getElem?_append_right (by omega)]
    obtain ⟨r, hr⟩ : ∃ r, s - A.length = r + 1 := ⟨s - A.length - 1, by omega⟩
    rw [hr, List.getElem?_cons_succ, List.getElem?_cons_succ]
theorem ls_at {A B : List Nat} {h : Nat} : (A ++ h :: B)[A.length]? = some h := by
  rw [List.getElem?_append_right (Nat.le_refl _), Nat.sub_self]; rfl
theorem up_ls {f : Nat → Int32} {w A B : List Nat} {h j p q M N : Nat} (hf : pw_h f (w ++ h :: (A ++ j :: B).reverse)) (hpw : (A ++ j :: B).Pairwise (· < ·)) (hA : ∀ x ∈ A, x < h) (hj : h < j) (hb : ∀ x ∈ A ++ j :: B, x < 1000) (hp : p = w.length) (hN : N = A.length + 1 + B.length) (hM : M = p + 1 + N) (hq : q = p + 1 + B.length) :
    (∀ k, p < k → k + 1 < M → ¬ f k ≤ f (k + 1)) ∧ f p ≤ f (p + 1) ∧ f p ≤ f q ∧ (∀ k, q < k → k < M → ¬ f p ≤ f k) ∧
    ∀ f' : Nat → Int32, (∀ k, k < p → f' k = f k) → f' p = f q → (∀ k, p < k → k < M → f' k = if M + p - k = q then f p else f (M + p - k)) → pw_h f' (w ++ j :: (A ++ h :: B)) := by
  have lN : (A ++ j :: B).length = N := by rw [List.length_append, List.length_cons]; omega
  -- the cells of the tail
  obtain ⟨D, hD⟩ : ∃ D : Nat → Nat, ∀ i, i < N → (A ++ j :: B)[i]? = some (D i) := ⟨fun i => (A ++ j :: B)[i]?.getD 0, fun i hi => by
    show (A ++ j :: B)[i]? = some ((A ++ j :: B)[i]?.getD 0)
    rw [List.getElem?_eq_getElem (by rw [lN]; exact hi)]; rfl⟩
  have Dlt : ∀ i, i < N → D i < 1000 := fun i hi => hb _ (List.mem_of_getElem? (hD i hi))
  have Dm : ∀ i k, i < k → k < N → D i < D k := fun i k h1 h2 => by
    have a := hD i (by omega)
    have c := hD k h2
    obtain ⟨a1, a2⟩ := List.getElem?_eq_some_iff.mp a
    obtain ⟨c1, c2⟩ := List.getElem?_eq_some_iff.mp c
    have z := List.pairwise_iff_getElem.mp hpw i k a1 c1 h1
    rw [a2, c2] at z
    exact z
  have Dj : D A.length = j := by
    have a := hD A.length (by omega)
    rw [ls_at] at a
    exact (Option.some.inj a).symm
  have DA : ∀ i, i < A.length → D i < h := fun i hi => by
    have a := hD i (by omega)
    rw [List.getElem?_append_left hi] at a
    exact hA _ (List.mem_of_getElem? a)
  have h1000 : h < 1000 := by have := Dlt A.length (by omega); omega
  have f0 : f p = Int32.ofNat h := hf p h (by rw [hp]; exact ls_at)
  have ft : ∀ t, t < N → f (p + 1 + t) = Int32.ofNat (D (N - 1 - t)) := fun t ht => by
    refine hf _ _ ?_
    rw [List.getElem?_append_right (by omega), show p + 1 + t - w.length = t + 1 by omega, List.getElem?_cons_succ, List.getElem?_reverse (by rw [lN]; exact ht), lN]
    exact hD _ (by omega)
  refine ⟨fun k h1 h2 => ?_, ?_, ?_, fun k h1 h2 => ?_, fun f' g1 g2 g3 => ?_⟩
  · have a := ft (k - p - 1) (by omega)
    have c := ft (k - p) (by omega)
    rw [show p + 1 + (k - p - 1) = k by omega] at a
    rw [show p + 1 + (k - p) = k + 1 by omega] at c
    have m := Dm (N - 1 - (k - p)) (N - 1 - (k - p - 1)) (by omega) (by omega)
    have l1 := Dlt (N - 1 - (k - p)) (by omega)
    have l2 := Dlt (N - 1 - (k - p - 1)) (by omega)
    rw [a, c, on_le (by omega) (by omega)]; omega
  · have a := ft 0 (by omega)
    have l1 := Dlt (N - 1 - 0) (by omega)
    have ge : j ≤ D (N - 1 - 0) := by
      by_cases e : N - 1 - 0 = A.length
      · rw [e, Dj]; exact Nat.le_refl _
      · have := Dm A.length (N - 1 - 0) (by omega) (by omega)
        omega
    rw [f0, show p + 1 = p + 1 + 0 by omega, a, on_le (by omega) (by omega)]; omega
  · have a := ft B.length (by omega)
    have l1 := Dlt A.length (by omega)
    rw [show N - 1 - B.length = A.length by omega, Dj] at a
    rw [f0, hq, a, on_le (by omega) (by omega)]; omega
  · have a := ft (k - p - 1) (by omega)
    rw [show p + 1 + (k - p - 1) = k by omega] at a
    have m := DA (N - 1 - (k - p - 1)) (by omega)
    rw [f0, a, on_le (by omega) (by omega)]; omega
  · intro k x hx
    have lk := (List.getElem?_eq_some_iff.mp hx).1
    rw [List.length_append, List.length_cons, List.length_append, List.length_cons] at lk
    by_cases c1 : k < p
    · rw [g1 k c1]
      refine hf k x ?_
      rw [List.getElem?_append_left (by omega)] at hx ⊢
      exact hx
    · by_cases c2 : k = p
      · have a := ft B.length (by omega)
        rw [show N - 1 - B.length = A.length by omega, Dj] at a
        subst c2
        rw [hp, ls_at] at hx
        rw [g2, hq, a, Option.some.inj hx]
      · rw [g3 k (by omega) (by omega)]
        rw [List.getElem?_append_right (by omega), show k - w.length = (k - w.length - 1) + 1 by omega, List.getElem?_cons_succ] at hx
        by_cases c3 : M + p - k = q
        · rw [if_pos c3, f0]
          rw [show k - w.length - 1 = A.length by omega, ls_at] at hx
          rw [Option.some.inj hx]
        · rw [if_neg c3]
          have a := ft (N - 1 - (k - p - 1)) (by omega)
          rw [show p + 1 + (N - 1 - (k - p - 1)) = M + p - k by omega, show N - 1 - (N - 1 - (k - p - 1)) = k - p - 1 by omega] at a
          rw [a]
          have c := hD (k - p - 1) (by omega)
          rw [ls_mid (j := j) (by omega), show k - w.length - 1 = k - p - 1 by omega, c] at hx
          rw [Option.some.inj hx]
theorem dn_ls {f : Nat → Int32} {D : List Nat} {M : Nat} (hf : pw_h f D.reverse) (hpw : D.Pairwise (· < ·)) (hb : ∀ x ∈ D, x < 1000) (hM : M = D.length) : ∀ k, k + 1 < M → ¬ f k ≤ f (k + 1) := fun k hk => by
  have l1 : M - 1 - k < D.length := by omega
  have l2 : M - 1 - (k + 1) < D.length := by omega
  have a := hf k _ (by rw [List.getElem?_reverse (by omega), ← hM]; exact List.getElem?_eq_getElem l1)
  have c := hf (k + 1) _ (by rw [List.getElem?_reverse (by omega), ← hM]; exact List.getElem?_eq_getElem l2)
  have m := List.pairwise_iff_getElem.mp hpw (M - 1 - (k + 1)) (M - 1 - k) l2 l1 (by omega)
  have b1 := hb _ (List.getElem_mem l1)
  have b2 := hb _ (List.getElem_mem l2)
  rw [a, c, on_le (by omega) (by omega)]; omega

