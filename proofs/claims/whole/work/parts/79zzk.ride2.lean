/-! THE CALL ride: the reference goes on to the next way. -/
theorem on_m2 {a : Nat} (h : a < 67108860) : Int32.ofNat (a + 2) - 2 = Int32.ofNat a := hb_sub (a + 2) 2 (by omega) (by omega)
theorem pr_goesUp1 {d L : Nat} {b : Bool} {I : Nat → Nat → Int32} {J : Nat → Nat → Int64} {p q M : Nat} {Q : Int32 → Int64 → pm_H → Prop} (hM : M ≤ 7) (e76 : I 79 76 = Int32.ofNat M) (hpq : p < q) (hq : q < M)
    (ha : ∀ k, p < k → k + 1 < M → ¬ I 142 k ≤ I 142 (k + 1)) (hb : I 142 p ≤ I 142 (p + 1)) (hc : I 142 p ≤ I 142 q) (he : ∀ k, q < k → k < M → ¬ I 142 p ≤ I 142 k)
    (hQ : ∀ I', (∀ r, ¬ r = 142 → I' r = I r) → (∀ k, k < p → I' 142 k = I 142 k) → I' 142 p = I 142 q → (∀ k, p < k → k < M → I' 142 k = if M + p - k = q then I 142 p else I 142 (M + p - k)) → Q 1 0 (pm_Gb L b, I', J)) :
    pm_wc pm_code pm_meta d 262 [.ref 79] (pm_Gb L b, I, J) Q := by
  have i8 : ∀ a, a < 8 → pm_in (Int32.ofNat a) 8 = true := fun a h => pi_in (on_n (by omega)).1 (by rw [(on_n (by omega)).2.2]; omega)
  have tn : ∀ a, a < 8 → (Int32.ofNat a).toNatClampNeg = a := fun a h => (on_n (by omega)).2.1
  obtain ⟨N, rfl⟩ : ∃ N, M = N + 2 := ⟨M - 2, by omega⟩
  -- the tail is turned round
  have turn : ∀ (k lo hi : Nat) (x3 : Int32) (I' : Nat → Nat → Int32), hi ≤ lo + k → lo + hi = N + 2 + p → p < lo → lo ≤ hi + 1 → (∀ r, ¬ r = 142 → I' r = I r) → (∀ j, j < p → I' 142 j = I 142 j) → I' 142 p = I 142 q →
      (∀ j, p < j → j < N + 2 → I' 142 j = if (lo ≤ j ∧ j ≤ hi) then (if j = q then I 142 p else I 142 j) else (if N + 2 + p - j = q then I 142 p else I 142 (N + 2 + p - j))) →
      pm_wp pm_code pm_meta d 262 107 ([.ref 79, .int (Int32.ofNat p), .int (Int32.ofNat q), .int x3, .int (Int32.ofNat lo), .int (Int32.ofNat hi)], [], (pm_Gb L b, I', J)) Q := by
    intro k
    induction k with
    | zero =>
      intro lo hi x3 I' hk hs hp hl fr f1 f2 f3
      rw [pb_262_107, if_pos (by rw [on_le (by omega) (by omega)]; omega), pb_262_153]
      refine hQ I' fr f1 f2 (fun j h1 h2 => ?_)
      rw [f3 j h1 h2]
      by_cases c : lo ≤ j ∧ j ≤ hi
      · rw [if_pos c, show N + 2 + p - j = j by omega]
      · rw [if_neg c]
    | succ k ih =>
      intro lo hi x3 I' hk hs hp hl fr f1 f2 f3
      by_cases c : hi ≤ lo
      · rw [pb_262_107, if_pos (by rw [on_le (by omega) (by omega)]; omega), pb_262_153]
        refine hQ I' fr f1 f2 (fun j h1 h2 => ?_)
        rw [f3 j h1 h2]
        by_cases c : lo ≤ j ∧ j ≤ hi
        · rw [if_pos c, show N + 2 + p - j = j by omega]
        · rw [if_neg c]
      · obtain ⟨H, rfl⟩ : ∃ H, hi = H + 1 := ⟨hi - 1, by omega⟩
        rw [pb_262_107, if_neg (by rw [on_le (by omega) (by omega)]; omega), pb_262_114, on_s, on_p (by omega), tn lo (by omega), tn (H + 1) (by omega)]
        refine ⟨i8 _ (by omega), i8 _ (by omega), i8 _ (by omega), i8 _ (by omega), ih (lo + 1) H _ _ (by omega) (by omega) (by omega) (by omega) (fun r h => ?_) (fun j h1 => ?_) ?_ (fun j h1 h2 => ?_)⟩
        · rw [pm_u_row, if_neg h, pm_u_row, if_neg h]; exact fr r h
        · rw [pm_u_row, if_pos rfl, pm_w_ne (by omega), pm_u_row, if_pos rfl, pm_w_ne (by omega)]; exact f1 j h1
        · rw [pm_u_row, if_pos rfl, pm_w_ne (by omega), pm_u_row, if_pos rfl, pm_w_ne (by omega)]; exact f2
        · rw [pm_u_row, if_pos rfl, pm_w_at, pm_u_row, if_pos rfl, pm_w_at]
          by_cases c1 : j = H + 1
          · rw [if_pos c1, f3 lo hp (by omega), if_pos ⟨Nat.le_refl _, by omega⟩, if_neg (show ¬ (lo + 1 ≤ j ∧ j ≤ H) by omega), show N + 2 + p - j = lo by omega]
          · rw [if_neg c1]
            by_cases c2 : j = lo
            · rw [if_pos c2, f3 (H + 1) (by omega) (by omega), if_pos ⟨by omega, Nat.le_refl _⟩, if_neg (show ¬ (lo + 1 ≤ j ∧ j ≤ H) by omega), show N + 2 + p - j = H + 1 by omega]
            · rw [if_neg c2, f3 j h1 h2]
              by_cases c3 : lo ≤ j ∧ j ≤ H + 1
              · rw [if_pos c3, if_pos (show lo + 1 ≤ j ∧ j ≤ H by omega)]
              · rw [if_neg c3, if_neg (show ¬ (lo + 1 ≤ j ∧ j ≤ H) by omega)]
  have find : ∀ (k : Nat), q + k < N + 2 → pm_wp pm_code pm_meta d 262 47 ([.ref 79, .int (Int32.ofNat p), .int (Int32.ofNat (q + k)), pm_unset, pm_unset, pm_unset], [], (pm_Gb L b, I, J)) Q := by
    intro k
    induction k with
    | zero =>
      intro hk
      have e79 : ∀ x y : Int32, pm_u (pm_u I 142 p x) 142 q y 79 76 = Int32.ofNat (N + 2) := fun x y => by rw [pm_u_row, if_neg (by decide), pm_u_row, if_neg (by decide)]; exact e76
      rw [pb_262_47, Nat.add_zero, tn q (by omega), tn p (by omega)]
      refine ⟨i8 _ (by omega), i8 _ (by omega), ?_⟩
      rw [if_pos hc, pb_262_68, tn q (by omega), tn p (by omega), e79, on_s, show N + 2 = (N + 1) + 1 by omega, on_p' (by omega)]
      refine ⟨i8 _ (by omega), i8 _ (by omega), i8 _ (by omega), i8 _ (by omega), turn (N + 2) (p + 1) (N + 1) _ _ (by omega) (by omega) (by omega) (by omega) (fun r h => ?_) (fun j h1 => ?_) ?_ (fun j h1 h2 => ?_)⟩
      · rw [pm_u_row, if_neg h, pm_u_row, if_neg h]
      · rw [pm_u_row, if_pos rfl, pm_w_ne (by omega), pm_u_row, if_pos rfl, pm_w_ne (by omega)]
      · rw [pm_u_row, if_pos rfl, pm_w_ne (by omega), pm_u_row, if_pos rfl, pm_w_at, if_pos rfl]
      · rw [if_pos (by omega), pm_u_row, if_pos rfl, pm_w_at]
        by_cases c : j = q
        · rw [if_pos c, if_pos c]
        · rw [if_neg c, if_neg c, pm_u_row, if_pos rfl, pm_w_ne (by omega)]
    | succ k ih =>
      intro hk
      rw [pb_262_47, tn (q + (k + 1)) (by omega), tn p (by omega)]
      refine ⟨i8 _ (by omega), i8 _ (by omega), ?_⟩
      rw [if_neg (he _ (by omega) (by omega)), pb_262_62, show q + (k + 1) = (q + k) + 1 by omega, on_p (by omega)]
      exact ih (by omega)
  have down : ∀ (k : Nat), p + k + 1 < N + 2 → pm_wp pm_code pm_meta d 262 7 ([.ref 79, .int (Int32.ofNat (p + k)), pm_unset, pm_unset, pm_unset, pm_unset], [], (pm_Gb L b, I, J)) Q := by
    intro k
    induction k with
    | zero =>
      intro hk
      have g := on_n (a := p) (by omega)
      rw [pb_262_7, Nat.add_zero, if_neg (Int32.not_lt.mpr g.1), pb_262_11, on_s, tn p (by omega), tn (p + 1) (by omega)]
      refine ⟨i8 _ (by omega), i8 _ (by omega), ?_⟩
      rw [if_pos hb, pb_262_34, if_pos g.1, pb_262_40, e76, show N + 2 = (N + 1) + 1 by omega, on_p' (by omega)]
      have z := find (N + 1 - q) (by omega)
      rw [show q + (N + 1 - q) = N + 1 by omega] at z
      exact z
    | succ k ih =>
      intro hk
      have g := on_n (a := p + (k + 1)) (by omega)
      rw [pb_262_7, if_neg (Int32.not_lt.mpr g.1), pb_262_11, on_s, tn (p + (k + 1)) (by omega), tn (p + (k + 1) + 1) (by omega)]
      refine ⟨i8 _ (by omega), i8 _ (by omega), ?_⟩
      rw [if_neg (ha _ (by omega) (by omega)), pb_262_28, show p + (k + 1) = (p + k) + 1 by omega, on_p (by omega)]
      exact ih (by omega)
  rw [pb_262_0, e76, on_m2 (by omega)]
  have z := down (N - p) (by omega)
  rw [show p + (N - p) = N by omega] at z
  exact z
theorem pr_goesUp0 {d L : Nat} {b : Bool} {I : Nat → Nat → Int32} {J : Nat → Nat → Int64} {M : Nat} {Q : Int32 → Int64 → pm_H → Prop} (h1 : 1 ≤ M) (hM : M ≤ 7) (e76 : I 79 76 = Int32.ofNat M) (ha : ∀ k, k + 1 < M → ¬ I 142 k ≤ I 142 (k + 1))
    (hQ : Q 0 0 (pm_Gb L b, I, J)) : pm_wc pm_code pm_meta d 262 [.ref 79] (pm_Gb L b, I, J) Q := by
  have i8 : ∀ a, a < 8 → pm_in (Int32.ofNat a) 8 = true := fun a h => pi_in (on_n (by omega)).1 (by rw [(on_n (by omega)).2.2]; omega)
  have tn : ∀ a, a < 8 → (Int32.ofNat a).toNatClampNeg = a := fun a h => (on_n (by omega)).2.1
  have down : ∀ (k : Nat), k + 1 ≤ M → pm_wp pm_code pm_meta d 262 7 ([.ref 79, .int (Int32.ofNat k + (-1)), pm_unset, pm_unset, pm_unset, pm_unset], [], (pm_Gb L b, I, J)) Q := by
    intro k
    induction k with
    | zero =>
      intro hk
      rw [pb_262_7, if_pos (by decide), pb_262_34, if_neg (by decide), pb_262_38]
      exact hQ
    | succ k ih =>
      intro hk
      have g := on_n (a := k) (by omega)
      rw [on_p (by omega), pb_262_7, if_neg (Int32.not_lt.mpr g.1), pb_262_11, on_s, tn k (by omega), tn (k + 1) (by omega)]
      refine ⟨i8 _ (by omega), i8 _ (by omega), ?_⟩
      rw [if_neg (ha _ (by omega)), pb_262_28]
      exact ih (by omega)
  obtain ⟨N, rfl⟩ : ∃ N, M = N + 1 := ⟨M - 1, by omega⟩
  rw [pb_262_0, e76, show Int32.ofNat (N + 1) - 2 = Int32.ofNat N + (-1) by rw [← on_s, Int32.sub_eq_add_neg, Int32.add_assoc]; rfl]
  exact down N (by omega)

