/-! THE CALL ride: sets as lists, the search, pure. -/
def pw_as (P : Nat → Bool) : Nat → Nat → List Nat
  | _, 0 => []
  | a, k + 1 => if P a = true then a :: pw_as P (a + 1) k else pw_as P (a + 1) k
def pw_cl (P : Nat → Bool) (h k : Nat) : Bool := P k && !(k == h)
theorem cl_ne {P : Nat → Bool} {h k : Nat} (e : ¬ k = h) : pw_cl P h k = P k := by
  unfold pw_cl; rw [show (k == h) = false from beq_false_of_ne e]; simp
theorem cl_at {P : Nat → Bool} {h : Nat} : pw_cl P h h = false := by
  unfold pw_cl; simp
theorem as_1 {P : Nat → Bool} {a k : Nat} (h : P a = true) : pw_as P a (k + 1) = a :: pw_as P (a + 1) k := by
  show (if P a = true then _ else _) = _
  rw [if_pos h]
theorem as_0 {P : Nat → Bool} {a k : Nat} (h : P a = false) : pw_as P a (k + 1) = pw_as P (a + 1) k := by
  show (if P a = true then _ else _) = _
  rw [h]; rfl
theorem as_add {P : Nat → Bool} : ∀ (j a k : Nat), pw_as P a (j + k) = pw_as P a j ++ pw_as P (a + j) k
  | 0, a, k => by rw [Nat.zero_add, Nat.add_zero]; rfl
  | j + 1, a, k => by
    rw [show j + 1 + k = (j + k) + 1 by omega]
    by_cases h : P a = true
    · rw [as_1 h, as_1 h, as_add j (a + 1) k, show a + 1 + j = a + (j + 1) by omega]; rfl
    · have h' := Bool.eq_false_iff.mpr h
      rw [as_0 h', as_0 h', as_add j (a + 1) k, show a + 1 + j = a + (j + 1) by omega]
theorem as_cg {P P' : Nat → Bool} : ∀ (k a : Nat), (∀ i, a ≤ i → i < a + k → P i = P' i) → pw_as P a k = pw_as P' a k
  | 0, _, _ => rfl
  | k + 1, a, h => by
    unfold pw_as
    rw [h a (Nat.le_refl _) (by omega), as_cg k (a + 1) (fun i h1 h2 => h i (by omega) (by omega))]
theorem as_nil {P : Nat → Bool} : ∀ (k a : Nat), (∀ i, a ≤ i → i < a + k → P i = false) → pw_as P a k = []
  | 0, _, _ => rfl
  | k + 1, a, h => by
    unfold pw_as
    rw [h a (Nat.le_refl _) (by omega), as_nil k (a + 1) (fun i h1 h2 => h i (by omega) (by omega))]
    rfl
theorem as_mem {P : Nat → Bool} {x : Nat} : ∀ (k a : Nat), x ∈ pw_as P a k → a ≤ x ∧ x < a + k ∧ P x = true
  | 0, _, h => absurd h (by unfold pw_as; simp)
  | k + 1, a, h => by
    unfold pw_as at h
    split at h
    · rename_i hp
      rcases List.mem_cons.mp h with e | e
      · subst e; exact ⟨Nat.le_refl _, by omega, hp⟩
      · have := as_mem k (a + 1) e
        exact ⟨by omega, by omega, this.2.2⟩
    · have := as_mem k (a + 1) h
      exact ⟨by omega, by omega, this.2.2⟩
theorem as_pw {P : Nat → Bool} : ∀ (k a : Nat), (pw_as P a k).Pairwise (· < ·)
  | 0, _ => List.Pairwise.nil
  | k + 1, a => by
    unfold pw_as
    split
    · refine List.Pairwise.cons (fun x hx => ?_) (as_pw k (a + 1))
      have := as_mem k (a + 1) hx
      omega
    · exact as_pw k (a + 1)
theorem as_split {P : Nat → Bool} {h n : Nat} (hn : h < n) (hp : P h = true) : pw_as P 0 n = pw_as P 0 h ++ h :: pw_as P (h + 1) (n - h - 1) := by
  have e : n = h + ((n - h - 1) + 1) := by omega
  have z := as_add (P := P) h 0 ((n - h - 1) + 1)
  rw [← e, Nat.zero_add, as_1 hp] at z
  exact z
theorem as_cl {P : Nat → Bool} {h n : Nat} (hn : h < n) : pw_as (pw_cl P h) 0 n = pw_as P 0 h ++ pw_as P (h + 1) (n - h - 1) := by
  have e : n = h + ((n - h - 1) + 1) := by omega
  have z := as_add (P := pw_cl P h) h 0 ((n - h - 1) + 1)
  rw [← e, Nat.zero_add, as_0 cl_at, as_cg (P' := P) h 0 (fun i _ h2 => cl_ne (by omega)), as_cg (P' := P) (n - h - 1) (h + 1) (fun i h1 _ => cl_ne (by omega))] at z
  exact z
/-- between two members that follow on one another -/
theorem as_gap {P : Nat → Bool} {h j n : Nat} (hj : h < j) (hn : j < n) (hp : P j = true) (g : ∀ i, h < i → i < j → P i = false) : pw_as P (h + 1) (n - h - 1) = j :: pw_as P (j + 1) (n - j - 1) := by
  have z := as_add (P := P) (j - h - 1) (h + 1) ((n - j - 1) + 1)
  rw [show j - h - 1 + (n - j - 1 + 1) = n - h - 1 by omega, show h + 1 + (j - h - 1) = j by omega, as_1 hp, as_nil (j - h - 1) (h + 1) (fun i h1 h2 => g i (by omega) (by omega))] at z
  exact z
theorem as_low {P : Nat → Bool} {h j : Nat} (hj : h < j) (hp : P h = true) (g : ∀ i, h < i → i < j → P i = false) : pw_as P 0 j = pw_as P 0 h ++ [h] := by
  rw [as_split hj hp, as_nil (j - h - 1) (h + 1) (fun i h1 h2 => g i (by omega) (by omega))]
theorem as_len {P : Nat → Bool} {h n : Nat} (hn : h < n) (hp : P h = true) : (pw_as P 0 n).length = (pw_as (pw_cl P h) 0 n).length + 1 := by
  rw [as_split hn hp, as_cl hn]
  simp only [List.length_append, List.length_cons]; omega
/-- the numbers of a set -/
theorem as_pc {S : Nat} : ∀ (k a : Nat), (pw_as (fun i => S.testBit i) a k).length = pf_pc k (S / 2 ^ a)
  | 0, _ => rfl
  | k + 1, a => by
    have ih := as_pc (S := S) k (a + 1)
    have e : S / 2 ^ (a + 1) = S / 2 ^ a / 2 := by rw [Nat.pow_succ, Nat.div_div_eq_div_mul]
    have hb : S.testBit a = decide (S / 2 ^ a % 2 = 1) := Nat.testBit_eq_decide_div_mod_eq
    show _ = S / 2 ^ a % 2 + pf_pc k (S / 2 ^ a / 2)
    rw [← e, ← ih]
    by_cases c : S / 2 ^ a % 2 = 1
    · rw [as_1 (by rw [hb, decide_eq_true c]), c, List.length_cons]; omega
    · rw [as_0 (by rw [hb, decide_eq_false c])]; omega
def pw_ev (pl rd : Nat → Nat) (tm : Nat → Nat → Bool) : Nat → Nat → Nat → List Nat → Nat × Nat × Nat
  | p, dy, n, [] => (p, dy, n)
  | p, dy, n, h :: t => pw_ev pl rd tm (pl h) (dy + rd (10 * p + pl h) + 1) (n + (bif tm h (dy + rd (10 * p + pl h)) then 1 else 0)) t
theorem ev_app {pl rd : Nat → Nat} {tm : Nat → Nat → Bool} {t : List Nat} : ∀ (w : List Nat) (p dy n : Nat), pw_ev pl rd tm p dy n (w ++ t) = pw_ev pl rd tm (pw_ev pl rd tm p dy n w).1 (pw_ev pl rd tm p dy n w).2.1 (pw_ev pl rd tm p dy n w).2.2 t
  | [], _, _, _ => rfl
  | _ :: w, _, _, _ => ev_app w _ _ _
theorem ev_bd {pl rd : Nat → Nat} {tm : Nat → Nat → Bool} (h9 : ∀ h, pl h ≤ 9) (hr : ∀ k, rd k ≤ 20) : ∀ (w : List Nat) (p dy n : Nat), p ≤ 9 → (pw_ev pl rd tm p dy n w).1 ≤ 9 ∧ (pw_ev pl rd tm p dy n w).2.1 ≤ dy + 21 * w.length ∧ (pw_ev pl rd tm p dy n w).2.2 ≤ n + w.length
  | [], p, dy, n, hp => ⟨hp, Nat.le_add_right _ _, Nat.le_add_right _ _⟩
  | h :: t, p, dy, n, _ => by
    have z := ev_bd (tm := tm) h9 hr t (pl h) (dy + rd (10 * p + pl h) + 1) (n + (bif tm h (dy + rd (10 * p + pl h)) then 1 else 0)) (h9 h)
    have r := hr (10 * p + pl h)
    have b : (bif tm h (dy + rd (10 * p + pl h)) then 1 else 0) ≤ 1 := by cases tm h (dy + rd (10 * p + pl h)) <;> decide
    unfold pw_ev
    rw [List.length_cons]
    exact ⟨z.1, by omega, by omega⟩
/-- days and how many in time -/
def pw_up (E : List Nat → Nat × Nat) (st : Option (List Nat)) (w : List Nat) : Option (List Nat) := match st with
  | none => some w
  | some v => if (E v).2 < (E w).2 ∨ ((E v).2 = (E w).2 ∧ (E w).1 < (E v).1) then some w else some v
def pw_T (E : List Nat → Nat × Nat) (n : Nat) : Nat → (Nat → Bool) → List Nat → Option (List Nat) → Option (List Nat)
  | 0, _, w, st => pw_up E st w
  | m + 1, P, w, st => ps_fb (fun h st => bif P h then pw_T E n m (pw_cl P h) (w ++ [h]) st else st) n 0 st
theorem pw_prune {E : List Nat → Nat × Nat} {n : Nat} (hE : ∀ w h, (E (w ++ [h])).2 ≤ (E w).2 + 1) : ∀ (m : Nat) (P : Nat → Bool) (w v : List Nat), (E w).2 + m < (E v).2 → pw_T E n m P w (some v) = some v
  | 0, P, w, v, h => by
    unfold pw_T pw_up
    show (if _ then _ else _) = _
    rw [if_neg (by omega)]
  | m + 1, P, w, v, h => by
    unfold pw_T
    refine ps_fb_id n 0 (fun c _ _ => ?_)
    have := hE w c
    cases P c
    · rfl
    · exact pw_prune hE m _ _ v (by omega)
/-- the row holds the list -/
def pw_h (f : Nat → Int32) (w : List Nat) : Prop := ∀ j x, w[j]? = some x → f j = Int32.ofNat x

