/-! THE CALL sale: the search, pure. -/
/-- what each buyer is to pay, by the lots before l; p: who gets them, as digits -/
def ps_ld (K : Nat) (pr : Nat → Nat) : Nat → Nat → Nat → Nat
  | 0, _, _ => 0
  | l + 1, p, b => ps_ld K pr l (p / K) b + (if p % K = b then pr l else 0)
def ps_fl (co s : Nat → Nat) : Nat → Nat
  | 0 => 0
  | b + 1 => ps_fl co s b + (if s b ≤ co b then 0 else 1)
def ps_cm (co s : Nat → Nat) : Nat → Nat
  | 0 => 0
  | b + 1 => ps_cm co s b + min (s b) (co b)
def ps_rest (pr : Nat → Nat) : Nat → Nat → Nat
  | 0, _ => 0
  | m + 1, lot => pr lot + ps_rest pr m (lot + 1)
def ps_cb (goal : Nat) (st : Option (Nat × Nat × Nat)) (f c : Nat) : Bool := decide (goal ≤ c) && (match st with
  | none => true
  | some q => decide (f < q.1) || (decide (f = q.1) && decide (q.2.1 < c)))
def ps_up (goal : Nat) (st : Option (Nat × Nat × Nat)) (f c w : Nat) : Option (Nat × Nat × Nat) := bif ps_cb goal st f c then some (f, c, w) else st
def ps_fb {α : Type} (g : Nat → α → α) : Nat → Nat → α → α
  | 0, _, st => st
  | k + 1, b, st => ps_fb g k (b + 1) (g b st)
def ps_T (goal K B : Nat) (pr co : Nat → Nat) : Nat → Nat → Nat → Option (Nat × Nat × Nat) → Option (Nat × Nat × Nat)
  | 0, lot, p, st => ps_up goal st (ps_fl co (ps_ld K pr lot p) B) (ps_cm co (ps_ld K pr lot p) B) p
  | m + 1, lot, p, st => ps_fb (fun c st => ps_T goal K B pr co m (lot + 1) (p * K + c) st) K 0 st
theorem ps_ld_c {K : Nat} {pr : Nat → Nat} {lot p c b : Nat} (hc : c < K) : ps_ld K pr (lot + 1) (p * K + c) b = ps_ld K pr lot p b + (if c = b then pr lot else 0) := by
  have h1 : (p * K + c) / K = p := by rw [Nat.add_comm, Nat.add_mul_div_right _ _ (by omega), Nat.div_eq_of_lt hc, Nat.zero_add]
  have h2 : (p * K + c) % K = c := by rw [Nat.add_comm, Nat.add_mul_mod_self_right, Nat.mod_eq_of_lt hc]
  show ps_ld K pr lot ((p * K + c) / K) b + (if (p * K + c) % K = b then pr lot else 0) = _
  rw [h1, h2]
theorem ps_fl_le {co s s' : Nat → Nat} (h : ∀ b, s b ≤ s' b) : ∀ n, ps_fl co s n ≤ ps_fl co s' n
  | 0 => Nat.le_refl 0
  | n + 1 => by
    have ih := ps_fl_le (co := co) h n
    have := h n
    unfold ps_fl
    split <;> split <;> omega
theorem ps_fl_bd {co s : Nat → Nat} : ∀ n, ps_fl co s n ≤ n
  | 0 => Nat.le_refl 0
  | n + 1 => by
    have ih := ps_fl_bd (co := co) (s := s) n
    unfold ps_fl
    split <;> omega
theorem ps_cm_le {co s s' : Nat → Nat} {c x : Nat} (h : ∀ b, s' b = s b + (if c = b then x else 0)) : ∀ n, ps_cm co s' n ≤ ps_cm co s n + (if c < n then x else 0)
  | 0 => by unfold ps_cm; omega
  | n + 1 => by
    have ih := ps_cm_le (co := co) h n
    have e := h n
    unfold ps_cm
    rw [e]
    by_cases c1 : c = n
    · rw [if_pos c1, if_pos (by omega)]
      rw [if_neg (by omega)] at ih
      omega
    · rw [if_neg c1]
      by_cases c2 : c < n
      · rw [if_pos (by omega)]
        rw [if_pos c2] at ih
        omega
      · rw [if_neg (by omega)]
        rw [if_neg c2] at ih
        omega
theorem ps_fl_up {co s s' : Nat → Nat} {c : Nat} (h : ∀ b, ¬ b = c → s' b = s b) : ∀ n, c < n → ps_fl co s' n + (if s c ≤ co c then 0 else 1) = ps_fl co s n + (if s' c ≤ co c then 0 else 1)
  | 0, hc => absurd hc (Nat.not_lt_zero _)
  | n + 1, hc => by
    unfold ps_fl
    by_cases e : c = n
    · subst e
      have z : ∀ k, k ≤ c → ps_fl co s' k = ps_fl co s k := by
        intro k
        induction k with
        | zero => intro _; rfl
        | succ k ih => intro hk; unfold ps_fl; rw [ih (by omega), h k (by omega)]
      rw [z c (Nat.le_refl _)]
      omega
    · have ih := ps_fl_up (co := co) h n (by omega)
      rw [h n (by omega)]
      omega
theorem ps_cm_up {co s s' : Nat → Nat} {c : Nat} (h : ∀ b, ¬ b = c → s' b = s b) : ∀ n, c < n → ps_cm co s' n + min (s c) (co c) = ps_cm co s n + min (s' c) (co c)
  | 0, hc => absurd hc (Nat.not_lt_zero _)
  | n + 1, hc => by
    unfold ps_cm
    by_cases e : c = n
    · subst e
      have z : ∀ k, k ≤ c → ps_cm co s' k = ps_cm co s k := by
        intro k
        induction k with
        | zero => intro _; rfl
        | succ k ih => intro hk; unfold ps_cm; rw [ih (by omega), h k (by omega)]
      rw [z c (Nat.le_refl _)]
      omega
    · have ih := ps_cm_up (co := co) h n (by omega)
      rw [h n (by omega)]
      omega
theorem ps_fl_cg {co s s' : Nat → Nat} : ∀ n, (∀ b, b < n → s' b = s b) → ps_fl co s' n = ps_fl co s n
  | 0, _ => rfl
  | n + 1, h => by unfold ps_fl; rw [ps_fl_cg n (fun b hb => h b (by omega)), h n (by omega)]
theorem ps_cm_cg {co s s' : Nat → Nat} : ∀ n, (∀ b, b < n → s' b = s b) → ps_cm co s' n = ps_cm co s n
  | 0, _ => rfl
  | n + 1, h => by unfold ps_cm; rw [ps_cm_cg n (fun b hb => h b (by omega)), h n (by omega)]
theorem ps_cb_mono {goal f f' c c' : Nat} {st : Option (Nat × Nat × Nat)} (hf : f ≤ f') (hc : c' ≤ c) (h : ps_cb goal st f c = false) : ps_cb goal st f' c' = false := by
  unfold ps_cb at h ⊢
  rcases st with _ | ⟨f0, c0, w0⟩
  · simp at h ⊢; omega
  · simp at h ⊢; omega
theorem ps_fb_id {α : Type} {g : Nat → α → α} {st : α} : ∀ (k b : Nat), (∀ c, b ≤ c → c < b + k → g c st = st) → ps_fb g k b st = st
  | 0, _, _ => rfl
  | k + 1, b, h => by
    unfold ps_fb
    rw [h b (Nat.le_refl _) (by omega)]
    exact ps_fb_id k (b + 1) (fun c h1 h2 => h c (by omega) (by omega))
theorem ps_fb_s {α : Type} {g : Nat → α → α} {k b : Nat} {st : α} : ps_fb g (k + 1) b st = ps_fb g k (b + 1) (g b st) := rfl
/-- what can't be better changes nothing -/
theorem ps_prune {goal K B : Nat} {pr co : Nat → Nat} {st : Option (Nat × Nat × Nat)} : ∀ (m lot p : Nat), ps_cb goal st (ps_fl co (ps_ld K pr lot p) B) (ps_cm co (ps_ld K pr lot p) B + ps_rest pr m lot) = false → ps_T goal K B pr co m lot p st = st
  | 0, lot, p, h => by
    unfold ps_T ps_up
    have h' : ps_cb goal st (ps_fl co (ps_ld K pr lot p) B) (ps_cm co (ps_ld K pr lot p) B) = false := h
    rw [h']; rfl
  | m + 1, lot, p, h => by
    unfold ps_T
    refine ps_fb_id K 0 (fun c _ hc => ?_)
    have e := fun b => ps_ld_c (pr := pr) (lot := lot) (p := p) (b := b) (show c < K by omega)
    refine ps_prune m (lot + 1) (p * K + c) (ps_cb_mono (ps_fl_le (fun b => ?_) B) ?_ h)
    · rw [e b]; omega
    · have z := ps_cm_le (co := co) e B
      show _ ≤ _ + (pr lot + ps_rest pr m (lot + 1))
      split at z <;> omega
theorem ps_fb_add {α : Type} {g : Nat → α → α} : ∀ (a k b : Nat) (st : α), ps_fb g (a + k) b st = ps_fb g k (b + a) (ps_fb g a b st)
  | 0, k, b, st => by rw [Nat.zero_add, Nat.add_zero]; rfl
  | a + 1, k, b, st => by
    rw [show a + 1 + k = (a + k) + 1 by omega, ps_fb_s, ps_fb_s, ps_fb_add a k (b + 1), show b + 1 + a = b + (a + 1) by omega]
/-- the search goes through all ways in their order -/
theorem ps_all {goal K B : Nat} {pr co : Nat → Nat} : ∀ (m lot p : Nat) (st : Option (Nat × Nat × Nat)), ps_T goal K B pr co m lot p st = ps_fb (fun w st => ps_up goal st (ps_fl co (ps_ld K pr (lot + m) w) B) (ps_cm co (ps_ld K pr (lot + m) w) B) w) (K ^ m) (p * K ^ m) st
  | 0, lot, p, st => by
    rw [Nat.pow_zero, Nat.mul_one]; rfl
  | m + 1, lot, p, st => by
    have key : ∀ (k c : Nat) (st : Option (Nat × Nat × Nat)), ps_fb (fun c st => ps_T goal K B pr co m (lot + 1) (p * K + c) st) k c st = ps_fb (fun w st => ps_up goal st (ps_fl co (ps_ld K pr (lot + (m + 1)) w) B) (ps_cm co (ps_ld K pr (lot + (m + 1)) w) B) w) (k * K ^ m) ((p * K + c) * K ^ m) st := by
      intro k
      induction k with
      | zero => intro c st; rw [Nat.zero_mul]; rfl
      | succ k ih =>
        intro c st
        rw [ps_fb_s, ih (c + 1), show (k + 1) * K ^ m = K ^ m + k * K ^ m by rw [Nat.succ_mul, Nat.add_comm], ps_fb_add (K ^ m), ps_all m (lot + 1) (p * K + c) st, show lot + 1 + m = lot + (m + 1) by omega, show (p * K + (c + 1)) * K ^ m = (p * K + c) * K ^ m + K ^ m by rw [← Nat.add_assoc, Nat.succ_mul]]
    have e1 : K * K ^ m = K ^ (m + 1) := by rw [Nat.pow_succ, Nat.mul_comm]
    have e2 : (p * K + 0) * K ^ m = p * K ^ (m + 1) := by rw [Nat.add_zero, Nat.mul_assoc, e1]
    have z := key K 0 st
    rw [e1, e2] at z
    exact z
/-- digit j of the first lot digits -/
def ps_dg (K lot p j : Nat) : Nat := p / K ^ (lot - 1 - j) % K
theorem ps_dg_c {K lot p c j : Nat} (hc : c < K) (hj : j < lot) : ps_dg K (lot + 1) (p * K + c) j = ps_dg K lot p j := by
  have h1 : (p * K + c) / K = p := by rw [Nat.add_comm, Nat.add_mul_div_right _ _ (by omega), Nat.div_eq_of_lt hc, Nat.zero_add]
  unfold ps_dg
  rw [show lot + 1 - 1 - j = (lot - 1 - j) + 1 by omega, Nat.pow_succ, Nat.mul_comm (K ^ (lot - 1 - j)) K, ← Nat.div_div_eq_div_mul, h1]
theorem ps_dg_l {K lot p c : Nat} (hc : c < K) : ps_dg K (lot + 1) (p * K + c) lot = c := by
  unfold ps_dg
  rw [show lot + 1 - 1 - lot = 0 by omega, Nat.pow_zero, Nat.div_one, Nat.add_comm, Nat.add_mul_mod_self_right, Nat.mod_eq_of_lt hc]
theorem ps_ld_bd {K : Nat} {pr : Nat → Nat} (h : ∀ k, pr k ≤ 99) : ∀ (l p b : Nat), ps_ld K pr l p b ≤ 99 * l
  | 0, _, _ => Nat.le_refl 0
  | l + 1, p, b => by
    have ih := ps_ld_bd (K := K) h l (p / K) b
    have := h l
    unfold ps_ld
    split <;> omega
theorem ps_cm_bd {co s : Nat → Nat} (h : ∀ k, co k ≤ 300) : ∀ n, ps_cm co s n ≤ 300 * n
  | 0 => Nat.le_refl 0
  | n + 1 => by
    have ih := ps_cm_bd (s := s) h n
    have := h n
    unfold ps_cm
    omega
theorem ps_rest_bd {pr : Nat → Nat} (h : ∀ k, pr k ≤ 99) : ∀ (m lot : Nat), ps_rest pr m lot ≤ 99 * m
  | 0, _ => Nat.le_refl 0
  | m + 1, lot => by
    have ih := ps_rest_bd h m (lot + 1)
    have := h lot
    unfold ps_rest
    omega

