/-! LOOPS that count up, as folds. -/
def pm_fo {α : Type} (f : α → Int32 → α) : Nat → Int32 → α → α
  | 0, _, s => s
  | m + 1, i, s => pm_fo f m (i + 1) (f s i)
theorem pm_for_aux {α : Type} {A : α → Int32 → Prop} {E : α → Prop} {f : α → Int32 → α} {P : α → Int32 → Prop} {n : Int32} (hn0 : 0 ≤ n) (hn : n < 2147483647)
    (hA : ∀ s i, P s i → 0 ≤ i → i ≤ n → (A s i ↔ if n ≤ i then E s else A (f s i) (i + 1)))
    (hP : ∀ s i, P s i → 0 ≤ i → i < n → P (f s i) (i + 1)) :
    ∀ (m : Nat) (i : Int32) (s : α), P s i → 0 ≤ i → i.toNatClampNeg + m = n.toNatClampNeg → (A s i ↔ E (pm_fo f m i s))
  | 0, i, s, hs, h0, hm => by
    have h1 := pi_tni hn0
    have h2 := pi_tni h0
    rw [hA s i hs h0 (by rw [pi_le]; omega), if_pos (by rw [pi_le]; omega)]
    exact Iff.rfl
  | m + 1, i, s, hs, h0, hm => by
    have h1 := pi_tni hn0
    have h2 := pi_tni h0
    have e : i < n := by rw [pi_lt]; omega
    have e3 : (i + 1).toNatClampNeg = i.toNatClampNeg + 1 := pi_tn1 h0 (by grind)
    have e4 : 0 ≤ i + 1 := by grind
    rw [hA s i hs h0 (Int32.le_of_lt e), if_neg (Int32.not_le.mpr e)]
    exact pm_for_aux hn0 hn hA hP m (i + 1) (f s i) (hP s i hs h0 e) e4 (by omega)
/-- a loop from 0 to below n that reads alone -/
theorem pm_for {α : Type} {A : α → Int32 → Prop} {E : α → Prop} {f : α → Int32 → α} {n : Int32} (hn0 : 0 ≤ n) (hn : n < 2147483647)
    (hA : ∀ s i, 0 ≤ i → (A s i ↔ if n ≤ i then E s else A (f s i) (i + 1))) (s : α) : A s 0 ↔ E (pm_fo f n.toNatClampNeg 0 s) :=
  pm_for_aux (P := fun _ _ => True) hn0 hn (fun s i _ h0 _ => hA s i h0) (fun _ _ _ _ _ => trivial) n.toNatClampNeg 0 s trivial (Int32.le_refl 0) (by simp)
theorem pm_for_i {α : Type} {A : α → Int32 → Prop} {E : α → Int32 → Prop} {f : α → Int32 → α} {n : Int32} (hn0 : 0 ≤ n) (hn : n < 2147483647)
    (hA : ∀ s i, 0 ≤ i → (A s i ↔ if n ≤ i then E s i else A (f s i) (i + 1))) (s : α) : A s 0 ↔ E (pm_fo f n.toNatClampNeg 0 s) n := by
  refine pm_for_aux (P := fun _ i => i ≤ n) (E := fun s => E s n) hn0 hn (fun s i hi h0 _ => ?_) (fun s i hi h0 h1 => by grind) n.toNatClampNeg 0 s hn0 (Int32.le_refl 0) (by simp)
  rw [hA s i h0]
  by_cases e : n ≤ i
  · have : i = n := Int32.le_antisymm hi e
    subst this; exact Iff.rfl
  · rw [if_neg e, if_neg e]
theorem pm_fd_inv {α : Type} {f : α → Int32 → α} {P : α → Int32 → Prop} {n : Int32} (hn0 : 0 ≤ n) (hn : n < 2147483647)
    (hP : ∀ s i, P s i → 0 ≤ i → i < n → P (f s i) (i + 1)) : ∀ (m : Nat) (i : Int32) (s : α), P s i → 0 ≤ i → i.toNatClampNeg + m = n.toNatClampNeg → P (pm_fo f m i s) n
  | 0, i, s, hs, h0, hm => by
    have e : i = n := (pi_tneq h0 hn0).mp (by omega)
    rw [← e]; exact hs
  | m + 1, i, s, hs, h0, hm => by
    have h1 := pi_tni hn0
    have h2 := pi_tni h0
    have e : i < n := by rw [pi_lt]; omega
    have e3 : (i + 1).toNatClampNeg = i.toNatClampNeg + 1 := pi_tn1 h0 (by grind)
    have e4 : 0 ≤ i + 1 := by grind
    exact pm_fd_inv hn0 hn hP m (i + 1) (f s i) (hP s i hs h0 e) e4 (by omega)
theorem pm_fd_cg {α : Type} {f g : α → Int32 → α} {n : Int32} (hn0 : 0 ≤ n) (hn : n < 2147483647)
    (hf : ∀ s i, 0 ≤ i → i < n → f s i = g s i) : ∀ (m : Nat) (i : Int32) (s : α), 0 ≤ i → i.toNatClampNeg + m = n.toNatClampNeg → pm_fo f m i s = pm_fo g m i s
  | 0, i, s, h0, hm => rfl
  | m + 1, i, s, h0, hm => by
    have h1 := pi_tni hn0
    have h2 := pi_tni h0
    have e : i < n := by rw [pi_lt]; omega
    have e3 : (i + 1).toNatClampNeg = i.toNatClampNeg + 1 := pi_tn1 h0 (by grind)
    have e4 : 0 ≤ i + 1 := by grind
    unfold pm_fo
    rw [hf s i h0 e]
    exact pm_fd_cg hn0 hn hf m (i + 1) (g s i) e4 (by omega)
/-- a whole row is set -/
def pm_r {α : Type} (f : Nat → Nat → α) (a : Nat) (r : Nat → α) : Nat → Nat → α := fun b => if b = a then r else f b
theorem pm_r_row {α : Type} (f : Nat → Nat → α) (a : Nat) (r : Nat → α) (b : Nat) : pm_r f a r b = if b = a then r else f b := rfl
theorem pm_r_self {α : Type} (f : Nat → Nat → α) (a : Nat) : pm_r f a (f a) = f := by
  funext b; unfold pm_r; by_cases h : b = a <;> simp [h]
theorem pm_u_r {α : Type} (f : Nat → Nat → α) (a : Nat) (r : Nat → α) (k : Nat) (v : α) : pm_u (pm_r f a r) a k v = pm_r f a (pm_w r k v) := by
  funext b; rw [pm_u_row, pm_r_row, pm_r_row, pm_r_row]
  by_cases h : b = a <;> simp [h]
theorem pm_u_to_r {α : Type} (f : Nat → Nat → α) (a : Nat) (k : Nat) (v : α) : pm_u f a k v = pm_r f a (pm_w (f a) k v) := by
  funext b; rw [pm_u_row, pm_r_row]
theorem pm_kept_r {b : Bool} {I : Nat → Nat → Int32} {a : Nat} {r : Nat → Int32} (h : a < 158) (h2 : ¬ a = 136) : pm_kept b (pm_r I a r) = pm_kept b I := by
  have e : ∀ i, 158 ≤ i → pm_r I a r i = I i := fun i hi => by rw [pm_r_row, if_neg (by omega)]
  have e2 : pm_r I a r 136 = I 136 := by rw [pm_r_row, if_neg (by omega)]
  exact propext ⟨fun g => pm_kept_cg (fun i hi => (e i hi).symm) e2.symm g, fun g => pm_kept_cg e e2 g⟩

