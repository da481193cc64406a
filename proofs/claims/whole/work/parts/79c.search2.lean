/-! SEARCHES downwards: the last one that fits. -/
theorem fo_snoc {α : Type} (f : α → Int32 → α) : ∀ (m : Nat) (i : Int32) (s : α), pm_fo f (m + 1) i s = f (pm_fo f m i s) (i + Int32.ofNat m)
  | 0, i, s => by
    show f s i = f s (i + Int32.ofNat 0)
    rw [show Int32.ofNat 0 = (0 : Int32) from rfl, Int32.add_zero]
  | m + 1, i, s => by
    show pm_fo f (m + 1) (i + 1) (f s i) = f (pm_fo f m (i + 1) (f s i)) (i + Int32.ofNat (m + 1))
    rw [fo_snoc f m (i + 1) (f s i), Int32.ofNat_add, show Int32.ofNat 1 = (1 : Int32) from rfl]
    congr 1
    grind
def pf_last (c : Int32 → Prop) [DecidablePred c] (n : Nat) : Option Int32 := pm_fo (fun (o : Option Int32) k => if c k then some k else o) n 0 none
theorem last_succ (c : Int32 → Prop) [DecidablePred c] (m : Nat) : pf_last c (m + 1) = if c (Int32.ofNat m) then some (Int32.ofNat m) else pf_last c m := by
  unfold pf_last
  rw [fo_snoc, Int32.zero_add]
theorem pm_for_d {c : Int32 → Prop} [DecidablePred c] {A : Int32 → Prop} {E : Prop} {R : Int32 → Prop} {n : Nat} (hn : n < 100000)
    (hA : ∀ i, (i < 0 ∨ (0 ≤ i ∧ i.toNatClampNeg < n)) → (A i ↔ if i < 0 then E else if c i then R i else A (i + (-1)))) :
    ∀ m, m ≤ n → (A (Int32.ofNat m + (-1)) ↔ pm_oe E R (pf_last c m))
  | 0, hm => by
    rw [hA _ (Or.inl (by decide)), if_pos (by decide)]
    exact Iff.rfl
  | m + 1, hm => by
    have e : Int32.ofNat (m + 1) + (-1) = Int32.ofNat m := by
      rw [Int32.ofNat_add, show Int32.ofNat 1 = (1 : Int32) from rfl]; grind
    have t : (Int32.ofNat m).toInt = m := Int32.toInt_ofNat_of_lt (by omega)
    have h0 : 0 ≤ Int32.ofNat m := by rw [pi_le, pi_0, t]; omega
    rw [e, hA _ (Or.inr ⟨h0, by rw [pi_tn, t]; omega⟩), if_neg (Int32.not_lt.mpr h0), last_succ]
    by_cases hc : c (Int32.ofNat m)
    · rw [if_pos hc, if_pos hc]; exact Iff.rfl
    · rw [if_neg hc, if_neg hc]; exact pm_for_d hn hA m (by omega)
theorem last_some {c : Int32 → Prop} [DecidablePred c] : ∀ (m : Nat) (j : Int32), m < 100000 → pf_last c m = some j → c j ∧ 0 ≤ j ∧ j.toNatClampNeg < m
  | 0, j, hm, h => by cases h
  | m + 1, j, hm, h => by
    have t : (Int32.ofNat m).toInt = m := Int32.toInt_ofNat_of_lt (by omega)
    rw [last_succ] at h
    by_cases hc : c (Int32.ofNat m)
    · rw [if_pos hc] at h; cases h
      exact ⟨hc, by rw [pi_le, pi_0, t]; omega, by rw [pi_tn, t]; omega⟩
    · rw [if_neg hc] at h
      obtain ⟨a, b, d⟩ := last_some m j (by omega) h
      exact ⟨a, b, by omega⟩
/-- a fold that keeps a value of the last one that fits -/
theorem fo_last {α : Type} {c : Int32 → Prop} [DecidablePred c] (g : Int32 → α) : ∀ (m : Nat) (s : α), pm_fo (fun s k => if c k then g k else s) m 0 s = (match pf_last c m with | none => s | some k => g k)
  | 0, s => rfl
  | m + 1, s => by
    rw [fo_snoc, Int32.zero_add, last_succ]
    by_cases hc : c (Int32.ofNat m)
    · rw [if_pos hc, if_pos hc]
    · rw [if_neg hc, if_neg hc]; exact fo_last g m s

