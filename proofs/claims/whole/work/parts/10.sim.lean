/-! THE SMALL MACHINE'S CELLS IN THE CLAIM'S HEAP. Numbers 1 to 7 are cells that were there at the start (1 the script, 2 to 4 static rows, 5 and 6 a text and its bytes, 7 a static that is only carried); from 8 on they lie from 'base' on, in their order. -/
def pm_TS (L : Nat) (i : Nat) : Nat × Nat :=
  match i with
  | 1 => (1, L)
  | 2 => (1, 8)
  | 3 => (1, 4)
  | 4 => (1, 32)
  | 5 => (0, 12)
  | 6 => (2, 115)
  | _ => (9, 0)
def pm_IS (xs : Nat → Int32) (i j : Nat) : Int32 :=
  match i with
  | 1 => xs j
  | 2 => pm_a2.getD j 0
  | 3 => pm_a3.getD j 0
  | 4 => pm_a4.getD j 0
  | 6 => pm_a6.getD j 0
  | _ => 0
def pm_OS (i k : Nat) : Nat :=
  match i, k with
  | 5, 0 => 6
  | _, _ => 0
def pm_fix (L : Nat) (xs : Nat → Int32) (H : pm_H) : Prop :=
  (∀ i, i < 8 → H.1.1 i = pm_TS L i) ∧ (∀ i, i < 8 → ∀ j, H.2.1 i j = pm_IS xs i j) ∧ (∀ i, i < 8 → ∀ k, H.1.2.1 i k = pm_OS i k) ∧ 8 ≤ H.1.2.2.1 ∧ (∀ i, H.1.2.2.1 ≤ i → (H.1.1 i).1 = 9) ∧ (∀ i, 8 ≤ i → (H.1.1 i).1 = 0 → (H.1.1 i).2 < 12)
def pm_rv (sa : Nat → Value) (base i : Nat) : Value := if i < 8 then sa i else .ref (base + (i - 8))
def pm_cv (rv : Nat → Value) (v : Value) : Value :=
  match v with
  | .ref r => rv r
  | v => v
def pm_fs (rv : Nat → Value) (H : pm_H) (i ci : Nat) : List Value := (List.range (pm_nf ci)).map (fun k => pm_cv rv (pm_fv H (pm_ft ci k) i k))
abbrev pm_cs3 : Type := ClassId × ClassId × ClassId
def pm_cell (rv : Nat → Value) (cs : pm_cs3) (H : pm_H) (i : Nat) : va_E :=
  match (H.1.1 i).1 with
  | 0 => .inr ((H.1.1 i).2, pm_fs rv H i (H.1.1 i).2)
  | 1 => .inl (cs.1, (H.1.1 i).2, .inl (H.2.1 i))
  | 2 => .inl (cs.2.1, (H.1.1 i).2, .inl (H.2.1 i))
  | _ => .inl (cs.2.2, (H.1.1 i).2, .inr (.inl (H.2.2 i)))
def pm_ws (rv : Nat → Value) (cs : pm_cs3) (base : Nat) (H : pm_H) : va_W := (List.range (H.1.2.2.1 - 8)).map (fun j => (base + j, pm_cell rv cs H (8 + j)))
def pm_tys (cs : pm_cs3) : List (ClassId × FieldType) := [(cs.1, .int), (cs.2.1, .byte), (cs.2.2, .long)]
theorem pm_ws_get (rv : Nat → Value) (cs : pm_cs3) (base : Nat) (H : pm_H) {i : Nat} (h1 : 8 ≤ i) (h2 : i < H.1.2.2.1) : (pm_ws rv cs base H)[i - 8]? = some (base + (i - 8), pm_cell rv cs H i) := by
  unfold pm_ws
  rw [List.getElem?_map, List.getElem?_range (by omega)]
  simp only [Option.map_some]
  rw [show 8 + (i - 8) = i by omega]
theorem pm_ws_len (rv : Nat → Value) (cs : pm_cs3) (base : Nat) (H : pm_H) : (pm_ws rv cs base H).length = H.1.2.2.1 - 8 := by
  unfold pm_ws; simp
theorem pm_ws_set {rv : Nat → Value} {cs : pm_cs3} {base : Nat} {H H' : pm_H} {i : Nat} {e : va_E} (h1 : 8 ≤ i) (hn : H'.1.2.2.1 = H.1.2.2.1) (he : pm_cell rv cs H' i = e) (ho : ∀ j, j ≠ i → pm_cell rv cs H' j = pm_cell rv cs H j) : (pm_ws rv cs base H).set (i - 8) (base + (i - 8), e) = pm_ws rv cs base H' := by
  apply List.ext_getElem?
  intro k
  by_cases hk : k < H.1.2.2.1 - 8
  · have h' := pm_ws_get rv cs base H' (i := 8 + k) (by omega) (by omega)
    have h := pm_ws_get rv cs base H (i := 8 + k) (by omega) (by omega)
    rw [show 8 + k - 8 = k by omega] at h h'
    rw [h', List.getElem?_set, pm_ws_len]
    by_cases hki : i - 8 = k
    · have : 8 + k = i := by omega
      rw [if_pos hki, if_pos (by omega), this, ← he, ← hki]
    · rw [if_neg hki, h, ho (8 + k) (by omega)]
  · rw [List.getElem?_eq_none (by rw [List.length_set, pm_ws_len]; omega), List.getElem?_eq_none (by rw [pm_ws_len]; omega)]
theorem pm_ws_push {rv : Nat → Value} {cs : pm_cs3} {base : Nat} {H H' : pm_H} {e : va_E} (h8 : 8 ≤ H.1.2.2.1) (hn : H'.1.2.2.1 = H.1.2.2.1 + 1) (he : pm_cell rv cs H' H.1.2.2.1 = e) (ho : ∀ j, j < H.1.2.2.1 → pm_cell rv cs H' j = pm_cell rv cs H j) : pm_ws rv cs base H ++ [(base + (H.1.2.2.1 - 8), e)] = pm_ws rv cs base H' := by
  unfold pm_ws
  rw [hn, show H.1.2.2.1 + 1 - 8 = H.1.2.2.1 - 8 + 1 by omega, List.range_succ, List.map_append]
  congr 1
  · apply List.map_congr_left
    intro j hj
    rw [ho (8 + j) (by have := List.mem_range.mp hj; omega)]
  · simp only [List.map_cons, List.map_nil]
    rw [show 8 + (H.1.2.2.1 - 8) = H.1.2.2.1 by omega, he]
theorem pm_ws_D (rv : Nat → Value) (cs : pm_cs3) (base : Nat) (H : pm_H) : va_D (fun q => base ≤ q) (pm_ws rv cs base H) := by
  have key : ∀ (k : Nat) (q : Nat × va_E), (pm_ws rv cs base H)[k]? = some q → q.1 = base + k := by
    intro k q hk
    unfold pm_ws at hk
    rw [List.getElem?_map] at hk
    by_cases h : k < H.1.2.2.1 - 8
    · rw [List.getElem?_range h] at hk
      cases hk
      rfl
    · rw [List.getElem?_eq_none (by rw [List.length_range]; omega)] at hk
      cases hk
  refine ⟨fun i j p q hi hj hpq => ?_, fun k q hk => ?_⟩
  · have h1 := key i p hi
    have h2 := key j q hj
    omega
  · have := key k q hk
    show base ≤ q.1
    omega
theorem pm_rv_hi {sa : Nat → Value} {base i : Nat} (h : 8 ≤ i) : pm_rv sa base i = .ref (base + (i - 8)) := by
  unfold pm_rv
  rw [if_neg (by omega)]
theorem pm_rv_lo {sa : Nat → Value} {base i : Nat} (h : i < 8) : pm_rv sa base i = sa i := by
  unfold pm_rv
  rw [if_pos h]
/-! ### the locals -/
def pm_ll (rv : Nat → Value) : Nat → List Value → List (Nat × Value)
  | _, [] => []
  | i, v :: r => match v with
    | .retAddr _ => pm_ll rv (i + 1) r
    | w => (i, pm_cv rv w) :: pm_ll rv (i + 1) r
def pm_isra : Value → Bool
  | .retAddr _ => true
  | _ => false
theorem pm_ll_cons (rv : Nat → Value) (i : Nat) (v : Value) (r : List Value) : pm_ll rv i (v :: r) = if pm_isra v then pm_ll rv (i + 1) r else (i, pm_cv rv v) :: pm_ll rv (i + 1) r := by
  cases v <;> rfl
theorem pm_ll_mem {rv : Nat → Value} {q : Nat × Value} : ∀ {j : Nat} {ls : List Value}, q ∈ pm_ll rv j ls ↔ ∃ k v, ls[k]? = some v ∧ pm_isra v = false ∧ q = (j + k, pm_cv rv v) := by
  intro j ls
  induction ls generalizing j with
  | nil => simp [pm_ll]
  | cons v r ih =>
    rw [pm_ll_cons]
    constructor
    · intro h
      split at h
      next hv =>
        obtain ⟨k, w, h1, h2, h3⟩ := ih.mp h
        exact ⟨k + 1, w, by simpa using h1, h2, by rw [h3]; congr 1; omega⟩
      next hv =>
        rcases List.mem_cons.mp h with rfl | h
        · exact ⟨0, v, rfl, by simpa using hv, rfl⟩
        · obtain ⟨k, w, h1, h2, h3⟩ := ih.mp h
          exact ⟨k + 1, w, by simpa using h1, h2, by rw [h3]; congr 1; omega⟩
    · rintro ⟨k, w, h1, h2, h3⟩
      cases k with
      | zero =>
        simp at h1
        subst h1
        rw [if_neg (by simp [h2])]
        exact List.mem_cons.mpr (Or.inl h3)
      | succ k =>
        have hm : q ∈ pm_ll rv (j + 1) r := ih.mpr ⟨k, w, by simpa using h1, h2, by rw [h3]; congr 1; omega⟩
        split
        · exact hm
        · exact List.mem_cons_of_mem _ hm
theorem pm_lget {rv : Nat → Value} {lsA : Array Slot} {nL i : Nat} {ls : List Value} {v : Value} (h : lv_has lsA nL (pm_ll rv 0 ls)) (hi : ls[i]? = some v) (hv : pm_isra v = false) : lsA[i]? = some (.val (pm_cv rv v)) :=
  h.2.2 (i, pm_cv rv v) (pm_ll_mem.mpr ⟨i, v, hi, hv, by simp⟩)
theorem pm_lsub {lsA : Array Slot} {nL : Nat} {l l' : List (Nat × Value)} (h : lv_has lsA nL l) (hs : ∀ q ∈ l', q ∈ l) : lv_has lsA nL l' := ⟨h.1, h.2.1, fun q hq => h.2.2 q (hs q hq)⟩
theorem pm_set1_get {ls : List Value} {i k : Nat} {v w : Value} (h : (pm_set1 ls i v)[k]? = some w) (hw : pm_isra w = false) : (k = i ∧ w = v) ∨ (k ≠ i ∧ ls[k]? = some w ∧ ¬ (k + 1 = i ∧ w.category = 2)) := by
  unfold pm_set1 at h
  cases i with
  | zero =>
    simp only at h
    rw [List.getElem?_set] at h
    by_cases hk : 0 = k
    · rw [if_pos hk] at h
      split at h
      · exact Or.inl ⟨hk.symm, (Option.some.inj h).symm⟩
      · cases h
    · rw [if_neg hk] at h
      exact Or.inr ⟨fun q => hk q.symm, h, fun q => by omega⟩
  | succ i =>
    simp only at h
    by_cases hl : pm_islong ls[i]? = true
    · rw [if_pos hl, List.getElem?_set] at h
      by_cases hk : i + 1 = k
      · rw [if_pos hk] at h
        split at h
        · exact Or.inl ⟨hk.symm, (Option.some.inj h).symm⟩
        · cases h
      · rw [if_neg hk, List.getElem?_set] at h
        by_cases hk2 : i = k
        · rw [if_pos hk2] at h
          split at h
          · have := Option.some.inj h
            subst this
            simp [pm_isra, pm_unset] at hw
          · cases h
        · rw [if_neg hk2] at h
          exact Or.inr ⟨fun q => hk q.symm, h, fun q => hk2 (by omega)⟩
    · rw [if_neg hl, List.getElem?_set] at h
      by_cases hk : i + 1 = k
      · rw [if_pos hk] at h
        split at h
        · exact Or.inl ⟨hk.symm, (Option.some.inj h).symm⟩
        · cases h
      · rw [if_neg hk] at h
        refine Or.inr ⟨fun q => hk q.symm, h, fun q => hl ?_⟩
        have : k = i := by omega
        subst this
        rw [h]
        simp [pm_islong, q.2]
theorem pm_set1_len (ls : List Value) (i : Nat) (v : Value) : (pm_set1 ls i v).length = ls.length := by
  unfold pm_set1
  cases i with
  | zero => simp
  | succ i => simp only; split <;> simp
theorem pm_set2_len (ls : List Value) (i : Nat) (v : Value) : (pm_set2 ls i v).length = ls.length := by
  unfold pm_set2
  rw [List.length_set, pm_set1_len]
/-- a reference's value is null or a reference -/
def pm_rvok (sa : Nat → Value) : Prop := ∀ i, sa i = .null ∨ ∃ t, sa i = .ref t
theorem pm_rv_cat {sa : Nat → Value} (h : pm_rvok sa) (base i : Nat) : (pm_rv sa base i).category = 1 := by
  unfold pm_rv
  split
  · rcases h i with q | ⟨t, q⟩ <;> rw [q] <;> rfl
  · rfl
theorem pm_cv_cat {sa : Nat → Value} (h : pm_rvok sa) (base : Nat) (v : Value) : (pm_cv (pm_rv sa base) v).category = v.category := by
  cases v <;> first | rfl | exact pm_rv_cat h base _
theorem pm_set1_has {sa : Nat → Value} (h : pm_rvok sa) {base : Nat} {lsA : Array Slot} {nL i : Nat} {ls : List Value} {v : Value}
    (hl : lv_has lsA nL ((i, pm_cv (pm_rv sa base) v) :: (pm_ll (pm_rv sa base) 0 ls).filter (fun q => !(q.1 == i) && !(q.1 + 1 == i && q.2.category == 2)))) : lv_has lsA nL (pm_ll (pm_rv sa base) 0 (pm_set1 ls i v)) := by
  refine pm_lsub hl fun q hq => ?_
  obtain ⟨k, w, h1, h2, rfl⟩ := pm_ll_mem.mp hq
  rcases pm_set1_get h1 h2 with ⟨rfl, rfl⟩ | ⟨g1, g2, g3⟩
  · exact List.mem_cons.mpr (Or.inl (by simp))
  · refine List.mem_cons_of_mem _ (List.mem_filter.mpr ⟨pm_ll_mem.mpr ⟨k, w, g2, h2, rfl⟩, ?_⟩)
    simp only [Nat.zero_add, pm_cv_cat h]
    simp only [Bool.and_eq_true, Bool.not_eq_true', beq_eq_false_iff_ne, ne_eq, Bool.and_eq_false_iff]
    refine ⟨g1, ?_⟩
    by_cases z : k + 1 = i
    · exact Or.inr fun z2 => g3 ⟨z, z2⟩
    · exact Or.inl z
theorem pm_set2_has {sa : Nat → Value} (h : pm_rvok sa) {base : Nat} {lsA : Array Slot} {nL i : Nat} {ls : List Value} {v : Value}
    (hl : lv_has lsA nL ((i, pm_cv (pm_rv sa base) v) :: (pm_ll (pm_rv sa base) 0 ls).filter (fun q => !(q.1 == i) && (!(q.1 == i + 1) && !(q.1 + 1 == i && q.2.category == 2))))) : lv_has lsA nL (pm_ll (pm_rv sa base) 0 (pm_set2 ls i v)) := by
  refine pm_lsub hl fun q hq => ?_
  obtain ⟨k, w, h1, h2, rfl⟩ := pm_ll_mem.mp hq
  unfold pm_set2 at h1
  rw [List.getElem?_set] at h1
  by_cases hk : i + 1 = k
  · rw [if_pos hk] at h1
    split at h1
    · have := Option.some.inj h1
      subst this
      simp [pm_isra, pm_unset] at h2
    · cases h1
  rw [if_neg hk] at h1
  rcases pm_set1_get h1 h2 with ⟨rfl, rfl⟩ | ⟨g1, g2, g3⟩
  · exact List.mem_cons.mpr (Or.inl (by simp))
  · refine List.mem_cons_of_mem _ (List.mem_filter.mpr ⟨pm_ll_mem.mpr ⟨k, w, g2, h2, rfl⟩, ?_⟩)
    simp only [Nat.zero_add, pm_cv_cat h]
    simp only [Bool.and_eq_true, Bool.not_eq_true', beq_eq_false_iff_ne, ne_eq, Bool.and_eq_false_iff]
    refine ⟨g1, fun z => hk z.symm, ?_⟩
    by_cases z : k + 1 = i
    · exact Or.inr fun z2 => g3 ⟨z, z2⟩
    · exact Or.inl z
theorem pm_beq_ne {a b : Nat} (h : ¬ a = b) : Nat.beq a b = false := by
  cases q : Nat.beq a b
  · rfl
  · exact absurd (Nat.eq_of_beq_eq_true q) h
theorem pm_args1 {v : Value} {r : List Value} (h : ¬ v.category = 2) : pm_args (v :: r) = v :: pm_args r := by
  rw [pm_args, pm_beq_ne h]
  rfl
theorem pm_args2 {v : Value} {r : List Value} (h : v.category = 2) : pm_args (v :: r) = v :: pm_unset :: pm_args r := by
  rw [pm_args, h]
  rfl
theorem pm_ll_args {sa : Nat → Value} (h : pm_rvok sa) {base : Nat} {n : Nat} : ∀ (as : List Value) (i : Nat) (q : Nat × Value), q ∈ pm_ll (pm_rv sa base) i (pm_args as ++ List.replicate n pm_unset) → q ∈ lv_args i (as.map (pm_cv (pm_rv sa base))) := by
  intro as
  induction as with
  | nil =>
    intro i q hq
    obtain ⟨k, w, h1, h2, -⟩ := pm_ll_mem.mp hq
    simp only [pm_args, List.nil_append] at h1
    have := List.eq_of_mem_replicate (List.mem_of_getElem? h1)
    subst this
    simp [pm_isra, pm_unset] at h2
  | cons v r ih =>
    intro i q hq
    simp only [List.map_cons, lv_args, pm_cv_cat h]
    by_cases hc : v.category = 2
    · have e1 : pm_args (v :: r) = v :: pm_unset :: pm_args r := pm_args2 hc
      rw [e1, List.cons_append, List.cons_append, pm_ll_cons, pm_ll_cons] at hq
      have hv : pm_isra v = false := by cases v <;> first | rfl | (simp [Value.category] at hc)
      rw [if_neg (by simp [hv]), if_pos (show pm_isra pm_unset = true from rfl)] at hq
      rw [if_pos hc]
      rcases List.mem_cons.mp hq with e | hq
      · exact List.mem_cons.mpr (Or.inl e)
      · exact List.mem_cons_of_mem _ (ih (i + 2) q hq)
    · have e1 : pm_args (v :: r) = v :: pm_args r := pm_args1 hc
      rw [e1, List.cons_append, pm_ll_cons] at hq
      rw [if_neg hc]
      split at hq
      · exact List.mem_cons_of_mem _ (ih (i + 1) q hq)
      · rcases List.mem_cons.mp hq with e | hq
        · exact List.mem_cons.mpr (Or.inl e)
        · exact List.mem_cons_of_mem _ (ih (i + 1) q hq)
theorem pm_args_len {sa : Nat → Value} (h : pm_rvok sa) {base : Nat} : ∀ (as : List Value), (lg_sl (as.map (pm_cv (pm_rv sa base)))).length = (pm_args as).length := by
  intro as
  induction as with
  | nil => rfl
  | cons v r ih =>
    have e : lg_sl ((v :: r).map (pm_cv (pm_rv sa base))) = (if (pm_cv (pm_rv sa base) v).category = 2 then [.val (pm_cv (pm_rv sa base) v), .second] else [.val (pm_cv (pm_rv sa base) v)]) ++ lg_sl (r.map (pm_cv (pm_rv sa base))) := by
      simp [lg_sl]
    rw [e, List.length_append, ih, pm_cv_cat h]
    by_cases hc : v.category = 2
    · rw [if_pos hc, pm_args2 hc]
      simp; omega
    · rw [if_neg hc, pm_args1 hc]
      simp; omega
