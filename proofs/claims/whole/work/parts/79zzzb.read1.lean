/-! THE CALL read: the tokens of a tape, pure. -/
def rd_rn (P : Nat → Bool) (c : Nat → Nat) (n : Nat) : Nat → Nat → Nat
  | 0, q => q
  | k + 1, q => if q < n ∧ P (c q) = true then rd_rn P c n k (q + 1) else q
def rd_go (P : Nat → Bool) (c : Nat → Nat) (n q : Nat) : Nat := rd_rn P c n (n - q) q
def rd_L (b : Nat) : Bool := decide (97 ≤ b) && decide (b ≤ 122)
def rd_D (b : Nat) : Bool := decide (48 ≤ b) && decide (b ≤ 57)
def rd_S (b : Nat) : Bool := decide (b = 32)
theorem go_step {P : Nat → Bool} {c : Nat → Nat} {n q : Nat} (h : q < n) (hp : P (c q) = true) : rd_go P c n q = rd_go P c n (q + 1) := by
  unfold rd_go
  rw [show n - q = (n - (q + 1)) + 1 by omega]
  show (if q < n ∧ P (c q) = true then _ else _) = _
  rw [if_pos ⟨h, hp⟩]
theorem go_stop {P : Nat → Bool} {c : Nat → Nat} {n q : Nat} (h : ¬ (q < n ∧ P (c q) = true)) : rd_go P c n q = q := by
  unfold rd_go
  rcases hk : n - q with _ | k
  · rfl
  · show (if q < n ∧ P (c q) = true then _ else _) = _
    rw [if_neg h]
theorem go_ind {P : Nat → Bool} {c : Nat → Nat} {n : Nat} {M : Nat → Prop} (h1 : ∀ q, ¬ (q < n ∧ P (c q) = true) → M q) (h2 : ∀ q, q < n → P (c q) = true → M (q + 1) → M q) : ∀ q, M q := by
  have key : ∀ (k q : Nat), n - q ≤ k → M q := by
    intro k
    induction k with
    | zero => intro q hq; exact h1 q (fun z => by omega)
    | succ k ih =>
      intro q hq
      by_cases h : q < n ∧ P (c q) = true
      · exact h2 q h.1 h.2 (ih (q + 1) (by omega))
      · exact h1 q h
  exact fun q => key (n - q) q (Nat.le_refl _)
theorem go_le {P : Nat → Bool} {c : Nat → Nat} {n : Nat} : ∀ q, q ≤ rd_go P c n q ∧ (q ≤ n → rd_go P c n q ≤ n) ∧ (∀ j, q ≤ j → j < rd_go P c n q → j < n ∧ P (c j) = true) ∧ ¬ (rd_go P c n q < n ∧ P (c (rd_go P c n q)) = true) :=
  go_ind (P := P) (c := c) (n := n) (M := fun q => q ≤ rd_go P c n q ∧ (q ≤ n → rd_go P c n q ≤ n) ∧ (∀ j, q ≤ j → j < rd_go P c n q → j < n ∧ P (c j) = true) ∧ ¬ (rd_go P c n q < n ∧ P (c (rd_go P c n q)) = true))
    (fun q h => by rw [go_stop h]; exact ⟨Nat.le_refl _, fun z => z, fun j a b => by omega, h⟩)
    (fun q h hp ih => by
      rw [go_step h hp]
      refine ⟨by omega, fun _ => ih.2.1 (by omega), fun j a b => ?_, ih.2.2.2⟩
      by_cases e : j = q
      · subst e; exact ⟨h, hp⟩
      · exact ih.2.2.1 j (by omega) b)
def rd_st (c : Nat → Nat) (n p : Nat) : Nat := rd_go rd_S c n p
def rd_en (c : Nat → Nat) (n q : Nat) : Nat := if q < n then (if rd_L (c q) = true then rd_go rd_L c n q else if rd_D (c q) = true then rd_go rd_D c n q else q + 1) else q
def rd_pt (c : Nat → Nat) (n : Nat) : Nat → Nat
  | 0 => 0
  | i + 1 => rd_en c n (rd_st c n (rd_pt c n i))
def rd_s (c : Nat → Nat) (n i : Nat) : Nat := rd_st c n (rd_pt c n i)
theorem en_gt {c : Nat → Nat} {n q : Nat} (h : q < n) : q + 1 ≤ rd_en c n q ∧ rd_en c n q ≤ n := by
  unfold rd_en
  rw [if_pos h]
  by_cases h1 : rd_L (c q) = true
  · rw [if_pos h1, go_step h h1]
    have z := go_le (P := rd_L) (c := c) (n := n) (q + 1)
    exact ⟨z.1, z.2.1 (by omega)⟩
  · rw [if_neg h1]
    by_cases h2 : rd_D (c q) = true
    · rw [if_pos h2, go_step h h2]
      have z := go_le (P := rd_D) (c := c) (n := n) (q + 1)
      exact ⟨z.1, z.2.1 (by omega)⟩
    · rw [if_neg h2]; omega
theorem pt_le {c : Nat → Nat} {n : Nat} : ∀ i, rd_pt c n i ≤ n ∧ rd_pt c n i ≤ rd_s c n i ∧ rd_s c n i ≤ n
  | 0 => ⟨Nat.zero_le _, (go_le (P := rd_S) (c := c) (n := n) 0).1, (go_le (P := rd_S) (c := c) (n := n) 0).2.1 (Nat.zero_le _)⟩
  | i + 1 => by
    have ih := pt_le (c := c) (n := n) i
    have l : rd_pt c n (i + 1) ≤ n := by
      show rd_en c n (rd_s c n i) ≤ n
      by_cases h : rd_s c n i < n
      · exact (en_gt h).2
      · unfold rd_en; rw [if_neg h]; exact ih.2.2
    exact ⟨l, (go_le (P := rd_S) (c := c) (n := n) _).1, (go_le (P := rd_S) (c := c) (n := n) _).2.1 l⟩
theorem pt_s {c : Nat → Nat} {n i : Nat} : rd_pt c n (i + 1) = rd_en c n (rd_s c n i) := rfl
theorem s_e {c : Nat → Nat} {n i : Nat} (h : rd_s c n i < n) : rd_s c n i + 1 ≤ rd_pt c n (i + 1) := (en_gt h).1
theorem rd_N {c : Nat → Nat} {n : Nat} : ∃ N, N ≤ n ∧ rd_s c n N = n ∧ ∀ i, i < N → rd_s c n i < n := by
  have grow : ∀ k, (∀ i, i < k → rd_s c n i < n) → k ≤ rd_pt c n k := by
    intro k
    induction k with
    | zero => intro _; exact Nat.zero_le _
    | succ k ih =>
      intro h
      have a := ih (fun i hi => h i (by omega))
      have b := s_e (h k (by omega))
      have d := pt_le (c := c) (n := n) k
      omega
  have key : ∀ m, (∃ N, N ≤ m ∧ rd_s c n N = n ∧ ∀ i, i < N → rd_s c n i < n) ∨ (∀ i, i ≤ m → rd_s c n i < n) := by
    intro m
    induction m with
    | zero =>
      by_cases h : rd_s c n 0 < n
      · exact Or.inr (fun i hi => by rw [show i = 0 by omega]; exact h)
      · have := (pt_le (c := c) (n := n) 0).2.2
        exact Or.inl ⟨0, Nat.le_refl _, by omega, fun i hi => absurd hi (Nat.not_lt_zero _)⟩
    | succ m ih =>
      rcases ih with ⟨N, h1, h2, h3⟩ | h
      · exact Or.inl ⟨N, by omega, h2, h3⟩
      · by_cases g : rd_s c n (m + 1) < n
        · exact Or.inr (fun i hi => by
            by_cases e : i = m + 1
            · rw [e]; exact g
            · exact h i (by omega))
        · have := (pt_le (c := c) (n := n) (m + 1)).2.2
          exact Or.inl ⟨m + 1, Nat.le_refl _, by omega, fun i hi => h i (by omega)⟩
  rcases key n with h | h
  · exact h
  · have a := grow (n + 1) (fun i hi => h i (by omega))
    have b := (pt_le (c := c) (n := n) (n + 1)).1
    omega
/-- two words that follow on one another leave a place between them -/
theorem s_gap {c : Nat → Nat} {n i : Nat} (h : rd_s c n i < n) (hl : rd_L (c (rd_s c n i)) = true) (h2 : rd_s c n (i + 1) < n) (hl2 : rd_L (c (rd_s c n (i + 1))) = true) : rd_pt c n (i + 1) + 1 ≤ rd_s c n (i + 1) := by
  have a := (pt_le (c := c) (n := n) (i + 1)).2.1
  by_cases e : rd_pt c n (i + 1) = rd_s c n (i + 1)
  · exfalso
    have z := (go_le (P := rd_L) (c := c) (n := n) (rd_s c n i)).2.2.2
    have en : rd_pt c n (i + 1) = rd_go rd_L c n (rd_s c n i) := by
      rw [pt_s]; unfold rd_en; rw [if_pos h, if_pos hl]
    rw [← en, e] at z
    exact z ⟨h2, hl2⟩
  · omega
/-- the bytes of a token -/
def rd_tl (c : Nat → Nat) (q e : Nat) : List Nat := (List.range (e - q)).map (fun j => c (q + j))
def rd_W : List (List Nat) := [[114, 105, 103, 104, 116], [114, 101, 110, 116], [108, 101, 97, 115, 101], [97, 108, 109, 115], [112, 101, 110, 115, 105, 111, 110], [100, 101, 98, 116], [112, 108, 101, 100, 103, 101], [99, 108, 97, 105, 109], [115, 116, 97, 110, 100], [102, 97, 108, 108], [114, 97, 110, 107], [105, 102], [97, 110, 100], [111, 114], [110, 111, 116], [111, 114, 100, 101, 114], [97, 109, 111, 117, 110, 116], [97, 98, 111, 118, 101], [100, 97, 116, 101, 100], [119, 105, 116, 104, 105, 110], [104, 101, 108, 100]]
def rd_find (t : List Nat) : List (List Nat) → Nat → Nat
  | [], _ => 99
  | w :: r, k => if t = w then k else rd_find t r (k + 1)
/-- a word's number, 99 for no word -/
def rd_cd (c : Nat → Nat) (n i : Nat) : Nat := if rd_s c n i < n ∧ rd_L (c (rd_s c n i)) = true then rd_find (rd_tl c (rd_s c n i) (rd_pt c n (i + 1))) rd_W 0 else 99
theorem find_ge {t : List Nat} : ∀ (r : List (List Nat)) (k : Nat), rd_find t r k = 99 ∨ k ≤ rd_find t r k
  | [], _ => Or.inl rfl
  | w :: r, k => by
    show (if t = w then k else rd_find t r (k + 1)) = 99 ∨ k ≤ (if t = w then k else rd_find t r (k + 1))
    split
    · exact Or.inr (Nat.le_refl _)
    · rcases find_ge (t := t) r (k + 1) with h | h
      · exact Or.inl h
      · exact Or.inr (by omega)
theorem find_at {t : List Nat} : ∀ (r : List (List Nat)) (k m : Nat), k + r.length ≤ 99 → (∀ i j, i < j → j < r.length → ¬ r[i]? = r[j]?) → m < r.length → (rd_find t r k = k + m ↔ r[m]? = some t)
  | [], k, m, _, _, h => absurd h (Nat.not_lt_zero _)
  | w :: r, k, m, hk, hd, hm => by
    rw [List.length_cons] at hk hm
    show (if t = w then k else rd_find t r (k + 1)) = k + m ↔ _
    by_cases e : t = w
    · rw [if_pos e]
      rcases m with _ | m
      · simp [e]
      · have nd := hd 0 (m + 1) (by omega) (by rw [List.length_cons]; omega)
        constructor
        · intro h; omega
        · intro h
          rw [h, e] at nd
          exact absurd rfl nd
    · rw [if_neg e]
      rcases m with _ | m
      · constructor
        · intro h
          rcases find_ge (t := t) r (k + 1) with q | q <;> omega
        · intro h
          exact absurd (Option.some.inj h).symm e
      · have z := find_at (t := t) r (k + 1) m (by omega) (fun i j a b => by
          have := hd (i + 1) (j + 1) (by omega) (by rw [List.length_cons]; omega)
          simpa using this) (by omega)
        rw [show k + (m + 1) = k + 1 + m by omega]
        simpa using z
theorem W_dist : ∀ j, j < 21 → ∀ i, i < j → ¬ rd_W[i]? = rd_W[j]? := by decide
theorem find_W {t : List Nat} {m : Nat} (hm : m < 21) : rd_find t rd_W 0 = m ↔ rd_W[m]? = some t := by
  have z := find_at (t := t) rd_W 0 m (by decide) (fun i j a b => W_dist j b i a) hm
  rw [Nat.zero_add] at z
  exact z
/-- a word as a number -/
def rd_h (l : List Nat) : Nat := l.foldl (fun a b => 27 * a + (b - 96)) 0
theorem wh_app {l : List Nat} {b : Nat} : rd_h (l ++ [b]) = 27 * rd_h l + (b - 96) := by unfold rd_h; rw [List.foldl_append]; rfl
theorem h_inj : ∀ (k : Nat) (l m : List Nat), l.length + m.length ≤ k → (∀ x ∈ l, 97 ≤ x ∧ x ≤ 122) → (∀ x ∈ m, 97 ≤ x ∧ x ≤ 122) → rd_h l = rd_h m → l = m
  | 0, l, m, hk, _, _, _ => by
    rw [List.eq_nil_of_length_eq_zero (show l.length = 0 by omega), List.eq_nil_of_length_eq_zero (show m.length = 0 by omega)]
  | k + 1, l, m, hk, hl, hm, h => by
    by_cases e1 : l = []
    · by_cases e2 : m = []
      · rw [e1, e2]
      · exfalso
        obtain ⟨u, x, rfl⟩ : ∃ u x, m = u ++ [x] := ⟨m.dropLast, m.getLast e2, (List.dropLast_concat_getLast _).symm⟩
        have hx := hm x (List.mem_append_right _ (List.mem_singleton.mpr rfl))
        rw [e1, wh_app] at h
        have : rd_h [] = 0 := rfl
        omega
    · obtain ⟨u, x, rfl⟩ : ∃ u x, l = u ++ [x] := ⟨l.dropLast, l.getLast e1, (List.dropLast_concat_getLast _).symm⟩
      have hx := hl x (List.mem_append_right _ (List.mem_singleton.mpr rfl))
      by_cases e2 : m = []
      · exfalso
        rw [e2, wh_app] at h
        have : rd_h [] = 0 := rfl
        omega
      · obtain ⟨v, y, rfl⟩ : ∃ v y, m = v ++ [y] := ⟨m.dropLast, m.getLast e2, (List.dropLast_concat_getLast _).symm⟩
        have hy := hm y (List.mem_append_right _ (List.mem_singleton.mpr rfl))
        rw [wh_app, wh_app] at h
        have ea : rd_h u = rd_h v := by omega
        have ex : x = y := by omega
        rw [List.length_append, List.length_append] at hk
        have l1 : [x].length = 1 := rfl
        have l2 : [y].length = 1 := rfl
        rw [h_inj k u v (by omega) (fun z hz => hl z (List.mem_append_left _ hz)) (fun z hz => hm z (List.mem_append_left _ hz)) ea, ex]
theorem W_ok : ∀ w ∈ rd_W, (∀ x ∈ w, 97 ≤ x ∧ x ≤ 122) ∧ w.length ≤ 8 ∧ 2 ≤ w.length := by decide
/-- what the reference makes of a word -/
def rd_wt (l : List Nat) : Int := if l.length ≤ 8 then (rd_h l : Int) else -1
theorem wt_W {t : List Nat} {m : Nat} {w : List Nat} (hw : rd_W[m]? = some w) (ht : ∀ x ∈ t, 97 ≤ x ∧ x ≤ 122) : rd_wt t = (rd_h w : Int) ↔ rd_find t rd_W 0 = m := by
  have hm : m < 21 := (List.getElem?_eq_some_iff.mp hw).1
  rw [find_W hm, hw]
  have ok := W_ok w (List.mem_of_getElem? hw)
  unfold rd_wt
  constructor
  · intro h
    by_cases c : t.length ≤ 8
    · rw [if_pos c] at h
      rw [h_inj _ t w (Nat.le_refl _) ht ok.1 (by omega)]
    · rw [if_neg c] at h
      omega
  · intro h
    have e := Option.some.inj h
    rw [← e, if_pos ok.2.1]
/-- a number's worth, 1000 for one that is none -/
def rd_v (l : List Nat) : Nat := l.foldl (fun a b => 10 * a + (b - 48)) 0
theorem v_app {l : List Nat} {b : Nat} : rd_v (l ++ [b]) = 10 * rd_v l + (b - 48) := by unfold rd_v; rw [List.foldl_append]; rfl
def rd_nm (c : Nat → Nat) (n i : Nat) : Nat := if rd_s c n i < n ∧ rd_D (c (rd_s c n i)) = true ∧ rd_pt c n (i + 1) ≤ rd_s c n i + 3 then rd_v (rd_tl c (rd_s c n i) (rd_pt c n (i + 1))) else 1000
/-- the sort of a token -/
def rd_sg (c : Nat → Nat) (n i : Nat) : Nat := if rd_s c n i < n then (if rd_L (c (rd_s c n i)) = true then 256 else if rd_D (c (rd_s c n i)) = true then 257 else c (rd_s c n i)) else 258
theorem tl_app {c : Nat → Nat} {q e : Nat} (h : q ≤ e) : rd_tl c q (e + 1) = rd_tl c q e ++ [c e] := by
  unfold rd_tl
  rw [show e + 1 - q = (e - q) + 1 by omega, List.range_succ, List.map_append]
  simp [show q + (e - q) = e by omega]
theorem tl_len {c : Nat → Nat} {q e : Nat} : (rd_tl c q e).length = e - q := by unfold rd_tl; simp
theorem tl_nil {c : Nat → Nat} {q : Nat} : rd_tl c q q = [] := by unfold rd_tl; simp
theorem tl_mem {c : Nat → Nat} {q e x : Nat} (h : x ∈ rd_tl c q e) : ∃ j, q ≤ j ∧ j < e ∧ x = c j := by
  unfold rd_tl at h
  obtain ⟨j, hj, rfl⟩ := List.mem_map.mp h
  have := List.mem_range.mp hj
  exact ⟨q + j, by omega, by omega, rfl⟩
theorem tl_at {c : Nat → Nat} {q e j : Nat} (h : j < e - q) : (rd_tl c q e)[j]? = some (c (q + j)) := by
  unfold rd_tl
  simp [h]
theorem h_bd : ∀ (k : Nat) (l : List Nat), l.length = k → (∀ x ∈ l, 97 ≤ x ∧ x ≤ 122) → rd_h l < 27 ^ k
  | 0, l, h, _ => by rw [List.eq_nil_of_length_eq_zero h]; decide
  | k + 1, l, h, hx => by
    obtain ⟨u, x, rfl⟩ : ∃ u x, l = u ++ [x] := ⟨l.dropLast, l.getLast (by intro e; rw [e] at h; simp at h), (List.dropLast_concat_getLast _).symm⟩
    rw [List.length_append] at h
    have h' : u.length + 1 = k + 1 := h
    have ih := h_bd k u (by omega) (fun y hy => hx y (List.mem_append_left _ hy))
    have := hx x (List.mem_append_right _ (List.mem_singleton.mpr rfl))
    rw [wh_app, Nat.pow_succ]; omega
theorem v_bd : ∀ (k : Nat) (l : List Nat), l.length = k → (∀ x ∈ l, 48 ≤ x ∧ x ≤ 57) → rd_v l < 10 ^ k
  | 0, l, h, _ => by rw [List.eq_nil_of_length_eq_zero h]; decide
  | k + 1, l, h, hx => by
    obtain ⟨u, x, rfl⟩ : ∃ u x, l = u ++ [x] := ⟨l.dropLast, l.getLast (by intro e; rw [e] at h; simp at h), (List.dropLast_concat_getLast _).symm⟩
    rw [List.length_append] at h
    have h' : u.length + 1 = k + 1 := h
    have ih := v_bd k u (by omega) (fun y hy => hx y (List.mem_append_left _ hy))
    have := hx x (List.mem_append_right _ (List.mem_singleton.mpr rfl))
    rw [v_app, Nat.pow_succ]; omega
theorem L_iff {b : Nat} : rd_L b = true ↔ 97 ≤ b ∧ b ≤ 122 := by unfold rd_L; simp
theorem D_iff {b : Nat} : rd_D b = true ↔ 48 ≤ b ∧ b ≤ 57 := by unfold rd_D; simp
theorem S_iff {b : Nat} : rd_S b = true ↔ b = 32 := by unfold rd_S; simp

