/-! WHAT A RUN COMES TO. pm_wp: from pc the method ends, with Q of its answer and heap. pm_go: the same as a formula, walked up to calls and to the places sp. -/
def pm_wp (cd : Nat → List pm_E) (mt : Nat → Nat × Nat) (d k pc : Nat) (x : pm_C) (Q : Int32 → Int64 → pm_H → Prop) : Prop :=
  ∃ (n : Nat) (v : Int32) (w : Int64) (H : pm_H), pm_run cd mt n d k pc x = some (v, w, H) ∧ Q v w H
def pm_wc (cd : Nat → List pm_E) (mt : Nat → Nat × Nat) (d k : Nat) (as : List Value) (H : pm_H) (Q : Int32 → Int64 → pm_H → Prop) : Prop :=
  pm_wp cd mt d k 0 (pm_ent (mt k).1 as, [], H) Q
def pm_swg (A : Nat → Prop) (v : Int32) (d : Nat) : List (Int32 × Nat) → Prop
  | [] => A d
  | (u, t) :: r => (v = u → A t) ∧ (¬ v = u → pm_swg A v d r)
def pm_has (pc : Nat) : List Nat → Bool
  | [] => false
  | a :: r => Nat.beq a pc || pm_has pc r
def pm_go (cd : Nat → List pm_E) (mt : Nat → Nat × Nat) (sp : List Nat) (d k : Nat) (Q : Int32 → Int64 → pm_H → Prop) : Nat → List pm_E → pm_C → Prop
  | 0, _, _ => False
  | _ + 1, [], _ => False
  | n + 1, en :: rest, x =>
    match pm_step en x with
    | none => False
    | some (.inl y) => match rest with
      | [] => False
      | e2 :: _ => if pm_has e2.1 sp then pm_wp cd mt d k e2.1 y Q else pm_go cd mt sp d k Q n rest y
    | some (.inr (.inl (b, y))) => b = true ∧ match rest with
      | [] => False
      | e2 :: _ => if pm_has e2.1 sp then pm_wp cd mt d k e2.1 y Q else pm_go cd mt sp d k Q n rest y
    | some (.inr (.inr (.inl (b, t, y)))) =>
      (b = true → if pm_has t sp then pm_wp cd mt d k t y Q else pm_go cd mt sp d k Q n (pm_drop t (cd k)) y) ∧
      (b = false → match rest with
        | [] => False
        | e2 :: _ => if pm_has e2.1 sp then pm_wp cd mt d k e2.1 y Q else pm_go cd mt sp d k Q n rest y)
    | some (.inr (.inr (.inr (.inl (v, cs, df, y))))) =>
      pm_swg (fun t => if pm_has t sp then pm_wp cd mt d k t y Q else pm_go cd mt sp d k Q n (pm_drop t (cd k)) y) v df cs
    | some (.inr (.inr (.inr (.inr (.inl (j, as, y)))))) => match d with
      | 0 => False
      | d' + 1 => if Nat.ble (pm_args as).length (mt j).1 then pm_wc cd mt d' j as y.2.2 (fun v w H => pm_wp cd mt (d' + 1) k (en.1 + en.2.2.1) (y.1, pm_push (mt j).2 v w y.2.1, H) Q) else False
    | some (.inr (.inr (.inr (.inr (.inr (b, v, w, H)))))) => b = true ∧ Q v w H
theorem pm_chain_lt : ∀ (l : List pm_E) (e : pm_E), pm_chain (e :: l) = true → ∀ e2 ∈ l, e.1 < e2.1
  | [], _, _, _, h => by cases h
  | a :: r, e, hc, e2, h => by
    simp only [pm_chain, Bool.and_eq_true] at hc
    obtain ⟨⟨h1, h2⟩, h3⟩ := hc
    have h1 := Nat.le_of_ble_eq_true h1
    have h2 := Nat.eq_of_beq_eq_true h2
    rcases List.mem_cons.mp h with rfl | h
    · omega
    · have := pm_chain_lt r a (by simp only [pm_chain, Bool.and_eq_true]; exact h3) e2 h
      omega
theorem pm_drop_mem : ∀ (l : List pm_E) (pc : Nat) (en : pm_E) (rest : List pm_E), pm_drop pc l = en :: rest → en ∈ l ∧ en.1 = pc
  | [], pc, en, rest, h => by cases h
  | a :: r, pc, en, rest, h => by
    unfold pm_drop at h
    split at h
    next hb =>
      cases h
      exact ⟨List.mem_cons_self, Nat.eq_of_beq_eq_true hb⟩
    next =>
      obtain ⟨h1, h2⟩ := pm_drop_mem r pc en rest h
      exact ⟨List.mem_cons_of_mem _ h1, h2⟩
theorem pm_drop_next : ∀ (l : List pm_E) (pc : Nat) (en e2 : pm_E) (rest : List pm_E), pm_chain l = true → pm_drop pc l = en :: e2 :: rest → en.1 + en.2.2.1 = e2.1 ∧ pm_drop e2.1 l = e2 :: rest
  | [], pc, en, e2, rest, _, h => by cases h
  | a :: r, pc, en, e2, rest, hc, h => by
    have hc0 := hc
    simp only [pm_chain, Bool.and_eq_true] at hc
    obtain ⟨⟨h1, h2⟩, h3⟩ := hc
    unfold pm_drop at h
    split at h
    next hb =>
      cases h
      have h1 := Nat.le_of_ble_eq_true h1
      have h2 := Nat.eq_of_beq_eq_true h2
      refine ⟨h2, ?_⟩
      have hne : Nat.beq a.1 e2.1 = false := by
        cases hq : Nat.beq a.1 e2.1
        · rfl
        · have := Nat.eq_of_beq_eq_true hq; omega
      rw [pm_drop, hne]
      simp [pm_drop]
    next =>
      obtain ⟨g1, g2⟩ := pm_drop_next r pc en e2 rest h3 h
      refine ⟨g1, ?_⟩
      have hm := (pm_drop_mem r _ _ _ g2).1
      have hl := pm_chain_lt r a hc0 e2 hm
      have hne : Nat.beq a.1 e2.1 = false := by
        cases hq : Nat.beq a.1 e2.1
        · rfl
        · have := Nat.eq_of_beq_eq_true hq; omega
      simp [pm_drop, hne, g2]
section PMW
variable {cd : Nat → List pm_E} {mt : Nat → Nat × Nat}
theorem pm_run_mono : ∀ (n m d k pc : Nat) (x : pm_C) (r : Int32 × Int64 × pm_H), n ≤ m → pm_run cd mt n d k pc x = some r → pm_run cd mt m d k pc x = some r := by
  intro n
  induction n with
  | zero => intro m d k pc x r _ h; simp [pm_run] at h
  | succ n ih =>
    intro m d k pc x r hm h
    obtain ⟨m, rfl⟩ : ∃ m', m = m' + 1 := ⟨m - 1, by omega⟩
    have hm : n ≤ m := by omega
    unfold pm_run at h ⊢
    split at h
    next => cases h
    next en rest he =>
      split at h
      next => cases h
      next y hs => exact ih m _ _ _ _ _ hm h
      next b y hs =>
        split at h
        next hb => rw [if_pos hb]; exact ih m _ _ _ _ _ hm h
        next => cases h
      next b t y hs => exact ih m _ _ _ _ _ hm h
      next v cs df y hs => exact ih m _ _ _ _ _ hm h
      next j as y hs =>
        cases d with
        | zero => simp at h
        | succ d =>
          simp only at h ⊢
          split at h
          next hb =>
            rw [if_pos hb]
            split at h
            next => cases h
            next v w H hc =>
              rw [ih m _ _ _ _ _ hm hc]
              exact ih m _ _ _ _ _ hm h
          next => cases h
      next b v w H hs => exact h
theorem pm_wp.mono {d k pc : Nat} {x : pm_C} {Q Q' : Int32 → Int64 → pm_H → Prop} (h : pm_wp cd mt d k pc x Q) (hq : ∀ v w H, Q v w H → Q' v w H) : pm_wp cd mt d k pc x Q' := by
  obtain ⟨n, v, w, H, h1, h2⟩ := h
  exact ⟨n, v, w, H, h1, hq v w H h2⟩
/-- one step, by what it is -/
theorem pm_wp_nx {d k pc : Nat} {x y : pm_C} {Q : Int32 → Int64 → pm_H → Prop} {en : pm_E} {rest : List pm_E} (hd : pm_drop pc (cd k) = en :: rest) (hs : pm_step en x = some (.inl y)) (h : pm_wp cd mt d k (en.1 + en.2.2.1) y Q) : pm_wp cd mt d k pc x Q := by
  obtain ⟨n, v, w, H, h1, h2⟩ := h
  exact ⟨n + 1, v, w, H, by unfold pm_run; rw [hd]; simp only [hs]; exact h1, h2⟩
theorem pm_wp_rq {d k pc : Nat} {x y : pm_C} {Q : Int32 → Int64 → pm_H → Prop} {en : pm_E} {rest : List pm_E} (hd : pm_drop pc (cd k) = en :: rest) (hs : pm_step en x = some (.inr (.inl (true, y)))) (h : pm_wp cd mt d k (en.1 + en.2.2.1) y Q) : pm_wp cd mt d k pc x Q := by
  obtain ⟨n, v, w, H, h1, h2⟩ := h
  exact ⟨n + 1, v, w, H, by unfold pm_run; rw [hd]; simp only [hs]; exact h1, h2⟩
theorem pm_wp_br {d k pc : Nat} {x y : pm_C} {Q : Int32 → Int64 → pm_H → Prop} {en : pm_E} {rest : List pm_E} {b : Bool} {t : Nat} (hd : pm_drop pc (cd k) = en :: rest) (hs : pm_step en x = some (.inr (.inr (.inl (b, t, y))))) (h : pm_wp cd mt d k (if b then t else en.1 + en.2.2.1) y Q) : pm_wp cd mt d k pc x Q := by
  obtain ⟨n, v, w, H, h1, h2⟩ := h
  exact ⟨n + 1, v, w, H, by unfold pm_run; rw [hd]; simp only [hs]; exact h1, h2⟩
theorem pm_wp_sw {d k pc : Nat} {x y : pm_C} {Q : Int32 → Int64 → pm_H → Prop} {en : pm_E} {rest : List pm_E} {v0 : Int32} {cs : List (Int32 × Nat)} {df : Nat} (hd : pm_drop pc (cd k) = en :: rest) (hs : pm_step en x = some (.inr (.inr (.inr (.inl (v0, cs, df, y)))))) (h : pm_wp cd mt d k (pm_sel v0 df cs) y Q) : pm_wp cd mt d k pc x Q := by
  obtain ⟨n, v, w, H, h1, h2⟩ := h
  exact ⟨n + 1, v, w, H, by unfold pm_run; rw [hd]; simp only [hs]; exact h1, h2⟩
theorem pm_wp_ca {d k pc : Nat} {x y : pm_C} {Q : Int32 → Int64 → pm_H → Prop} {en : pm_E} {rest : List pm_E} {j : Nat} {as : List Value} (hd : pm_drop pc (cd k) = en :: rest) (hs : pm_step en x = some (.inr (.inr (.inr (.inr (.inl (j, as, y))))))) (hb : Nat.ble (pm_args as).length (mt j).1 = true)
    (h : pm_wc cd mt d j as y.2.2 (fun v w H => pm_wp cd mt (d + 1) k (en.1 + en.2.2.1) (y.1, pm_push (mt j).2 v w y.2.1, H) Q)) : pm_wp cd mt (d + 1) k pc x Q := by
  obtain ⟨n, v, w, H, h1, m, v2, w2, H2, h3, h4⟩ := h
  refine ⟨max n m + 1, v2, w2, H2, ?_, h4⟩
  unfold pm_run
  rw [hd]
  simp only [hs]
  rw [if_pos hb, pm_run_mono n (max n m) _ _ _ _ _ (Nat.le_max_left _ _) h1]
  exact pm_run_mono m (max n m) _ _ _ _ _ (Nat.le_max_right _ _) h3
theorem pm_wp_re {d k pc : Nat} {x : pm_C} {Q : Int32 → Int64 → pm_H → Prop} {en : pm_E} {rest : List pm_E} {v : Int32} {w : Int64} {H : pm_H} (hd : pm_drop pc (cd k) = en :: rest) (hs : pm_step en x = some (.inr (.inr (.inr (.inr (.inr (true, v, w, H))))))) (h : Q v w H) : pm_wp cd mt d k pc x Q :=
  ⟨1, v, w, H, by unfold pm_run; rw [hd]; simp only [hs]; rfl, h⟩
theorem pm_swg_sel {A : Nat → Prop} {v : Int32} {d : Nat} : ∀ (cs : List (Int32 × Nat)), pm_swg A v d cs → A (pm_sel v d cs)
  | [], h => h
  | (u, t) :: r, h => by
    unfold pm_sel
    by_cases hv : v = u
    · rw [if_pos hv]; exact h.1 hv
    · rw [if_neg hv]; exact pm_swg_sel r (h.2 hv)
theorem pm_go_sound {sp : List Nat} {d k : Nat} {Q : Int32 → Int64 → pm_H → Prop} (hch : pm_chain (cd k) = true) : ∀ (n pc : Nat) (x : pm_C), pm_go cd mt sp d k Q n (pm_drop pc (cd k)) x → pm_wp cd mt d k pc x Q := by
  intro n
  induction n with
  | zero => intro pc x h; simp [pm_go] at h
  | succ n ih =>
    intro pc x h
    cases hd : pm_drop pc (cd k) with
    | nil => rw [hd] at h; simp [pm_go] at h
    | cons en rest =>
      rw [hd] at h
      have nxt : ∀ y, (match rest with
          | [] => False
          | e2 :: _ => if pm_has e2.1 sp then pm_wp cd mt d k e2.1 y Q else pm_go cd mt sp d k Q n rest y) → pm_wp cd mt d k (en.1 + en.2.2.1) y Q := by
        intro y h
        cases rest with
        | nil => cases h
        | cons e2 r2 =>
          obtain ⟨g1, g2⟩ := pm_drop_next _ _ _ _ _ hch hd
          rw [g1]
          simp only at h
          split at h
          · exact h
          · exact ih _ _ (by rw [g2]; exact h)
      have jmp : ∀ t y, (if pm_has t sp then pm_wp cd mt d k t y Q else pm_go cd mt sp d k Q n (pm_drop t (cd k)) y) → pm_wp cd mt d k t y Q := by
        intro t y h
        split at h
        · exact h
        · exact ih _ _ h
      unfold pm_go at h
      split at h
      next => cases h
      next y hs => exact pm_wp_nx hd hs (nxt y h)
      next b y hs =>
        obtain ⟨rfl, h⟩ := h
        exact pm_wp_rq hd hs (nxt y h)
      next b t y hs =>
        refine pm_wp_br hd hs ?_
        cases b with
        | true => exact jmp t y (h.1 rfl)
        | false => exact nxt y (h.2 rfl)
      next v cs df y hs => exact pm_wp_sw hd hs (jmp _ y (pm_swg_sel (A := fun t => if pm_has t sp then pm_wp cd mt d k t y Q else pm_go cd mt sp d k Q n (pm_drop t (cd k)) y) cs h))
      next j as y hs =>
        cases d with
        | zero => cases h
        | succ d =>
          simp only at h
          split at h
          next hb => exact pm_wp_ca hd hs hb h
          next => cases h
      next b v w H hs =>
        obtain ⟨rfl, h⟩ := h
        exact pm_wp_re hd hs h
end PMW
