/-! BLOCKS: n steps of a method, as an iff. -/
def pm_bk (cd : Nat → List pm_E) (mt : Nat → Nat × Nat) (d k : Nat) (Q : Int32 → Int64 → pm_H → Prop) : Nat → List pm_E → pm_C → Prop
  | 0, [], _ => False
  | 0, en :: _, x => pm_wp cd mt d k en.1 x Q
  | _ + 1, [], _ => False
  | n + 1, en :: rest, x =>
    match pm_step en x with
    | none => False
    | some (.inl y) => pm_bk cd mt d k Q n rest y
    | some (.inr (.inl (b, y))) => b = true ∧ pm_bk cd mt d k Q n rest y
    | some (.inr (.inr (.inl (b, t, y)))) => (b = true → pm_wp cd mt d k t y Q) ∧ (b = false → pm_bk cd mt d k Q n rest y)
    | some (.inr (.inr (.inr (.inl (v, cs, df, y))))) => pm_swg (fun t => pm_wp cd mt d k t y Q) v df cs
    | some (.inr (.inr (.inr (.inr (.inl (j, as, y)))))) => match d with
      | 0 => False
      | d' + 1 => if Nat.ble (pm_args as).length (mt j).1 then pm_wc cd mt d' j as y.2.2 (fun v w H => pm_bk cd mt (d' + 1) k Q n rest (y.1, pm_push (mt j).2 v w y.2.1, H)) else False
    | some (.inr (.inr (.inr (.inr (.inr (b, v, w, H)))))) => b = true ∧ Q v w H
theorem pm_drop_end : ∀ (l : List pm_E) (pc : Nat) (en : pm_E), pm_chain l = true → pm_drop pc l = [en] → pm_drop (en.1 + en.2.2.1) l = []
  | [], pc, en, _, h => by cases h
  | a :: r, pc, en, hc, h => by
    have hc0 := hc
    simp only [pm_chain, Bool.and_eq_true] at hc
    obtain ⟨⟨h1, h2⟩, h3⟩ := hc
    have h1 := Nat.le_of_ble_eq_true h1
    unfold pm_drop at h
    split at h
    next hb =>
      cases h
      have hne : Nat.beq a.1 (a.1 + a.2.2.1) = false := by
        cases hq : Nat.beq a.1 (a.1 + a.2.2.1)
        · rfl
        · have := Nat.eq_of_beq_eq_true hq; omega
      simp [pm_drop, hne]
    next =>
      have g2 := pm_drop_end r pc en h3 h
      have hm := (pm_drop_mem r _ _ _ h).1
      have hl := pm_chain_lt r a hc0 en hm
      have hne : Nat.beq a.1 (en.1 + en.2.2.1) = false := by
        cases hq : Nat.beq a.1 (en.1 + en.2.2.1)
        · rfl
        · have := Nat.eq_of_beq_eq_true hq; omega
      simp [pm_drop, hne, g2]
theorem pm_drop_tl {l : List pm_E} {pc : Nat} {en : pm_E} {rest : List pm_E} (hc : pm_chain l = true) (h : pm_drop pc l = en :: rest) : pm_drop (en.1 + en.2.2.1) l = rest := by
  cases rest with
  | nil => exact pm_drop_end l pc en hc h
  | cons e2 r =>
    obtain ⟨g1, g2⟩ := pm_drop_next l pc en e2 r hc h
    rw [g1, g2]
section PMB
variable {cd : Nat → List pm_E} {mt : Nat → Nat × Nat}
theorem pm_swg_iff {A : Nat → Prop} {v : Int32} {d : Nat} : ∀ (cs : List (Int32 × Nat)), pm_swg A v d cs ↔ A (pm_sel v d cs)
  | [] => Iff.rfl
  | (u, t) :: r => by
    unfold pm_sel pm_swg
    by_cases hv : v = u
    · rw [if_pos hv]; exact ⟨fun h => h.1 hv, fun h => ⟨fun _ => h, fun g => absurd hv g⟩⟩
    · rw [if_neg hv]; exact ⟨fun h => (pm_swg_iff r).1 (h.2 hv), fun h => ⟨fun g => absurd g hv, fun _ => (pm_swg_iff r).2 h⟩⟩
theorem pm_bk_iff {d k : Nat} {Q : Int32 → Int64 → pm_H → Prop} (hch : pm_chain (cd k) = true) : ∀ (n pc : Nat) (x : pm_C), pm_wp cd mt d k pc x Q ↔ pm_bk cd mt d k Q n (pm_drop pc (cd k)) x := by
  intro n
  induction n with
  | zero =>
    intro pc x
    cases hd : pm_drop pc (cd k) with
    | nil =>
      refine ⟨fun h => ?_, fun h => h.elim⟩
      obtain ⟨n, v, w, H, h1, h2⟩ := h
      cases n with
      | zero => cases h1
      | succ n => unfold pm_run at h1; rw [hd] at h1; cases h1
    | cons en rest => rw [← (pm_drop_mem _ _ _ _ hd).2]; exact Iff.rfl
  | succ n ih =>
    intro pc x
    cases hd : pm_drop pc (cd k) with
    | nil =>
      refine ⟨fun h => ?_, fun h => h.elim⟩
      obtain ⟨n, v, w, H, h1, h2⟩ := h
      cases n with
      | zero => cases h1
      | succ n => unfold pm_run at h1; rw [hd] at h1; cases h1
    | cons en rest =>
      have nxt : ∀ y, pm_wp cd mt d k (en.1 + en.2.2.1) y Q ↔ pm_bk cd mt d k Q n rest y := by
        intro y
        rw [← pm_drop_tl hch hd]
        exact ih _ _
      have one : ∀ {P : Prop}, (∀ m v w H, pm_run cd mt (m + 1) d k pc x = some (v, w, H) → Q v w H → P) → (P → pm_wp cd mt d k pc x Q) → (pm_wp cd mt d k pc x Q ↔ P) := by
        intro P h1 h2
        refine ⟨fun h => ?_, h2⟩
        obtain ⟨n, v, w, H, g1, g2⟩ := h
        cases n with
        | zero => cases g1
        | succ n => exact h1 n v w H g1 g2
      unfold pm_bk
      cases hs : pm_step en x with
      | none =>
        refine one (fun m v w H h1 h2 => ?_) (fun h => h.elim)
        unfold pm_run at h1; rw [hd] at h1; simp only [hs] at h1; cases h1
      | some out =>
        match out, hs with
        | .inl y, hs =>
          refine one (fun m v w H h1 h2 => ?_) (fun h => pm_wp_nx hd hs ((nxt y).2 h))
          unfold pm_run at h1; rw [hd] at h1; simp only [hs] at h1
          exact (nxt y).1 ⟨m, v, w, H, h1, h2⟩
        | .inr (.inl (b, y)), hs =>
          refine one (fun m v w H h1 h2 => ?_) (fun h => ?_)
          · unfold pm_run at h1; rw [hd] at h1; simp only [hs] at h1
            split at h1
            next hb => exact ⟨hb, (nxt y).1 ⟨m, v, w, H, h1, h2⟩⟩
            next => cases h1
          · obtain ⟨rfl, h⟩ := h
            exact pm_wp_rq hd hs ((nxt y).2 h)
        | .inr (.inr (.inl (b, t, y))), hs =>
          refine one (fun m v w H h1 h2 => ?_) (fun h => ?_)
          · unfold pm_run at h1; rw [hd] at h1; simp only [hs] at h1
            cases b with
            | true => exact ⟨fun _ => ⟨m, v, w, H, h1, h2⟩, fun h => by cases h⟩
            | false => exact ⟨fun h => (by cases h), fun _ => (nxt y).1 ⟨m, v, w, H, h1, h2⟩⟩
          · refine pm_wp_br hd hs ?_
            cases b with
            | true => exact h.1 rfl
            | false => exact (nxt y).2 (h.2 rfl)
        | .inr (.inr (.inr (.inl (v0, cs, df, y)))), hs =>
          refine one (fun m v w H h1 h2 => ?_) (fun h => ?_)
          · unfold pm_run at h1; rw [hd] at h1; simp only [hs] at h1
            exact (pm_swg_iff (A := fun t => pm_wp cd mt d k t y Q) cs).2 ⟨m, v, w, H, h1, h2⟩
          · exact pm_wp_sw hd hs ((pm_swg_iff (A := fun t => pm_wp cd mt d k t y Q) cs).1 h)
        | .inr (.inr (.inr (.inr (.inl (j, as, y))))), hs =>
          refine one (fun m v w H h1 h2 => ?_) (fun h => ?_)
          · unfold pm_run at h1; rw [hd] at h1; simp only [hs] at h1
            cases d with
            | zero => cases h1
            | succ d =>
              simp only at h1 ⊢
              split at h1
              next hb =>
                rw [if_pos hb]
                split at h1
                next => cases h1
                next v1 w1 H1 hc => exact ⟨m, v1, w1, H1, hc, (nxt _).1 ⟨m, v, w, H, h1, h2⟩⟩
              next => cases h1
          · cases d with
            | zero => cases h
            | succ d =>
              simp only at h
              split at h
              next hb => exact pm_wp_ca hd hs hb (pm_wp.mono h fun v w H h => (nxt _).2 h)
              next => cases h
        | .inr (.inr (.inr (.inr (.inr (b, v, w, H))))), hs =>
          refine one (fun m v1 w1 H1 h1 h2 => ?_) (fun h => ?_)
          · unfold pm_run at h1; rw [hd] at h1; simp only [hs] at h1
            split at h1
            next hb => cases h1; exact ⟨hb, h2⟩
            next => cases h1
          · obtain ⟨rfl, h⟩ := h
            exact pm_wp_re hd hs h
end PMB
theorem pm_tt {A : Prop} : (true = true ∧ A) ↔ A := ⟨fun h => h.2, fun h => ⟨rfl, h⟩⟩
theorem pm_brd {p A B : Prop} [Decidable p] : ((decide p = true → A) ∧ (decide p = false → B)) ↔ (if p then A else B) := by
  by_cases h : p <;> simp [h]
theorem pm_brn {p A B : Prop} [Decidable p] : ((decide (¬ p) = true → A) ∧ (decide (¬ p) = false → B)) ↔ (if p then B else A) := by
  by_cases h : p <;> simp [h]
def pm_swi (A : Nat → Prop) (v : Int32) (d : Nat) : List (Int32 × Nat) → Prop
  | [] => A d
  | (u, t) :: r => if v = u then A t else pm_swi A v d r
theorem pm_swi_iff {A : Nat → Prop} {v : Int32} {d : Nat} : ∀ (cs : List (Int32 × Nat)), pm_swg A v d cs ↔ pm_swi A v d cs
  | [] => Iff.rfl
  | (u, t) :: r => by
    unfold pm_swi pm_swg
    by_cases h : v = u <;> simp [h, pm_swi_iff r]
