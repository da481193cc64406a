/-! CALLS WITHIN A WALK: pm_gw2 goes on behind a call; a call that is told is an iff. -/
def pm_gw2 (cd : Nat → List pm_E) (mt : Nat → Nat × Nat) (sp : List Nat) (d k : Nat) (Q : Int32 → Int64 → pm_H → Prop) : Nat → List pm_E → pm_C → Prop
  | 0, _, _ => False
  | _ + 1, [], _ => False
  | n + 1, en :: rest, x =>
    match pm_step en x with
    | none => False
    | some (.inl y) => match rest with
      | [] => False
      | e2 :: _ => if pm_has e2.1 sp then pm_wp cd mt d k e2.1 y Q else pm_gw2 cd mt sp d k Q n rest y
    | some (.inr (.inl (b, y))) => b = true ∧ match rest with
      | [] => False
      | e2 :: _ => if pm_has e2.1 sp then pm_wp cd mt d k e2.1 y Q else pm_gw2 cd mt sp d k Q n rest y
    | some (.inr (.inr (.inl (b, t, y)))) =>
      (b = true → if pm_has t sp then pm_wp cd mt d k t y Q else pm_gw2 cd mt sp d k Q n (pm_drop t (cd k)) y) ∧
      (b = false → match rest with
        | [] => False
        | e2 :: _ => if pm_has e2.1 sp then pm_wp cd mt d k e2.1 y Q else pm_gw2 cd mt sp d k Q n rest y)
    | some (.inr (.inr (.inr (.inl (v, cs, df, y))))) =>
      pm_swg (fun t => if pm_has t sp then pm_wp cd mt d k t y Q else pm_gw2 cd mt sp d k Q n (pm_drop t (cd k)) y) v df cs
    | some (.inr (.inr (.inr (.inr (.inl (j, as, y)))))) => match d with
      | 0 => False
      | d' + 1 => if Nat.ble (pm_args as).length (mt j).1 then pm_wc cd mt d' j as y.2.2 (fun v w H => match rest with
        | [] => False
        | e2 :: _ => if pm_has e2.1 sp then pm_wp cd mt (d' + 1) k e2.1 (y.1, pm_push (mt j).2 v w y.2.1, H) Q else pm_gw2 cd mt sp (d' + 1) k Q n rest (y.1, pm_push (mt j).2 v w y.2.1, H)) else False
    | some (.inr (.inr (.inr (.inr (.inr (b, v, w, H)))))) => b = true ∧ Q v w H
section PMX
variable {cd : Nat → List pm_E} {mt : Nat → Nat × Nat}
theorem pm_gw2_sound {sp : List Nat} {d k : Nat} {Q : Int32 → Int64 → pm_H → Prop} (hch : pm_chain (cd k) = true) : ∀ (n pc : Nat) (x : pm_C), pm_gw2 cd mt sp d k Q n (pm_drop pc (cd k)) x → pm_wp cd mt d k pc x Q := by
  intro n
  induction n with
  | zero => intro pc x h; simp [pm_gw2] at h
  | succ n ih =>
    intro pc x h
    cases hd : pm_drop pc (cd k) with
    | nil => rw [hd] at h; simp [pm_gw2] at h
    | cons en rest =>
      rw [hd] at h
      have nxt : ∀ y, (match rest with
          | [] => False
          | e2 :: _ => if pm_has e2.1 sp then pm_wp cd mt d k e2.1 y Q else pm_gw2 cd mt sp d k Q n rest y) → pm_wp cd mt d k (en.1 + en.2.2.1) y Q := by
        intro y h
        cases rest with
        | nil => cases h
        | cons e2 r2 =>
          obtain ⟨g1, g2⟩ := pm_drop_next _ _ _ _ _ hch hd
          rw [g1]
          simp only at h
          split at h
          · exact h
          · exact ih _ _ (by rw [g2]; exact h)
      have jmp : ∀ t y, (if pm_has t sp then pm_wp cd mt d k t y Q else pm_gw2 cd mt sp d k Q n (pm_drop t (cd k)) y) → pm_wp cd mt d k t y Q := by
        intro t y h
        split at h
        · exact h
        · exact ih _ _ h
      unfold pm_gw2 at h
      split at h
      next => cases h
      next y hs => exact pm_wp_nx hd hs (nxt y h)
      next b y hs =>
        obtain ⟨rfl, h⟩ := h
        exact pm_wp_rq hd hs (nxt y h)
      next b t y hs =>
        refine pm_wp_br hd hs ?_
        cases b with
        | true => exact jmp t y (h.1 rfl)
        | false => exact nxt y (h.2 rfl)
      next v cs df y hs => exact pm_wp_sw hd hs (jmp _ y (pm_swg_sel (A := fun t => if pm_has t sp then pm_wp cd mt d k t y Q else pm_gw2 cd mt sp d k Q n (pm_drop t (cd k)) y) cs h))
      next j as y hs =>
        cases d with
        | zero => cases h
        | succ d =>
          simp only at h
          split at h
          next hb =>
            refine pm_wp_ca hd hs hb (pm_wp.mono h fun v w H h => ?_)
            exact nxt _ h
          next => cases h
      next b v w H hs =>
        obtain ⟨rfl, h⟩ := h
        exact pm_wp_re hd hs h
theorem pm_wc_iff {d k : Nat} {as : List Value} {H H' : pm_H} {v : Int32} {w : Int64} (h : ∀ Q : Int32 → Int64 → pm_H → Prop, Q v w H' → pm_wc cd mt d k as H Q) (Q : Int32 → Int64 → pm_H → Prop) : pm_wc cd mt d k as H Q ↔ Q v w H' := by
  refine ⟨fun g => ?_, h Q⟩
  obtain ⟨n, v1, w1, H1, h1, h2⟩ := g
  obtain ⟨m, v2, w2, H2, h3, rfl, rfl, rfl⟩ := h (fun a b c => a = v ∧ b = w ∧ c = H') ⟨rfl, rfl, rfl⟩
  have e1 := pm_run_mono n (max n m) _ _ _ _ _ (Nat.le_max_left _ _) h1
  have e2 := pm_run_mono m (max n m) _ _ _ _ _ (Nat.le_max_right _ _) h3
  rw [e1] at e2
  cases e2
  exact h2
end PMX
