/-! A WALK FOR simp: what is behind a step is looked at only when the step is known. -/
def pm_at2 (sp : List Nat) (W : Nat → pm_C → Prop) (K : List pm_E → pm_C → Prop) (rest : List pm_E) (y : pm_C) : Prop :=
  match rest with
  | [] => False
  | e2 :: _ => if pm_has e2.1 sp then W e2.1 y else K rest y
def pm_aft (cd : Nat → List pm_E) (mt : Nat → Nat × Nat) (sp : List Nat) (d k : Nat) (Q : Int32 → Int64 → pm_H → Prop) (W : Nat → pm_C → Prop) (K : List pm_E → pm_C → Prop) (rest : List pm_E) : Option pm_out → Prop
  | none => False
  | some (.inl y) => pm_at2 sp W K rest y
  | some (.inr (.inl (b, y))) => b = true ∧ pm_at2 sp W K rest y
  | some (.inr (.inr (.inl (b, t, y)))) => (b = true → if pm_has t sp then W t y else K (pm_drop t (cd k)) y) ∧ (b = false → pm_at2 sp W K rest y)
  | some (.inr (.inr (.inr (.inl (v, cs, df, y))))) => pm_swg (fun t => if pm_has t sp then W t y else K (pm_drop t (cd k)) y) v df cs
  | some (.inr (.inr (.inr (.inr (.inl (j, as, y)))))) => match d with
    | 0 => False
    | d' + 1 => if Nat.ble (pm_args as).length (mt j).1 then pm_wc cd mt d' j as y.2.2 (fun v w H => pm_at2 sp W K rest (y.1, pm_push (mt j).2 v w y.2.1, H)) else False
  | some (.inr (.inr (.inr (.inr (.inr (b, v, w, H)))))) => b = true ∧ Q v w H
def pm_gw3 (cd : Nat → List pm_E) (mt : Nat → Nat × Nat) (sp : List Nat) (d k : Nat) (Q : Int32 → Int64 → pm_H → Prop) : Nat → List pm_E → pm_C → Prop
  | 0, _, _ => False
  | _ + 1, [], _ => False
  | n + 1, en :: rest, x => pm_aft cd mt sp d k Q (fun t y => pm_wp cd mt d k t y Q) (fun l y => pm_gw3 cd mt sp d k Q n l y) rest (pm_step en x)
section PMX3
variable {cd : Nat → List pm_E} {mt : Nat → Nat × Nat}
theorem pm_gw3_sound {sp : List Nat} {d k : Nat} {Q : Int32 → Int64 → pm_H → Prop} (hch : pm_chain (cd k) = true) : ∀ (n pc : Nat) (x : pm_C), pm_gw3 cd mt sp d k Q n (pm_drop pc (cd k)) x → pm_wp cd mt d k pc x Q := by
  intro n
  induction n with
  | zero => intro pc x h; simp [pm_gw3] at h
  | succ n ih =>
    intro pc x h
    cases hd : pm_drop pc (cd k) with
    | nil => rw [hd] at h; simp [pm_gw3] at h
    | cons en rest =>
      rw [hd] at h
      have nxt : ∀ y, pm_at2 sp (fun t y => pm_wp cd mt d k t y Q) (fun l y => pm_gw3 cd mt sp d k Q n l y) rest y → pm_wp cd mt d k (en.1 + en.2.2.1) y Q := by
        intro y h
        cases rest with
        | nil => cases h
        | cons e2 r2 =>
          obtain ⟨g1, g2⟩ := pm_drop_next _ _ _ _ _ hch hd
          rw [g1]
          simp only [pm_at2] at h
          split at h
          · exact h
          · exact ih _ _ (by rw [g2]; exact h)
      have jmp : ∀ t y, (if pm_has t sp then pm_wp cd mt d k t y Q else pm_gw3 cd mt sp d k Q n (pm_drop t (cd k)) y) → pm_wp cd mt d k t y Q := by
        intro t y h
        split at h
        · exact h
        · exact ih _ _ h
      unfold pm_gw3 at h
      cases hs : pm_step en x with
      | none => rw [hs] at h; cases h
      | some out =>
        rw [hs] at h
        match out, hs, h with
        | .inl y, hs, h => exact pm_wp_nx hd hs (nxt y h)
        | .inr (.inl (b, y)), hs, h =>
          obtain ⟨rfl, h⟩ := h
          exact pm_wp_rq hd hs (nxt y h)
        | .inr (.inr (.inl (b, t, y))), hs, h =>
          refine pm_wp_br hd hs ?_
          cases b with
          | true => exact jmp t y (h.1 rfl)
          | false => exact nxt y (h.2 rfl)
        | .inr (.inr (.inr (.inl (v, cs, df, y)))), hs, h =>
          exact pm_wp_sw hd hs (jmp _ y (pm_swg_sel (A := fun t => if pm_has t sp then pm_wp cd mt d k t y Q else pm_gw3 cd mt sp d k Q n (pm_drop t (cd k)) y) cs h))
        | .inr (.inr (.inr (.inr (.inl (j, as, y))))), hs, h =>
          cases d with
          | zero => cases h
          | succ d =>
            simp only [pm_aft] at h
            split at h
            next hb =>
              refine pm_wp_ca hd hs hb (pm_wp.mono h fun v w H h => ?_)
              exact nxt _ h
            next => cases h
        | .inr (.inr (.inr (.inr (.inr (b, v, w, H))))), hs, h =>
          obtain ⟨rfl, h⟩ := h
          exact pm_wp_re hd hs h
end PMX3
