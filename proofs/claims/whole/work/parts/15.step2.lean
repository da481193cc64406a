/-! EACH STEP: the cases. -/
section PMV
variable {p : Program} {l : Launch} {e : Env} {R : Room} {s : State} {m : MethodId} {args : Array Value} {below : List Frame} {meth : Method} {c : Code} {Q : State → Prop}
variable {k : Nat} {sa : Nat → Value} {base : Nat} {D : va_G} {cs : pm_cs3} {L : Nat} {xs : Nat → Int32}
/-- a cell's place in the world -/
theorem pm_AtArr {H : pm_H} (hf : pm_fix L xs H) {a t : Nat} (h8 : 8 ≤ a) (hT : (H.1.1 a).1 = t) (h9 : t ≠ 9) (base : Nat) (rv : Nat → Value) (cs : pm_cs3) : (pm_ws rv cs base H)[a - 8]? = some (base + (a - 8), pm_cell rv cs H a) :=
  pm_ws_get rv cs base H h8 (hf.lt (by rw [hT]; exact h9))
/-- an array of ints or bytes is written: the world behind it -/
theorem pm_set_arr {rv : Nat → Value} {H : pm_H} {a i : Nat} {v : Int32} {q : Nat} (h8 : 8 ≤ a) (hT : (H.1.1 a).1 = 1 ∨ (H.1.1 a).1 = 2) {cA : ClassId} (hcell : pm_cell rv cs H a = .inl (cA, (H.1.1 a).2, .inl (H.2.1 a))) :
    (pm_ws rv cs q H).set (a - 8) (q + (a - 8), .inl (cA, (H.1.1 a).2, .inl (upd (H.2.1 a) i v))) = pm_ws rv cs q (H.1, pm_u H.2.1 a i v, H.2.2) := by
  refine pm_ws_set h8 rfl ?_ (fun j hj => pm_cell_congr rfl (pm_u_ne hj) rfl rfl)
  rw [← pm_u_arr]
  unfold pm_cell at hcell ⊢
  rcases hT with hT | hT
  · simp only [hT] at hcell ⊢
    cases hcell
    rfl
  · simp only [hT] at hcell ⊢
    cases hcell
    rfl
theorem pm_fix.upI {H : pm_H} (hf : pm_fix L xs H) {a i : Nat} {v : Int32} (h8 : 8 ≤ a) : pm_fix L xs (H.1, pm_u H.2.1 a i v, H.2.2) :=
  ⟨hf.1, fun j hj n => by show pm_u H.2.1 a i v j n = _; rw [pm_u_ne (by omega)]; exact hf.2.1 j hj n, hf.2.2.1, hf.2.2.2.1, hf.2.2.2.2.1, hf.2.2.2.2.2⟩
theorem pm_fix.upJ {H : pm_H} (hf : pm_fix L xs H) {J : Nat → Nat → Int64} : pm_fix L xs (H.1, H.2.1, J) := ⟨hf.1, hf.2.1, hf.2.2.1, hf.2.2.2.1, hf.2.2.2.2.1, hf.2.2.2.2.2⟩
theorem pm_fix.upO {H : pm_H} (hf : pm_fix L xs H) {a i v : Nat} (h8 : 8 ≤ a) : pm_fix L xs ((H.1.1, pm_u H.1.2.1 a i v, H.1.2.2), H.2) :=
  ⟨hf.1, hf.2.1, fun j hj n => by show pm_u H.1.2.1 a i v j n = _; rw [pm_u_ne (by omega)]; exact hf.2.2.1 j hj n, hf.2.2.2.1, hf.2.2.2.2.1, hf.2.2.2.2.2⟩
theorem pm_fix.upC {H : pm_H} (hf : pm_fix L xs H) {a u b v n : Nat} (h8 : 8 ≤ b) : pm_fix L xs (H.1, pm_cp H.2.1 a u b v n, H.2.2) :=
  ⟨hf.1, fun j hj n2 => by show pm_cp H.2.1 a u b v n j n2 = _; rw [pm_cp_ne (by omega)]; exact hf.2.1 j hj n2, hf.2.2.1, hf.2.2.2.1, hf.2.2.2.2.1, hf.2.2.2.2.2⟩
theorem pm_fix.mk {lo st r : List Value} {H : pm_H} (hf : pm_fix L xs H) {v : Nat × Nat} {n : Nat} (hv : v.1 = 0 → v.2 < 12) : pm_fix L xs (pm_mk (lo, st, H) r v n).2.2 := by
  have h8 := hf.2.2.2.1
  refine ⟨fun i hi => ?_, fun i hi j => ?_, fun i hi j => ?_, ?_, fun i hi => ?_, fun i hi h => ?_⟩
  · show pm_t H.1.1 H.1.2.2.1 v i = _
    rw [pm_t_ne (by omega)]; exact hf.1 i hi
  · show pm_z H.2.1 H.1.2.2.1 0 i j = _
    rw [pm_z_ne (by omega)]; exact hf.2.1 i hi j
  · show pm_z H.1.2.1 H.1.2.2.1 0 i j = _
    rw [pm_z_ne (by omega)]; exact hf.2.2.1 i hi j
  · show 8 ≤ H.1.2.2.1 + 1
    omega
  · have hi : H.1.2.2.1 + 1 ≤ i := hi
    show (pm_t H.1.1 H.1.2.2.1 v i).1 = 9
    rw [pm_t_ne (by omega)]; exact hf.2.2.2.2.1 i (by omega)
  · have h : (pm_t H.1.1 H.1.2.2.1 v i).1 = 0 := h
    show (pm_t H.1.1 H.1.2.2.1 v i).2 < 12
    by_cases hn : i = H.1.2.2.1
    · subst hn
      rw [pm_t_eq] at h ⊢
      exact hv h
    · rw [pm_t_ne hn] at h ⊢
      exact hf.2.2.2.2.2 i hi h
/-- where a new cell lies -/
theorem pm_new_at {H : pm_H} {q : Nat} {e1 : va_E} (hlt : q ≤ base + (H.1.2.2.1 - 8)) (hD : va_D (fun q => base ≤ q) (pm_ws (pm_rv sa base) cs base H ++ [(q, e1)])) : q = base + (H.1.2.2.1 - 8) := by
  have hq : base ≤ q := hD.2 (H.1.2.2.1 - 8) (q, e1) (by rw [List.getElem?_append_right (by rw [pm_ws_len]; exact Nat.le_refl _), pm_ws_len, Nat.sub_self]; rfl)
  rcases Nat.lt_or_ge q (base + (H.1.2.2.1 - 8)) with h | h
  · exfalso
    have hk : q - base < H.1.2.2.1 - 8 := by omega
    have g := pm_ws_get (pm_rv sa base) cs base H (i := 8 + (q - base)) (by omega) (by omega)
    rw [show 8 + (q - base) - 8 = q - base by omega] at g
    have := hD.1 (q - base) (H.1.2.2.1 - 8) (base + (q - base), pm_cell (pm_rv sa base) cs H (8 + (q - base))) (q, e1) (by rw [List.getElem?_append_left (by rw [pm_ws_len]; exact hk)]; exact g) (by rw [List.getElem?_append_right (by rw [pm_ws_len]; exact Nat.le_refl _), pm_ws_len, Nat.sub_self]; rfl) (by show base + (q - base) = q; omega)
    omega
  · omega
end PMV
