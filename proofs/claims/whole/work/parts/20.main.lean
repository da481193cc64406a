/-! A RUN OF THE SMALL MACHINE IS A RUN OF THE CLAIM'S. -/
theorem pm_pop_eq : ∀ (n : Nat) (st acc as r : List Value), pm_pop n st acc = some (as, r) → ∃ l, st = l ++ r ∧ l.length = n ∧ as = l.reverse ++ acc
  | 0, st, acc, as, r, h => by
    simp only [pm_pop, Option.some.injEq, Prod.mk.injEq] at h
    exact ⟨[], by simp [h.2], rfl, by simp [h.1]⟩
  | n + 1, [], acc, as, r, h => by simp [pm_pop] at h
  | n + 1, v :: st, acc, as, r, h => by
    obtain ⟨l, h1, h2, h3⟩ := pm_pop_eq n st (v :: acc) as r h
    exact ⟨v :: l, by rw [h1]; rfl, by simp [h2], by rw [h3]; simp⟩
noncomputable def pm_wsl (j : Nat) : List Cond := Cond.code (pm_y j) (pm_by j) (pm_meta j).1 (pm_rt j) :: pm_gw
def pm_Pc (sa : Nat → Value) (base : Nat) (D : va_G) (cs : pm_cs3) (L : Nat) (xs : Nat → Int32) (as : List Value) (H : pm_H) : Array Value → State → Prop := fun av U =>
  av = (as.map (pm_cv (pm_rv sa base))).toArray ∧ base ≤ U.heap.size ∧ U.heap.size ≤ base + (H.1.2.2.1 - 8) ∧ va_P D pm_cl (pm_ws (pm_rv sa base) cs base H) U.heap ∧ va_K D pm_cl (pm_tys cs) U ∧ pm_Stat (fun q => base ≤ q) sa L xs U U.heap
def pm_Qc (sa : Nat → Value) (base : Nat) (D : va_G) (cs : pm_cs3) (rt : Option FieldType) (v : Int32) (w : Int64) (H : pm_H) : Array Value → State → Outcome → State → Prop := fun _ st o t =>
  o = .returned (pm_ov rt v w) ∧ va_P D pm_cl (pm_ws (pm_rv sa base) cs base H) t.heap ∧ va_F (fun q => base ≤ q) st t
def pm_rtc2 (r : Option FieldType) (n : Nat) : Bool :=
  match r, n with
  | none, 0 => true
  | some .long, 2 => true
  | some .long, _ => false
  | some _, 1 => true
  | _, _ => false
theorem pm_meta_c : (List.range 318).all (fun j => Nat.ble (pm_meta j).1 12 && pm_rtc2 (pm_rt j) (pm_meta j).2) = true := by decide +kernel
theorem pm_meta_le : ∀ j, j < 318 → (pm_meta j).1 ≤ 12 ∧ pm_rtc2 (pm_rt j) (pm_meta j).2 = true := by
  intro j hj
  have h := List.all_eq_true.mp pm_meta_c j (List.mem_range.mpr hj)
  simp only [Bool.and_eq_true] at h
  exact ⟨Nat.le_of_ble_eq_true h.1, h.2⟩
section PMM
variable {sa : Nat → Value} {base : Nat} {D : va_G} {cs : pm_cs3} {L : Nat} {xs : Nat → Int32}
theorem pm_Pc_blind (as : List Value) (H : pm_H) : FrameBlind (pm_Pc sa base D cs L xs as H) := by
  intro a U g mk h
  obtain ⟨h1, h2, h3, h4, h5, h6⟩ := h
  exact ⟨h1, h2, h3, h4, va_K.moved (u := U) (U := U.calling g mk a) (Vm.Alike.refl U.vm) h5, h6.warm (U := U.calling g mk a) (State.WarmedH.refl U)⟩
/-- behind a call -/
theorem pm_callK {p : Program} {l : Launch} {e : Env} {R : Room} {s : State} {m : MethodId} {args : Array Value} {below : List Frame} {meth : Method} {c : Code} {Q : State → Prop} {Hp : Heap} {locs : List Loc} {cells slots mc ms pc : Nat} {ls : Array Slot} {st0 rest : List Value} {rt : Option FieldType} {v : Int32} {w : Int64} {H1 : pm_H} {a : Array Value}
    (hr : va_Run p l e R s m args below meth c Hp locs cells slots mc ms (F0 m pc ls st0) rest (pm_Qc sa base D cs rt v w H1 a) (fun q => base ≤ q)) (hS : va_S (fun q => base ≤ q) s.heap Hp locs)
    (kk : ∀ (Hp' : Heap) (locs' : List Loc), va_P D pm_cl (pm_ws (pm_rv sa base) cs base H1) Hp' → va_S (fun q => base ≤ q) s.heap Hp' locs' → W p l e R s m args below meth c Hp' locs' (cells + mc) (slots + ms) Q (F0 m (pc + 3) ls ((pm_ov rt v w).toList ++ rest))) : W p l e R s m args below meth c Hp locs cells slots Q (F0 m pc ls st0) := by
  intro T hT X
  obtain ⟨v', st₀, t, T', L', h0, X', hL, e1, e2, ⟨hv, hP, hF⟩, st⟩ := hr T hT X
  have hv' := Outcome.returned.inj hv
  subst hv'
  obtain ⟨z1, z2⟩ := hF
  rw [h0] at z1 z2
  obtain ⟨t2, a1, b1⟩ := kk T'.heap (locs ++ L') (by rw [e1]; exact hP) ⟨Nat.le_trans hS.1 (by rw [e1]; exact z1), fun q h1 h2 => by rw [e1, z2 q (Nat.lt_of_lt_of_le h1 hS.1) h2]; exact hS.2.1 q h1 h2, fun q hq => by
    rcases List.mem_append.mp hq with h | h
    · exact hS.2.2 q h
    · exact hL q h⟩ T' rfl X'
  exact ⟨t2, st t2 a1, b1⟩
/-- a method's contract out of its body's walk -/
theorem pm_Met (hsa : pm_rvok sa) (l : Launch) {j : Nat} (hj : j < 317) {as : List Value} {H H1 : pm_H} {v : Int32} {w : Int64} {d : Nat} (hlen : (pm_args as).length ≤ (pm_meta j).1) (hf : pm_fix L xs H)
    (body : ∀ {p : Program} {e : Env} {R : Room} {s : State} {m : MethodId} {args : Array Value} {below : List Frame} {meth : Method} {c : Code} {Q : State → Prop}, pm_Ctx p s m args meth c j sa base D cs L xs → (d + 1 ≤ R.frames ∧ 64 * (d + 1) ≤ R.locals) → ∀ {Hp : Heap} {locs : List Loc} {ls : Array Slot} {cells slots : Nat}, pm_At s j sa base D cs L xs (pm_ent (pm_meta j).1 as, [], H) Hp locs ls → s.heap.size + cells ≤ base + (H.1.2.2.1 - 8) →
      cells + (H1.1.2.2.1 - H.1.2.2.1) ≤ R.cells ∧ slots + (H1.1.2.2.2 - H.1.2.2.2) ≤ R.slots → pm_Fi p l e R s m args below meth c Q j sa base D cs (cells + (H1.1.2.2.1 - H.1.2.2.1)) (slots + (H1.1.2.2.2 - H.1.2.2.2)) v w H1 →
      W p l e R s m args below meth c Hp locs cells slots Q (F0 m 0 ls [])) :
    Met l (pm_y j) (pm_wsl j) ⟨d + 1, H1.1.2.2.1 - H.1.2.2.1, H1.1.2.2.2 - H.1.2.2.2, 64 * (d + 1)⟩ (pm_Pc sa base D cs L xs as H) (pm_Qc sa base D cs (pm_rt j) v w H1) (H1.1.2.2.1 - H.1.2.2.1) (H1.1.2.2.2 - H.1.2.2.2) (fun q => base ≤ q) := by
  have hmk := pm_mok_all j (by omega)
  simp only [pm_mok, Bool.and_eq_true, decide_eq_true_eq] at hmk
  refine va_MetF (cc := pm_by j) (maxL := (pm_meta j).1) (ret := pm_rt j) hmk.1.2 rfl ?_
  intro p e s m args below meth c s₁ B hml hv
  obtain ⟨rfl, hb1, hb2, hP, hK, hSt⟩ := hv
  have hts0 : ∀ w ∈ pm_wsl j, w.before _ s = true := atoms_spec (ws := pm_wsl j) B.pre
  have hts : ∀ w ∈ pm_gw, w.before _ s = true := fun w hw => hts0 w (List.mem_cons_of_mem _ hw)
  have hown : s.vm.findClass (pm_y j).cls = some m.cls := findClass_of_methodNamed B.named
  rw [hmk.2] at hown
  have hnm : meth.name = (pm_y j).name := (name_of_methodNamed B.named B.method).1
  have hC : pm_Ctx p s m (as.map (pm_cv (pm_rv sa base))).toArray meth c j sa base D cs L xs := ⟨B.exec, B.bytes, hml, hown, hts, hK, hSt, hnm, hb1, B.returns, B.notSynchronized⟩
  have hl := lv_entry (as.map (pm_cv (pm_rv sa base))) (n := (pm_meta j).1) (by rw [pm_args_len hsa]; exact hlen)
  rw [lg_entry_eq]
  have hentl : (pm_ent (pm_meta j).1 as).length = (pm_meta j).1 := by unfold pm_ent; simp; omega
  refine body hC ⟨Nat.le_refl _, Nat.le_refl _⟩ (cells := 0) (slots := 0) ⟨pm_lsub hl (fun q hq => pm_ll_args hsa as 0 q hq), hentl, hP, va_S.rf, hf⟩ (by omega) ⟨by show 0 + _ ≤ H1.1.2.2.1 - H.1.2.2.1; omega, by show 0 + _ ≤ H1.1.2.2.2 - H.1.2.2.2; omega⟩ ?_
  rw [Nat.zero_add, Nat.zero_add]
  intro pc ins Hp locs ls hdg hret hP1 hS1
  rcases hret with ⟨hr, rfl⟩ | ⟨hr, rfl⟩ | ⟨ty, hr, hty, rfl, hn⟩
  · rw [hr]
    exact W.vret B.exec B.bytes (by rw [B.returns, hr]) (fun t ht hW => ⟨rfl, by rw [ht]; exact hP1, hS1.F ht⟩) hS1.2.2 hdg B.notSynchronized
  · rw [hr]
    exact W.lret (v := w) B.exec B.bytes (by rw [B.returns, hr]) (fun t ht hW => ⟨rfl, by rw [ht]; exact hP1, hS1.F ht⟩) hS1.2.2 hdg B.notSynchronized
  · rw [hr]
    have e1 : pm_ov (some ty) v w = some (.int v) := by cases ty <;> first | rfl | exact absurd rfl hty
    rw [e1]
    exact W.zret (v := v) (ty := ty) B.exec B.bytes (by rw [B.returns, hr]) hn (fun t ht hW => ⟨by rw [e1], by rw [ht]; exact hP1, hS1.F ht⟩) hS1.2.2 hdg B.notSynchronized
end PMM
