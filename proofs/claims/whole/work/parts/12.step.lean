/-! A STEP OF THE SMALL MACHINE IS A STEP OF THE CLAIM'S. -/
def pm_ilen (i : Instr) : Nat :=
  match i with
  | .bipush _ => 2
  | .sipush _ => 3
  | .ldc _ => 2
  | .ldc_w _ => 3
  | .ldc2_w _ => 3
  | .iload _ => 2
  | .lload _ => 2
  | .aload _ => 2
  | .istore _ => 2
  | .lstore _ => 2
  | .astore _ => 2
  | .iinc _ _ => 3
  | .ifCond _ _ => 3
  | .if_icmp _ _ => 3
  | .goto _ => 3
  | .ifnull _ => 3
  | .ifnonnull _ => 3
  | .getfield _ => 3
  | .putfield _ => 3
  | .getstatic _ => 3
  | .invokevirtual _ => 3
  | .invokespecial _ => 3
  | .invokestatic _ => 3
  | .new _ => 3
  | .newarray _ => 2
  | _ => 1
def pm_lnc (en : pm_E) : Bool :=
  match en.2.1 with
  | .tableswitch _ _ _ _ => true
  | .lookupswitch _ _ => true
  | i => Nat.beq en.2.2.1 (pm_ilen i)
def pm_oH : pm_out → pm_H
  | .inl y => y.2.2
  | .inr (.inl (_, y)) => y.2.2
  | .inr (.inr (.inl (_, _, y))) => y.2.2
  | .inr (.inr (.inr (.inl (_, _, _, y)))) => y.2.2
  | .inr (.inr (.inr (.inr (.inl (_, _, y))))) => y.2.2
  | .inr (.inr (.inr (.inr (.inr (_, _, _, H))))) => H
def pm_ov (r : Option FieldType) (v : Int32) (w : Int64) : Option Value :=
  match r with
  | none => none
  | some .long => some (.long w)
  | some _ => some (.int v)
section PMS
variable {p : Program} {l : Launch} {e : Env} {R : Room} {s : State} {m : MethodId} {args : Array Value} {below : List Frame} {meth : Method} {c : Code} {Q : State → Prop}
variable {k : Nat} {sa : Nat → Value} {base : Nat} {D : va_G} {cs : pm_cs3} {L : Nat} {xs : Nat → Int32}
def pm_Ct (p : Program) (l : Launch) (e : Env) (R : Room) (s : State) (m : MethodId) (args : Array Value) (below : List Frame) (meth : Method) (c : Code) (Q : State → Prop) (k : Nat) (sa : Nat → Value) (base : Nat) (D : va_G) (cs : pm_cs3) (L : Nat) (xs : Nat → Int32) (x : pm_C) (cells slots pc : Nat) (y : pm_C) : Prop :=
  ∀ (Hp : Heap) (locs : List Loc) (ls : Array Slot), pm_At s k sa base D cs L xs y Hp locs ls → W p l e R s m args below meth c Hp locs (cells + (y.2.2.1.2.2.1 - x.2.2.1.2.2.1)) (slots + (y.2.2.1.2.2.2 - x.2.2.1.2.2.2)) Q (F0 m pc ls (y.2.1.map (pm_cv (pm_rv sa base))))
def pm_Fi (p : Program) (l : Launch) (e : Env) (R : Room) (s : State) (m : MethodId) (args : Array Value) (below : List Frame) (meth : Method) (c : Code) (Q : State → Prop) (k : Nat) (sa : Nat → Value) (base : Nat) (D : va_G) (cs : pm_cs3) (cells slots : Nat) (v : Int32) (w : Int64) (H : pm_H) : Prop :=
  ∀ (pc : Nat) (ins : Instr) (Hp : Heap) (locs : List Loc) (ls : Array Slot), decode (pm_by k) pc = .ok (ins, 1) →
    ((pm_rt k = none ∧ ins = .return_) ∨ (pm_rt k = some .long ∧ ins = .lreturn) ∨ (∃ ty, pm_rt k = some ty ∧ ty ≠ .long ∧ ins = .ireturn ∧ narrow ty (.int v) = .int v)) →
    va_P D pm_cl (pm_ws (pm_rv sa base) cs base H) Hp → va_S (fun q => base ≤ q) s.heap Hp locs →
    W p l e R s m args below meth c Hp locs cells slots Q (F0 m pc ls (pm_ov (pm_rt k) v w).toList)
def pm_K (p : Program) (l : Launch) (e : Env) (R : Room) (s : State) (m : MethodId) (args : Array Value) (below : List Frame) (meth : Method) (c : Code) (Q : State → Prop) (k : Nat) (sa : Nat → Value) (base : Nat) (D : va_G) (cs : pm_cs3) (L : Nat) (xs : Nat → Int32) (x : pm_C) (cells slots nxt : Nat) : pm_out → Prop
  | .inl y => pm_Ct p l e R s m args below meth c Q k sa base D cs L xs x cells slots nxt y
  | .inr (.inl (b, y)) => b = true ∧ pm_Ct p l e R s m args below meth c Q k sa base D cs L xs x cells slots nxt y
  | .inr (.inr (.inl (b, t, y))) => pm_Ct p l e R s m args below meth c Q k sa base D cs L xs x cells slots (if b then t else nxt) y
  | .inr (.inr (.inr (.inl (v, cs', df, y)))) => pm_Ct p l e R s m args below meth c Q k sa base D cs L xs x cells slots (pm_sel v df cs') y
  | .inr (.inr (.inr (.inr (.inl _)))) => False
  | .inr (.inr (.inr (.inr (.inr (b, v, w, H))))) => b = true ∧ pm_Fi p l e R s m args below meth c Q k sa base D cs cells slots v w H
theorem pm_Ct.at {x y : pm_C} {cells slots pc : Nat} {Hp : Heap} {locs : List Loc} {ls : Array Slot} (K : pm_Ct p l e R s m args below meth c Q k sa base D cs L xs x cells slots pc y) (hG : y.2.2.1 = x.2.2.1) (hAt : pm_At s k sa base D cs L xs y Hp locs ls) : W p l e R s m args below meth c Hp locs cells slots Q (F0 m pc ls (y.2.1.map (pm_cv (pm_rv sa base)))) := by
  have h := K Hp locs ls hAt
  rw [hG] at h
  simpa using h
theorem pm_Ct.st {lo st st' : List Value} {H : pm_H} {cells slots pc : Nat} {Hp : Heap} {locs : List Loc} {ls : Array Slot} (K : pm_Ct p l e R s m args below meth c Q k sa base D cs L xs (lo, st, H) cells slots pc (lo, st', H)) (hAt : pm_At s k sa base D cs L xs (lo, st, H) Hp locs ls) : W p l e R s m args below meth c Hp locs cells slots Q (F0 m pc ls (st'.map (pm_cv (pm_rv sa base)))) :=
  K.at rfl hAt
theorem pm_Ct.ls {lo lo' st st' : List Value} {H : pm_H} {cells slots pc : Nat} {Hp : Heap} {locs : List Loc} {ls ls' : Array Slot} (K : pm_Ct p l e R s m args below meth c Q k sa base D cs L xs (lo, st, H) cells slots pc (lo', st', H)) (hAt : pm_At s k sa base D cs L xs (lo, st, H) Hp locs ls) (hl : lv_has ls' (pm_meta k).1 (pm_ll (pm_rv sa base) 0 lo')) (hn : lo'.length = lo.length) : W p l e R s m args below meth c Hp locs cells slots Q (F0 m pc ls' (st'.map (pm_cv (pm_rv sa base)))) :=
  K.at rfl ⟨hl, hn.trans hAt.2.1, hAt.2.2⟩
/-- the heap has changed, its numbers haven't -/
theorem pm_Ct.hp {lo st st' : List Value} {G : pm_G} {d d' : (Nat → Nat → Int32) × (Nat → Nat → Int64)} {G' : pm_G} {cells slots pc : Nat} {Hp Hp' : Heap} {locs locs' : List Loc} {ls : Array Slot} (K : pm_Ct p l e R s m args below meth c Q k sa base D cs L xs (lo, st, G, d) cells slots pc (lo, st', G', d')) (hAt : pm_At s k sa base D cs L xs (lo, st, G, d) Hp locs ls) (hG : G'.2.2 = G.2.2)
    (hP : va_P D pm_cl (pm_ws (pm_rv sa base) cs base (G', d')) Hp') (hS : va_S (fun q => base ≤ q) s.heap Hp' locs') (hf : pm_fix L xs (G', d')) : W p l e R s m args below meth c Hp' locs' cells slots Q (F0 m pc ls (st'.map (pm_cv (pm_rv sa base)))) := by
  have h := K Hp' locs' ls ⟨hAt.1, hAt.2.1, hP, hS, hf⟩
  have e1 : cells + (G'.2.2.1 - G.2.2.1) = cells := by rw [hG]; omega
  have e2 : slots + (G'.2.2.2 - G.2.2.2) = slots := by rw [hG]; omega
  rw [e1, e2] at h
  exact h
theorem pm_okr_ref {U : State} {Hx : Heap} {A : Nat → Prop} (hSt : pm_Stat A sa L xs U Hx) {v : Nat} (h : pm_okr v = true) : ∃ t, pm_rv sa base v = .ref t := by
  by_cases h8 : 8 ≤ v
  · exact ⟨_, pm_rv_hi h8⟩
  · rw [pm_rv_lo (by omega)]
    simp only [pm_okr, Bool.or_eq_true, Bool.and_eq_true] at h
    have hv : 1 ≤ v ∧ v ≤ 6 := by
      rcases h with h | ⟨h, g⟩
      · exact absurd (Nat.le_of_ble_eq_true h) h8
      · exact ⟨Nat.le_of_ble_eq_true h, Nat.le_of_ble_eq_true g⟩
    obtain ⟨h1, ⟨q, u, g1, g2, -⟩, -⟩ := hSt
    by_cases h4 : v ≤ 4
    · obtain ⟨t, ht, -⟩ := h1 v hv.1 h4
      exact ⟨t, ht⟩
    · rcases (by omega : v = 5 ∨ v = 6) with rfl | rfl
      · exact ⟨q, g1⟩
      · exact ⟨u, g2⟩
/-- a cell of a kind that is there: it is one of the start's, or lies behind them below the next number -/
theorem pm_fix.lt {H : pm_H} (hf : pm_fix L xs H) {i : Nat} (h : (H.1.1 i).1 ≠ 9) : i < H.1.2.2.1 := by
  rcases Nat.lt_or_ge i H.1.2.2.1 with q | q
  · exact q
  · exact absurd (hf.2.2.2.2.1 i q) h
theorem pm_is_eq {t : Nat × Nat} {a b : Nat} (h : pm_is t a b = true) : t = (a, b) := by
  simp only [pm_is, Bool.and_eq_true] at h
  obtain ⟨t1, t2⟩ := t
  rw [show t1 = a from Nat.eq_of_beq_eq_true h.1, show t2 = b from Nat.eq_of_beq_eq_true h.2]
theorem pm_Wsize {Hp : Heap} {locs : List Loc} {cells slots : Nat} {g : JFrame} (h : Hp.size ≤ s.heap.size + cells → W p l e R s m args below meth c Hp locs cells slots Q g) : W p l e R s m args below meth c Hp locs cells slots Q g :=
  fun T hT X => h (by rw [← hT]; exact X.heapSize) T hT X
end PMS
