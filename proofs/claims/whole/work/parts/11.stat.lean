/-! WHAT STANDS THROUGHOUT: the cells that were there at the start and nobody writes, and the words on nest mates. -/
def pm_isN : Cond → Bool
  | .fieldLinkNest .. => true
  | .methodLinkNest .. => true
  | _ => false
def pm_Stat (A : Nat → Prop) (sa : Nat → Value) (L : Nat) (xs : Nat → Int32) (U : State) (Hx : Heap) : Prop :=
  (∀ i, 1 ≤ i → i ≤ 4 → ∃ t, sa i = .ref t ∧ va_T .int t (pm_TS L i).2 (fun j => .int (pm_IS xs i j)) A U Hx) ∧
  (∃ q v, sa 5 = .ref q ∧ sa 6 = .ref v ∧ va_O "java/lang/String" q A U Hx ∧ va_OF "java/lang/String" "coder" "B" (.int 0) q A U Hx ∧ va_OF "java/lang/String" "value" "[B" (.ref v) q A U Hx ∧ va_T .byte v 115 (fun j => .int (pm_IS xs 6 j)) A U Hx ∧ vk_R "FallenHouses$Text" 86 pm_text q U) ∧
  (va_Z "FallenHouses" "ITSELF_AND_ABOVE" "[I" (sa 2) A U Hx ∧ va_Z "FallenHouses$Land" "HOURS" "[I" (sa 3) A U Hx ∧ va_Z "FallenHouses$Host" "BODIES" "[I" (sa 4) A U Hx ∧ va_Z "java/lang/String" "COMPACT_STRINGS" "Z" (.int 1) A U Hx ∧ va_Z "jdk/internal/util/Preconditions" "SIOOBE_FORMATTER" "Ljava/util/function/BiFunction;" (sa 7) A U Hx) ∧
  ∀ w ∈ lw_tbl, pm_isN w = true → va_Nw w U
theorem pm_Stat.kept {A : Nat → Prop} {sa : Nat → Value} {L : Nat} {xs : Nat → Int32} {U : State} {H H1 : Heap} (h : pm_Stat A sa L xs U H) (hq : ∀ a : Nat, a < H.size → ¬ A a → H1[a]? = H[a]?) : pm_Stat A sa L xs U H1 := by
  obtain ⟨h1, ⟨q, v, g1, g2, g3, g4, g5, g6, g7⟩, ⟨z1, z2, z3, z4, z5⟩, h4⟩ := h
  refine ⟨fun i a b => ?_, ⟨q, v, g1, g2, g3.kept hq, g4.kept hq, g5.kept hq, g6.kept hq, g7⟩, ⟨z1.kept hq, z2.kept hq, z3.kept hq, z4.kept hq, z5.kept hq⟩, h4⟩
  obtain ⟨t, e, k⟩ := h1 i a b
  exact ⟨t, e, k.kept hq⟩
theorem pm_Stat.warm {A : Nat → Prop} {sa : Nat → Value} {L : Nat} {xs : Nat → Int32} {s U : State} {H : Heap} (hW : s.WarmedH U.vm) (h : pm_Stat A sa L xs s H) : pm_Stat A sa L xs U H := by
  have hvm := hW.alike
  obtain ⟨h1, ⟨q, v, g1, g2, g3, g4, g5, g6, g7⟩, ⟨z1, z2, z3, z4, z5⟩, h4⟩ := h
  refine ⟨fun i a b => ?_, ⟨q, v, g1, g2, va_O.moved hvm g3, va_OF.moved hvm g4, va_OF.moved hvm g5, va_T.moved hvm g6, vk_R.warm hW g7⟩, ⟨va_Z.moved hvm z1, va_Z.moved hvm z2, va_Z.moved hvm z3, va_Z.moved hvm z4, va_Z.moved hvm z5⟩, fun w hw hn => ?_⟩
  · obtain ⟨t, e, k⟩ := h1 i a b
    exact ⟨t, e, va_T.moved hvm k⟩
  · have := h4 w hw hn
    cases w <;> first | exact va_Nw.warmF hW this | exact va_Nw.warmM hW this | (simp [pm_isN] at hn)
/-- a method's frame, whichever: the machine, the code, the tables' words, the classes, what stands throughout -/
def pm_Ctx (p : Program) (s : State) (m : MethodId) (args : Array Value) (meth : Method) (c : Code) (k : Nat) (sa : Nat → Value) (base : Nat) (D : va_G) (cs : pm_cs3) (L : Nat) (xs : Nat → Int32) : Prop :=
  p.tables.exec = Jvm.exec ∧ c.code = pm_by k ∧ c.maxLocals = (pm_meta k).1 ∧ s.vm.findClass (pm_on (pm_ow k)) = some m.cls ∧ (∀ w ∈ pm_gw, w.before args s = true) ∧ va_K D pm_cl (pm_tys cs) s ∧ pm_Stat (fun q => base ≤ q) sa L xs s s.heap ∧ meth.name = (pm_y k).name ∧ base ≤ s.heap.size ∧ meth.sig.returnType = pm_rt k ∧ meth.locks = false
/-- the machine's heap and locals hold a small state -/
def pm_At (s : State) (k : Nat) (sa : Nat → Value) (base : Nat) (D : va_G) (cs : pm_cs3) (L : Nat) (xs : Nat → Int32) (x : pm_C) (Hp : Heap) (locs : List Loc) (ls : Array Slot) : Prop :=
  lv_has ls (pm_meta k).1 (pm_ll (pm_rv sa base) 0 x.1) ∧ x.1.length = (pm_meta k).1 ∧ va_P D pm_cl (pm_ws (pm_rv sa base) cs base x.2.2) Hp ∧ va_S (fun q => base ≤ q) s.heap Hp locs ∧ pm_fix L xs x.2.2
