/-! A SMALL MACHINE: a method's bytecode over numbered cells. A state is (locals, stack, heap); a heap is ((kinds of cells, references, the next number, the slots made), ints, longs). A reference is a number, 0 is null; a local that is not set is a retAddr. -/
abbrev pm_G : Type := (Nat → Nat × Nat) × (Nat → Nat → Nat) × Nat × Nat
abbrev pm_H : Type := pm_G × (Nat → Nat → Int32) × (Nat → Nat → Int64)
abbrev pm_C : Type := List Value × List Value × pm_H
abbrev pm_E : Type := Nat × Instr × Nat × Nat × Nat × Int
abbrev pm_out : Type := pm_C ⊕ (Bool × pm_C) ⊕ (Bool × Nat × pm_C) ⊕ (Int32 × List (Int32 × Nat) × Nat × pm_C) ⊕ (Nat × List Value × pm_C) ⊕ (Bool × Int32 × Int64 × pm_H)
/-- the instructions of a code follow one another -/
def pm_chain : List pm_E → Bool
  | [] => true
  | e :: r => Nat.ble 1 e.2.2.1 && (match r with
    | [] => true
    | e2 :: _ => Nat.beq (e.1 + e.2.2.1) e2.1) && pm_chain r
