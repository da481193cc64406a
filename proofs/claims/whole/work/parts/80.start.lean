/-! THE START'S CELLS, out of what the Statement gives. -/
def pm_fl (args : Array Value) (s : State) : Prop := (Jvm.Cond.and given_1 narrow_1).before args s = true
theorem pm_al {a b : Cond} {args : Array Value} {s : State} (h : (Cond.and a b).before args s = true) : a.before args s = true := by
  rw [Cond.before_and, Bool.and_eq_true] at h
  exact h.1
theorem pm_ar {a b : Cond} {args : Array Value} {s : State} (h : (Cond.and a b).before args s = true) : b.before args s = true := by
  rw [Cond.before_and, Bool.and_eq_true] at h
  exact h.2
theorem pm_fm_5 {args : Array Value} {s : State} (h : pm_fl args s) : (Jvm.Cond.arrayOf (Jvm.Term.static "FallenHouses" "ITSELF_AND_ABOVE" "[I") Jvm.ClassFile.FieldType.int).before args s = true := pm_al (pm_ar (pm_ar (pm_al (pm_al (pm_al (pm_al (pm_al (pm_ar (h)))))))))
theorem pm_fm_6 {args : Array Value} {s : State} (h : pm_fl args s) : (Jvm.Cond.eq (Jvm.Term.length (Jvm.Term.static "FallenHouses" "ITSELF_AND_ABOVE" "[I")) (Jvm.Term.int (8 : Int32))).before args s = true := pm_ar (pm_ar (pm_ar (pm_al (pm_al (pm_al (pm_al (pm_al (pm_ar (h)))))))))
theorem pm_fm_7 {args : Array Value} {s : State} (h : pm_fl args s) : (Jvm.Cond.eq (Jvm.Term.elem (Jvm.Term.static "FallenHouses" "ITSELF_AND_ABOVE" "[I") (Jvm.Term.int (0 : Int32))) (Jvm.Term.int (1 : Int32))).before args s = true := pm_al (pm_al (pm_ar (pm_al (pm_al (pm_al (pm_al (pm_ar (h))))))))
theorem pm_fm_8 {args : Array Value} {s : State} (h : pm_fl args s) : (Jvm.Cond.eq (Jvm.Term.elem (Jvm.Term.static "FallenHouses" "ITSELF_AND_ABOVE" "[I") (Jvm.Term.int (1 : Int32))) (Jvm.Term.int (3 : Int32))).before args s = true := pm_al (pm_ar (pm_al (pm_ar (pm_al (pm_al (pm_al (pm_al (pm_ar (h)))))))))
theorem pm_fm_9 {args : Array Value} {s : State} (h : pm_fl args s) : (Jvm.Cond.eq (Jvm.Term.elem (Jvm.Term.static "FallenHouses" "ITSELF_AND_ABOVE" "[I") (Jvm.Term.int (2 : Int32))) (Jvm.Term.int (7 : Int32))).before args s = true := pm_ar (pm_ar (pm_al (pm_ar (pm_al (pm_al (pm_al (pm_al (pm_ar (h)))))))))
theorem pm_fm_10 {args : Array Value} {s : State} (h : pm_fl args s) : (Jvm.Cond.eq (Jvm.Term.elem (Jvm.Term.static "FallenHouses" "ITSELF_AND_ABOVE" "[I") (Jvm.Term.int (3 : Int32))) (Jvm.Term.int (9 : Int32))).before args s = true := pm_al (pm_ar (pm_ar (pm_al (pm_al (pm_al (pm_al (pm_ar (h))))))))
theorem pm_fm_11 {args : Array Value} {s : State} (h : pm_fl args s) : (Jvm.Cond.eq (Jvm.Term.elem (Jvm.Term.static "FallenHouses" "ITSELF_AND_ABOVE" "[I") (Jvm.Term.int (4 : Int32))) (Jvm.Term.int (17 : Int32))).before args s = true := pm_al (pm_ar (pm_ar (pm_ar (pm_al (pm_al (pm_al (pm_al (pm_ar (h)))))))))
theorem pm_fm_12 {args : Array Value} {s : State} (h : pm_fl args s) : (Jvm.Cond.eq (Jvm.Term.elem (Jvm.Term.static "FallenHouses" "ITSELF_AND_ABOVE" "[I") (Jvm.Term.int (5 : Int32))) (Jvm.Term.int (33 : Int32))).before args s = true := pm_ar (pm_ar (pm_ar (pm_ar (pm_al (pm_al (pm_al (pm_al (pm_ar (h)))))))))
theorem pm_fm_13 {args : Array Value} {s : State} (h : pm_fl args s) : (Jvm.Cond.eq (Jvm.Term.elem (Jvm.Term.static "FallenHouses" "ITSELF_AND_ABOVE" "[I") (Jvm.Term.int (6 : Int32))) (Jvm.Term.int (97 : Int32))).before args s = true := pm_al (pm_al (pm_al (pm_ar (pm_al (pm_al (pm_al (pm_ar (h))))))))
theorem pm_fm_14 {args : Array Value} {s : State} (h : pm_fl args s) : (Jvm.Cond.eq (Jvm.Term.elem (Jvm.Term.static "FallenHouses" "ITSELF_AND_ABOVE" "[I") (Jvm.Term.int (7 : Int32))) (Jvm.Term.int (129 : Int32))).before args s = true := pm_ar (pm_al (pm_al (pm_ar (pm_al (pm_al (pm_al (pm_ar (h))))))))
theorem pm_st_2 {args : Array Value} {s : State} {A : Nat → Prop} (h : pm_fl args s) (hA : ∀ a : Nat, a < s.heap.size → ¬ A a) (L : Nat) (xs : Nat → Int32) : ∃ t : Nat, (Jvm.Term.static "FallenHouses" "ITSELF_AND_ABOVE" "[I").eval args s none [] s = some (.ref t) ∧ va_T .int t (pm_TS L 2).2 (fun j => .int (pm_IS xs 2 j)) A s s.heap := by
  refine va_Tof (N := 8) (by decide) (pm_fm_5 h) (va_eqt (pm_fm_6 h)) (fun j hj => ?_) hA
  match j, hj with
  | 0, _ => exact va_eqt (pm_fm_7 h)
  | 1, _ => exact va_eqt (pm_fm_8 h)
  | 2, _ => exact va_eqt (pm_fm_9 h)
  | 3, _ => exact va_eqt (pm_fm_10 h)
  | 4, _ => exact va_eqt (pm_fm_11 h)
  | 5, _ => exact va_eqt (pm_fm_12 h)
  | 6, _ => exact va_eqt (pm_fm_13 h)
  | 7, _ => exact va_eqt (pm_fm_14 h)
  | j + 8, hj => exact absurd hj (by show ¬ j + 8 < 8; omega)
theorem pm_fm_21 {args : Array Value} {s : State} (h : pm_fl args s) : (Jvm.Cond.arrayOf (Jvm.Term.static "FallenHouses$Land" "HOURS" "[I") Jvm.ClassFile.FieldType.int).before args s = true := pm_al (pm_ar (pm_ar (pm_ar (pm_al (pm_al (pm_al (pm_ar (h))))))))
theorem pm_fm_22 {args : Array Value} {s : State} (h : pm_fl args s) : (Jvm.Cond.eq (Jvm.Term.length (Jvm.Term.static "FallenHouses$Land" "HOURS" "[I")) (Jvm.Term.int (4 : Int32))).before args s = true := pm_al (pm_ar (pm_ar (pm_ar (pm_ar (pm_al (pm_al (pm_al (pm_ar (h)))))))))
theorem pm_fm_23 {args : Array Value} {s : State} (h : pm_fl args s) : (Jvm.Cond.eq (Jvm.Term.elem (Jvm.Term.static "FallenHouses$Land" "HOURS" "[I") (Jvm.Term.int (0 : Int32))) (Jvm.Term.int (3 : Int32))).before args s = true := pm_ar (pm_ar (pm_ar (pm_ar (pm_ar (pm_al (pm_al (pm_al (pm_ar (h)))))))))
theorem pm_fm_24 {args : Array Value} {s : State} (h : pm_fl args s) : (Jvm.Cond.eq (Jvm.Term.elem (Jvm.Term.static "FallenHouses$Land" "HOURS" "[I") (Jvm.Term.int (1 : Int32))) (Jvm.Term.int (2 : Int32))).before args s = true := pm_al (pm_al (pm_al (pm_al (pm_ar (pm_al (pm_al (pm_ar (h))))))))
theorem pm_fm_25 {args : Array Value} {s : State} (h : pm_fl args s) : (Jvm.Cond.eq (Jvm.Term.elem (Jvm.Term.static "FallenHouses$Land" "HOURS" "[I") (Jvm.Term.int (2 : Int32))) (Jvm.Term.int (1 : Int32))).before args s = true := pm_ar (pm_al (pm_al (pm_al (pm_ar (pm_al (pm_al (pm_ar (h))))))))
theorem pm_fm_26 {args : Array Value} {s : State} (h : pm_fl args s) : (Jvm.Cond.eq (Jvm.Term.elem (Jvm.Term.static "FallenHouses$Land" "HOURS" "[I") (Jvm.Term.int (3 : Int32))) (Jvm.Term.int (4 : Int32))).before args s = true := pm_al (pm_ar (pm_al (pm_al (pm_ar (pm_al (pm_al (pm_ar (h))))))))
theorem pm_st_3 {args : Array Value} {s : State} {A : Nat → Prop} (h : pm_fl args s) (hA : ∀ a : Nat, a < s.heap.size → ¬ A a) (L : Nat) (xs : Nat → Int32) : ∃ t : Nat, (Jvm.Term.static "FallenHouses$Land" "HOURS" "[I").eval args s none [] s = some (.ref t) ∧ va_T .int t (pm_TS L 3).2 (fun j => .int (pm_IS xs 3 j)) A s s.heap := by
  refine va_Tof (N := 4) (by decide) (pm_fm_21 h) (va_eqt (pm_fm_22 h)) (fun j hj => ?_) hA
  match j, hj with
  | 0, _ => exact va_eqt (pm_fm_23 h)
  | 1, _ => exact va_eqt (pm_fm_24 h)
  | 2, _ => exact va_eqt (pm_fm_25 h)
  | 3, _ => exact va_eqt (pm_fm_26 h)
  | j + 4, hj => exact absurd hj (by show ¬ j + 4 < 4; omega)
theorem pm_fm_28 {args : Array Value} {s : State} (h : pm_fl args s) : (Jvm.Cond.arrayOf (Jvm.Term.static "FallenHouses$Host" "BODIES" "[I") Jvm.ClassFile.FieldType.int).before args s = true := pm_ar (pm_ar (pm_ar (pm_al (pm_al (pm_ar (pm_al (pm_al (pm_ar (h)))))))))
theorem pm_fm_29 {args : Array Value} {s : State} (h : pm_fl args s) : (Jvm.Cond.eq (Jvm.Term.length (Jvm.Term.static "FallenHouses$Host" "BODIES" "[I")) (Jvm.Term.int (32 : Int32))).before args s = true := pm_al (pm_al (pm_ar (pm_al (pm_ar (pm_al (pm_al (pm_ar (h))))))))
theorem pm_fm_30 {args : Array Value} {s : State} (h : pm_fl args s) : (Jvm.Cond.eq (Jvm.Term.elem (Jvm.Term.static "FallenHouses$Host" "BODIES" "[I") (Jvm.Term.int (0 : Int32))) (Jvm.Term.int (10 : Int32))).before args s = true := pm_al (pm_ar (pm_al (pm_ar (pm_al (pm_ar (pm_al (pm_al (pm_ar (h)))))))))
theorem pm_fm_31 {args : Array Value} {s : State} (h : pm_fl args s) : (Jvm.Cond.eq (Jvm.Term.elem (Jvm.Term.static "FallenHouses$Host" "BODIES" "[I") (Jvm.Term.int (1 : Int32))) (Jvm.Term.int (10 : Int32))).before args s = true := pm_ar (pm_ar (pm_al (pm_ar (pm_al (pm_ar (pm_al (pm_al (pm_ar (h)))))))))
theorem pm_fm_32 {args : Array Value} {s : State} (h : pm_fl args s) : (Jvm.Cond.eq (Jvm.Term.elem (Jvm.Term.static "FallenHouses$Host" "BODIES" "[I") (Jvm.Term.int (2 : Int32))) (Jvm.Term.int (30 : Int32))).before args s = true := pm_al (pm_ar (pm_ar (pm_al (pm_ar (pm_al (pm_al (pm_ar (h))))))))
theorem pm_fm_33 {args : Array Value} {s : State} (h : pm_fl args s) : (Jvm.Cond.eq (Jvm.Term.elem (Jvm.Term.static "FallenHouses$Host" "BODIES" "[I") (Jvm.Term.int (3 : Int32))) (Jvm.Term.int (10 : Int32))).before args s = true := pm_al (pm_ar (pm_ar (pm_ar (pm_al (pm_ar (pm_al (pm_al (pm_ar (h)))))))))
theorem pm_fm_34 {args : Array Value} {s : State} (h : pm_fl args s) : (Jvm.Cond.eq (Jvm.Term.elem (Jvm.Term.static "FallenHouses$Host" "BODIES" "[I") (Jvm.Term.int (4 : Int32))) (Jvm.Term.int (50 : Int32))).before args s = true := pm_ar (pm_ar (pm_ar (pm_ar (pm_al (pm_ar (pm_al (pm_al (pm_ar (h)))))))))
theorem pm_fm_35 {args : Array Value} {s : State} (h : pm_fl args s) : (Jvm.Cond.eq (Jvm.Term.elem (Jvm.Term.static "FallenHouses$Host" "BODIES" "[I") (Jvm.Term.int (5 : Int32))) (Jvm.Term.int (10 : Int32))).before args s = true := pm_al (pm_al (pm_al (pm_ar (pm_ar (pm_al (pm_al (pm_ar (h))))))))
theorem pm_fm_36 {args : Array Value} {s : State} (h : pm_fl args s) : (Jvm.Cond.eq (Jvm.Term.elem (Jvm.Term.static "FallenHouses$Host" "BODIES" "[I") (Jvm.Term.int (6 : Int32))) (Jvm.Term.int (70 : Int32))).before args s = true := pm_al (pm_ar (pm_al (pm_al (pm_ar (pm_ar (pm_al (pm_al (pm_ar (h)))))))))
theorem pm_fm_37 {args : Array Value} {s : State} (h : pm_fl args s) : (Jvm.Cond.eq (Jvm.Term.elem (Jvm.Term.static "FallenHouses$Host" "BODIES" "[I") (Jvm.Term.int (7 : Int32))) (Jvm.Term.int (10 : Int32))).before args s = true := pm_ar (pm_ar (pm_al (pm_al (pm_ar (pm_ar (pm_al (pm_al (pm_ar (h)))))))))
theorem pm_fm_38 {args : Array Value} {s : State} (h : pm_fl args s) : (Jvm.Cond.eq (Jvm.Term.elem (Jvm.Term.static "FallenHouses$Host" "BODIES" "[I") (Jvm.Term.int (8 : Int32))) (Jvm.Term.int (11 : Int32))).before args s = true := pm_al (pm_ar (pm_al (pm_ar (pm_ar (pm_al (pm_al (pm_ar (h))))))))
theorem pm_fm_39 {args : Array Value} {s : State} (h : pm_fl args s) : (Jvm.Cond.eq (Jvm.Term.elem (Jvm.Term.static "FallenHouses$Host" "BODIES" "[I") (Jvm.Term.int (9 : Int32))) (Jvm.Term.int (20 : Int32))).before args s = true := pm_al (pm_ar (pm_ar (pm_al (pm_ar (pm_ar (pm_al (pm_al (pm_ar (h)))))))))
theorem pm_fm_40 {args : Array Value} {s : State} (h : pm_fl args s) : (Jvm.Cond.eq (Jvm.Term.elem (Jvm.Term.static "FallenHouses$Host" "BODIES" "[I") (Jvm.Term.int (10 : Int32))) (Jvm.Term.int (20 : Int32))).before args s = true := pm_ar (pm_ar (pm_ar (pm_al (pm_ar (pm_ar (pm_al (pm_al (pm_ar (h)))))))))
theorem pm_fm_41 {args : Array Value} {s : State} (h : pm_fl args s) : (Jvm.Cond.eq (Jvm.Term.elem (Jvm.Term.static "FallenHouses$Host" "BODIES" "[I") (Jvm.Term.int (11 : Int32))) (Jvm.Term.int (11 : Int32))).before args s = true := pm_al (pm_al (pm_ar (pm_ar (pm_ar (pm_al (pm_al (pm_ar (h))))))))
theorem pm_fm_42 {args : Array Value} {s : State} (h : pm_fl args s) : (Jvm.Cond.eq (Jvm.Term.elem (Jvm.Term.static "FallenHouses$Host" "BODIES" "[I") (Jvm.Term.int (12 : Int32))) (Jvm.Term.int (11 : Int32))).before args s = true := pm_al (pm_ar (pm_al (pm_ar (pm_ar (pm_ar (pm_al (pm_al (pm_ar (h)))))))))
theorem pm_fm_43 {args : Array Value} {s : State} (h : pm_fl args s) : (Jvm.Cond.eq (Jvm.Term.elem (Jvm.Term.static "FallenHouses$Host" "BODIES" "[I") (Jvm.Term.int (13 : Int32))) (Jvm.Term.int (11 : Int32))).before args s = true := pm_ar (pm_ar (pm_al (pm_ar (pm_ar (pm_ar (pm_al (pm_al (pm_ar (h)))))))))
theorem pm_fm_44 {args : Array Value} {s : State} (h : pm_fl args s) : (Jvm.Cond.eq (Jvm.Term.elem (Jvm.Term.static "FallenHouses$Host" "BODIES" "[I") (Jvm.Term.int (14 : Int32))) (Jvm.Term.int (11 : Int32))).before args s = true := pm_al (pm_ar (pm_ar (pm_ar (pm_ar (pm_al (pm_al (pm_ar (h))))))))
theorem pm_fm_45 {args : Array Value} {s : State} (h : pm_fl args s) : (Jvm.Cond.eq (Jvm.Term.elem (Jvm.Term.static "FallenHouses$Host" "BODIES" "[I") (Jvm.Term.int (15 : Int32))) (Jvm.Term.int (80 : Int32))).before args s = true := pm_al (pm_ar (pm_ar (pm_ar (pm_ar (pm_ar (pm_al (pm_al (pm_ar (h)))))))))
theorem pm_fm_46 {args : Array Value} {s : State} (h : pm_fl args s) : (Jvm.Cond.eq (Jvm.Term.elem (Jvm.Term.static "FallenHouses$Host" "BODIES" "[I") (Jvm.Term.int (16 : Int32))) (Jvm.Term.int (12 : Int32))).before args s = true := pm_ar (pm_ar (pm_ar (pm_ar (pm_ar (pm_ar (pm_al (pm_al (pm_ar (h)))))))))
theorem pm_fm_47 {args : Array Value} {s : State} (h : pm_fl args s) : (Jvm.Cond.eq (Jvm.Term.elem (Jvm.Term.static "FallenHouses$Host" "BODIES" "[I") (Jvm.Term.int (17 : Int32))) (Jvm.Term.int (12 : Int32))).before args s = true := pm_al (pm_al (pm_al (pm_al (pm_al (pm_ar (pm_al (pm_ar (h))))))))
theorem pm_fm_48 {args : Array Value} {s : State} (h : pm_fl args s) : (Jvm.Cond.eq (Jvm.Term.elem (Jvm.Term.static "FallenHouses$Host" "BODIES" "[I") (Jvm.Term.int (18 : Int32))) (Jvm.Term.int (12 : Int32))).before args s = true := pm_ar (pm_al (pm_al (pm_al (pm_al (pm_ar (pm_al (pm_ar (h))))))))
theorem pm_fm_49 {args : Array Value} {s : State} (h : pm_fl args s) : (Jvm.Cond.eq (Jvm.Term.elem (Jvm.Term.static "FallenHouses$Host" "BODIES" "[I") (Jvm.Term.int (19 : Int32))) (Jvm.Term.int (40 : Int32))).before args s = true := pm_al (pm_ar (pm_al (pm_al (pm_al (pm_ar (pm_al (pm_ar (h))))))))
theorem pm_fm_50 {args : Array Value} {s : State} (h : pm_fl args s) : (Jvm.Cond.eq (Jvm.Term.elem (Jvm.Term.static "FallenHouses$Host" "BODIES" "[I") (Jvm.Term.int (20 : Int32))) (Jvm.Term.int (12 : Int32))).before args s = true := pm_al (pm_ar (pm_ar (pm_al (pm_al (pm_al (pm_ar (pm_al (pm_ar (h)))))))))
theorem pm_fm_51 {args : Array Value} {s : State} (h : pm_fl args s) : (Jvm.Cond.eq (Jvm.Term.elem (Jvm.Term.static "FallenHouses$Host" "BODIES" "[I") (Jvm.Term.int (21 : Int32))) (Jvm.Term.int (60 : Int32))).before args s = true := pm_ar (pm_ar (pm_ar (pm_al (pm_al (pm_al (pm_ar (pm_al (pm_ar (h)))))))))
theorem pm_fm_52 {args : Array Value} {s : State} (h : pm_fl args s) : (Jvm.Cond.eq (Jvm.Term.elem (Jvm.Term.static "FallenHouses$Host" "BODIES" "[I") (Jvm.Term.int (22 : Int32))) (Jvm.Term.int (71 : Int32))).before args s = true := pm_al (pm_al (pm_ar (pm_al (pm_al (pm_ar (pm_al (pm_ar (h))))))))
theorem pm_fm_53 {args : Array Value} {s : State} (h : pm_fl args s) : (Jvm.Cond.eq (Jvm.Term.elem (Jvm.Term.static "FallenHouses$Host" "BODIES" "[I") (Jvm.Term.int (23 : Int32))) (Jvm.Term.int (12 : Int32))).before args s = true := pm_al (pm_ar (pm_al (pm_ar (pm_al (pm_al (pm_ar (pm_al (pm_ar (h)))))))))
theorem pm_fm_54 {args : Array Value} {s : State} (h : pm_fl args s) : (Jvm.Cond.eq (Jvm.Term.elem (Jvm.Term.static "FallenHouses$Host" "BODIES" "[I") (Jvm.Term.int (24 : Int32))) (Jvm.Term.int (13 : Int32))).before args s = true := pm_ar (pm_ar (pm_al (pm_ar (pm_al (pm_al (pm_ar (pm_al (pm_ar (h)))))))))
theorem pm_fm_55 {args : Array Value} {s : State} (h : pm_fl args s) : (Jvm.Cond.eq (Jvm.Term.elem (Jvm.Term.static "FallenHouses$Host" "BODIES" "[I") (Jvm.Term.int (25 : Int32))) (Jvm.Term.int (13 : Int32))).before args s = true := pm_al (pm_ar (pm_ar (pm_al (pm_al (pm_ar (pm_al (pm_ar (h))))))))
theorem pm_fm_56 {args : Array Value} {s : State} (h : pm_fl args s) : (Jvm.Cond.eq (Jvm.Term.elem (Jvm.Term.static "FallenHouses$Host" "BODIES" "[I") (Jvm.Term.int (26 : Int32))) (Jvm.Term.int (31 : Int32))).before args s = true := pm_al (pm_ar (pm_ar (pm_ar (pm_al (pm_al (pm_ar (pm_al (pm_ar (h)))))))))
theorem pm_fm_57 {args : Array Value} {s : State} (h : pm_fl args s) : (Jvm.Cond.eq (Jvm.Term.elem (Jvm.Term.static "FallenHouses$Host" "BODIES" "[I") (Jvm.Term.int (27 : Int32))) (Jvm.Term.int (13 : Int32))).before args s = true := pm_ar (pm_ar (pm_ar (pm_ar (pm_al (pm_al (pm_ar (pm_al (pm_ar (h)))))))))
theorem pm_fm_58 {args : Array Value} {s : State} (h : pm_fl args s) : (Jvm.Cond.eq (Jvm.Term.elem (Jvm.Term.static "FallenHouses$Host" "BODIES" "[I") (Jvm.Term.int (28 : Int32))) (Jvm.Term.int (13 : Int32))).before args s = true := pm_al (pm_al (pm_al (pm_ar (pm_al (pm_ar (pm_al (pm_ar (h))))))))
theorem pm_fm_59 {args : Array Value} {s : State} (h : pm_fl args s) : (Jvm.Cond.eq (Jvm.Term.elem (Jvm.Term.static "FallenHouses$Host" "BODIES" "[I") (Jvm.Term.int (29 : Int32))) (Jvm.Term.int (61 : Int32))).before args s = true := pm_al (pm_ar (pm_al (pm_al (pm_ar (pm_al (pm_ar (pm_al (pm_ar (h)))))))))
theorem pm_fm_60 {args : Array Value} {s : State} (h : pm_fl args s) : (Jvm.Cond.eq (Jvm.Term.elem (Jvm.Term.static "FallenHouses$Host" "BODIES" "[I") (Jvm.Term.int (30 : Int32))) (Jvm.Term.int (61 : Int32))).before args s = true := pm_ar (pm_ar (pm_al (pm_al (pm_ar (pm_al (pm_ar (pm_al (pm_ar (h)))))))))
theorem pm_fm_61 {args : Array Value} {s : State} (h : pm_fl args s) : (Jvm.Cond.eq (Jvm.Term.elem (Jvm.Term.static "FallenHouses$Host" "BODIES" "[I") (Jvm.Term.int (31 : Int32))) (Jvm.Term.int (13 : Int32))).before args s = true := pm_al (pm_ar (pm_al (pm_ar (pm_al (pm_ar (pm_al (pm_ar (h))))))))
theorem pm_st_4 {args : Array Value} {s : State} {A : Nat → Prop} (h : pm_fl args s) (hA : ∀ a : Nat, a < s.heap.size → ¬ A a) (L : Nat) (xs : Nat → Int32) : ∃ t : Nat, (Jvm.Term.static "FallenHouses$Host" "BODIES" "[I").eval args s none [] s = some (.ref t) ∧ va_T .int t (pm_TS L 4).2 (fun j => .int (pm_IS xs 4 j)) A s s.heap := by
  refine va_Tof (N := 32) (by decide) (pm_fm_28 h) (va_eqt (pm_fm_29 h)) (fun j hj => ?_) hA
  match j, hj with
  | 0, _ => exact va_eqt (pm_fm_30 h)
  | 1, _ => exact va_eqt (pm_fm_31 h)
  | 2, _ => exact va_eqt (pm_fm_32 h)
  | 3, _ => exact va_eqt (pm_fm_33 h)
  | 4, _ => exact va_eqt (pm_fm_34 h)
  | 5, _ => exact va_eqt (pm_fm_35 h)
  | 6, _ => exact va_eqt (pm_fm_36 h)
  | 7, _ => exact va_eqt (pm_fm_37 h)
  | 8, _ => exact va_eqt (pm_fm_38 h)
  | 9, _ => exact va_eqt (pm_fm_39 h)
  | 10, _ => exact va_eqt (pm_fm_40 h)
  | 11, _ => exact va_eqt (pm_fm_41 h)
  | 12, _ => exact va_eqt (pm_fm_42 h)
  | 13, _ => exact va_eqt (pm_fm_43 h)
  | 14, _ => exact va_eqt (pm_fm_44 h)
  | 15, _ => exact va_eqt (pm_fm_45 h)
  | 16, _ => exact va_eqt (pm_fm_46 h)
  | 17, _ => exact va_eqt (pm_fm_47 h)
  | 18, _ => exact va_eqt (pm_fm_48 h)
  | 19, _ => exact va_eqt (pm_fm_49 h)
  | 20, _ => exact va_eqt (pm_fm_50 h)
  | 21, _ => exact va_eqt (pm_fm_51 h)
  | 22, _ => exact va_eqt (pm_fm_52 h)
  | 23, _ => exact va_eqt (pm_fm_53 h)
  | 24, _ => exact va_eqt (pm_fm_54 h)
  | 25, _ => exact va_eqt (pm_fm_55 h)
  | 26, _ => exact va_eqt (pm_fm_56 h)
  | 27, _ => exact va_eqt (pm_fm_57 h)
  | 28, _ => exact va_eqt (pm_fm_58 h)
  | 29, _ => exact va_eqt (pm_fm_59 h)
  | 30, _ => exact va_eqt (pm_fm_60 h)
  | 31, _ => exact va_eqt (pm_fm_61 h)
  | j + 32, hj => exact absurd hj (by show ¬ j + 32 < 32; omega)
theorem pm_fm_62 {args : Array Value} {s : State} (h : pm_fl args s) : (Jvm.Cond.exactly (Jvm.Term.string "FallenHouses$Text" (86 : Nat)) "java/lang/String").before args s = true := pm_al (pm_ar (pm_ar (pm_al (pm_ar (pm_al (pm_ar (pm_al (pm_ar (h)))))))))
theorem pm_fm_63 {args : Array Value} {s : State} (h : pm_fl args s) : (Jvm.Cond.eq (Jvm.Term.field (Jvm.Term.string "FallenHouses$Text" (86 : Nat)) "java/lang/String" "coder" "B") (Jvm.Term.int (0 : Int32))).before args s = true := pm_ar (pm_ar (pm_ar (pm_al (pm_ar (pm_al (pm_ar (pm_al (pm_ar (h)))))))))
theorem pm_fm_64 {args : Array Value} {s : State} (h : pm_fl args s) : (Jvm.Cond.arrayOf (Jvm.Term.field (Jvm.Term.string "FallenHouses$Text" (86 : Nat)) "java/lang/String" "value" "[B") Jvm.ClassFile.FieldType.byte).before args s = true := pm_al (pm_al (pm_ar (pm_ar (pm_al (pm_ar (pm_al (pm_ar (h))))))))
theorem pm_fm_65 {args : Array Value} {s : State} (h : pm_fl args s) : (Jvm.Cond.eq (Jvm.Term.length (Jvm.Term.field (Jvm.Term.string "FallenHouses$Text" (86 : Nat)) "java/lang/String" "value" "[B")) (Jvm.Term.int (115 : Int32))).before args s = true := pm_al (pm_ar (pm_al (pm_ar (pm_ar (pm_al (pm_ar (pm_al (pm_ar (h)))))))))
theorem pm_fm_66 {args : Array Value} {s : State} (h : pm_fl args s) : (Jvm.Cond.eq (Jvm.Term.elem (Jvm.Term.field (Jvm.Term.string "FallenHouses$Text" (86 : Nat)) "java/lang/String" "value" "[B") (Jvm.Term.int (0 : Int32))) (Jvm.Term.int (114 : Int32))).before args s = true := pm_ar (pm_ar (pm_al (pm_ar (pm_ar (pm_al (pm_ar (pm_al (pm_ar (h)))))))))
theorem pm_fm_67 {args : Array Value} {s : State} (h : pm_fl args s) : (Jvm.Cond.eq (Jvm.Term.elem (Jvm.Term.field (Jvm.Term.string "FallenHouses$Text" (86 : Nat)) "java/lang/String" "value" "[B") (Jvm.Term.int (1 : Int32))) (Jvm.Term.int (105 : Int32))).before args s = true := pm_al (pm_ar (pm_ar (pm_ar (pm_al (pm_ar (pm_al (pm_ar (h))))))))
theorem pm_fm_68 {args : Array Value} {s : State} (h : pm_fl args s) : (Jvm.Cond.eq (Jvm.Term.elem (Jvm.Term.field (Jvm.Term.string "FallenHouses$Text" (86 : Nat)) "java/lang/String" "value" "[B") (Jvm.Term.int (2 : Int32))) (Jvm.Term.int (103 : Int32))).before args s = true := pm_al (pm_ar (pm_ar (pm_ar (pm_ar (pm_al (pm_ar (pm_al (pm_ar (h)))))))))
theorem pm_fm_69 {args : Array Value} {s : State} (h : pm_fl args s) : (Jvm.Cond.eq (Jvm.Term.elem (Jvm.Term.field (Jvm.Term.string "FallenHouses$Text" (86 : Nat)) "java/lang/String" "value" "[B") (Jvm.Term.int (3 : Int32))) (Jvm.Term.int (104 : Int32))).before args s = true := pm_ar (pm_ar (pm_ar (pm_ar (pm_ar (pm_al (pm_ar (pm_al (pm_ar (h)))))))))
theorem pm_fm_70 {args : Array Value} {s : State} (h : pm_fl args s) : (Jvm.Cond.eq (Jvm.Term.elem (Jvm.Term.field (Jvm.Term.string "FallenHouses$Text" (86 : Nat)) "java/lang/String" "value" "[B") (Jvm.Term.int (4 : Int32))) (Jvm.Term.int (116 : Int32))).before args s = true := pm_al (pm_al (pm_al (pm_al (pm_ar (pm_ar (pm_al (pm_ar (h))))))))
theorem pm_fm_71 {args : Array Value} {s : State} (h : pm_fl args s) : (Jvm.Cond.eq (Jvm.Term.elem (Jvm.Term.field (Jvm.Term.string "FallenHouses$Text" (86 : Nat)) "java/lang/String" "value" "[B") (Jvm.Term.int (5 : Int32))) (Jvm.Term.int (32 : Int32))).before args s = true := pm_ar (pm_al (pm_al (pm_al (pm_ar (pm_ar (pm_al (pm_ar (h))))))))
theorem pm_fm_72 {args : Array Value} {s : State} (h : pm_fl args s) : (Jvm.Cond.eq (Jvm.Term.elem (Jvm.Term.field (Jvm.Term.string "FallenHouses$Text" (86 : Nat)) "java/lang/String" "value" "[B") (Jvm.Term.int (6 : Int32))) (Jvm.Term.int (114 : Int32))).before args s = true := pm_al (pm_ar (pm_al (pm_al (pm_ar (pm_ar (pm_al (pm_ar (h))))))))
theorem pm_fm_73 {args : Array Value} {s : State} (h : pm_fl args s) : (Jvm.Cond.eq (Jvm.Term.elem (Jvm.Term.field (Jvm.Term.string "FallenHouses$Text" (86 : Nat)) "java/lang/String" "value" "[B") (Jvm.Term.int (7 : Int32))) (Jvm.Term.int (101 : Int32))).before args s = true := pm_al (pm_ar (pm_ar (pm_al (pm_al (pm_ar (pm_ar (pm_al (pm_ar (h)))))))))
theorem pm_fm_74 {args : Array Value} {s : State} (h : pm_fl args s) : (Jvm.Cond.eq (Jvm.Term.elem (Jvm.Term.field (Jvm.Term.string "FallenHouses$Text" (86 : Nat)) "java/lang/String" "value" "[B") (Jvm.Term.int (8 : Int32))) (Jvm.Term.int (110 : Int32))).before args s = true := pm_ar (pm_ar (pm_ar (pm_al (pm_al (pm_ar (pm_ar (pm_al (pm_ar (h)))))))))
theorem pm_fm_75 {args : Array Value} {s : State} (h : pm_fl args s) : (Jvm.Cond.eq (Jvm.Term.elem (Jvm.Term.field (Jvm.Term.string "FallenHouses$Text" (86 : Nat)) "java/lang/String" "value" "[B") (Jvm.Term.int (9 : Int32))) (Jvm.Term.int (116 : Int32))).before args s = true := pm_al (pm_al (pm_ar (pm_al (pm_ar (pm_ar (pm_al (pm_ar (h))))))))
theorem pm_fm_76 {args : Array Value} {s : State} (h : pm_fl args s) : (Jvm.Cond.eq (Jvm.Term.elem (Jvm.Term.field (Jvm.Term.string "FallenHouses$Text" (86 : Nat)) "java/lang/String" "value" "[B") (Jvm.Term.int (10 : Int32))) (Jvm.Term.int (32 : Int32))).before args s = true := pm_al (pm_ar (pm_al (pm_ar (pm_al (pm_ar (pm_ar (pm_al (pm_ar (h)))))))))
theorem pm_fm_77 {args : Array Value} {s : State} (h : pm_fl args s) : (Jvm.Cond.eq (Jvm.Term.elem (Jvm.Term.field (Jvm.Term.string "FallenHouses$Text" (86 : Nat)) "java/lang/String" "value" "[B") (Jvm.Term.int (11 : Int32))) (Jvm.Term.int (108 : Int32))).before args s = true := pm_ar (pm_ar (pm_al (pm_ar (pm_al (pm_ar (pm_ar (pm_al (pm_ar (h)))))))))
theorem pm_fm_78 {args : Array Value} {s : State} (h : pm_fl args s) : (Jvm.Cond.eq (Jvm.Term.elem (Jvm.Term.field (Jvm.Term.string "FallenHouses$Text" (86 : Nat)) "java/lang/String" "value" "[B") (Jvm.Term.int (12 : Int32))) (Jvm.Term.int (101 : Int32))).before args s = true := pm_al (pm_ar (pm_ar (pm_al (pm_ar (pm_ar (pm_al (pm_ar (h))))))))
theorem pm_fm_79 {args : Array Value} {s : State} (h : pm_fl args s) : (Jvm.Cond.eq (Jvm.Term.elem (Jvm.Term.field (Jvm.Term.string "FallenHouses$Text" (86 : Nat)) "java/lang/String" "value" "[B") (Jvm.Term.int (13 : Int32))) (Jvm.Term.int (97 : Int32))).before args s = true := pm_al (pm_ar (pm_ar (pm_ar (pm_al (pm_ar (pm_ar (pm_al (pm_ar (h)))))))))
theorem pm_fm_80 {args : Array Value} {s : State} (h : pm_fl args s) : (Jvm.Cond.eq (Jvm.Term.elem (Jvm.Term.field (Jvm.Term.string "FallenHouses$Text" (86 : Nat)) "java/lang/String" "value" "[B") (Jvm.Term.int (14 : Int32))) (Jvm.Term.int (115 : Int32))).before args s = true := pm_ar (pm_ar (pm_ar (pm_ar (pm_al (pm_ar (pm_ar (pm_al (pm_ar (h)))))))))
theorem pm_fm_81 {args : Array Value} {s : State} (h : pm_fl args s) : (Jvm.Cond.eq (Jvm.Term.elem (Jvm.Term.field (Jvm.Term.string "FallenHouses$Text" (86 : Nat)) "java/lang/String" "value" "[B") (Jvm.Term.int (15 : Int32))) (Jvm.Term.int (101 : Int32))).before args s = true := pm_al (pm_al (pm_al (pm_ar (pm_ar (pm_ar (pm_al (pm_ar (h))))))))
theorem pm_fm_82 {args : Array Value} {s : State} (h : pm_fl args s) : (Jvm.Cond.eq (Jvm.Term.elem (Jvm.Term.field (Jvm.Term.string "FallenHouses$Text" (86 : Nat)) "java/lang/String" "value" "[B") (Jvm.Term.int (16 : Int32))) (Jvm.Term.int (32 : Int32))).before args s = true := pm_al (pm_ar (pm_al (pm_al (pm_ar (pm_ar (pm_ar (pm_al (pm_ar (h)))))))))
theorem pm_fm_83 {args : Array Value} {s : State} (h : pm_fl args s) : (Jvm.Cond.eq (Jvm.Term.elem (Jvm.Term.field (Jvm.Term.string "FallenHouses$Text" (86 : Nat)) "java/lang/String" "value" "[B") (Jvm.Term.int (17 : Int32))) (Jvm.Term.int (97 : Int32))).before args s = true := pm_ar (pm_ar (pm_al (pm_al (pm_ar (pm_ar (pm_ar (pm_al (pm_ar (h)))))))))
theorem pm_fm_84 {args : Array Value} {s : State} (h : pm_fl args s) : (Jvm.Cond.eq (Jvm.Term.elem (Jvm.Term.field (Jvm.Term.string "FallenHouses$Text" (86 : Nat)) "java/lang/String" "value" "[B") (Jvm.Term.int (18 : Int32))) (Jvm.Term.int (108 : Int32))).before args s = true := pm_al (pm_ar (pm_al (pm_ar (pm_ar (pm_ar (pm_al (pm_ar (h))))))))
theorem pm_fm_85 {args : Array Value} {s : State} (h : pm_fl args s) : (Jvm.Cond.eq (Jvm.Term.elem (Jvm.Term.field (Jvm.Term.string "FallenHouses$Text" (86 : Nat)) "java/lang/String" "value" "[B") (Jvm.Term.int (19 : Int32))) (Jvm.Term.int (109 : Int32))).before args s = true := pm_al (pm_ar (pm_ar (pm_al (pm_ar (pm_ar (pm_ar (pm_al (pm_ar (h)))))))))
theorem pm_fm_86 {args : Array Value} {s : State} (h : pm_fl args s) : (Jvm.Cond.eq (Jvm.Term.elem (Jvm.Term.field (Jvm.Term.string "FallenHouses$Text" (86 : Nat)) "java/lang/String" "value" "[B") (Jvm.Term.int (20 : Int32))) (Jvm.Term.int (115 : Int32))).before args s = true := pm_ar (pm_ar (pm_ar (pm_al (pm_ar (pm_ar (pm_ar (pm_al (pm_ar (h)))))))))
theorem pm_fm_87 {args : Array Value} {s : State} (h : pm_fl args s) : (Jvm.Cond.eq (Jvm.Term.elem (Jvm.Term.field (Jvm.Term.string "FallenHouses$Text" (86 : Nat)) "java/lang/String" "value" "[B") (Jvm.Term.int (21 : Int32))) (Jvm.Term.int (32 : Int32))).before args s = true := pm_al (pm_al (pm_ar (pm_ar (pm_ar (pm_ar (pm_al (pm_ar (h))))))))
theorem pm_fm_88 {args : Array Value} {s : State} (h : pm_fl args s) : (Jvm.Cond.eq (Jvm.Term.elem (Jvm.Term.field (Jvm.Term.string "FallenHouses$Text" (86 : Nat)) "java/lang/String" "value" "[B") (Jvm.Term.int (22 : Int32))) (Jvm.Term.int (112 : Int32))).before args s = true := pm_al (pm_ar (pm_al (pm_ar (pm_ar (pm_ar (pm_ar (pm_al (pm_ar (h)))))))))
theorem pm_fm_89 {args : Array Value} {s : State} (h : pm_fl args s) : (Jvm.Cond.eq (Jvm.Term.elem (Jvm.Term.field (Jvm.Term.string "FallenHouses$Text" (86 : Nat)) "java/lang/String" "value" "[B") (Jvm.Term.int (23 : Int32))) (Jvm.Term.int (101 : Int32))).before args s = true := pm_ar (pm_ar (pm_al (pm_ar (pm_ar (pm_ar (pm_ar (pm_al (pm_ar (h)))))))))
theorem pm_fm_90 {args : Array Value} {s : State} (h : pm_fl args s) : (Jvm.Cond.eq (Jvm.Term.elem (Jvm.Term.field (Jvm.Term.string "FallenHouses$Text" (86 : Nat)) "java/lang/String" "value" "[B") (Jvm.Term.int (24 : Int32))) (Jvm.Term.int (110 : Int32))).before args s = true := pm_al (pm_ar (pm_ar (pm_ar (pm_ar (pm_ar (pm_al (pm_ar (h))))))))
theorem pm_fm_91 {args : Array Value} {s : State} (h : pm_fl args s) : (Jvm.Cond.eq (Jvm.Term.elem (Jvm.Term.field (Jvm.Term.string "FallenHouses$Text" (86 : Nat)) "java/lang/String" "value" "[B") (Jvm.Term.int (25 : Int32))) (Jvm.Term.int (115 : Int32))).before args s = true := pm_al (pm_ar (pm_ar (pm_ar (pm_ar (pm_ar (pm_ar (pm_al (pm_ar (h)))))))))
theorem pm_fm_92 {args : Array Value} {s : State} (h : pm_fl args s) : (Jvm.Cond.eq (Jvm.Term.elem (Jvm.Term.field (Jvm.Term.string "FallenHouses$Text" (86 : Nat)) "java/lang/String" "value" "[B") (Jvm.Term.int (26 : Int32))) (Jvm.Term.int (105 : Int32))).before args s = true := pm_ar (pm_ar (pm_ar (pm_ar (pm_ar (pm_ar (pm_ar (pm_al (pm_ar (h)))))))))
theorem pm_fm_93 {args : Array Value} {s : State} (h : pm_fl args s) : (Jvm.Cond.eq (Jvm.Term.elem (Jvm.Term.field (Jvm.Term.string "FallenHouses$Text" (86 : Nat)) "java/lang/String" "value" "[B") (Jvm.Term.int (27 : Int32))) (Jvm.Term.int (111 : Int32))).before args s = true := pm_al (pm_al (pm_al (pm_al (pm_al (pm_al (pm_ar (pm_ar (h))))))))
theorem pm_fm_94 {args : Array Value} {s : State} (h : pm_fl args s) : (Jvm.Cond.eq (Jvm.Term.elem (Jvm.Term.field (Jvm.Term.string "FallenHouses$Text" (86 : Nat)) "java/lang/String" "value" "[B") (Jvm.Term.int (28 : Int32))) (Jvm.Term.int (110 : Int32))).before args s = true := pm_ar (pm_al (pm_al (pm_al (pm_al (pm_al (pm_ar (pm_ar (h))))))))
theorem pm_fm_95 {args : Array Value} {s : State} (h : pm_fl args s) : (Jvm.Cond.eq (Jvm.Term.elem (Jvm.Term.field (Jvm.Term.string "FallenHouses$Text" (86 : Nat)) "java/lang/String" "value" "[B") (Jvm.Term.int (29 : Int32))) (Jvm.Term.int (32 : Int32))).before args s = true := pm_al (pm_ar (pm_al (pm_al (pm_al (pm_al (pm_ar (pm_ar (h))))))))
theorem pm_fm_96 {args : Array Value} {s : State} (h : pm_fl args s) : (Jvm.Cond.eq (Jvm.Term.elem (Jvm.Term.field (Jvm.Term.string "FallenHouses$Text" (86 : Nat)) "java/lang/String" "value" "[B") (Jvm.Term.int (30 : Int32))) (Jvm.Term.int (100 : Int32))).before args s = true := pm_al (pm_ar (pm_ar (pm_al (pm_al (pm_al (pm_al (pm_ar (pm_ar (h)))))))))
theorem pm_fm_97 {args : Array Value} {s : State} (h : pm_fl args s) : (Jvm.Cond.eq (Jvm.Term.elem (Jvm.Term.field (Jvm.Term.string "FallenHouses$Text" (86 : Nat)) "java/lang/String" "value" "[B") (Jvm.Term.int (31 : Int32))) (Jvm.Term.int (101 : Int32))).before args s = true := pm_ar (pm_ar (pm_ar (pm_al (pm_al (pm_al (pm_al (pm_ar (pm_ar (h)))))))))
theorem pm_fm_98 {args : Array Value} {s : State} (h : pm_fl args s) : (Jvm.Cond.eq (Jvm.Term.elem (Jvm.Term.field (Jvm.Term.string "FallenHouses$Text" (86 : Nat)) "java/lang/String" "value" "[B") (Jvm.Term.int (32 : Int32))) (Jvm.Term.int (98 : Int32))).before args s = true := pm_al (pm_al (pm_ar (pm_al (pm_al (pm_al (pm_ar (pm_ar (h))))))))
theorem pm_fm_99 {args : Array Value} {s : State} (h : pm_fl args s) : (Jvm.Cond.eq (Jvm.Term.elem (Jvm.Term.field (Jvm.Term.string "FallenHouses$Text" (86 : Nat)) "java/lang/String" "value" "[B") (Jvm.Term.int (33 : Int32))) (Jvm.Term.int (116 : Int32))).before args s = true := pm_al (pm_ar (pm_al (pm_ar (pm_al (pm_al (pm_al (pm_ar (pm_ar (h)))))))))
theorem pm_fm_100 {args : Array Value} {s : State} (h : pm_fl args s) : (Jvm.Cond.eq (Jvm.Term.elem (Jvm.Term.field (Jvm.Term.string "FallenHouses$Text" (86 : Nat)) "java/lang/String" "value" "[B") (Jvm.Term.int (34 : Int32))) (Jvm.Term.int (32 : Int32))).before args s = true := pm_ar (pm_ar (pm_al (pm_ar (pm_al (pm_al (pm_al (pm_ar (pm_ar (h)))))))))
theorem pm_fm_101 {args : Array Value} {s : State} (h : pm_fl args s) : (Jvm.Cond.eq (Jvm.Term.elem (Jvm.Term.field (Jvm.Term.string "FallenHouses$Text" (86 : Nat)) "java/lang/String" "value" "[B") (Jvm.Term.int (35 : Int32))) (Jvm.Term.int (112 : Int32))).before args s = true := pm_al (pm_ar (pm_ar (pm_al (pm_al (pm_al (pm_ar (pm_ar (h))))))))
theorem pm_fm_102 {args : Array Value} {s : State} (h : pm_fl args s) : (Jvm.Cond.eq (Jvm.Term.elem (Jvm.Term.field (Jvm.Term.string "FallenHouses$Text" (86 : Nat)) "java/lang/String" "value" "[B") (Jvm.Term.int (36 : Int32))) (Jvm.Term.int (108 : Int32))).before args s = true := pm_al (pm_ar (pm_ar (pm_ar (pm_al (pm_al (pm_al (pm_ar (pm_ar (h)))))))))
theorem pm_fm_103 {args : Array Value} {s : State} (h : pm_fl args s) : (Jvm.Cond.eq (Jvm.Term.elem (Jvm.Term.field (Jvm.Term.string "FallenHouses$Text" (86 : Nat)) "java/lang/String" "value" "[B") (Jvm.Term.int (37 : Int32))) (Jvm.Term.int (101 : Int32))).before args s = true := pm_ar (pm_ar (pm_ar (pm_ar (pm_al (pm_al (pm_al (pm_ar (pm_ar (h)))))))))
theorem pm_fm_104 {args : Array Value} {s : State} (h : pm_fl args s) : (Jvm.Cond.eq (Jvm.Term.elem (Jvm.Term.field (Jvm.Term.string "FallenHouses$Text" (86 : Nat)) "java/lang/String" "value" "[B") (Jvm.Term.int (38 : Int32))) (Jvm.Term.int (100 : Int32))).before args s = true := pm_al (pm_al (pm_al (pm_ar (pm_al (pm_al (pm_ar (pm_ar (h))))))))
theorem pm_fm_105 {args : Array Value} {s : State} (h : pm_fl args s) : (Jvm.Cond.eq (Jvm.Term.elem (Jvm.Term.field (Jvm.Term.string "FallenHouses$Text" (86 : Nat)) "java/lang/String" "value" "[B") (Jvm.Term.int (39 : Int32))) (Jvm.Term.int (103 : Int32))).before args s = true := pm_ar (pm_al (pm_al (pm_ar (pm_al (pm_al (pm_ar (pm_ar (h))))))))
theorem pm_fm_106 {args : Array Value} {s : State} (h : pm_fl args s) : (Jvm.Cond.eq (Jvm.Term.elem (Jvm.Term.field (Jvm.Term.string "FallenHouses$Text" (86 : Nat)) "java/lang/String" "value" "[B") (Jvm.Term.int (40 : Int32))) (Jvm.Term.int (101 : Int32))).before args s = true := pm_al (pm_ar (pm_al (pm_ar (pm_al (pm_al (pm_ar (pm_ar (h))))))))
theorem pm_fm_107 {args : Array Value} {s : State} (h : pm_fl args s) : (Jvm.Cond.eq (Jvm.Term.elem (Jvm.Term.field (Jvm.Term.string "FallenHouses$Text" (86 : Nat)) "java/lang/String" "value" "[B") (Jvm.Term.int (41 : Int32))) (Jvm.Term.int (32 : Int32))).before args s = true := pm_al (pm_ar (pm_ar (pm_al (pm_ar (pm_al (pm_al (pm_ar (pm_ar (h)))))))))
theorem pm_fm_108 {args : Array Value} {s : State} (h : pm_fl args s) : (Jvm.Cond.eq (Jvm.Term.elem (Jvm.Term.field (Jvm.Term.string "FallenHouses$Text" (86 : Nat)) "java/lang/String" "value" "[B") (Jvm.Term.int (42 : Int32))) (Jvm.Term.int (99 : Int32))).before args s = true := pm_ar (pm_ar (pm_ar (pm_al (pm_ar (pm_al (pm_al (pm_ar (pm_ar (h)))))))))
theorem pm_fm_109 {args : Array Value} {s : State} (h : pm_fl args s) : (Jvm.Cond.eq (Jvm.Term.elem (Jvm.Term.field (Jvm.Term.string "FallenHouses$Text" (86 : Nat)) "java/lang/String" "value" "[B") (Jvm.Term.int (43 : Int32))) (Jvm.Term.int (108 : Int32))).before args s = true := pm_al (pm_al (pm_ar (pm_ar (pm_al (pm_al (pm_ar (pm_ar (h))))))))
theorem pm_fm_110 {args : Array Value} {s : State} (h : pm_fl args s) : (Jvm.Cond.eq (Jvm.Term.elem (Jvm.Term.field (Jvm.Term.string "FallenHouses$Text" (86 : Nat)) "java/lang/String" "value" "[B") (Jvm.Term.int (44 : Int32))) (Jvm.Term.int (97 : Int32))).before args s = true := pm_al (pm_ar (pm_al (pm_ar (pm_ar (pm_al (pm_al (pm_ar (pm_ar (h)))))))))
theorem pm_fm_111 {args : Array Value} {s : State} (h : pm_fl args s) : (Jvm.Cond.eq (Jvm.Term.elem (Jvm.Term.field (Jvm.Term.string "FallenHouses$Text" (86 : Nat)) "java/lang/String" "value" "[B") (Jvm.Term.int (45 : Int32))) (Jvm.Term.int (105 : Int32))).before args s = true := pm_ar (pm_ar (pm_al (pm_ar (pm_ar (pm_al (pm_al (pm_ar (pm_ar (h)))))))))
theorem pm_fm_112 {args : Array Value} {s : State} (h : pm_fl args s) : (Jvm.Cond.eq (Jvm.Term.elem (Jvm.Term.field (Jvm.Term.string "FallenHouses$Text" (86 : Nat)) "java/lang/String" "value" "[B") (Jvm.Term.int (46 : Int32))) (Jvm.Term.int (109 : Int32))).before args s = true := pm_al (pm_ar (pm_ar (pm_ar (pm_al (pm_al (pm_ar (pm_ar (h))))))))
theorem pm_fm_113 {args : Array Value} {s : State} (h : pm_fl args s) : (Jvm.Cond.eq (Jvm.Term.elem (Jvm.Term.field (Jvm.Term.string "FallenHouses$Text" (86 : Nat)) "java/lang/String" "value" "[B") (Jvm.Term.int (47 : Int32))) (Jvm.Term.int (32 : Int32))).before args s = true := pm_al (pm_ar (pm_ar (pm_ar (pm_ar (pm_al (pm_al (pm_ar (pm_ar (h)))))))))
theorem pm_fm_114 {args : Array Value} {s : State} (h : pm_fl args s) : (Jvm.Cond.eq (Jvm.Term.elem (Jvm.Term.field (Jvm.Term.string "FallenHouses$Text" (86 : Nat)) "java/lang/String" "value" "[B") (Jvm.Term.int (48 : Int32))) (Jvm.Term.int (115 : Int32))).before args s = true := pm_ar (pm_ar (pm_ar (pm_ar (pm_ar (pm_al (pm_al (pm_ar (pm_ar (h)))))))))
theorem pm_fm_115 {args : Array Value} {s : State} (h : pm_fl args s) : (Jvm.Cond.eq (Jvm.Term.elem (Jvm.Term.field (Jvm.Term.string "FallenHouses$Text" (86 : Nat)) "java/lang/String" "value" "[B") (Jvm.Term.int (49 : Int32))) (Jvm.Term.int (116 : Int32))).before args s = true := pm_al (pm_al (pm_al (pm_al (pm_ar (pm_al (pm_ar (pm_ar (h))))))))
theorem pm_fm_116 {args : Array Value} {s : State} (h : pm_fl args s) : (Jvm.Cond.eq (Jvm.Term.elem (Jvm.Term.field (Jvm.Term.string "FallenHouses$Text" (86 : Nat)) "java/lang/String" "value" "[B") (Jvm.Term.int (50 : Int32))) (Jvm.Term.int (97 : Int32))).before args s = true := pm_ar (pm_al (pm_al (pm_al (pm_ar (pm_al (pm_ar (pm_ar (h))))))))
theorem pm_fm_117 {args : Array Value} {s : State} (h : pm_fl args s) : (Jvm.Cond.eq (Jvm.Term.elem (Jvm.Term.field (Jvm.Term.string "FallenHouses$Text" (86 : Nat)) "java/lang/String" "value" "[B") (Jvm.Term.int (51 : Int32))) (Jvm.Term.int (110 : Int32))).before args s = true := pm_al (pm_ar (pm_al (pm_al (pm_ar (pm_al (pm_ar (pm_ar (h))))))))
theorem pm_fm_118 {args : Array Value} {s : State} (h : pm_fl args s) : (Jvm.Cond.eq (Jvm.Term.elem (Jvm.Term.field (Jvm.Term.string "FallenHouses$Text" (86 : Nat)) "java/lang/String" "value" "[B") (Jvm.Term.int (52 : Int32))) (Jvm.Term.int (100 : Int32))).before args s = true := pm_al (pm_ar (pm_ar (pm_al (pm_al (pm_ar (pm_al (pm_ar (pm_ar (h)))))))))
theorem pm_fm_119 {args : Array Value} {s : State} (h : pm_fl args s) : (Jvm.Cond.eq (Jvm.Term.elem (Jvm.Term.field (Jvm.Term.string "FallenHouses$Text" (86 : Nat)) "java/lang/String" "value" "[B") (Jvm.Term.int (53 : Int32))) (Jvm.Term.int (32 : Int32))).before args s = true := pm_ar (pm_ar (pm_ar (pm_al (pm_al (pm_ar (pm_al (pm_ar (pm_ar (h)))))))))
theorem pm_fm_120 {args : Array Value} {s : State} (h : pm_fl args s) : (Jvm.Cond.eq (Jvm.Term.elem (Jvm.Term.field (Jvm.Term.string "FallenHouses$Text" (86 : Nat)) "java/lang/String" "value" "[B") (Jvm.Term.int (54 : Int32))) (Jvm.Term.int (102 : Int32))).before args s = true := pm_al (pm_al (pm_ar (pm_al (pm_ar (pm_al (pm_ar (pm_ar (h))))))))
theorem pm_fm_121 {args : Array Value} {s : State} (h : pm_fl args s) : (Jvm.Cond.eq (Jvm.Term.elem (Jvm.Term.field (Jvm.Term.string "FallenHouses$Text" (86 : Nat)) "java/lang/String" "value" "[B") (Jvm.Term.int (55 : Int32))) (Jvm.Term.int (97 : Int32))).before args s = true := pm_al (pm_ar (pm_al (pm_ar (pm_al (pm_ar (pm_al (pm_ar (pm_ar (h)))))))))
theorem pm_fm_122 {args : Array Value} {s : State} (h : pm_fl args s) : (Jvm.Cond.eq (Jvm.Term.elem (Jvm.Term.field (Jvm.Term.string "FallenHouses$Text" (86 : Nat)) "java/lang/String" "value" "[B") (Jvm.Term.int (56 : Int32))) (Jvm.Term.int (108 : Int32))).before args s = true := pm_ar (pm_ar (pm_al (pm_ar (pm_al (pm_ar (pm_al (pm_ar (pm_ar (h)))))))))
theorem pm_fm_123 {args : Array Value} {s : State} (h : pm_fl args s) : (Jvm.Cond.eq (Jvm.Term.elem (Jvm.Term.field (Jvm.Term.string "FallenHouses$Text" (86 : Nat)) "java/lang/String" "value" "[B") (Jvm.Term.int (57 : Int32))) (Jvm.Term.int (108 : Int32))).before args s = true := pm_al (pm_ar (pm_ar (pm_al (pm_ar (pm_al (pm_ar (pm_ar (h))))))))
theorem pm_fm_124 {args : Array Value} {s : State} (h : pm_fl args s) : (Jvm.Cond.eq (Jvm.Term.elem (Jvm.Term.field (Jvm.Term.string "FallenHouses$Text" (86 : Nat)) "java/lang/String" "value" "[B") (Jvm.Term.int (58 : Int32))) (Jvm.Term.int (32 : Int32))).before args s = true := pm_al (pm_ar (pm_ar (pm_ar (pm_al (pm_ar (pm_al (pm_ar (pm_ar (h)))))))))
theorem pm_fm_125 {args : Array Value} {s : State} (h : pm_fl args s) : (Jvm.Cond.eq (Jvm.Term.elem (Jvm.Term.field (Jvm.Term.string "FallenHouses$Text" (86 : Nat)) "java/lang/String" "value" "[B") (Jvm.Term.int (59 : Int32))) (Jvm.Term.int (114 : Int32))).before args s = true := pm_ar (pm_ar (pm_ar (pm_ar (pm_al (pm_ar (pm_al (pm_ar (pm_ar (h)))))))))
theorem pm_fm_126 {args : Array Value} {s : State} (h : pm_fl args s) : (Jvm.Cond.eq (Jvm.Term.elem (Jvm.Term.field (Jvm.Term.string "FallenHouses$Text" (86 : Nat)) "java/lang/String" "value" "[B") (Jvm.Term.int (60 : Int32))) (Jvm.Term.int (97 : Int32))).before args s = true := pm_al (pm_al (pm_al (pm_ar (pm_ar (pm_al (pm_ar (pm_ar (h))))))))
theorem pm_fm_127 {args : Array Value} {s : State} (h : pm_fl args s) : (Jvm.Cond.eq (Jvm.Term.elem (Jvm.Term.field (Jvm.Term.string "FallenHouses$Text" (86 : Nat)) "java/lang/String" "value" "[B") (Jvm.Term.int (61 : Int32))) (Jvm.Term.int (110 : Int32))).before args s = true := pm_al (pm_ar (pm_al (pm_al (pm_ar (pm_ar (pm_al (pm_ar (pm_ar (h)))))))))
theorem pm_fm_128 {args : Array Value} {s : State} (h : pm_fl args s) : (Jvm.Cond.eq (Jvm.Term.elem (Jvm.Term.field (Jvm.Term.string "FallenHouses$Text" (86 : Nat)) "java/lang/String" "value" "[B") (Jvm.Term.int (62 : Int32))) (Jvm.Term.int (107 : Int32))).before args s = true := pm_ar (pm_ar (pm_al (pm_al (pm_ar (pm_ar (pm_al (pm_ar (pm_ar (h)))))))))
theorem pm_fm_129 {args : Array Value} {s : State} (h : pm_fl args s) : (Jvm.Cond.eq (Jvm.Term.elem (Jvm.Term.field (Jvm.Term.string "FallenHouses$Text" (86 : Nat)) "java/lang/String" "value" "[B") (Jvm.Term.int (63 : Int32))) (Jvm.Term.int (32 : Int32))).before args s = true := pm_al (pm_ar (pm_al (pm_ar (pm_ar (pm_al (pm_ar (pm_ar (h))))))))
theorem pm_fm_130 {args : Array Value} {s : State} (h : pm_fl args s) : (Jvm.Cond.eq (Jvm.Term.elem (Jvm.Term.field (Jvm.Term.string "FallenHouses$Text" (86 : Nat)) "java/lang/String" "value" "[B") (Jvm.Term.int (64 : Int32))) (Jvm.Term.int (105 : Int32))).before args s = true := pm_al (pm_ar (pm_ar (pm_al (pm_ar (pm_ar (pm_al (pm_ar (pm_ar (h)))))))))
theorem pm_fm_131 {args : Array Value} {s : State} (h : pm_fl args s) : (Jvm.Cond.eq (Jvm.Term.elem (Jvm.Term.field (Jvm.Term.string "FallenHouses$Text" (86 : Nat)) "java/lang/String" "value" "[B") (Jvm.Term.int (65 : Int32))) (Jvm.Term.int (102 : Int32))).before args s = true := pm_ar (pm_ar (pm_ar (pm_al (pm_ar (pm_ar (pm_al (pm_ar (pm_ar (h)))))))))
theorem pm_fm_132 {args : Array Value} {s : State} (h : pm_fl args s) : (Jvm.Cond.eq (Jvm.Term.elem (Jvm.Term.field (Jvm.Term.string "FallenHouses$Text" (86 : Nat)) "java/lang/String" "value" "[B") (Jvm.Term.int (66 : Int32))) (Jvm.Term.int (32 : Int32))).before args s = true := pm_al (pm_al (pm_ar (pm_ar (pm_ar (pm_al (pm_ar (pm_ar (h))))))))
theorem pm_fm_133 {args : Array Value} {s : State} (h : pm_fl args s) : (Jvm.Cond.eq (Jvm.Term.elem (Jvm.Term.field (Jvm.Term.string "FallenHouses$Text" (86 : Nat)) "java/lang/String" "value" "[B") (Jvm.Term.int (67 : Int32))) (Jvm.Term.int (97 : Int32))).before args s = true := pm_al (pm_ar (pm_al (pm_ar (pm_ar (pm_ar (pm_al (pm_ar (pm_ar (h)))))))))
theorem pm_fm_134 {args : Array Value} {s : State} (h : pm_fl args s) : (Jvm.Cond.eq (Jvm.Term.elem (Jvm.Term.field (Jvm.Term.string "FallenHouses$Text" (86 : Nat)) "java/lang/String" "value" "[B") (Jvm.Term.int (68 : Int32))) (Jvm.Term.int (110 : Int32))).before args s = true := pm_ar (pm_ar (pm_al (pm_ar (pm_ar (pm_ar (pm_al (pm_ar (pm_ar (h)))))))))
theorem pm_fm_135 {args : Array Value} {s : State} (h : pm_fl args s) : (Jvm.Cond.eq (Jvm.Term.elem (Jvm.Term.field (Jvm.Term.string "FallenHouses$Text" (86 : Nat)) "java/lang/String" "value" "[B") (Jvm.Term.int (69 : Int32))) (Jvm.Term.int (100 : Int32))).before args s = true := pm_al (pm_ar (pm_ar (pm_ar (pm_ar (pm_al (pm_ar (pm_ar (h))))))))
theorem pm_fm_136 {args : Array Value} {s : State} (h : pm_fl args s) : (Jvm.Cond.eq (Jvm.Term.elem (Jvm.Term.field (Jvm.Term.string "FallenHouses$Text" (86 : Nat)) "java/lang/String" "value" "[B") (Jvm.Term.int (70 : Int32))) (Jvm.Term.int (32 : Int32))).before args s = true := pm_al (pm_ar (pm_ar (pm_ar (pm_ar (pm_ar (pm_al (pm_ar (pm_ar (h)))))))))
theorem pm_fm_137 {args : Array Value} {s : State} (h : pm_fl args s) : (Jvm.Cond.eq (Jvm.Term.elem (Jvm.Term.field (Jvm.Term.string "FallenHouses$Text" (86 : Nat)) "java/lang/String" "value" "[B") (Jvm.Term.int (71 : Int32))) (Jvm.Term.int (111 : Int32))).before args s = true := pm_ar (pm_ar (pm_ar (pm_ar (pm_ar (pm_ar (pm_al (pm_ar (pm_ar (h)))))))))
theorem pm_fm_138 {args : Array Value} {s : State} (h : pm_fl args s) : (Jvm.Cond.eq (Jvm.Term.elem (Jvm.Term.field (Jvm.Term.string "FallenHouses$Text" (86 : Nat)) "java/lang/String" "value" "[B") (Jvm.Term.int (72 : Int32))) (Jvm.Term.int (114 : Int32))).before args s = true := pm_al (pm_al (pm_al (pm_al (pm_al (pm_ar (pm_ar (pm_ar (h))))))))
theorem pm_fm_139 {args : Array Value} {s : State} (h : pm_fl args s) : (Jvm.Cond.eq (Jvm.Term.elem (Jvm.Term.field (Jvm.Term.string "FallenHouses$Text" (86 : Nat)) "java/lang/String" "value" "[B") (Jvm.Term.int (73 : Int32))) (Jvm.Term.int (32 : Int32))).before args s = true := pm_ar (pm_al (pm_al (pm_al (pm_al (pm_ar (pm_ar (pm_ar (h))))))))
theorem pm_fm_140 {args : Array Value} {s : State} (h : pm_fl args s) : (Jvm.Cond.eq (Jvm.Term.elem (Jvm.Term.field (Jvm.Term.string "FallenHouses$Text" (86 : Nat)) "java/lang/String" "value" "[B") (Jvm.Term.int (74 : Int32))) (Jvm.Term.int (110 : Int32))).before args s = true := pm_al (pm_ar (pm_al (pm_al (pm_al (pm_ar (pm_ar (pm_ar (h))))))))
theorem pm_fm_141 {args : Array Value} {s : State} (h : pm_fl args s) : (Jvm.Cond.eq (Jvm.Term.elem (Jvm.Term.field (Jvm.Term.string "FallenHouses$Text" (86 : Nat)) "java/lang/String" "value" "[B") (Jvm.Term.int (75 : Int32))) (Jvm.Term.int (111 : Int32))).before args s = true := pm_al (pm_ar (pm_ar (pm_al (pm_al (pm_al (pm_ar (pm_ar (pm_ar (h)))))))))
theorem pm_fm_142 {args : Array Value} {s : State} (h : pm_fl args s) : (Jvm.Cond.eq (Jvm.Term.elem (Jvm.Term.field (Jvm.Term.string "FallenHouses$Text" (86 : Nat)) "java/lang/String" "value" "[B") (Jvm.Term.int (76 : Int32))) (Jvm.Term.int (116 : Int32))).before args s = true := pm_ar (pm_ar (pm_ar (pm_al (pm_al (pm_al (pm_ar (pm_ar (pm_ar (h)))))))))
theorem pm_fm_143 {args : Array Value} {s : State} (h : pm_fl args s) : (Jvm.Cond.eq (Jvm.Term.elem (Jvm.Term.field (Jvm.Term.string "FallenHouses$Text" (86 : Nat)) "java/lang/String" "value" "[B") (Jvm.Term.int (77 : Int32))) (Jvm.Term.int (32 : Int32))).before args s = true := pm_al (pm_al (pm_ar (pm_al (pm_al (pm_ar (pm_ar (pm_ar (h))))))))
theorem pm_fm_144 {args : Array Value} {s : State} (h : pm_fl args s) : (Jvm.Cond.eq (Jvm.Term.elem (Jvm.Term.field (Jvm.Term.string "FallenHouses$Text" (86 : Nat)) "java/lang/String" "value" "[B") (Jvm.Term.int (78 : Int32))) (Jvm.Term.int (111 : Int32))).before args s = true := pm_al (pm_ar (pm_al (pm_ar (pm_al (pm_al (pm_ar (pm_ar (pm_ar (h)))))))))
theorem pm_fm_145 {args : Array Value} {s : State} (h : pm_fl args s) : (Jvm.Cond.eq (Jvm.Term.elem (Jvm.Term.field (Jvm.Term.string "FallenHouses$Text" (86 : Nat)) "java/lang/String" "value" "[B") (Jvm.Term.int (79 : Int32))) (Jvm.Term.int (114 : Int32))).before args s = true := pm_ar (pm_ar (pm_al (pm_ar (pm_al (pm_al (pm_ar (pm_ar (pm_ar (h)))))))))
theorem pm_fm_146 {args : Array Value} {s : State} (h : pm_fl args s) : (Jvm.Cond.eq (Jvm.Term.elem (Jvm.Term.field (Jvm.Term.string "FallenHouses$Text" (86 : Nat)) "java/lang/String" "value" "[B") (Jvm.Term.int (80 : Int32))) (Jvm.Term.int (100 : Int32))).before args s = true := pm_al (pm_ar (pm_ar (pm_al (pm_al (pm_ar (pm_ar (pm_ar (h))))))))
theorem pm_fm_147 {args : Array Value} {s : State} (h : pm_fl args s) : (Jvm.Cond.eq (Jvm.Term.elem (Jvm.Term.field (Jvm.Term.string "FallenHouses$Text" (86 : Nat)) "java/lang/String" "value" "[B") (Jvm.Term.int (81 : Int32))) (Jvm.Term.int (101 : Int32))).before args s = true := pm_al (pm_ar (pm_ar (pm_ar (pm_al (pm_al (pm_ar (pm_ar (pm_ar (h)))))))))
theorem pm_fm_148 {args : Array Value} {s : State} (h : pm_fl args s) : (Jvm.Cond.eq (Jvm.Term.elem (Jvm.Term.field (Jvm.Term.string "FallenHouses$Text" (86 : Nat)) "java/lang/String" "value" "[B") (Jvm.Term.int (82 : Int32))) (Jvm.Term.int (114 : Int32))).before args s = true := pm_ar (pm_ar (pm_ar (pm_ar (pm_al (pm_al (pm_ar (pm_ar (pm_ar (h)))))))))
theorem pm_fm_149 {args : Array Value} {s : State} (h : pm_fl args s) : (Jvm.Cond.eq (Jvm.Term.elem (Jvm.Term.field (Jvm.Term.string "FallenHouses$Text" (86 : Nat)) "java/lang/String" "value" "[B") (Jvm.Term.int (83 : Int32))) (Jvm.Term.int (32 : Int32))).before args s = true := pm_al (pm_al (pm_al (pm_ar (pm_al (pm_ar (pm_ar (pm_ar (h))))))))
theorem pm_fm_150 {args : Array Value} {s : State} (h : pm_fl args s) : (Jvm.Cond.eq (Jvm.Term.elem (Jvm.Term.field (Jvm.Term.string "FallenHouses$Text" (86 : Nat)) "java/lang/String" "value" "[B") (Jvm.Term.int (84 : Int32))) (Jvm.Term.int (97 : Int32))).before args s = true := pm_al (pm_ar (pm_al (pm_al (pm_ar (pm_al (pm_ar (pm_ar (pm_ar (h)))))))))
theorem pm_fm_151 {args : Array Value} {s : State} (h : pm_fl args s) : (Jvm.Cond.eq (Jvm.Term.elem (Jvm.Term.field (Jvm.Term.string "FallenHouses$Text" (86 : Nat)) "java/lang/String" "value" "[B") (Jvm.Term.int (85 : Int32))) (Jvm.Term.int (109 : Int32))).before args s = true := pm_ar (pm_ar (pm_al (pm_al (pm_ar (pm_al (pm_ar (pm_ar (pm_ar (h)))))))))
theorem pm_fm_152 {args : Array Value} {s : State} (h : pm_fl args s) : (Jvm.Cond.eq (Jvm.Term.elem (Jvm.Term.field (Jvm.Term.string "FallenHouses$Text" (86 : Nat)) "java/lang/String" "value" "[B") (Jvm.Term.int (86 : Int32))) (Jvm.Term.int (111 : Int32))).before args s = true := pm_al (pm_ar (pm_al (pm_ar (pm_al (pm_ar (pm_ar (pm_ar (h))))))))
theorem pm_fm_153 {args : Array Value} {s : State} (h : pm_fl args s) : (Jvm.Cond.eq (Jvm.Term.elem (Jvm.Term.field (Jvm.Term.string "FallenHouses$Text" (86 : Nat)) "java/lang/String" "value" "[B") (Jvm.Term.int (87 : Int32))) (Jvm.Term.int (117 : Int32))).before args s = true := pm_al (pm_ar (pm_ar (pm_al (pm_ar (pm_al (pm_ar (pm_ar (pm_ar (h)))))))))
theorem pm_fm_154 {args : Array Value} {s : State} (h : pm_fl args s) : (Jvm.Cond.eq (Jvm.Term.elem (Jvm.Term.field (Jvm.Term.string "FallenHouses$Text" (86 : Nat)) "java/lang/String" "value" "[B") (Jvm.Term.int (88 : Int32))) (Jvm.Term.int (110 : Int32))).before args s = true := pm_ar (pm_ar (pm_ar (pm_al (pm_ar (pm_al (pm_ar (pm_ar (pm_ar (h)))))))))
theorem pm_fm_155 {args : Array Value} {s : State} (h : pm_fl args s) : (Jvm.Cond.eq (Jvm.Term.elem (Jvm.Term.field (Jvm.Term.string "FallenHouses$Text" (86 : Nat)) "java/lang/String" "value" "[B") (Jvm.Term.int (89 : Int32))) (Jvm.Term.int (116 : Int32))).before args s = true := pm_al (pm_al (pm_ar (pm_ar (pm_al (pm_ar (pm_ar (pm_ar (h))))))))
theorem pm_fm_156 {args : Array Value} {s : State} (h : pm_fl args s) : (Jvm.Cond.eq (Jvm.Term.elem (Jvm.Term.field (Jvm.Term.string "FallenHouses$Text" (86 : Nat)) "java/lang/String" "value" "[B") (Jvm.Term.int (90 : Int32))) (Jvm.Term.int (32 : Int32))).before args s = true := pm_al (pm_ar (pm_al (pm_ar (pm_ar (pm_al (pm_ar (pm_ar (pm_ar (h)))))))))
theorem pm_fm_157 {args : Array Value} {s : State} (h : pm_fl args s) : (Jvm.Cond.eq (Jvm.Term.elem (Jvm.Term.field (Jvm.Term.string "FallenHouses$Text" (86 : Nat)) "java/lang/String" "value" "[B") (Jvm.Term.int (91 : Int32))) (Jvm.Term.int (97 : Int32))).before args s = true := pm_ar (pm_ar (pm_al (pm_ar (pm_ar (pm_al (pm_ar (pm_ar (pm_ar (h)))))))))
theorem pm_fm_158 {args : Array Value} {s : State} (h : pm_fl args s) : (Jvm.Cond.eq (Jvm.Term.elem (Jvm.Term.field (Jvm.Term.string "FallenHouses$Text" (86 : Nat)) "java/lang/String" "value" "[B") (Jvm.Term.int (92 : Int32))) (Jvm.Term.int (98 : Int32))).before args s = true := pm_al (pm_ar (pm_ar (pm_ar (pm_al (pm_ar (pm_ar (pm_ar (h))))))))
theorem pm_fm_159 {args : Array Value} {s : State} (h : pm_fl args s) : (Jvm.Cond.eq (Jvm.Term.elem (Jvm.Term.field (Jvm.Term.string "FallenHouses$Text" (86 : Nat)) "java/lang/String" "value" "[B") (Jvm.Term.int (93 : Int32))) (Jvm.Term.int (111 : Int32))).before args s = true := pm_al (pm_ar (pm_ar (pm_ar (pm_ar (pm_al (pm_ar (pm_ar (pm_ar (h)))))))))
theorem pm_fm_160 {args : Array Value} {s : State} (h : pm_fl args s) : (Jvm.Cond.eq (Jvm.Term.elem (Jvm.Term.field (Jvm.Term.string "FallenHouses$Text" (86 : Nat)) "java/lang/String" "value" "[B") (Jvm.Term.int (94 : Int32))) (Jvm.Term.int (118 : Int32))).before args s = true := pm_ar (pm_ar (pm_ar (pm_ar (pm_ar (pm_al (pm_ar (pm_ar (pm_ar (h)))))))))
theorem pm_fm_161 {args : Array Value} {s : State} (h : pm_fl args s) : (Jvm.Cond.eq (Jvm.Term.elem (Jvm.Term.field (Jvm.Term.string "FallenHouses$Text" (86 : Nat)) "java/lang/String" "value" "[B") (Jvm.Term.int (95 : Int32))) (Jvm.Term.int (101 : Int32))).before args s = true := pm_al (pm_al (pm_al (pm_al (pm_ar (pm_ar (pm_ar (pm_ar (h))))))))
theorem pm_fm_162 {args : Array Value} {s : State} (h : pm_fl args s) : (Jvm.Cond.eq (Jvm.Term.elem (Jvm.Term.field (Jvm.Term.string "FallenHouses$Text" (86 : Nat)) "java/lang/String" "value" "[B") (Jvm.Term.int (96 : Int32))) (Jvm.Term.int (32 : Int32))).before args s = true := pm_ar (pm_al (pm_al (pm_al (pm_ar (pm_ar (pm_ar (pm_ar (h))))))))
theorem pm_fm_163 {args : Array Value} {s : State} (h : pm_fl args s) : (Jvm.Cond.eq (Jvm.Term.elem (Jvm.Term.field (Jvm.Term.string "FallenHouses$Text" (86 : Nat)) "java/lang/String" "value" "[B") (Jvm.Term.int (97 : Int32))) (Jvm.Term.int (100 : Int32))).before args s = true := pm_al (pm_ar (pm_al (pm_al (pm_ar (pm_ar (pm_ar (pm_ar (h))))))))
theorem pm_fm_164 {args : Array Value} {s : State} (h : pm_fl args s) : (Jvm.Cond.eq (Jvm.Term.elem (Jvm.Term.field (Jvm.Term.string "FallenHouses$Text" (86 : Nat)) "java/lang/String" "value" "[B") (Jvm.Term.int (98 : Int32))) (Jvm.Term.int (97 : Int32))).before args s = true := pm_al (pm_ar (pm_ar (pm_al (pm_al (pm_ar (pm_ar (pm_ar (pm_ar (h)))))))))
theorem pm_fm_165 {args : Array Value} {s : State} (h : pm_fl args s) : (Jvm.Cond.eq (Jvm.Term.elem (Jvm.Term.field (Jvm.Term.string "FallenHouses$Text" (86 : Nat)) "java/lang/String" "value" "[B") (Jvm.Term.int (99 : Int32))) (Jvm.Term.int (116 : Int32))).before args s = true := pm_ar (pm_ar (pm_ar (pm_al (pm_al (pm_ar (pm_ar (pm_ar (pm_ar (h)))))))))
theorem pm_fm_166 {args : Array Value} {s : State} (h : pm_fl args s) : (Jvm.Cond.eq (Jvm.Term.elem (Jvm.Term.field (Jvm.Term.string "FallenHouses$Text" (86 : Nat)) "java/lang/String" "value" "[B") (Jvm.Term.int (100 : Int32))) (Jvm.Term.int (101 : Int32))).before args s = true := pm_al (pm_al (pm_ar (pm_al (pm_ar (pm_ar (pm_ar (pm_ar (h))))))))
theorem pm_fm_167 {args : Array Value} {s : State} (h : pm_fl args s) : (Jvm.Cond.eq (Jvm.Term.elem (Jvm.Term.field (Jvm.Term.string "FallenHouses$Text" (86 : Nat)) "java/lang/String" "value" "[B") (Jvm.Term.int (101 : Int32))) (Jvm.Term.int (100 : Int32))).before args s = true := pm_al (pm_ar (pm_al (pm_ar (pm_al (pm_ar (pm_ar (pm_ar (pm_ar (h)))))))))
theorem pm_fm_168 {args : Array Value} {s : State} (h : pm_fl args s) : (Jvm.Cond.eq (Jvm.Term.elem (Jvm.Term.field (Jvm.Term.string "FallenHouses$Text" (86 : Nat)) "java/lang/String" "value" "[B") (Jvm.Term.int (102 : Int32))) (Jvm.Term.int (32 : Int32))).before args s = true := pm_ar (pm_ar (pm_al (pm_ar (pm_al (pm_ar (pm_ar (pm_ar (pm_ar (h)))))))))
theorem pm_fm_169 {args : Array Value} {s : State} (h : pm_fl args s) : (Jvm.Cond.eq (Jvm.Term.elem (Jvm.Term.field (Jvm.Term.string "FallenHouses$Text" (86 : Nat)) "java/lang/String" "value" "[B") (Jvm.Term.int (103 : Int32))) (Jvm.Term.int (119 : Int32))).before args s = true := pm_al (pm_ar (pm_ar (pm_al (pm_ar (pm_ar (pm_ar (pm_ar (h))))))))
theorem pm_fm_170 {args : Array Value} {s : State} (h : pm_fl args s) : (Jvm.Cond.eq (Jvm.Term.elem (Jvm.Term.field (Jvm.Term.string "FallenHouses$Text" (86 : Nat)) "java/lang/String" "value" "[B") (Jvm.Term.int (104 : Int32))) (Jvm.Term.int (105 : Int32))).before args s = true := pm_al (pm_ar (pm_ar (pm_ar (pm_al (pm_ar (pm_ar (pm_ar (pm_ar (h)))))))))
theorem pm_fm_171 {args : Array Value} {s : State} (h : pm_fl args s) : (Jvm.Cond.eq (Jvm.Term.elem (Jvm.Term.field (Jvm.Term.string "FallenHouses$Text" (86 : Nat)) "java/lang/String" "value" "[B") (Jvm.Term.int (105 : Int32))) (Jvm.Term.int (116 : Int32))).before args s = true := pm_ar (pm_ar (pm_ar (pm_ar (pm_al (pm_ar (pm_ar (pm_ar (pm_ar (h)))))))))
theorem pm_fm_172 {args : Array Value} {s : State} (h : pm_fl args s) : (Jvm.Cond.eq (Jvm.Term.elem (Jvm.Term.field (Jvm.Term.string "FallenHouses$Text" (86 : Nat)) "java/lang/String" "value" "[B") (Jvm.Term.int (106 : Int32))) (Jvm.Term.int (104 : Int32))).before args s = true := pm_al (pm_al (pm_al (pm_ar (pm_ar (pm_ar (pm_ar (pm_ar (h))))))))
theorem pm_fm_173 {args : Array Value} {s : State} (h : pm_fl args s) : (Jvm.Cond.eq (Jvm.Term.elem (Jvm.Term.field (Jvm.Term.string "FallenHouses$Text" (86 : Nat)) "java/lang/String" "value" "[B") (Jvm.Term.int (107 : Int32))) (Jvm.Term.int (105 : Int32))).before args s = true := pm_al (pm_ar (pm_al (pm_al (pm_ar (pm_ar (pm_ar (pm_ar (pm_ar (h)))))))))
theorem pm_fm_174 {args : Array Value} {s : State} (h : pm_fl args s) : (Jvm.Cond.eq (Jvm.Term.elem (Jvm.Term.field (Jvm.Term.string "FallenHouses$Text" (86 : Nat)) "java/lang/String" "value" "[B") (Jvm.Term.int (108 : Int32))) (Jvm.Term.int (110 : Int32))).before args s = true := pm_ar (pm_ar (pm_al (pm_al (pm_ar (pm_ar (pm_ar (pm_ar (pm_ar (h)))))))))
theorem pm_fm_175 {args : Array Value} {s : State} (h : pm_fl args s) : (Jvm.Cond.eq (Jvm.Term.elem (Jvm.Term.field (Jvm.Term.string "FallenHouses$Text" (86 : Nat)) "java/lang/String" "value" "[B") (Jvm.Term.int (109 : Int32))) (Jvm.Term.int (32 : Int32))).before args s = true := pm_al (pm_ar (pm_al (pm_ar (pm_ar (pm_ar (pm_ar (pm_ar (h))))))))
theorem pm_fm_176 {args : Array Value} {s : State} (h : pm_fl args s) : (Jvm.Cond.eq (Jvm.Term.elem (Jvm.Term.field (Jvm.Term.string "FallenHouses$Text" (86 : Nat)) "java/lang/String" "value" "[B") (Jvm.Term.int (110 : Int32))) (Jvm.Term.int (104 : Int32))).before args s = true := pm_al (pm_ar (pm_ar (pm_al (pm_ar (pm_ar (pm_ar (pm_ar (pm_ar (h)))))))))
theorem pm_fm_177 {args : Array Value} {s : State} (h : pm_fl args s) : (Jvm.Cond.eq (Jvm.Term.elem (Jvm.Term.field (Jvm.Term.string "FallenHouses$Text" (86 : Nat)) "java/lang/String" "value" "[B") (Jvm.Term.int (111 : Int32))) (Jvm.Term.int (101 : Int32))).before args s = true := pm_ar (pm_ar (pm_ar (pm_al (pm_ar (pm_ar (pm_ar (pm_ar (pm_ar (h)))))))))
theorem pm_fm_178 {args : Array Value} {s : State} (h : pm_fl args s) : (Jvm.Cond.eq (Jvm.Term.elem (Jvm.Term.field (Jvm.Term.string "FallenHouses$Text" (86 : Nat)) "java/lang/String" "value" "[B") (Jvm.Term.int (112 : Int32))) (Jvm.Term.int (108 : Int32))).before args s = true := pm_al (pm_al (pm_ar (pm_ar (pm_ar (pm_ar (pm_ar (pm_ar (h))))))))
theorem pm_fm_179 {args : Array Value} {s : State} (h : pm_fl args s) : (Jvm.Cond.eq (Jvm.Term.elem (Jvm.Term.field (Jvm.Term.string "FallenHouses$Text" (86 : Nat)) "java/lang/String" "value" "[B") (Jvm.Term.int (113 : Int32))) (Jvm.Term.int (100 : Int32))).before args s = true := pm_al (pm_ar (pm_al (pm_ar (pm_ar (pm_ar (pm_ar (pm_ar (pm_ar (h)))))))))
theorem pm_fm_180 {args : Array Value} {s : State} (h : pm_fl args s) : (Jvm.Cond.eq (Jvm.Term.elem (Jvm.Term.field (Jvm.Term.string "FallenHouses$Text" (86 : Nat)) "java/lang/String" "value" "[B") (Jvm.Term.int (114 : Int32))) (Jvm.Term.int (32 : Int32))).before args s = true := pm_ar (pm_ar (pm_al (pm_ar (pm_ar (pm_ar (pm_ar (pm_ar (pm_ar (h)))))))))
theorem pm_st_6 {args : Array Value} {s : State} (h : pm_fl args s) : ∀ j, j < 115 → (Cond.eq (.elem (Jvm.Term.field (Jvm.Term.string "FallenHouses$Text" (86 : Nat)) "java/lang/String" "value" "[B") (.int (Int32.ofNat j))) (.int (pm_a6.getD j 0))).before args s = true := by
  intro j hj
  match j, hj with
  | 0, _ => exact pm_fm_66 h
  | 1, _ => exact pm_fm_67 h
  | 2, _ => exact pm_fm_68 h
  | 3, _ => exact pm_fm_69 h
  | 4, _ => exact pm_fm_70 h
  | 5, _ => exact pm_fm_71 h
  | 6, _ => exact pm_fm_72 h
  | 7, _ => exact pm_fm_73 h
  | 8, _ => exact pm_fm_74 h
  | 9, _ => exact pm_fm_75 h
  | 10, _ => exact pm_fm_76 h
  | 11, _ => exact pm_fm_77 h
  | 12, _ => exact pm_fm_78 h
  | 13, _ => exact pm_fm_79 h
  | 14, _ => exact pm_fm_80 h
  | 15, _ => exact pm_fm_81 h
  | 16, _ => exact pm_fm_82 h
  | 17, _ => exact pm_fm_83 h
  | 18, _ => exact pm_fm_84 h
  | 19, _ => exact pm_fm_85 h
  | 20, _ => exact pm_fm_86 h
  | 21, _ => exact pm_fm_87 h
  | 22, _ => exact pm_fm_88 h
  | 23, _ => exact pm_fm_89 h
  | 24, _ => exact pm_fm_90 h
  | 25, _ => exact pm_fm_91 h
  | 26, _ => exact pm_fm_92 h
  | 27, _ => exact pm_fm_93 h
  | 28, _ => exact pm_fm_94 h
  | 29, _ => exact pm_fm_95 h
  | 30, _ => exact pm_fm_96 h
  | 31, _ => exact pm_fm_97 h
  | 32, _ => exact pm_fm_98 h
  | 33, _ => exact pm_fm_99 h
  | 34, _ => exact pm_fm_100 h
  | 35, _ => exact pm_fm_101 h
  | 36, _ => exact pm_fm_102 h
  | 37, _ => exact pm_fm_103 h
  | 38, _ => exact pm_fm_104 h
  | 39, _ => exact pm_fm_105 h
  | 40, _ => exact pm_fm_106 h
  | 41, _ => exact pm_fm_107 h
  | 42, _ => exact pm_fm_108 h
  | 43, _ => exact pm_fm_109 h
  | 44, _ => exact pm_fm_110 h
  | 45, _ => exact pm_fm_111 h
  | 46, _ => exact pm_fm_112 h
  | 47, _ => exact pm_fm_113 h
  | 48, _ => exact pm_fm_114 h
  | 49, _ => exact pm_fm_115 h
  | 50, _ => exact pm_fm_116 h
  | 51, _ => exact pm_fm_117 h
  | 52, _ => exact pm_fm_118 h
  | 53, _ => exact pm_fm_119 h
  | 54, _ => exact pm_fm_120 h
  | 55, _ => exact pm_fm_121 h
  | 56, _ => exact pm_fm_122 h
  | 57, _ => exact pm_fm_123 h
  | 58, _ => exact pm_fm_124 h
  | 59, _ => exact pm_fm_125 h
  | 60, _ => exact pm_fm_126 h
  | 61, _ => exact pm_fm_127 h
  | 62, _ => exact pm_fm_128 h
  | 63, _ => exact pm_fm_129 h
  | 64, _ => exact pm_fm_130 h
  | 65, _ => exact pm_fm_131 h
  | 66, _ => exact pm_fm_132 h
  | 67, _ => exact pm_fm_133 h
  | 68, _ => exact pm_fm_134 h
  | 69, _ => exact pm_fm_135 h
  | 70, _ => exact pm_fm_136 h
  | 71, _ => exact pm_fm_137 h
  | 72, _ => exact pm_fm_138 h
  | 73, _ => exact pm_fm_139 h
  | 74, _ => exact pm_fm_140 h
  | 75, _ => exact pm_fm_141 h
  | 76, _ => exact pm_fm_142 h
  | 77, _ => exact pm_fm_143 h
  | 78, _ => exact pm_fm_144 h
  | 79, _ => exact pm_fm_145 h
  | 80, _ => exact pm_fm_146 h
  | 81, _ => exact pm_fm_147 h
  | 82, _ => exact pm_fm_148 h
  | 83, _ => exact pm_fm_149 h
  | 84, _ => exact pm_fm_150 h
  | 85, _ => exact pm_fm_151 h
  | 86, _ => exact pm_fm_152 h
  | 87, _ => exact pm_fm_153 h
  | 88, _ => exact pm_fm_154 h
  | 89, _ => exact pm_fm_155 h
  | 90, _ => exact pm_fm_156 h
  | 91, _ => exact pm_fm_157 h
  | 92, _ => exact pm_fm_158 h
  | 93, _ => exact pm_fm_159 h
  | 94, _ => exact pm_fm_160 h
  | 95, _ => exact pm_fm_161 h
  | 96, _ => exact pm_fm_162 h
  | 97, _ => exact pm_fm_163 h
  | 98, _ => exact pm_fm_164 h
  | 99, _ => exact pm_fm_165 h
  | 100, _ => exact pm_fm_166 h
  | 101, _ => exact pm_fm_167 h
  | 102, _ => exact pm_fm_168 h
  | 103, _ => exact pm_fm_169 h
  | 104, _ => exact pm_fm_170 h
  | 105, _ => exact pm_fm_171 h
  | 106, _ => exact pm_fm_172 h
  | 107, _ => exact pm_fm_173 h
  | 108, _ => exact pm_fm_174 h
  | 109, _ => exact pm_fm_175 h
  | 110, _ => exact pm_fm_176 h
  | 111, _ => exact pm_fm_177 h
  | 112, _ => exact pm_fm_178 h
  | 113, _ => exact pm_fm_179 h
  | 114, _ => exact pm_fm_180 h
  | j + 115, hj => exact absurd hj (by omega)
theorem pm_st_5 {args : Array Value} {s : State} {A : Nat → Prop} (h : pm_fl args s) (hstr : (Cond.stringRef "FallenHouses$Text" 86 pm_text).before args s = true) (hA : ∀ a : Nat, a < s.heap.size → ¬ A a) (xs : Nat → Int32) : ∃ q v : Nat, va_O "java/lang/String" q A s s.heap ∧ va_OF "java/lang/String" "coder" "B" (.int 0) q A s s.heap ∧ va_OF "java/lang/String" "value" "[B" (.ref v) q A s s.heap ∧ va_T .byte v 115 (fun j => .int (pm_IS xs 6 j)) A s s.heap ∧ vk_R "FallenHouses$Text" 86 pm_text q s := by
  have one : ∀ i : Nat, i < 1 → i = 0 := fun i hi => by omega
  have c1 : ∀ i : Nat, i < 1 → ([115] : List Nat).getD i 0 < 2 ^ 31 := by
    intro i hi
    rw [one i hi]
    decide
  have c2 : ∀ i : Nat, i < 1 → (Cond.eq (.length (Jvm.Term.field (Jvm.Term.string "FallenHouses$Text" (86 : Nat)) "java/lang/String" "value" "[B")) (.int (Int32.ofNat (([115] : List Nat).getD i 0)))).before args s = true := by
    intro i hi
    rw [one i hi]
    exact pm_fm_65 h
  have c3 : ∀ i : Nat, i < 1 → ∀ j : Nat, j < ([115] : List Nat).getD i 0 → (Cond.eq (.elem (Jvm.Term.field (Jvm.Term.string "FallenHouses$Text" (86 : Nat)) "java/lang/String" "value" "[B") (.int (Int32.ofNat j))) (.int ((([pm_a6] : List (List Int32)).getD i []).getD j 0))).before args s = true := by
    intro i hi j hj
    rw [one i hi] at hj ⊢
    exact pm_st_6 h j hj
  obtain ⟨adK, adV, h1, h2⟩ := vk_Sof (args := args) (s := s) (N := 1) (tm := fun _ => (Jvm.Term.string "FallenHouses$Text" (86 : Nat))) (len := [115]) (byt := [pm_a6]) (A := A) c1 (fun _ _ => pm_fm_62 h) (fun _ _ => pm_fm_63 h) (fun _ _ => pm_fm_64 h) c2 c3 (fun i j hi hj hij => absurd ((one i hi).trans (one j hj).symm) hij) hA
  obtain ⟨k1, k2, k3, k4⟩ := h1.1 0 (by decide)
  exact ⟨adK 0, adV 0, k1, k2, k3, k4, vk_R.of hstr (h2 0 (by decide))⟩
theorem pm_fm_15 {args : Array Value} {s : State} (h : pm_fl args s) : (Jvm.Cond.eq (Jvm.Term.static "java/lang/String" "COMPACT_STRINGS" "Z") (Jvm.Term.int (1 : Int32))).before args s = true := pm_al (pm_ar (pm_al (pm_ar (pm_al (pm_al (pm_al (pm_ar (h))))))))
theorem pm_fm_16 {args : Array Value} {s : State} (h : pm_fl args s) : (Jvm.Cond.isRef (Jvm.Term.static "jdk/internal/util/Preconditions" "SIOOBE_FORMATTER" "Ljava/util/function/BiFunction;")).before args s = true := pm_al (pm_ar (pm_ar (pm_al (pm_ar (pm_al (pm_al (pm_al (pm_ar (h)))))))))
theorem pm_fm_2 {args : Array Value} {s : State} (h : pm_fl args s) : (Jvm.Cond.arrayOf (Jvm.Term.arg (0 : Nat)) Jvm.ClassFile.FieldType.int).before args s = true := pm_al (pm_al (pm_al (pm_al (pm_al (pm_al (pm_al (pm_ar (h))))))))
