/-! THE SMALL MACHINE: its steps. -/
def pm_u {α : Type} (f : Nat → Nat → α) (a k : Nat) (v : α) : Nat → Nat → α := fun b j => if b = a ∧ j = k then v else f b j
def pm_z {α : Type} (f : Nat → Nat → α) (a : Nat) (v : α) : Nat → Nat → α := fun b j => if b = a then v else f b j
def pm_t (T : Nat → Nat × Nat) (a : Nat) (v : Nat × Nat) : Nat → Nat × Nat := fun b => if b = a then v else T b
/-- a stretch of n ints goes from the row a (from p on) to the row b (from q on) -/
def pm_cp (I : Nat → Nat → Int32) (a p b q n : Nat) : Nat → Nat → Int32 := fun c j => if c = b ∧ q ≤ j ∧ j < q + n then I a (p + (j - q)) else I c j
/-- a number that is a reference, not null -/
def pm_okr (v : Nat) : Bool := Nat.ble 8 v || (Nat.ble 1 v && Nat.ble v 6)
def pm_unset : Value := .retAddr 0
def pm_islong : Option Value → Bool
  | some v => Nat.beq v.category 2
  | none => false
/-- a local is set; a long that it cuts is no more -/
def pm_set1 (ls : List Value) (i : Nat) (v : Value) : List Value :=
  match i with
  | 0 => ls.set 0 v
  | k + 1 => if pm_islong ls[k]? then (ls.set k pm_unset).set (k + 1) v else ls.set (k + 1) v
def pm_set2 (ls : List Value) (i : Nat) (v : Value) : List Value := (pm_set1 ls i v).set (i + 1) pm_unset
def pm_is (t : Nat × Nat) (a b : Nat) : Bool := Nat.beq t.1 a && Nat.beq t.2 b
def pm_fv (H : pm_H) (ty o k : Nat) : Value :=
  match ty with
  | 0 => .int (H.2.1 o k)
  | 1 => .int (H.2.1 o k)
  | 2 => .long (H.2.2 o k)
  | _ => .ref (H.1.2.1 o k)
def pm_pop : Nat → List Value → List Value → Option (List Value × List Value)
  | 0, st, acc => some (acc, st)
  | n + 1, v :: st, acc => pm_pop n st (v :: acc)
  | _ + 1, [], _ => none
def pm_cat (st : List Value) : Nat := (st.map fun v => v.category).sum
def pm_recv (T : Nat → Nat × Nat) (c : Nat) (as : List Value) : Bool :=
  match c with
  | 0 => true
  | ci + 1 => match as with
    | .ref o :: _ => pm_is (T o) 0 ci
    | _ => false
def pm_icmp (c : Instr) (x y : Int32) : Option Bool :=
  match c with
  | .if_icmp .eq _ => some (decide (x = y))
  | .if_icmp .ne _ => some (decide (x ≠ y))
  | .if_icmp .lt _ => some (decide (x < y))
  | .if_icmp .ge _ => some (decide (y ≤ x))
  | .if_icmp .gt _ => some (decide (y < x))
  | .if_icmp .le _ => some (decide (x ≤ y))
  | _ => none
def pm_icnd (c : Instr) (x : Int32) : Option Bool :=
  match c with
  | .ifCond .eq _ => some (decide (x = 0))
  | .ifCond .ne _ => some (decide (x ≠ 0))
  | .ifCond .lt _ => some (decide (x < 0))
  | .ifCond .ge _ => some (decide (0 ≤ x))
  | .ifCond .gt _ => some (decide (0 < x))
  | .ifCond .le _ => some (decide (x ≤ 0))
  | _ => none
/-- within a row: the place is not below 0 and below n -/
def pm_in (i : Int32) (n : Nat) : Bool := decide (0 ≤ i) && decide (i.toNatClampNeg < n)
abbrev pm_nx (x : pm_C) : Option pm_out := some (.inl x)
abbrev pm_rq (b : Bool) (x : pm_C) : Option pm_out := some (.inr (.inl (b, x)))
abbrev pm_br (b : Bool) (t : Nat) (x : pm_C) : Option pm_out := some (.inr (.inr (.inl (b, t, x))))
abbrev pm_sw (v : Int32) (cs : List (Int32 × Nat)) (d : Nat) (x : pm_C) : Option pm_out := some (.inr (.inr (.inr (.inl (v, cs, d, x)))))
abbrev pm_ca (k : Nat) (as : List Value) (x : pm_C) : Option pm_out := some (.inr (.inr (.inr (.inr (.inl (k, as, x))))))
abbrev pm_re (b : Bool) (v : Int32) (w : Int64) (H : pm_H) : Option pm_out := some (.inr (.inr (.inr (.inr (.inr (b, v, w, H))))))
def pm_load (i : Nat) (x : pm_C) : Option pm_out :=
  match x.1[i]? with
  | some (.int v) => pm_nx (x.1, .int v :: x.2.1, x.2.2)
  | _ => none
def pm_loadl (i : Nat) (x : pm_C) : Option pm_out :=
  match x.1[i]? with
  | some (.long v) => pm_nx (x.1, .long v :: x.2.1, x.2.2)
  | _ => none
def pm_loada (i : Nat) (x : pm_C) : Option pm_out :=
  match x.1[i]? with
  | some (.ref v) => if pm_okr v then pm_nx (x.1, .ref v :: x.2.1, x.2.2) else none
  | _ => none
def pm_stor (i : Nat) (x : pm_C) : Option pm_out :=
  match x.2.1 with
  | .int v :: r => if i < x.1.length then pm_nx (pm_set1 x.1 i (.int v), r, x.2.2) else none
  | _ => none
def pm_storl (i : Nat) (x : pm_C) : Option pm_out :=
  match x.2.1 with
  | .long v :: r => if i + 1 < x.1.length then pm_nx (pm_set2 x.1 i (.long v), r, x.2.2) else none
  | _ => none
def pm_stora (i : Nat) (x : pm_C) : Option pm_out :=
  match x.2.1 with
  | .ref v :: r => if i < x.1.length && pm_okr v then pm_nx (pm_set1 x.1 i (.ref v), r, x.2.2) else none
  | _ => none
def pm_i2 (x : pm_C) (f : Int32 → Int32 → Int32) : Option pm_out :=
  match x.2.1 with
  | .int b :: .int a :: r => pm_nx (x.1, .int (f a b) :: r, x.2.2)
  | _ => none
def pm_l2 (x : pm_C) (f : Int64 → Int64 → Int64) : Option pm_out :=
  match x.2.1 with
  | .long b :: .long a :: r => pm_nx (x.1, .long (f a b) :: r, x.2.2)
  | _ => none
def pm_ls (x : pm_C) (f : Int64 → Int32 → Int64) : Option pm_out :=
  match x.2.1 with
  | .int b :: .long a :: r => pm_nx (x.1, .long (f a b) :: r, x.2.2)
  | _ => none
def pm_i1 (x : pm_C) (f : Int32 → Int32) : Option pm_out :=
  match x.2.1 with
  | .int a :: r => pm_nx (x.1, .int (f a) :: r, x.2.2)
  | _ => none
def pm_psh (x : pm_C) (v : Value) : Option pm_out := pm_nx (x.1, v :: x.2.1, x.2.2)
def pm_get (x : pm_C) (ci fk ty : Nat) : Option pm_out :=
  match x.2.1 with
  | .ref o :: r => if pm_okr o && pm_is (x.2.2.1.1 o) 0 ci then pm_nx (x.1, pm_fv x.2.2 ty o fk :: r, x.2.2) else none
  | _ => none
def pm_s0 : Nat := 8
def pm_put (x : pm_C) (ci fk ty : Nat) : Option pm_out :=
  match ty, x.2.1 with
  | 0, .int v :: .ref o :: r => if pm_is (x.2.2.1.1 o) 0 ci && Nat.ble pm_s0 o then pm_nx (x.1, r, x.2.2.1, pm_u x.2.2.2.1 o fk v, x.2.2.2.2) else none
  | 1, .int v :: .ref o :: r => if pm_is (x.2.2.1.1 o) 0 ci && Nat.ble pm_s0 o then pm_rq (v == 0 || v == 1) (x.1, r, x.2.2.1, pm_u x.2.2.2.1 o fk v, x.2.2.2.2) else none
  | 2, .long v :: .ref o :: r => if pm_is (x.2.2.1.1 o) 0 ci && Nat.ble pm_s0 o then pm_nx (x.1, r, x.2.2.1, x.2.2.2.1, pm_u x.2.2.2.2 o fk v) else none
  | 3, .ref v :: .ref o :: r => if pm_is (x.2.2.1.1 o) 0 ci && Nat.ble pm_s0 o then pm_nx (x.1, r, (x.2.2.1.1, pm_u x.2.2.1.2.1 o fk v, x.2.2.1.2.2), x.2.2.2) else none
  | _, _ => none
/-- an array of a kind (1 ints, 2 bytes, 3 longs), its length -/
def pm_alen (T : Nat → Nat × Nat) (a t : Nat) : Option Nat := if Nat.beq (T a).1 t then some (T a).2 else none
def pm_ald (x : pm_C) (t : Nat) : Option pm_out :=
  match x.2.1 with
  | .int i :: .ref a :: r => if Nat.beq (x.2.2.1.1 a).1 t then pm_rq (pm_in i (x.2.2.1.1 a).2) (x.1, .int (x.2.2.2.1 a i.toNatClampNeg) :: r, x.2.2) else none
  | _ => none
def pm_ldl (x : pm_C) : Option pm_out :=
  match x.2.1 with
  | .int i :: .ref a :: r => if Nat.beq (x.2.2.1.1 a).1 3 then pm_rq (pm_in i (x.2.2.1.1 a).2) (x.1, .long (x.2.2.2.2 a i.toNatClampNeg) :: r, x.2.2) else none
  | _ => none
def pm_ast (x : pm_C) (t : Nat) (f : Int32 → Int32) : Option pm_out :=
  match x.2.1 with
  | .int v :: .int i :: .ref a :: r => if Nat.beq (x.2.2.1.1 a).1 t && Nat.ble pm_s0 a then pm_rq (pm_in i (x.2.2.1.1 a).2) (x.1, r, x.2.2.1, pm_u x.2.2.2.1 a i.toNatClampNeg (f v), x.2.2.2.2) else none
  | _ => none
def pm_stl (x : pm_C) : Option pm_out :=
  match x.2.1 with
  | .long v :: .int i :: .ref a :: r => if Nat.beq (x.2.2.1.1 a).1 3 && Nat.ble pm_s0 a then pm_rq (pm_in i (x.2.2.1.1 a).2) (x.1, r, x.2.2.1, x.2.2.2.1, pm_u x.2.2.2.2 a i.toNatClampNeg v) else none
  | _ => none
def pm_aln (x : pm_C) : Option pm_out :=
  match x.2.1 with
  | .ref a :: r => if Nat.ble 1 (x.2.2.1.1 a).1 && Nat.ble (x.2.2.1.1 a).1 3 then pm_nx (x.1, .int (Int32.ofNat (x.2.2.1.1 a).2) :: r, x.2.2) else none
  | _ => none
/-- a new cell of a kind: its number is the next one -/
def pm_new (G : pm_G) (v : Nat × Nat) (n : Nat) : pm_G := (pm_t G.1 G.2.2.1 v, pm_z G.2.1 G.2.2.1 0, G.2.2.1 + 1, G.2.2.2 + n)
def pm_mk (x : pm_C) (st : List Value) (v : Nat × Nat) (n : Nat) : pm_C :=
  (x.1, .ref x.2.2.1.2.2.1 :: st, pm_new x.2.2.1 v n, pm_z x.2.2.2.1 x.2.2.1.2.2.1 0, pm_z x.2.2.2.2 x.2.2.1.2.2.1 0)
def pm_nwa (x : pm_C) (t : Nat) : Option pm_out :=
  match x.2.1 with
  | .int n :: r => pm_rq (decide (0 ≤ n) && decide (n ≤ 100000)) (pm_mk x r (t, n.toNatClampNeg) n.toNatClampNeg)
  | _ => none
def pm_acp (x : pm_C) : Option pm_out :=
  match x.2.1 with
  | .int n :: .int q :: .ref b :: .int p :: .ref a :: r =>
    if Nat.beq (x.2.2.1.1 a).1 1 && Nat.beq (x.2.2.1.1 b).1 1 && Nat.ble pm_s0 a && Nat.ble pm_s0 b && Nat.ble (pm_cat r) 8 then
      pm_rq (decide (0 ≤ p) && decide (0 ≤ q) && decide (0 ≤ n) && decide (p.toNatClampNeg + n.toNatClampNeg ≤ (x.2.2.1.1 a).2) && decide (q.toNatClampNeg + n.toNatClampNeg ≤ (x.2.2.1.1 b).2))
        (x.1, r, x.2.2.1, pm_cp x.2.2.2.1 a p.toNatClampNeg b q.toNatClampNeg n.toNatClampNeg, x.2.2.2.2)
    else none
  | _ => none
def pm_call (x : pm_C) (k n c : Nat) : Option pm_out :=
  match pm_pop n x.2.1 [] with
  | some (as, r) => if Nat.ble (pm_cat r) 8 && pm_recv x.2.2.1.1 c as then pm_ca k as (x.1, r, x.2.2) else none
  | none => none
/-- what an answer of a small kind is (0 int, 1 boolean, 2 byte, 3 char) -/
def pm_fit (a : Nat) (v : Int32) : Bool :=
  match a with
  | 0 => true
  | 1 => v == 0 || v == 1
  | 2 => v.toInt8.toInt32 == v
  | _ => (v.toUInt32 % 65536).toInt32 == v
def pm_ret (x : pm_C) (a : Nat) : Option pm_out :=
  match x.2.1 with
  | [.int v] => pm_re (pm_fit a v) v 0 x.2.2
  | _ => none
def pm_retl (x : pm_C) : Option pm_out :=
  match x.2.1 with
  | [.long w] => pm_re true 0 w x.2.2
  | _ => none
def pm_retv (x : pm_C) : Option pm_out :=
  match x.2.1 with
  | [] => pm_re true 0 0 x.2.2
  | _ => none
def pm_tgt (pc : Nat) (off : Int) : Nat := ((pc : Int) + off).toNat
def pm_tsw (pc : Nat) (lo : Int) : Nat → List Int → List (Int32 × Nat)
  | _, [] => []
  | i, o :: r => (Int32.ofInt (lo + (i : Int)), pm_tgt pc o) :: pm_tsw pc lo (i + 1) r
def pm_lsw (pc : Nat) : List (Int × Int) → List (Int32 × Nat)
  | [] => []
  | (v, o) :: r => (Int32.ofInt v, pm_tgt pc o) :: pm_lsw pc r
def pm_step (en : pm_E) (x : pm_C) : Option pm_out :=
  match en with
  | (pc, ins, _, a, b, c) =>
  match ins with
  | .aload_n k => pm_loada k x
  | .aload k => pm_loada k x
  | .getfield _ => pm_get x a b c.toNat
  | .invokevirtual _ => pm_call x a b c.toNat
  | .iload_n k => pm_load k x
  | .ireturn => pm_ret x a
  | .iaload => pm_ald x 1
  | .bipush n => pm_psh x (.int (Int8.ofInt n).toInt32)
  | .iconst n => pm_psh x (.int (Int32.ofInt n))
  | .iload k => pm_load k x
  | .iadd => pm_i2 x (fun u v => u + v)
  | .goto _ => pm_sw 0 [] a x
  | .ifCond cd o => match x.2.1 with
    | .int v :: r => match pm_icnd (.ifCond cd o) v with
      | some t => pm_br t a (x.1, r, x.2.2)
      | none => none
    | _ => none
  | .istore k => pm_stor k x
  | .istore_n k => pm_stor k x
  | .invokestatic _ => if Nat.beq a 9998 then pm_acp x else pm_call x a b 0
  | .putfield _ => pm_put x a b c.toNat
  | .if_icmp cd o => match x.2.1 with
    | .int v :: .int u :: r => match pm_icmp (.if_icmp cd o) u v with
      | some t => pm_br t a (x.1, r, x.2.2)
      | none => none
    | _ => none
  | .iinc i n => match x.1[i]? with
    | some (.int v) => if i < x.1.length then pm_nx (pm_set1 x.1 i (.int (v + Int32.ofInt n)), x.2) else none
    | _ => none
  | .iastore => pm_ast x 1 (fun v => v)
  | .isub => pm_i2 x (fun u v => u - v)
  | .newarray _ => pm_nwa x a
  | .dup => match x.2.1 with
    | v :: r => if Nat.beq v.category 1 then pm_nx (x.1, v :: v :: r, x.2.2) else none
    | _ => none
  | .return_ => pm_retv x
  | .sipush n => pm_psh x (.int (Int16.ofInt n).toInt32)
  | .invokespecial _ => if Nat.beq a 9999 then (match x.2.1 with
      | .ref v :: r => if Nat.ble (pm_cat r) 8 && pm_okr v then pm_nx (x.1, r, x.2.2) else none
      | _ => none) else pm_call x a b c.toNat
  | .imul => pm_i2 x (fun u v => u * v)
  | .new _ => pm_nx (pm_mk x x.2.1 (0, a) b)
  | .ldc2_w _ => pm_psh x (.long (Int64.ofInt c))
  | .iand => pm_i2 x (fun u v => u &&& v)
  | .ior => pm_i2 x (fun u v => u ||| v)
  | .ixor => pm_i2 x (fun u v => u ^^^ v)
  | .ishl => pm_i2 x (fun u v => u <<< (v &&& 31))
  | .ishr => pm_i2 x (fun u v => u >>> (v &&& 31))
  | .iushr => pm_i2 x (fun u v => (u.toUInt32 >>> (v.toUInt32 &&& Int32.toUInt32 31)).toInt32)
  | .dup2 => match x.2.1 with
    | v :: w :: r => if Nat.beq v.category 1 && Nat.beq w.category 1 then pm_nx (x.1, v :: w :: v :: w :: r, x.2.2) else none
    | _ => none
  | .tableswitch d lo _ offs => match x.2.1 with
    | .int v :: r => pm_sw v (pm_tsw pc lo 0 offs.toList) (pm_tgt pc d) (x.1, r, x.2.2)
    | _ => none
  | .lookupswitch d ps => match x.2.1 with
    | .int v :: r => pm_sw v (pm_lsw pc ps.toList) (pm_tgt pc d) (x.1, r, x.2.2)
    | _ => none
  | .lcmp => match x.2.1 with
    | .long v :: .long u :: r => pm_nx (x.1, .int (lg_cmp u v) :: r, x.2.2)
    | _ => none
  | .i2l => match x.2.1 with
    | .int v :: r => pm_nx (x.1, .long v.toInt64 :: r, x.2.2)
    | _ => none
  | .l2i => match x.2.1 with
    | .long v :: r => pm_nx (x.1, .int v.toInt32 :: r, x.2.2)
    | _ => none
  | .lload k => pm_loadl k x
  | .lload_n k => pm_loadl k x
  | .lstore k => pm_storl k x
  | .lstore_n k => pm_storl k x
  | .lconst n => pm_psh x (.long (Int64.ofNat n))
  | .getstatic _ => if Nat.beq b 1 then pm_psh x (.ref a) else pm_psh x (.int (Int32.ofInt c))
  | .ldc _ => if Nat.beq b 1 then pm_psh x (.ref a) else pm_psh x (.int (Int32.ofInt c))
  | .ldc_w _ => pm_psh x (.int (Int32.ofInt c))
  | .pop => match x.2.1 with
    | v :: r => if Nat.beq v.category 1 then pm_nx (x.1, r, x.2.2) else none
    | _ => none
  | .idiv => match x.2.1 with
    | .int v :: .int u :: r => pm_rq (decide (¬ v = 0)) (x.1, .int (u / v) :: r, x.2.2)
    | _ => none
  | .irem => match x.2.1 with
    | .int v :: .int u :: r => pm_rq (decide (¬ v = 0)) (x.1, .int (u - u / v * v) :: r, x.2.2)
    | _ => none
  | .ladd => pm_l2 x (fun u v => u + v)
  | .lsub => pm_l2 x (fun u v => u - v)
  | .lmul => pm_l2 x (fun u v => u * v)
  | .land => pm_l2 x (fun u v => u &&& v)
  | .lor => pm_l2 x (fun u v => u ||| v)
  | .lxor => pm_l2 x (fun u v => u ^^^ v)
  | .lshl => pm_ls x (fun u v => u <<< (v.toInt64 &&& 63))
  | .lshr => pm_ls x (fun u v => u >>> (v.toInt64 &&& 63))
  | .arraylength => pm_aln x
  | .laload => pm_ldl x
  | .lastore => pm_stl x
  | .i2b => pm_i1 x (fun v => v.toInt8.toInt32)
  | .i2s => pm_i1 x (fun v => v.toInt16.toInt32)
  | .i2c => pm_i1 x (fun v => (v.toUInt32 % 65536).toInt32)
  | .ineg => pm_i1 x (fun v => -v)
  | .ifnonnull _ => match x.2.1 with
    | .ref o :: r => if Nat.beq o 0 || pm_okr o then pm_br (decide (¬ o = 0)) a (x.1, r, x.2.2) else none
    | _ => none
  | .ifnull _ => match x.2.1 with
    | .ref o :: r => if Nat.beq o 0 || pm_okr o then pm_br (decide (o = 0)) a (x.1, r, x.2.2) else none
    | _ => none
  | .lreturn => pm_retl x
  | .bastore => pm_ast x 2 (fun v => v.toInt8.toInt32)
  | .baload => pm_ald x 2
  | .astore k => pm_stora k x
  | .astore_n k => pm_stora k x
  | _ => none
def pm_sel (v : Int32) (d : Nat) : List (Int32 × Nat) → Nat
  | [] => d
  | (u, t) :: r => if v = u then t else pm_sel v d r
def pm_drop (pc : Nat) : List pm_E → List pm_E
  | [] => []
  | e :: r => if Nat.beq e.1 pc then e :: r else pm_drop pc r
/-- a method's first locals -/
def pm_args : List Value → List Value
  | [] => []
  | v :: r => bif Nat.beq v.category 2 then v :: pm_unset :: pm_args r else v :: pm_args r
def pm_ent (n : Nat) (as : List Value) : List Value := pm_args as ++ List.replicate (n - (pm_args as).length) pm_unset
def pm_push (rk : Nat) (v : Int32) (w : Int64) (st : List Value) : List Value :=
  match rk with
  | 0 => st
  | 1 => .int v :: st
  | _ => .long w :: st
/-- the run of method k from pc, calls d deep at most; cd: a method's code; mt: its locals and the kind of its answer (0 none, 1 int, 2 long) -/
def pm_run (cd : Nat → List pm_E) (mt : Nat → Nat × Nat) : Nat → Nat → Nat → Nat → pm_C → Option (Int32 × Int64 × pm_H)
  | 0, _, _, _, _ => none
  | n + 1, d, k, pc, x =>
    match pm_drop pc (cd k) with
    | [] => none
    | en :: _ => match pm_step en x with
      | none => none
      | some (.inl y) => pm_run cd mt n d k (en.1 + en.2.2.1) y
      | some (.inr (.inl (b, y))) => if b then pm_run cd mt n d k (en.1 + en.2.2.1) y else none
      | some (.inr (.inr (.inl (b, t, y)))) => pm_run cd mt n d k (if b then t else en.1 + en.2.2.1) y
      | some (.inr (.inr (.inr (.inl (v, cs, df, y))))) => pm_run cd mt n d k (pm_sel v df cs) y
      | some (.inr (.inr (.inr (.inr (.inl (j, as, y)))))) => match d with
        | 0 => none
        | d' + 1 => if Nat.ble (pm_args as).length (mt j).1 then (match pm_run cd mt n d' j 0 (pm_ent (mt j).1 as, [], y.2.2) with
          | none => none
          | some (v, w, H) => pm_run cd mt n d k (en.1 + en.2.2.1) (y.1, pm_push (mt j).2 v w y.2.1, H)) else none
      | some (.inr (.inr (.inr (.inr (.inr (b, v, w, H)))))) => if b then some (v, w, H) else none
