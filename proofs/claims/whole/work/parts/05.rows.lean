/-! EACH ROW OF THE TABLES IS AS THE CLAIM'S BYTES AND WORDS SAY. -/
def pm_lk (l : List pm_tup) (o i a b : Nat) : Bool := l.any (fun u => Nat.beq u.1 o && Nat.beq u.2.1 i && Nat.beq u.2.2.1 a && Nat.beq u.2.2.2.1 b)
def pm_lkM (l : List pm_tup) (o i a n : Nat) : Bool := l.any (fun u => Nat.beq u.1 o && Nat.beq u.2.1 i && Nat.beq u.2.2.1 a && Nat.beq u.2.2.2.2.1 n)
def pm_lkK (l : List (Nat × Nat × Int × Nat)) (o i : Nat) (v : Int) : Bool := l.any (fun u => Nat.beq u.1 o && Nat.beq u.2.1 i && decide (u.2.2.1 = v))
def pm_uS : List (Nat × Nat × Nat × Nat) := [(2, 68, 2, 1), (2, 87, 4, 1), (3, 97, 3, 1), (4, 58, 2, 1), (12, 38, 0, 0), (12, 1053, 7, 1)]
def pm_lkS (o i a b : Nat) : Bool := pm_uS.any (fun u => Nat.beq u.1 o && Nat.beq u.2.1 i && Nat.beq u.2.2.1 a && Nat.beq u.2.2.2 b)
def pm_tok (pc : Nat) (off : Int) (t : Nat) : Bool := decide ((pc : Int) + off = (t : Int))
def pm_pos (pc : Nat) (off : Int) : Bool := decide (0 ≤ (pc : Int) + off)
def pm_rtc (r : Option FieldType) (a : Nat) : Bool :=
  match r, a with
  | some .int, 0 => true
  | some .boolean, 1 => true
  | some .byte, 2 => true
  | some .char, 3 => true
  | _, _ => false
def pm_atc (t : ArrayType) (a : Nat) : Bool :=
  match t, a with
  | .int, 1 => true
  | .byte, 2 => true
  | .long, 3 => true
  | _, _ => false
noncomputable def pm_okI (k : Nat) (en : pm_E) : Bool :=
  match en with
  | (pc, ins, _, a, b, c) =>
  match ins with
  | .getfield i => (Nat.blt a 12 && Nat.blt b (pm_nf a) && decide (c = (pm_ft a b : Int)) && pm_lk pm_uF (pm_ow k) i a b) || (Nat.beq a 12 && Nat.beq (pm_ow k) 12 && ((Nat.beq b 0 && Nat.beq i 9 && decide (c = 3)) || (Nat.beq b 1 && Nat.beq i 15 && decide (c = 0))))
  | .putfield i => Nat.blt a 12 && Nat.blt b (pm_nf a) && decide (c = (pm_ft a b : Int)) && pm_lk pm_uF (pm_ow k) i a b && (!(pm_fd a b).2.2.2 || (decide ((pm_y k).name = "<init>") && decide ((pm_fd a b).1 = pm_on (pm_ow k))))
  | .new i => Nat.blt a 12 && Nat.beq b (pm_nf a) && pm_lk pm_uC (pm_ow k) i a 0
  | .invokevirtual i => Nat.blt a 317 && !(pm_sta a) && Nat.beq b (pm_np a + 1) && decide (c = (pm_ow a : Int) + 1) && decide (¬ (pm_y a).name = "<init>") && pm_lkM pm_uM (pm_ow k) i a 0 || Nat.beq a 9997
  | .invokestatic i => (Nat.blt a 317 && pm_sta a && Nat.beq b (pm_np a) && (pm_lkM pm_uM (pm_ow k) i a 0 || pm_lkM pm_uM (pm_ow k) i a 1)) || (Nat.beq a 9998 && pm_lkM pm_uM (pm_ow k) i 9998 0) || Nat.beq a 9997
  | .invokespecial i => (Nat.blt a 317 && !(pm_sta a) && Nat.beq b (pm_np a + 1) && decide (c = (pm_ow a : Int) + 1) && decide ((pm_y a).name = "<init>") && decide (pm_rt a = none) && pm_lkM pm_uM (pm_ow k) i a 0) || (Nat.beq a 9999 && pm_lkM pm_uM (pm_ow k) i 9999 0) || (Nat.blt a 317 && !(pm_sta a) && Nat.beq b (pm_np a + 1) && decide (c = (pm_ow a : Int) + 1) && decide ((pm_y a).name = "<init>") && decide (pm_rt a = none) && pm_lkM pm_uM (pm_ow k) i a 1)
  | .goto o => pm_tok pc o a
  | .ifCond _ o => pm_tok pc o a
  | .if_icmp _ o => pm_tok pc o a
  | .ifnull o => pm_tok pc o a
  | .ifnonnull o => pm_tok pc o a
  | .tableswitch d lo hi offs => pm_pos pc d && offs.toList.all (fun o => pm_pos pc o) && decide (-1000 ≤ lo) && decide (hi ≤ 100000) && decide (hi = lo + (offs.toList.length : Int) - 1)
  | .lookupswitch d ps => pm_pos pc d && ps.toList.all (fun o => pm_pos pc o.2 && decide (-100000 ≤ o.1) && decide (o.1 ≤ 100000)) && (ps.toList.zip (ps.toList.drop 1)).all (fun (a, next) => a.1 < next.1)
  | .newarray t => pm_atc t a
  | .ireturn => pm_rtc (pm_rt k) a
  | .lreturn => decide (pm_rt k = some .long)
  | .return_ => decide (pm_rt k = none)
  | .ldc i => (Nat.beq b 1 && Nat.beq a 5 && Nat.beq (pm_ow k) 9 && Nat.beq i 86) || (!(Nat.beq b 1) && pm_lkK pm_uK (pm_ow k) i c)
  | .ldc_w i => pm_lkK pm_uK (pm_ow k) i c
  | .ldc2_w i => pm_lkK pm_uL (pm_ow k) i c
  | .getstatic i => pm_lkS (pm_ow k) i a b && (Nat.beq b 1 || (Nat.beq b 0 && decide (c = 1)))
  | _ => true
noncomputable def pm_dc (k : Nat) (en : pm_E) : Bool := decide (decode (pm_by k) en.1 = .ok (en.2.1, en.2.2.1))
theorem pm_okc_0 : (List.range' 0 21).all (fun k => (pm_code k).all (pm_okI k) && pm_chain (pm_code k)) = true := by decide +kernel
theorem pm_okc_1 : (List.range' 21 17).all (fun k => (pm_code k).all (pm_okI k) && pm_chain (pm_code k)) = true := by decide +kernel
theorem pm_okc_2 : (List.range' 38 18).all (fun k => (pm_code k).all (pm_okI k) && pm_chain (pm_code k)) = true := by decide +kernel
theorem pm_okc_3 : (List.range' 56 15).all (fun k => (pm_code k).all (pm_okI k) && pm_chain (pm_code k)) = true := by decide +kernel
theorem pm_okc_4 : (List.range' 71 22).all (fun k => (pm_code k).all (pm_okI k) && pm_chain (pm_code k)) = true := by decide +kernel
theorem pm_okc_5 : (List.range' 93 23).all (fun k => (pm_code k).all (pm_okI k) && pm_chain (pm_code k)) = true := by decide +kernel
theorem pm_okc_6 : (List.range' 116 13).all (fun k => (pm_code k).all (pm_okI k) && pm_chain (pm_code k)) = true := by decide +kernel
theorem pm_okc_7 : (List.range' 129 21).all (fun k => (pm_code k).all (pm_okI k) && pm_chain (pm_code k)) = true := by decide +kernel
theorem pm_okc_8 : (List.range' 150 22).all (fun k => (pm_code k).all (pm_okI k) && pm_chain (pm_code k)) = true := by decide +kernel
theorem pm_okc_9 : (List.range' 172 7).all (fun k => (pm_code k).all (pm_okI k) && pm_chain (pm_code k)) = true := by decide +kernel
theorem pm_okc_10 : (List.range' 179 17).all (fun k => (pm_code k).all (pm_okI k) && pm_chain (pm_code k)) = true := by decide +kernel
theorem pm_okc_11 : (List.range' 196 10).all (fun k => (pm_code k).all (pm_okI k) && pm_chain (pm_code k)) = true := by decide +kernel
theorem pm_okc_12 : (List.range' 206 18).all (fun k => (pm_code k).all (pm_okI k) && pm_chain (pm_code k)) = true := by decide +kernel
theorem pm_okc_13 : (List.range' 224 15).all (fun k => (pm_code k).all (pm_okI k) && pm_chain (pm_code k)) = true := by decide +kernel
theorem pm_okc_14 : (List.range' 239 15).all (fun k => (pm_code k).all (pm_okI k) && pm_chain (pm_code k)) = true := by decide +kernel
theorem pm_okc_15 : (List.range' 254 10).all (fun k => (pm_code k).all (pm_okI k) && pm_chain (pm_code k)) = true := by decide +kernel
theorem pm_okc_16 : (List.range' 264 15).all (fun k => (pm_code k).all (pm_okI k) && pm_chain (pm_code k)) = true := by decide +kernel
theorem pm_okc_17 : (List.range' 279 16).all (fun k => (pm_code k).all (pm_okI k) && pm_chain (pm_code k)) = true := by decide +kernel
theorem pm_okc_18 : (List.range' 295 22).all (fun k => (pm_code k).all (pm_okI k) && pm_chain (pm_code k)) = true := by decide +kernel
theorem pm_oki_l0 : pc_law_law_0.all (pm_okI 317) = true := by decide +kernel
theorem pm_oki_l1 : pc_law_law_1.all (pm_okI 317) = true := by decide +kernel
theorem pm_oki_l2 : pc_law_law_2.all (pm_okI 317) = true := by decide +kernel
theorem pm_oki_l3 : pc_law_law_3.all (pm_okI 317) = true := by decide +kernel
theorem pm_oki_l4 : pc_law_law_4.all (pm_okI 317) = true := by decide +kernel
theorem pm_oki_l5 : pc_law_law_5.all (pm_okI 317) = true := by decide +kernel
theorem pm_oki_l6 : pc_law_law_6.all (pm_okI 317) = true := by decide +kernel
theorem pm_oki_l7 : pc_law_law_7.all (pm_okI 317) = true := by decide +kernel
theorem pm_oki_l8 : pc_law_law_8.all (pm_okI 317) = true := by decide +kernel
theorem pm_oki_l9 : pc_law_law_9.all (pm_okI 317) = true := by decide +kernel
theorem pm_oki_l10 : pc_law_law_10.all (pm_okI 317) = true := by decide +kernel
theorem pm_oki_l : pc_law_law.all (pm_okI 317) = true := by
  unfold pc_law_law
  simp only [List.all_append, Bool.and_eq_true]
  exact ⟨pm_oki_l0, ⟨pm_oki_l1, ⟨pm_oki_l2, ⟨pm_oki_l3, ⟨pm_oki_l4, ⟨pm_oki_l5, ⟨pm_oki_l6, ⟨pm_oki_l7, ⟨pm_oki_l8, ⟨pm_oki_l9, pm_oki_l10⟩⟩⟩⟩⟩⟩⟩⟩⟩⟩
theorem pm_okl_c : pm_chain pc_law_law = true := by decide +kernel
theorem pm_okall : ∀ k, k < 318 → (pm_code k).all (pm_okI k) = true ∧ pm_chain (pm_code k) = true := by
  intro k hk
  have key : ∀ a n, (List.range' a n).all (fun k => (pm_code k).all (pm_okI k) && pm_chain (pm_code k)) = true → a ≤ k → k < a + n → (pm_code k).all (pm_okI k) = true ∧ pm_chain (pm_code k) = true := by
    intro a n h h1 h2
    have := List.all_eq_true.mp h k (List.mem_range'_1.mpr ⟨h1, h2⟩)
    simpa only [Bool.and_eq_true] using this
  by_cases h0 : k < 21
  · exact key 0 21 pm_okc_0 (by omega) h0
  by_cases h1 : k < 38
  · exact key 21 17 pm_okc_1 (by omega) h1
  by_cases h2 : k < 56
  · exact key 38 18 pm_okc_2 (by omega) h2
  by_cases h3 : k < 71
  · exact key 56 15 pm_okc_3 (by omega) h3
  by_cases h4 : k < 93
  · exact key 71 22 pm_okc_4 (by omega) h4
  by_cases h5 : k < 116
  · exact key 93 23 pm_okc_5 (by omega) h5
  by_cases h6 : k < 129
  · exact key 116 13 pm_okc_6 (by omega) h6
  by_cases h7 : k < 150
  · exact key 129 21 pm_okc_7 (by omega) h7
  by_cases h8 : k < 172
  · exact key 150 22 pm_okc_8 (by omega) h8
  by_cases h9 : k < 179
  · exact key 172 7 pm_okc_9 (by omega) h9
  by_cases h10 : k < 196
  · exact key 179 17 pm_okc_10 (by omega) h10
  by_cases h11 : k < 206
  · exact key 196 10 pm_okc_11 (by omega) h11
  by_cases h12 : k < 224
  · exact key 206 18 pm_okc_12 (by omega) h12
  by_cases h13 : k < 239
  · exact key 224 15 pm_okc_13 (by omega) h13
  by_cases h14 : k < 254
  · exact key 239 15 pm_okc_14 (by omega) h14
  by_cases h15 : k < 264
  · exact key 254 10 pm_okc_15 (by omega) h15
  by_cases h16 : k < 279
  · exact key 264 15 pm_okc_16 (by omega) h16
  by_cases h17 : k < 295
  · exact key 279 16 pm_okc_17 (by omega) h17
  by_cases h18 : k < 317
  · exact key 295 22 pm_okc_18 (by omega) h18
  obtain rfl : k = 317 := by omega
  exact ⟨pm_oki_l, pm_okl_c⟩
theorem pm_code_out : ∀ k, ¬ k < 318 → pm_code k = [] := by
  intro k hk
  unfold pm_code
  rw [show Nat.blt k 318 = false from by cases h : Nat.blt k 318 with | false => rfl | true => exact absurd (Nat.blt_eq.mp h) hk]
  rfl
