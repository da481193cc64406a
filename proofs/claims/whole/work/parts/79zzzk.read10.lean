/-! THE CALL read: states between the rules. -/
def rd_xr (c : Nat → Nat) (n N : Nat) (I0 : Nat → Nat → Int32) (i : Nat) (ops : List (Nat × Nat)) (rs : List (Nat × Nat × Nat × Nat × Nat)) (I : Nat → Nat → Int32) : Prop :=
  (∀ r, ¬ r = 40 → ¬ r = 44 → ¬ r = 45 → ¬ r = 46 → ¬ r = 47 → I r = I0 r) ∧ (∀ j, ¬ j = 3 → ¬ j = 4 → ¬ j = 5 → I 40 j = I0 40 j) ∧ pm_ti (I 44) 5 10 ∧ I 44 3 = Int32.ofNat rs.length ∧
  (∀ m x, rs[m]? = some x → I 45 (5 * m + 0) = Int32.ofNat x.1 ∧ I 45 (5 * m + 1) = Int32.ofNat x.2.1 ∧ I 45 (5 * m + 2) = (if x.1 = 2 then Int32.ofNat x.2.2.1 else -3) ∧ I 45 (5 * m + 3) = Int32.ofNat x.2.2.2.1 ∧ I 45 (5 * m + 4) = Int32.ofNat x.2.2.2.2) ∧ rd_xq c n N I i ops I
def rd_yf (I0 : Nat → Nat → Int32) (f : Nat) (I : Nat → Nat → Int32) : Prop :=
  (∀ r, ¬ r = 40 → ¬ r = 44 → ¬ r = 45 → ¬ r = 46 → ¬ r = 47 → I r = I0 r) ∧ (∀ j, ¬ j = 3 → ¬ j = 4 → ¬ j = 5 → I 40 j = I0 40 j) ∧ pm_ti (I 44) 5 10 ∧ pm_ti (I 46) 2 100 ∧ I 40 3 = Int32.ofNat f
def rd_rr (c : Nat → Nat) (n sl : Nat) (I0 : Nat → Nat → Int32) (J0 : Nat → Nat → Int64) (i : Nat) (ops : List (Nat × Nat)) (rs : List (Nat × Nat × Nat × Nat × Nat)) (I : Nat → Nat → Int32) (J : Nat → Nat → Int64) : Prop :=
  ((∀ r, ¬ r = 79 → ¬ r = 113 → ¬ (116 ≤ r ∧ r ≤ 123) → I r = I0 r) ∧ (∀ j, ¬ j = 62 → ¬ j = 63 → ¬ j = 64 → ¬ j = 66 → ¬ j = 67 → ¬ j = 68 → I 79 j = I0 79 j) ∧ (∀ r, ¬ r = 79 → J r = J0 r) ∧ (∀ j, ¬ j = sl → I 113 j = I0 113 j ∧ I 116 j = I0 116 j) ∧ (∀ j, j < 80 * sl → I 122 j = I0 122 j ∧ I 123 j = I0 123 j) ∧ ∀ r, 117 ≤ r → r ≤ 121 → ∀ j, j < 10 * sl → I r j = I0 r j) ∧
  I 113 sl = Int32.ofNat rs.length ∧
  (∀ m x, rs[m]? = some x → I 117 (10 * sl + m) = Int32.ofNat x.1 ∧ I 118 (10 * sl + m) = Int32.ofNat x.2.1 ∧ I 119 (10 * sl + m) = (if x.1 = 2 then Int32.ofNat x.2.2.1 else -1) ∧ I 120 (10 * sl + m) = Int32.ofNat x.2.2.2.1 ∧ I 121 (10 * sl + m) = Int32.ofNat x.2.2.2.2) ∧ rd_rq c n sl I J i ops 0 I J
def rd_zf (c : Nat → Nat) (n sl : Nat) (I0 : Nat → Nat → Int32) (J0 : Nat → Nat → Int64) (f : Nat) (I : Nat → Nat → Int32) (J : Nat → Nat → Int64) : Prop :=
  ((∀ r, ¬ r = 79 → ¬ r = 113 → ¬ (116 ≤ r ∧ r ≤ 123) → I r = I0 r) ∧ (∀ j, ¬ j = 62 → ¬ j = 63 → ¬ j = 64 → ¬ j = 66 → ¬ j = 67 → ¬ j = 68 → I 79 j = I0 79 j) ∧ (∀ r, ¬ r = 79 → J r = J0 r) ∧ (∀ j, ¬ j = sl → I 113 j = I0 113 j ∧ I 116 j = I0 116 j) ∧ (∀ j, j < 80 * sl → I 122 j = I0 122 j ∧ I 123 j = I0 123 j) ∧ ∀ r, 117 ≤ r → r ≤ 121 → ∀ j, j < 10 * sl → I r j = I0 r j) ∧
  I 79 68 = Int32.ofNat (rd_s c n f) ∧ ∃ o : Nat, I 116 sl = Int32.ofNat o ∧ o ≤ 80
section
variable {d L : Nat} {b : Bool} {I I' : Nat → Nat → Int32} {J J' : Nat → Nat → Int64} {Q : Int32 → Int64 → pm_H → Prop} {c : Nat → Nat} {n sl i i' N : Nat} {I0 : Nat → Nat → Int32} {J0 : Nat → Nat → Int64} {ops ops' : List (Nat × Nat)} {rs : List (Nat × Nat × Nat × Nat × Nat)}
theorem xq_self (h : rd_xq c n N I0 i ops I) : rd_xq c n N I i ops I := ⟨fun _ _ _ _ => rfl, fun _ _ _ => rfl, h.2.2⟩
theorem xr_q (h : rd_xr c n N I0 i ops rs I) (q : rd_xq c n N I i' ops' I') : rd_xr c n N I0 i' ops' rs I' := by
  obtain ⟨h1, h2, h3, h4, h5, h6⟩ := h
  refine ⟨fun r a e f g k => ?_, fun j a e f => ?_, ?_, ?_, fun m x hx => ?_, xq_self q⟩
  · rw [q.1 r a g k]; exact h1 r a e f g k
  · rw [q.2.1 j a e]; exact h2 j a e f
  · rw [q.1 44 (by decide) (by decide) (by decide)]; exact h3
  · rw [q.1 44 (by decide) (by decide) (by decide)]; exact h4
  · rw [q.1 45 (by decide) (by decide) (by decide)]; exact h5 m x hx
theorem xr_f {f : Nat} (h : rd_xr c n N I0 i ops rs I) (q : rd_xf I f I') : rd_yf I0 f I' := by
  obtain ⟨h1, h2, h3, h4, h5, h6⟩ := h
  refine ⟨fun r a e f g k => ?_, fun j a e f => ?_, ?_, q.2.2.2, q.2.2.1⟩
  · rw [q.1 r a g k]; exact h1 r a e f g k
  · rw [q.2.1 j a e]; exact h2 j a e f
  · rw [q.1 44 (by decide) (by decide) (by decide)]; exact h3
theorem xr_yf (h : rd_xr c n N I0 i ops rs I) : rd_yf I0 i I := xr_f h (xq_xf h.2.2.2.2.2)
theorem xr_tk {M : Nat} (tk : rd_tk c n M I0) (h : rd_xr c n N I0 i ops rs I) : rd_tk c n M I := by
  unfold rd_tk at tk ⊢
  rw [h.1 42 (by decide) (by decide) (by decide) (by decide) (by decide), h.1 43 (by decide) (by decide) (by decide) (by decide) (by decide)]; exact tk
/-- cell 5 of the text is free -/
theorem xr_5 {v : Int32} (h : rd_xr c n N I0 i ops rs I) : rd_xr c n N I0 i ops rs (pm_u I 40 5 v) := by
  obtain ⟨h1, h2, h3, h4, h5, q1, q2, q3, q4, q5, q6⟩ := h
  refine ⟨fun r a e f g k => ?_, fun j a e f => ?_, ?_, ?_, fun m x hx => ?_, fun _ _ _ _ => rfl, fun _ _ _ => rfl, ?_, ?_, ?_, fun m x hx => ?_⟩
  · rw [pm_u_row, if_neg a]; exact h1 r a e f g k
  · rw [pm_u_row, if_pos rfl, pm_w_ne f]; exact h2 j a e f
  · rw [pm_u_row, if_neg (by decide)]; exact h3
  · rw [pm_u_row, if_neg (by decide)]; exact h4
  · rw [pm_u_row, if_neg (by decide)]; exact h5 m x hx
  · rw [pm_u_row, if_pos rfl, pm_w_ne (by decide)]; exact q3
  · rw [pm_u_row, if_neg (by decide)]; exact q4
  · rw [pm_u_row, if_neg (by decide)]; exact q5
  · rw [pm_u_row, if_neg (by decide)]; exact q6 m x hx
theorem rq_self {opn : Nat} (h : rd_rq c n sl I0 J0 i ops opn I J) : rd_rq c n sl I J i ops opn I J := by
  obtain ⟨h1, h2, h3, h4, h5, h6, h7, h8, h9, h10⟩ := h
  exact ⟨fun _ _ _ _ _ => rfl, fun _ _ _ _ _ _ _ => rfl, fun _ _ => rfl, h4, h5, fun _ _ => rfl, h7, fun _ _ => ⟨rfl, rfl⟩, h9, h10⟩
theorem fx_rr (fx : rd_fx c n sl I0) (h : rd_rr c n sl I0 J0 i ops rs I J) : rd_fx c n sl I := by
  obtain ⟨f1, f2, f3, f4, f5, f6⟩ := fx
  refine ⟨?_, fun p hp => ?_, f3, f4, ?_, f6⟩
  · rw [h.1.2.1 61 (by decide) (by decide) (by decide) (by decide) (by decide) (by decide)]; exact f1
  · rw [h.1.1 138 (by decide) (by decide) (by omega)]; exact f2 p hp
  · rw [h.1.2.1 69 (by decide) (by decide) (by decide) (by decide) (by decide) (by decide)]; exact f5
theorem rr_q (h : rd_rr c n sl I0 J0 i ops rs I J) (q : rd_rq c n sl I J i' ops' 0 I' J') : rd_rr c n sl I0 J0 i' ops' rs I' J' := by
  obtain ⟨⟨a1, a2, a3, a4, a5, a6⟩, h1, h2, h3⟩ := h
  have q' := q
  obtain ⟨q1, q2, q3, q4, q5, q6, q7, q8, q9, q10⟩ := q
  refine ⟨⟨fun r a e f => ?_, fun j b1 b2 b3 b4 b5 b6 => ?_, fun r a => ?_, fun j hj => ⟨?_, ?_⟩, fun j hj => ⟨?_, ?_⟩, fun r g1 g2 j hj => ?_⟩, ?_, fun m x hx => ?_, rq_self q'⟩
  · rw [q1 r a (by omega) (by omega) (by omega)]; exact a1 r a e f
  · rw [q2 j b1 b2 b3 b4 b5 b6]; exact a2 j b1 b2 b3 b4 b5 b6
  · rw [q3 r a]; exact a3 r a
  · rw [q1 113 (by decide) (by decide) (by decide) (by decide)]; exact (a4 j hj).1
  · rw [q6 j hj]; exact (a4 j hj).2
  · rw [(q8 j hj).1]; exact (a5 j hj).1
  · rw [(q8 j hj).2]; exact (a5 j hj).2
  · rw [q1 r (by omega) (by omega) (by omega) (by omega)]; exact a6 r g1 g2 j hj
  · rw [q1 113 (by decide) (by decide) (by decide) (by decide)]; exact h1
  · rw [q1 117 (by decide) (by decide) (by decide) (by decide), q1 118 (by decide) (by decide) (by decide) (by decide), q1 119 (by decide) (by decide) (by decide) (by decide), q1 120 (by decide) (by decide) (by decide) (by decide), q1 121 (by decide) (by decide) (by decide) (by decide)]; exact h2 m x hx
theorem rr_f {f : Nat} (h : rd_rr c n sl I0 J0 i ops rs I J) (hl : rs.length ≤ 10) (q : rd_rf c n sl I J f I' J') : rd_zf c n sl I0 J0 f I' J' := by
  obtain ⟨⟨a1, a2, a3, a4, a5, a6⟩, h1, h2, h3⟩ := h
  obtain ⟨q1, q2, q3, q4, q6, q8, q9⟩ := q
  refine ⟨⟨fun r a e f => ?_, fun j b1 b2 b3 b4 b5 b6 => ?_, fun r a => ?_, fun j hj => ⟨?_, ?_⟩, fun j hj => ⟨?_, ?_⟩, fun r g1 g2 j hj => ?_⟩, q4, q9⟩
  · rw [q1 r a (by omega) (by omega) (by omega)]; exact a1 r a e f
  · rw [q2 j b1 b2 b3 b4 b5 b6]; exact a2 j b1 b2 b3 b4 b5 b6
  · rw [q3 r a]; exact a3 r a
  · rw [q1 113 (by decide) (by decide) (by decide) (by decide)]; exact (a4 j hj).1
  · rw [q6 j hj]; exact (a4 j hj).2
  · rw [(q8 j hj).1]; exact (a5 j hj).1
  · rw [(q8 j hj).2]; exact (a5 j hj).2
  · rw [q1 r (by omega) (by omega) (by omega) (by omega)]; exact a6 r g1 g2 j hj
/-- what is written at the rule that is being read -/
theorem rr_w {r k : Nat} {v : Int32} (hr : 117 ≤ r ∧ r ≤ 121) (hk : 10 * sl + rs.length ≤ k) (h : rd_rr c n sl I0 J0 i ops rs I J) : rd_rr c n sl I0 J0 i ops rs (pm_u I r k v) J := by
  obtain ⟨⟨a1, a2, a3, a4, a5, a6⟩, h1, h2, q1, q2, q3, q4, q5, q6, q7, q8, q9, r1, r2, r3, r4⟩ := h
  have nr : ∀ s, ¬ (117 ≤ s ∧ s ≤ 121) → pm_u I r k v s = I s := fun s hs => by rw [pm_u_row, if_neg (by omega)]
  have low : ∀ s j, j < 10 * sl + rs.length → pm_u I r k v s j = I s j := fun s j hj => by
    rw [pm_u_row]
    by_cases e : s = r
    · rw [if_pos e, pm_w_ne (by omega), e]
    · rw [if_neg e]
  refine ⟨⟨fun s a e f => ?_, fun j b1 b2 b3 b4 b5 b6 => ?_, a3, fun j hj => ?_, fun j hj => ?_, fun s g1 g2 j hj => ?_⟩, ?_, fun m x hx => ?_, fun _ _ _ _ _ => rfl, fun _ _ _ _ _ _ _ => rfl, fun _ _ => rfl, ?_, ?_, fun _ _ => rfl, ?_, fun _ _ => ⟨rfl, rfl⟩, fun m x hx => ?_, ?_, ?_, ?_, r4⟩
  · rw [nr s (by omega)]; exact a1 s a e f
  · rw [nr 79 (by omega)]; exact a2 j b1 b2 b3 b4 b5 b6
  · rw [nr 113 (by omega), nr 116 (by omega)]; exact a4 j hj
  · rw [nr 122 (by omega), nr 123 (by omega)]; exact a5 j hj
  · rw [low s j (by omega)]; exact a6 s g1 g2 j hj
  · rw [nr 113 (by omega)]; exact h1
  · have lt := (List.getElem?_eq_some_iff.mp hx).1
    rw [low 117 _ (by omega), low 118 _ (by omega), low 119 _ (by omega), low 120 _ (by omega), low 121 _ (by omega)]; exact h2 m x hx
  · rw [nr 79 (by omega)]; exact q4
  · rw [nr 79 (by omega)]; exact q5
  · rw [nr 116 (by omega)]; exact q7
  · rw [nr 122 (by omega), nr 123 (by omega)]; exact q9 m x hx
  · rw [nr 79 (by omega)]; exact r1
  · rw [nr 79 (by omega)]; exact r2
  · rw [nr 79 (by omega)]; exact r3
theorem zf_w {r k f : Nat} {v : Int32} (hr : 117 ≤ r ∧ r ≤ 121) (hk : 10 * sl ≤ k) (h : rd_zf c n sl I0 J0 f I J) : rd_zf c n sl I0 J0 f (pm_u I r k v) J := by
  obtain ⟨⟨a1, a2, a3, a4, a5, a6⟩, h1, h2⟩ := h
  have nr : ∀ s, ¬ (117 ≤ s ∧ s ≤ 121) → pm_u I r k v s = I s := fun s hs => by rw [pm_u_row, if_neg (by omega)]
  refine ⟨⟨fun s a e f => ?_, fun j b1 b2 b3 b4 b5 b6 => ?_, a3, fun j hj => ?_, fun j hj => ?_, fun s g1 g2 j hj => ?_⟩, ?_, ?_⟩
  · rw [nr s (by omega)]; exact a1 s a e f
  · rw [nr 79 (by omega)]; exact a2 j b1 b2 b3 b4 b5 b6
  · rw [nr 113 (by omega), nr 116 (by omega)]; exact a4 j hj
  · rw [nr 122 (by omega), nr 123 (by omega)]; exact a5 j hj
  · rw [pm_u_row]
    by_cases e : s = r
    · rw [if_pos e, pm_w_ne (by omega), ← e]; exact a6 s g1 g2 j hj
    · rw [if_neg e]; exact a6 s g1 g2 j hj
  · rw [nr 79 (by omega)]; exact h1
  · rw [nr 116 (by omega)]; exact h2
end
/-- the kinds of a rule, on both sides -/
def rd_K (c : Nat → Nat) (n N sl i a : Nat) : Prop :=
  (∃ i' K, i < i' ∧ i' ≤ N ∧ K < 256 ∧
    (∀ (d L : Nat) (b : Bool) (I0 I : Nat → Nat → Int32) (J : Nat → Nat → Int64) (Q : Int32 → Int64 → pm_H → Prop) (ops : List (Nat × Nat)) (rs : List (Nat × Nat × Nat × Nat × Nat)) (t : Nat) (x2 : Option Int32), rd_tk c n (N + 1) I0 → rd_xr c n N I0 i ops rs I → I 40 5 = Int32.ofNat a → t ≤ i → (∀ I', rd_xr c n N I0 i' ops rs I' → I' 40 5 = Int32.ofNat K → Q 1 0 (pm_Gb L b, I', J)) → pm_wp pm_code pm_meta (d + 2) 106 7 ([.ref 40, .int (Int32.ofNat t), pm_vl x2], [], (pm_Gb L b, I, J)) Q) ∧
    (∀ (d L : Nat) (b : Bool) (I0 : Nat → Nat → Int32) (J0 : Nat → Nat → Int64) (I : Nat → Nat → Int32) (J : Nat → Nat → Int64) (Q : Int32 → Int64 → pm_H → Prop) (ops : List (Nat × Nat)) (rs : List (Nat × Nat × Nat × Nat × Nat)) (x1 : Int32), rd_fx c n sl I0 → rd_rr c n sl I0 J0 i ops rs I J → ops.length ≤ 80 → rs.length ≤ 10 → (∀ I' J', rd_rr c n sl I0 J0 i' ops rs I' J' → pm_wp pm_code pm_meta (d + 3) 230 62 ([.ref 79, .int x1, .int (Int32.ofNat K)], [], (pm_Gb L b, I', J')) Q) → ∀ Qk : Int32 → Int64 → pm_H → Prop, (∀ (v : Nat) I' J', v < 256 → pm_wp pm_code pm_meta (d + 3) 230 42 ([.ref 79, .int x1, .int (Int32.ofNat (a ||| v))], [], (pm_Gb L b, I', J')) Q → Qk (Int32.ofNat v) 0 (pm_Gb L b, I', J')) → pm_wc pm_code pm_meta (d + 2) 225 [.ref 79] (pm_Gb L b, I, J) Qk)) ∨
  (∃ f, i ≤ f ∧ f ≤ N ∧
    (∀ (d L : Nat) (b : Bool) (I0 I : Nat → Nat → Int32) (J : Nat → Nat → Int64) (Q : Int32 → Int64 → pm_H → Prop) (ops : List (Nat × Nat)) (rs : List (Nat × Nat × Nat × Nat × Nat)) (t : Nat) (x2 : Option Int32), rd_tk c n (N + 1) I0 → rd_xr c n N I0 i ops rs I → I 40 5 = Int32.ofNat a → t ≤ i → (∀ I', rd_yf I0 f I' → Q 0 0 (pm_Gb L b, I', J)) → pm_wp pm_code pm_meta (d + 2) 106 7 ([.ref 40, .int (Int32.ofNat t), pm_vl x2], [], (pm_Gb L b, I, J)) Q) ∧
    (∀ (d L : Nat) (b : Bool) (I0 : Nat → Nat → Int32) (J0 : Nat → Nat → Int64) (I : Nat → Nat → Int32) (J : Nat → Nat → Int64) (Q : Int32 → Int64 → pm_H → Prop) (ops : List (Nat × Nat)) (rs : List (Nat × Nat × Nat × Nat × Nat)) (x1 : Int32), rd_fx c n sl I0 → rd_rr c n sl I0 J0 i ops rs I J → ops.length ≤ 80 → rs.length ≤ 10 → (∀ I' J' (x2 : Int32), rd_zf c n sl I0 J0 f I' J' → pm_wp pm_code pm_meta (d + 3) 230 62 ([.ref 79, .int x1, .int x2], [], (pm_Gb L b, I', J')) Q) → ∀ Qk : Int32 → Int64 → pm_H → Prop, (∀ (v : Nat) I' J', v < 256 → pm_wp pm_code pm_meta (d + 3) 230 42 ([.ref 79, .int x1, .int (Int32.ofNat (a ||| v))], [], (pm_Gb L b, I', J')) Q → Qk (Int32.ofNat v) 0 (pm_Gb L b, I', J')) → pm_wc pm_code pm_meta (d + 2) 225 [.ref 79] (pm_Gb L b, I, J) Qk))
theorem on_or {a v : Nat} (ha : a < 256) (hv : v < 256) : Int32.ofNat a ||| Int32.ofNat v = Int32.ofNat (a ||| v) ∧ (a ||| v) < 256 := by
  have l : a ||| v < 2 ^ 8 := Nat.or_lt_two_pow (by omega) (by omega)
  refine ⟨?_, l⟩
  apply Int32.toBitVec.inj
  rw [Int32.toBitVec_or, hb_32, hb_32, hb_32]
  apply BitVec.eq_of_toNat_eq
  have l2 : a ||| v < 256 := l
  rw [BitVec.toNat_or, BitVec.toNat_ofNat, BitVec.toNat_ofNat, BitVec.toNat_ofNat, Nat.mod_eq_of_lt (by omega : a < 2 ^ 32), Nat.mod_eq_of_lt (by omega : v < 2 ^ 32), Nat.mod_eq_of_lt (by omega : a ||| v < 2 ^ 32)]
theorem rd_kinds {c : Nat → Nat} {n N sl : Nat} (T : rd_tape c n N) : ∀ (k i a : Nat), N - i ≤ k → i ≤ N → a < 256 → rd_K c n N sl i a := by
  have n3 := T.2.1
  have Nn := T.2.2.1
  have cb := T.1
  have fail : ∀ i a, i ≤ N → a < 256 → ¬ rd_cd c n i ≤ 7 → rd_K c n N sl i a := fun i a hi ha e => by
    have nw : ¬ (0 ≤ rd_fv (rd_cd c n i) ∧ rd_fv (rd_cd c n i) ≤ 7) := fun q => by
      unfold rd_fv at q
      by_cases k : rd_cd c n i = 99
      · rw [if_pos k] at q; exact absurd q.1 (by decide)
      · rw [if_neg k] at q
        have bd : rd_cd c n i < 1000 := by unfold rd_cd; split; exact find_lt; decide
        rw [show (7 : Int32) = Int32.ofNat 7 from rfl, on_le (by omega) (by omega)] at q
        exact e q.2
    refine Or.inr ⟨i, Nat.le_refl _, hi, fun d L b I0 I J Q ops rs t x2 tk h h5 ht hQ => ?_, fun d L b I0 J0 I J Q ops rs x1 fx h hl hl2 hQ Qk hk => ?_⟩
    · by_cases t3 : (300 : Int32) ≤ Int32.ofNat t
      · rcases x2 with _ | x2
        · rw [pm_vl_n, pb_106_7, if_pos t3, pb_106_76]; exact hQ I (xr_yf h)
        · rw [pm_vl_s, pb_106_7b, if_pos t3, pb_106_76b]; exact hQ I (xr_yf h)
      · rcases x2 with _ | x2
        · rw [pm_vl_n, pb_106_7, if_neg t3, pb_106_14, px_wordI (xr_tk tk h) h.2.2.2.2.2.2.2.1 hi (by omega) cb, pb_106_18, px_isWithin, pb_106_27, pm_b_f' nw, px_pass0, pb_106_30, if_pos rfl, pb_106_33]; exact hQ I (xr_yf h)
        · rw [pm_vl_s, pb_106_7b, if_neg t3, pb_106_14b, px_wordI (xr_tk tk h) h.2.2.2.2.2.2.2.1 hi (by omega) cb, pb_106_18b, px_isWithin, pb_106_27, pm_b_f' nw, px_pass0, pb_106_30, if_pos rfl, pb_106_33]; exact hQ I (xr_yf h)
    · refine pr_kind (d := d) (fx_rr fx h) h.2.2.2 hl (fun q => absurd q e) (fun _ I' h' => ?_)
      have zf := rr_f h hl2 h'
      refine hk 0 I' J (by decide) ?_
      rw [pb_230_42, pr_may_f (by rw [zf.2.1]; exact (on_n (by have := (pt_le (c := c) (n := n) i).2.2; omega)).1), pb_230_49, if_pos rfl]
      exact hQ I' J _ zf
  intro k
  induction k with
  | zero =>
    intro i a hk hi ha
    exact fail i a hi ha (by rw [show i = N by omega, cd_N T]; decide)
  | succ k ih =>
    intro i a hk hi ha
    by_cases e : rd_cd c n i ≤ 7
    · have iN : i < N := by
        by_cases q : i = N
        · rw [q, cd_N T] at e; omega
        · omega
      have pw : 2 ^ rd_cd c n i < 256 := by
        have : 2 ^ rd_cd c n i ≤ 2 ^ 7 := Nat.pow_le_pow_right (by decide) e
        have p7 : (2 : Nat) ^ 7 = 128 := by decide
        omega
      obtain ⟨eor, lor⟩ := on_or ha pw
      have wi : 0 ≤ rd_fv (rd_cd c n i) ∧ rd_fv (rd_cd c n i) ≤ 7 := by
        unfold rd_fv
        rw [if_neg (by omega)]
        exact ⟨(on_n (by omega)).1, by rw [show (7 : Int32) = Int32.ofNat 7 from rfl, on_le (by omega) (by omega)]; exact e⟩
      have efv : rd_fv (rd_cd c n i) = Int32.ofNat (rd_cd c n i) := by unfold rd_fv; rw [if_neg (by omega)]
      -- the class's step
      have stX : ∀ (d L : Nat) (b : Bool) (I0 I : Nat → Nat → Int32) (J : Nat → Nat → Int64) (Q : Int32 → Int64 → pm_H → Prop) (ops : List (Nat × Nat)) (rs : List (Nat × Nat × Nat × Nat × Nat)) (t : Nat) (x2 : Option Int32), rd_tk c n (N + 1) I0 → rd_xr c n N I0 i ops rs I → I 40 5 = Int32.ofNat a → t ≤ i → (∀ I', rd_xr c n N I0 (i + 1) ops rs I' → I' 40 5 = Int32.ofNat (a ||| 2 ^ rd_cd c n i) → (rd_cd c n (i + 1) = 12 → rd_xr c n N I0 (i + 2) ops rs (pm_u I' 40 3 (I' 40 3 + 1)) → pm_wp pm_code pm_meta (d + 2) 106 7 ([.ref 40, .int (Int32.ofNat (t + 1)), .int (Int32.ofNat (rd_cd c n i))], [], (pm_Gb L b, pm_u I' 40 3 (I' 40 3 + 1), J)) Q) ∧ (¬ rd_cd c n (i + 1) = 12 → Q 1 0 (pm_Gb L b, I', J))) → pm_wp pm_code pm_meta (d + 2) 106 7 ([.ref 40, .int (Int32.ofNat t), pm_vl x2], [], (pm_Gb L b, I, J)) Q := fun d L b I0 I J Q ops rs t x2 tk h h5 ht kk => by
        have t3 : ¬ (300 : Int32) ≤ Int32.ofNat t := by rw [show (300 : Int32) = Int32.ofNat 300 from rfl, on_le (by omega) (by omega)]; omega
        have p1 := xq_pass h.2.2.2.2.2
        have r1 := xr_q h p1
        have e5 : (pm_u I 40 3 (I 40 3 + 1)) 40 5 = Int32.ofNat a := by rw [pm_u_row, if_pos rfl, pm_w_ne (by decide)]; exact h5
        have hbit := hb_bit (rd_cd c n i) (by omega)
        have r2 := xr_5 (v := Int32.ofNat (a ||| 2 ^ rd_cd c n i)) r1
        generalize hI1 : pm_u I 40 3 (I 40 3 + 1) = I1 at *
        have k1 := kk _ r2 (by rw [pm_u_at])
        have c3 : (pm_u I1 40 5 (Int32.ofNat (a ||| 2 ^ rd_cd c n i))) 40 3 = Int32.ofNat (i + 1) := r2.2.2.2.2.2.2.2.1
        have at35 : pm_wp pm_code pm_meta (d + 2) 106 30 ([.ref 40, .int (Int32.ofNat t), .int (Int32.ofNat (rd_cd c n i))], [.int 1], (pm_Gb L b, I1, J)) Q := by
          rw [pb_106_30, if_neg (by decide), pb_106_35, hbit, e5, eor, px_wordI (xr_tk tk r2) c3 (by omega) (by omega) cb, pb_106_52]
          by_cases e12 : rd_cd c n (i + 1) = 12
          · rw [e12, show rd_fv 12 = 12 from rfl, if_pos rfl, pb_106_57, pb_106_62, px_pass1, pb_106_65, if_neg (by decide), pb_106_70, on_s]
            exact k1.1 e12 (xr_q r2 (xq_pass r2.2.2.2.2.2))
          · have ne : ¬ rd_fv (rd_cd c n (i + 1)) = 12 := fv_ne (by decide) e12
            rw [if_neg ne, pb_106_61, pb_106_62, px_pass0, pb_106_65, if_pos rfl, pb_106_68]
            exact k1.2 e12
        rcases x2 with _ | x2
        · rw [pm_vl_n, pb_106_7, if_neg t3, pb_106_14, px_wordI (xr_tk tk h) h.2.2.2.2.2.2.2.1 hi (by omega) cb, pb_106_18, px_isWithin, pb_106_27, pm_b_t' wi, px_pass1, hI1, efv]; exact at35
        · rw [pm_vl_s, pb_106_7b, if_neg t3, pb_106_14b, px_wordI (xr_tk tk h) h.2.2.2.2.2.2.2.1 hi (by omega) cb, pb_106_18b, px_isWithin, pb_106_27, pm_b_t' wi, px_pass1, hI1, efv]; exact at35
      by_cases e12 : rd_cd c n (i + 1) = 12
      · have iN2 : i + 1 < N := by
          by_cases q : i + 1 = N
          · rw [q, cd_N T] at e12; omega
          · omega
        -- the reference's step
        have stR : ∀ (d L : Nat) (b : Bool) (I0 : Nat → Nat → Int32) (J0 : Nat → Nat → Int64) (I : Nat → Nat → Int32) (J : Nat → Nat → Int64) (Q : Int32 → Int64 → pm_H → Prop) (ops : List (Nat × Nat)) (rs : List (Nat × Nat × Nat × Nat × Nat)) (x1 : Int32), rd_fx c n sl I0 → rd_rr c n sl I0 J0 i ops rs I J → ops.length ≤ 80 → rs.length ≤ 10 → (∀ I' J', rd_rr c n sl I0 J0 (i + 2) ops rs I' J' → pm_wc pm_code pm_meta (d + 2) 225 [.ref 79] (pm_Gb L b, I', J') (fun v w H => pm_wp pm_code pm_meta (d + 3) 230 57 ([.ref 79, .int x1, .int (Int32.ofNat (a ||| 2 ^ rd_cd c n i))], [.int v, .int (Int32.ofNat (a ||| 2 ^ rd_cd c n i))], H) Q)) → ∀ Qk : Int32 → Int64 → pm_H → Prop, (∀ (v : Nat) I' J', v < 256 → pm_wp pm_code pm_meta (d + 3) 230 42 ([.ref 79, .int x1, .int (Int32.ofNat (a ||| v))], [], (pm_Gb L b, I', J')) Q → Qk (Int32.ofNat v) 0 (pm_Gb L b, I', J')) → pm_wc pm_code pm_meta (d + 2) 225 [.ref 79] (pm_Gb L b, I, J) Qk := fun d L b I0 J0 I J Q ops rs x1 fx h hl hl2 kk Qk hk => by
          refine pr_kind (d := d) (fx_rr fx h) h.2.2.2 hl (fun _ I1 J1 h1 => ?_) (fun q => absurd e q)
          have r1 := rr_q h h1
          refine hk _ I1 J1 pw ?_
          rw [pb_230_42]
          refine pr_may (d := d) (fx_rr fx r1) (m := 12) (w := rd_W.getD 12 []) rfl rfl r1.2.2.2 (fun _ I2 J2 h2 => ?_) (fun q => absurd e12 q)
          rw [pb_230_49, if_neg (by decide), pb_230_52]
          exact kk I2 J2 (rr_q r1 h2)
        have next57 : ∀ (d L : Nat) (b : Bool) (I' : Nat → Nat → Int32) (J' : Nat → Nat → Int64) (Q : Int32 → Int64 → pm_H → Prop) (x1 : Int32) (v : Nat), v < 256 → pm_wp pm_code pm_meta (d + 3) 230 42 ([.ref 79, .int x1, .int (Int32.ofNat ((a ||| 2 ^ rd_cd c n i) ||| v))], [], (pm_Gb L b, I', J')) Q → pm_wp pm_code pm_meta (d + 3) 230 57 ([.ref 79, .int x1, .int (Int32.ofNat (a ||| 2 ^ rd_cd c n i))], [.int (Int32.ofNat v), .int (Int32.ofNat (a ||| 2 ^ rd_cd c n i))], (pm_Gb L b, I', J')) Q := fun d L b I' J' Q x1 v hv h => by
          rw [pb_230_57, (on_or lor hv).1]
          exact h
        rcases ih (i + 2) (a ||| 2 ^ rd_cd c n i) (by omega) (by omega) lor with ⟨i2, K, f1, f2, f3, sX, sR⟩ | ⟨f, f1, f2, sX, sR⟩
        · refine Or.inl ⟨i2, K, by omega, f2, f3, fun d L b I0 I J Q ops rs t x2 tk h h5 ht hQ => ?_, fun d L b I0 J0 I J Q ops rs x1 fx h hl hl2 hQ Qk hk => ?_⟩
          · refine stX d L b I0 I J Q ops rs t x2 tk h h5 ht (fun I' h' h5' => ⟨fun _ h'' => ?_, fun q => absurd e12 q⟩)
            have z := sX d L b I0 _ J Q ops rs (t + 1) (some (Int32.ofNat (rd_cd c n i))) tk h'' (by rw [pm_u_row, if_pos rfl, pm_w_ne (by decide)]; exact h5') (by omega) hQ
            rw [pm_vl_s] at z
            exact z
          · exact stR d L b I0 J0 I J Q ops rs x1 fx h hl hl2 (fun I' J' h' => sR d L b I0 J0 I' J' Q ops rs x1 fx h' hl hl2 hQ _ (fun v I'' J'' hv hh => next57 d L b I'' J'' Q x1 v hv hh)) Qk hk
        · refine Or.inr ⟨f, by omega, f2, fun d L b I0 I J Q ops rs t x2 tk h h5 ht hQ => ?_, fun d L b I0 J0 I J Q ops rs x1 fx h hl hl2 hQ Qk hk => ?_⟩
          · refine stX d L b I0 I J Q ops rs t x2 tk h h5 ht (fun I' h' h5' => ⟨fun _ h'' => ?_, fun q => absurd e12 q⟩)
            have z := sX d L b I0 _ J Q ops rs (t + 1) (some (Int32.ofNat (rd_cd c n i))) tk h'' (by rw [pm_u_row, if_pos rfl, pm_w_ne (by decide)]; exact h5') (by omega) hQ
            rw [pm_vl_s] at z
            exact z
          · exact stR d L b I0 J0 I J Q ops rs x1 fx h hl hl2 (fun I' J' h' => sR d L b I0 J0 I' J' Q ops rs x1 fx h' hl hl2 hQ _ (fun v I'' J'' hv hh => next57 d L b I'' J'' Q x1 v hv hh)) Qk hk
      · refine Or.inl ⟨i + 1, a ||| 2 ^ rd_cd c n i, by omega, by omega, lor, fun d L b I0 I J Q ops rs t x2 tk h h5 ht hQ => ?_, fun d L b I0 J0 I J Q ops rs x1 fx h hl hl2 hQ Qk hk => ?_⟩
        · exact stX d L b I0 I J Q ops rs t x2 tk h h5 ht (fun I' h' h5' => ⟨fun q => absurd q e12, fun _ => hQ I' h' h5'⟩)
        · refine pr_kind (d := d) (fx_rr fx h) h.2.2.2 hl (fun _ I1 J1 h1 => ?_) (fun q => absurd e q)
          have r1 := rr_q h h1
          refine hk _ I1 J1 pw ?_
          rw [pb_230_42]
          refine pr_may (d := d) (fx_rr fx r1) (m := 12) (w := rd_W.getD 12 []) rfl rfl r1.2.2.2 (fun q => absurd q e12) (fun _ => ?_)
          rw [pb_230_49, if_pos rfl]
          exact hQ I1 J1 r1
    · exact fail i a hi ha e

