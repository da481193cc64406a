/-! THE CALL read: small steps, on both sides. -/
section
variable {d L : Nat} {b : Bool} {I : Nat → Nat → Int32} {J : Nat → Nat → Int64} {Q : Int32 → Int64 → pm_H → Prop} {c : Nat → Nat} {n sl i opn N : Nat} {I0 : Nat → Nat → Int32} {J0 : Nat → Nat → Int64} {ops : List (Nat × Nat)}
theorem ls_snoc {α : Type} {l : List α} {x y : α} {m : Nat} (h : (l ++ [x])[m]? = some y) : (m < l.length ∧ l[m]? = some y) ∨ (m = l.length ∧ y = x) := by
  by_cases c : m < l.length
  · rw [List.getElem?_append_left c] at h; exact Or.inl ⟨c, h⟩
  · have lt := (List.getElem?_eq_some_iff.mp h).1
    rw [List.length_append] at lt
    have l1 : [x].length = 1 := rfl
    have e : m = l.length := by omega
    subst e
    rw [List.getElem?_concat_length] at h
    exact Or.inr ⟨rfl, (Option.some.inj h).symm⟩
theorem pr_does (fx : rd_fx c n sl I0) {x y : Nat} (h : rd_rq c n sl I0 J0 i ops opn I J) (hl : ops.length < 80) (hQ : ∀ I', rd_rq c n sl I0 J0 i (ops ++ [(x, y)]) opn I' J → Q 0 0 (pm_Gb L b, I', J)) : pm_wc pm_code pm_meta d 226 [.ref 79, .int (Int32.ofNat x), .int (Int32.ofNat y)] (pm_Gb L b, I, J) Q := by
  obtain ⟨h1, h2, h3, h4, h5, h6, h7, h8, h9, h10⟩ := h
  have e69 : I 79 69 = Int32.ofNat sl := by rw [h2 69 (by decide) (by decide) (by decide) (by decide) (by decide) (by decide)]; exact fx.2.2.2.2.1
  have sl12 := fx.2.2.2.2.2
  have g := on_n (a := sl) (by omega)
  have e80 : (80 : Int32) * Int32.ofNat sl + Int32.ofNat ops.length = Int32.ofNat (80 * sl + ops.length) := by
    rw [show (80 : Int32) = Int32.ofNat 80 from rfl, on_mul, hb_add _ _ (by omega) (by omega)]
  have gk := on_n (a := 80 * sl + ops.length) (by omega)
  have p13 : pm_in (Int32.ofNat sl) 13 = true := pi_in g.1 (by rw [g.2.2]; omega)
  have pk : pm_in (Int32.ofNat (80 * sl + ops.length)) 1040 = true := pi_in gk.1 (by rw [gk.2.2]; omega)
  rw [pb_226_0, h5, if_neg (by decide), pb_226_7]
  have a1 : ∀ k v, pm_u I 122 k v 79 = I 79 := fun k v => by rw [pm_u_row, if_neg (by decide)]
  have a2 : ∀ k v, pm_u I 122 k v 116 = I 116 := fun k v => by rw [pm_u_row, if_neg (by decide)]
  have a3 : ∀ k v k' v', pm_u (pm_u I 122 k v) 123 k' v' 79 = I 79 := fun k v k' v' => by rw [pm_u_row, if_neg (by decide)]; exact a1 k v
  have a4 : ∀ k v k' v', pm_u (pm_u I 122 k v) 123 k' v' 116 = I 116 := fun k v k' v' => by rw [pm_u_row, if_neg (by decide)]; exact a2 k v
  simp only [a1, a2, a3, a4, e69, g.2.1, h7, e80, gk.2.1, on_s]
  refine ⟨p13, pk, p13, pk, p13, p13, ?_⟩
  rw [pb_226_66]
  refine hQ _ ⟨fun r q1 q2 q3 q4 => ?_, fun j q1 q2 q3 q4 q5 q6 => ?_, h3, ?_, ?_, fun j hj => ?_, ?_, fun j hj => ?_, fun m z hz => ?_, ?_⟩
  · rw [pm_u_row, if_neg q2, pm_u_row, if_neg q4, pm_u_row, if_neg q3]; exact h1 r q1 q2 q3 q4
  · rw [pm_u_row, if_neg (by decide), a3]; exact h2 j q1 q2 q3 q4 q5 q6
  · rw [pm_u_row, if_neg (by decide), a3]; exact h4
  · rw [pm_u_row, if_neg (by decide), a3]; exact h5
  · rw [pm_u_row, if_pos rfl, pm_w_ne hj, a4]; exact h6 j hj
  · rw [pm_u_at, List.length_append]; rfl
  · rw [pm_u_row, if_neg (by decide), pm_u_row, if_neg (by decide), pm_u_row, if_pos rfl, pm_w_ne (by omega), pm_u_row, if_neg (by decide), pm_u_row, if_pos rfl, pm_w_ne (by omega), pm_u_row, if_neg (by decide)]
    exact h8 j hj
  · simp only [pm_u_row, show ¬ (122 : Nat) = 116 by decide, show ¬ (122 : Nat) = 123 by decide, show ¬ (123 : Nat) = 116 by decide, show ¬ (123 : Nat) = 122 by decide, if_false, if_true, pm_w_at]
    rcases ls_snoc hz with ⟨q1, q2⟩ | ⟨q1, q2⟩
    · rw [if_neg (by omega), if_neg (by omega)]
      exact h9 m z q2
    · rw [if_pos (by omega), if_pos (by omega), q2]
      exact ⟨rfl, rfl⟩
  · obtain ⟨r1, r2, r3, r4⟩ := h10
    refine ⟨?_, ?_, ?_, r4⟩
    · rw [pm_u_row, if_neg (by decide), a3]; exact r1
    · rw [pm_u_row, if_neg (by decide), a3]; exact r2
    · rw [pm_u_row, if_neg (by decide), a3]; exact r3
theorem W_hash : rd_W.map rd_h = [9748424, 358337, 6476954, 28801, 6278293490, 82451, 236061329, 1831504, 10492150, 119163, 355412, 249, 1111, 423, 10631, 8328978, 21568592, 582341, 2160166, 335207579, 161437] := by decide +kernel
theorem pr_kindHere (h : rd_rq c n sl I0 J0 i ops opn I J) : pm_wc pm_code pm_meta d 224 [.ref 79] (pm_Gb L b, I, J) Q ↔ Q (if rd_cd c n i ≤ 7 then Int32.ofNat (rd_cd c n i) else -1) 0 (pm_Gb L b, I, J) := by
  obtain ⟨h1, h2, h3, h4, h5, h6, h7, h8, h9, r1, r2, r3, r4⟩ := h
  rw [pb_224_0, h5, if_neg (by decide), pb_224_7, r1]
  by_cases q : rd_s c n i < n ∧ rd_L (c (rd_s c n i)) = true
  · have kd : rd_kd c n i = 1 := by unfold rd_kd; rw [if_pos q.1, if_pos q.2]
    have jw : rd_jw c n i = rd_wt (rd_tl c (rd_s c n i) (rd_pt c n (i + 1))) := by unfold rd_jw; rw [if_pos q.1, if_pos q.2]
    have cd : rd_cd c n i = rd_find (rd_tl c (rd_s c n i) (rd_pt c n (i + 1))) rd_W 0 := by unfold rd_cd; rw [if_pos q]
    have lets := tl_let (e := 0) q.1 q.2
    have wb := wt_bd lets
    have key : ∀ (m : Nat) (w : List Nat) (v : Int64), rd_W[m]? = some w → v = Int64.ofInt (rd_h w) → (lg_cmp (J 79 65) v = 0) = (rd_cd c n i = m) := fun m w v hw hv => by
      have ok := W_ok w (List.mem_of_getElem? hw)
      have hb := h_bd w.length w rfl ok.1
      have pw : 27 ^ w.length ≤ 27 ^ 8 := Nat.pow_le_pow_right (by decide) ok.2.1
      have p8 : (27 : Nat) ^ 8 = 282429536481 := by decide
      rw [lg_eq, r4, hv, jw, ol_eq (by omega) (by omega) (by omega) (by omega), cd]
      exact propext (wt_W hw lets)
    have k0 := key 0 _ 9748424 rfl rfl
    have k1 := key 1 _ 358337 rfl rfl
    have k2 := key 2 _ 6476954 rfl rfl
    have k3 := key 3 _ 28801 rfl rfl
    have k4 := key 4 _ 6278293490 rfl rfl
    have k5 := key 5 _ 82451 rfl rfl
    have k6 := key 6 _ 236061329 rfl rfl
    have k7 := key 7 _ 1831504 rfl rfl
    clear key
    generalize rd_cd c n i = z at *
    rw [kd, if_pos rfl, pb_224_17]
    by_cases c0 : z = 0
    · rw [if_pos (by rw [k0]; exact c0), pb_224_28, pb_224_140, c0]; exact Iff.rfl
    rw [if_neg (by rw [k0]; exact c0), pb_224_32]
    by_cases c1 : z = 1
    · rw [if_pos (by rw [k1]; exact c1), pb_224_43, pb_224_140, c1]; exact Iff.rfl
    rw [if_neg (by rw [k1]; exact c1), pb_224_47]
    by_cases c2 : z = 2
    · rw [if_pos (by rw [k2]; exact c2), pb_224_58, pb_224_140, c2]; exact Iff.rfl
    rw [if_neg (by rw [k2]; exact c2), pb_224_62]
    by_cases c3 : z = 3
    · rw [if_pos (by rw [k3]; exact c3), pb_224_73, pb_224_140, c3]; exact Iff.rfl
    rw [if_neg (by rw [k3]; exact c3), pb_224_77]
    by_cases c4 : z = 4
    · rw [if_pos (by rw [k4]; exact c4), pb_224_88, pb_224_140, c4]; exact Iff.rfl
    rw [if_neg (by rw [k4]; exact c4), pb_224_92]
    by_cases c5 : z = 5
    · rw [if_pos (by rw [k5]; exact c5), pb_224_103, pb_224_140, c5]; exact Iff.rfl
    rw [if_neg (by rw [k5]; exact c5), pb_224_107]
    by_cases c6 : z = 6
    · rw [if_pos (by rw [k6]; exact c6), pb_224_118, pb_224_140, c6]; exact Iff.rfl
    rw [if_neg (by rw [k6]; exact c6), pb_224_123]
    by_cases c7 : z = 7
    · rw [if_pos (by rw [k7]; exact c7), pb_224_134, pb_224_140, c7]; exact Iff.rfl
    rw [if_neg (by rw [k7]; exact c7), pb_224_139, pb_224_140, if_neg (by omega)]
  · have kd : ¬ rd_kd c n i = 1 := by
      unfold rd_kd
      by_cases q1 : rd_s c n i < n
      · rw [if_pos q1, if_neg (fun z => q ⟨q1, z⟩)]
        split <;> decide
      · rw [if_neg q1]; decide
    have cd : rd_cd c n i = 99 := by unfold rd_cd; rw [if_neg q]
    rw [if_neg kd, pb_224_15, cd]
    exact Iff.rfl
theorem pr_kind (fx : rd_fx c n sl I0) (h : rd_rq c n sl I0 J0 i ops opn I J) (hl : ops.length ≤ 80) (hY : rd_cd c n i ≤ 7 → ∀ I' J', rd_rq c n sl I0 J0 (i + 1) ops opn I' J' → Q (Int32.ofNat (2 ^ rd_cd c n i)) 0 (pm_Gb L b, I', J')) (hN : ¬ rd_cd c n i ≤ 7 → ∀ I', rd_rf c n sl I0 J0 i I' J → Q 0 0 (pm_Gb L b, I', J)) : pm_wc pm_code pm_meta (d + 2) 225 [.ref 79] (pm_Gb L b, I, J) Q := by
  rw [pb_225_0, pr_kindHere h, pb_225_4]
  by_cases e : rd_cd c n i ≤ 7
  · have g := on_n (a := rd_cd c n i) (by omega)
    rw [if_pos e, if_pos g.1, pb_225_15]
    refine rq_next fx h (fun I' J' h' => ?_)
    rw [pb_225_19, hb_bit _ (by omega)]
    exact hY e I' J' h'
  · rw [if_neg e, if_neg (by decide), pb_225_9]
    refine pr_fails_q fx h hl (fun I' h' => ?_)
    rw [pb_225_13]
    exact hN e I' h'
theorem pr_kind_f (h : 0 ≤ I 79 68) : pm_wc pm_code pm_meta (d + 1) 225 [.ref 79] (pm_Gb L b, I, J) Q ↔ Q 0 0 (pm_Gb L b, I, J) := by
  rw [pb_225_0, pb_224_0, if_pos h, pb_224_15, pb_225_4, if_neg (by decide), pb_225_9, pr_fails_f h, pb_225_13]
/-- the reference behind a fault: nothing more -/
theorem pr_single_f (h : 0 ≤ I 79 68) : pm_wc pm_code pm_meta (d + 3) 229 [.ref 79] (pm_Gb L b, I, J) Q ↔ Q 0 0 (pm_Gb L b, I, J) := by
  rw [pb_229_0, pb_229_2, pr_may_f h, pb_229_9, if_pos rfl, pb_229_25, pr_may_f h, pb_229_32, if_pos rfl, pb_229_48, pr_may_f h, pb_229_55, if_pos rfl, pb_229_80, pr_may_f h, pb_229_87, if_pos rfl, pb_229_113, pr_may_f h, pb_229_120, if_pos rfl, pb_229_133, pr_isSign_f h, pb_229_139, if_pos rfl, pb_229_187, pr_fails_f h, pb_229_191, if_pos rfl, pb_229_201]
theorem pr_every_f (h : 0 ≤ I 79 68) : pm_wc pm_code pm_meta (d + 4) 228 [.ref 79] (pm_Gb L b, I, J) Q ↔ Q 0 0 (pm_Gb L b, I, J) := by
  rw [pb_228_0, pr_single_f h, pb_228_4, pr_may_f h, pb_228_11, if_pos rfl, pb_228_27]
theorem pr_either_f (h : 0 ≤ I 79 68) : pm_wc pm_code pm_meta (d + 5) 227 [.ref 79] (pm_Gb L b, I, J) Q ↔ Q 0 0 (pm_Gb L b, I, J) := by
  rw [pb_227_0, pr_every_f h, pb_227_4, pr_may_f h, pb_227_11, if_pos rfl, pb_227_27]
/-- the class's state within a COND -/
def rd_xq (c : Nat → Nat) (n N : Nat) (I0 : Nat → Nat → Int32) (i : Nat) (ops : List (Nat × Nat)) (I : Nat → Nat → Int32) : Prop :=
  (∀ r, ¬ r = 40 → ¬ r = 46 → ¬ r = 47 → I r = I0 r) ∧ (∀ j, ¬ j = 3 → ¬ j = 4 → I 40 j = I0 40 j) ∧ I 40 3 = Int32.ofNat i ∧ pm_ti (I 46) 2 100 ∧ I 46 3 = Int32.ofNat ops.length ∧ ∀ m x, ops[m]? = some x → I 47 (2 * m + 0) = pm_opw (Int32.ofNat x.1) ∧ I 47 (2 * m + 1) = Int32.ofNat x.2
def rd_xf (I0 : Nat → Nat → Int32) (f : Nat) (I : Nat → Nat → Int32) : Prop :=
  (∀ r, ¬ r = 40 → ¬ r = 46 → ¬ r = 47 → I r = I0 r) ∧ (∀ j, ¬ j = 3 → ¬ j = 4 → I 40 j = I0 40 j) ∧ I 40 3 = Int32.ofNat f ∧ pm_ti (I 46) 2 100
theorem xq_xf (h : rd_xq c n N I0 i ops I) : rd_xf I0 i I := ⟨h.1, h.2.1, h.2.2.1, h.2.2.2.1⟩
theorem xq_tk (tk : rd_tk c n (N + 1) I0) (h : rd_xq c n N I0 i ops I) : rd_tk c n (N + 1) I := by
  unfold rd_tk at tk ⊢
  rw [h.1 42 (by decide) (by decide) (by decide), h.1 43 (by decide) (by decide) (by decide)]; exact tk
theorem px_pass0 : pm_wc pm_code pm_meta d 103 [.ref 40, .int 0] (pm_Gb L b, I, J) Q ↔ Q 0 0 (pm_Gb L b, I, J) := by
  rw [pb_103_0, if_pos rfl, pb_103_14]
  exact ⟨fun z => z.2, fun z => ⟨by decide, z⟩⟩
theorem px_pass1 : pm_wc pm_code pm_meta d 103 [.ref 40, .int 1] (pm_Gb L b, I, J) Q ↔ Q 1 0 (pm_Gb L b, pm_u I 40 3 (I 40 3 + 1), J) := by
  rw [pb_103_0, if_neg (by decide), pb_103_4, pb_103_14]
  exact ⟨fun z => z.2, fun z => ⟨by decide, z⟩⟩
theorem xq_pass (h : rd_xq c n N I0 i ops I) : rd_xq c n N I0 (i + 1) ops (pm_u I 40 3 (I 40 3 + 1)) := by
  obtain ⟨h1, h2, h3, h4, h5, h6⟩ := h
  refine ⟨fun r q1 q2 q3 => ?_, fun j q1 q2 => ?_, ?_, ?_, ?_, fun m x hx => ?_⟩
  · rw [pm_u_row, if_neg q1]; exact h1 r q1 q2 q3
  · rw [pm_u_row, if_pos rfl, pm_w_ne q1]; exact h2 j q1 q2
  · rw [pm_u_at, h3, on_s]
  · rw [pm_u_row, if_neg (by decide)]; exact h4
  · rw [pm_u_row, if_neg (by decide)]; exact h5
  · rw [pm_u_row, if_neg (by decide)]; exact h6 m x hx
theorem px_addSign {x y : Nat} {w : Int32} (hw : w = pm_opw (Int32.ofNat x)) (h : rd_xq c n N I0 i ops I) (hl : ops.length < 100) (hQ : ∀ I', rd_xq c n N I0 i (ops ++ [(x, y)]) I' → Q 0 0 (pm_Gb L b, I', J)) : pm_wc pm_code pm_meta (d + 1) 110 [.ref 40, .int w, .int (Int32.ofNat y)] (pm_Gb L b, I, J) Q := by
  obtain ⟨h1, h2, h3, h4, h5, h6⟩ := h
  have g := on_n (a := ops.length) (by omega)
  have g2 := on_n (a := ops.length + 1) (by omega)
  have e100 : (100 : Int32).toInt = 100 := rfl
  have lt : I 46 3 < 100 := by rw [h5, pi_lt, g.2.2, e100]; omega
  rw [pb_110_0, pt_add_46 h4 lt, pb_110_7, h5, on_s, g.2.1]
  generalize hI1 : pm_u (pm_zr I 47 (2 * ops.length) (2 * ops.length + 2)) 46 3 (Int32.ofNat (ops.length + 1)) = I1
  have k1 : ∀ r, ¬ r = 46 → ¬ r = 47 → I1 r = I r := fun r q1 q2 => by rw [← hI1, pm_u_row, if_neg q1, pm_zr_row, if_neg q2]
  have c1 : I1 46 3 = Int32.ofNat (ops.length + 1) := by rw [← hI1, pm_u_at]
  have t1 : pm_ti (I1 46) 2 100 := by
    rw [← hI1, pm_u_row, if_pos rfl, pm_zr_row, if_neg (by decide)]
    exact pm_ti_w h4 g2.1 (by rw [pi_le, g2.2.2, e100]; omega)
  have r1 : ∀ j, j < 2 * ops.length → I1 47 j = I 47 j := fun j hj => by
    rw [← hI1, pm_u_row, if_neg (by decide), pm_zr_row, if_pos rfl]
    exact pm_zw_out (by omega)
  have i1 : ∀ X1 : Nat → Nat → Int32, X1 46 = I1 46 → 0 ≤ Int32.ofNat ops.length ∧ Int32.ofNat ops.length < X1 46 3 := fun X1 hX => ⟨g.1, by rw [hX, c1, on_lt (by omega) (by omega)]; omega⟩
  have e2 : ∀ v, pm_u I1 47 (2 * ops.length + 0) v 46 = I1 46 := fun v => by rw [pm_u_row, if_neg (by decide)]
  rw [pt_set_46_0 t1, if_pos (i1 I1 rfl), g.2.1, pb_110_18, pt_set_46_1 (by rw [e2]; exact t1), if_pos (i1 _ (e2 _)), g.2.1, pb_110_28]
  refine hQ _ ⟨fun r q1 q2 q3 => ?_, fun j q1 q2 => ?_, ?_, ?_, ?_, fun m z hz => ?_⟩
  · rw [pm_u_row, if_neg q3, pm_u_row, if_neg q3, k1 r q2 q3]; exact h1 r q1 q2 q3
  · rw [pm_u_row, if_neg (by decide), pm_u_row, if_neg (by decide), k1 40 (by decide) (by decide)]; exact h2 j q1 q2
  · rw [pm_u_row, if_neg (by decide), pm_u_row, if_neg (by decide), k1 40 (by decide) (by decide)]; exact h3
  · rw [pm_u_row, if_neg (by decide), e2]; exact t1
  · rw [pm_u_row, if_neg (by decide), e2, c1, List.length_append]; rfl
  · rw [pm_u_row, if_pos rfl, pm_w_at, pm_u_row, if_pos rfl, pm_w_at, pm_w_at, pm_w_at]
    rcases ls_snoc hz with ⟨q1, q2⟩ | ⟨q1, q2⟩
    · rw [if_neg (by omega), if_neg (by omega), if_neg (by omega), if_neg (by omega), r1 _ (by omega), r1 _ (by omega)]
      exact h6 m z q2
    · rw [if_neg (by omega), if_pos (by omega), if_pos (by omega), q2]
      exact ⟨hw, rfl⟩
theorem px_passNumber (tk : rd_tk c n (N + 1) I0) (cb : ∀ p, p < n → c p ≤ 255) (hN : N ≤ 300) (hi : i ≤ N) {most : Nat} (hm : most < 1000) (h : rd_xq c n N I0 i ops I) (hY : (rd_sg c n i = 257 ∧ rd_nm c n i ≤ most) → ∀ I', rd_xq c n N I0 (i + 1) ops I' → I' 40 4 = Int32.ofNat (rd_nm c n i) → Q 1 0 (pm_Gb L b, I', J)) (hN' : ¬ (rd_sg c n i = 257 ∧ rd_nm c n i ≤ most) → ∀ I', rd_xf I0 i I' → Q 0 0 (pm_Gb L b, I', J)) : pm_wc pm_code pm_meta (d + 1) 104 [.ref 40, .int (Int32.ofNat most)] (pm_Gb L b, I, J) Q := by
  have tk1 := xq_tk tk h
  have g := on_n (a := i) (by omega)
  have h3 := h.2.2.1
  have sgb : rd_sg c n i ≤ 258 := by
    unfold rd_sg
    split
    · rename_i hh
      have := cb _ hh
      split
      · decide
      · split
        · decide
        · omega
    · decide
  have ii : 0 ≤ Int32.ofNat i ∧ Int32.ofNat i < I 42 3 := ⟨g.1, by rw [tk1.2.1, on_lt (by omega) (by omega)]; omega⟩
  rw [pb_104_0, h3, pt_get_42_2 tk1.1, if_pos ii, g.2.1, (tk1.2.2 i (by omega)).2.2, pb_104_13]
  generalize hI1 : pm_u I 40 4 (rd_tv c n i) = I1
  have q1 : rd_xq c n N I0 i ops I1 := by
    obtain ⟨h1, h2, h3, h4, h5, h6⟩ := h
    rw [← hI1]
    refine ⟨fun r q1 q2 q3 => ?_, fun j q1 q2 => ?_, ?_, ?_, ?_, fun m x hx => ?_⟩
    · rw [pm_u_row, if_neg q1]; exact h1 r q1 q2 q3
    · rw [pm_u_row, if_pos rfl, pm_w_ne q2]; exact h2 j q1 q2
    · rw [pm_u_row, if_pos rfl, pm_w_ne (by decide)]; exact h3
    · rw [pm_u_row, if_neg (by decide)]; exact h4
    · rw [pm_u_row, if_neg (by decide)]; exact h5
    · rw [pm_u_row, if_neg (by decide)]; exact h6 m x hx
  have a4 : I1 40 4 = rd_tv c n i := by rw [← hI1, pm_u_at]
  have tk2 := xq_tk tk q1
  have no : ¬ (rd_sg c n i = 257 ∧ rd_nm c n i ≤ most) → pm_wp pm_code pm_meta (d + 1) 104 51 ([.ref 40, .int (Int32.ofNat most)], [.ref 40], (pm_Gb L b, I1, J)) Q := fun e => by
    rw [pb_104_51, pb_104_52, px_pass0, pb_104_55]
    exact ⟨by decide, hN' e I1 (xq_xf q1)⟩
  rw [q1.2.2.1, pt_get_42_0 tk2.1, if_pos (show 0 ≤ Int32.ofNat i ∧ Int32.ofNat i < I1 42 3 from ⟨g.1, by rw [tk2.2.1, on_lt (by omega) (by omega)]; omega⟩), g.2.1, (tk2.2.2 i (by omega)).1, pb_104_29]
  by_cases s : rd_sg c n i = 257
  · rw [if_pos (by rw [s]; rfl), pb_104_35, a4, px_isWithin, pb_104_44]
    have tv : rd_tv c n i = if rd_nm c n i < 1000 then Int32.ofNat (rd_nm c n i) else -1 := by unfold rd_tv; rw [s, if_neg (by decide), if_pos rfl]
    by_cases e : rd_nm c n i ≤ most
    · have gn := on_n (a := rd_nm c n i) (by omega)
      have e4 : rd_tv c n i = Int32.ofNat (rd_nm c n i) := by rw [tv, if_pos (by omega)]
      rw [pm_b_t' (show (0 : Int32) ≤ rd_tv c n i ∧ rd_tv c n i ≤ Int32.ofNat most from by rw [e4]; exact ⟨gn.1, by rw [on_le (by omega) (by omega)]; exact e⟩), if_neg (by decide), pb_104_47, pb_104_52, px_pass1, pb_104_55]
      refine ⟨by decide, hY ⟨s, e⟩ _ (xq_pass q1) ?_⟩
      rw [pm_u_row, if_pos rfl, pm_w_ne (by decide), a4, e4]
    · rw [pm_b_f' (show ¬ ((0 : Int32) ≤ rd_tv c n i ∧ rd_tv c n i ≤ Int32.ofNat most) from fun z => by
        by_cases y : rd_nm c n i < 1000
        · rw [tv, if_pos y, on_le (by omega) (by omega)] at z
          omega
        · rw [tv, if_neg y] at z
          exact absurd z.1 (by decide)), if_pos rfl]
      exact no (fun z => e z.2)
  · rw [if_neg (by rw [show (257 : Int32) = Int32.ofNat 257 from rfl, on_eq (by omega) (by omega)]; exact s)]
    exact no (fun z => s z.1)
end

