/-! THE CALL read: the reference's small steps. -/
def rd_rq (c : Nat → Nat) (n sl : Nat) (I0 : Nat → Nat → Int32) (J0 : Nat → Nat → Int64) (i : Nat) (ops : List (Nat × Nat)) (opn : Nat) (I : Nat → Nat → Int32) (J : Nat → Nat → Int64) : Prop :=
  (∀ r, ¬ r = 79 → ¬ r = 116 → ¬ r = 122 → ¬ r = 123 → I r = I0 r) ∧ (∀ j, ¬ j = 62 → ¬ j = 63 → ¬ j = 64 → ¬ j = 66 → ¬ j = 67 → ¬ j = 68 → I 79 j = I0 79 j) ∧ (∀ r, ¬ r = 79 → J r = J0 r) ∧
  I 79 67 = Int32.ofNat opn ∧ I 79 68 = -1 ∧ (∀ j, ¬ j = sl → I 116 j = I0 116 j) ∧ I 116 sl = Int32.ofNat ops.length ∧ (∀ j, j < 80 * sl → I 122 j = I0 122 j ∧ I 123 j = I0 123 j) ∧
  (∀ m x, ops[m]? = some x → I 122 (80 * sl + m) = Int32.ofNat x.1 ∧ I 123 (80 * sl + m) = Int32.ofNat x.2) ∧ rd_rt c n i I J
def rd_rf (c : Nat → Nat) (n sl : Nat) (I0 : Nat → Nat → Int32) (J0 : Nat → Nat → Int64) (f : Nat) (I : Nat → Nat → Int32) (J : Nat → Nat → Int64) : Prop :=
  (∀ r, ¬ r = 79 → ¬ r = 116 → ¬ r = 122 → ¬ r = 123 → I r = I0 r) ∧ (∀ j, ¬ j = 62 → ¬ j = 63 → ¬ j = 64 → ¬ j = 66 → ¬ j = 67 → ¬ j = 68 → I 79 j = I0 79 j) ∧ (∀ r, ¬ r = 79 → J r = J0 r) ∧
  I 79 68 = Int32.ofNat (rd_s c n f) ∧ (∀ j, ¬ j = sl → I 116 j = I0 116 j) ∧ (∀ j, j < 80 * sl → I 122 j = I0 122 j ∧ I 123 j = I0 123 j) ∧ ∃ o : Nat, I 116 sl = Int32.ofNat o ∧ o ≤ 80
/-- what stands fast while it is read -/
def rd_fx (c : Nat → Nat) (n sl : Nat) (I0 : Nat → Nat → Int32) : Prop := I0 79 61 = Int32.ofNat n ∧ (∀ p, p < n → I0 138 p = Int32.ofNat (c p)) ∧ (∀ p, p < n → c p ≤ 255) ∧ n ≤ 300 ∧ I0 79 69 = Int32.ofNat sl ∧ sl ≤ 12
section
variable {d L : Nat} {b : Bool} {I : Nat → Nat → Int32} {J : Nat → Nat → Int64} {Q : Int32 → Int64 → pm_H → Prop} {c : Nat → Nat} {n sl i opn : Nat} {I0 : Nat → Nat → Int32} {J0 : Nat → Nat → Int64} {ops : List (Nat × Nat)}
theorem rq_rf0 (fx : rd_fx c n sl I0) (h : rd_rq c n sl I0 J0 i ops opn I J) (hl : ops.length ≤ 80) : rd_rf c n sl I0 J0 i (pm_u I 79 68 (I 79 63)) J := by
  obtain ⟨h1, h2, h3, h4, h5, h6, h7, h8, h9, h10⟩ := h
  refine ⟨fun r a e f g => ?_, fun j a1 a2 a3 a4 a5 a6 => ?_, h3, ?_, fun j hj => ?_, fun j hj => ?_, ops.length, ?_, hl⟩
  · rw [pm_u_row, if_neg a]; exact h1 r a e f g
  · rw [pm_u_row, if_pos rfl, pm_w_ne a6]; exact h2 j a1 a2 a3 a4 a5 a6
  · rw [pm_u_at]; exact h10.2.1
  · rw [pm_u_row, if_neg (by decide)]; exact h6 j hj
  · rw [pm_u_row, if_neg (by decide), pm_u_row, if_neg (by decide)]; exact h8 j hj
  · rw [pm_u_row, if_neg (by decide)]; exact h7
theorem pr_fails_q (fx : rd_fx c n sl I0) (h : rd_rq c n sl I0 J0 i ops opn I J) (hl : ops.length ≤ 80) (hQ : ∀ I', rd_rf c n sl I0 J0 i I' J → Q 0 0 (pm_Gb L b, I', J)) : pm_wc pm_code pm_meta d 217 [.ref 79] (pm_Gb L b, I, J) Q := by
  rw [pb_217_0, h.2.2.2.2.1, if_neg (by decide), pb_217_7, pb_217_15]
  exact hQ _ (rq_rf0 fx h hl)
theorem pr_fails_f (h : 0 ≤ I 79 68) : pm_wc pm_code pm_meta d 217 [.ref 79] (pm_Gb L b, I, J) Q ↔ Q 0 0 (pm_Gb L b, I, J) := by
  rw [pb_217_0, if_pos h, pb_217_15]
theorem rq_next (fx : rd_fx c n sl I0) (h : rd_rq c n sl I0 J0 i ops opn I J) (hQ : ∀ I' J', rd_rq c n sl I0 J0 (i + 1) ops opn I' J' → Q 0 0 (pm_Gb L b, I', J')) : pm_wc pm_code pm_meta (d + 1) 216 [.ref 79] (pm_Gb L b, I, J) Q := by
  obtain ⟨h1, h2, h3, h4, h5, h6, h7, h8, h9, h10⟩ := h
  refine pr_next (i := i + 1) (c := c) (n := n) (by rw [h2 61 (by decide) (by decide) (by decide) (by decide) (by decide) (by decide)]; exact fx.1) (fun p hp => by rw [h1 138 (by decide) (by decide) (by decide) (by decide)]; exact fx.2.1 p hp) fx.2.2.1 fx.2.2.2.1 h10.2.2.1 (fun I' J' nf rt => hQ I' J' ⟨fun r a e f g => ?_, fun j a1 a2 a3 a4 a5 a6 => ?_, fun r a => ?_, ?_, ?_, fun j hj => ?_, ?_, fun j hj => ?_, fun m x hx => ?_, rt⟩)
  · rw [nf.1 r a]; exact h1 r a e f g
  · rw [nf.2.1 j a1 a2 a3 a4]; exact h2 j a1 a2 a3 a4 a5 a6
  · rw [nf.2.2 r a]; exact h3 r a
  · rw [nf.2.1 67 (by decide) (by decide) (by decide) (by decide)]; exact h4
  · rw [nf.2.1 68 (by decide) (by decide) (by decide) (by decide)]; exact h5
  · rw [nf.1 116 (by decide)]; exact h6 j hj
  · rw [nf.1 116 (by decide)]; exact h7
  · rw [nf.1 122 (by decide), nf.1 123 (by decide)]; exact h8 j hj
  · rw [nf.1 122 (by decide), nf.1 123 (by decide)]; exact h9 m x hx
theorem tl_let {e : Nat} (h : rd_s c n i < n) (hl : rd_L (c (rd_s c n i)) = true) : ∀ x ∈ rd_tl c (rd_s c n i) (rd_pt c n (i + 1)), 97 ≤ x ∧ x ≤ 122 := fun x hx => by
  obtain ⟨j, j1, j2, rfl⟩ := tl_mem hx
  have ee : rd_pt c n (i + 1) = rd_go rd_L c n (rd_s c n i) := by rw [pt_s]; unfold rd_en; rw [if_pos h, if_pos hl]
  rw [ee] at j2
  exact L_iff.mp ((go_le (P := rd_L) (c := c) (n := n) (rd_s c n i)).2.2.1 j j1 j2).2
theorem wt_bd {t : List Nat} (ht : ∀ x ∈ t, 97 ≤ x ∧ x ≤ 122) : -1 ≤ rd_wt t ∧ rd_wt t < 1000000000000 := by
  unfold rd_wt
  by_cases h : t.length ≤ 8
  · rw [if_pos h]
    have z := h_bd t.length t rfl ht
    have pw : 27 ^ t.length ≤ 27 ^ 8 := Nat.pow_le_pow_right (by decide) h
    have p8 : (27 : Nat) ^ 8 = 282429536481 := by decide
    omega
  · rw [if_neg h]; omega
theorem cd_99 {m : Nat} (hm : m < 21) (h : rd_cd c n i = m) : rd_s c n i < n ∧ rd_L (c (rd_s c n i)) = true := by
  by_cases q : rd_s c n i < n ∧ rd_L (c (rd_s c n i)) = true
  · exact q
  · unfold rd_cd at h
    rw [if_neg q] at h
    omega
theorem pr_isWord {m : Nat} {w : List Nat} {v : Int64} (hw : rd_W[m]? = some w) (hv : v = Int64.ofInt (rd_h w)) (h : rd_rq c n sl I0 J0 i ops opn I J) : pm_wc pm_code pm_meta d 218 [.ref 79, .long v] (pm_Gb L b, I, J) Q ↔ Q (if rd_cd c n i = m then 1 else 0) 0 (pm_Gb L b, I, J) := by
  obtain ⟨h1, h2, h3, h4, h5, h6, h7, h8, h9, r1, r2, r3, r4⟩ := h
  have hm : m < 21 := (List.getElem?_eq_some_iff.mp hw).1
  have no : ¬ rd_cd c n i = m → (pm_wp pm_code pm_meta d 218 28 ([.ref 79, .long v, pm_unset], [], (pm_Gb L b, I, J)) Q ↔ Q (if rd_cd c n i = m then 1 else 0) 0 (pm_Gb L b, I, J)) := fun e => by
    rw [pb_218_28, pb_218_29, if_neg e]
    exact ⟨fun z => z.2, fun z => ⟨by decide, z⟩⟩
  rw [pb_218_0, h5, if_neg (by decide), pb_218_7, r1]
  by_cases q : rd_s c n i < n ∧ rd_L (c (rd_s c n i)) = true
  · have kd : rd_kd c n i = 1 := by unfold rd_kd; rw [if_pos q.1, if_pos q.2]
    have jw : rd_jw c n i = rd_wt (rd_tl c (rd_s c n i) (rd_pt c n (i + 1))) := by unfold rd_jw; rw [if_pos q.1, if_pos q.2]
    have cd : rd_cd c n i = rd_find (rd_tl c (rd_s c n i) (rd_pt c n (i + 1))) rd_W 0 := by unfold rd_cd; rw [if_pos q]
    have lets := tl_let (e := 0) q.1 q.2
    have wb := wt_bd lets
    have ok := W_ok w (List.mem_of_getElem? hw)
    have hb := h_bd w.length w rfl ok.1
    have pw : 27 ^ w.length ≤ 27 ^ 8 := Nat.pow_le_pow_right (by decide) ok.2.1
    have p8 : (27 : Nat) ^ 8 = 282429536481 := by decide
    have key : (lg_cmp (J 79 65) v = 0) = (rd_cd c n i = m) := by
      rw [lg_eq, r4, hv, jw, ol_eq (by omega) (by omega) (by omega) (by omega), cd]
      exact propext (wt_W hw lets)
    rw [kd, if_pos rfl, pb_218_15]
    by_cases e : rd_cd c n i = m
    · rw [if_pos (by rw [key]; exact e), pb_218_24, pb_218_29, if_pos e]
      exact ⟨fun z => z.2, fun z => ⟨by decide, z⟩⟩
    · rw [if_neg (by rw [key]; exact e)]
      exact no e
  · have kd : ¬ rd_kd c n i = 1 := by
      unfold rd_kd
      by_cases q1 : rd_s c n i < n
      · rw [if_pos q1, if_neg (fun z => q ⟨q1, z⟩)]
        split <;> decide
      · rw [if_neg q1]; decide
    rw [if_neg kd]
    exact no (fun z => q (cd_99 hm z))
theorem pr_may (fx : rd_fx c n sl I0) {m : Nat} {w : List Nat} {v : Int64} (hw : rd_W[m]? = some w) (hv : v = Int64.ofInt (rd_h w)) (h : rd_rq c n sl I0 J0 i ops opn I J) (hY : rd_cd c n i = m → ∀ I' J', rd_rq c n sl I0 J0 (i + 1) ops opn I' J' → Q 1 0 (pm_Gb L b, I', J')) (hN : ¬ rd_cd c n i = m → Q 0 0 (pm_Gb L b, I, J)) : pm_wc pm_code pm_meta (d + 2) 220 [.ref 79, .long v] (pm_Gb L b, I, J) Q := by
  rw [pb_220_0, pr_isWord hw hv h, pb_220_5]
  by_cases e : rd_cd c n i = m
  · rw [if_pos e, if_neg (by decide), pb_220_10]
    refine rq_next fx h (fun I' J' h' => ?_)
    rw [pb_220_14]
    exact ⟨by decide, hY e I' J' h'⟩
  · rw [if_neg e, if_pos rfl, pb_220_14]
    exact ⟨by decide, hN e⟩
theorem pr_may_f {v : Int64} (h : 0 ≤ I 79 68) : pm_wc pm_code pm_meta (d + 1) 220 [.ref 79, .long v] (pm_Gb L b, I, J) Q ↔ Q 0 0 (pm_Gb L b, I, J) := by
  rw [pb_220_0, pb_218_0, if_pos h, pb_218_28, pb_218_29]
  have e : pm_wp pm_code pm_meta (d + 1) 220 5 ([.ref 79, .long v, pm_unset, pm_unset], [.int 0], (pm_Gb L b, I, J)) Q ↔ Q 0 0 (pm_Gb L b, I, J) := by
    rw [pb_220_5, if_pos rfl, pb_220_14]
    exact ⟨fun z => z.2, fun z => ⟨by decide, z⟩⟩
  exact ⟨fun z => e.mp z.2, fun z => ⟨by decide, e.mpr z⟩⟩
theorem pr_must (fx : rd_fx c n sl I0) {m : Nat} {w : List Nat} {v : Int64} (hw : rd_W[m]? = some w) (hv : v = Int64.ofInt (rd_h w)) (h : rd_rq c n sl I0 J0 i ops opn I J) (hl : ops.length ≤ 80) (hY : rd_cd c n i = m → ∀ I' J', rd_rq c n sl I0 J0 (i + 1) ops opn I' J' → Q 0 0 (pm_Gb L b, I', J')) (hN : ¬ rd_cd c n i = m → ∀ I', rd_rf c n sl I0 J0 i I' J → Q 0 0 (pm_Gb L b, I', J)) : pm_wc pm_code pm_meta (d + 3) 221 [.ref 79, .long v] (pm_Gb L b, I, J) Q := by
  rw [pb_221_0]
  refine pr_may fx hw hv h (fun e I' J' h' => ?_) (fun e => ?_)
  · rw [pb_221_5, if_neg (by decide), pb_221_12]
    exact hY e I' J' h'
  · rw [pb_221_5, if_pos rfl, pb_221_8]
    refine pr_fails_q fx h hl (fun I' h' => ?_)
    rw [pb_221_12]
    exact hN e I' h'
theorem pr_must_f {v : Int64} (h : 0 ≤ I 79 68) : pm_wc pm_code pm_meta (d + 2) 221 [.ref 79, .long v] (pm_Gb L b, I, J) Q ↔ Q 0 0 (pm_Gb L b, I, J) := by
  rw [pb_221_0, pr_may_f h, pb_221_5, if_pos rfl, pb_221_8, pr_fails_f h, pb_221_12]
theorem pr_isSign (fx : rd_fx c n sl I0) {s : Nat} (hs : s < 256) (hl : rd_L s = false) (hd : rd_D s = false) (h : rd_rq c n sl I0 J0 i ops opn I J) : pm_wc pm_code pm_meta d 219 [.ref 79, .int (Int32.ofNat s)] (pm_Gb L b, I, J) Q ↔ Q (if rd_sg c n i = s then 1 else 0) 0 (pm_Gb L b, I, J) := by
  obtain ⟨h1, h2, h3, h4, h5, h6, h7, h8, h9, r1, r2, r3, r4⟩ := h
  have no : ¬ rd_sg c n i = s → (pm_wp pm_code pm_meta d 219 29 ([.ref 79, .int (Int32.ofNat s)], [], (pm_Gb L b, I, J)) Q ↔ Q (if rd_sg c n i = s then 1 else 0) 0 (pm_Gb L b, I, J)) := fun e => by
    rw [pb_219_29, pb_219_30, if_neg e]
    exact ⟨fun z => z.2, fun z => ⟨by decide, z⟩⟩
  rw [pb_219_0, h5, if_neg (by decide), pb_219_7, r1]
  by_cases q : rd_s c n i < n ∧ ¬ rd_L (c (rd_s c n i)) = true ∧ ¬ rd_D (c (rd_s c n i)) = true
  · have kd : rd_kd c n i = 3 := by unfold rd_kd; rw [if_pos q.1, if_neg q.2.1, if_neg q.2.2]
    have jw : rd_jw c n i = (c (rd_s c n i) : Int) := by unfold rd_jw; rw [if_pos q.1, if_neg q.2.1, if_neg q.2.2]
    have sg : rd_sg c n i = c (rd_s c n i) := by unfold rd_sg; rw [if_pos q.1, if_neg q.2.1, if_neg q.2.2]
    have cb := fx.2.2.1 _ q.1
    have key : (lg_cmp (J 79 65) (Int32.toInt64 (Int32.ofNat s)) = 0) = (rd_sg c n i = s) := by
      rw [lg_eq, r4, ol_on (by omega), jw, ol_eq (by omega) (by omega) (by omega) (by omega), sg]
      exact propext ⟨fun z => by omega, fun z => by omega⟩
    rw [kd, if_pos rfl, pb_219_15]
    by_cases e : rd_sg c n i = s
    · rw [if_pos (by rw [key]; exact e), pb_219_25, pb_219_30, if_pos e]
      exact ⟨fun z => z.2, fun z => ⟨by decide, z⟩⟩
    · rw [if_neg (by rw [key]; exact e)]
      exact no e
  · have kd : ¬ rd_kd c n i = 3 := by
      unfold rd_kd
      by_cases q1 : rd_s c n i < n
      · rw [if_pos q1]
        by_cases q2 : rd_L (c (rd_s c n i)) = true
        · rw [if_pos q2]; decide
        · rw [if_neg q2]
          by_cases q3 : rd_D (c (rd_s c n i)) = true
          · rw [if_pos q3]; decide
          · exact absurd ⟨q1, q2, q3⟩ q
      · rw [if_neg q1]; decide
    rw [if_neg kd]
    refine no (fun z => ?_)
    unfold rd_sg at z
    by_cases q1 : rd_s c n i < n
    · rw [if_pos q1] at z
      by_cases q2 : rd_L (c (rd_s c n i)) = true
      · rw [if_pos q2] at z; omega
      · rw [if_neg q2] at z
        by_cases q3 : rd_D (c (rd_s c n i)) = true
        · rw [if_pos q3] at z; omega
        · exact q ⟨q1, q2, q3⟩
    · rw [if_neg q1] at z; omega
theorem pr_isSign_f {x : Int32} (h : 0 ≤ I 79 68) : pm_wc pm_code pm_meta d 219 [.ref 79, .int x] (pm_Gb L b, I, J) Q ↔ Q 0 0 (pm_Gb L b, I, J) := by
  rw [pb_219_0, if_pos h, pb_219_29, pb_219_30]
  exact ⟨fun z => z.2, fun z => ⟨by decide, z⟩⟩
theorem pr_mustSign (fx : rd_fx c n sl I0) {s : Nat} (hs : s < 256) (hl : rd_L s = false) (hd : rd_D s = false) (h : rd_rq c n sl I0 J0 i ops opn I J) (hlen : ops.length ≤ 80) (hY : rd_sg c n i = s → ∀ I' J', rd_rq c n sl I0 J0 (i + 1) ops opn I' J' → Q 0 0 (pm_Gb L b, I', J')) (hN : ¬ rd_sg c n i = s → ∀ I', rd_rf c n sl I0 J0 i I' J → Q 0 0 (pm_Gb L b, I', J)) : pm_wc pm_code pm_meta (d + 2) 222 [.ref 79, .int (Int32.ofNat s)] (pm_Gb L b, I, J) Q := by
  rw [pb_222_0, pr_isSign fx hs hl hd h, pb_222_5]
  by_cases e : rd_sg c n i = s
  · rw [if_pos e, if_neg (by decide), pb_222_8]
    refine rq_next fx h (fun I' J' h' => ?_)
    rw [pb_222_12, pb_222_19]
    exact hY e I' J' h'
  · rw [if_neg e, if_pos rfl, pb_222_15]
    refine pr_fails_q fx h hlen (fun I' h' => ?_)
    rw [pb_222_19]
    exact hN e I' h'
theorem pr_mustSign_f {x : Int32} (h : 0 ≤ I 79 68) : pm_wc pm_code pm_meta (d + 1) 222 [.ref 79, .int x] (pm_Gb L b, I, J) Q ↔ Q 0 0 (pm_Gb L b, I, J) := by
  rw [pb_222_0, pr_isSign_f h, pb_222_5, if_pos rfl, pb_222_15, pr_fails_f h, pb_222_19]
theorem nm_iff {m : Nat} (hm : m < 1000) : (rd_s c n i < n ∧ rd_kd c n i = 2 ∧ rd_jw c n i ≤ m) ↔ (rd_sg c n i = 257 ∧ rd_nm c n i ≤ m) := by
  constructor
  · rintro ⟨q1, q2, q3⟩
    have hl : ¬ rd_L (c (rd_s c n i)) = true := fun z => by unfold rd_kd at q2; rw [if_pos q1, if_pos z] at q2; exact absurd q2 (by decide)
    have hd : rd_D (c (rd_s c n i)) = true := by
      by_cases z : rd_D (c (rd_s c n i)) = true
      · exact z
      · unfold rd_kd at q2; rw [if_pos q1, if_neg hl, if_neg z] at q2; exact absurd q2 (by decide)
    unfold rd_jw at q3
    rw [if_pos q1, if_neg hl, if_pos hd] at q3
    refine ⟨by unfold rd_sg; rw [if_pos q1, if_neg hl, if_pos hd], ?_⟩
    by_cases h3 : rd_pt c n (i + 1) ≤ rd_s c n i + 3
    · rw [if_pos h3] at q3
      unfold rd_nm
      rw [if_pos ⟨q1, hd, h3⟩]
      omega
    · rw [if_neg h3] at q3; omega
  · rintro ⟨q1, q2⟩
    unfold rd_nm at q2
    by_cases z : rd_s c n i < n ∧ rd_D (c (rd_s c n i)) = true ∧ rd_pt c n (i + 1) ≤ rd_s c n i + 3
    · rw [if_pos z] at q2
      have hl : ¬ rd_L (c (rd_s c n i)) = true := fun y => by have := L_iff.mp y; have := D_iff.mp z.2.1; omega
      refine ⟨z.1, by unfold rd_kd; rw [if_pos z.1, if_neg hl, if_pos z.2.1], ?_⟩
      unfold rd_jw
      rw [if_pos z.1, if_neg hl, if_pos z.2.1, if_pos z.2.2]
      omega
    · rw [if_neg z] at q2; omega
theorem nm_jw (h : rd_sg c n i = 257 ∧ rd_nm c n i ≤ 999) : rd_jw c n i = (rd_nm c n i : Int) := by
  have z := (nm_iff (c := c) (n := n) (i := i) (m := 999) (by decide)).mpr h
  obtain ⟨q1, q2, q3⟩ := z
  have hn := h.2
  unfold rd_nm at hn ⊢
  by_cases y : rd_s c n i < n ∧ rd_D (c (rd_s c n i)) = true ∧ rd_pt c n (i + 1) ≤ rd_s c n i + 3
  · rw [if_pos y]
    have hl : ¬ rd_L (c (rd_s c n i)) = true := fun y' => by have := L_iff.mp y'; have := D_iff.mp y.2.1; omega
    unfold rd_jw
    rw [if_pos q1, if_neg hl, if_pos y.2.1, if_pos y.2.2]
  · rw [if_neg y] at hn; omega
theorem jw_bd (cb : ∀ p, p < n → c p ≤ 255) (n3 : n ≤ 300) : -1 ≤ rd_jw c n i ∧ rd_jw c n i < 1000000000000 := by
  unfold rd_jw
  by_cases q1 : rd_s c n i < n
  · rw [if_pos q1]
    by_cases q2 : rd_L (c (rd_s c n i)) = true
    · rw [if_pos q2]; exact wt_bd (tl_let (e := 0) q1 q2)
    · rw [if_neg q2]
      by_cases q3 : rd_D (c (rd_s c n i)) = true
      · rw [if_pos q3]
        by_cases h3 : rd_pt c n (i + 1) ≤ rd_s c n i + 3
        · rw [if_pos h3]
          have ee : rd_pt c n (i + 1) = rd_go rd_D c n (rd_s c n i) := by rw [pt_s]; unfold rd_en; rw [if_pos q1, if_neg q2, if_pos q3]
          have z := v_bd (rd_pt c n (i + 1) - rd_s c n i) (rd_tl c (rd_s c n i) (rd_pt c n (i + 1))) tl_len (fun x hx => by
            obtain ⟨j, j1, j2, rfl⟩ := tl_mem hx
            rw [ee] at j2
            exact D_iff.mp ((go_le (P := rd_D) (c := c) (n := n) (rd_s c n i)).2.2.1 j j1 j2).2)
          have pw : 10 ^ (rd_pt c n (i + 1) - rd_s c n i) ≤ 10 ^ 3 := Nat.pow_le_pow_right (by decide) (by omega)
          have p3 : (10 : Nat) ^ 3 = 1000 := by decide
          omega
        · rw [if_neg h3]; omega
      · rw [if_neg q3]
        have := cb _ q1
        omega
  · rw [if_neg q1]; omega
theorem pr_number (fx : rd_fx c n sl I0) {most : Nat} (hm : most < 1000) (h : rd_rq c n sl I0 J0 i ops opn I J) (hl : ops.length ≤ 80) (hY : (rd_sg c n i = 257 ∧ rd_nm c n i ≤ most) → ∀ I' J', rd_rq c n sl I0 J0 (i + 1) ops opn I' J' → Q (Int32.ofNat (rd_nm c n i)) 0 (pm_Gb L b, I', J')) (hN : ¬ (rd_sg c n i = 257 ∧ rd_nm c n i ≤ most) → ∀ I', rd_rf c n sl I0 J0 i I' J → Q 0 0 (pm_Gb L b, I', J)) : pm_wc pm_code pm_meta (d + 2) 223 [.ref 79, .int (Int32.ofNat most)] (pm_Gb L b, I, J) Q := by
  have r := h.2.2.2.2.2.2.2.2.2
  have h5 := h.2.2.2.2.1
  have bd := jw_bd (c := c) (n := n) (i := i) fx.2.2.1 fx.2.2.2.1
  have no : ¬ (rd_sg c n i = 257 ∧ rd_nm c n i ≤ most) → pm_wp pm_code pm_meta (d + 2) 223 25 ([.ref 79, .int (Int32.ofNat most), pm_unset], [], (pm_Gb L b, I, J)) Q := fun e => by
    rw [pb_223_25]
    refine pr_fails_q fx h hl (fun I' h' => ?_)
    rw [pb_223_29]
    exact hN e I' h'
  have cmp : (lg_cmp (J 79 65) (Int32.toInt64 (Int32.ofNat most)) ≤ 0) = (rd_jw c n i ≤ most) := by
    rw [r.2.2.2, ol_on (by omega), lg_le (by omega) (by omega) (by omega) (by omega)]
  rw [pb_223_0, h5, if_neg (by decide), pb_223_7, r.1]
  by_cases k2 : rd_kd c n i = 2
  · have sn : rd_s c n i < n := by
      by_cases z : rd_s c n i < n
      · exact z
      · unfold rd_kd at k2; rw [if_neg z] at k2; exact absurd k2 (by decide)
    rw [if_pos k2, pb_223_15]
    by_cases e : rd_jw c n i ≤ most
    · have ok := (nm_iff hm).mp ⟨sn, k2, e⟩
      have ej : (J 79 65).toInt32 = Int32.ofNat (rd_nm c n i) := by
        rw [r.2.2.2, nm_jw ⟨ok.1, by omega⟩]
        apply Int32.toInt_inj.mp
        rw [Int64.toInt_toInt32, ol_n (by omega) (by omega), (on_n (by omega)).2.2]
        exact Int.bmod_eq_of_le (by omega) (by omega)
      rw [if_pos (by rw [cmp]; exact e), pb_223_31, ej]
      refine rq_next fx h (fun I' J' h' => ?_)
      rw [pb_223_41]
      exact hY ok I' J' h'
    · rw [if_neg (by rw [cmp]; exact e)]
      exact no (fun z => e ((nm_iff hm).mpr z).2.2)
  · rw [if_neg k2]
    exact no (fun z => k2 ((nm_iff hm).mpr z).2.1)
theorem pr_number_f {x : Int32} (h : 0 ≤ I 79 68) : pm_wc pm_code pm_meta (d + 1) 223 [.ref 79, .int x] (pm_Gb L b, I, J) Q ↔ Q 0 0 (pm_Gb L b, I, J) := by
  rw [pb_223_0, if_pos h, pb_223_25, pr_fails_f h, pb_223_29]
theorem pr_does_f {x y : Int32} (h : 0 ≤ I 79 68) : pm_wc pm_code pm_meta d 226 [.ref 79, .int x, .int y] (pm_Gb L b, I, J) Q ↔ Q 0 0 (pm_Gb L b, I, J) := by
  rw [pb_226_0, if_pos h, pb_226_66]
end

