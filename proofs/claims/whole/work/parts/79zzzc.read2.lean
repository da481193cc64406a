/-! THE CALL read: the class's tokens. -/
theorem a6_ch : ∀ i, i < 115 → ((Int32.toUInt32 ((pm_a6.getD i 0) &&& 255) % 65536).toInt32) = pm_a6.getD i 0 ∧ (((Int32.toUInt32 (pm_a6.getD i 0) % 65536).toInt32) == (pm_a6.getD i 0)) = true := by decide +kernel
def rd_F : List Nat := [0, 6, 11, 17, 22, 30, 35, 42, 48, 54, 59, 64, 67, 71, 74, 78, 84, 91, 97, 103, 110, 115]
theorem F_ok : ∀ k, k < 21 → rd_F.getD k 0 + (rd_W.getD k []).length + 1 = rd_F.getD (k + 1) 0 ∧ pm_a6.getD (rd_F.getD k 0 + (rd_W.getD k []).length) 0 = 32 ∧ rd_F.getD (k + 1) 0 ≤ 115 ∧ (rd_W.getD k []).length ≤ 7 := by decide +kernel
theorem F_ch : ∀ k, k < 21 → ∀ j, j < (rd_W.getD k []).length → pm_a6.getD (rd_F.getD k 0 + j) 0 = Int32.ofNat ((rd_W.getD k []).getD j 0) ∧ ¬ pm_a6.getD (rd_F.getD k 0 + j) 0 = 32 ∧ (rd_W.getD k []).getD j 0 ≤ 122 := by decide +kernel
def rd_fv (m : Nat) : Int32 := if m = 99 then -1 else Int32.ofNat m
section
variable {d L : Nat} {b : Bool} {I : Nat → Nat → Int32} {J : Nat → Nat → Int64} {Q : Int32 → Int64 → pm_H → Prop} {c : Nat → Nat} {n : Nat}
theorem px_strlen (h5 : I 5 1 = 0) : pm_wc pm_code pm_meta (d + 1) 310 [.ref 5] (pm_Gb L b, I, J) Q ↔ Q 115 0 (pm_Gb L b, I, J) := by
  rw [pb_310_0, pb_311_0, if_neg (by decide), pb_311_6, h5, pb_311_14, pb_310_9]
  exact ⟨fun h => h.2, fun h => ⟨by decide, h⟩⟩
theorem px_charAt {i : Nat} (h5 : I 5 1 = 0) (h6 : ∀ j, I 6 j = pm_a6.getD j 0) (hi : i < 115) : pm_wc pm_code pm_meta (d + 3) 312 [.ref 5, .int (Int32.ofNat i)] (pm_Gb L b, I, J) Q ↔ Q (pm_a6.getD i 0) 0 (pm_Gb L b, I, J) := by
  have g := on_n (a := i) (by omega)
  have l : Int32.ofNat i < 115 := by rw [show (115 : Int32) = Int32.ofNat 115 from rfl, on_lt (by omega) (by omega)]; exact hi
  obtain ⟨a1, a2⟩ := a6_ch i hi
  rw [pb_312_0, pb_313_0, if_neg (by decide), pb_313_6, h5, if_pos rfl, pb_313_13, pb_313_18]
  have inner : pm_wp pm_code pm_meta (d + 3) 312 4 ([.ref 5, .int (Int32.ofNat i)], [.int 1], (pm_Gb L b, I, J)) Q ↔ Q (pm_a6.getD i 0) 0 (pm_Gb L b, I, J) := by
    rw [pb_312_4, if_neg (by decide), pb_312_7, pb_314_0, pb_315_0, pb_316_0, if_neg (Int32.not_lt.mpr g.1), pb_316_4, if_pos l, pb_316_16, pb_315_8, pb_314_6, g.2.1, h6, a1]
    constructor
    · intro h
      have h3 := h.2.2
      rw [pb_312_15] at h3
      exact h3.2
    · intro h
      refine ⟨pi_in g.1 (by rw [g.2.2]; omega), a2, ?_⟩
      rw [pb_312_15]
      exact ⟨a2, h⟩
  exact ⟨fun h => inner.mp h.2, fun h => ⟨by decide, inner.mpr h⟩⟩
theorem px_signAt {p : Nat} (h41 : ∀ p, p < n → I 41 p &&& 255 = Int32.ofNat (c p)) (n3 : n ≤ 300) (hp : p < n) : pm_wc pm_code pm_meta d 91 [.ref 40, .int (Int32.ofNat p)] (pm_Gb L b, I, J) Q ↔ Q (Int32.ofNat (c p)) 0 (pm_Gb L b, I, J) := by
  have g := on_n (a := p) (by omega)
  rw [pb_91_0, if_neg (Int32.not_lt.mpr g.1), pb_91_4, if_neg (by rw [show (300 : Int32) = Int32.ofNat 300 from rfl, on_le (by omega) (by omega)]; omega), pb_91_11, g.2.1, h41 p hp, pb_91_25]
  exact ⟨fun h => h.2, fun h => ⟨pi_in g.1 (by rw [g.2.2]; omega), h⟩⟩
theorem px_isLetter {x : Nat} (hx : x ≤ 255) : pm_wc pm_code pm_meta d 94 [.int (Int32.ofNat x)] (pm_Gb L b, I, J) Q ↔ Q (bif rd_L x then 1 else 0) 0 (pm_Gb L b, I, J) := by
  by_cases h1 : x < 97
  · have e : rd_L x = false := Bool.eq_false_iff.mpr (fun h => by have := L_iff.mp h; omega)
    rw [pb_94_0, if_pos (by rw [show (97 : Int32) = Int32.ofNat 97 from rfl, on_lt (by omega) (by omega)]; exact h1), pb_94_16, pb_94_17, e]
    exact ⟨fun h => h.2, fun h => ⟨by decide, h⟩⟩
  · by_cases h2 : 122 < x
    · have e : rd_L x = false := Bool.eq_false_iff.mpr (fun h => by have := L_iff.mp h; omega)
      rw [pb_94_0, if_neg (by rw [show (97 : Int32) = Int32.ofNat 97 from rfl, on_lt (by omega) (by omega)]; exact h1), pb_94_6, if_pos (by rw [show (122 : Int32) = Int32.ofNat 122 from rfl, on_lt (by omega) (by omega)]; exact h2), pb_94_16, pb_94_17, e]
      exact ⟨fun h => h.2, fun h => ⟨by decide, h⟩⟩
    · have e : rd_L x = true := L_iff.mpr (by omega)
      rw [pb_94_0, if_neg (by rw [show (97 : Int32) = Int32.ofNat 97 from rfl, on_lt (by omega) (by omega)]; exact h1), pb_94_6, if_neg (by rw [show (122 : Int32) = Int32.ofNat 122 from rfl, on_lt (by omega) (by omega)]; exact h2), pb_94_12, pb_94_17, e]
      exact ⟨fun h => h.2, fun h => ⟨by decide, h⟩⟩
theorem px_isDigit {x : Nat} (hx : x ≤ 255) : pm_wc pm_code pm_meta d 95 [.int (Int32.ofNat x)] (pm_Gb L b, I, J) Q ↔ Q (bif rd_D x then 1 else 0) 0 (pm_Gb L b, I, J) := by
  by_cases h1 : x < 48
  · have e : rd_D x = false := Bool.eq_false_iff.mpr (fun h => by have := D_iff.mp h; omega)
    rw [pb_95_0, if_pos (by rw [show (48 : Int32) = Int32.ofNat 48 from rfl, on_lt (by omega) (by omega)]; exact h1), pb_95_16, pb_95_17, e]
    exact ⟨fun h => h.2, fun h => ⟨by decide, h⟩⟩
  · by_cases h2 : 57 < x
    · have e : rd_D x = false := Bool.eq_false_iff.mpr (fun h => by have := D_iff.mp h; omega)
      rw [pb_95_0, if_neg (by rw [show (48 : Int32) = Int32.ofNat 48 from rfl, on_lt (by omega) (by omega)]; exact h1), pb_95_6, if_pos (by rw [show (57 : Int32) = Int32.ofNat 57 from rfl, on_lt (by omega) (by omega)]; exact h2), pb_95_16, pb_95_17, e]
      exact ⟨fun h => h.2, fun h => ⟨by decide, h⟩⟩
    · have e : rd_D x = true := D_iff.mpr (by omega)
      rw [pb_95_0, if_neg (by rw [show (48 : Int32) = Int32.ofNat 48 from rfl, on_lt (by omega) (by omega)]; exact h1), pb_95_6, if_neg (by rw [show (57 : Int32) = Int32.ofNat 57 from rfl, on_lt (by omega) (by omega)]; exact h2), pb_95_12, pb_95_17, e]
      exact ⟨fun h => h.2, fun h => ⟨by decide, h⟩⟩
theorem px_endOfRow {q : Nat} (h40 : I 40 1 = Int32.ofNat n) (h41 : ∀ p, p < n → I 41 p &&& 255 = Int32.ofNat (c p)) (cb : ∀ p, p < n → c p ≤ 255) (n3 : n ≤ 300) (hq : q < n) : pm_wc pm_code pm_meta (d + 1) 96 [.ref 40, .int (Int32.ofNat q)] (pm_Gb L b, I, J) Q ↔ Q (Int32.ofNat (rd_en c n q)) 0 (pm_Gb L b, I, J) := by
  have lets : ∀ p, p ≤ n → (pm_wp pm_code pm_meta (d + 1) 96 30 ([.ref 40, .int (Int32.ofNat q), .int (Int32.ofNat p), .int 1], [], (pm_Gb L b, I, J)) Q ↔ Q (Int32.ofNat (rd_go rd_L c n p)) 0 (pm_Gb L b, I, J)) := by
    refine go_ind (P := rd_L) (c := c) (n := n) (fun p h hp => ?_) (fun p h hl ih hp => ?_)
    · rw [go_stop h]
      by_cases e : p < n
      · have e2 : rd_L (c p) = false := Bool.eq_false_iff.mpr (fun z => h ⟨e, z⟩)
        rw [pb_96_30, h40, if_neg (by rw [on_le (by omega) (by omega)]; omega), pb_96_38, if_neg (by decide), pb_96_42, px_signAt h41 n3 e, pb_96_47, px_isLetter (cb p e), e2, pb_96_50, cond_false, if_pos rfl, pb_96_73]
      · rw [pb_96_30, h40, if_pos (by rw [on_le (by omega) (by omega)]; omega), pb_96_73]
    · rw [go_step h hl, pb_96_30, h40, if_neg (by rw [on_le (by omega) (by omega)]; omega), pb_96_38, if_neg (by decide), pb_96_42, px_signAt h41 n3 h, pb_96_47, px_isLetter (cb p h), hl, pb_96_50, cond_true, if_neg (by decide), pb_96_53, pb_96_67, on_s]
      exact ih (by omega)
  have digs : ∀ p, p ≤ n → (pm_wp pm_code pm_meta (d + 1) 96 30 ([.ref 40, .int (Int32.ofNat q), .int (Int32.ofNat p), .int 0], [], (pm_Gb L b, I, J)) Q ↔ Q (Int32.ofNat (rd_go rd_D c n p)) 0 (pm_Gb L b, I, J)) := by
    refine go_ind (P := rd_D) (c := c) (n := n) (fun p h hp => ?_) (fun p h hl ih hp => ?_)
    · rw [go_stop h]
      by_cases e : p < n
      · have e2 : rd_D (c p) = false := Bool.eq_false_iff.mpr (fun z => h ⟨e, z⟩)
        rw [pb_96_30, h40, if_neg (by rw [on_le (by omega) (by omega)]; omega), pb_96_38, if_pos rfl, pb_96_56, px_signAt h41 n3 e, pb_96_61, px_isDigit (cb p e), e2, pb_96_64, cond_false, if_pos rfl, pb_96_73]
      · rw [pb_96_30, h40, if_pos (by rw [on_le (by omega) (by omega)]; omega), pb_96_73]
    · rw [go_step h hl, pb_96_30, h40, if_neg (by rw [on_le (by omega) (by omega)]; omega), pb_96_38, if_pos rfl, pb_96_56, px_signAt h41 n3 h, pb_96_61, px_isDigit (cb p h), hl, pb_96_64, cond_true, if_neg (by decide), pb_96_67, on_s]
      exact ih (by omega)
  unfold rd_en
  rw [if_pos hq, pb_96_0, px_signAt h41 n3 hq, pb_96_9, px_isLetter (cb q hq), pb_96_12, on_s]
  cases hl : rd_L (c q) with
  | true =>
    rw [cond_true, if_neg (by decide), if_pos rfl, go_step hq hl]
    exact lets (q + 1) (by omega)
  | false =>
    rw [cond_false, if_pos rfl, if_neg (by decide), pb_96_17, px_signAt h41 n3 hq, pb_96_22, px_isDigit (cb q hq), pb_96_25]
    cases hd : rd_D (c q) with
    | true =>
      rw [cond_true, if_neg (by decide), if_pos rfl, go_step hq hd]
      exact digs (q + 1) (by omega)
    | false =>
      rw [cond_false, if_pos rfl, if_neg (by decide), pb_96_28]
theorem px_numberOf {q e : Nat} (h41 : ∀ p, p < n → I 41 p &&& 255 = Int32.ofNat (c p)) (cb : ∀ p, p < n → c p ≤ 255) (n3 : n ≤ 300) (hq : q ≤ e) (he : e ≤ n) (hd : ∀ j, q ≤ j → j < e → rd_D (c j) = true) : pm_wc pm_code pm_meta (d + 1) 100 [.ref 40, .int (Int32.ofNat q), .int (Int32.ofNat e)] (pm_Gb L b, I, J) Q ↔ Q (if e ≤ q + 3 then Int32.ofNat (rd_v (rd_tl c q e)) else -1) 0 (pm_Gb L b, I, J) := by
  have loop : ∀ (k p : Nat), p + k = e → q ≤ p → e ≤ q + 3 → (pm_wp pm_code pm_meta (d + 1) 100 14 ([.ref 40, .int (Int32.ofNat q), .int (Int32.ofNat e), .int (Int32.ofNat (rd_v (rd_tl c q p))), .int (Int32.ofNat p)], [], (pm_Gb L b, I, J)) Q ↔ Q (Int32.ofNat (rd_v (rd_tl c q e))) 0 (pm_Gb L b, I, J)) := by
    intro k
    induction k with
    | zero =>
      intro p hp _ _
      rw [show p = e by omega, pb_100_14, if_pos (Int32.le_refl _), pb_100_41]
    | succ k ih =>
      intro p hp hqp h3
      have dp := D_iff.mp (hd p hqp (by omega))
      have vb := v_bd (p - q) (rd_tl c q p) tl_len (fun x hx => by
        obtain ⟨j, j1, j2, rfl⟩ := tl_mem hx
        exact D_iff.mp (hd j j1 (by omega)))
      have pb : 10 ^ (p - q) ≤ 10 ^ 3 := Nat.pow_le_pow_right (by decide) (by omega)
      have p3 : (10 : Nat) ^ 3 = 1000 := by decide
      rw [pb_100_14, if_neg (by rw [on_le (by omega) (by omega)]; omega), pb_100_20, px_signAt h41 n3 (by omega), pb_100_30, show (10 : Int32) = Int32.ofNat 10 from rfl, on_mul, hb_add _ _ (by omega) (by omega), show (48 : Int32) = Int32.ofNat 48 from rfl, hb_sub _ _ (by omega) (by omega), on_s]
      have z := ih (p + 1) (by omega) (by omega) h3
      rw [tl_app hqp, v_app] at z
      rw [show 10 * rd_v (rd_tl c q p) + c p - 48 = 10 * rd_v (rd_tl c q p) + (c p - 48) by omega]
      exact z
  by_cases h3 : e ≤ q + 3
  · have z := loop (e - q) q (by omega) (Nat.le_refl _) h3
    rw [tl_nil] at z
    rw [pb_100_0, hb_sub _ _ (by omega) hq, if_pos (by rw [show (3 : Int32) = Int32.ofNat 3 from rfl, on_le (by omega) (by omega)]; omega), pb_100_9, if_pos h3]
    exact z
  · rw [pb_100_0, hb_sub _ _ (by omega) hq, if_neg (by rw [show (3 : Int32) = Int32.ofNat 3 from rfl, on_le (by omega) (by omega)]; omega), pb_100_7, if_neg h3]
theorem px_isSpelt {q e k : Nat} (h5 : I 5 1 = 0) (h6 : ∀ j, I 6 j = pm_a6.getD j 0) (h41 : ∀ p, p < n → I 41 p &&& 255 = Int32.ofNat (c p)) (cb : ∀ p, p < n → c p ≤ 255) (n3 : n ≤ 300) (hq : q ≤ e) (he : e ≤ n) (hk : k < 21) (hl : e - q = (rd_W.getD k []).length) : pm_wc pm_code pm_meta (d + 4) 99 [.ref 40, .int (Int32.ofNat (rd_F.getD k 0)), .int (Int32.ofNat q), .int (Int32.ofNat e)] (pm_Gb L b, I, J) Q ↔ Q (if rd_tl c q e = rd_W.getD k [] then 1 else 0) 0 (pm_Gb L b, I, J) := by
  obtain ⟨f1, f2, f3, f4⟩ := F_ok k hk
  have loop : ∀ (m p : Nat), p + m = e → q ≤ p → (∀ j, j < p - q → c (q + j) = (rd_W.getD k []).getD j 0) → (pm_wp pm_code pm_meta (d + 4) 99 3 ([.ref 40, .int (Int32.ofNat (rd_F.getD k 0)), .int (Int32.ofNat q), .int (Int32.ofNat e), .int (Int32.ofNat p)], [], (pm_Gb L b, I, J)) Q ↔ Q (if rd_tl c q e = rd_W.getD k [] then 1 else 0) 0 (pm_Gb L b, I, J)) := by
    intro m
    induction m with
    | zero =>
      intro p hp hqp hm
      have eq : rd_tl c q e = rd_W.getD k [] := by
        apply List.ext_getElem?
        intro j
        by_cases hj : j < e - q
        · rw [tl_at hj, hm j (by omega), List.getElem?_eq_getElem (by omega), List.getD_eq_getElem?_getD, List.getElem?_eq_getElem (by omega)]; rfl
        · rw [List.getElem?_eq_none (by rw [tl_len]; omega), List.getElem?_eq_none (by omega)]
      rw [show p = e by omega, pb_99_3, if_pos (Int32.le_refl _), pb_99_51, if_pos eq]
    | succ m ih =>
      intro p hp hqp hm
      obtain ⟨c1, c2, c3⟩ := F_ch k hk (p - q) (by omega)
      have ei : Int32.ofNat (rd_F.getD k 0) + Int32.ofNat p - Int32.ofNat q = Int32.ofNat (rd_F.getD k 0 + (p - q)) := by
        rw [hb_add _ _ (by omega) (by omega), hb_sub _ _ (by omega) (by omega)]
        congr 1; omega
      have cp := cb p (by omega)
      rw [pb_99_3, if_neg (by rw [on_le (by omega) (by omega)]; omega), pb_99_9, ei, px_strlen h5, pb_99_20, if_neg (by rw [show (115 : Int32) = Int32.ofNat 115 from rfl, on_le (by omega) (by omega)]; omega), pb_99_23, ei, px_charAt h5 h6 (by omega), pb_99_34, px_signAt h41 n3 (by omega), pb_99_40, c1]
      by_cases h : (rd_W.getD k []).getD (p - q) 0 = c p
      · rw [if_pos (by rw [h]), pb_99_45, on_s]
        refine ih (p + 1) (by omega) (by omega) (fun j hj => ?_)
        by_cases e2 : j = p - q
        · rw [e2, show q + (p - q) = p by omega]; exact h.symm
        · exact hm j (by omega)
      · have ne : ¬ rd_tl c q e = rd_W.getD k [] := fun q' => h (by
          have z := tl_at (c := c) (q := q) (e := e) (j := p - q) (by omega)
          rw [q'] at z
          rw [List.getD_eq_getElem?_getD, z, show q + (p - q) = p by omega]; rfl)
        rw [if_neg (by rw [on_eq (by omega) (by omega)]; exact h), pb_99_43, if_neg ne]
  rw [pb_99_0]
  exact loop (e - q) q (by omega) (Nat.le_refl _) (fun j hj => by omega)
theorem px_wordOf {q e : Nat} (h5 : I 5 1 = 0) (h6 : ∀ j, I 6 j = pm_a6.getD j 0) (h41 : ∀ p, p < n → I 41 p &&& 255 = Int32.ofNat (c p)) (cb : ∀ p, p < n → c p ≤ 255) (n3 : n ≤ 300) (hq : q ≤ e) (he : e ≤ n) : pm_wc pm_code pm_meta (d + 5) 98 [.ref 40, .int (Int32.ofNat q), .int (Int32.ofNat e)] (pm_Gb L b, I, J) Q ↔ Q (rd_fv (rd_find (rd_tl c q e) rd_W 0)) 0 (pm_Gb L b, I, J) := by
  have word : ∀ (r k : Nat), k + r = 21 → (pm_wp pm_code pm_meta (d + 5) 98 8 ([.ref 40, .int (Int32.ofNat q), .int (Int32.ofNat e), .int (Int32.ofNat k), .int (Int32.ofNat (rd_F.getD k 0)), .int (Int32.ofNat (rd_F.getD k 0))], [], (pm_Gb L b, I, J)) Q ↔ Q (rd_fv (rd_find (rd_tl c q e) (rd_W.drop k) k)) 0 (pm_Gb L b, I, J)) := by
    intro r
    induction r with
    | zero =>
      intro k hk
      rw [show k = 21 by omega, pb_98_8, px_strlen h5, pb_98_15, if_pos (by decide), pb_98_72]
      exact Iff.rfl
    | succ r ih =>
      intro k hk
      obtain ⟨f1, f2, f3, f4⟩ := F_ok k (by omega)
      have lW : rd_W.length = 21 := rfl
      have dr : rd_W.drop k = rd_W.getD k [] :: rd_W.drop (k + 1) := by
        rw [List.drop_eq_getElem_cons (show k < rd_W.length by omega), List.getD_eq_getElem?_getD, List.getElem?_eq_getElem (show k < rd_W.length by omega)]; rfl
      have go : ∀ (m j : Nat), j + m = (rd_W.getD k []).length → (pm_wp pm_code pm_meta (d + 5) 98 8 ([.ref 40, .int (Int32.ofNat q), .int (Int32.ofNat e), .int (Int32.ofNat k), .int (Int32.ofNat (rd_F.getD k 0)), .int (Int32.ofNat (rd_F.getD k 0 + j))], [], (pm_Gb L b, I, J)) Q ↔ Q (rd_fv (rd_find (rd_tl c q e) (rd_W.drop k) k)) 0 (pm_Gb L b, I, J)) := by
        intro m
        induction m with
        | zero =>
          intro j hj
          rw [show j = (rd_W.getD k []).length by omega, pb_98_8, px_strlen h5, pb_98_15, if_neg (by rw [show (115 : Int32) = Int32.ofNat 115 from rfl, on_le (by omega) (by omega)]; omega), pb_98_18, px_charAt h5 h6 (by omega), pb_98_25, f2, if_pos rfl, pb_98_33, hb_sub _ _ (by omega) (by omega), hb_sub _ _ (by omega) (by omega), Nat.add_sub_cancel_left, dr]
          have nx : ∀ t : List Nat, ¬ t = rd_W.getD k [] → rd_find t (rd_W.getD k [] :: rd_W.drop (k + 1)) k = rd_find t (rd_W.drop (k + 1)) (k + 1) := fun t ht => if_neg ht
          have at57 : ¬ rd_tl c q e = rd_W.getD k [] → (pm_wp pm_code pm_meta (d + 5) 98 57 ([.ref 40, .int (Int32.ofNat q), .int (Int32.ofNat e), .int (Int32.ofNat k), .int (Int32.ofNat (rd_F.getD k 0)), .int (Int32.ofNat (rd_F.getD k 0 + (rd_W.getD k []).length))], [], (pm_Gb L b, I, J)) Q ↔ Q (rd_fv (rd_find (rd_tl c q e) (rd_W.getD k [] :: rd_W.drop (k + 1)) k)) 0 (pm_Gb L b, I, J)) := fun ne => by
            rw [nx _ ne, pb_98_57, pb_98_66, on_s, on_s, f1]
            exact ih (k + 1) (by omega)
          by_cases hl : (rd_W.getD k []).length = e - q
          · rw [if_pos (by rw [hl]), pb_98_44, px_isSpelt h5 h6 h41 cb n3 hq he (by omega) hl.symm, pb_98_52]
            by_cases eq : rd_tl c q e = rd_W.getD k []
            · rw [if_pos eq, if_neg (by decide), pb_98_55, show rd_find (rd_tl c q e) (rd_W.getD k [] :: rd_W.drop (k + 1)) k = k from if_pos eq]
              unfold rd_fv
              rw [if_neg (by omega)]
            · rw [if_neg eq, if_pos rfl]
              exact at57 eq
          · rw [if_neg (by rw [on_eq (by omega) (by omega)]; exact hl)]
            exact at57 (fun z => hl (by rw [← z, tl_len]))
        | succ m ih2 =>
          intro j hj
          obtain ⟨c1, c2, c3⟩ := F_ch k (by omega) j (by omega)
          rw [pb_98_8, px_strlen h5, pb_98_15, if_neg (by rw [show (115 : Int32) = Int32.ofNat 115 from rfl, on_le (by omega) (by omega)]; omega), pb_98_18, px_charAt h5 h6 (by omega), pb_98_25, if_neg c2, pb_98_30, pb_98_66, on_s]
          exact ih2 (j + 1) (by omega)
      exact go (rd_W.getD k []).length 0 (by omega)
  rw [pb_98_0]
  exact word 21 0 (by omega)
end

