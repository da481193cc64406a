/-! THE CONSTRUCTORS: what their loops come to. -/
theorem pc_zr0 {I : Nat → Nat → Int32} {c p q : Nat} (hz : ∀ j, I c j = 0) : pm_zr I c p q = I := by
  funext a j; unfold pm_zr
  by_cases h : a = c ∧ p ≤ j ∧ j < q
  · rw [if_pos h, h.1, hz]
  · rw [if_neg h]
theorem pc_le0 {v : Int32} {A B : Prop} (h : ¬ v ≤ 0) : ((decide (v ≤ 0) = true → A) ∧ (decide (v ≤ 0) = false → B)) ↔ B := ⟨fun g => g.2 (decide_eq_false h), fun g => ⟨fun q => absurd (of_decide_eq_true q) h, fun _ => g⟩⟩
theorem pc_uu {I : Nat → Nat → Int32} {t k : Nat} {v w : Int32} : pm_u (pm_u I t k v) t k w = pm_u I t k w := by
  funext a j; unfold pm_u
  by_cases h : a = t ∧ j = k
  · rw [if_pos h, if_pos h]
  · rw [if_neg h, if_neg h, if_neg h]
theorem pc_u0 {I : Nat → Nat → Int32} {t k : Nat} {v : Int32} (h : I t k = v) : pm_u I t k v = I := by
  funext a j; unfold pm_u
  by_cases c : a = t ∧ j = k
  · rw [if_pos c, c.1, c.2, h]
  · rw [if_neg c]
/-- every w-th cell of a row is v, p times -/
def pc_fl (f : Nat → Nat → Int32) (c w p : Nat) (v : Int32) : Nat → Nat → Int32 := fun r j => if r = c ∧ j < w * p ∧ j % w = 0 then v else f r j
theorem pc_fl0 {f : Nat → Nat → Int32} {c w : Nat} {v : Int32} : pc_fl f c w 0 v = f := by
  funext r j; unfold pc_fl; rw [if_neg (by omega)]
theorem pc_fls {f : Nat → Nat → Int32} {c w p : Nat} {v : Int32} (hw : 0 < w) : pm_u (pc_fl f c w p v) c (w * p) v = pc_fl f c w (p + 1) v := by
  funext r j; unfold pm_u pc_fl
  have key : (j < w * (p + 1) ∧ j % w = 0) ↔ (j = w * p ∨ (j < w * p ∧ j % w = 0)) := by
    have m := Nat.mul_succ w p
    constructor
    · intro ⟨h1, h2⟩
      obtain ⟨q, rfl⟩ := Nat.dvd_of_mod_eq_zero h2
      have l := Nat.lt_of_mul_lt_mul_left h1
      by_cases e : q = p
      · exact Or.inl (by rw [e])
      · exact Or.inr ⟨Nat.mul_lt_mul_of_pos_left (by omega) hw, h2⟩
    · rintro (h | ⟨h1, h2⟩)
      · subst h; exact ⟨by rw [Nat.mul_succ]; omega, Nat.mul_mod_right w p⟩
      · exact ⟨by rw [Nat.mul_succ]; omega, h2⟩
  by_cases h : r = c
  · subst h
    by_cases e : j = w * p
    · rw [if_pos ⟨rfl, e⟩, if_pos ⟨rfl, key.mpr (Or.inl e)⟩]
    · rw [if_neg (fun q => e q.2)]
      by_cases g : j < w * p ∧ j % w = 0
      · rw [if_pos ⟨rfl, g⟩, if_pos ⟨rfl, key.mpr (Or.inr g)⟩]
      · rw [if_neg (fun q => g q.2), if_neg (fun q => (key.mp q.2).elim e g)]
  · rw [if_neg (fun q => h q.1), if_neg (fun q => h q.1), if_neg (fun q => h q.1)]
/-- the first p roads -/
def pc_rd (f : Nat → Nat → Int32) (c p : Nat) : Nat → Nat → Int32 := fun r j => if r = c ∧ j < p then (if j % 11 = 0 then 0 else 5) else f r j
theorem pc_rd0 {f : Nat → Nat → Int32} {c : Nat} : pc_rd f c 0 = f := by
  funext r j; unfold pc_rd; rw [if_neg (by omega)]
theorem pc_rds {f : Nat → Nat → Int32} {c p : Nat} {v : Int32} (h : v = if p % 11 = 0 then 0 else 5) : pm_u (pc_rd f c p) c p v = pc_rd f c (p + 1) := by
  funext r j; unfold pm_u pc_rd
  by_cases h1 : r = c ∧ j = p
  · rw [if_pos h1, if_pos (show r = c ∧ j < p + 1 from ⟨h1.1, by omega⟩), h1.2, h]
  · rw [if_neg h1]
    by_cases h2 : r = c ∧ j < p
    · rw [if_pos h2, if_pos (show r = c ∧ j < p + 1 from ⟨h2.1, by omega⟩)]
    · rw [if_neg h2, if_neg (show ¬ (r = c ∧ j < p + 1) from fun q => by omega)]
theorem pc_rds0 {f : Nat → Nat → Int32} {c p : Nat} (h : p % 11 = 0) : pm_u (pc_rd f c p) c p 0 = pc_rd f c (p + 1) := pc_rds (by rw [if_pos h])
theorem pc_rds5 {f : Nat → Nat → Int32} {c p : Nat} (h : ¬ p % 11 = 0) : pm_u (pc_rd f c p) c p 5 = pc_rd f c (p + 1) := pc_rds (by rw [if_neg h])
theorem pc_ch_0 : pm_chain (pm_code 0) = true := by decide +kernel
theorem pc_ch_7 : pm_chain (pm_code 7) = true := by decide +kernel
theorem pc_ch_10 : pm_chain (pm_code 10) = true := by decide +kernel
theorem pc_ch_25 : pm_chain (pm_code 25) = true := by decide +kernel
theorem pc_ch_41 : pm_chain (pm_code 41) = true := by decide +kernel
theorem pc_ch_61 : pm_chain (pm_code 61) = true := by decide +kernel
theorem pc_ch_69 : pm_chain (pm_code 69) = true := by decide +kernel
theorem pc_ch_75 : pm_chain (pm_code 75) = true := by decide +kernel
theorem pc_ch_80 : pm_chain (pm_code 80) = true := by decide +kernel
theorem pc_ch_86 : pm_chain (pm_code 86) = true := by decide +kernel
theorem pc_ch_89 : pm_chain (pm_code 89) = true := by decide +kernel
theorem pc_ch_111 : pm_chain (pm_code 111) = true := by decide +kernel
theorem pc_ch_177 : pm_chain (pm_code 177) = true := by decide +kernel
theorem pc_ch_317 : pm_chain (pm_code 317) = true := by decide +kernel
def caT_8 (L : Nat) : Nat → Nat × Nat := pm_TS L
def caO_0 : Nat → Nat → Nat := pm_OS
def caI_0 (I : Nat → Nat → Int32) : Nat → Nat → Int32 := I
def caJ_0 (J : Nat → Nat → Int64) : Nat → Nat → Int64 := J
def caT_9 (L : Nat) : Nat → Nat × Nat := pm_t (caT_8 L) 8 (0, 10)
def caO_1 : Nat → Nat → Nat := pm_z caO_0 8 0
def caI_1 (I : Nat → Nat → Int32) : Nat → Nat → Int32 := pm_z (caI_0 I) 8 0
def caJ_1 (J : Nat → Nat → Int64) : Nat → Nat → Int64 := pm_z (caJ_0 J) 8 0
def caT_10 (L : Nat) : Nat → Nat × Nat := pm_t (caT_9 L) 9 (0, 3)
def caO_2 : Nat → Nat → Nat := pm_z caO_1 9 0
def caI_2 (I : Nat → Nat → Int32) : Nat → Nat → Int32 := pm_z (caI_1 I) 9 0
def caJ_2 (J : Nat → Nat → Int64) : Nat → Nat → Int64 := pm_z (caJ_1 J) 9 0
def caT_11 (L : Nat) : Nat → Nat × Nat := pm_t (caT_10 L) 10 (0, 8)
def caO_3 : Nat → Nat → Nat := pm_z caO_2 10 0
def caI_3 (I : Nat → Nat → Int32) : Nat → Nat → Int32 := pm_z (caI_2 I) 10 0
def caJ_3 (J : Nat → Nat → Int64) : Nat → Nat → Int64 := pm_z (caJ_2 J) 10 0
def caI_4 (I : Nat → Nat → Int32) : Nat → Nat → Int32 := pm_u (caI_3 I) 10 2 10
def caI_5 (I : Nat → Nat → Int32) : Nat → Nat → Int32 := pm_u (caI_4 I) 10 1 10
def caT_12 (L : Nat) : Nat → Nat × Nat := pm_t (caT_11 L) 11 (1, 100)
def caO_4 : Nat → Nat → Nat := pm_z caO_3 11 0
def caI_6 (I : Nat → Nat → Int32) : Nat → Nat → Int32 := pm_z (caI_5 I) 11 0
def caJ_4 (J : Nat → Nat → Int64) : Nat → Nat → Int64 := pm_z (caJ_3 J) 11 0
def caO_5 : Nat → Nat → Nat := pm_u caO_4 10 0 11
def caO_6 : Nat → Nat → Nat := pm_u caO_5 9 1 10
def caT_13 (L : Nat) : Nat → Nat × Nat := pm_t (caT_12 L) 12 (0, 8)
def caO_7 : Nat → Nat → Nat := pm_z caO_6 12 0
def caI_7 (I : Nat → Nat → Int32) : Nat → Nat → Int32 := pm_z (caI_6 I) 12 0
def caJ_5 (J : Nat → Nat → Int64) : Nat → Nat → Int64 := pm_z (caJ_4 J) 12 0
def caI_8 (I : Nat → Nat → Int32) : Nat → Nat → Int32 := pm_u (caI_7 I) 12 2 16
def caI_9 (I : Nat → Nat → Int32) : Nat → Nat → Int32 := pm_u (caI_8 I) 12 1 2
def caT_14 (L : Nat) : Nat → Nat × Nat := pm_t (caT_13 L) 13 (1, 32)
def caO_8 : Nat → Nat → Nat := pm_z caO_7 13 0
def caI_10 (I : Nat → Nat → Int32) : Nat → Nat → Int32 := pm_z (caI_9 I) 13 0
def caJ_6 (J : Nat → Nat → Int64) : Nat → Nat → Int64 := pm_z (caJ_5 J) 13 0
def caO_9 : Nat → Nat → Nat := pm_u caO_8 12 0 13
def caO_10 : Nat → Nat → Nat := pm_u caO_9 9 2 12
def caT_15 (L : Nat) : Nat → Nat × Nat := pm_t (caT_14 L) 14 (0, 8)
def caO_11 : Nat → Nat → Nat := pm_z caO_10 14 0
def caI_11 (I : Nat → Nat → Int32) : Nat → Nat → Int32 := pm_z (caI_10 I) 14 0
def caJ_7 (J : Nat → Nat → Int64) : Nat → Nat → Int64 := pm_z (caJ_6 J) 14 0
def caI_12 (I : Nat → Nat → Int32) : Nat → Nat → Int32 := pm_u (caI_11 I) 14 2 8
def caI_13 (I : Nat → Nat → Int32) : Nat → Nat → Int32 := pm_u (caI_12 I) 14 1 10
def caT_16 (L : Nat) : Nat → Nat × Nat := pm_t (caT_15 L) 15 (1, 80)
def caO_12 : Nat → Nat → Nat := pm_z caO_11 15 0
def caI_14 (I : Nat → Nat → Int32) : Nat → Nat → Int32 := pm_z (caI_13 I) 15 0
def caJ_8 (J : Nat → Nat → Int64) : Nat → Nat → Int64 := pm_z (caJ_7 J) 15 0
def caO_13 : Nat → Nat → Nat := pm_u caO_12 14 0 15
def caO_14 : Nat → Nat → Nat := pm_u caO_13 9 3 14
def caT_17 (L : Nat) : Nat → Nat × Nat := pm_t (caT_16 L) 16 (0, 8)
def caO_15 : Nat → Nat → Nat := pm_z caO_14 16 0
def caI_15 (I : Nat → Nat → Int32) : Nat → Nat → Int32 := pm_z (caI_14 I) 16 0
def caJ_9 (J : Nat → Nat → Int64) : Nat → Nat → Int64 := pm_z (caJ_8 J) 16 0
def caI_16 (I : Nat → Nat → Int32) : Nat → Nat → Int32 := pm_u (caI_15 I) 16 2 24
def caI_17 (I : Nat → Nat → Int32) : Nat → Nat → Int32 := pm_u (caI_16 I) 16 1 5
def caT_18 (L : Nat) : Nat → Nat × Nat := pm_t (caT_17 L) 17 (1, 120)
def caO_16 : Nat → Nat → Nat := pm_z caO_15 17 0
def caI_18 (I : Nat → Nat → Int32) : Nat → Nat → Int32 := pm_z (caI_17 I) 17 0
def caJ_10 (J : Nat → Nat → Int64) : Nat → Nat → Int64 := pm_z (caJ_9 J) 17 0
def caO_17 : Nat → Nat → Nat := pm_u caO_16 16 0 17
def caO_18 : Nat → Nat → Nat := pm_u caO_17 9 4 16
def caT_19 (L : Nat) : Nat → Nat × Nat := pm_t (caT_18 L) 18 (0, 8)
def caO_19 : Nat → Nat → Nat := pm_z caO_18 18 0
def caI_19 (I : Nat → Nat → Int32) : Nat → Nat → Int32 := pm_z (caI_18 I) 18 0
def caJ_11 (J : Nat → Nat → Int64) : Nat → Nat → Int64 := pm_z (caJ_10 J) 18 0
def caI_20 (I : Nat → Nat → Int32) : Nat → Nat → Int32 := pm_u (caI_19 I) 18 2 24
def caI_21 (I : Nat → Nat → Int32) : Nat → Nat → Int32 := pm_u (caI_20 I) 18 1 16
def caT_20 (L : Nat) : Nat → Nat × Nat := pm_t (caT_19 L) 19 (1, 384)
def caO_20 : Nat → Nat → Nat := pm_z caO_19 19 0
def caI_22 (I : Nat → Nat → Int32) : Nat → Nat → Int32 := pm_z (caI_21 I) 19 0
def caJ_12 (J : Nat → Nat → Int64) : Nat → Nat → Int64 := pm_z (caJ_11 J) 19 0
def caO_21 : Nat → Nat → Nat := pm_u caO_20 18 0 19
def caO_22 : Nat → Nat → Nat := pm_u caO_21 9 5 18
def caT_21 (L : Nat) : Nat → Nat × Nat := pm_t (caT_20 L) 20 (0, 8)
def caO_23 : Nat → Nat → Nat := pm_z caO_22 20 0
def caI_23 (I : Nat → Nat → Int32) : Nat → Nat → Int32 := pm_z (caI_22 I) 20 0
def caJ_13 (J : Nat → Nat → Int64) : Nat → Nat → Int64 := pm_z (caJ_12 J) 20 0
def caI_24 (I : Nat → Nat → Int32) : Nat → Nat → Int32 := pm_u (caI_23 I) 20 2 12
def caI_25 (I : Nat → Nat → Int32) : Nat → Nat → Int32 := pm_u (caI_24 I) 20 1 5
def caT_22 (L : Nat) : Nat → Nat × Nat := pm_t (caT_21 L) 21 (1, 60)
def caO_24 : Nat → Nat → Nat := pm_z caO_23 21 0
def caI_26 (I : Nat → Nat → Int32) : Nat → Nat → Int32 := pm_z (caI_25 I) 21 0
def caJ_14 (J : Nat → Nat → Int64) : Nat → Nat → Int64 := pm_z (caJ_13 J) 21 0
def caO_25 : Nat → Nat → Nat := pm_u caO_24 20 0 21
def caO_26 : Nat → Nat → Nat := pm_u caO_25 9 6 20
def caT_23 (L : Nat) : Nat → Nat × Nat := pm_t (caT_22 L) 22 (0, 8)
def caO_27 : Nat → Nat → Nat := pm_z caO_26 22 0
def caI_27 (I : Nat → Nat → Int32) : Nat → Nat → Int32 := pm_z (caI_26 I) 22 0
def caJ_15 (J : Nat → Nat → Int64) : Nat → Nat → Int64 := pm_z (caJ_14 J) 22 0
def caI_28 (I : Nat → Nat → Int32) : Nat → Nat → Int32 := pm_u (caI_27 I) 22 2 120
def caI_29 (I : Nat → Nat → Int32) : Nat → Nat → Int32 := pm_u (caI_28 I) 22 1 5
def caT_24 (L : Nat) : Nat → Nat × Nat := pm_t (caT_23 L) 23 (1, 600)
def caO_28 : Nat → Nat → Nat := pm_z caO_27 23 0
def caI_30 (I : Nat → Nat → Int32) : Nat → Nat → Int32 := pm_z (caI_29 I) 23 0
def caJ_16 (J : Nat → Nat → Int64) : Nat → Nat → Int64 := pm_z (caJ_15 J) 23 0
def caO_29 : Nat → Nat → Nat := pm_u caO_28 22 0 23
def caO_30 : Nat → Nat → Nat := pm_u caO_29 9 7 22
def caT_25 (L : Nat) : Nat → Nat × Nat := pm_t (caT_24 L) 24 (0, 8)
def caO_31 : Nat → Nat → Nat := pm_z caO_30 24 0
def caI_31 (I : Nat → Nat → Int32) : Nat → Nat → Int32 := pm_z (caI_30 I) 24 0
def caJ_17 (J : Nat → Nat → Int64) : Nat → Nat → Int64 := pm_z (caJ_16 J) 24 0
def caI_32 (I : Nat → Nat → Int32) : Nat → Nat → Int32 := pm_u (caI_31 I) 24 2 1200
def caI_33 (I : Nat → Nat → Int32) : Nat → Nat → Int32 := pm_u (caI_32 I) 24 1 2
def caT_26 (L : Nat) : Nat → Nat × Nat := pm_t (caT_25 L) 25 (1, 2400)
def caO_32 : Nat → Nat → Nat := pm_z caO_31 25 0
def caI_34 (I : Nat → Nat → Int32) : Nat → Nat → Int32 := pm_z (caI_33 I) 25 0
def caJ_18 (J : Nat → Nat → Int64) : Nat → Nat → Int64 := pm_z (caJ_17 J) 25 0
def caO_33 : Nat → Nat → Nat := pm_u caO_32 24 0 25
def caO_34 : Nat → Nat → Nat := pm_u caO_33 9 8 24
def caT_27 (L : Nat) : Nat → Nat × Nat := pm_t (caT_26 L) 26 (0, 8)
def caO_35 : Nat → Nat → Nat := pm_z caO_34 26 0
def caI_35 (I : Nat → Nat → Int32) : Nat → Nat → Int32 := pm_z (caI_34 I) 26 0
def caJ_19 (J : Nat → Nat → Int64) : Nat → Nat → Int64 := pm_z (caJ_18 J) 26 0
def caI_36 (I : Nat → Nat → Int32) : Nat → Nat → Int32 := pm_u (caI_35 I) 26 2 4
def caI_37 (I : Nat → Nat → Int32) : Nat → Nat → Int32 := pm_u (caI_36 I) 26 1 1
def caT_28 (L : Nat) : Nat → Nat × Nat := pm_t (caT_27 L) 27 (1, 4)
def caO_36 : Nat → Nat → Nat := pm_z caO_35 27 0
def caI_38 (I : Nat → Nat → Int32) : Nat → Nat → Int32 := pm_z (caI_37 I) 27 0
def caJ_20 (J : Nat → Nat → Int64) : Nat → Nat → Int64 := pm_z (caJ_19 J) 27 0
def caO_37 : Nat → Nat → Nat := pm_u caO_36 26 0 27
def caO_38 : Nat → Nat → Nat := pm_u caO_37 9 9 26
def caT_29 (L : Nat) : Nat → Nat × Nat := pm_t (caT_28 L) 28 (0, 8)
def caO_39 : Nat → Nat → Nat := pm_z caO_38 28 0
def caI_39 (I : Nat → Nat → Int32) : Nat → Nat → Int32 := pm_z (caI_38 I) 28 0
def caJ_21 (J : Nat → Nat → Int64) : Nat → Nat → Int64 := pm_z (caJ_20 J) 28 0
def caI_40 (I : Nat → Nat → Int32) : Nat → Nat → Int32 := pm_u (caI_39 I) 28 2 24
def caI_41 (I : Nat → Nat → Int32) : Nat → Nat → Int32 := pm_u (caI_40 I) 28 1 3
def caT_30 (L : Nat) : Nat → Nat × Nat := pm_t (caT_29 L) 29 (1, 72)
def caO_40 : Nat → Nat → Nat := pm_z caO_39 29 0
def caI_42 (I : Nat → Nat → Int32) : Nat → Nat → Int32 := pm_z (caI_41 I) 29 0
def caJ_22 (J : Nat → Nat → Int64) : Nat → Nat → Int64 := pm_z (caJ_21 J) 29 0
def caO_41 : Nat → Nat → Nat := pm_u caO_40 28 0 29
def caO_42 : Nat → Nat → Nat := pm_u caO_41 9 10 28
def caT_31 (L : Nat) : Nat → Nat × Nat := pm_t (caT_30 L) 30 (0, 8)
def caO_43 : Nat → Nat → Nat := pm_z caO_42 30 0
def caI_43 (I : Nat → Nat → Int32) : Nat → Nat → Int32 := pm_z (caI_42 I) 30 0
def caJ_23 (J : Nat → Nat → Int64) : Nat → Nat → Int64 := pm_z (caJ_22 J) 30 0
def caI_44 (I : Nat → Nat → Int32) : Nat → Nat → Int32 := pm_u (caI_43 I) 30 2 7
def caI_45 (I : Nat → Nat → Int32) : Nat → Nat → Int32 := pm_u (caI_44 I) 30 1 1
def caT_32 (L : Nat) : Nat → Nat × Nat := pm_t (caT_31 L) 31 (1, 7)
def caO_44 : Nat → Nat → Nat := pm_z caO_43 31 0
def caI_46 (I : Nat → Nat → Int32) : Nat → Nat → Int32 := pm_z (caI_45 I) 31 0
def caJ_24 (J : Nat → Nat → Int64) : Nat → Nat → Int64 := pm_z (caJ_23 J) 31 0
def caO_45 : Nat → Nat → Nat := pm_u caO_44 30 0 31
def caO_46 : Nat → Nat → Nat := pm_u caO_45 9 11 30
def caT_33 (L : Nat) : Nat → Nat × Nat := pm_t (caT_32 L) 32 (0, 8)
def caO_47 : Nat → Nat → Nat := pm_z caO_46 32 0
def caI_47 (I : Nat → Nat → Int32) : Nat → Nat → Int32 := pm_z (caI_46 I) 32 0
def caJ_25 (J : Nat → Nat → Int64) : Nat → Nat → Int64 := pm_z (caJ_24 J) 32 0
def caI_48 (I : Nat → Nat → Int32) : Nat → Nat → Int32 := pm_u (caI_47 I) 32 2 3
def caI_49 (I : Nat → Nat → Int32) : Nat → Nat → Int32 := pm_u (caI_48 I) 32 1 1
def caT_34 (L : Nat) : Nat → Nat × Nat := pm_t (caT_33 L) 33 (1, 3)
def caO_48 : Nat → Nat → Nat := pm_z caO_47 33 0
def caI_50 (I : Nat → Nat → Int32) : Nat → Nat → Int32 := pm_z (caI_49 I) 33 0
def caJ_26 (J : Nat → Nat → Int64) : Nat → Nat → Int64 := pm_z (caJ_25 J) 33 0
def caO_49 : Nat → Nat → Nat := pm_u caO_48 32 0 33
def caO_50 : Nat → Nat → Nat := pm_u caO_49 9 12 32
def caT_35 (L : Nat) : Nat → Nat × Nat := pm_t (caT_34 L) 34 (0, 8)
def caO_51 : Nat → Nat → Nat := pm_z caO_50 34 0
def caI_51 (I : Nat → Nat → Int32) : Nat → Nat → Int32 := pm_z (caI_50 I) 34 0
def caJ_27 (J : Nat → Nat → Int64) : Nat → Nat → Int64 := pm_z (caJ_26 J) 34 0
def caI_52 (I : Nat → Nat → Int32) : Nat → Nat → Int32 := pm_u (caI_51 I) 34 2 24
def caI_53 (I : Nat → Nat → Int32) : Nat → Nat → Int32 := pm_u (caI_52 I) 34 1 6
def caT_36 (L : Nat) : Nat → Nat × Nat := pm_t (caT_35 L) 35 (1, 144)
def caO_52 : Nat → Nat → Nat := pm_z caO_51 35 0
def caI_54 (I : Nat → Nat → Int32) : Nat → Nat → Int32 := pm_z (caI_53 I) 35 0
def caJ_28 (J : Nat → Nat → Int64) : Nat → Nat → Int64 := pm_z (caJ_27 J) 35 0
def caO_53 : Nat → Nat → Nat := pm_u caO_52 34 0 35
def caO_54 : Nat → Nat → Nat := pm_u caO_53 9 13 34
def caI_55 (I : Nat → Nat → Int32) : Nat → Nat → Int32 := pm_u (caI_54 I) 26 3 4
def caI_56 (I : Nat → Nat → Int32) : Nat → Nat → Int32 := pm_u (caI_55 I) 10 3 10
def caI_57 (I : Nat → Nat → Int32) : Nat → Nat → Int32 := pc_rd (caI_56 I) 11 100
def caO_55 : Nat → Nat → Nat := pm_u caO_54 8 0 9
def caT_37 (L : Nat) : Nat → Nat × Nat := pm_t (caT_36 L) 36 (0, 4)
def caO_56 : Nat → Nat → Nat := pm_z caO_55 36 0
def caI_58 (I : Nat → Nat → Int32) : Nat → Nat → Int32 := pm_z (caI_57 I) 36 0
def caJ_29 (J : Nat → Nat → Int64) : Nat → Nat → Int64 := pm_z (caJ_28 J) 36 0
def caO_57 : Nat → Nat → Nat := pm_u caO_56 36 0 9
def caO_58 : Nat → Nat → Nat := pm_u caO_57 8 1 36
def caT_38 (L : Nat) : Nat → Nat × Nat := pm_t (caT_37 L) 37 (0, 0)
def caO_59 : Nat → Nat → Nat := pm_z caO_58 37 0
def caI_59 (I : Nat → Nat → Int32) : Nat → Nat → Int32 := pm_z (caI_58 I) 37 0
def caJ_30 (J : Nat → Nat → Int64) : Nat → Nat → Int64 := pm_z (caJ_29 J) 37 0
def caT_39 (L : Nat) : Nat → Nat × Nat := pm_t (caT_38 L) 38 (0, 8)
def caO_60 : Nat → Nat → Nat := pm_z caO_59 38 0
def caI_60 (I : Nat → Nat → Int32) : Nat → Nat → Int32 := pm_z (caI_59 I) 38 0
def caJ_31 (J : Nat → Nat → Int64) : Nat → Nat → Int64 := pm_z (caJ_30 J) 38 0
def caI_61 (I : Nat → Nat → Int32) : Nat → Nat → Int32 := pm_u (caI_60 I) 38 2 24
def caI_62 (I : Nat → Nat → Int32) : Nat → Nat → Int32 := pm_u (caI_61 I) 38 1 3
def caT_40 (L : Nat) : Nat → Nat × Nat := pm_t (caT_39 L) 39 (1, 72)
def caO_61 : Nat → Nat → Nat := pm_z caO_60 39 0
def caI_63 (I : Nat → Nat → Int32) : Nat → Nat → Int32 := pm_z (caI_62 I) 39 0
def caJ_32 (J : Nat → Nat → Int64) : Nat → Nat → Int64 := pm_z (caJ_31 J) 39 0
def caO_62 : Nat → Nat → Nat := pm_u caO_61 38 0 39
def caO_63 : Nat → Nat → Nat := pm_u caO_62 37 2 38
def caO_64 : Nat → Nat → Nat := pm_u caO_63 37 0 9
def caO_65 : Nat → Nat → Nat := pm_u caO_64 37 1 36
def caO_66 : Nat → Nat → Nat := pm_u caO_65 8 2 37
def caT_41 (L : Nat) : Nat → Nat × Nat := pm_t (caT_40 L) 40 (0, 9)
def caO_67 : Nat → Nat → Nat := pm_z caO_66 40 0
def caI_64 (I : Nat → Nat → Int32) : Nat → Nat → Int32 := pm_z (caI_63 I) 40 0
def caJ_33 (J : Nat → Nat → Int64) : Nat → Nat → Int64 := pm_z (caJ_32 J) 40 0
def caT_42 (L : Nat) : Nat → Nat × Nat := pm_t (caT_41 L) 41 (2, 300)
def caO_68 : Nat → Nat → Nat := pm_z caO_67 41 0
def caI_65 (I : Nat → Nat → Int32) : Nat → Nat → Int32 := pm_z (caI_64 I) 41 0
def caJ_34 (J : Nat → Nat → Int64) : Nat → Nat → Int64 := pm_z (caJ_33 J) 41 0
def caO_69 : Nat → Nat → Nat := pm_u caO_68 40 0 41
def caT_43 (L : Nat) : Nat → Nat × Nat := pm_t (caT_42 L) 42 (0, 8)
def caO_70 : Nat → Nat → Nat := pm_z caO_69 42 0
def caI_66 (I : Nat → Nat → Int32) : Nat → Nat → Int32 := pm_z (caI_65 I) 42 0
def caJ_35 (J : Nat → Nat → Int64) : Nat → Nat → Int64 := pm_z (caJ_34 J) 42 0
def caI_67 (I : Nat → Nat → Int32) : Nat → Nat → Int32 := pm_u (caI_66 I) 42 2 301
def caI_68 (I : Nat → Nat → Int32) : Nat → Nat → Int32 := pm_u (caI_67 I) 42 1 3
def caT_44 (L : Nat) : Nat → Nat × Nat := pm_t (caT_43 L) 43 (1, 903)
def caO_71 : Nat → Nat → Nat := pm_z caO_70 43 0
def caI_69 (I : Nat → Nat → Int32) : Nat → Nat → Int32 := pm_z (caI_68 I) 43 0
def caJ_36 (J : Nat → Nat → Int64) : Nat → Nat → Int64 := pm_z (caJ_35 J) 43 0
def caO_72 : Nat → Nat → Nat := pm_u caO_71 42 0 43
def caO_73 : Nat → Nat → Nat := pm_u caO_72 40 2 42
def caT_45 (L : Nat) : Nat → Nat × Nat := pm_t (caT_44 L) 44 (0, 8)
def caO_74 : Nat → Nat → Nat := pm_z caO_73 44 0
def caI_70 (I : Nat → Nat → Int32) : Nat → Nat → Int32 := pm_z (caI_69 I) 44 0
def caJ_37 (J : Nat → Nat → Int64) : Nat → Nat → Int64 := pm_z (caJ_36 J) 44 0
def caI_71 (I : Nat → Nat → Int32) : Nat → Nat → Int32 := pm_u (caI_70 I) 44 2 10
def caI_72 (I : Nat → Nat → Int32) : Nat → Nat → Int32 := pm_u (caI_71 I) 44 1 5
def caT_46 (L : Nat) : Nat → Nat × Nat := pm_t (caT_45 L) 45 (1, 50)
def caO_75 : Nat → Nat → Nat := pm_z caO_74 45 0
def caI_73 (I : Nat → Nat → Int32) : Nat → Nat → Int32 := pm_z (caI_72 I) 45 0
def caJ_38 (J : Nat → Nat → Int64) : Nat → Nat → Int64 := pm_z (caJ_37 J) 45 0
def caO_76 : Nat → Nat → Nat := pm_u caO_75 44 0 45
def caO_77 : Nat → Nat → Nat := pm_u caO_76 40 6 44
def caT_47 (L : Nat) : Nat → Nat × Nat := pm_t (caT_46 L) 46 (0, 8)
def caO_78 : Nat → Nat → Nat := pm_z caO_77 46 0
def caI_74 (I : Nat → Nat → Int32) : Nat → Nat → Int32 := pm_z (caI_73 I) 46 0
def caJ_39 (J : Nat → Nat → Int64) : Nat → Nat → Int64 := pm_z (caJ_38 J) 46 0
def caI_75 (I : Nat → Nat → Int32) : Nat → Nat → Int32 := pm_u (caI_74 I) 46 2 100
def caI_76 (I : Nat → Nat → Int32) : Nat → Nat → Int32 := pm_u (caI_75 I) 46 1 2
def caT_48 (L : Nat) : Nat → Nat × Nat := pm_t (caT_47 L) 47 (1, 200)
def caO_79 : Nat → Nat → Nat := pm_z caO_78 47 0
def caI_77 (I : Nat → Nat → Int32) : Nat → Nat → Int32 := pm_z (caI_76 I) 47 0
def caJ_40 (J : Nat → Nat → Int64) : Nat → Nat → Int64 := pm_z (caJ_39 J) 47 0
def caO_80 : Nat → Nat → Nat := pm_u caO_79 46 0 47
def caO_81 : Nat → Nat → Nat := pm_u caO_80 40 7 46
def caO_82 : Nat → Nat → Nat := pm_u caO_81 8 3 40
def caT_49 (L : Nat) : Nat → Nat × Nat := pm_t (caT_48 L) 48 (0, 6)
def caO_83 : Nat → Nat → Nat := pm_z caO_82 48 0
def caI_78 (I : Nat → Nat → Int32) : Nat → Nat → Int32 := pm_z (caI_77 I) 48 0
def caJ_41 (J : Nat → Nat → Int64) : Nat → Nat → Int64 := pm_z (caJ_40 J) 48 0
def caT_50 (L : Nat) : Nat → Nat × Nat := pm_t (caT_49 L) 49 (0, 8)
def caO_84 : Nat → Nat → Nat := pm_z caO_83 49 0
def caI_79 (I : Nat → Nat → Int32) : Nat → Nat → Int32 := pm_z (caI_78 I) 49 0
def caJ_42 (J : Nat → Nat → Int64) : Nat → Nat → Int64 := pm_z (caJ_41 J) 49 0
def caI_80 (I : Nat → Nat → Int32) : Nat → Nat → Int32 := pm_u (caI_79 I) 49 2 7
def caI_81 (I : Nat → Nat → Int32) : Nat → Nat → Int32 := pm_u (caI_80 I) 49 1 2
def caT_51 (L : Nat) : Nat → Nat × Nat := pm_t (caT_50 L) 50 (1, 14)
def caO_85 : Nat → Nat → Nat := pm_z caO_84 50 0
def caI_82 (I : Nat → Nat → Int32) : Nat → Nat → Int32 := pm_z (caI_81 I) 50 0
def caJ_43 (J : Nat → Nat → Int64) : Nat → Nat → Int64 := pm_z (caJ_42 J) 50 0
def caO_86 : Nat → Nat → Nat := pm_u caO_85 49 0 50
def caO_87 : Nat → Nat → Nat := pm_u caO_86 48 1 49
def caT_52 (L : Nat) : Nat → Nat × Nat := pm_t (caT_51 L) 51 (0, 8)
def caO_88 : Nat → Nat → Nat := pm_z caO_87 51 0
def caI_83 (I : Nat → Nat → Int32) : Nat → Nat → Int32 := pm_z (caI_82 I) 51 0
def caJ_44 (J : Nat → Nat → Int64) : Nat → Nat → Int64 := pm_z (caJ_43 J) 51 0
def caI_84 (I : Nat → Nat → Int32) : Nat → Nat → Int32 := pm_u (caI_83 I) 51 2 7
def caI_85 (I : Nat → Nat → Int32) : Nat → Nat → Int32 := pm_u (caI_84 I) 51 1 2
def caT_53 (L : Nat) : Nat → Nat × Nat := pm_t (caT_52 L) 52 (1, 14)
def caO_89 : Nat → Nat → Nat := pm_z caO_88 52 0
def caI_86 (I : Nat → Nat → Int32) : Nat → Nat → Int32 := pm_z (caI_85 I) 52 0
def caJ_45 (J : Nat → Nat → Int64) : Nat → Nat → Int64 := pm_z (caJ_44 J) 52 0
def caO_90 : Nat → Nat → Nat := pm_u caO_89 51 0 52
def caO_91 : Nat → Nat → Nat := pm_u caO_90 48 2 51
def caT_54 (L : Nat) : Nat → Nat × Nat := pm_t (caT_53 L) 53 (0, 8)
def caO_92 : Nat → Nat → Nat := pm_z caO_91 53 0
def caI_87 (I : Nat → Nat → Int32) : Nat → Nat → Int32 := pm_z (caI_86 I) 53 0
def caJ_46 (J : Nat → Nat → Int64) : Nat → Nat → Int64 := pm_z (caJ_45 J) 53 0
def caI_88 (I : Nat → Nat → Int32) : Nat → Nat → Int32 := pm_u (caI_87 I) 53 2 7
def caI_89 (I : Nat → Nat → Int32) : Nat → Nat → Int32 := pm_u (caI_88 I) 53 1 1
def caT_55 (L : Nat) : Nat → Nat × Nat := pm_t (caT_54 L) 54 (1, 7)
def caO_93 : Nat → Nat → Nat := pm_z caO_92 54 0
def caI_90 (I : Nat → Nat → Int32) : Nat → Nat → Int32 := pm_z (caI_89 I) 54 0
def caJ_47 (J : Nat → Nat → Int64) : Nat → Nat → Int64 := pm_z (caJ_46 J) 54 0
def caO_94 : Nat → Nat → Nat := pm_u caO_93 53 0 54
def caO_95 : Nat → Nat → Nat := pm_u caO_94 48 3 53
def caT_56 (L : Nat) : Nat → Nat × Nat := pm_t (caT_55 L) 55 (0, 8)
def caO_96 : Nat → Nat → Nat := pm_z caO_95 55 0
def caI_91 (I : Nat → Nat → Int32) : Nat → Nat → Int32 := pm_z (caI_90 I) 55 0
def caJ_48 (J : Nat → Nat → Int64) : Nat → Nat → Int64 := pm_z (caJ_47 J) 55 0
def caI_92 (I : Nat → Nat → Int32) : Nat → Nat → Int32 := pm_u (caI_91 I) 55 2 7
def caI_93 (I : Nat → Nat → Int32) : Nat → Nat → Int32 := pm_u (caI_92 I) 55 1 1
def caT_57 (L : Nat) : Nat → Nat × Nat := pm_t (caT_56 L) 56 (1, 7)
def caO_97 : Nat → Nat → Nat := pm_z caO_96 56 0
def caI_94 (I : Nat → Nat → Int32) : Nat → Nat → Int32 := pm_z (caI_93 I) 56 0
def caJ_49 (J : Nat → Nat → Int64) : Nat → Nat → Int64 := pm_z (caJ_48 J) 56 0
def caO_98 : Nat → Nat → Nat := pm_u caO_97 55 0 56
def caO_99 : Nat → Nat → Nat := pm_u caO_98 48 4 55
def caO_100 : Nat → Nat → Nat := pm_u caO_99 48 0 9
def caI_95 (I : Nat → Nat → Int32) : Nat → Nat → Int32 := pm_u (caI_94 I) 53 3 7
def caO_101 : Nat → Nat → Nat := pm_u caO_100 8 4 48
def caT_58 (L : Nat) : Nat → Nat × Nat := pm_t (caT_57 L) 57 (0, 7)
def caO_102 : Nat → Nat → Nat := pm_z caO_101 57 0
def caI_96 (I : Nat → Nat → Int32) : Nat → Nat → Int32 := pm_z (caI_95 I) 57 0
def caJ_50 (J : Nat → Nat → Int64) : Nat → Nat → Int64 := pm_z (caJ_49 J) 57 0
def caT_59 (L : Nat) : Nat → Nat × Nat := pm_t (caT_58 L) 58 (0, 8)
def caO_103 : Nat → Nat → Nat := pm_z caO_102 58 0
def caI_97 (I : Nat → Nat → Int32) : Nat → Nat → Int32 := pm_z (caI_96 I) 58 0
def caJ_51 (J : Nat → Nat → Int64) : Nat → Nat → Int64 := pm_z (caJ_50 J) 58 0
def caI_98 (I : Nat → Nat → Int32) : Nat → Nat → Int32 := pm_u (caI_97 I) 58 2 3
def caI_99 (I : Nat → Nat → Int32) : Nat → Nat → Int32 := pm_u (caI_98 I) 58 1 1
def caT_60 (L : Nat) : Nat → Nat × Nat := pm_t (caT_59 L) 59 (1, 3)
def caO_104 : Nat → Nat → Nat := pm_z caO_103 59 0
def caI_100 (I : Nat → Nat → Int32) : Nat → Nat → Int32 := pm_z (caI_99 I) 59 0
def caJ_52 (J : Nat → Nat → Int64) : Nat → Nat → Int64 := pm_z (caJ_51 J) 59 0
def caO_105 : Nat → Nat → Nat := pm_u caO_104 58 0 59
def caO_106 : Nat → Nat → Nat := pm_u caO_105 57 1 58
def caT_61 (L : Nat) : Nat → Nat × Nat := pm_t (caT_60 L) 60 (0, 8)
def caO_107 : Nat → Nat → Nat := pm_z caO_106 60 0
def caI_101 (I : Nat → Nat → Int32) : Nat → Nat → Int32 := pm_z (caI_100 I) 60 0
def caJ_53 (J : Nat → Nat → Int64) : Nat → Nat → Int64 := pm_z (caJ_52 J) 60 0
def caI_102 (I : Nat → Nat → Int32) : Nat → Nat → Int32 := pm_u (caI_101 I) 60 2 7
def caI_103 (I : Nat → Nat → Int32) : Nat → Nat → Int32 := pm_u (caI_102 I) 60 1 1
def caT_62 (L : Nat) : Nat → Nat × Nat := pm_t (caT_61 L) 61 (1, 7)
def caO_108 : Nat → Nat → Nat := pm_z caO_107 61 0
def caI_104 (I : Nat → Nat → Int32) : Nat → Nat → Int32 := pm_z (caI_103 I) 61 0
def caJ_54 (J : Nat → Nat → Int64) : Nat → Nat → Int64 := pm_z (caJ_53 J) 61 0
def caO_109 : Nat → Nat → Nat := pm_u caO_108 60 0 61
def caO_110 : Nat → Nat → Nat := pm_u caO_109 57 2 60
def caT_63 (L : Nat) : Nat → Nat × Nat := pm_t (caT_62 L) 62 (0, 8)
def caO_111 : Nat → Nat → Nat := pm_z caO_110 62 0
def caI_105 (I : Nat → Nat → Int32) : Nat → Nat → Int32 := pm_z (caI_104 I) 62 0
def caJ_55 (J : Nat → Nat → Int64) : Nat → Nat → Int64 := pm_z (caJ_54 J) 62 0
def caI_106 (I : Nat → Nat → Int32) : Nat → Nat → Int32 := pm_u (caI_105 I) 62 2 7
def caI_107 (I : Nat → Nat → Int32) : Nat → Nat → Int32 := pm_u (caI_106 I) 62 1 1
def caT_64 (L : Nat) : Nat → Nat × Nat := pm_t (caT_63 L) 63 (1, 7)
def caO_112 : Nat → Nat → Nat := pm_z caO_111 63 0
def caI_108 (I : Nat → Nat → Int32) : Nat → Nat → Int32 := pm_z (caI_107 I) 63 0
def caJ_56 (J : Nat → Nat → Int64) : Nat → Nat → Int64 := pm_z (caJ_55 J) 63 0
def caO_113 : Nat → Nat → Nat := pm_u caO_112 62 0 63
def caO_114 : Nat → Nat → Nat := pm_u caO_113 57 3 62
def caO_115 : Nat → Nat → Nat := pm_u caO_114 57 0 9
def caI_109 (I : Nat → Nat → Int32) : Nat → Nat → Int32 := pm_u (caI_108 I) 58 3 3
def caI_110 (I : Nat → Nat → Int32) : Nat → Nat → Int32 := pm_u (caI_109 I) 60 3 7
def caO_116 : Nat → Nat → Nat := pm_u caO_115 8 5 57
def caT_65 (L : Nat) : Nat → Nat × Nat := pm_t (caT_64 L) 64 (0, 1)
def caO_117 : Nat → Nat → Nat := pm_z caO_116 64 0
def caI_111 (I : Nat → Nat → Int32) : Nat → Nat → Int32 := pm_z (caI_110 I) 64 0
def caJ_57 (J : Nat → Nat → Int64) : Nat → Nat → Int64 := pm_z (caJ_56 J) 64 0
def caT_66 (L : Nat) : Nat → Nat × Nat := pm_t (caT_65 L) 65 (0, 8)
def caO_118 : Nat → Nat → Nat := pm_z caO_117 65 0
def caI_112 (I : Nat → Nat → Int32) : Nat → Nat → Int32 := pm_z (caI_111 I) 65 0
def caJ_58 (J : Nat → Nat → Int64) : Nat → Nat → Int64 := pm_z (caJ_57 J) 65 0
def caI_113 (I : Nat → Nat → Int32) : Nat → Nat → Int32 := pm_u (caI_112 I) 65 2 24
def caI_114 (I : Nat → Nat → Int32) : Nat → Nat → Int32 := pm_u (caI_113 I) 65 1 1
def caT_67 (L : Nat) : Nat → Nat × Nat := pm_t (caT_66 L) 66 (1, 24)
def caO_119 : Nat → Nat → Nat := pm_z caO_118 66 0
def caI_115 (I : Nat → Nat → Int32) : Nat → Nat → Int32 := pm_z (caI_114 I) 66 0
def caJ_59 (J : Nat → Nat → Int64) : Nat → Nat → Int64 := pm_z (caJ_58 J) 66 0
def caO_120 : Nat → Nat → Nat := pm_u caO_119 65 0 66
def caO_121 : Nat → Nat → Nat := pm_u caO_120 64 1 65
def caO_122 : Nat → Nat → Nat := pm_u caO_121 64 0 9
def caO_123 : Nat → Nat → Nat := pm_u caO_122 8 6 64
def caT_68 (L : Nat) : Nat → Nat × Nat := pm_t (caT_67 L) 67 (0, 5)
def caO_124 : Nat → Nat → Nat := pm_z caO_123 67 0
def caI_116 (I : Nat → Nat → Int32) : Nat → Nat → Int32 := pm_z (caI_115 I) 67 0
def caJ_60 (J : Nat → Nat → Int64) : Nat → Nat → Int64 := pm_z (caJ_59 J) 67 0
def caT_69 (L : Nat) : Nat → Nat × Nat := pm_t (caT_68 L) 68 (0, 8)
def caO_125 : Nat → Nat → Nat := pm_z caO_124 68 0
def caI_117 (I : Nat → Nat → Int32) : Nat → Nat → Int32 := pm_z (caI_116 I) 68 0
def caJ_61 (J : Nat → Nat → Int64) : Nat → Nat → Int64 := pm_z (caJ_60 J) 68 0
def caI_118 (I : Nat → Nat → Int32) : Nat → Nat → Int32 := pm_u (caI_117 I) 68 2 256
def caI_119 (I : Nat → Nat → Int32) : Nat → Nat → Int32 := pm_u (caI_118 I) 68 1 1
def caT_70 (L : Nat) : Nat → Nat × Nat := pm_t (caT_69 L) 69 (1, 256)
def caO_126 : Nat → Nat → Nat := pm_z caO_125 69 0
def caI_120 (I : Nat → Nat → Int32) : Nat → Nat → Int32 := pm_z (caI_119 I) 69 0
def caJ_62 (J : Nat → Nat → Int64) : Nat → Nat → Int64 := pm_z (caJ_61 J) 69 0
def caO_127 : Nat → Nat → Nat := pm_u caO_126 68 0 69
def caO_128 : Nat → Nat → Nat := pm_u caO_127 67 1 68
def caO_129 : Nat → Nat → Nat := pm_u caO_128 67 0 9
def caI_121 (I : Nat → Nat → Int32) : Nat → Nat → Int32 := pm_u (caI_120 I) 68 3 256
def caO_130 : Nat → Nat → Nat := pm_u caO_129 8 7 67
def caT_71 (L : Nat) : Nat → Nat × Nat := pm_t (caT_70 L) 70 (0, 2)
def caO_131 : Nat → Nat → Nat := pm_z caO_130 70 0
def caI_122 (I : Nat → Nat → Int32) : Nat → Nat → Int32 := pm_z (caI_121 I) 70 0
def caJ_63 (J : Nat → Nat → Int64) : Nat → Nat → Int64 := pm_z (caJ_62 J) 70 0
def caT_72 (L : Nat) : Nat → Nat × Nat := pm_t (caT_71 L) 71 (0, 8)
def caO_132 : Nat → Nat → Nat := pm_z caO_131 71 0
def caI_123 (I : Nat → Nat → Int32) : Nat → Nat → Int32 := pm_z (caI_122 I) 71 0
def caJ_64 (J : Nat → Nat → Int64) : Nat → Nat → Int64 := pm_z (caJ_63 J) 71 0
def caI_124 (I : Nat → Nat → Int32) : Nat → Nat → Int32 := pm_u (caI_123 I) 71 2 4
def caI_125 (I : Nat → Nat → Int32) : Nat → Nat → Int32 := pm_u (caI_124 I) 71 1 2
def caT_73 (L : Nat) : Nat → Nat × Nat := pm_t (caT_72 L) 72 (1, 8)
def caO_133 : Nat → Nat → Nat := pm_z caO_132 72 0
def caI_126 (I : Nat → Nat → Int32) : Nat → Nat → Int32 := pm_z (caI_125 I) 72 0
def caJ_65 (J : Nat → Nat → Int64) : Nat → Nat → Int64 := pm_z (caJ_64 J) 72 0
def caO_134 : Nat → Nat → Nat := pm_u caO_133 71 0 72
def caO_135 : Nat → Nat → Nat := pm_u caO_134 70 1 71
def caT_74 (L : Nat) : Nat → Nat × Nat := pm_t (caT_73 L) 73 (0, 8)
def caO_136 : Nat → Nat → Nat := pm_z caO_135 73 0
def caI_127 (I : Nat → Nat → Int32) : Nat → Nat → Int32 := pm_z (caI_126 I) 73 0
def caJ_66 (J : Nat → Nat → Int64) : Nat → Nat → Int64 := pm_z (caJ_65 J) 73 0
def caI_128 (I : Nat → Nat → Int32) : Nat → Nat → Int32 := pm_u (caI_127 I) 73 2 4
def caI_129 (I : Nat → Nat → Int32) : Nat → Nat → Int32 := pm_u (caI_128 I) 73 1 40
def caT_75 (L : Nat) : Nat → Nat × Nat := pm_t (caT_74 L) 74 (1, 160)
def caO_137 : Nat → Nat → Nat := pm_z caO_136 74 0
def caI_130 (I : Nat → Nat → Int32) : Nat → Nat → Int32 := pm_z (caI_129 I) 74 0
def caJ_67 (J : Nat → Nat → Int64) : Nat → Nat → Int64 := pm_z (caJ_66 J) 74 0
def caO_138 : Nat → Nat → Nat := pm_u caO_137 73 0 74
def caO_139 : Nat → Nat → Nat := pm_u caO_138 70 2 73
def caT_76 (L : Nat) : Nat → Nat × Nat := pm_t (caT_75 L) 75 (0, 8)
def caO_140 : Nat → Nat → Nat := pm_z caO_139 75 0
def caI_131 (I : Nat → Nat → Int32) : Nat → Nat → Int32 := pm_z (caI_130 I) 75 0
def caJ_68 (J : Nat → Nat → Int64) : Nat → Nat → Int64 := pm_z (caJ_67 J) 75 0
def caI_132 (I : Nat → Nat → Int32) : Nat → Nat → Int32 := pm_u (caI_131 I) 75 2 4
def caI_133 (I : Nat → Nat → Int32) : Nat → Nat → Int32 := pm_u (caI_132 I) 75 1 3
def caT_77 (L : Nat) : Nat → Nat × Nat := pm_t (caT_76 L) 76 (1, 12)
def caO_141 : Nat → Nat → Nat := pm_z caO_140 76 0
def caI_134 (I : Nat → Nat → Int32) : Nat → Nat → Int32 := pm_z (caI_133 I) 76 0
def caJ_69 (J : Nat → Nat → Int64) : Nat → Nat → Int64 := pm_z (caJ_68 J) 76 0
def caO_142 : Nat → Nat → Nat := pm_u caO_141 75 0 76
def caO_143 : Nat → Nat → Nat := pm_u caO_142 70 3 75
def caT_78 (L : Nat) : Nat → Nat × Nat := pm_t (caT_77 L) 77 (0, 8)
def caO_144 : Nat → Nat → Nat := pm_z caO_143 77 0
def caI_135 (I : Nat → Nat → Int32) : Nat → Nat → Int32 := pm_z (caI_134 I) 77 0
def caJ_70 (J : Nat → Nat → Int64) : Nat → Nat → Int64 := pm_z (caJ_69 J) 77 0
def caI_136 (I : Nat → Nat → Int32) : Nat → Nat → Int32 := pm_u (caI_135 I) 77 2 30
def caI_137 (I : Nat → Nat → Int32) : Nat → Nat → Int32 := pm_u (caI_136 I) 77 1 1
def caT_79 (L : Nat) : Nat → Nat × Nat := pm_t (caT_78 L) 78 (1, 30)
def caO_145 : Nat → Nat → Nat := pm_z caO_144 78 0
def caI_138 (I : Nat → Nat → Int32) : Nat → Nat → Int32 := pm_z (caI_137 I) 78 0
def caJ_71 (J : Nat → Nat → Int64) : Nat → Nat → Int64 := pm_z (caJ_70 J) 78 0
def caO_146 : Nat → Nat → Nat := pm_u caO_145 77 0 78
def caO_147 : Nat → Nat → Nat := pm_u caO_146 70 4 77
def caO_148 : Nat → Nat → Nat := pm_u caO_147 70 0 9
def caI_139 (I : Nat → Nat → Int32) : Nat → Nat → Int32 := pm_u (caI_138 I) 71 3 4
def caI_140 (I : Nat → Nat → Int32) : Nat → Nat → Int32 := pm_u (caI_139 I) 73 3 4
def caI_141 (I : Nat → Nat → Int32) : Nat → Nat → Int32 := pm_u (caI_140 I) 75 3 4
def caI_142 (I : Nat → Nat → Int32) : Nat → Nat → Int32 := pc_fl (caI_141 I) 72 2 4 (-1)
def caI_143 (I : Nat → Nat → Int32) : Nat → Nat → Int32 := pc_fl (caI_142 I) 76 3 4 2
def caO_149 : Nat → Nat → Nat := pm_u caO_148 8 8 70
def caT_80 (L : Nat) : Nat → Nat × Nat := pm_t (caT_79 L) 79 (0, 11)
def caO_150 : Nat → Nat → Nat := pm_z caO_149 79 0
def caI_144 (I : Nat → Nat → Int32) : Nat → Nat → Int32 := pm_z (caI_143 I) 79 0
def caJ_72 (J : Nat → Nat → Int64) : Nat → Nat → Int64 := pm_z (caJ_71 J) 79 0
def caT_81 (L : Nat) : Nat → Nat × Nat := pm_t (caT_80 L) 80 (1, 16)
def caO_151 : Nat → Nat → Nat := pm_z caO_150 80 0
def caI_145 (I : Nat → Nat → Int32) : Nat → Nat → Int32 := pm_z (caI_144 I) 80 0
def caJ_73 (J : Nat → Nat → Int64) : Nat → Nat → Int64 := pm_z (caJ_72 J) 80 0
def caO_152 : Nat → Nat → Nat := pm_u caO_151 79 0 80
def caT_82 (L : Nat) : Nat → Nat × Nat := pm_t (caT_81 L) 81 (1, 100)
def caO_153 : Nat → Nat → Nat := pm_z caO_152 81 0
def caI_146 (I : Nat → Nat → Int32) : Nat → Nat → Int32 := pm_z (caI_145 I) 81 0
def caJ_74 (J : Nat → Nat → Int64) : Nat → Nat → Int64 := pm_z (caJ_73 J) 81 0
def caO_154 : Nat → Nat → Nat := pm_u caO_153 79 1 81
def caT_83 (L : Nat) : Nat → Nat × Nat := pm_t (caT_82 L) 82 (1, 16)
def caO_155 : Nat → Nat → Nat := pm_z caO_154 82 0
def caI_147 (I : Nat → Nat → Int32) : Nat → Nat → Int32 := pm_z (caI_146 I) 82 0
def caJ_75 (J : Nat → Nat → Int64) : Nat → Nat → Int64 := pm_z (caJ_74 J) 82 0
def caO_156 : Nat → Nat → Nat := pm_u caO_155 79 2 82
def caT_84 (L : Nat) : Nat → Nat × Nat := pm_t (caT_83 L) 83 (1, 16)
def caO_157 : Nat → Nat → Nat := pm_z caO_156 83 0
def caI_148 (I : Nat → Nat → Int32) : Nat → Nat → Int32 := pm_z (caI_147 I) 83 0
def caJ_76 (J : Nat → Nat → Int64) : Nat → Nat → Int64 := pm_z (caJ_75 J) 83 0
def caO_158 : Nat → Nat → Nat := pm_u caO_157 79 3 83
def caT_85 (L : Nat) : Nat → Nat × Nat := pm_t (caT_84 L) 84 (1, 8)
def caO_159 : Nat → Nat → Nat := pm_z caO_158 84 0
def caI_149 (I : Nat → Nat → Int32) : Nat → Nat → Int32 := pm_z (caI_148 I) 84 0
def caJ_77 (J : Nat → Nat → Int64) : Nat → Nat → Int64 := pm_z (caJ_76 J) 84 0
def caO_160 : Nat → Nat → Nat := pm_u caO_159 79 4 84
def caT_86 (L : Nat) : Nat → Nat × Nat := pm_t (caT_85 L) 85 (1, 8)
def caO_161 : Nat → Nat → Nat := pm_z caO_160 85 0
def caI_150 (I : Nat → Nat → Int32) : Nat → Nat → Int32 := pm_z (caI_149 I) 85 0
def caJ_78 (J : Nat → Nat → Int64) : Nat → Nat → Int64 := pm_z (caJ_77 J) 85 0
def caO_162 : Nat → Nat → Nat := pm_u caO_161 79 5 85
def caT_87 (L : Nat) : Nat → Nat × Nat := pm_t (caT_86 L) 86 (1, 8)
def caO_163 : Nat → Nat → Nat := pm_z caO_162 86 0
def caI_151 (I : Nat → Nat → Int32) : Nat → Nat → Int32 := pm_z (caI_150 I) 86 0
def caJ_79 (J : Nat → Nat → Int64) : Nat → Nat → Int64 := pm_z (caJ_78 J) 86 0
def caO_164 : Nat → Nat → Nat := pm_u caO_163 79 6 86
def caT_88 (L : Nat) : Nat → Nat × Nat := pm_t (caT_87 L) 87 (1, 8)
def caO_165 : Nat → Nat → Nat := pm_z caO_164 87 0
def caI_152 (I : Nat → Nat → Int32) : Nat → Nat → Int32 := pm_z (caI_151 I) 87 0
def caJ_80 (J : Nat → Nat → Int64) : Nat → Nat → Int64 := pm_z (caJ_79 J) 87 0
def caO_166 : Nat → Nat → Nat := pm_u caO_165 79 7 87
def caT_89 (L : Nat) : Nat → Nat × Nat := pm_t (caT_88 L) 88 (1, 8)
def caO_167 : Nat → Nat → Nat := pm_z caO_166 88 0
def caI_153 (I : Nat → Nat → Int32) : Nat → Nat → Int32 := pm_z (caI_152 I) 88 0
def caJ_81 (J : Nat → Nat → Int64) : Nat → Nat → Int64 := pm_z (caJ_80 J) 88 0
def caO_168 : Nat → Nat → Nat := pm_u caO_167 79 8 88
def caT_90 (L : Nat) : Nat → Nat × Nat := pm_t (caT_89 L) 89 (1, 8)
def caO_169 : Nat → Nat → Nat := pm_z caO_168 89 0
def caI_154 (I : Nat → Nat → Int32) : Nat → Nat → Int32 := pm_z (caI_153 I) 89 0
def caJ_82 (J : Nat → Nat → Int64) : Nat → Nat → Int64 := pm_z (caJ_81 J) 89 0
def caO_170 : Nat → Nat → Nat := pm_u caO_169 79 9 89
def caT_91 (L : Nat) : Nat → Nat × Nat := pm_t (caT_90 L) 90 (1, 8)
def caO_171 : Nat → Nat → Nat := pm_z caO_170 90 0
def caI_155 (I : Nat → Nat → Int32) : Nat → Nat → Int32 := pm_z (caI_154 I) 90 0
def caJ_83 (J : Nat → Nat → Int64) : Nat → Nat → Int64 := pm_z (caJ_82 J) 90 0
def caO_172 : Nat → Nat → Nat := pm_u caO_171 79 10 90
def caT_92 (L : Nat) : Nat → Nat × Nat := pm_t (caT_91 L) 91 (1, 8)
def caO_173 : Nat → Nat → Nat := pm_z caO_172 91 0
def caI_156 (I : Nat → Nat → Int32) : Nat → Nat → Int32 := pm_z (caI_155 I) 91 0
def caJ_84 (J : Nat → Nat → Int64) : Nat → Nat → Int64 := pm_z (caJ_83 J) 91 0
def caO_174 : Nat → Nat → Nat := pm_u caO_173 79 11 91
def caT_93 (L : Nat) : Nat → Nat × Nat := pm_t (caT_92 L) 92 (1, 8)
def caO_175 : Nat → Nat → Nat := pm_z caO_174 92 0
def caI_157 (I : Nat → Nat → Int32) : Nat → Nat → Int32 := pm_z (caI_156 I) 92 0
def caJ_85 (J : Nat → Nat → Int64) : Nat → Nat → Int64 := pm_z (caJ_84 J) 92 0
def caO_176 : Nat → Nat → Nat := pm_u caO_175 79 12 92
def caT_94 (L : Nat) : Nat → Nat × Nat := pm_t (caT_93 L) 93 (1, 8)
def caO_177 : Nat → Nat → Nat := pm_z caO_176 93 0
def caI_158 (I : Nat → Nat → Int32) : Nat → Nat → Int32 := pm_z (caI_157 I) 93 0
def caJ_86 (J : Nat → Nat → Int64) : Nat → Nat → Int64 := pm_z (caJ_85 J) 93 0
def caO_178 : Nat → Nat → Nat := pm_u caO_177 79 13 93
def caT_95 (L : Nat) : Nat → Nat × Nat := pm_t (caT_94 L) 94 (1, 24)
def caO_179 : Nat → Nat → Nat := pm_z caO_178 94 0
def caI_159 (I : Nat → Nat → Int32) : Nat → Nat → Int32 := pm_z (caI_158 I) 94 0
def caJ_87 (J : Nat → Nat → Int64) : Nat → Nat → Int64 := pm_z (caJ_86 J) 94 0
def caO_180 : Nat → Nat → Nat := pm_u caO_179 79 14 94
def caT_96 (L : Nat) : Nat → Nat × Nat := pm_t (caT_95 L) 95 (1, 24)
def caO_181 : Nat → Nat → Nat := pm_z caO_180 95 0
def caI_160 (I : Nat → Nat → Int32) : Nat → Nat → Int32 := pm_z (caI_159 I) 95 0
def caJ_88 (J : Nat → Nat → Int64) : Nat → Nat → Int64 := pm_z (caJ_87 J) 95 0
def caO_182 : Nat → Nat → Nat := pm_u caO_181 79 15 95
def caT_97 (L : Nat) : Nat → Nat × Nat := pm_t (caT_96 L) 96 (1, 24)
def caO_183 : Nat → Nat → Nat := pm_z caO_182 96 0
def caI_161 (I : Nat → Nat → Int32) : Nat → Nat → Int32 := pm_z (caI_160 I) 96 0
def caJ_89 (J : Nat → Nat → Int64) : Nat → Nat → Int64 := pm_z (caJ_88 J) 96 0
def caO_184 : Nat → Nat → Nat := pm_u caO_183 79 16 96
def caT_98 (L : Nat) : Nat → Nat × Nat := pm_t (caT_97 L) 97 (1, 24)
def caO_185 : Nat → Nat → Nat := pm_z caO_184 97 0
def caI_162 (I : Nat → Nat → Int32) : Nat → Nat → Int32 := pm_z (caI_161 I) 97 0
def caJ_90 (J : Nat → Nat → Int64) : Nat → Nat → Int64 := pm_z (caJ_89 J) 97 0
def caO_186 : Nat → Nat → Nat := pm_u caO_185 79 17 97
def caT_99 (L : Nat) : Nat → Nat × Nat := pm_t (caT_98 L) 98 (1, 24)
def caO_187 : Nat → Nat → Nat := pm_z caO_186 98 0
def caI_163 (I : Nat → Nat → Int32) : Nat → Nat → Int32 := pm_z (caI_162 I) 98 0
def caJ_91 (J : Nat → Nat → Int64) : Nat → Nat → Int64 := pm_z (caJ_90 J) 98 0
def caO_188 : Nat → Nat → Nat := pm_u caO_187 79 18 98
def caT_100 (L : Nat) : Nat → Nat × Nat := pm_t (caT_99 L) 99 (1, 24)
def caO_189 : Nat → Nat → Nat := pm_z caO_188 99 0
def caI_164 (I : Nat → Nat → Int32) : Nat → Nat → Int32 := pm_z (caI_163 I) 99 0
def caJ_92 (J : Nat → Nat → Int64) : Nat → Nat → Int64 := pm_z (caJ_91 J) 99 0
def caO_190 : Nat → Nat → Nat := pm_u caO_189 79 19 99
def caT_101 (L : Nat) : Nat → Nat × Nat := pm_t (caT_100 L) 100 (1, 24)
def caO_191 : Nat → Nat → Nat := pm_z caO_190 100 0
def caI_165 (I : Nat → Nat → Int32) : Nat → Nat → Int32 := pm_z (caI_164 I) 100 0
def caJ_93 (J : Nat → Nat → Int64) : Nat → Nat → Int64 := pm_z (caJ_92 J) 100 0
def caO_192 : Nat → Nat → Nat := pm_u caO_191 79 20 100
def caT_102 (L : Nat) : Nat → Nat × Nat := pm_t (caT_101 L) 101 (1, 24)
def caO_193 : Nat → Nat → Nat := pm_z caO_192 101 0
def caI_166 (I : Nat → Nat → Int32) : Nat → Nat → Int32 := pm_z (caI_165 I) 101 0
def caJ_94 (J : Nat → Nat → Int64) : Nat → Nat → Int64 := pm_z (caJ_93 J) 101 0
def caO_194 : Nat → Nat → Nat := pm_u caO_193 79 21 101
def caT_103 (L : Nat) : Nat → Nat × Nat := pm_t (caT_102 L) 102 (1, 24)
def caO_195 : Nat → Nat → Nat := pm_z caO_194 102 0
def caI_167 (I : Nat → Nat → Int32) : Nat → Nat → Int32 := pm_z (caI_166 I) 102 0
def caJ_95 (J : Nat → Nat → Int64) : Nat → Nat → Int64 := pm_z (caJ_94 J) 102 0
def caO_196 : Nat → Nat → Nat := pm_u caO_195 79 22 102
def caT_104 (L : Nat) : Nat → Nat × Nat := pm_t (caT_103 L) 103 (1, 24)
def caO_197 : Nat → Nat → Nat := pm_z caO_196 103 0
def caI_168 (I : Nat → Nat → Int32) : Nat → Nat → Int32 := pm_z (caI_167 I) 103 0
def caJ_96 (J : Nat → Nat → Int64) : Nat → Nat → Int64 := pm_z (caJ_95 J) 103 0
def caO_198 : Nat → Nat → Nat := pm_u caO_197 79 23 103
def caT_105 (L : Nat) : Nat → Nat × Nat := pm_t (caT_104 L) 104 (1, 24)
def caO_199 : Nat → Nat → Nat := pm_z caO_198 104 0
def caI_169 (I : Nat → Nat → Int32) : Nat → Nat → Int32 := pm_z (caI_168 I) 104 0
def caJ_97 (J : Nat → Nat → Int64) : Nat → Nat → Int64 := pm_z (caJ_96 J) 104 0
def caO_200 : Nat → Nat → Nat := pm_u caO_199 79 24 104
def caT_106 (L : Nat) : Nat → Nat × Nat := pm_t (caT_105 L) 105 (1, 24)
def caO_201 : Nat → Nat → Nat := pm_z caO_200 105 0
def caI_170 (I : Nat → Nat → Int32) : Nat → Nat → Int32 := pm_z (caI_169 I) 105 0
def caJ_98 (J : Nat → Nat → Int64) : Nat → Nat → Int64 := pm_z (caJ_97 J) 105 0
def caO_202 : Nat → Nat → Nat := pm_u caO_201 79 25 105
def caT_107 (L : Nat) : Nat → Nat × Nat := pm_t (caT_106 L) 106 (1, 24)
def caO_203 : Nat → Nat → Nat := pm_z caO_202 106 0
def caI_171 (I : Nat → Nat → Int32) : Nat → Nat → Int32 := pm_z (caI_170 I) 106 0
def caJ_99 (J : Nat → Nat → Int64) : Nat → Nat → Int64 := pm_z (caJ_98 J) 106 0
def caO_204 : Nat → Nat → Nat := pm_u caO_203 79 26 106
def caT_108 (L : Nat) : Nat → Nat × Nat := pm_t (caT_107 L) 107 (1, 24)
def caO_205 : Nat → Nat → Nat := pm_z caO_204 107 0
def caI_172 (I : Nat → Nat → Int32) : Nat → Nat → Int32 := pm_z (caI_171 I) 107 0
def caJ_100 (J : Nat → Nat → Int64) : Nat → Nat → Int64 := pm_z (caJ_99 J) 107 0
def caO_206 : Nat → Nat → Nat := pm_u caO_205 79 27 107
def caT_109 (L : Nat) : Nat → Nat × Nat := pm_t (caT_108 L) 108 (1, 24)
def caO_207 : Nat → Nat → Nat := pm_z caO_206 108 0
def caI_173 (I : Nat → Nat → Int32) : Nat → Nat → Int32 := pm_z (caI_172 I) 108 0
def caJ_101 (J : Nat → Nat → Int64) : Nat → Nat → Int64 := pm_z (caJ_100 J) 108 0
def caO_208 : Nat → Nat → Nat := pm_u caO_207 79 28 108
def caT_110 (L : Nat) : Nat → Nat × Nat := pm_t (caT_109 L) 109 (1, 24)
def caO_209 : Nat → Nat → Nat := pm_z caO_208 109 0
def caI_174 (I : Nat → Nat → Int32) : Nat → Nat → Int32 := pm_z (caI_173 I) 109 0
def caJ_102 (J : Nat → Nat → Int64) : Nat → Nat → Int64 := pm_z (caJ_101 J) 109 0
def caO_210 : Nat → Nat → Nat := pm_u caO_209 79 29 109
def caT_111 (L : Nat) : Nat → Nat × Nat := pm_t (caT_110 L) 110 (1, 24)
def caO_211 : Nat → Nat → Nat := pm_z caO_210 110 0
def caI_175 (I : Nat → Nat → Int32) : Nat → Nat → Int32 := pm_z (caI_174 I) 110 0
def caJ_103 (J : Nat → Nat → Int64) : Nat → Nat → Int64 := pm_z (caJ_102 J) 110 0
def caO_212 : Nat → Nat → Nat := pm_u caO_211 79 30 110
def caT_112 (L : Nat) : Nat → Nat × Nat := pm_t (caT_111 L) 111 (1, 72)
def caO_213 : Nat → Nat → Nat := pm_z caO_212 111 0
def caI_176 (I : Nat → Nat → Int32) : Nat → Nat → Int32 := pm_z (caI_175 I) 111 0
def caJ_104 (J : Nat → Nat → Int64) : Nat → Nat → Int64 := pm_z (caJ_103 J) 111 0
def caO_214 : Nat → Nat → Nat := pm_u caO_213 79 31 111
def caT_113 (L : Nat) : Nat → Nat × Nat := pm_t (caT_112 L) 112 (1, 13)
def caO_215 : Nat → Nat → Nat := pm_z caO_214 112 0
def caI_177 (I : Nat → Nat → Int32) : Nat → Nat → Int32 := pm_z (caI_176 I) 112 0
def caJ_105 (J : Nat → Nat → Int64) : Nat → Nat → Int64 := pm_z (caJ_104 J) 112 0
def caO_216 : Nat → Nat → Nat := pm_u caO_215 79 32 112
def caT_114 (L : Nat) : Nat → Nat × Nat := pm_t (caT_113 L) 113 (1, 13)
def caO_217 : Nat → Nat → Nat := pm_z caO_216 113 0
def caI_178 (I : Nat → Nat → Int32) : Nat → Nat → Int32 := pm_z (caI_177 I) 113 0
def caJ_106 (J : Nat → Nat → Int64) : Nat → Nat → Int64 := pm_z (caJ_105 J) 113 0
def caO_218 : Nat → Nat → Nat := pm_u caO_217 79 33 113
def caT_115 (L : Nat) : Nat → Nat × Nat := pm_t (caT_114 L) 114 (1, 13)
def caO_219 : Nat → Nat → Nat := pm_z caO_218 114 0
def caI_179 (I : Nat → Nat → Int32) : Nat → Nat → Int32 := pm_z (caI_178 I) 114 0
def caJ_107 (J : Nat → Nat → Int64) : Nat → Nat → Int64 := pm_z (caJ_106 J) 114 0
def caO_220 : Nat → Nat → Nat := pm_u caO_219 79 34 114
def caT_116 (L : Nat) : Nat → Nat × Nat := pm_t (caT_115 L) 115 (1, 13)
def caO_221 : Nat → Nat → Nat := pm_z caO_220 115 0
def caI_180 (I : Nat → Nat → Int32) : Nat → Nat → Int32 := pm_z (caI_179 I) 115 0
def caJ_108 (J : Nat → Nat → Int64) : Nat → Nat → Int64 := pm_z (caJ_107 J) 115 0
def caO_222 : Nat → Nat → Nat := pm_u caO_221 79 35 115
def caT_117 (L : Nat) : Nat → Nat × Nat := pm_t (caT_116 L) 116 (1, 13)
def caO_223 : Nat → Nat → Nat := pm_z caO_222 116 0
def caI_181 (I : Nat → Nat → Int32) : Nat → Nat → Int32 := pm_z (caI_180 I) 116 0
def caJ_109 (J : Nat → Nat → Int64) : Nat → Nat → Int64 := pm_z (caJ_108 J) 116 0
def caO_224 : Nat → Nat → Nat := pm_u caO_223 79 36 116
def caT_118 (L : Nat) : Nat → Nat × Nat := pm_t (caT_117 L) 117 (1, 130)
def caO_225 : Nat → Nat → Nat := pm_z caO_224 117 0
def caI_182 (I : Nat → Nat → Int32) : Nat → Nat → Int32 := pm_z (caI_181 I) 117 0
def caJ_110 (J : Nat → Nat → Int64) : Nat → Nat → Int64 := pm_z (caJ_109 J) 117 0
def caO_226 : Nat → Nat → Nat := pm_u caO_225 79 37 117
def caT_119 (L : Nat) : Nat → Nat × Nat := pm_t (caT_118 L) 118 (1, 130)
def caO_227 : Nat → Nat → Nat := pm_z caO_226 118 0
def caI_183 (I : Nat → Nat → Int32) : Nat → Nat → Int32 := pm_z (caI_182 I) 118 0
def caJ_111 (J : Nat → Nat → Int64) : Nat → Nat → Int64 := pm_z (caJ_110 J) 118 0
def caO_228 : Nat → Nat → Nat := pm_u caO_227 79 38 118
def caT_120 (L : Nat) : Nat → Nat × Nat := pm_t (caT_119 L) 119 (1, 130)
def caO_229 : Nat → Nat → Nat := pm_z caO_228 119 0
def caI_184 (I : Nat → Nat → Int32) : Nat → Nat → Int32 := pm_z (caI_183 I) 119 0
def caJ_112 (J : Nat → Nat → Int64) : Nat → Nat → Int64 := pm_z (caJ_111 J) 119 0
def caO_230 : Nat → Nat → Nat := pm_u caO_229 79 39 119
def caT_121 (L : Nat) : Nat → Nat × Nat := pm_t (caT_120 L) 120 (1, 130)
def caO_231 : Nat → Nat → Nat := pm_z caO_230 120 0
def caI_185 (I : Nat → Nat → Int32) : Nat → Nat → Int32 := pm_z (caI_184 I) 120 0
def caJ_113 (J : Nat → Nat → Int64) : Nat → Nat → Int64 := pm_z (caJ_112 J) 120 0
def caO_232 : Nat → Nat → Nat := pm_u caO_231 79 40 120
def caT_122 (L : Nat) : Nat → Nat × Nat := pm_t (caT_121 L) 121 (1, 130)
def caO_233 : Nat → Nat → Nat := pm_z caO_232 121 0
def caI_186 (I : Nat → Nat → Int32) : Nat → Nat → Int32 := pm_z (caI_185 I) 121 0
def caJ_114 (J : Nat → Nat → Int64) : Nat → Nat → Int64 := pm_z (caJ_113 J) 121 0
def caO_234 : Nat → Nat → Nat := pm_u caO_233 79 41 121
def caT_123 (L : Nat) : Nat → Nat × Nat := pm_t (caT_122 L) 122 (1, 1040)
def caO_235 : Nat → Nat → Nat := pm_z caO_234 122 0
def caI_187 (I : Nat → Nat → Int32) : Nat → Nat → Int32 := pm_z (caI_186 I) 122 0
def caJ_115 (J : Nat → Nat → Int64) : Nat → Nat → Int64 := pm_z (caJ_114 J) 122 0
def caO_236 : Nat → Nat → Nat := pm_u caO_235 79 42 122
def caT_124 (L : Nat) : Nat → Nat × Nat := pm_t (caT_123 L) 123 (1, 1040)
def caO_237 : Nat → Nat → Nat := pm_z caO_236 123 0
def caI_188 (I : Nat → Nat → Int32) : Nat → Nat → Int32 := pm_z (caI_187 I) 123 0
def caJ_116 (J : Nat → Nat → Int64) : Nat → Nat → Int64 := pm_z (caJ_115 J) 123 0
def caO_238 : Nat → Nat → Nat := pm_u caO_237 79 43 123
def caT_125 (L : Nat) : Nat → Nat × Nat := pm_t (caT_124 L) 124 (1, 4)
def caO_239 : Nat → Nat → Nat := pm_z caO_238 124 0
def caI_189 (I : Nat → Nat → Int32) : Nat → Nat → Int32 := pm_z (caI_188 I) 124 0
def caJ_117 (J : Nat → Nat → Int64) : Nat → Nat → Int64 := pm_z (caJ_116 J) 124 0
def caO_240 : Nat → Nat → Nat := pm_u caO_239 79 44 124
def caT_126 (L : Nat) : Nat → Nat × Nat := pm_t (caT_125 L) 125 (1, 24)
def caO_241 : Nat → Nat → Nat := pm_z caO_240 125 0
def caI_190 (I : Nat → Nat → Int32) : Nat → Nat → Int32 := pm_z (caI_189 I) 125 0
def caJ_118 (J : Nat → Nat → Int64) : Nat → Nat → Int64 := pm_z (caJ_117 J) 125 0
def caO_242 : Nat → Nat → Nat := pm_u caO_241 79 45 125
def caT_127 (L : Nat) : Nat → Nat × Nat := pm_t (caT_126 L) 126 (1, 24)
def caO_243 : Nat → Nat → Nat := pm_z caO_242 126 0
def caI_191 (I : Nat → Nat → Int32) : Nat → Nat → Int32 := pm_z (caI_190 I) 126 0
def caJ_119 (J : Nat → Nat → Int64) : Nat → Nat → Int64 := pm_z (caJ_118 J) 126 0
def caO_244 : Nat → Nat → Nat := pm_u caO_243 79 46 126
def caT_128 (L : Nat) : Nat → Nat × Nat := pm_t (caT_127 L) 127 (1, 24)
def caO_245 : Nat → Nat → Nat := pm_z caO_244 127 0
def caI_192 (I : Nat → Nat → Int32) : Nat → Nat → Int32 := pm_z (caI_191 I) 127 0
def caJ_120 (J : Nat → Nat → Int64) : Nat → Nat → Int64 := pm_z (caJ_119 J) 127 0
def caO_246 : Nat → Nat → Nat := pm_u caO_245 79 47 127
def caT_129 (L : Nat) : Nat → Nat × Nat := pm_t (caT_128 L) 128 (1, 7)
def caO_247 : Nat → Nat → Nat := pm_z caO_246 128 0
def caI_193 (I : Nat → Nat → Int32) : Nat → Nat → Int32 := pm_z (caI_192 I) 128 0
def caJ_121 (J : Nat → Nat → Int64) : Nat → Nat → Int64 := pm_z (caJ_120 J) 128 0
def caO_248 : Nat → Nat → Nat := pm_u caO_247 79 48 128
def caT_130 (L : Nat) : Nat → Nat × Nat := pm_t (caT_129 L) 129 (1, 3)
def caO_249 : Nat → Nat → Nat := pm_z caO_248 129 0
def caI_194 (I : Nat → Nat → Int32) : Nat → Nat → Int32 := pm_z (caI_193 I) 129 0
def caJ_122 (J : Nat → Nat → Int64) : Nat → Nat → Int64 := pm_z (caJ_121 J) 129 0
def caO_250 : Nat → Nat → Nat := pm_u caO_249 79 49 129
def caT_131 (L : Nat) : Nat → Nat × Nat := pm_t (caT_130 L) 130 (1, 24)
def caO_251 : Nat → Nat → Nat := pm_z caO_250 130 0
def caI_195 (I : Nat → Nat → Int32) : Nat → Nat → Int32 := pm_z (caI_194 I) 130 0
def caJ_123 (J : Nat → Nat → Int64) : Nat → Nat → Int64 := pm_z (caJ_122 J) 130 0
def caO_252 : Nat → Nat → Nat := pm_u caO_251 79 50 130
def caT_132 (L : Nat) : Nat → Nat × Nat := pm_t (caT_131 L) 131 (1, 24)
def caO_253 : Nat → Nat → Nat := pm_z caO_252 131 0
def caI_196 (I : Nat → Nat → Int32) : Nat → Nat → Int32 := pm_z (caI_195 I) 131 0
def caJ_124 (J : Nat → Nat → Int64) : Nat → Nat → Int64 := pm_z (caJ_123 J) 131 0
def caO_254 : Nat → Nat → Nat := pm_u caO_253 79 51 131
def caT_133 (L : Nat) : Nat → Nat × Nat := pm_t (caT_132 L) 132 (1, 24)
def caO_255 : Nat → Nat → Nat := pm_z caO_254 132 0
def caI_197 (I : Nat → Nat → Int32) : Nat → Nat → Int32 := pm_z (caI_196 I) 132 0
def caJ_125 (J : Nat → Nat → Int64) : Nat → Nat → Int64 := pm_z (caJ_124 J) 132 0
def caO_256 : Nat → Nat → Nat := pm_u caO_255 79 52 132
def caT_134 (L : Nat) : Nat → Nat × Nat := pm_t (caT_133 L) 133 (1, 24)
def caO_257 : Nat → Nat → Nat := pm_z caO_256 133 0
def caI_198 (I : Nat → Nat → Int32) : Nat → Nat → Int32 := pm_z (caI_197 I) 133 0
def caJ_126 (J : Nat → Nat → Int64) : Nat → Nat → Int64 := pm_z (caJ_125 J) 133 0
def caO_258 : Nat → Nat → Nat := pm_u caO_257 79 53 133
def caT_135 (L : Nat) : Nat → Nat × Nat := pm_t (caT_134 L) 134 (1, 24)
def caO_259 : Nat → Nat → Nat := pm_z caO_258 134 0
def caI_199 (I : Nat → Nat → Int32) : Nat → Nat → Int32 := pm_z (caI_198 I) 134 0
def caJ_127 (J : Nat → Nat → Int64) : Nat → Nat → Int64 := pm_z (caJ_126 J) 134 0
def caO_260 : Nat → Nat → Nat := pm_u caO_259 79 54 134
def caT_136 (L : Nat) : Nat → Nat × Nat := pm_t (caT_135 L) 135 (1, 24)
def caO_261 : Nat → Nat → Nat := pm_z caO_260 135 0
def caI_200 (I : Nat → Nat → Int32) : Nat → Nat → Int32 := pm_z (caI_199 I) 135 0
def caJ_128 (J : Nat → Nat → Int64) : Nat → Nat → Int64 := pm_z (caJ_127 J) 135 0
def caO_262 : Nat → Nat → Nat := pm_u caO_261 79 55 135
def caT_137 (L : Nat) : Nat → Nat × Nat := pm_t (caT_136 L) 136 (1, 4200)
def caO_263 : Nat → Nat → Nat := pm_z caO_262 136 0
def caI_201 (I : Nat → Nat → Int32) : Nat → Nat → Int32 := pm_z (caI_200 I) 136 0
def caJ_129 (J : Nat → Nat → Int64) : Nat → Nat → Int64 := pm_z (caJ_128 J) 136 0
def caO_264 : Nat → Nat → Nat := pm_u caO_263 79 56 136
def caT_138 (L : Nat) : Nat → Nat × Nat := pm_t (caT_137 L) 137 (1, 24)
def caO_265 : Nat → Nat → Nat := pm_z caO_264 137 0
def caI_202 (I : Nat → Nat → Int32) : Nat → Nat → Int32 := pm_z (caI_201 I) 137 0
def caJ_130 (J : Nat → Nat → Int64) : Nat → Nat → Int64 := pm_z (caJ_129 J) 137 0
def caO_266 : Nat → Nat → Nat := pm_u caO_265 79 59 137
def caT_139 (L : Nat) : Nat → Nat × Nat := pm_t (caT_138 L) 138 (1, 300)
def caO_267 : Nat → Nat → Nat := pm_z caO_266 138 0
def caI_203 (I : Nat → Nat → Int32) : Nat → Nat → Int32 := pm_z (caI_202 I) 138 0
def caJ_131 (J : Nat → Nat → Int64) : Nat → Nat → Int64 := pm_z (caJ_130 J) 138 0
def caO_268 : Nat → Nat → Nat := pm_u caO_267 79 60 138
def caT_140 (L : Nat) : Nat → Nat × Nat := pm_t (caT_139 L) 139 (1, 24)
def caO_269 : Nat → Nat → Nat := pm_z caO_268 139 0
def caI_204 (I : Nat → Nat → Int32) : Nat → Nat → Int32 := pm_z (caI_203 I) 139 0
def caJ_132 (J : Nat → Nat → Int64) : Nat → Nat → Int64 := pm_z (caJ_131 J) 139 0
def caO_270 : Nat → Nat → Nat := pm_u caO_269 79 71 139
def caT_141 (L : Nat) : Nat → Nat × Nat := pm_t (caT_140 L) 140 (1, 24)
def caO_271 : Nat → Nat → Nat := pm_z caO_270 140 0
def caI_205 (I : Nat → Nat → Int32) : Nat → Nat → Int32 := pm_z (caI_204 I) 140 0
def caJ_133 (J : Nat → Nat → Int64) : Nat → Nat → Int64 := pm_z (caJ_132 J) 140 0
def caO_272 : Nat → Nat → Nat := pm_u caO_271 79 72 140
def caT_142 (L : Nat) : Nat → Nat × Nat := pm_t (caT_141 L) 141 (1, 24)
def caO_273 : Nat → Nat → Nat := pm_z caO_272 141 0
def caI_206 (I : Nat → Nat → Int32) : Nat → Nat → Int32 := pm_z (caI_205 I) 141 0
def caJ_134 (J : Nat → Nat → Int64) : Nat → Nat → Int64 := pm_z (caJ_133 J) 141 0
def caO_274 : Nat → Nat → Nat := pm_u caO_273 79 73 141
def caT_143 (L : Nat) : Nat → Nat × Nat := pm_t (caT_142 L) 142 (1, 8)
def caO_275 : Nat → Nat → Nat := pm_z caO_274 142 0
def caI_207 (I : Nat → Nat → Int32) : Nat → Nat → Int32 := pm_z (caI_206 I) 142 0
def caJ_135 (J : Nat → Nat → Int64) : Nat → Nat → Int64 := pm_z (caJ_134 J) 142 0
def caO_276 : Nat → Nat → Nat := pm_u caO_275 79 74 142
def caT_144 (L : Nat) : Nat → Nat × Nat := pm_t (caT_143 L) 143 (1, 8)
def caO_277 : Nat → Nat → Nat := pm_z caO_276 143 0
def caI_208 (I : Nat → Nat → Int32) : Nat → Nat → Int32 := pm_z (caI_207 I) 143 0
def caJ_136 (J : Nat → Nat → Int64) : Nat → Nat → Int64 := pm_z (caJ_135 J) 143 0
def caO_278 : Nat → Nat → Nat := pm_u caO_277 79 75 143
def caT_145 (L : Nat) : Nat → Nat × Nat := pm_t (caT_144 L) 144 (1, 8)
def caO_279 : Nat → Nat → Nat := pm_z caO_278 144 0
def caI_209 (I : Nat → Nat → Int32) : Nat → Nat → Int32 := pm_z (caI_208 I) 144 0
def caJ_137 (J : Nat → Nat → Int64) : Nat → Nat → Int64 := pm_z (caJ_136 J) 144 0
def caO_280 : Nat → Nat → Nat := pm_u caO_279 79 79 144
def caT_146 (L : Nat) : Nat → Nat × Nat := pm_t (caT_145 L) 145 (1, 8)
def caO_281 : Nat → Nat → Nat := pm_z caO_280 145 0
def caI_210 (I : Nat → Nat → Int32) : Nat → Nat → Int32 := pm_z (caI_209 I) 145 0
def caJ_138 (J : Nat → Nat → Int64) : Nat → Nat → Int64 := pm_z (caJ_137 J) 145 0
def caO_282 : Nat → Nat → Nat := pm_u caO_281 79 80 145
def caT_147 (L : Nat) : Nat → Nat × Nat := pm_t (caT_146 L) 146 (1, 8)
def caO_283 : Nat → Nat → Nat := pm_z caO_282 146 0
def caI_211 (I : Nat → Nat → Int32) : Nat → Nat → Int32 := pm_z (caI_210 I) 146 0
def caJ_139 (J : Nat → Nat → Int64) : Nat → Nat → Int64 := pm_z (caJ_138 J) 146 0
def caO_284 : Nat → Nat → Nat := pm_u caO_283 79 81 146
def caT_148 (L : Nat) : Nat → Nat × Nat := pm_t (caT_147 L) 147 (1, 8)
def caO_285 : Nat → Nat → Nat := pm_z caO_284 147 0
def caI_212 (I : Nat → Nat → Int32) : Nat → Nat → Int32 := pm_z (caI_211 I) 147 0
def caJ_140 (J : Nat → Nat → Int64) : Nat → Nat → Int64 := pm_z (caJ_139 J) 147 0
def caO_286 : Nat → Nat → Nat := pm_u caO_285 79 82 147
def caT_149 (L : Nat) : Nat → Nat × Nat := pm_t (caT_148 L) 148 (1, 4)
def caO_287 : Nat → Nat → Nat := pm_z caO_286 148 0
def caI_213 (I : Nat → Nat → Int32) : Nat → Nat → Int32 := pm_z (caI_212 I) 148 0
def caJ_141 (J : Nat → Nat → Int64) : Nat → Nat → Int64 := pm_z (caJ_140 J) 148 0
def caO_288 : Nat → Nat → Nat := pm_u caO_287 79 86 148
def caT_150 (L : Nat) : Nat → Nat × Nat := pm_t (caT_149 L) 149 (1, 256)
def caO_289 : Nat → Nat → Nat := pm_z caO_288 149 0
def caI_214 (I : Nat → Nat → Int32) : Nat → Nat → Int32 := pm_z (caI_213 I) 149 0
def caJ_142 (J : Nat → Nat → Int64) : Nat → Nat → Int64 := pm_z (caJ_141 J) 149 0
def caO_290 : Nat → Nat → Nat := pm_u caO_289 79 92 149
def caT_151 (L : Nat) : Nat → Nat × Nat := pm_t (caT_150 L) 150 (1, 256)
def caO_291 : Nat → Nat → Nat := pm_z caO_290 150 0
def caI_215 (I : Nat → Nat → Int32) : Nat → Nat → Int32 := pm_z (caI_214 I) 150 0
def caJ_143 (J : Nat → Nat → Int64) : Nat → Nat → Int64 := pm_z (caJ_142 J) 150 0
def caO_292 : Nat → Nat → Nat := pm_u caO_291 79 93 150
def caT_152 (L : Nat) : Nat → Nat × Nat := pm_t (caT_151 L) 151 (1, 4)
def caO_293 : Nat → Nat → Nat := pm_z caO_292 151 0
def caI_216 (I : Nat → Nat → Int32) : Nat → Nat → Int32 := pm_z (caI_215 I) 151 0
def caJ_144 (J : Nat → Nat → Int64) : Nat → Nat → Int64 := pm_z (caJ_143 J) 151 0
def caI_217 (I : Nat → Nat → Int32) : Nat → Nat → Int32 := pm_u (caI_216 I) 151 0 (-1)
def caI_218 (I : Nat → Nat → Int32) : Nat → Nat → Int32 := pm_u (caI_217 I) 151 1 (-1)
def caI_219 (I : Nat → Nat → Int32) : Nat → Nat → Int32 := pm_u (caI_218 I) 151 2 (-1)
def caI_220 (I : Nat → Nat → Int32) : Nat → Nat → Int32 := pm_u (caI_219 I) 151 3 (-1)
def caO_294 : Nat → Nat → Nat := pm_u caO_293 79 94 151
def caT_153 (L : Nat) : Nat → Nat × Nat := pm_t (caT_152 L) 152 (1, 4)
def caO_295 : Nat → Nat → Nat := pm_z caO_294 152 0
def caI_221 (I : Nat → Nat → Int32) : Nat → Nat → Int32 := pm_z (caI_220 I) 152 0
def caJ_145 (J : Nat → Nat → Int64) : Nat → Nat → Int64 := pm_z (caJ_144 J) 152 0
def caO_296 : Nat → Nat → Nat := pm_u caO_295 79 95 152
def caT_154 (L : Nat) : Nat → Nat × Nat := pm_t (caT_153 L) 153 (3, 160)
def caO_297 : Nat → Nat → Nat := pm_z caO_296 153 0
def caI_222 (I : Nat → Nat → Int32) : Nat → Nat → Int32 := pm_z (caI_221 I) 153 0
def caJ_146 (J : Nat → Nat → Int64) : Nat → Nat → Int64 := pm_z (caJ_145 J) 153 0
def caO_298 : Nat → Nat → Nat := pm_u caO_297 79 96 153
def caT_155 (L : Nat) : Nat → Nat × Nat := pm_t (caT_154 L) 154 (1, 4)
def caO_299 : Nat → Nat → Nat := pm_z caO_298 154 0
def caI_223 (I : Nat → Nat → Int32) : Nat → Nat → Int32 := pm_z (caI_222 I) 154 0
def caJ_147 (J : Nat → Nat → Int64) : Nat → Nat → Int64 := pm_z (caJ_146 J) 154 0
def caI_224 (I : Nat → Nat → Int32) : Nat → Nat → Int32 := pm_u (caI_223 I) 154 0 2
def caI_225 (I : Nat → Nat → Int32) : Nat → Nat → Int32 := pm_u (caI_224 I) 154 1 2
def caI_226 (I : Nat → Nat → Int32) : Nat → Nat → Int32 := pm_u (caI_225 I) 154 2 2
def caI_227 (I : Nat → Nat → Int32) : Nat → Nat → Int32 := pm_u (caI_226 I) 154 3 2
def caO_300 : Nat → Nat → Nat := pm_u caO_299 79 97 154
def caT_156 (L : Nat) : Nat → Nat × Nat := pm_t (caT_155 L) 155 (1, 4)
def caO_301 : Nat → Nat → Nat := pm_z caO_300 155 0
def caI_228 (I : Nat → Nat → Int32) : Nat → Nat → Int32 := pm_z (caI_227 I) 155 0
def caJ_148 (J : Nat → Nat → Int64) : Nat → Nat → Int64 := pm_z (caJ_147 J) 155 0
def caO_302 : Nat → Nat → Nat := pm_u caO_301 79 98 155
def caT_157 (L : Nat) : Nat → Nat × Nat := pm_t (caT_156 L) 156 (1, 4)
def caO_303 : Nat → Nat → Nat := pm_z caO_302 156 0
def caI_229 (I : Nat → Nat → Int32) : Nat → Nat → Int32 := pm_z (caI_228 I) 156 0
def caJ_149 (J : Nat → Nat → Int64) : Nat → Nat → Int64 := pm_z (caJ_148 J) 156 0
def caO_304 : Nat → Nat → Nat := pm_u caO_303 79 99 156
def caT_158 (L : Nat) : Nat → Nat × Nat := pm_t (caT_157 L) 157 (1, 30)
def caO_305 : Nat → Nat → Nat := pm_z caO_304 157 0
def caI_230 (I : Nat → Nat → Int32) : Nat → Nat → Int32 := pm_z (caI_229 I) 157 0
def caJ_150 (J : Nat → Nat → Int64) : Nat → Nat → Int64 := pm_z (caJ_149 J) 157 0
def caO_306 : Nat → Nat → Nat := pm_u caO_305 79 100 157
def caI_231 (I : Nat → Nat → Int32) : Nat → Nat → Int32 := pc_rd (caI_230 I) 81 100
theorem ca_c1_s0 {d L : Nat} {I : Nat → Nat → Int32} {J : Nat → Nat → Int64} {Q : Int32 → Int64 → pm_H → Prop} : pm_wc pm_code pm_meta (d + 1) 317 [.ref 1] ((caT_8 L, caO_0, 8, 0), caI_0 I, caJ_0 J) Q ↔ pm_wc pm_code pm_meta d 111 [.ref 8] ((caT_9 L, caO_1, 9, 10), caI_1 I, caJ_1 J) (fun v w H => pm_wp pm_code pm_meta (d + 1) 317 7 ([.ref 1, pm_unset, pm_unset, pm_unset], [.ref 8], H) Q) := (pm_bk_iff pc_ch_317 3 0 _).trans (Iff.rfl)
theorem ca_c2_s0 {d L : Nat} {I : Nat → Nat → Int32} {J : Nat → Nat → Int64} {Q : Int32 → Int64 → pm_H → Prop} : pm_wc pm_code pm_meta (d + 1) 111 [.ref 8] ((caT_9 L, caO_1, 9, 10), caI_1 I, caJ_1 J) Q ↔ pm_wc pm_code pm_meta d 25 [.ref 9] ((caT_10 L, caO_2, 10, 24), caI_2 I, caJ_2 J) (fun v w H => pm_wp pm_code pm_meta (d + 1) 111 12 ([.ref 8], [.ref 9, .ref 8], H) Q) := (pm_bk_iff pc_ch_111 6 0 _).trans (Iff.rfl)
theorem ca_c3_s0 {d L : Nat} {I : Nat → Nat → Int32} {J : Nat → Nat → Int64} {Q : Int32 → Int64 → pm_H → Prop} : pm_wc pm_code pm_meta (d + 1) 25 [.ref 9] ((caT_10 L, caO_2, 10, 24), caI_2 I, caJ_2 J) Q ↔ pm_wc pm_code pm_meta d 80 [.ref 10, .int 10, .int 10] ((caT_11 L, caO_3, 11, 28), caI_3 I, caJ_3 J) (fun v w H => pm_wp pm_code pm_meta (d + 1) 25 16 ([.ref 9, pm_unset, pm_unset], [.ref 10, .ref 9], H) Q) := (pm_bk_iff pc_ch_25 8 0 _).trans (Iff.rfl)
theorem ca_c4_s0 {d L : Nat} {I : Nat → Nat → Int32} {J : Nat → Nat → Int64} {Q : Int32 → Int64 → pm_H → Prop} : pm_wc pm_code pm_meta d 80 [.ref 10, .int 10, .int 10] ((caT_11 L, caO_3, 11, 28), caI_3 I, caJ_3 J) Q ↔ pm_wp pm_code pm_meta d 80 19 ([.ref 10, .int 10, .int 10], [.ref 10], ((caT_11 L, caO_3, 11, 28), caI_5 I, caJ_3 J)) Q := (pm_bk_iff pc_ch_80 11 0 _).trans (pc_le0 (v := 10) (by decide))
theorem ca_c4_s1 {d L : Nat} {I : Nat → Nat → Int32} {J : Nat → Nat → Int64} {Q : Int32 → Int64 → pm_H → Prop} : pm_wp pm_code pm_meta d 80 19 ([.ref 10, .int 10, .int 10], [.ref 10], ((caT_11 L, caO_3, 11, 28), caI_5 I, caJ_3 J)) Q ↔ pm_wp pm_code pm_meta d 80 23 ([.ref 10, .int 10, .int 10], [.ref 10], ((caT_11 L, caO_3, 11, 28), caI_5 I, caJ_3 J)) Q := (pm_bk_iff pc_ch_80 2 19 _).trans (pc_le0 (v := 10) (by decide))
theorem ca_c4_s2 {d L : Nat} {I : Nat → Nat → Int32} {J : Nat → Nat → Int64} {Q : Int32 → Int64 → pm_H → Prop} : pm_wp pm_code pm_meta d 80 23 ([.ref 10, .int 10, .int 10], [.ref 10], ((caT_11 L, caO_3, 11, 28), caI_5 I, caJ_3 J)) Q ↔ pm_wp pm_code pm_meta d 80 30 ([.ref 10, .int 10, .int 10], [.int (10 * 10), .ref 10], ((caT_11 L, caO_3, 11, 28), caI_5 I, caJ_3 J)) Q := (pm_bk_iff pc_ch_80 4 23 _).trans (Iff.rfl)
theorem ca_c4_s3 {d L : Nat} {I : Nat → Nat → Int32} {J : Nat → Nat → Int64} {Q : Int32 → Int64 → pm_H → Prop} : pm_wp pm_code pm_meta d 80 30 ([.ref 10, .int 10, .int 10], [.int (10 * 10), .ref 10], ((caT_11 L, caO_3, 11, 28), caI_5 I, caJ_3 J)) Q ↔ Q 0 0 ((caT_12 L, caO_5, 12, 128), caI_6 I, caJ_4 J) := (pm_bk_iff pc_ch_80 3 30 _).trans (pm_tt.trans (pm_tt))
theorem ca_c4 {d L : Nat} {I : Nat → Nat → Int32} {J : Nat → Nat → Int64} {Q : Int32 → Int64 → pm_H → Prop} : pm_wc pm_code pm_meta d 80 [.ref 10, .int 10, .int 10] ((caT_11 L, caO_3, 11, 28), caI_3 I, caJ_3 J) Q ↔ Q 0 0 ((caT_12 L, caO_5, 12, 128), caI_6 I, caJ_4 J) := by
  rw [ca_c4_s0, ca_c4_s1, ca_c4_s2, ca_c4_s3]
theorem ca_c3_s2 {d L : Nat} {I : Nat → Nat → Int32} {J : Nat → Nat → Int64} {Q : Int32 → Int64 → pm_H → Prop} : pm_wp pm_code pm_meta (d + 1) 25 16 ([.ref 9, pm_unset, pm_unset], [.ref 10, .ref 9], ((caT_12 L, caO_5, 12, 128), caI_6 I, caJ_4 J)) Q ↔ pm_wc pm_code pm_meta d 80 [.ref 12, .int 16, .int 2] ((caT_13 L, caO_7, 13, 132), caI_7 I, caJ_5 J) (fun v w H => pm_wp pm_code pm_meta (d + 1) 25 30 ([.ref 9, pm_unset, pm_unset], [.ref 12, .ref 9], H) Q) := (pm_bk_iff pc_ch_25 7 16 _).trans (Iff.rfl)
theorem ca_c5_s0 {d L : Nat} {I : Nat → Nat → Int32} {J : Nat → Nat → Int64} {Q : Int32 → Int64 → pm_H → Prop} : pm_wc pm_code pm_meta d 80 [.ref 12, .int 16, .int 2] ((caT_13 L, caO_7, 13, 132), caI_7 I, caJ_5 J) Q ↔ pm_wp pm_code pm_meta d 80 19 ([.ref 12, .int 16, .int 2], [.ref 12], ((caT_13 L, caO_7, 13, 132), caI_9 I, caJ_5 J)) Q := (pm_bk_iff pc_ch_80 11 0 _).trans (pc_le0 (v := 16) (by decide))
theorem ca_c5_s1 {d L : Nat} {I : Nat → Nat → Int32} {J : Nat → Nat → Int64} {Q : Int32 → Int64 → pm_H → Prop} : pm_wp pm_code pm_meta d 80 19 ([.ref 12, .int 16, .int 2], [.ref 12], ((caT_13 L, caO_7, 13, 132), caI_9 I, caJ_5 J)) Q ↔ pm_wp pm_code pm_meta d 80 23 ([.ref 12, .int 16, .int 2], [.ref 12], ((caT_13 L, caO_7, 13, 132), caI_9 I, caJ_5 J)) Q := (pm_bk_iff pc_ch_80 2 19 _).trans (pc_le0 (v := 2) (by decide))
theorem ca_c5_s2 {d L : Nat} {I : Nat → Nat → Int32} {J : Nat → Nat → Int64} {Q : Int32 → Int64 → pm_H → Prop} : pm_wp pm_code pm_meta d 80 23 ([.ref 12, .int 16, .int 2], [.ref 12], ((caT_13 L, caO_7, 13, 132), caI_9 I, caJ_5 J)) Q ↔ pm_wp pm_code pm_meta d 80 30 ([.ref 12, .int 16, .int 2], [.int (16 * 2), .ref 12], ((caT_13 L, caO_7, 13, 132), caI_9 I, caJ_5 J)) Q := (pm_bk_iff pc_ch_80 4 23 _).trans (Iff.rfl)
theorem ca_c5_s3 {d L : Nat} {I : Nat → Nat → Int32} {J : Nat → Nat → Int64} {Q : Int32 → Int64 → pm_H → Prop} : pm_wp pm_code pm_meta d 80 30 ([.ref 12, .int 16, .int 2], [.int (16 * 2), .ref 12], ((caT_13 L, caO_7, 13, 132), caI_9 I, caJ_5 J)) Q ↔ Q 0 0 ((caT_14 L, caO_9, 14, 164), caI_10 I, caJ_6 J) := (pm_bk_iff pc_ch_80 3 30 _).trans (pm_tt.trans (pm_tt))
theorem ca_c5 {d L : Nat} {I : Nat → Nat → Int32} {J : Nat → Nat → Int64} {Q : Int32 → Int64 → pm_H → Prop} : pm_wc pm_code pm_meta d 80 [.ref 12, .int 16, .int 2] ((caT_13 L, caO_7, 13, 132), caI_7 I, caJ_5 J) Q ↔ Q 0 0 ((caT_14 L, caO_9, 14, 164), caI_10 I, caJ_6 J) := by
  rw [ca_c5_s0, ca_c5_s1, ca_c5_s2, ca_c5_s3]
theorem ca_c3_s4 {d L : Nat} {I : Nat → Nat → Int32} {J : Nat → Nat → Int64} {Q : Int32 → Int64 → pm_H → Prop} : pm_wp pm_code pm_meta (d + 1) 25 30 ([.ref 9, pm_unset, pm_unset], [.ref 12, .ref 9], ((caT_14 L, caO_9, 14, 164), caI_10 I, caJ_6 J)) Q ↔ pm_wc pm_code pm_meta d 80 [.ref 14, .int 8, .int 10] ((caT_15 L, caO_11, 15, 168), caI_11 I, caJ_7 J) (fun v w H => pm_wp pm_code pm_meta (d + 1) 25 45 ([.ref 9, pm_unset, pm_unset], [.ref 14, .ref 9], H) Q) := (pm_bk_iff pc_ch_25 7 30 _).trans (Iff.rfl)
theorem ca_c6_s0 {d L : Nat} {I : Nat → Nat → Int32} {J : Nat → Nat → Int64} {Q : Int32 → Int64 → pm_H → Prop} : pm_wc pm_code pm_meta d 80 [.ref 14, .int 8, .int 10] ((caT_15 L, caO_11, 15, 168), caI_11 I, caJ_7 J) Q ↔ pm_wp pm_code pm_meta d 80 19 ([.ref 14, .int 8, .int 10], [.ref 14], ((caT_15 L, caO_11, 15, 168), caI_13 I, caJ_7 J)) Q := (pm_bk_iff pc_ch_80 11 0 _).trans (pc_le0 (v := 8) (by decide))
theorem ca_c6_s1 {d L : Nat} {I : Nat → Nat → Int32} {J : Nat → Nat → Int64} {Q : Int32 → Int64 → pm_H → Prop} : pm_wp pm_code pm_meta d 80 19 ([.ref 14, .int 8, .int 10], [.ref 14], ((caT_15 L, caO_11, 15, 168), caI_13 I, caJ_7 J)) Q ↔ pm_wp pm_code pm_meta d 80 23 ([.ref 14, .int 8, .int 10], [.ref 14], ((caT_15 L, caO_11, 15, 168), caI_13 I, caJ_7 J)) Q := (pm_bk_iff pc_ch_80 2 19 _).trans (pc_le0 (v := 10) (by decide))
theorem ca_c6_s2 {d L : Nat} {I : Nat → Nat → Int32} {J : Nat → Nat → Int64} {Q : Int32 → Int64 → pm_H → Prop} : pm_wp pm_code pm_meta d 80 23 ([.ref 14, .int 8, .int 10], [.ref 14], ((caT_15 L, caO_11, 15, 168), caI_13 I, caJ_7 J)) Q ↔ pm_wp pm_code pm_meta d 80 30 ([.ref 14, .int 8, .int 10], [.int (8 * 10), .ref 14], ((caT_15 L, caO_11, 15, 168), caI_13 I, caJ_7 J)) Q := (pm_bk_iff pc_ch_80 4 23 _).trans (Iff.rfl)
theorem ca_c6_s3 {d L : Nat} {I : Nat → Nat → Int32} {J : Nat → Nat → Int64} {Q : Int32 → Int64 → pm_H → Prop} : pm_wp pm_code pm_meta d 80 30 ([.ref 14, .int 8, .int 10], [.int (8 * 10), .ref 14], ((caT_15 L, caO_11, 15, 168), caI_13 I, caJ_7 J)) Q ↔ Q 0 0 ((caT_16 L, caO_13, 16, 248), caI_14 I, caJ_8 J) := (pm_bk_iff pc_ch_80 3 30 _).trans (pm_tt.trans (pm_tt))
theorem ca_c6 {d L : Nat} {I : Nat → Nat → Int32} {J : Nat → Nat → Int64} {Q : Int32 → Int64 → pm_H → Prop} : pm_wc pm_code pm_meta d 80 [.ref 14, .int 8, .int 10] ((caT_15 L, caO_11, 15, 168), caI_11 I, caJ_7 J) Q ↔ Q 0 0 ((caT_16 L, caO_13, 16, 248), caI_14 I, caJ_8 J) := by
  rw [ca_c6_s0, ca_c6_s1, ca_c6_s2, ca_c6_s3]
theorem ca_c3_s6 {d L : Nat} {I : Nat → Nat → Int32} {J : Nat → Nat → Int64} {Q : Int32 → Int64 → pm_H → Prop} : pm_wp pm_code pm_meta (d + 1) 25 45 ([.ref 9, pm_unset, pm_unset], [.ref 14, .ref 9], ((caT_16 L, caO_13, 16, 248), caI_14 I, caJ_8 J)) Q ↔ pm_wc pm_code pm_meta d 80 [.ref 16, .int 24, .int 5] ((caT_17 L, caO_15, 17, 252), caI_15 I, caJ_9 J) (fun v w H => pm_wp pm_code pm_meta (d + 1) 25 59 ([.ref 9, pm_unset, pm_unset], [.ref 16, .ref 9], H) Q) := (pm_bk_iff pc_ch_25 7 45 _).trans (Iff.rfl)
theorem ca_c7_s0 {d L : Nat} {I : Nat → Nat → Int32} {J : Nat → Nat → Int64} {Q : Int32 → Int64 → pm_H → Prop} : pm_wc pm_code pm_meta d 80 [.ref 16, .int 24, .int 5] ((caT_17 L, caO_15, 17, 252), caI_15 I, caJ_9 J) Q ↔ pm_wp pm_code pm_meta d 80 19 ([.ref 16, .int 24, .int 5], [.ref 16], ((caT_17 L, caO_15, 17, 252), caI_17 I, caJ_9 J)) Q := (pm_bk_iff pc_ch_80 11 0 _).trans (pc_le0 (v := 24) (by decide))
theorem ca_c7_s1 {d L : Nat} {I : Nat → Nat → Int32} {J : Nat → Nat → Int64} {Q : Int32 → Int64 → pm_H → Prop} : pm_wp pm_code pm_meta d 80 19 ([.ref 16, .int 24, .int 5], [.ref 16], ((caT_17 L, caO_15, 17, 252), caI_17 I, caJ_9 J)) Q ↔ pm_wp pm_code pm_meta d 80 23 ([.ref 16, .int 24, .int 5], [.ref 16], ((caT_17 L, caO_15, 17, 252), caI_17 I, caJ_9 J)) Q := (pm_bk_iff pc_ch_80 2 19 _).trans (pc_le0 (v := 5) (by decide))
theorem ca_c7_s2 {d L : Nat} {I : Nat → Nat → Int32} {J : Nat → Nat → Int64} {Q : Int32 → Int64 → pm_H → Prop} : pm_wp pm_code pm_meta d 80 23 ([.ref 16, .int 24, .int 5], [.ref 16], ((caT_17 L, caO_15, 17, 252), caI_17 I, caJ_9 J)) Q ↔ pm_wp pm_code pm_meta d 80 30 ([.ref 16, .int 24, .int 5], [.int (24 * 5), .ref 16], ((caT_17 L, caO_15, 17, 252), caI_17 I, caJ_9 J)) Q := (pm_bk_iff pc_ch_80 4 23 _).trans (Iff.rfl)
theorem ca_c7_s3 {d L : Nat} {I : Nat → Nat → Int32} {J : Nat → Nat → Int64} {Q : Int32 → Int64 → pm_H → Prop} : pm_wp pm_code pm_meta d 80 30 ([.ref 16, .int 24, .int 5], [.int (24 * 5), .ref 16], ((caT_17 L, caO_15, 17, 252), caI_17 I, caJ_9 J)) Q ↔ Q 0 0 ((caT_18 L, caO_17, 18, 372), caI_18 I, caJ_10 J) := (pm_bk_iff pc_ch_80 3 30 _).trans (pm_tt.trans (pm_tt))
theorem ca_c7 {d L : Nat} {I : Nat → Nat → Int32} {J : Nat → Nat → Int64} {Q : Int32 → Int64 → pm_H → Prop} : pm_wc pm_code pm_meta d 80 [.ref 16, .int 24, .int 5] ((caT_17 L, caO_15, 17, 252), caI_15 I, caJ_9 J) Q ↔ Q 0 0 ((caT_18 L, caO_17, 18, 372), caI_18 I, caJ_10 J) := by
  rw [ca_c7_s0, ca_c7_s1, ca_c7_s2, ca_c7_s3]
theorem ca_c3_s8 {d L : Nat} {I : Nat → Nat → Int32} {J : Nat → Nat → Int64} {Q : Int32 → Int64 → pm_H → Prop} : pm_wp pm_code pm_meta (d + 1) 25 59 ([.ref 9, pm_unset, pm_unset], [.ref 16, .ref 9], ((caT_18 L, caO_17, 18, 372), caI_18 I, caJ_10 J)) Q ↔ pm_wc pm_code pm_meta d 80 [.ref 18, .int 24, .int 16] ((caT_19 L, caO_19, 19, 376), caI_19 I, caJ_11 J) (fun v w H => pm_wp pm_code pm_meta (d + 1) 25 74 ([.ref 9, pm_unset, pm_unset], [.ref 18, .ref 9], H) Q) := (pm_bk_iff pc_ch_25 7 59 _).trans (Iff.rfl)
theorem ca_c8_s0 {d L : Nat} {I : Nat → Nat → Int32} {J : Nat → Nat → Int64} {Q : Int32 → Int64 → pm_H → Prop} : pm_wc pm_code pm_meta d 80 [.ref 18, .int 24, .int 16] ((caT_19 L, caO_19, 19, 376), caI_19 I, caJ_11 J) Q ↔ pm_wp pm_code pm_meta d 80 19 ([.ref 18, .int 24, .int 16], [.ref 18], ((caT_19 L, caO_19, 19, 376), caI_21 I, caJ_11 J)) Q := (pm_bk_iff pc_ch_80 11 0 _).trans (pc_le0 (v := 24) (by decide))
theorem ca_c8_s1 {d L : Nat} {I : Nat → Nat → Int32} {J : Nat → Nat → Int64} {Q : Int32 → Int64 → pm_H → Prop} : pm_wp pm_code pm_meta d 80 19 ([.ref 18, .int 24, .int 16], [.ref 18], ((caT_19 L, caO_19, 19, 376), caI_21 I, caJ_11 J)) Q ↔ pm_wp pm_code pm_meta d 80 23 ([.ref 18, .int 24, .int 16], [.ref 18], ((caT_19 L, caO_19, 19, 376), caI_21 I, caJ_11 J)) Q := (pm_bk_iff pc_ch_80 2 19 _).trans (pc_le0 (v := 16) (by decide))
theorem ca_c8_s2 {d L : Nat} {I : Nat → Nat → Int32} {J : Nat → Nat → Int64} {Q : Int32 → Int64 → pm_H → Prop} : pm_wp pm_code pm_meta d 80 23 ([.ref 18, .int 24, .int 16], [.ref 18], ((caT_19 L, caO_19, 19, 376), caI_21 I, caJ_11 J)) Q ↔ pm_wp pm_code pm_meta d 80 30 ([.ref 18, .int 24, .int 16], [.int (24 * 16), .ref 18], ((caT_19 L, caO_19, 19, 376), caI_21 I, caJ_11 J)) Q := (pm_bk_iff pc_ch_80 4 23 _).trans (Iff.rfl)
theorem ca_c8_s3 {d L : Nat} {I : Nat → Nat → Int32} {J : Nat → Nat → Int64} {Q : Int32 → Int64 → pm_H → Prop} : pm_wp pm_code pm_meta d 80 30 ([.ref 18, .int 24, .int 16], [.int (24 * 16), .ref 18], ((caT_19 L, caO_19, 19, 376), caI_21 I, caJ_11 J)) Q ↔ Q 0 0 ((caT_20 L, caO_21, 20, 760), caI_22 I, caJ_12 J) := (pm_bk_iff pc_ch_80 3 30 _).trans (pm_tt.trans (pm_tt))
theorem ca_c8 {d L : Nat} {I : Nat → Nat → Int32} {J : Nat → Nat → Int64} {Q : Int32 → Int64 → pm_H → Prop} : pm_wc pm_code pm_meta d 80 [.ref 18, .int 24, .int 16] ((caT_19 L, caO_19, 19, 376), caI_19 I, caJ_11 J) Q ↔ Q 0 0 ((caT_20 L, caO_21, 20, 760), caI_22 I, caJ_12 J) := by
  rw [ca_c8_s0, ca_c8_s1, ca_c8_s2, ca_c8_s3]
theorem ca_c3_s10 {d L : Nat} {I : Nat → Nat → Int32} {J : Nat → Nat → Int64} {Q : Int32 → Int64 → pm_H → Prop} : pm_wp pm_code pm_meta (d + 1) 25 74 ([.ref 9, pm_unset, pm_unset], [.ref 18, .ref 9], ((caT_20 L, caO_21, 20, 760), caI_22 I, caJ_12 J)) Q ↔ pm_wc pm_code pm_meta d 80 [.ref 20, .int 12, .int 5] ((caT_21 L, caO_23, 21, 764), caI_23 I, caJ_13 J) (fun v w H => pm_wp pm_code pm_meta (d + 1) 25 88 ([.ref 9, pm_unset, pm_unset], [.ref 20, .ref 9], H) Q) := (pm_bk_iff pc_ch_25 7 74 _).trans (Iff.rfl)
theorem ca_c9_s0 {d L : Nat} {I : Nat → Nat → Int32} {J : Nat → Nat → Int64} {Q : Int32 → Int64 → pm_H → Prop} : pm_wc pm_code pm_meta d 80 [.ref 20, .int 12, .int 5] ((caT_21 L, caO_23, 21, 764), caI_23 I, caJ_13 J) Q ↔ pm_wp pm_code pm_meta d 80 19 ([.ref 20, .int 12, .int 5], [.ref 20], ((caT_21 L, caO_23, 21, 764), caI_25 I, caJ_13 J)) Q := (pm_bk_iff pc_ch_80 11 0 _).trans (pc_le0 (v := 12) (by decide))
theorem ca_c9_s1 {d L : Nat} {I : Nat → Nat → Int32} {J : Nat → Nat → Int64} {Q : Int32 → Int64 → pm_H → Prop} : pm_wp pm_code pm_meta d 80 19 ([.ref 20, .int 12, .int 5], [.ref 20], ((caT_21 L, caO_23, 21, 764), caI_25 I, caJ_13 J)) Q ↔ pm_wp pm_code pm_meta d 80 23 ([.ref 20, .int 12, .int 5], [.ref 20], ((caT_21 L, caO_23, 21, 764), caI_25 I, caJ_13 J)) Q := (pm_bk_iff pc_ch_80 2 19 _).trans (pc_le0 (v := 5) (by decide))
theorem ca_c9_s2 {d L : Nat} {I : Nat → Nat → Int32} {J : Nat → Nat → Int64} {Q : Int32 → Int64 → pm_H → Prop} : pm_wp pm_code pm_meta d 80 23 ([.ref 20, .int 12, .int 5], [.ref 20], ((caT_21 L, caO_23, 21, 764), caI_25 I, caJ_13 J)) Q ↔ pm_wp pm_code pm_meta d 80 30 ([.ref 20, .int 12, .int 5], [.int (12 * 5), .ref 20], ((caT_21 L, caO_23, 21, 764), caI_25 I, caJ_13 J)) Q := (pm_bk_iff pc_ch_80 4 23 _).trans (Iff.rfl)
theorem ca_c9_s3 {d L : Nat} {I : Nat → Nat → Int32} {J : Nat → Nat → Int64} {Q : Int32 → Int64 → pm_H → Prop} : pm_wp pm_code pm_meta d 80 30 ([.ref 20, .int 12, .int 5], [.int (12 * 5), .ref 20], ((caT_21 L, caO_23, 21, 764), caI_25 I, caJ_13 J)) Q ↔ Q 0 0 ((caT_22 L, caO_25, 22, 824), caI_26 I, caJ_14 J) := (pm_bk_iff pc_ch_80 3 30 _).trans (pm_tt.trans (pm_tt))
theorem ca_c9 {d L : Nat} {I : Nat → Nat → Int32} {J : Nat → Nat → Int64} {Q : Int32 → Int64 → pm_H → Prop} : pm_wc pm_code pm_meta d 80 [.ref 20, .int 12, .int 5] ((caT_21 L, caO_23, 21, 764), caI_23 I, caJ_13 J) Q ↔ Q 0 0 ((caT_22 L, caO_25, 22, 824), caI_26 I, caJ_14 J) := by
  rw [ca_c9_s0, ca_c9_s1, ca_c9_s2, ca_c9_s3]
theorem ca_c3_s12 {d L : Nat} {I : Nat → Nat → Int32} {J : Nat → Nat → Int64} {Q : Int32 → Int64 → pm_H → Prop} : pm_wp pm_code pm_meta (d + 1) 25 88 ([.ref 9, pm_unset, pm_unset], [.ref 20, .ref 9], ((caT_22 L, caO_25, 22, 824), caI_26 I, caJ_14 J)) Q ↔ pm_wc pm_code pm_meta d 80 [.ref 22, .int 120, .int 5] ((caT_23 L, caO_27, 23, 828), caI_27 I, caJ_15 J) (fun v w H => pm_wp pm_code pm_meta (d + 1) 25 102 ([.ref 9, pm_unset, pm_unset], [.ref 22, .ref 9], H) Q) := (pm_bk_iff pc_ch_25 7 88 _).trans (Iff.rfl)
theorem ca_c10_s0 {d L : Nat} {I : Nat → Nat → Int32} {J : Nat → Nat → Int64} {Q : Int32 → Int64 → pm_H → Prop} : pm_wc pm_code pm_meta d 80 [.ref 22, .int 120, .int 5] ((caT_23 L, caO_27, 23, 828), caI_27 I, caJ_15 J) Q ↔ pm_wp pm_code pm_meta d 80 19 ([.ref 22, .int 120, .int 5], [.ref 22], ((caT_23 L, caO_27, 23, 828), caI_29 I, caJ_15 J)) Q := (pm_bk_iff pc_ch_80 11 0 _).trans (pc_le0 (v := 120) (by decide))
theorem ca_c10_s1 {d L : Nat} {I : Nat → Nat → Int32} {J : Nat → Nat → Int64} {Q : Int32 → Int64 → pm_H → Prop} : pm_wp pm_code pm_meta d 80 19 ([.ref 22, .int 120, .int 5], [.ref 22], ((caT_23 L, caO_27, 23, 828), caI_29 I, caJ_15 J)) Q ↔ pm_wp pm_code pm_meta d 80 23 ([.ref 22, .int 120, .int 5], [.ref 22], ((caT_23 L, caO_27, 23, 828), caI_29 I, caJ_15 J)) Q := (pm_bk_iff pc_ch_80 2 19 _).trans (pc_le0 (v := 5) (by decide))
theorem ca_c10_s2 {d L : Nat} {I : Nat → Nat → Int32} {J : Nat → Nat → Int64} {Q : Int32 → Int64 → pm_H → Prop} : pm_wp pm_code pm_meta d 80 23 ([.ref 22, .int 120, .int 5], [.ref 22], ((caT_23 L, caO_27, 23, 828), caI_29 I, caJ_15 J)) Q ↔ pm_wp pm_code pm_meta d 80 30 ([.ref 22, .int 120, .int 5], [.int (120 * 5), .ref 22], ((caT_23 L, caO_27, 23, 828), caI_29 I, caJ_15 J)) Q := (pm_bk_iff pc_ch_80 4 23 _).trans (Iff.rfl)
theorem ca_c10_s3 {d L : Nat} {I : Nat → Nat → Int32} {J : Nat → Nat → Int64} {Q : Int32 → Int64 → pm_H → Prop} : pm_wp pm_code pm_meta d 80 30 ([.ref 22, .int 120, .int 5], [.int (120 * 5), .ref 22], ((caT_23 L, caO_27, 23, 828), caI_29 I, caJ_15 J)) Q ↔ Q 0 0 ((caT_24 L, caO_29, 24, 1428), caI_30 I, caJ_16 J) := (pm_bk_iff pc_ch_80 3 30 _).trans (pm_tt.trans (pm_tt))
theorem ca_c10 {d L : Nat} {I : Nat → Nat → Int32} {J : Nat → Nat → Int64} {Q : Int32 → Int64 → pm_H → Prop} : pm_wc pm_code pm_meta d 80 [.ref 22, .int 120, .int 5] ((caT_23 L, caO_27, 23, 828), caI_27 I, caJ_15 J) Q ↔ Q 0 0 ((caT_24 L, caO_29, 24, 1428), caI_30 I, caJ_16 J) := by
  rw [ca_c10_s0, ca_c10_s1, ca_c10_s2, ca_c10_s3]
theorem ca_c3_s14 {d L : Nat} {I : Nat → Nat → Int32} {J : Nat → Nat → Int64} {Q : Int32 → Int64 → pm_H → Prop} : pm_wp pm_code pm_meta (d + 1) 25 102 ([.ref 9, pm_unset, pm_unset], [.ref 22, .ref 9], ((caT_24 L, caO_29, 24, 1428), caI_30 I, caJ_16 J)) Q ↔ pm_wc pm_code pm_meta d 80 [.ref 24, .int 1200, .int 2] ((caT_25 L, caO_31, 25, 1432), caI_31 I, caJ_17 J) (fun v w H => pm_wp pm_code pm_meta (d + 1) 25 117 ([.ref 9, pm_unset, pm_unset], [.ref 24, .ref 9], H) Q) := (pm_bk_iff pc_ch_25 7 102 _).trans (Iff.rfl)
theorem ca_c11_s0 {d L : Nat} {I : Nat → Nat → Int32} {J : Nat → Nat → Int64} {Q : Int32 → Int64 → pm_H → Prop} : pm_wc pm_code pm_meta d 80 [.ref 24, .int 1200, .int 2] ((caT_25 L, caO_31, 25, 1432), caI_31 I, caJ_17 J) Q ↔ pm_wp pm_code pm_meta d 80 19 ([.ref 24, .int 1200, .int 2], [.ref 24], ((caT_25 L, caO_31, 25, 1432), caI_33 I, caJ_17 J)) Q := (pm_bk_iff pc_ch_80 11 0 _).trans (pc_le0 (v := 1200) (by decide))
theorem ca_c11_s1 {d L : Nat} {I : Nat → Nat → Int32} {J : Nat → Nat → Int64} {Q : Int32 → Int64 → pm_H → Prop} : pm_wp pm_code pm_meta d 80 19 ([.ref 24, .int 1200, .int 2], [.ref 24], ((caT_25 L, caO_31, 25, 1432), caI_33 I, caJ_17 J)) Q ↔ pm_wp pm_code pm_meta d 80 23 ([.ref 24, .int 1200, .int 2], [.ref 24], ((caT_25 L, caO_31, 25, 1432), caI_33 I, caJ_17 J)) Q := (pm_bk_iff pc_ch_80 2 19 _).trans (pc_le0 (v := 2) (by decide))
theorem ca_c11_s2 {d L : Nat} {I : Nat → Nat → Int32} {J : Nat → Nat → Int64} {Q : Int32 → Int64 → pm_H → Prop} : pm_wp pm_code pm_meta d 80 23 ([.ref 24, .int 1200, .int 2], [.ref 24], ((caT_25 L, caO_31, 25, 1432), caI_33 I, caJ_17 J)) Q ↔ pm_wp pm_code pm_meta d 80 30 ([.ref 24, .int 1200, .int 2], [.int (1200 * 2), .ref 24], ((caT_25 L, caO_31, 25, 1432), caI_33 I, caJ_17 J)) Q := (pm_bk_iff pc_ch_80 4 23 _).trans (Iff.rfl)
theorem ca_c11_s3 {d L : Nat} {I : Nat → Nat → Int32} {J : Nat → Nat → Int64} {Q : Int32 → Int64 → pm_H → Prop} : pm_wp pm_code pm_meta d 80 30 ([.ref 24, .int 1200, .int 2], [.int (1200 * 2), .ref 24], ((caT_25 L, caO_31, 25, 1432), caI_33 I, caJ_17 J)) Q ↔ Q 0 0 ((caT_26 L, caO_33, 26, 3832), caI_34 I, caJ_18 J) := (pm_bk_iff pc_ch_80 3 30 _).trans (pm_tt.trans (pm_tt))
theorem ca_c11 {d L : Nat} {I : Nat → Nat → Int32} {J : Nat → Nat → Int64} {Q : Int32 → Int64 → pm_H → Prop} : pm_wc pm_code pm_meta d 80 [.ref 24, .int 1200, .int 2] ((caT_25 L, caO_31, 25, 1432), caI_31 I, caJ_17 J) Q ↔ Q 0 0 ((caT_26 L, caO_33, 26, 3832), caI_34 I, caJ_18 J) := by
  rw [ca_c11_s0, ca_c11_s1, ca_c11_s2, ca_c11_s3]
theorem ca_c3_s16 {d L : Nat} {I : Nat → Nat → Int32} {J : Nat → Nat → Int64} {Q : Int32 → Int64 → pm_H → Prop} : pm_wp pm_code pm_meta (d + 1) 25 117 ([.ref 9, pm_unset, pm_unset], [.ref 24, .ref 9], ((caT_26 L, caO_33, 26, 3832), caI_34 I, caJ_18 J)) Q ↔ pm_wc pm_code pm_meta d 80 [.ref 26, .int 4, .int 1] ((caT_27 L, caO_35, 27, 3836), caI_35 I, caJ_19 J) (fun v w H => pm_wp pm_code pm_meta (d + 1) 25 130 ([.ref 9, pm_unset, pm_unset], [.ref 26, .ref 9], H) Q) := (pm_bk_iff pc_ch_25 7 117 _).trans (Iff.rfl)
theorem ca_c12_s0 {d L : Nat} {I : Nat → Nat → Int32} {J : Nat → Nat → Int64} {Q : Int32 → Int64 → pm_H → Prop} : pm_wc pm_code pm_meta d 80 [.ref 26, .int 4, .int 1] ((caT_27 L, caO_35, 27, 3836), caI_35 I, caJ_19 J) Q ↔ pm_wp pm_code pm_meta d 80 19 ([.ref 26, .int 4, .int 1], [.ref 26], ((caT_27 L, caO_35, 27, 3836), caI_37 I, caJ_19 J)) Q := (pm_bk_iff pc_ch_80 11 0 _).trans (pc_le0 (v := 4) (by decide))
theorem ca_c12_s1 {d L : Nat} {I : Nat → Nat → Int32} {J : Nat → Nat → Int64} {Q : Int32 → Int64 → pm_H → Prop} : pm_wp pm_code pm_meta d 80 19 ([.ref 26, .int 4, .int 1], [.ref 26], ((caT_27 L, caO_35, 27, 3836), caI_37 I, caJ_19 J)) Q ↔ pm_wp pm_code pm_meta d 80 23 ([.ref 26, .int 4, .int 1], [.ref 26], ((caT_27 L, caO_35, 27, 3836), caI_37 I, caJ_19 J)) Q := (pm_bk_iff pc_ch_80 2 19 _).trans (pc_le0 (v := 1) (by decide))
theorem ca_c12_s2 {d L : Nat} {I : Nat → Nat → Int32} {J : Nat → Nat → Int64} {Q : Int32 → Int64 → pm_H → Prop} : pm_wp pm_code pm_meta d 80 23 ([.ref 26, .int 4, .int 1], [.ref 26], ((caT_27 L, caO_35, 27, 3836), caI_37 I, caJ_19 J)) Q ↔ pm_wp pm_code pm_meta d 80 30 ([.ref 26, .int 4, .int 1], [.int (4 * 1), .ref 26], ((caT_27 L, caO_35, 27, 3836), caI_37 I, caJ_19 J)) Q := (pm_bk_iff pc_ch_80 4 23 _).trans (Iff.rfl)
theorem ca_c12_s3 {d L : Nat} {I : Nat → Nat → Int32} {J : Nat → Nat → Int64} {Q : Int32 → Int64 → pm_H → Prop} : pm_wp pm_code pm_meta d 80 30 ([.ref 26, .int 4, .int 1], [.int (4 * 1), .ref 26], ((caT_27 L, caO_35, 27, 3836), caI_37 I, caJ_19 J)) Q ↔ Q 0 0 ((caT_28 L, caO_37, 28, 3840), caI_38 I, caJ_20 J) := (pm_bk_iff pc_ch_80 3 30 _).trans (pm_tt.trans (pm_tt))
theorem ca_c12 {d L : Nat} {I : Nat → Nat → Int32} {J : Nat → Nat → Int64} {Q : Int32 → Int64 → pm_H → Prop} : pm_wc pm_code pm_meta d 80 [.ref 26, .int 4, .int 1] ((caT_27 L, caO_35, 27, 3836), caI_35 I, caJ_19 J) Q ↔ Q 0 0 ((caT_28 L, caO_37, 28, 3840), caI_38 I, caJ_20 J) := by
  rw [ca_c12_s0, ca_c12_s1, ca_c12_s2, ca_c12_s3]
theorem ca_c3_s18 {d L : Nat} {I : Nat → Nat → Int32} {J : Nat → Nat → Int64} {Q : Int32 → Int64 → pm_H → Prop} : pm_wp pm_code pm_meta (d + 1) 25 130 ([.ref 9, pm_unset, pm_unset], [.ref 26, .ref 9], ((caT_28 L, caO_37, 28, 3840), caI_38 I, caJ_20 J)) Q ↔ pm_wc pm_code pm_meta d 80 [.ref 28, .int 24, .int 3] ((caT_29 L, caO_39, 29, 3844), caI_39 I, caJ_21 J) (fun v w H => pm_wp pm_code pm_meta (d + 1) 25 144 ([.ref 9, pm_unset, pm_unset], [.ref 28, .ref 9], H) Q) := (pm_bk_iff pc_ch_25 7 130 _).trans (Iff.rfl)
theorem ca_c13_s0 {d L : Nat} {I : Nat → Nat → Int32} {J : Nat → Nat → Int64} {Q : Int32 → Int64 → pm_H → Prop} : pm_wc pm_code pm_meta d 80 [.ref 28, .int 24, .int 3] ((caT_29 L, caO_39, 29, 3844), caI_39 I, caJ_21 J) Q ↔ pm_wp pm_code pm_meta d 80 19 ([.ref 28, .int 24, .int 3], [.ref 28], ((caT_29 L, caO_39, 29, 3844), caI_41 I, caJ_21 J)) Q := (pm_bk_iff pc_ch_80 11 0 _).trans (pc_le0 (v := 24) (by decide))
theorem ca_c13_s1 {d L : Nat} {I : Nat → Nat → Int32} {J : Nat → Nat → Int64} {Q : Int32 → Int64 → pm_H → Prop} : pm_wp pm_code pm_meta d 80 19 ([.ref 28, .int 24, .int 3], [.ref 28], ((caT_29 L, caO_39, 29, 3844), caI_41 I, caJ_21 J)) Q ↔ pm_wp pm_code pm_meta d 80 23 ([.ref 28, .int 24, .int 3], [.ref 28], ((caT_29 L, caO_39, 29, 3844), caI_41 I, caJ_21 J)) Q := (pm_bk_iff pc_ch_80 2 19 _).trans (pc_le0 (v := 3) (by decide))
theorem ca_c13_s2 {d L : Nat} {I : Nat → Nat → Int32} {J : Nat → Nat → Int64} {Q : Int32 → Int64 → pm_H → Prop} : pm_wp pm_code pm_meta d 80 23 ([.ref 28, .int 24, .int 3], [.ref 28], ((caT_29 L, caO_39, 29, 3844), caI_41 I, caJ_21 J)) Q ↔ pm_wp pm_code pm_meta d 80 30 ([.ref 28, .int 24, .int 3], [.int (24 * 3), .ref 28], ((caT_29 L, caO_39, 29, 3844), caI_41 I, caJ_21 J)) Q := (pm_bk_iff pc_ch_80 4 23 _).trans (Iff.rfl)
theorem ca_c13_s3 {d L : Nat} {I : Nat → Nat → Int32} {J : Nat → Nat → Int64} {Q : Int32 → Int64 → pm_H → Prop} : pm_wp pm_code pm_meta d 80 30 ([.ref 28, .int 24, .int 3], [.int (24 * 3), .ref 28], ((caT_29 L, caO_39, 29, 3844), caI_41 I, caJ_21 J)) Q ↔ Q 0 0 ((caT_30 L, caO_41, 30, 3916), caI_42 I, caJ_22 J) := (pm_bk_iff pc_ch_80 3 30 _).trans (pm_tt.trans (pm_tt))
theorem ca_c13 {d L : Nat} {I : Nat → Nat → Int32} {J : Nat → Nat → Int64} {Q : Int32 → Int64 → pm_H → Prop} : pm_wc pm_code pm_meta d 80 [.ref 28, .int 24, .int 3] ((caT_29 L, caO_39, 29, 3844), caI_39 I, caJ_21 J) Q ↔ Q 0 0 ((caT_30 L, caO_41, 30, 3916), caI_42 I, caJ_22 J) := by
  rw [ca_c13_s0, ca_c13_s1, ca_c13_s2, ca_c13_s3]
theorem ca_c3_s20 {d L : Nat} {I : Nat → Nat → Int32} {J : Nat → Nat → Int64} {Q : Int32 → Int64 → pm_H → Prop} : pm_wp pm_code pm_meta (d + 1) 25 144 ([.ref 9, pm_unset, pm_unset], [.ref 28, .ref 9], ((caT_30 L, caO_41, 30, 3916), caI_42 I, caJ_22 J)) Q ↔ pm_wc pm_code pm_meta d 80 [.ref 30, .int 7, .int 1] ((caT_31 L, caO_43, 31, 3920), caI_43 I, caJ_23 J) (fun v w H => pm_wp pm_code pm_meta (d + 1) 25 158 ([.ref 9, pm_unset, pm_unset], [.ref 30, .ref 9], H) Q) := (pm_bk_iff pc_ch_25 7 144 _).trans (Iff.rfl)
theorem ca_c14_s0 {d L : Nat} {I : Nat → Nat → Int32} {J : Nat → Nat → Int64} {Q : Int32 → Int64 → pm_H → Prop} : pm_wc pm_code pm_meta d 80 [.ref 30, .int 7, .int 1] ((caT_31 L, caO_43, 31, 3920), caI_43 I, caJ_23 J) Q ↔ pm_wp pm_code pm_meta d 80 19 ([.ref 30, .int 7, .int 1], [.ref 30], ((caT_31 L, caO_43, 31, 3920), caI_45 I, caJ_23 J)) Q := (pm_bk_iff pc_ch_80 11 0 _).trans (pc_le0 (v := 7) (by decide))
theorem ca_c14_s1 {d L : Nat} {I : Nat → Nat → Int32} {J : Nat → Nat → Int64} {Q : Int32 → Int64 → pm_H → Prop} : pm_wp pm_code pm_meta d 80 19 ([.ref 30, .int 7, .int 1], [.ref 30], ((caT_31 L, caO_43, 31, 3920), caI_45 I, caJ_23 J)) Q ↔ pm_wp pm_code pm_meta d 80 23 ([.ref 30, .int 7, .int 1], [.ref 30], ((caT_31 L, caO_43, 31, 3920), caI_45 I, caJ_23 J)) Q := (pm_bk_iff pc_ch_80 2 19 _).trans (pc_le0 (v := 1) (by decide))
theorem ca_c14_s2 {d L : Nat} {I : Nat → Nat → Int32} {J : Nat → Nat → Int64} {Q : Int32 → Int64 → pm_H → Prop} : pm_wp pm_code pm_meta d 80 23 ([.ref 30, .int 7, .int 1], [.ref 30], ((caT_31 L, caO_43, 31, 3920), caI_45 I, caJ_23 J)) Q ↔ pm_wp pm_code pm_meta d 80 30 ([.ref 30, .int 7, .int 1], [.int (7 * 1), .ref 30], ((caT_31 L, caO_43, 31, 3920), caI_45 I, caJ_23 J)) Q := (pm_bk_iff pc_ch_80 4 23 _).trans (Iff.rfl)
theorem ca_c14_s3 {d L : Nat} {I : Nat → Nat → Int32} {J : Nat → Nat → Int64} {Q : Int32 → Int64 → pm_H → Prop} : pm_wp pm_code pm_meta d 80 30 ([.ref 30, .int 7, .int 1], [.int (7 * 1), .ref 30], ((caT_31 L, caO_43, 31, 3920), caI_45 I, caJ_23 J)) Q ↔ Q 0 0 ((caT_32 L, caO_45, 32, 3927), caI_46 I, caJ_24 J) := (pm_bk_iff pc_ch_80 3 30 _).trans (pm_tt.trans (pm_tt))
theorem ca_c14 {d L : Nat} {I : Nat → Nat → Int32} {J : Nat → Nat → Int64} {Q : Int32 → Int64 → pm_H → Prop} : pm_wc pm_code pm_meta d 80 [.ref 30, .int 7, .int 1] ((caT_31 L, caO_43, 31, 3920), caI_43 I, caJ_23 J) Q ↔ Q 0 0 ((caT_32 L, caO_45, 32, 3927), caI_46 I, caJ_24 J) := by
  rw [ca_c14_s0, ca_c14_s1, ca_c14_s2, ca_c14_s3]
theorem ca_c3_s22 {d L : Nat} {I : Nat → Nat → Int32} {J : Nat → Nat → Int64} {Q : Int32 → Int64 → pm_H → Prop} : pm_wp pm_code pm_meta (d + 1) 25 158 ([.ref 9, pm_unset, pm_unset], [.ref 30, .ref 9], ((caT_32 L, caO_45, 32, 3927), caI_46 I, caJ_24 J)) Q ↔ pm_wc pm_code pm_meta d 80 [.ref 32, .int 3, .int 1] ((caT_33 L, caO_47, 33, 3931), caI_47 I, caJ_25 J) (fun v w H => pm_wp pm_code pm_meta (d + 1) 25 171 ([.ref 9, pm_unset, pm_unset], [.ref 32, .ref 9], H) Q) := (pm_bk_iff pc_ch_25 7 158 _).trans (Iff.rfl)
theorem ca_c15_s0 {d L : Nat} {I : Nat → Nat → Int32} {J : Nat → Nat → Int64} {Q : Int32 → Int64 → pm_H → Prop} : pm_wc pm_code pm_meta d 80 [.ref 32, .int 3, .int 1] ((caT_33 L, caO_47, 33, 3931), caI_47 I, caJ_25 J) Q ↔ pm_wp pm_code pm_meta d 80 19 ([.ref 32, .int 3, .int 1], [.ref 32], ((caT_33 L, caO_47, 33, 3931), caI_49 I, caJ_25 J)) Q := (pm_bk_iff pc_ch_80 11 0 _).trans (pc_le0 (v := 3) (by decide))
theorem ca_c15_s1 {d L : Nat} {I : Nat → Nat → Int32} {J : Nat → Nat → Int64} {Q : Int32 → Int64 → pm_H → Prop} : pm_wp pm_code pm_meta d 80 19 ([.ref 32, .int 3, .int 1], [.ref 32], ((caT_33 L, caO_47, 33, 3931), caI_49 I, caJ_25 J)) Q ↔ pm_wp pm_code pm_meta d 80 23 ([.ref 32, .int 3, .int 1], [.ref 32], ((caT_33 L, caO_47, 33, 3931), caI_49 I, caJ_25 J)) Q := (pm_bk_iff pc_ch_80 2 19 _).trans (pc_le0 (v := 1) (by decide))
theorem ca_c15_s2 {d L : Nat} {I : Nat → Nat → Int32} {J : Nat → Nat → Int64} {Q : Int32 → Int64 → pm_H → Prop} : pm_wp pm_code pm_meta d 80 23 ([.ref 32, .int 3, .int 1], [.ref 32], ((caT_33 L, caO_47, 33, 3931), caI_49 I, caJ_25 J)) Q ↔ pm_wp pm_code pm_meta d 80 30 ([.ref 32, .int 3, .int 1], [.int (3 * 1), .ref 32], ((caT_33 L, caO_47, 33, 3931), caI_49 I, caJ_25 J)) Q := (pm_bk_iff pc_ch_80 4 23 _).trans (Iff.rfl)
theorem ca_c15_s3 {d L : Nat} {I : Nat → Nat → Int32} {J : Nat → Nat → Int64} {Q : Int32 → Int64 → pm_H → Prop} : pm_wp pm_code pm_meta d 80 30 ([.ref 32, .int 3, .int 1], [.int (3 * 1), .ref 32], ((caT_33 L, caO_47, 33, 3931), caI_49 I, caJ_25 J)) Q ↔ Q 0 0 ((caT_34 L, caO_49, 34, 3934), caI_50 I, caJ_26 J) := (pm_bk_iff pc_ch_80 3 30 _).trans (pm_tt.trans (pm_tt))
theorem ca_c15 {d L : Nat} {I : Nat → Nat → Int32} {J : Nat → Nat → Int64} {Q : Int32 → Int64 → pm_H → Prop} : pm_wc pm_code pm_meta d 80 [.ref 32, .int 3, .int 1] ((caT_33 L, caO_47, 33, 3931), caI_47 I, caJ_25 J) Q ↔ Q 0 0 ((caT_34 L, caO_49, 34, 3934), caI_50 I, caJ_26 J) := by
  rw [ca_c15_s0, ca_c15_s1, ca_c15_s2, ca_c15_s3]
theorem ca_c3_s24 {d L : Nat} {I : Nat → Nat → Int32} {J : Nat → Nat → Int64} {Q : Int32 → Int64 → pm_H → Prop} : pm_wp pm_code pm_meta (d + 1) 25 171 ([.ref 9, pm_unset, pm_unset], [.ref 32, .ref 9], ((caT_34 L, caO_49, 34, 3934), caI_50 I, caJ_26 J)) Q ↔ pm_wc pm_code pm_meta d 80 [.ref 34, .int 24, .int 6] ((caT_35 L, caO_51, 35, 3938), caI_51 I, caJ_27 J) (fun v w H => pm_wp pm_code pm_meta (d + 1) 25 186 ([.ref 9, pm_unset, pm_unset], [.ref 34, .ref 9], H) Q) := (pm_bk_iff pc_ch_25 7 171 _).trans (Iff.rfl)
theorem ca_c16_s0 {d L : Nat} {I : Nat → Nat → Int32} {J : Nat → Nat → Int64} {Q : Int32 → Int64 → pm_H → Prop} : pm_wc pm_code pm_meta d 80 [.ref 34, .int 24, .int 6] ((caT_35 L, caO_51, 35, 3938), caI_51 I, caJ_27 J) Q ↔ pm_wp pm_code pm_meta d 80 19 ([.ref 34, .int 24, .int 6], [.ref 34], ((caT_35 L, caO_51, 35, 3938), caI_53 I, caJ_27 J)) Q := (pm_bk_iff pc_ch_80 11 0 _).trans (pc_le0 (v := 24) (by decide))
theorem ca_c16_s1 {d L : Nat} {I : Nat → Nat → Int32} {J : Nat → Nat → Int64} {Q : Int32 → Int64 → pm_H → Prop} : pm_wp pm_code pm_meta d 80 19 ([.ref 34, .int 24, .int 6], [.ref 34], ((caT_35 L, caO_51, 35, 3938), caI_53 I, caJ_27 J)) Q ↔ pm_wp pm_code pm_meta d 80 23 ([.ref 34, .int 24, .int 6], [.ref 34], ((caT_35 L, caO_51, 35, 3938), caI_53 I, caJ_27 J)) Q := (pm_bk_iff pc_ch_80 2 19 _).trans (pc_le0 (v := 6) (by decide))
theorem ca_c16_s2 {d L : Nat} {I : Nat → Nat → Int32} {J : Nat → Nat → Int64} {Q : Int32 → Int64 → pm_H → Prop} : pm_wp pm_code pm_meta d 80 23 ([.ref 34, .int 24, .int 6], [.ref 34], ((caT_35 L, caO_51, 35, 3938), caI_53 I, caJ_27 J)) Q ↔ pm_wp pm_code pm_meta d 80 30 ([.ref 34, .int 24, .int 6], [.int (24 * 6), .ref 34], ((caT_35 L, caO_51, 35, 3938), caI_53 I, caJ_27 J)) Q := (pm_bk_iff pc_ch_80 4 23 _).trans (Iff.rfl)
theorem ca_c16_s3 {d L : Nat} {I : Nat → Nat → Int32} {J : Nat → Nat → Int64} {Q : Int32 → Int64 → pm_H → Prop} : pm_wp pm_code pm_meta d 80 30 ([.ref 34, .int 24, .int 6], [.int (24 * 6), .ref 34], ((caT_35 L, caO_51, 35, 3938), caI_53 I, caJ_27 J)) Q ↔ Q 0 0 ((caT_36 L, caO_53, 36, 4082), caI_54 I, caJ_28 J) := (pm_bk_iff pc_ch_80 3 30 _).trans (pm_tt.trans (pm_tt))
theorem ca_c16 {d L : Nat} {I : Nat → Nat → Int32} {J : Nat → Nat → Int64} {Q : Int32 → Int64 → pm_H → Prop} : pm_wc pm_code pm_meta d 80 [.ref 34, .int 24, .int 6] ((caT_35 L, caO_51, 35, 3938), caI_51 I, caJ_27 J) Q ↔ Q 0 0 ((caT_36 L, caO_53, 36, 4082), caI_54 I, caJ_28 J) := by
  rw [ca_c16_s0, ca_c16_s1, ca_c16_s2, ca_c16_s3]
theorem ca_c3_s26 {d L : Nat} {I : Nat → Nat → Int32} {J : Nat → Nat → Int64} {Q : Int32 → Int64 → pm_H → Prop} : pm_wp pm_code pm_meta (d + 1) 25 186 ([.ref 9, pm_unset, pm_unset], [.ref 34, .ref 9], ((caT_36 L, caO_53, 36, 4082), caI_54 I, caJ_28 J)) Q ↔ pm_wc pm_code pm_meta d 86 [.ref 26] ((caT_36 L, caO_54, 36, 4082), caI_54 I, caJ_28 J) (fun v w H => pm_wp pm_code pm_meta (d + 1) 25 196 ([.ref 9, pm_unset, pm_unset], [], H) Q) := (pm_bk_iff pc_ch_25 4 186 _).trans (Iff.rfl)
theorem ca_aa26_0 {d L : Nat} {I : Nat → Nat → Int32} {J : Nat → Nat → Int64} {Q : Int32 → Int64 → pm_H → Prop}  : pm_wc pm_code pm_meta d 86 [.ref 26] ((caT_36 L, caO_54, 36, 4082), I, J) Q ↔ pm_wp pm_code pm_meta d 86 5 ([.ref 26, .int (I 26 3)], [], ((caT_36 L, caO_54, 36, 4082), I, J)) Q := (pm_bk_iff pc_ch_86 3 0 _).trans (Iff.rfl)
theorem ca_aa26_5 {d L : Nat} {I : Nat → Nat → Int32} {J : Nat → Nat → Int64} {Q : Int32 → Int64 → pm_H → Prop} {x1 : Int32} : pm_wp pm_code pm_meta d 86 5 ([.ref 26, .int x1], [], ((caT_36 L, caO_54, 36, 4082), I, J)) Q ↔ if (I 26 2) ≤ x1 then pm_wp pm_code pm_meta d 86 24 ([.ref 26, .int x1], [], ((caT_36 L, caO_54, 36, 4082), I, J)) Q else pm_wp pm_code pm_meta d 86 13 ([.ref 26, .int x1], [], ((caT_36 L, caO_54, 36, 4082), I, J)) Q := (pm_bk_iff pc_ch_86 4 5 _).trans (pm_brd)
theorem ca_aa26_24 {d L : Nat} {I : Nat → Nat → Int32} {J : Nat → Nat → Int64} {Q : Int32 → Int64 → pm_H → Prop} {x1 : Int32} : pm_wp pm_code pm_meta d 86 24 ([.ref 26, .int x1], [], ((caT_36 L, caO_54, 36, 4082), I, J)) Q ↔ Q 0 0 ((caT_36 L, caO_54, 36, 4082), I, J) := (pm_bk_iff pc_ch_86 1 24 _).trans (pm_tt)
theorem ca_aa26_13 {d L : Nat} {I : Nat → Nat → Int32} {J : Nat → Nat → Int64} {Q : Int32 → Int64 → pm_H → Prop} {x1 : Int32} : pm_wp pm_code pm_meta (d + 1) 86 13 ([.ref 26, .int x1], [], ((caT_36 L, caO_54, 36, 4082), I, J)) Q ↔ pm_wc pm_code pm_meta d 85 [.ref 26] ((caT_36 L, caO_54, 36, 4082), I, J) (fun v w H => pm_wp pm_code pm_meta (d + 1) 86 17 ([.ref 26, .int x1], [.int v], H) Q) := (pm_bk_iff pc_ch_86 2 13 _).trans (Iff.rfl)
theorem ca_aa26_17 {d L : Nat} {I : Nat → Nat → Int32} {J : Nat → Nat → Int64} {Q : Int32 → Int64 → pm_H → Prop} {x1 s0 : Int32} : pm_wp pm_code pm_meta d 86 17 ([.ref 26, .int x1], [.int s0], ((caT_36 L, caO_54, 36, 4082), I, J)) Q ↔ pm_wp pm_code pm_meta d 86 5 ([.ref 26, .int (x1 + 1)], [], ((caT_36 L, caO_54, 36, 4082), I, J)) Q := (pm_bk_iff pc_ch_86 3 17 _).trans (Iff.rfl)
theorem ca_ad26_0 {d L : Nat} {I : Nat → Nat → Int32} {J : Nat → Nat → Int64} {Q : Int32 → Int64 → pm_H → Prop}  : pm_wc pm_code pm_meta d 85 [.ref 26] ((caT_36 L, caO_54, 36, 4082), I, J) Q ↔ if (I 26 3) < (I 26 2) then pm_wp pm_code pm_meta d 85 14 ([.ref 26, pm_unset], [], ((caT_36 L, caO_54, 36, 4082), I, J)) Q else pm_wp pm_code pm_meta d 85 11 ([.ref 26, pm_unset], [], ((caT_36 L, caO_54, 36, 4082), I, J)) Q := (pm_bk_iff pc_ch_85 5 0 _).trans (pm_brd)
theorem ca_ad26_14 {d L : Nat} {I : Nat → Nat → Int32} {J : Nat → Nat → Int64} {Q : Int32 → Int64 → pm_H → Prop}  : pm_wp pm_code pm_meta d 85 14 ([.ref 26, pm_unset], [], ((caT_36 L, caO_54, 36, 4082), I, J)) Q ↔ pm_wp pm_code pm_meta d 85 24 ([.ref 26, .int ((I 26 3) * (I 26 1))], [], ((caT_36 L, caO_54, 36, 4082), I, J)) Q := (pm_bk_iff pc_ch_85 6 14 _).trans (Iff.rfl)
theorem ca_ad26_11 {d L : Nat} {I : Nat → Nat → Int32} {J : Nat → Nat → Int64} {Q : Int32 → Int64 → pm_H → Prop}  : pm_wp pm_code pm_meta d 85 11 ([.ref 26, pm_unset], [], ((caT_36 L, caO_54, 36, 4082), I, J)) Q ↔ Q (-2) 0 ((caT_36 L, caO_54, 36, 4082), I, J) := (pm_bk_iff pc_ch_85 2 11 _).trans (pm_tt)
theorem ca_ad26_24 {d L : Nat} {I : Nat → Nat → Int32} {J : Nat → Nat → Int64} {Q : Int32 → Int64 → pm_H → Prop} {x1 : Int32} : pm_wp pm_code pm_meta d 85 24 ([.ref 26, .int x1], [], ((caT_36 L, caO_54, 36, 4082), I, J)) Q ↔ if (((I 26 3) + 1) * (I 26 1)) ≤ x1 then pm_wp pm_code pm_meta d 85 52 ([.ref 26, .int x1], [], ((caT_36 L, caO_54, 36, 4082), I, J)) Q else pm_wp pm_code pm_meta d 85 39 ([.ref 26, .int x1], [], ((caT_36 L, caO_54, 36, 4082), I, J)) Q := (pm_bk_iff pc_ch_85 9 24 _).trans (pm_brd)
theorem ca_ad26_52 {d L : Nat} {I : Nat → Nat → Int32} {J : Nat → Nat → Int64} {Q : Int32 → Int64 → pm_H → Prop} {x1 : Int32} : pm_wp pm_code pm_meta d 85 52 ([.ref 26, .int x1], [], ((caT_36 L, caO_54, 36, 4082), I, J)) Q ↔ Q (((pm_u I 26 3 ((I 26 3) + 1)) 26 3) - 1) 0 ((caT_36 L, caO_54, 36, 4082), (pm_u I 26 3 ((I 26 3) + 1)), J) := (pm_bk_iff pc_ch_85 11 52 _).trans (pm_tt)
theorem ca_ad26_39 {d L : Nat} {I : Nat → Nat → Int32} {J : Nat → Nat → Int64} {Q : Int32 → Int64 → pm_H → Prop} {x1 : Int32} : pm_wp pm_code pm_meta d 85 39 ([.ref 26, .int x1], [], ((caT_36 L, caO_54, 36, 4082), I, J)) Q ↔ pm_in x1 4 = true ∧ (pm_wp pm_code pm_meta d 85 24 ([.ref 26, .int (x1 + 1)], [], ((caT_36 L, caO_54, 36, 4082), (pm_u I 27 x1.toNatClampNeg 0), J)) Q) := (pm_bk_iff pc_ch_85 7 39 _).trans (and_congr Iff.rfl (Iff.rfl))
theorem ca_add_26 {d L : Nat} {I : Nat → Nat → Int32} {J : Nat → Nat → Int64} {Q : Int32 → Int64 → pm_H → Prop} (ht : pm_ti (I 26) 1 4) (hn : I 26 3 < 4) (hz : ∀ j, I 27 j = 0) : pm_wc pm_code pm_meta d 85 [.ref 26] ((caT_36 L, caO_54, 36, 4082), I, J) Q ↔ Q (I 26 3) 0 ((caT_36 L, caO_54, 36, 4082), pm_u I 26 3 (I 26 3 + 1), J) := by
  obtain ⟨h1, h2, h3, h4⟩ := ht
  have h3' := h3
  have hn' := hn
  rw [pi_le, pi_0] at h3'
  rw [pi_lt] at hn'
  have hl : (4 : Int32).toInt = 4 := rfl
  have hw : (1 : Int32).toInt = 1 := rfl
  have g1 : (I 26 3 + 1).toInt = (I 26 3).toInt + 1 := by rw [pi_add (by rw [pi_1]; omega) (by rw [pi_1]; omega), pi_1]
  have g2 : ((I 26 3 + 1) * I 26 1).toInt = ((I 26 3).toInt + 1) * 1 := by rw [h1, pi_mul (by rw [g1, hw]; omega) (by rw [g1, hw]; omega), g1, hw]
  have g3 : (I 26 3 * I 26 1).toInt = (I 26 3).toInt * 1 := by rw [h1, pi_mul (by rw [hw]; omega) (by rw [hw]; omega), hw]
  rw [ca_ad26_0, h2, if_pos hn, ca_ad26_14]
  have hA : ∀ x I', I' 26 = I 26 → (pm_wp pm_code pm_meta d 85 24 ([.ref 26, .int x], [], ((caT_36 L, caO_54, 36, 4082), I', J)) Q ↔ if (I 26 3 + 1) * I 26 1 ≤ x then pm_wp pm_code pm_meta d 85 52 ([.ref 26, .int x], [], ((caT_36 L, caO_54, 36, 4082), I', J)) Q else pm_in x 4 = true ∧ pm_wp pm_code pm_meta d 85 24 ([.ref 26, .int (x + 1)], [], ((caT_36 L, caO_54, 36, 4082), pm_u I' 27 x.toNatClampNeg 0, J)) Q) := by
    intro x I' hr
    rw [ca_ad26_24, hr, ca_ad26_39]
  rw [pm_add_loop (A := fun x I' => pm_wp pm_code pm_meta d 85 24 ([.ref 26, .int x], [], ((caT_36 L, caO_54, 36, 4082), I', J)) Q) (E := fun x I' => pm_wp pm_code pm_meta d 85 52 ([.ref 26, .int x], [], ((caT_36 L, caO_54, 36, 4082), I', J)) Q) (by decide) hA 1 _ I rfl (by rw [pi_le, pi_0]; omega) (by omega) (by omega)]
  rw [pc_zr0 hz, ca_ad26_52, pm_u_row, if_pos rfl, pm_w_at, if_pos rfl, pm_inc_sub]
theorem ca_aAll_26 {d L : Nat} {I : Nat → Nat → Int32} {J : Nat → Nat → Int64} {Q : Int32 → Int64 → pm_H → Prop} (h1 : I 26 1 = 1) (h2 : I 26 2 = 4) (h3 : I 26 3 = 0) (hz : ∀ j, I 27 j = 0) : pm_wc pm_code pm_meta (d + 1) 86 [.ref 26] ((caT_36 L, caO_54, 36, 4082), I, J) Q ↔ Q 0 0 ((caT_36 L, caO_54, 36, 4082), pm_u I 26 3 4, J) := by
  have key : ∀ (k m : Nat), m + k = 4 → (pm_wp pm_code pm_meta (d + 1) 86 5 ([.ref 26, .int (Int32.ofNat m)], [], ((caT_36 L, caO_54, 36, 4082), pm_u I 26 3 (Int32.ofNat m), J)) Q ↔ Q 0 0 ((caT_36 L, caO_54, 36, 4082), pm_u I 26 3 4, J)) := by
    intro k
    induction k with
    | zero =>
      intro m hm
      have em : m = 4 := by omega
      subst em
      have e2 : pm_u I 26 3 (Int32.ofNat 4) 26 2 = 4 := by rw [pm_u_row, if_pos rfl, pm_w_ne (by decide)]; exact h2
      rw [ca_aa26_5, e2, if_pos (by decide), ca_aa26_24]
      exact Iff.rfl
    | succ k ih =>
      intro m hm
      have g := on_n (a := m) (by omega)
      have e1 : pm_u I 26 3 (Int32.ofNat m) 26 1 = 1 := by rw [pm_u_row, if_pos rfl, pm_w_ne (by decide)]; exact h1
      have e2 : pm_u I 26 3 (Int32.ofNat m) 26 2 = 4 := by rw [pm_u_row, if_pos rfl, pm_w_ne (by decide)]; exact h2
      have e3 : pm_u I 26 3 (Int32.ofNat m) 26 3 = Int32.ofNat m := by rw [pm_u_at]
      have hl : (4 : Int32) = Int32.ofNat 4 := rfl
      have lt : Int32.ofNat m < 4 := by rw [hl, on_lt (by omega) (by omega)]; omega
      have le : Int32.ofNat m ≤ 4 := by rw [hl, on_le (by omega) (by omega)]; omega
      have ez : ∀ j, pm_u I 26 3 (Int32.ofNat m) 27 j = 0 := fun j => by rw [pm_u_row, if_neg (by decide)]; exact hz j
      rw [ca_aa26_5, e2, if_neg (Int32.not_le.mpr lt), ca_aa26_13, ca_add_26 ⟨e1, e2, by rw [e3]; exact g.1, by rw [e3]; exact le⟩ (by rw [e3]; exact lt) ez, e3, ca_aa26_17, on_s, pc_uu]
      exact ih (m + 1) (by omega)
  have e0 : pm_u I 26 3 (Int32.ofNat 0) = I := pc_u0 (by rw [h3]; rfl)
  have z := key 4 0 (by omega)
  rw [e0] at z
  rw [ca_aa26_0, h3]
  exact z
theorem ca_c17 {d L : Nat} {I : Nat → Nat → Int32} {J : Nat → Nat → Int64} {Q : Int32 → Int64 → pm_H → Prop} : pm_wc pm_code pm_meta (d + 1) 86 [.ref 26] ((caT_36 L, caO_54, 36, 4082), caI_54 I, caJ_28 J) Q ↔ Q 0 0 ((caT_36 L, caO_54, 36, 4082), caI_55 I, caJ_28 J) := ca_aAll_26 rfl rfl rfl (fun _ => rfl)
theorem ca_c3_s28 {d L : Nat} {I : Nat → Nat → Int32} {J : Nat → Nat → Int64} {Q : Int32 → Int64 → pm_H → Prop} : pm_wp pm_code pm_meta (d + 1) 25 196 ([.ref 9, pm_unset, pm_unset], [], ((caT_36 L, caO_54, 36, 4082), caI_55 I, caJ_28 J)) Q ↔ pm_wc pm_code pm_meta d 86 [.ref 10] ((caT_36 L, caO_54, 36, 4082), caI_55 I, caJ_28 J) (fun v w H => pm_wp pm_code pm_meta (d + 1) 25 203 ([.ref 9, pm_unset, pm_unset], [], H) Q) := (pm_bk_iff pc_ch_25 3 196 _).trans (Iff.rfl)
theorem ca_aa10_0 {d L : Nat} {I : Nat → Nat → Int32} {J : Nat → Nat → Int64} {Q : Int32 → Int64 → pm_H → Prop}  : pm_wc pm_code pm_meta d 86 [.ref 10] ((caT_36 L, caO_54, 36, 4082), I, J) Q ↔ pm_wp pm_code pm_meta d 86 5 ([.ref 10, .int (I 10 3)], [], ((caT_36 L, caO_54, 36, 4082), I, J)) Q := (pm_bk_iff pc_ch_86 3 0 _).trans (Iff.rfl)
theorem ca_aa10_5 {d L : Nat} {I : Nat → Nat → Int32} {J : Nat → Nat → Int64} {Q : Int32 → Int64 → pm_H → Prop} {x1 : Int32} : pm_wp pm_code pm_meta d 86 5 ([.ref 10, .int x1], [], ((caT_36 L, caO_54, 36, 4082), I, J)) Q ↔ if (I 10 2) ≤ x1 then pm_wp pm_code pm_meta d 86 24 ([.ref 10, .int x1], [], ((caT_36 L, caO_54, 36, 4082), I, J)) Q else pm_wp pm_code pm_meta d 86 13 ([.ref 10, .int x1], [], ((caT_36 L, caO_54, 36, 4082), I, J)) Q := (pm_bk_iff pc_ch_86 4 5 _).trans (pm_brd)
theorem ca_aa10_24 {d L : Nat} {I : Nat → Nat → Int32} {J : Nat → Nat → Int64} {Q : Int32 → Int64 → pm_H → Prop} {x1 : Int32} : pm_wp pm_code pm_meta d 86 24 ([.ref 10, .int x1], [], ((caT_36 L, caO_54, 36, 4082), I, J)) Q ↔ Q 0 0 ((caT_36 L, caO_54, 36, 4082), I, J) := (pm_bk_iff pc_ch_86 1 24 _).trans (pm_tt)
theorem ca_aa10_13 {d L : Nat} {I : Nat → Nat → Int32} {J : Nat → Nat → Int64} {Q : Int32 → Int64 → pm_H → Prop} {x1 : Int32} : pm_wp pm_code pm_meta (d + 1) 86 13 ([.ref 10, .int x1], [], ((caT_36 L, caO_54, 36, 4082), I, J)) Q ↔ pm_wc pm_code pm_meta d 85 [.ref 10] ((caT_36 L, caO_54, 36, 4082), I, J) (fun v w H => pm_wp pm_code pm_meta (d + 1) 86 17 ([.ref 10, .int x1], [.int v], H) Q) := (pm_bk_iff pc_ch_86 2 13 _).trans (Iff.rfl)
theorem ca_aa10_17 {d L : Nat} {I : Nat → Nat → Int32} {J : Nat → Nat → Int64} {Q : Int32 → Int64 → pm_H → Prop} {x1 s0 : Int32} : pm_wp pm_code pm_meta d 86 17 ([.ref 10, .int x1], [.int s0], ((caT_36 L, caO_54, 36, 4082), I, J)) Q ↔ pm_wp pm_code pm_meta d 86 5 ([.ref 10, .int (x1 + 1)], [], ((caT_36 L, caO_54, 36, 4082), I, J)) Q := (pm_bk_iff pc_ch_86 3 17 _).trans (Iff.rfl)
theorem ca_ad10_0 {d L : Nat} {I : Nat → Nat → Int32} {J : Nat → Nat → Int64} {Q : Int32 → Int64 → pm_H → Prop}  : pm_wc pm_code pm_meta d 85 [.ref 10] ((caT_36 L, caO_54, 36, 4082), I, J) Q ↔ if (I 10 3) < (I 10 2) then pm_wp pm_code pm_meta d 85 14 ([.ref 10, pm_unset], [], ((caT_36 L, caO_54, 36, 4082), I, J)) Q else pm_wp pm_code pm_meta d 85 11 ([.ref 10, pm_unset], [], ((caT_36 L, caO_54, 36, 4082), I, J)) Q := (pm_bk_iff pc_ch_85 5 0 _).trans (pm_brd)
theorem ca_ad10_14 {d L : Nat} {I : Nat → Nat → Int32} {J : Nat → Nat → Int64} {Q : Int32 → Int64 → pm_H → Prop}  : pm_wp pm_code pm_meta d 85 14 ([.ref 10, pm_unset], [], ((caT_36 L, caO_54, 36, 4082), I, J)) Q ↔ pm_wp pm_code pm_meta d 85 24 ([.ref 10, .int ((I 10 3) * (I 10 1))], [], ((caT_36 L, caO_54, 36, 4082), I, J)) Q := (pm_bk_iff pc_ch_85 6 14 _).trans (Iff.rfl)
theorem ca_ad10_11 {d L : Nat} {I : Nat → Nat → Int32} {J : Nat → Nat → Int64} {Q : Int32 → Int64 → pm_H → Prop}  : pm_wp pm_code pm_meta d 85 11 ([.ref 10, pm_unset], [], ((caT_36 L, caO_54, 36, 4082), I, J)) Q ↔ Q (-2) 0 ((caT_36 L, caO_54, 36, 4082), I, J) := (pm_bk_iff pc_ch_85 2 11 _).trans (pm_tt)
theorem ca_ad10_24 {d L : Nat} {I : Nat → Nat → Int32} {J : Nat → Nat → Int64} {Q : Int32 → Int64 → pm_H → Prop} {x1 : Int32} : pm_wp pm_code pm_meta d 85 24 ([.ref 10, .int x1], [], ((caT_36 L, caO_54, 36, 4082), I, J)) Q ↔ if (((I 10 3) + 1) * (I 10 1)) ≤ x1 then pm_wp pm_code pm_meta d 85 52 ([.ref 10, .int x1], [], ((caT_36 L, caO_54, 36, 4082), I, J)) Q else pm_wp pm_code pm_meta d 85 39 ([.ref 10, .int x1], [], ((caT_36 L, caO_54, 36, 4082), I, J)) Q := (pm_bk_iff pc_ch_85 9 24 _).trans (pm_brd)
theorem ca_ad10_52 {d L : Nat} {I : Nat → Nat → Int32} {J : Nat → Nat → Int64} {Q : Int32 → Int64 → pm_H → Prop} {x1 : Int32} : pm_wp pm_code pm_meta d 85 52 ([.ref 10, .int x1], [], ((caT_36 L, caO_54, 36, 4082), I, J)) Q ↔ Q (((pm_u I 10 3 ((I 10 3) + 1)) 10 3) - 1) 0 ((caT_36 L, caO_54, 36, 4082), (pm_u I 10 3 ((I 10 3) + 1)), J) := (pm_bk_iff pc_ch_85 11 52 _).trans (pm_tt)
theorem ca_ad10_39 {d L : Nat} {I : Nat → Nat → Int32} {J : Nat → Nat → Int64} {Q : Int32 → Int64 → pm_H → Prop} {x1 : Int32} : pm_wp pm_code pm_meta d 85 39 ([.ref 10, .int x1], [], ((caT_36 L, caO_54, 36, 4082), I, J)) Q ↔ pm_in x1 100 = true ∧ (pm_wp pm_code pm_meta d 85 24 ([.ref 10, .int (x1 + 1)], [], ((caT_36 L, caO_54, 36, 4082), (pm_u I 11 x1.toNatClampNeg 0), J)) Q) := (pm_bk_iff pc_ch_85 7 39 _).trans (and_congr Iff.rfl (Iff.rfl))
theorem ca_add_10 {d L : Nat} {I : Nat → Nat → Int32} {J : Nat → Nat → Int64} {Q : Int32 → Int64 → pm_H → Prop} (ht : pm_ti (I 10) 10 10) (hn : I 10 3 < 10) (hz : ∀ j, I 11 j = 0) : pm_wc pm_code pm_meta d 85 [.ref 10] ((caT_36 L, caO_54, 36, 4082), I, J) Q ↔ Q (I 10 3) 0 ((caT_36 L, caO_54, 36, 4082), pm_u I 10 3 (I 10 3 + 1), J) := by
  obtain ⟨h1, h2, h3, h4⟩ := ht
  have h3' := h3
  have hn' := hn
  rw [pi_le, pi_0] at h3'
  rw [pi_lt] at hn'
  have hl : (10 : Int32).toInt = 10 := rfl
  have hw : (10 : Int32).toInt = 10 := rfl
  have g1 : (I 10 3 + 1).toInt = (I 10 3).toInt + 1 := by rw [pi_add (by rw [pi_1]; omega) (by rw [pi_1]; omega), pi_1]
  have g2 : ((I 10 3 + 1) * I 10 1).toInt = ((I 10 3).toInt + 1) * 10 := by rw [h1, pi_mul (by rw [g1, hw]; omega) (by rw [g1, hw]; omega), g1, hw]
  have g3 : (I 10 3 * I 10 1).toInt = (I 10 3).toInt * 10 := by rw [h1, pi_mul (by rw [hw]; omega) (by rw [hw]; omega), hw]
  rw [ca_ad10_0, h2, if_pos hn, ca_ad10_14]
  have hA : ∀ x I', I' 10 = I 10 → (pm_wp pm_code pm_meta d 85 24 ([.ref 10, .int x], [], ((caT_36 L, caO_54, 36, 4082), I', J)) Q ↔ if (I 10 3 + 1) * I 10 1 ≤ x then pm_wp pm_code pm_meta d 85 52 ([.ref 10, .int x], [], ((caT_36 L, caO_54, 36, 4082), I', J)) Q else pm_in x 100 = true ∧ pm_wp pm_code pm_meta d 85 24 ([.ref 10, .int (x + 1)], [], ((caT_36 L, caO_54, 36, 4082), pm_u I' 11 x.toNatClampNeg 0, J)) Q) := by
    intro x I' hr
    rw [ca_ad10_24, hr, ca_ad10_39]
  rw [pm_add_loop (A := fun x I' => pm_wp pm_code pm_meta d 85 24 ([.ref 10, .int x], [], ((caT_36 L, caO_54, 36, 4082), I', J)) Q) (E := fun x I' => pm_wp pm_code pm_meta d 85 52 ([.ref 10, .int x], [], ((caT_36 L, caO_54, 36, 4082), I', J)) Q) (by decide) hA 10 _ I rfl (by rw [pi_le, pi_0]; omega) (by omega) (by omega)]
  rw [pc_zr0 hz, ca_ad10_52, pm_u_row, if_pos rfl, pm_w_at, if_pos rfl, pm_inc_sub]
theorem ca_aAll_10 {d L : Nat} {I : Nat → Nat → Int32} {J : Nat → Nat → Int64} {Q : Int32 → Int64 → pm_H → Prop} (h1 : I 10 1 = 10) (h2 : I 10 2 = 10) (h3 : I 10 3 = 0) (hz : ∀ j, I 11 j = 0) : pm_wc pm_code pm_meta (d + 1) 86 [.ref 10] ((caT_36 L, caO_54, 36, 4082), I, J) Q ↔ Q 0 0 ((caT_36 L, caO_54, 36, 4082), pm_u I 10 3 10, J) := by
  have key : ∀ (k m : Nat), m + k = 10 → (pm_wp pm_code pm_meta (d + 1) 86 5 ([.ref 10, .int (Int32.ofNat m)], [], ((caT_36 L, caO_54, 36, 4082), pm_u I 10 3 (Int32.ofNat m), J)) Q ↔ Q 0 0 ((caT_36 L, caO_54, 36, 4082), pm_u I 10 3 10, J)) := by
    intro k
    induction k with
    | zero =>
      intro m hm
      have em : m = 10 := by omega
      subst em
      have e2 : pm_u I 10 3 (Int32.ofNat 10) 10 2 = 10 := by rw [pm_u_row, if_pos rfl, pm_w_ne (by decide)]; exact h2
      rw [ca_aa10_5, e2, if_pos (by decide), ca_aa10_24]
      exact Iff.rfl
    | succ k ih =>
      intro m hm
      have g := on_n (a := m) (by omega)
      have e1 : pm_u I 10 3 (Int32.ofNat m) 10 1 = 10 := by rw [pm_u_row, if_pos rfl, pm_w_ne (by decide)]; exact h1
      have e2 : pm_u I 10 3 (Int32.ofNat m) 10 2 = 10 := by rw [pm_u_row, if_pos rfl, pm_w_ne (by decide)]; exact h2
      have e3 : pm_u I 10 3 (Int32.ofNat m) 10 3 = Int32.ofNat m := by rw [pm_u_at]
      have hl : (10 : Int32) = Int32.ofNat 10 := rfl
      have lt : Int32.ofNat m < 10 := by rw [hl, on_lt (by omega) (by omega)]; omega
      have le : Int32.ofNat m ≤ 10 := by rw [hl, on_le (by omega) (by omega)]; omega
      have ez : ∀ j, pm_u I 10 3 (Int32.ofNat m) 11 j = 0 := fun j => by rw [pm_u_row, if_neg (by decide)]; exact hz j
      rw [ca_aa10_5, e2, if_neg (Int32.not_le.mpr lt), ca_aa10_13, ca_add_10 ⟨e1, e2, by rw [e3]; exact g.1, by rw [e3]; exact le⟩ (by rw [e3]; exact lt) ez, e3, ca_aa10_17, on_s, pc_uu]
      exact ih (m + 1) (by omega)
  have e0 : pm_u I 10 3 (Int32.ofNat 0) = I := pc_u0 (by rw [h3]; rfl)
  have z := key 10 0 (by omega)
  rw [e0] at z
  rw [ca_aa10_0, h3]
  exact z
theorem ca_c18 {d L : Nat} {I : Nat → Nat → Int32} {J : Nat → Nat → Int64} {Q : Int32 → Int64 → pm_H → Prop} : pm_wc pm_code pm_meta (d + 1) 86 [.ref 10] ((caT_36 L, caO_54, 36, 4082), caI_55 I, caJ_28 J) Q ↔ Q 0 0 ((caT_36 L, caO_54, 36, 4082), caI_56 I, caJ_28 J) := ca_aAll_10 rfl rfl rfl (fun _ => rfl)
theorem ca_c3_s30 {d L : Nat} {I : Nat → Nat → Int32} {J : Nat → Nat → Int64} {Q : Int32 → Int64 → pm_H → Prop} : pm_wp pm_code pm_meta d 25 203 ([.ref 9, pm_unset, pm_unset], [], ((caT_36 L, caO_54, 36, 4082), caI_56 I, caJ_28 J)) Q ↔ pm_wp pm_code pm_meta d 25 205 ([.ref 9, .int 0, pm_unset], [], ((caT_36 L, caO_54, 36, 4082), caI_56 I, caJ_28 J)) Q := (pm_bk_iff pc_ch_25 2 203 _).trans (Iff.rfl)
theorem ca_rd25_205 {d L : Nat} {I : Nat → Nat → Int32} {J : Nat → Nat → Int64} {Q : Int32 → Int64 → pm_H → Prop} {x1 : Int32} : pm_wp pm_code pm_meta d 25 205 ([.ref 9, .int x1, pm_unset], [], ((caT_36 L, caO_54, 36, 4082), I, J)) Q ↔ if 10 ≤ x1 then pm_wp pm_code pm_meta d 25 250 ([.ref 9, .int x1, pm_unset], [], ((caT_36 L, caO_54, 36, 4082), I, J)) Q else pm_wp pm_code pm_meta d 25 211 ([.ref 9, .int x1, pm_unset], [], ((caT_36 L, caO_54, 36, 4082), I, J)) Q := (pm_bk_iff pc_ch_25 3 205 _).trans (pm_brd)
theorem ca_rd25_250 {d L : Nat} {I : Nat → Nat → Int32} {J : Nat → Nat → Int64} {Q : Int32 → Int64 → pm_H → Prop} {x1 : Int32} : pm_wp pm_code pm_meta d 25 250 ([.ref 9, .int x1, pm_unset], [], ((caT_36 L, caO_54, 36, 4082), I, J)) Q ↔ Q 0 0 ((caT_36 L, caO_54, 36, 4082), I, J) := (pm_bk_iff pc_ch_25 1 250 _).trans (pm_tt)
theorem ca_rd25_211 {d L : Nat} {I : Nat → Nat → Int32} {J : Nat → Nat → Int64} {Q : Int32 → Int64 → pm_H → Prop} {x1 : Int32} : pm_wp pm_code pm_meta d 25 211 ([.ref 9, .int x1, pm_unset], [], ((caT_36 L, caO_54, 36, 4082), I, J)) Q ↔ pm_wp pm_code pm_meta d 25 213 ([.ref 9, .int x1, .int 0], [], ((caT_36 L, caO_54, 36, 4082), I, J)) Q := (pm_bk_iff pc_ch_25 2 211 _).trans (Iff.rfl)
theorem ca_rd25_213 {d L : Nat} {I : Nat → Nat → Int32} {J : Nat → Nat → Int64} {Q : Int32 → Int64 → pm_H → Prop} {x1 x2 : Int32} : pm_wp pm_code pm_meta d 25 213 ([.ref 9, .int x1, .int x2], [], ((caT_36 L, caO_54, 36, 4082), I, J)) Q ↔ if 10 ≤ x2 then pm_wp pm_code pm_meta d 25 244 ([.ref 9, .int x1, .int x2], [], ((caT_36 L, caO_54, 36, 4082), I, J)) Q else pm_wp pm_code pm_meta d 25 219 ([.ref 9, .int x1, .int x2], [], ((caT_36 L, caO_54, 36, 4082), I, J)) Q := (pm_bk_iff pc_ch_25 3 213 _).trans (pm_brd)
theorem ca_rd25_244 {d L : Nat} {I : Nat → Nat → Int32} {J : Nat → Nat → Int64} {Q : Int32 → Int64 → pm_H → Prop} {x1 x2 : Int32} : pm_wp pm_code pm_meta d 25 244 ([.ref 9, .int x1, .int x2], [], ((caT_36 L, caO_54, 36, 4082), I, J)) Q ↔ pm_wp pm_code pm_meta d 25 205 ([.ref 9, .int (x1 + 1), .int x2], [], ((caT_36 L, caO_54, 36, 4082), I, J)) Q := (pm_bk_iff pc_ch_25 2 244 _).trans (Iff.rfl)
theorem ca_rd25_219 {d L : Nat} {I : Nat → Nat → Int32} {J : Nat → Nat → Int64} {Q : Int32 → Int64 → pm_H → Prop} {x1 x2 : Int32} : pm_wp pm_code pm_meta d 25 219 ([.ref 9, .int x1, .int x2], [], ((caT_36 L, caO_54, 36, 4082), I, J)) Q ↔ if x1 = x2 then pm_wp pm_code pm_meta d 25 230 ([.ref 9, .int x1, .int x2], [.int x2, .int x1, .ref 10], ((caT_36 L, caO_54, 36, 4082), I, J)) Q else pm_wp pm_code pm_meta d 25 234 ([.ref 9, .int x1, .int x2], [.int x2, .int x1, .ref 10], ((caT_36 L, caO_54, 36, 4082), I, J)) Q := (pm_bk_iff pc_ch_25 7 219 _).trans (pm_brn)
theorem ca_rd25_205b {d L : Nat} {I : Nat → Nat → Int32} {J : Nat → Nat → Int64} {Q : Int32 → Int64 → pm_H → Prop} {x1 x2 : Int32} : pm_wp pm_code pm_meta d 25 205 ([.ref 9, .int x1, .int x2], [], ((caT_36 L, caO_54, 36, 4082), I, J)) Q ↔ if 10 ≤ x1 then pm_wp pm_code pm_meta d 25 250 ([.ref 9, .int x1, .int x2], [], ((caT_36 L, caO_54, 36, 4082), I, J)) Q else pm_wp pm_code pm_meta d 25 211 ([.ref 9, .int x1, .int x2], [], ((caT_36 L, caO_54, 36, 4082), I, J)) Q := (pm_bk_iff pc_ch_25 3 205 _).trans (pm_brd)
theorem ca_rd25_230 {d L : Nat} {I : Nat → Nat → Int32} {J : Nat → Nat → Int64} {Q : Int32 → Int64 → pm_H → Prop} {x1 x2 s1 s2 : Int32} : pm_wp pm_code pm_meta d 25 230 ([.ref 9, .int x1, .int x2], [.int s2, .int s1, .ref 10], ((caT_36 L, caO_54, 36, 4082), I, J)) Q ↔ pm_wp pm_code pm_meta d 25 235 ([.ref 9, .int x1, .int x2], [.int 0, .int s2, .int s1, .ref 10], ((caT_36 L, caO_54, 36, 4082), I, J)) Q := (pm_bk_iff pc_ch_25 2 230 _).trans (Iff.rfl)
theorem ca_rd25_234 {d L : Nat} {I : Nat → Nat → Int32} {J : Nat → Nat → Int64} {Q : Int32 → Int64 → pm_H → Prop} {x1 x2 s1 s2 : Int32} : pm_wp pm_code pm_meta d 25 234 ([.ref 9, .int x1, .int x2], [.int s2, .int s1, .ref 10], ((caT_36 L, caO_54, 36, 4082), I, J)) Q ↔ pm_wp pm_code pm_meta d 25 235 ([.ref 9, .int x1, .int x2], [.int 5, .int s2, .int s1, .ref 10], ((caT_36 L, caO_54, 36, 4082), I, J)) Q := (pm_bk_iff pc_ch_25 1 234 _).trans (Iff.rfl)
theorem ca_rd25_250b {d L : Nat} {I : Nat → Nat → Int32} {J : Nat → Nat → Int64} {Q : Int32 → Int64 → pm_H → Prop} {x1 x2 : Int32} : pm_wp pm_code pm_meta d 25 250 ([.ref 9, .int x1, .int x2], [], ((caT_36 L, caO_54, 36, 4082), I, J)) Q ↔ Q 0 0 ((caT_36 L, caO_54, 36, 4082), I, J) := (pm_bk_iff pc_ch_25 1 250 _).trans (pm_tt)
theorem ca_rd25_211b {d L : Nat} {I : Nat → Nat → Int32} {J : Nat → Nat → Int64} {Q : Int32 → Int64 → pm_H → Prop} {x1 x2 : Int32} : pm_wp pm_code pm_meta d 25 211 ([.ref 9, .int x1, .int x2], [], ((caT_36 L, caO_54, 36, 4082), I, J)) Q ↔ pm_wp pm_code pm_meta d 25 213 ([.ref 9, .int x1, .int 0], [], ((caT_36 L, caO_54, 36, 4082), I, J)) Q := (pm_bk_iff pc_ch_25 2 211 _).trans (Iff.rfl)
theorem ca_rd25_235 {d L : Nat} {I : Nat → Nat → Int32} {J : Nat → Nat → Int64} {Q : Int32 → Int64 → pm_H → Prop} {x1 x2 s1 s2 s3 : Int32} : pm_wp pm_code pm_meta (d + 1) 25 235 ([.ref 9, .int x1, .int x2], [.int s3, .int s2, .int s1, .ref 10], ((caT_36 L, caO_54, 36, 4082), I, J)) Q ↔ pm_wc pm_code pm_meta d 84 [.ref 10, .int s1, .int s2, .int s3] ((caT_36 L, caO_54, 36, 4082), I, J) (fun v w H => pm_wp pm_code pm_meta (d + 1) 25 238 ([.ref 9, .int x1, .int x2], [], H) Q) := (pm_bk_iff pc_ch_25 1 235 _).trans (Iff.rfl)
theorem ca_rd25_238 {d L : Nat} {I : Nat → Nat → Int32} {J : Nat → Nat → Int64} {Q : Int32 → Int64 → pm_H → Prop} {x1 x2 : Int32} : pm_wp pm_code pm_meta d 25 238 ([.ref 9, .int x1, .int x2], [], ((caT_36 L, caO_54, 36, 4082), I, J)) Q ↔ pm_wp pm_code pm_meta d 25 213 ([.ref 9, .int x1, .int (x2 + 1)], [], ((caT_36 L, caO_54, 36, 4082), I, J)) Q := (pm_bk_iff pc_ch_25 2 238 _).trans (Iff.rfl)
theorem ca_set_10 {d L : Nat} {I : Nat → Nat → Int32} {J : Nat → Nat → Int64} {r k v : Int32} {Q : Int32 → Int64 → pm_H → Prop} (ht : pm_ti (I 10) 10 10) : pm_wc pm_code pm_meta d 84 [.ref 10, .int r, .int k, .int v] ((caT_36 L, caO_54, 36, 4082), I, J) Q ↔ Q 0 0 ((caT_36 L, caO_54, 36, 4082), (if (0 ≤ r ∧ r < I 10 3) ∧ 0 ≤ k ∧ k < 10 then pm_u I 11 (10 * r.toNatClampNeg + k.toNatClampNeg) v else I), J) := by
  have pin : pm_tin r k (I 10 3) (I 10 1) = true → (r * I 10 1 + k).toNatClampNeg = 10 * r.toNatClampNeg + k.toNatClampNeg ∧ pm_in (r * I 10 1 + k) 100 = true := fun h => by
    obtain ⟨h1, h2, h3, h4⟩ := ht
    rw [h1] at h ⊢
    simp only [pm_tin, Bool.and_eq_true, decide_eq_true_eq] at h
    obtain ⟨⟨⟨a1, a2⟩, a3⟩, a4⟩ := h
    exact pi_cell (lim := 10) (w := 10) a1 (by rw [pi_lt] at a2 ⊢; rw [pi_le] at h4; omega) a3 a4 rfl (by decide)
  have e : (if pm_tin r k (I 10 3) (I 10 1) then ((caT_36 L, caO_54, 36, 4082), pm_u I 11 (r * I 10 1 + k).toNatClampNeg v, J) else ((caT_36 L, caO_54, 36, 4082), I, J)) = ((caT_36 L, caO_54, 36, 4082), (if (0 ≤ r ∧ r < I 10 3) ∧ 0 ≤ k ∧ k < 10 then pm_u I 11 (10 * r.toNatClampNeg + k.toNatClampNeg) v else I), J) := by
    by_cases h : pm_tin r k (I 10 3) (I 10 1) = true
    · rw [if_pos h, (pin h).1]
      simp only [pm_tin, Bool.and_eq_true, decide_eq_true_eq, ht.1, and_assoc] at h
      rw [if_pos (by simpa only [and_assoc] using h)]
    · rw [if_neg h]
      simp only [pm_tin, Bool.and_eq_true, decide_eq_true_eq, ht.1, and_assoc] at h
      rw [if_neg (by simpa only [and_assoc] using h)]
  rw [← e]
  have htb : pm_tb ((caT_36 L, caO_54, 36, 4082), I, J) 10 11 100 (I 10 1) := ⟨rfl, by decide, rfl, rfl, by decide, rfl⟩
  have hin : pm_tin r k (I 10 3) (I 10 1) = true → pm_in (r * I 10 1 + k) 100 = true := fun h => (pin h).2
  refine pm_wc_iff (fun Q' h => ?_) Q
  refine pm_ts_set htb hin ?_
  exact h
theorem ca_rl_25 {d L : Nat} {I : Nat → Nat → Int32} {J : Nat → Nat → Int64} {Q : Int32 → Int64 → pm_H → Prop} (ht : pm_ti (I 10) 10 10) (h3 : I 10 3 = 10) : pm_wp pm_code pm_meta (d + 1) 25 205 ([.ref 9, .int 0, pm_unset], [], ((caT_36 L, caO_54, 36, 4082), I, J)) Q ↔ Q 0 0 ((caT_36 L, caO_54, 36, 4082), pc_rd I 11 100, J) := by
  have h10 : (10 : Int32) = Int32.ofNat 10 := rfl
  have et : ∀ p, pc_rd I 11 p 10 = I 10 := fun p => by funext j; exact if_neg (fun q => absurd q.1 (by decide))
  have inner : ∀ (k a b : Nat), a < 10 → b + k = 10 → (pm_wp pm_code pm_meta (d + 1) 25 213 ([.ref 9, .int (Int32.ofNat a), .int (Int32.ofNat b)], [], ((caT_36 L, caO_54, 36, 4082), pc_rd I 11 (10 * a + b), J)) Q ↔ pm_wp pm_code pm_meta (d + 1) 25 205 ([.ref 9, .int (Int32.ofNat (a + 1)), .int 10], [], ((caT_36 L, caO_54, 36, 4082), pc_rd I 11 (10 * (a + 1)), J)) Q) := by
    intro k a
    induction k with
    | zero =>
      intro b ha hb
      have eb : b = 10 := by omega
      subst eb
      rw [ca_rd25_213, if_pos (by decide), ca_rd25_244, on_s, show 10 * a + 10 = 10 * (a + 1) by omega]
      exact Iff.rfl
    | succ k ih =>
      intro b ha hb
      have ga := on_n (a := a) (by omega)
      have gb := on_n (a := b) (by omega)
      have ih := fun b h1 h2 => ih b h1 h2
      by_cases e : a = b
      · rw [ca_rd25_213, if_neg (by rw [h10, on_le (by omega) (by omega)]; omega), ca_rd25_219, if_pos (by rw [e]), ca_rd25_230, ca_rd25_235, ca_set_10 (by rw [et]; exact ht), et, h3, if_pos ⟨⟨ga.1, by rw [h10, on_lt (by omega) (by omega)]; omega⟩, gb.1, by rw [h10, on_lt (by omega) (by omega)]; omega⟩, ca_rd25_238, on_s, ga.2.1, gb.2.1, pc_rds0 (by omega)]
        exact ih (b + 1) ha (by omega)
      · rw [ca_rd25_213, if_neg (by rw [h10, on_le (by omega) (by omega)]; omega), ca_rd25_219, if_neg (by rw [on_eq (by omega) (by omega)]; exact e), ca_rd25_234, ca_rd25_235, ca_set_10 (by rw [et]; exact ht), et, h3, if_pos ⟨⟨ga.1, by rw [h10, on_lt (by omega) (by omega)]; omega⟩, gb.1, by rw [h10, on_lt (by omega) (by omega)]; omega⟩, ca_rd25_238, on_s, ga.2.1, gb.2.1, pc_rds5 (by omega)]
        exact ih (b + 1) ha (by omega)
  have outer : ∀ (k a : Nat), a + k = 10 → (pm_wp pm_code pm_meta (d + 1) 25 205 ([.ref 9, .int (Int32.ofNat a), .int 10], [], ((caT_36 L, caO_54, 36, 4082), pc_rd I 11 (10 * a), J)) Q ↔ Q 0 0 ((caT_36 L, caO_54, 36, 4082), pc_rd I 11 100, J)) := by
    intro k
    induction k with
    | zero =>
      intro a ha
      have ea : a = 10 := by omega
      subst ea
      rw [ca_rd25_205b, if_pos (by decide), ca_rd25_250b]
    | succ k ih =>
      intro a ha
      rw [ca_rd25_205b, if_neg (by rw [h10, on_le (by omega) (by omega)]; omega), ca_rd25_211b]
      exact (inner 10 a 0 (by omega) (by omega)).trans (ih (a + 1) (by omega))
  rw [ca_rd25_205, if_neg (by decide), ca_rd25_211]
  have z := (inner 10 0 0 (by decide) (by omega)).trans (outer 9 1 (by omega))
  rw [show 10 * 0 + 0 = 0 from rfl, pc_rd0] at z
  exact z
theorem ca_c19 {d L : Nat} {I : Nat → Nat → Int32} {J : Nat → Nat → Int64} {Q : Int32 → Int64 → pm_H → Prop} : pm_wp pm_code pm_meta (d + 1) 25 205 ([.ref 9, .int 0, pm_unset], [], ((caT_36 L, caO_54, 36, 4082), caI_56 I, caJ_28 J)) Q ↔ Q 0 0 ((caT_36 L, caO_54, 36, 4082), caI_57 I, caJ_28 J) := ca_rl_25 ⟨rfl, rfl, (show (0 : Int32) ≤ 10 by decide), (show (10 : Int32) ≤ 10 by decide)⟩ rfl
theorem ca_c3 {d L : Nat} {I : Nat → Nat → Int32} {J : Nat → Nat → Int64} {Q : Int32 → Int64 → pm_H → Prop} : pm_wc pm_code pm_meta (d + 2) 25 [.ref 9] ((caT_10 L, caO_2, 10, 24), caI_2 I, caJ_2 J) Q ↔ Q 0 0 ((caT_36 L, caO_54, 36, 4082), caI_57 I, caJ_28 J) := by
  rw [ca_c3_s0, ca_c4, ca_c3_s2, ca_c5, ca_c3_s4, ca_c6, ca_c3_s6, ca_c7, ca_c3_s8, ca_c8, ca_c3_s10, ca_c9, ca_c3_s12, ca_c10, ca_c3_s14, ca_c11, ca_c3_s16, ca_c12, ca_c3_s18, ca_c13, ca_c3_s20, ca_c14, ca_c3_s22, ca_c15, ca_c3_s24, ca_c16, ca_c3_s26, ca_c17, ca_c3_s28, ca_c18, ca_c3_s30, ca_c19]
theorem ca_c2_s2 {d L : Nat} {I : Nat → Nat → Int32} {J : Nat → Nat → Int64} {Q : Int32 → Int64 → pm_H → Prop} : pm_wp pm_code pm_meta (d + 1) 111 12 ([.ref 8], [.ref 9, .ref 8], ((caT_36 L, caO_54, 36, 4082), caI_57 I, caJ_28 J)) Q ↔ pm_wc pm_code pm_meta d 41 [.ref 36, .ref 9] ((caT_37 L, caO_56, 37, 4083), caI_58 I, caJ_29 J) (fun v w H => pm_wp pm_code pm_meta (d + 1) 111 27 ([.ref 8], [.ref 36, .ref 8], H) Q) := (pm_bk_iff pc_ch_111 7 12 _).trans (Iff.rfl)
theorem ca_c20_s0 {d L : Nat} {I : Nat → Nat → Int32} {J : Nat → Nat → Int64} {Q : Int32 → Int64 → pm_H → Prop} : pm_wc pm_code pm_meta d 41 [.ref 36, .ref 9] ((caT_37 L, caO_56, 37, 4083), caI_58 I, caJ_29 J) Q ↔ Q 0 0 ((caT_37 L, caO_57, 37, 4083), caI_58 I, caJ_29 J) := (pm_bk_iff pc_ch_41 6 0 _).trans (pm_tt)
theorem ca_c20 {d L : Nat} {I : Nat → Nat → Int32} {J : Nat → Nat → Int64} {Q : Int32 → Int64 → pm_H → Prop} : pm_wc pm_code pm_meta d 41 [.ref 36, .ref 9] ((caT_37 L, caO_56, 37, 4083), caI_58 I, caJ_29 J) Q ↔ Q 0 0 ((caT_37 L, caO_57, 37, 4083), caI_58 I, caJ_29 J) := by
  rw [ca_c20_s0]
theorem ca_c2_s4 {d L : Nat} {I : Nat → Nat → Int32} {J : Nat → Nat → Int64} {Q : Int32 → Int64 → pm_H → Prop} : pm_wp pm_code pm_meta (d + 1) 111 27 ([.ref 8], [.ref 36, .ref 8], ((caT_37 L, caO_57, 37, 4083), caI_58 I, caJ_29 J)) Q ↔ pm_wc pm_code pm_meta d 0 [.ref 37, .ref 9, .ref 36] ((caT_38 L, caO_59, 38, 4086), caI_59 I, caJ_30 J) (fun v w H => pm_wp pm_code pm_meta (d + 1) 111 46 ([.ref 8], [.ref 37, .ref 8], H) Q) := (pm_bk_iff pc_ch_111 9 27 _).trans (Iff.rfl)
theorem ca_c21_s0 {d L : Nat} {I : Nat → Nat → Int32} {J : Nat → Nat → Int64} {Q : Int32 → Int64 → pm_H → Prop} : pm_wc pm_code pm_meta (d + 1) 0 [.ref 37, .ref 9, .ref 36] ((caT_38 L, caO_59, 38, 4086), caI_59 I, caJ_30 J) Q ↔ pm_wc pm_code pm_meta d 80 [.ref 38, .int 24, .int 3] ((caT_39 L, caO_60, 39, 4090), caI_60 I, caJ_31 J) (fun v w H => pm_wp pm_code pm_meta (d + 1) 0 15 ([.ref 37, .ref 9, .ref 36], [.ref 38, .ref 37], H) Q) := (pm_bk_iff pc_ch_0 8 0 _).trans (Iff.rfl)
theorem ca_c22_s0 {d L : Nat} {I : Nat → Nat → Int32} {J : Nat → Nat → Int64} {Q : Int32 → Int64 → pm_H → Prop} : pm_wc pm_code pm_meta d 80 [.ref 38, .int 24, .int 3] ((caT_39 L, caO_60, 39, 4090), caI_60 I, caJ_31 J) Q ↔ pm_wp pm_code pm_meta d 80 19 ([.ref 38, .int 24, .int 3], [.ref 38], ((caT_39 L, caO_60, 39, 4090), caI_62 I, caJ_31 J)) Q := (pm_bk_iff pc_ch_80 11 0 _).trans (pc_le0 (v := 24) (by decide))
theorem ca_c22_s1 {d L : Nat} {I : Nat → Nat → Int32} {J : Nat → Nat → Int64} {Q : Int32 → Int64 → pm_H → Prop} : pm_wp pm_code pm_meta d 80 19 ([.ref 38, .int 24, .int 3], [.ref 38], ((caT_39 L, caO_60, 39, 4090), caI_62 I, caJ_31 J)) Q ↔ pm_wp pm_code pm_meta d 80 23 ([.ref 38, .int 24, .int 3], [.ref 38], ((caT_39 L, caO_60, 39, 4090), caI_62 I, caJ_31 J)) Q := (pm_bk_iff pc_ch_80 2 19 _).trans (pc_le0 (v := 3) (by decide))
theorem ca_c22_s2 {d L : Nat} {I : Nat → Nat → Int32} {J : Nat → Nat → Int64} {Q : Int32 → Int64 → pm_H → Prop} : pm_wp pm_code pm_meta d 80 23 ([.ref 38, .int 24, .int 3], [.ref 38], ((caT_39 L, caO_60, 39, 4090), caI_62 I, caJ_31 J)) Q ↔ pm_wp pm_code pm_meta d 80 30 ([.ref 38, .int 24, .int 3], [.int (24 * 3), .ref 38], ((caT_39 L, caO_60, 39, 4090), caI_62 I, caJ_31 J)) Q := (pm_bk_iff pc_ch_80 4 23 _).trans (Iff.rfl)
theorem ca_c22_s3 {d L : Nat} {I : Nat → Nat → Int32} {J : Nat → Nat → Int64} {Q : Int32 → Int64 → pm_H → Prop} : pm_wp pm_code pm_meta d 80 30 ([.ref 38, .int 24, .int 3], [.int (24 * 3), .ref 38], ((caT_39 L, caO_60, 39, 4090), caI_62 I, caJ_31 J)) Q ↔ Q 0 0 ((caT_40 L, caO_62, 40, 4162), caI_63 I, caJ_32 J) := (pm_bk_iff pc_ch_80 3 30 _).trans (pm_tt.trans (pm_tt))
theorem ca_c22 {d L : Nat} {I : Nat → Nat → Int32} {J : Nat → Nat → Int64} {Q : Int32 → Int64 → pm_H → Prop} : pm_wc pm_code pm_meta d 80 [.ref 38, .int 24, .int 3] ((caT_39 L, caO_60, 39, 4090), caI_60 I, caJ_31 J) Q ↔ Q 0 0 ((caT_40 L, caO_62, 40, 4162), caI_63 I, caJ_32 J) := by
  rw [ca_c22_s0, ca_c22_s1, ca_c22_s2, ca_c22_s3]
theorem ca_c21_s2 {d L : Nat} {I : Nat → Nat → Int32} {J : Nat → Nat → Int64} {Q : Int32 → Int64 → pm_H → Prop} : pm_wp pm_code pm_meta d 0 15 ([.ref 37, .ref 9, .ref 36], [.ref 38, .ref 37], ((caT_40 L, caO_62, 40, 4162), caI_63 I, caJ_32 J)) Q ↔ Q 0 0 ((caT_40 L, caO_65, 40, 4162), caI_63 I, caJ_32 J) := (pm_bk_iff pc_ch_0 8 15 _).trans (pm_tt)
theorem ca_c21 {d L : Nat} {I : Nat → Nat → Int32} {J : Nat → Nat → Int64} {Q : Int32 → Int64 → pm_H → Prop} : pm_wc pm_code pm_meta (d + 1) 0 [.ref 37, .ref 9, .ref 36] ((caT_38 L, caO_59, 38, 4086), caI_59 I, caJ_30 J) Q ↔ Q 0 0 ((caT_40 L, caO_65, 40, 4162), caI_63 I, caJ_32 J) := by
  rw [ca_c21_s0, ca_c22, ca_c21_s2]
theorem ca_c2_s6 {d L : Nat} {I : Nat → Nat → Int32} {J : Nat → Nat → Int64} {Q : Int32 → Int64 → pm_H → Prop} : pm_wp pm_code pm_meta (d + 1) 111 46 ([.ref 8], [.ref 37, .ref 8], ((caT_40 L, caO_65, 40, 4162), caI_63 I, caJ_32 J)) Q ↔ pm_wc pm_code pm_meta d 89 [.ref 40] ((caT_41 L, caO_67, 41, 4170), caI_64 I, caJ_33 J) (fun v w H => pm_wp pm_code pm_meta (d + 1) 111 57 ([.ref 8], [.ref 40, .ref 8], H) Q) := (pm_bk_iff pc_ch_111 5 46 _).trans (Iff.rfl)
theorem ca_c23_s0 {d L : Nat} {I : Nat → Nat → Int32} {J : Nat → Nat → Int64} {Q : Int32 → Int64 → pm_H → Prop} : pm_wc pm_code pm_meta (d + 1) 89 [.ref 40] ((caT_41 L, caO_67, 41, 4170), caI_64 I, caJ_33 J) Q ↔ pm_wc pm_code pm_meta d 80 [.ref 42, .int 301, .int 3] ((caT_43 L, caO_70, 43, 4474), caI_66 I, caJ_35 J) (fun v w H => pm_wp pm_code pm_meta (d + 1) 89 25 ([.ref 40], [.ref 42, .ref 40], H) Q) := (pm_bk_iff pc_ch_89 12 0 _).trans (pm_tt.trans (Iff.rfl))
theorem ca_c24_s0 {d L : Nat} {I : Nat → Nat → Int32} {J : Nat → Nat → Int64} {Q : Int32 → Int64 → pm_H → Prop} : pm_wc pm_code pm_meta d 80 [.ref 42, .int 301, .int 3] ((caT_43 L, caO_70, 43, 4474), caI_66 I, caJ_35 J) Q ↔ pm_wp pm_code pm_meta d 80 19 ([.ref 42, .int 301, .int 3], [.ref 42], ((caT_43 L, caO_70, 43, 4474), caI_68 I, caJ_35 J)) Q := (pm_bk_iff pc_ch_80 11 0 _).trans (pc_le0 (v := 301) (by decide))
theorem ca_c24_s1 {d L : Nat} {I : Nat → Nat → Int32} {J : Nat → Nat → Int64} {Q : Int32 → Int64 → pm_H → Prop} : pm_wp pm_code pm_meta d 80 19 ([.ref 42, .int 301, .int 3], [.ref 42], ((caT_43 L, caO_70, 43, 4474), caI_68 I, caJ_35 J)) Q ↔ pm_wp pm_code pm_meta d 80 23 ([.ref 42, .int 301, .int 3], [.ref 42], ((caT_43 L, caO_70, 43, 4474), caI_68 I, caJ_35 J)) Q := (pm_bk_iff pc_ch_80 2 19 _).trans (pc_le0 (v := 3) (by decide))
theorem ca_c24_s2 {d L : Nat} {I : Nat → Nat → Int32} {J : Nat → Nat → Int64} {Q : Int32 → Int64 → pm_H → Prop} : pm_wp pm_code pm_meta d 80 23 ([.ref 42, .int 301, .int 3], [.ref 42], ((caT_43 L, caO_70, 43, 4474), caI_68 I, caJ_35 J)) Q ↔ pm_wp pm_code pm_meta d 80 30 ([.ref 42, .int 301, .int 3], [.int (301 * 3), .ref 42], ((caT_43 L, caO_70, 43, 4474), caI_68 I, caJ_35 J)) Q := (pm_bk_iff pc_ch_80 4 23 _).trans (Iff.rfl)
theorem ca_c24_s3 {d L : Nat} {I : Nat → Nat → Int32} {J : Nat → Nat → Int64} {Q : Int32 → Int64 → pm_H → Prop} : pm_wp pm_code pm_meta d 80 30 ([.ref 42, .int 301, .int 3], [.int (301 * 3), .ref 42], ((caT_43 L, caO_70, 43, 4474), caI_68 I, caJ_35 J)) Q ↔ Q 0 0 ((caT_44 L, caO_72, 44, 5377), caI_69 I, caJ_36 J) := (pm_bk_iff pc_ch_80 3 30 _).trans (pm_tt.trans (pm_tt))
theorem ca_c24 {d L : Nat} {I : Nat → Nat → Int32} {J : Nat → Nat → Int64} {Q : Int32 → Int64 → pm_H → Prop} : pm_wc pm_code pm_meta d 80 [.ref 42, .int 301, .int 3] ((caT_43 L, caO_70, 43, 4474), caI_66 I, caJ_35 J) Q ↔ Q 0 0 ((caT_44 L, caO_72, 44, 5377), caI_69 I, caJ_36 J) := by
  rw [ca_c24_s0, ca_c24_s1, ca_c24_s2, ca_c24_s3]
theorem ca_c23_s2 {d L : Nat} {I : Nat → Nat → Int32} {J : Nat → Nat → Int64} {Q : Int32 → Int64 → pm_H → Prop} : pm_wp pm_code pm_meta (d + 1) 89 25 ([.ref 40], [.ref 42, .ref 40], ((caT_44 L, caO_72, 44, 5377), caI_69 I, caJ_36 J)) Q ↔ pm_wc pm_code pm_meta d 80 [.ref 44, .int 10, .int 5] ((caT_45 L, caO_74, 45, 5381), caI_70 I, caJ_37 J) (fun v w H => pm_wp pm_code pm_meta (d + 1) 89 39 ([.ref 40], [.ref 44, .ref 40], H) Q) := (pm_bk_iff pc_ch_89 7 25 _).trans (Iff.rfl)
theorem ca_c25_s0 {d L : Nat} {I : Nat → Nat → Int32} {J : Nat → Nat → Int64} {Q : Int32 → Int64 → pm_H → Prop} : pm_wc pm_code pm_meta d 80 [.ref 44, .int 10, .int 5] ((caT_45 L, caO_74, 45, 5381), caI_70 I, caJ_37 J) Q ↔ pm_wp pm_code pm_meta d 80 19 ([.ref 44, .int 10, .int 5], [.ref 44], ((caT_45 L, caO_74, 45, 5381), caI_72 I, caJ_37 J)) Q := (pm_bk_iff pc_ch_80 11 0 _).trans (pc_le0 (v := 10) (by decide))
theorem ca_c25_s1 {d L : Nat} {I : Nat → Nat → Int32} {J : Nat → Nat → Int64} {Q : Int32 → Int64 → pm_H → Prop} : pm_wp pm_code pm_meta d 80 19 ([.ref 44, .int 10, .int 5], [.ref 44], ((caT_45 L, caO_74, 45, 5381), caI_72 I, caJ_37 J)) Q ↔ pm_wp pm_code pm_meta d 80 23 ([.ref 44, .int 10, .int 5], [.ref 44], ((caT_45 L, caO_74, 45, 5381), caI_72 I, caJ_37 J)) Q := (pm_bk_iff pc_ch_80 2 19 _).trans (pc_le0 (v := 5) (by decide))
theorem ca_c25_s2 {d L : Nat} {I : Nat → Nat → Int32} {J : Nat → Nat → Int64} {Q : Int32 → Int64 → pm_H → Prop} : pm_wp pm_code pm_meta d 80 23 ([.ref 44, .int 10, .int 5], [.ref 44], ((caT_45 L, caO_74, 45, 5381), caI_72 I, caJ_37 J)) Q ↔ pm_wp pm_code pm_meta d 80 30 ([.ref 44, .int 10, .int 5], [.int (10 * 5), .ref 44], ((caT_45 L, caO_74, 45, 5381), caI_72 I, caJ_37 J)) Q := (pm_bk_iff pc_ch_80 4 23 _).trans (Iff.rfl)
theorem ca_c25_s3 {d L : Nat} {I : Nat → Nat → Int32} {J : Nat → Nat → Int64} {Q : Int32 → Int64 → pm_H → Prop} : pm_wp pm_code pm_meta d 80 30 ([.ref 44, .int 10, .int 5], [.int (10 * 5), .ref 44], ((caT_45 L, caO_74, 45, 5381), caI_72 I, caJ_37 J)) Q ↔ Q 0 0 ((caT_46 L, caO_76, 46, 5431), caI_73 I, caJ_38 J) := (pm_bk_iff pc_ch_80 3 30 _).trans (pm_tt.trans (pm_tt))
theorem ca_c25 {d L : Nat} {I : Nat → Nat → Int32} {J : Nat → Nat → Int64} {Q : Int32 → Int64 → pm_H → Prop} : pm_wc pm_code pm_meta d 80 [.ref 44, .int 10, .int 5] ((caT_45 L, caO_74, 45, 5381), caI_70 I, caJ_37 J) Q ↔ Q 0 0 ((caT_46 L, caO_76, 46, 5431), caI_73 I, caJ_38 J) := by
  rw [ca_c25_s0, ca_c25_s1, ca_c25_s2, ca_c25_s3]
theorem ca_c23_s4 {d L : Nat} {I : Nat → Nat → Int32} {J : Nat → Nat → Int64} {Q : Int32 → Int64 → pm_H → Prop} : pm_wp pm_code pm_meta (d + 1) 89 39 ([.ref 40], [.ref 44, .ref 40], ((caT_46 L, caO_76, 46, 5431), caI_73 I, caJ_38 J)) Q ↔ pm_wc pm_code pm_meta d 80 [.ref 46, .int 100, .int 2] ((caT_47 L, caO_78, 47, 5435), caI_74 I, caJ_39 J) (fun v w H => pm_wp pm_code pm_meta (d + 1) 89 53 ([.ref 40], [.ref 46, .ref 40], H) Q) := (pm_bk_iff pc_ch_89 7 39 _).trans (Iff.rfl)
theorem ca_c26_s0 {d L : Nat} {I : Nat → Nat → Int32} {J : Nat → Nat → Int64} {Q : Int32 → Int64 → pm_H → Prop} : pm_wc pm_code pm_meta d 80 [.ref 46, .int 100, .int 2] ((caT_47 L, caO_78, 47, 5435), caI_74 I, caJ_39 J) Q ↔ pm_wp pm_code pm_meta d 80 19 ([.ref 46, .int 100, .int 2], [.ref 46], ((caT_47 L, caO_78, 47, 5435), caI_76 I, caJ_39 J)) Q := (pm_bk_iff pc_ch_80 11 0 _).trans (pc_le0 (v := 100) (by decide))
theorem ca_c26_s1 {d L : Nat} {I : Nat → Nat → Int32} {J : Nat → Nat → Int64} {Q : Int32 → Int64 → pm_H → Prop} : pm_wp pm_code pm_meta d 80 19 ([.ref 46, .int 100, .int 2], [.ref 46], ((caT_47 L, caO_78, 47, 5435), caI_76 I, caJ_39 J)) Q ↔ pm_wp pm_code pm_meta d 80 23 ([.ref 46, .int 100, .int 2], [.ref 46], ((caT_47 L, caO_78, 47, 5435), caI_76 I, caJ_39 J)) Q := (pm_bk_iff pc_ch_80 2 19 _).trans (pc_le0 (v := 2) (by decide))
theorem ca_c26_s2 {d L : Nat} {I : Nat → Nat → Int32} {J : Nat → Nat → Int64} {Q : Int32 → Int64 → pm_H → Prop} : pm_wp pm_code pm_meta d 80 23 ([.ref 46, .int 100, .int 2], [.ref 46], ((caT_47 L, caO_78, 47, 5435), caI_76 I, caJ_39 J)) Q ↔ pm_wp pm_code pm_meta d 80 30 ([.ref 46, .int 100, .int 2], [.int (100 * 2), .ref 46], ((caT_47 L, caO_78, 47, 5435), caI_76 I, caJ_39 J)) Q := (pm_bk_iff pc_ch_80 4 23 _).trans (Iff.rfl)
theorem ca_c26_s3 {d L : Nat} {I : Nat → Nat → Int32} {J : Nat → Nat → Int64} {Q : Int32 → Int64 → pm_H → Prop} : pm_wp pm_code pm_meta d 80 30 ([.ref 46, .int 100, .int 2], [.int (100 * 2), .ref 46], ((caT_47 L, caO_78, 47, 5435), caI_76 I, caJ_39 J)) Q ↔ Q 0 0 ((caT_48 L, caO_80, 48, 5635), caI_77 I, caJ_40 J) := (pm_bk_iff pc_ch_80 3 30 _).trans (pm_tt.trans (pm_tt))
theorem ca_c26 {d L : Nat} {I : Nat → Nat → Int32} {J : Nat → Nat → Int64} {Q : Int32 → Int64 → pm_H → Prop} : pm_wc pm_code pm_meta d 80 [.ref 46, .int 100, .int 2] ((caT_47 L, caO_78, 47, 5435), caI_74 I, caJ_39 J) Q ↔ Q 0 0 ((caT_48 L, caO_80, 48, 5635), caI_77 I, caJ_40 J) := by
  rw [ca_c26_s0, ca_c26_s1, ca_c26_s2, ca_c26_s3]
theorem ca_c23_s6 {d L : Nat} {I : Nat → Nat → Int32} {J : Nat → Nat → Int64} {Q : Int32 → Int64 → pm_H → Prop} : pm_wp pm_code pm_meta d 89 53 ([.ref 40], [.ref 46, .ref 40], ((caT_48 L, caO_80, 48, 5635), caI_77 I, caJ_40 J)) Q ↔ Q 0 0 ((caT_48 L, caO_81, 48, 5635), caI_77 I, caJ_40 J) := (pm_bk_iff pc_ch_89 2 53 _).trans (pm_tt)
theorem ca_c23 {d L : Nat} {I : Nat → Nat → Int32} {J : Nat → Nat → Int64} {Q : Int32 → Int64 → pm_H → Prop} : pm_wc pm_code pm_meta (d + 1) 89 [.ref 40] ((caT_41 L, caO_67, 41, 4170), caI_64 I, caJ_33 J) Q ↔ Q 0 0 ((caT_48 L, caO_81, 48, 5635), caI_77 I, caJ_40 J) := by
  rw [ca_c23_s0, ca_c24, ca_c23_s2, ca_c25, ca_c23_s4, ca_c26, ca_c23_s6]
theorem ca_c2_s8 {d L : Nat} {I : Nat → Nat → Int32} {J : Nat → Nat → Int64} {Q : Int32 → Int64 → pm_H → Prop} : pm_wp pm_code pm_meta (d + 1) 111 57 ([.ref 8], [.ref 40, .ref 8], ((caT_48 L, caO_81, 48, 5635), caI_77 I, caJ_40 J)) Q ↔ pm_wc pm_code pm_meta d 69 [.ref 48, .ref 9] ((caT_49 L, caO_83, 49, 5642), caI_78 I, caJ_41 J) (fun v w H => pm_wp pm_code pm_meta (d + 1) 111 72 ([.ref 8], [.ref 48, .ref 8], H) Q) := (pm_bk_iff pc_ch_111 7 57 _).trans (Iff.rfl)
theorem ca_c27_s0 {d L : Nat} {I : Nat → Nat → Int32} {J : Nat → Nat → Int64} {Q : Int32 → Int64 → pm_H → Prop} : pm_wc pm_code pm_meta (d + 1) 69 [.ref 48, .ref 9] ((caT_49 L, caO_83, 49, 5642), caI_78 I, caJ_41 J) Q ↔ pm_wc pm_code pm_meta d 80 [.ref 49, .int 7, .int 2] ((caT_50 L, caO_84, 50, 5646), caI_79 I, caJ_42 J) (fun v w H => pm_wp pm_code pm_meta (d + 1) 69 15 ([.ref 48, .ref 9], [.ref 49, .ref 48], H) Q) := (pm_bk_iff pc_ch_69 8 0 _).trans (Iff.rfl)
theorem ca_c28_s0 {d L : Nat} {I : Nat → Nat → Int32} {J : Nat → Nat → Int64} {Q : Int32 → Int64 → pm_H → Prop} : pm_wc pm_code pm_meta d 80 [.ref 49, .int 7, .int 2] ((caT_50 L, caO_84, 50, 5646), caI_79 I, caJ_42 J) Q ↔ pm_wp pm_code pm_meta d 80 19 ([.ref 49, .int 7, .int 2], [.ref 49], ((caT_50 L, caO_84, 50, 5646), caI_81 I, caJ_42 J)) Q := (pm_bk_iff pc_ch_80 11 0 _).trans (pc_le0 (v := 7) (by decide))
theorem ca_c28_s1 {d L : Nat} {I : Nat → Nat → Int32} {J : Nat → Nat → Int64} {Q : Int32 → Int64 → pm_H → Prop} : pm_wp pm_code pm_meta d 80 19 ([.ref 49, .int 7, .int 2], [.ref 49], ((caT_50 L, caO_84, 50, 5646), caI_81 I, caJ_42 J)) Q ↔ pm_wp pm_code pm_meta d 80 23 ([.ref 49, .int 7, .int 2], [.ref 49], ((caT_50 L, caO_84, 50, 5646), caI_81 I, caJ_42 J)) Q := (pm_bk_iff pc_ch_80 2 19 _).trans (pc_le0 (v := 2) (by decide))
theorem ca_c28_s2 {d L : Nat} {I : Nat → Nat → Int32} {J : Nat → Nat → Int64} {Q : Int32 → Int64 → pm_H → Prop} : pm_wp pm_code pm_meta d 80 23 ([.ref 49, .int 7, .int 2], [.ref 49], ((caT_50 L, caO_84, 50, 5646), caI_81 I, caJ_42 J)) Q ↔ pm_wp pm_code pm_meta d 80 30 ([.ref 49, .int 7, .int 2], [.int (7 * 2), .ref 49], ((caT_50 L, caO_84, 50, 5646), caI_81 I, caJ_42 J)) Q := (pm_bk_iff pc_ch_80 4 23 _).trans (Iff.rfl)
theorem ca_c28_s3 {d L : Nat} {I : Nat → Nat → Int32} {J : Nat → Nat → Int64} {Q : Int32 → Int64 → pm_H → Prop} : pm_wp pm_code pm_meta d 80 30 ([.ref 49, .int 7, .int 2], [.int (7 * 2), .ref 49], ((caT_50 L, caO_84, 50, 5646), caI_81 I, caJ_42 J)) Q ↔ Q 0 0 ((caT_51 L, caO_86, 51, 5660), caI_82 I, caJ_43 J) := (pm_bk_iff pc_ch_80 3 30 _).trans (pm_tt.trans (pm_tt))
theorem ca_c28 {d L : Nat} {I : Nat → Nat → Int32} {J : Nat → Nat → Int64} {Q : Int32 → Int64 → pm_H → Prop} : pm_wc pm_code pm_meta d 80 [.ref 49, .int 7, .int 2] ((caT_50 L, caO_84, 50, 5646), caI_79 I, caJ_42 J) Q ↔ Q 0 0 ((caT_51 L, caO_86, 51, 5660), caI_82 I, caJ_43 J) := by
  rw [ca_c28_s0, ca_c28_s1, ca_c28_s2, ca_c28_s3]
theorem ca_c27_s2 {d L : Nat} {I : Nat → Nat → Int32} {J : Nat → Nat → Int64} {Q : Int32 → Int64 → pm_H → Prop} : pm_wp pm_code pm_meta (d + 1) 69 15 ([.ref 48, .ref 9], [.ref 49, .ref 48], ((caT_51 L, caO_86, 51, 5660), caI_82 I, caJ_43 J)) Q ↔ pm_wc pm_code pm_meta d 80 [.ref 51, .int 7, .int 2] ((caT_52 L, caO_88, 52, 5664), caI_83 I, caJ_44 J) (fun v w H => pm_wp pm_code pm_meta (d + 1) 69 29 ([.ref 48, .ref 9], [.ref 51, .ref 48], H) Q) := (pm_bk_iff pc_ch_69 7 15 _).trans (Iff.rfl)
theorem ca_c29_s0 {d L : Nat} {I : Nat → Nat → Int32} {J : Nat → Nat → Int64} {Q : Int32 → Int64 → pm_H → Prop} : pm_wc pm_code pm_meta d 80 [.ref 51, .int 7, .int 2] ((caT_52 L, caO_88, 52, 5664), caI_83 I, caJ_44 J) Q ↔ pm_wp pm_code pm_meta d 80 19 ([.ref 51, .int 7, .int 2], [.ref 51], ((caT_52 L, caO_88, 52, 5664), caI_85 I, caJ_44 J)) Q := (pm_bk_iff pc_ch_80 11 0 _).trans (pc_le0 (v := 7) (by decide))
theorem ca_c29_s1 {d L : Nat} {I : Nat → Nat → Int32} {J : Nat → Nat → Int64} {Q : Int32 → Int64 → pm_H → Prop} : pm_wp pm_code pm_meta d 80 19 ([.ref 51, .int 7, .int 2], [.ref 51], ((caT_52 L, caO_88, 52, 5664), caI_85 I, caJ_44 J)) Q ↔ pm_wp pm_code pm_meta d 80 23 ([.ref 51, .int 7, .int 2], [.ref 51], ((caT_52 L, caO_88, 52, 5664), caI_85 I, caJ_44 J)) Q := (pm_bk_iff pc_ch_80 2 19 _).trans (pc_le0 (v := 2) (by decide))
theorem ca_c29_s2 {d L : Nat} {I : Nat → Nat → Int32} {J : Nat → Nat → Int64} {Q : Int32 → Int64 → pm_H → Prop} : pm_wp pm_code pm_meta d 80 23 ([.ref 51, .int 7, .int 2], [.ref 51], ((caT_52 L, caO_88, 52, 5664), caI_85 I, caJ_44 J)) Q ↔ pm_wp pm_code pm_meta d 80 30 ([.ref 51, .int 7, .int 2], [.int (7 * 2), .ref 51], ((caT_52 L, caO_88, 52, 5664), caI_85 I, caJ_44 J)) Q := (pm_bk_iff pc_ch_80 4 23 _).trans (Iff.rfl)
theorem ca_c29_s3 {d L : Nat} {I : Nat → Nat → Int32} {J : Nat → Nat → Int64} {Q : Int32 → Int64 → pm_H → Prop} : pm_wp pm_code pm_meta d 80 30 ([.ref 51, .int 7, .int 2], [.int (7 * 2), .ref 51], ((caT_52 L, caO_88, 52, 5664), caI_85 I, caJ_44 J)) Q ↔ Q 0 0 ((caT_53 L, caO_90, 53, 5678), caI_86 I, caJ_45 J) := (pm_bk_iff pc_ch_80 3 30 _).trans (pm_tt.trans (pm_tt))
theorem ca_c29 {d L : Nat} {I : Nat → Nat → Int32} {J : Nat → Nat → Int64} {Q : Int32 → Int64 → pm_H → Prop} : pm_wc pm_code pm_meta d 80 [.ref 51, .int 7, .int 2] ((caT_52 L, caO_88, 52, 5664), caI_83 I, caJ_44 J) Q ↔ Q 0 0 ((caT_53 L, caO_90, 53, 5678), caI_86 I, caJ_45 J) := by
  rw [ca_c29_s0, ca_c29_s1, ca_c29_s2, ca_c29_s3]
theorem ca_c27_s4 {d L : Nat} {I : Nat → Nat → Int32} {J : Nat → Nat → Int64} {Q : Int32 → Int64 → pm_H → Prop} : pm_wp pm_code pm_meta (d + 1) 69 29 ([.ref 48, .ref 9], [.ref 51, .ref 48], ((caT_53 L, caO_90, 53, 5678), caI_86 I, caJ_45 J)) Q ↔ pm_wc pm_code pm_meta d 80 [.ref 53, .int 7, .int 1] ((caT_54 L, caO_92, 54, 5682), caI_87 I, caJ_46 J) (fun v w H => pm_wp pm_code pm_meta (d + 1) 69 43 ([.ref 48, .ref 9], [.ref 53, .ref 48], H) Q) := (pm_bk_iff pc_ch_69 7 29 _).trans (Iff.rfl)
theorem ca_c30_s0 {d L : Nat} {I : Nat → Nat → Int32} {J : Nat → Nat → Int64} {Q : Int32 → Int64 → pm_H → Prop} : pm_wc pm_code pm_meta d 80 [.ref 53, .int 7, .int 1] ((caT_54 L, caO_92, 54, 5682), caI_87 I, caJ_46 J) Q ↔ pm_wp pm_code pm_meta d 80 19 ([.ref 53, .int 7, .int 1], [.ref 53], ((caT_54 L, caO_92, 54, 5682), caI_89 I, caJ_46 J)) Q := (pm_bk_iff pc_ch_80 11 0 _).trans (pc_le0 (v := 7) (by decide))
theorem ca_c30_s1 {d L : Nat} {I : Nat → Nat → Int32} {J : Nat → Nat → Int64} {Q : Int32 → Int64 → pm_H → Prop} : pm_wp pm_code pm_meta d 80 19 ([.ref 53, .int 7, .int 1], [.ref 53], ((caT_54 L, caO_92, 54, 5682), caI_89 I, caJ_46 J)) Q ↔ pm_wp pm_code pm_meta d 80 23 ([.ref 53, .int 7, .int 1], [.ref 53], ((caT_54 L, caO_92, 54, 5682), caI_89 I, caJ_46 J)) Q := (pm_bk_iff pc_ch_80 2 19 _).trans (pc_le0 (v := 1) (by decide))
theorem ca_c30_s2 {d L : Nat} {I : Nat → Nat → Int32} {J : Nat → Nat → Int64} {Q : Int32 → Int64 → pm_H → Prop} : pm_wp pm_code pm_meta d 80 23 ([.ref 53, .int 7, .int 1], [.ref 53], ((caT_54 L, caO_92, 54, 5682), caI_89 I, caJ_46 J)) Q ↔ pm_wp pm_code pm_meta d 80 30 ([.ref 53, .int 7, .int 1], [.int (7 * 1), .ref 53], ((caT_54 L, caO_92, 54, 5682), caI_89 I, caJ_46 J)) Q := (pm_bk_iff pc_ch_80 4 23 _).trans (Iff.rfl)
theorem ca_c30_s3 {d L : Nat} {I : Nat → Nat → Int32} {J : Nat → Nat → Int64} {Q : Int32 → Int64 → pm_H → Prop} : pm_wp pm_code pm_meta d 80 30 ([.ref 53, .int 7, .int 1], [.int (7 * 1), .ref 53], ((caT_54 L, caO_92, 54, 5682), caI_89 I, caJ_46 J)) Q ↔ Q 0 0 ((caT_55 L, caO_94, 55, 5689), caI_90 I, caJ_47 J) := (pm_bk_iff pc_ch_80 3 30 _).trans (pm_tt.trans (pm_tt))
theorem ca_c30 {d L : Nat} {I : Nat → Nat → Int32} {J : Nat → Nat → Int64} {Q : Int32 → Int64 → pm_H → Prop} : pm_wc pm_code pm_meta d 80 [.ref 53, .int 7, .int 1] ((caT_54 L, caO_92, 54, 5682), caI_87 I, caJ_46 J) Q ↔ Q 0 0 ((caT_55 L, caO_94, 55, 5689), caI_90 I, caJ_47 J) := by
  rw [ca_c30_s0, ca_c30_s1, ca_c30_s2, ca_c30_s3]
theorem ca_c27_s6 {d L : Nat} {I : Nat → Nat → Int32} {J : Nat → Nat → Int64} {Q : Int32 → Int64 → pm_H → Prop} : pm_wp pm_code pm_meta (d + 1) 69 43 ([.ref 48, .ref 9], [.ref 53, .ref 48], ((caT_55 L, caO_94, 55, 5689), caI_90 I, caJ_47 J)) Q ↔ pm_wc pm_code pm_meta d 80 [.ref 55, .int 7, .int 1] ((caT_56 L, caO_96, 56, 5693), caI_91 I, caJ_48 J) (fun v w H => pm_wp pm_code pm_meta (d + 1) 69 57 ([.ref 48, .ref 9], [.ref 55, .ref 48], H) Q) := (pm_bk_iff pc_ch_69 7 43 _).trans (Iff.rfl)
theorem ca_c31_s0 {d L : Nat} {I : Nat → Nat → Int32} {J : Nat → Nat → Int64} {Q : Int32 → Int64 → pm_H → Prop} : pm_wc pm_code pm_meta d 80 [.ref 55, .int 7, .int 1] ((caT_56 L, caO_96, 56, 5693), caI_91 I, caJ_48 J) Q ↔ pm_wp pm_code pm_meta d 80 19 ([.ref 55, .int 7, .int 1], [.ref 55], ((caT_56 L, caO_96, 56, 5693), caI_93 I, caJ_48 J)) Q := (pm_bk_iff pc_ch_80 11 0 _).trans (pc_le0 (v := 7) (by decide))
theorem ca_c31_s1 {d L : Nat} {I : Nat → Nat → Int32} {J : Nat → Nat → Int64} {Q : Int32 → Int64 → pm_H → Prop} : pm_wp pm_code pm_meta d 80 19 ([.ref 55, .int 7, .int 1], [.ref 55], ((caT_56 L, caO_96, 56, 5693), caI_93 I, caJ_48 J)) Q ↔ pm_wp pm_code pm_meta d 80 23 ([.ref 55, .int 7, .int 1], [.ref 55], ((caT_56 L, caO_96, 56, 5693), caI_93 I, caJ_48 J)) Q := (pm_bk_iff pc_ch_80 2 19 _).trans (pc_le0 (v := 1) (by decide))
theorem ca_c31_s2 {d L : Nat} {I : Nat → Nat → Int32} {J : Nat → Nat → Int64} {Q : Int32 → Int64 → pm_H → Prop} : pm_wp pm_code pm_meta d 80 23 ([.ref 55, .int 7, .int 1], [.ref 55], ((caT_56 L, caO_96, 56, 5693), caI_93 I, caJ_48 J)) Q ↔ pm_wp pm_code pm_meta d 80 30 ([.ref 55, .int 7, .int 1], [.int (7 * 1), .ref 55], ((caT_56 L, caO_96, 56, 5693), caI_93 I, caJ_48 J)) Q := (pm_bk_iff pc_ch_80 4 23 _).trans (Iff.rfl)
theorem ca_c31_s3 {d L : Nat} {I : Nat → Nat → Int32} {J : Nat → Nat → Int64} {Q : Int32 → Int64 → pm_H → Prop} : pm_wp pm_code pm_meta d 80 30 ([.ref 55, .int 7, .int 1], [.int (7 * 1), .ref 55], ((caT_56 L, caO_96, 56, 5693), caI_93 I, caJ_48 J)) Q ↔ Q 0 0 ((caT_57 L, caO_98, 57, 5700), caI_94 I, caJ_49 J) := (pm_bk_iff pc_ch_80 3 30 _).trans (pm_tt.trans (pm_tt))
theorem ca_c31 {d L : Nat} {I : Nat → Nat → Int32} {J : Nat → Nat → Int64} {Q : Int32 → Int64 → pm_H → Prop} : pm_wc pm_code pm_meta d 80 [.ref 55, .int 7, .int 1] ((caT_56 L, caO_96, 56, 5693), caI_91 I, caJ_48 J) Q ↔ Q 0 0 ((caT_57 L, caO_98, 57, 5700), caI_94 I, caJ_49 J) := by
  rw [ca_c31_s0, ca_c31_s1, ca_c31_s2, ca_c31_s3]
theorem ca_c27_s8 {d L : Nat} {I : Nat → Nat → Int32} {J : Nat → Nat → Int64} {Q : Int32 → Int64 → pm_H → Prop} : pm_wp pm_code pm_meta (d + 1) 69 57 ([.ref 48, .ref 9], [.ref 55, .ref 48], ((caT_57 L, caO_98, 57, 5700), caI_94 I, caJ_49 J)) Q ↔ pm_wc pm_code pm_meta d 86 [.ref 53] ((caT_57 L, caO_100, 57, 5700), caI_94 I, caJ_49 J) (fun v w H => pm_wp pm_code pm_meta (d + 1) 69 72 ([.ref 48, .ref 9], [], H) Q) := (pm_bk_iff pc_ch_69 7 57 _).trans (Iff.rfl)
theorem ca_aa53_0 {d L : Nat} {I : Nat → Nat → Int32} {J : Nat → Nat → Int64} {Q : Int32 → Int64 → pm_H → Prop}  : pm_wc pm_code pm_meta d 86 [.ref 53] ((caT_57 L, caO_100, 57, 5700), I, J) Q ↔ pm_wp pm_code pm_meta d 86 5 ([.ref 53, .int (I 53 3)], [], ((caT_57 L, caO_100, 57, 5700), I, J)) Q := (pm_bk_iff pc_ch_86 3 0 _).trans (Iff.rfl)
theorem ca_aa53_5 {d L : Nat} {I : Nat → Nat → Int32} {J : Nat → Nat → Int64} {Q : Int32 → Int64 → pm_H → Prop} {x1 : Int32} : pm_wp pm_code pm_meta d 86 5 ([.ref 53, .int x1], [], ((caT_57 L, caO_100, 57, 5700), I, J)) Q ↔ if (I 53 2) ≤ x1 then pm_wp pm_code pm_meta d 86 24 ([.ref 53, .int x1], [], ((caT_57 L, caO_100, 57, 5700), I, J)) Q else pm_wp pm_code pm_meta d 86 13 ([.ref 53, .int x1], [], ((caT_57 L, caO_100, 57, 5700), I, J)) Q := (pm_bk_iff pc_ch_86 4 5 _).trans (pm_brd)
theorem ca_aa53_24 {d L : Nat} {I : Nat → Nat → Int32} {J : Nat → Nat → Int64} {Q : Int32 → Int64 → pm_H → Prop} {x1 : Int32} : pm_wp pm_code pm_meta d 86 24 ([.ref 53, .int x1], [], ((caT_57 L, caO_100, 57, 5700), I, J)) Q ↔ Q 0 0 ((caT_57 L, caO_100, 57, 5700), I, J) := (pm_bk_iff pc_ch_86 1 24 _).trans (pm_tt)
theorem ca_aa53_13 {d L : Nat} {I : Nat → Nat → Int32} {J : Nat → Nat → Int64} {Q : Int32 → Int64 → pm_H → Prop} {x1 : Int32} : pm_wp pm_code pm_meta (d + 1) 86 13 ([.ref 53, .int x1], [], ((caT_57 L, caO_100, 57, 5700), I, J)) Q ↔ pm_wc pm_code pm_meta d 85 [.ref 53] ((caT_57 L, caO_100, 57, 5700), I, J) (fun v w H => pm_wp pm_code pm_meta (d + 1) 86 17 ([.ref 53, .int x1], [.int v], H) Q) := (pm_bk_iff pc_ch_86 2 13 _).trans (Iff.rfl)
theorem ca_aa53_17 {d L : Nat} {I : Nat → Nat → Int32} {J : Nat → Nat → Int64} {Q : Int32 → Int64 → pm_H → Prop} {x1 s0 : Int32} : pm_wp pm_code pm_meta d 86 17 ([.ref 53, .int x1], [.int s0], ((caT_57 L, caO_100, 57, 5700), I, J)) Q ↔ pm_wp pm_code pm_meta d 86 5 ([.ref 53, .int (x1 + 1)], [], ((caT_57 L, caO_100, 57, 5700), I, J)) Q := (pm_bk_iff pc_ch_86 3 17 _).trans (Iff.rfl)
theorem ca_ad53_0 {d L : Nat} {I : Nat → Nat → Int32} {J : Nat → Nat → Int64} {Q : Int32 → Int64 → pm_H → Prop}  : pm_wc pm_code pm_meta d 85 [.ref 53] ((caT_57 L, caO_100, 57, 5700), I, J) Q ↔ if (I 53 3) < (I 53 2) then pm_wp pm_code pm_meta d 85 14 ([.ref 53, pm_unset], [], ((caT_57 L, caO_100, 57, 5700), I, J)) Q else pm_wp pm_code pm_meta d 85 11 ([.ref 53, pm_unset], [], ((caT_57 L, caO_100, 57, 5700), I, J)) Q := (pm_bk_iff pc_ch_85 5 0 _).trans (pm_brd)
theorem ca_ad53_14 {d L : Nat} {I : Nat → Nat → Int32} {J : Nat → Nat → Int64} {Q : Int32 → Int64 → pm_H → Prop}  : pm_wp pm_code pm_meta d 85 14 ([.ref 53, pm_unset], [], ((caT_57 L, caO_100, 57, 5700), I, J)) Q ↔ pm_wp pm_code pm_meta d 85 24 ([.ref 53, .int ((I 53 3) * (I 53 1))], [], ((caT_57 L, caO_100, 57, 5700), I, J)) Q := (pm_bk_iff pc_ch_85 6 14 _).trans (Iff.rfl)
theorem ca_ad53_11 {d L : Nat} {I : Nat → Nat → Int32} {J : Nat → Nat → Int64} {Q : Int32 → Int64 → pm_H → Prop}  : pm_wp pm_code pm_meta d 85 11 ([.ref 53, pm_unset], [], ((caT_57 L, caO_100, 57, 5700), I, J)) Q ↔ Q (-2) 0 ((caT_57 L, caO_100, 57, 5700), I, J) := (pm_bk_iff pc_ch_85 2 11 _).trans (pm_tt)
theorem ca_ad53_24 {d L : Nat} {I : Nat → Nat → Int32} {J : Nat → Nat → Int64} {Q : Int32 → Int64 → pm_H → Prop} {x1 : Int32} : pm_wp pm_code pm_meta d 85 24 ([.ref 53, .int x1], [], ((caT_57 L, caO_100, 57, 5700), I, J)) Q ↔ if (((I 53 3) + 1) * (I 53 1)) ≤ x1 then pm_wp pm_code pm_meta d 85 52 ([.ref 53, .int x1], [], ((caT_57 L, caO_100, 57, 5700), I, J)) Q else pm_wp pm_code pm_meta d 85 39 ([.ref 53, .int x1], [], ((caT_57 L, caO_100, 57, 5700), I, J)) Q := (pm_bk_iff pc_ch_85 9 24 _).trans (pm_brd)
theorem ca_ad53_52 {d L : Nat} {I : Nat → Nat → Int32} {J : Nat → Nat → Int64} {Q : Int32 → Int64 → pm_H → Prop} {x1 : Int32} : pm_wp pm_code pm_meta d 85 52 ([.ref 53, .int x1], [], ((caT_57 L, caO_100, 57, 5700), I, J)) Q ↔ Q (((pm_u I 53 3 ((I 53 3) + 1)) 53 3) - 1) 0 ((caT_57 L, caO_100, 57, 5700), (pm_u I 53 3 ((I 53 3) + 1)), J) := (pm_bk_iff pc_ch_85 11 52 _).trans (pm_tt)
theorem ca_ad53_39 {d L : Nat} {I : Nat → Nat → Int32} {J : Nat → Nat → Int64} {Q : Int32 → Int64 → pm_H → Prop} {x1 : Int32} : pm_wp pm_code pm_meta d 85 39 ([.ref 53, .int x1], [], ((caT_57 L, caO_100, 57, 5700), I, J)) Q ↔ pm_in x1 7 = true ∧ (pm_wp pm_code pm_meta d 85 24 ([.ref 53, .int (x1 + 1)], [], ((caT_57 L, caO_100, 57, 5700), (pm_u I 54 x1.toNatClampNeg 0), J)) Q) := (pm_bk_iff pc_ch_85 7 39 _).trans (and_congr Iff.rfl (Iff.rfl))
theorem ca_add_53 {d L : Nat} {I : Nat → Nat → Int32} {J : Nat → Nat → Int64} {Q : Int32 → Int64 → pm_H → Prop} (ht : pm_ti (I 53) 1 7) (hn : I 53 3 < 7) (hz : ∀ j, I 54 j = 0) : pm_wc pm_code pm_meta d 85 [.ref 53] ((caT_57 L, caO_100, 57, 5700), I, J) Q ↔ Q (I 53 3) 0 ((caT_57 L, caO_100, 57, 5700), pm_u I 53 3 (I 53 3 + 1), J) := by
  obtain ⟨h1, h2, h3, h4⟩ := ht
  have h3' := h3
  have hn' := hn
  rw [pi_le, pi_0] at h3'
  rw [pi_lt] at hn'
  have hl : (7 : Int32).toInt = 7 := rfl
  have hw : (1 : Int32).toInt = 1 := rfl
  have g1 : (I 53 3 + 1).toInt = (I 53 3).toInt + 1 := by rw [pi_add (by rw [pi_1]; omega) (by rw [pi_1]; omega), pi_1]
  have g2 : ((I 53 3 + 1) * I 53 1).toInt = ((I 53 3).toInt + 1) * 1 := by rw [h1, pi_mul (by rw [g1, hw]; omega) (by rw [g1, hw]; omega), g1, hw]
  have g3 : (I 53 3 * I 53 1).toInt = (I 53 3).toInt * 1 := by rw [h1, pi_mul (by rw [hw]; omega) (by rw [hw]; omega), hw]
  rw [ca_ad53_0, h2, if_pos hn, ca_ad53_14]
  have hA : ∀ x I', I' 53 = I 53 → (pm_wp pm_code pm_meta d 85 24 ([.ref 53, .int x], [], ((caT_57 L, caO_100, 57, 5700), I', J)) Q ↔ if (I 53 3 + 1) * I 53 1 ≤ x then pm_wp pm_code pm_meta d 85 52 ([.ref 53, .int x], [], ((caT_57 L, caO_100, 57, 5700), I', J)) Q else pm_in x 7 = true ∧ pm_wp pm_code pm_meta d 85 24 ([.ref 53, .int (x + 1)], [], ((caT_57 L, caO_100, 57, 5700), pm_u I' 54 x.toNatClampNeg 0, J)) Q) := by
    intro x I' hr
    rw [ca_ad53_24, hr, ca_ad53_39]
  rw [pm_add_loop (A := fun x I' => pm_wp pm_code pm_meta d 85 24 ([.ref 53, .int x], [], ((caT_57 L, caO_100, 57, 5700), I', J)) Q) (E := fun x I' => pm_wp pm_code pm_meta d 85 52 ([.ref 53, .int x], [], ((caT_57 L, caO_100, 57, 5700), I', J)) Q) (by decide) hA 1 _ I rfl (by rw [pi_le, pi_0]; omega) (by omega) (by omega)]
  rw [pc_zr0 hz, ca_ad53_52, pm_u_row, if_pos rfl, pm_w_at, if_pos rfl, pm_inc_sub]
theorem ca_aAll_53 {d L : Nat} {I : Nat → Nat → Int32} {J : Nat → Nat → Int64} {Q : Int32 → Int64 → pm_H → Prop} (h1 : I 53 1 = 1) (h2 : I 53 2 = 7) (h3 : I 53 3 = 0) (hz : ∀ j, I 54 j = 0) : pm_wc pm_code pm_meta (d + 1) 86 [.ref 53] ((caT_57 L, caO_100, 57, 5700), I, J) Q ↔ Q 0 0 ((caT_57 L, caO_100, 57, 5700), pm_u I 53 3 7, J) := by
  have key : ∀ (k m : Nat), m + k = 7 → (pm_wp pm_code pm_meta (d + 1) 86 5 ([.ref 53, .int (Int32.ofNat m)], [], ((caT_57 L, caO_100, 57, 5700), pm_u I 53 3 (Int32.ofNat m), J)) Q ↔ Q 0 0 ((caT_57 L, caO_100, 57, 5700), pm_u I 53 3 7, J)) := by
    intro k
    induction k with
    | zero =>
      intro m hm
      have em : m = 7 := by omega
      subst em
      have e2 : pm_u I 53 3 (Int32.ofNat 7) 53 2 = 7 := by rw [pm_u_row, if_pos rfl, pm_w_ne (by decide)]; exact h2
      rw [ca_aa53_5, e2, if_pos (by decide), ca_aa53_24]
      exact Iff.rfl
    | succ k ih =>
      intro m hm
      have g := on_n (a := m) (by omega)
      have e1 : pm_u I 53 3 (Int32.ofNat m) 53 1 = 1 := by rw [pm_u_row, if_pos rfl, pm_w_ne (by decide)]; exact h1
      have e2 : pm_u I 53 3 (Int32.ofNat m) 53 2 = 7 := by rw [pm_u_row, if_pos rfl, pm_w_ne (by decide)]; exact h2
      have e3 : pm_u I 53 3 (Int32.ofNat m) 53 3 = Int32.ofNat m := by rw [pm_u_at]
      have hl : (7 : Int32) = Int32.ofNat 7 := rfl
      have lt : Int32.ofNat m < 7 := by rw [hl, on_lt (by omega) (by omega)]; omega
      have le : Int32.ofNat m ≤ 7 := by rw [hl, on_le (by omega) (by omega)]; omega
      have ez : ∀ j, pm_u I 53 3 (Int32.ofNat m) 54 j = 0 := fun j => by rw [pm_u_row, if_neg (by decide)]; exact hz j
      rw [ca_aa53_5, e2, if_neg (Int32.not_le.mpr lt), ca_aa53_13, ca_add_53 ⟨e1, e2, by rw [e3]; exact g.1, by rw [e3]; exact le⟩ (by rw [e3]; exact lt) ez, e3, ca_aa53_17, on_s, pc_uu]
      exact ih (m + 1) (by omega)
  have e0 : pm_u I 53 3 (Int32.ofNat 0) = I := pc_u0 (by rw [h3]; rfl)
  have z := key 7 0 (by omega)
  rw [e0] at z
  rw [ca_aa53_0, h3]
  exact z
theorem ca_c32 {d L : Nat} {I : Nat → Nat → Int32} {J : Nat → Nat → Int64} {Q : Int32 → Int64 → pm_H → Prop} : pm_wc pm_code pm_meta (d + 1) 86 [.ref 53] ((caT_57 L, caO_100, 57, 5700), caI_94 I, caJ_49 J) Q ↔ Q 0 0 ((caT_57 L, caO_100, 57, 5700), caI_95 I, caJ_49 J) := ca_aAll_53 rfl rfl rfl (fun _ => rfl)
theorem ca_c27_s10 {d L : Nat} {I : Nat → Nat → Int32} {J : Nat → Nat → Int64} {Q : Int32 → Int64 → pm_H → Prop} : pm_wp pm_code pm_meta d 69 72 ([.ref 48, .ref 9], [], ((caT_57 L, caO_100, 57, 5700), caI_95 I, caJ_49 J)) Q ↔ Q 0 0 ((caT_57 L, caO_100, 57, 5700), caI_95 I, caJ_49 J) := (pm_bk_iff pc_ch_69 1 72 _).trans (pm_tt)
theorem ca_c27 {d L : Nat} {I : Nat → Nat → Int32} {J : Nat → Nat → Int64} {Q : Int32 → Int64 → pm_H → Prop} : pm_wc pm_code pm_meta (d + 2) 69 [.ref 48, .ref 9] ((caT_49 L, caO_83, 49, 5642), caI_78 I, caJ_41 J) Q ↔ Q 0 0 ((caT_57 L, caO_100, 57, 5700), caI_95 I, caJ_49 J) := by
  rw [ca_c27_s0, ca_c28, ca_c27_s2, ca_c29, ca_c27_s4, ca_c30, ca_c27_s6, ca_c31, ca_c27_s8, ca_c32, ca_c27_s10]
theorem ca_c2_s10 {d L : Nat} {I : Nat → Nat → Int32} {J : Nat → Nat → Int64} {Q : Int32 → Int64 → pm_H → Prop} : pm_wp pm_code pm_meta (d + 1) 111 72 ([.ref 8], [.ref 48, .ref 8], ((caT_57 L, caO_100, 57, 5700), caI_95 I, caJ_49 J)) Q ↔ pm_wc pm_code pm_meta d 75 [.ref 57, .ref 9] ((caT_58 L, caO_102, 58, 5708), caI_96 I, caJ_50 J) (fun v w H => pm_wp pm_code pm_meta (d + 1) 111 87 ([.ref 8], [.ref 57, .ref 8], H) Q) := (pm_bk_iff pc_ch_111 7 72 _).trans (Iff.rfl)
theorem ca_c33_s0 {d L : Nat} {I : Nat → Nat → Int32} {J : Nat → Nat → Int64} {Q : Int32 → Int64 → pm_H → Prop} : pm_wc pm_code pm_meta (d + 1) 75 [.ref 57, .ref 9] ((caT_58 L, caO_102, 58, 5708), caI_96 I, caJ_50 J) Q ↔ pm_wc pm_code pm_meta d 80 [.ref 58, .int 3, .int 1] ((caT_59 L, caO_103, 59, 5712), caI_97 I, caJ_51 J) (fun v w H => pm_wp pm_code pm_meta (d + 1) 75 14 ([.ref 57, .ref 9], [.ref 58, .ref 57], H) Q) := (pm_bk_iff pc_ch_75 8 0 _).trans (Iff.rfl)
theorem ca_c34_s0 {d L : Nat} {I : Nat → Nat → Int32} {J : Nat → Nat → Int64} {Q : Int32 → Int64 → pm_H → Prop} : pm_wc pm_code pm_meta d 80 [.ref 58, .int 3, .int 1] ((caT_59 L, caO_103, 59, 5712), caI_97 I, caJ_51 J) Q ↔ pm_wp pm_code pm_meta d 80 19 ([.ref 58, .int 3, .int 1], [.ref 58], ((caT_59 L, caO_103, 59, 5712), caI_99 I, caJ_51 J)) Q := (pm_bk_iff pc_ch_80 11 0 _).trans (pc_le0 (v := 3) (by decide))
theorem ca_c34_s1 {d L : Nat} {I : Nat → Nat → Int32} {J : Nat → Nat → Int64} {Q : Int32 → Int64 → pm_H → Prop} : pm_wp pm_code pm_meta d 80 19 ([.ref 58, .int 3, .int 1], [.ref 58], ((caT_59 L, caO_103, 59, 5712), caI_99 I, caJ_51 J)) Q ↔ pm_wp pm_code pm_meta d 80 23 ([.ref 58, .int 3, .int 1], [.ref 58], ((caT_59 L, caO_103, 59, 5712), caI_99 I, caJ_51 J)) Q := (pm_bk_iff pc_ch_80 2 19 _).trans (pc_le0 (v := 1) (by decide))
theorem ca_c34_s2 {d L : Nat} {I : Nat → Nat → Int32} {J : Nat → Nat → Int64} {Q : Int32 → Int64 → pm_H → Prop} : pm_wp pm_code pm_meta d 80 23 ([.ref 58, .int 3, .int 1], [.ref 58], ((caT_59 L, caO_103, 59, 5712), caI_99 I, caJ_51 J)) Q ↔ pm_wp pm_code pm_meta d 80 30 ([.ref 58, .int 3, .int 1], [.int (3 * 1), .ref 58], ((caT_59 L, caO_103, 59, 5712), caI_99 I, caJ_51 J)) Q := (pm_bk_iff pc_ch_80 4 23 _).trans (Iff.rfl)
theorem ca_c34_s3 {d L : Nat} {I : Nat → Nat → Int32} {J : Nat → Nat → Int64} {Q : Int32 → Int64 → pm_H → Prop} : pm_wp pm_code pm_meta d 80 30 ([.ref 58, .int 3, .int 1], [.int (3 * 1), .ref 58], ((caT_59 L, caO_103, 59, 5712), caI_99 I, caJ_51 J)) Q ↔ Q 0 0 ((caT_60 L, caO_105, 60, 5715), caI_100 I, caJ_52 J) := (pm_bk_iff pc_ch_80 3 30 _).trans (pm_tt.trans (pm_tt))
theorem ca_c34 {d L : Nat} {I : Nat → Nat → Int32} {J : Nat → Nat → Int64} {Q : Int32 → Int64 → pm_H → Prop} : pm_wc pm_code pm_meta d 80 [.ref 58, .int 3, .int 1] ((caT_59 L, caO_103, 59, 5712), caI_97 I, caJ_51 J) Q ↔ Q 0 0 ((caT_60 L, caO_105, 60, 5715), caI_100 I, caJ_52 J) := by
  rw [ca_c34_s0, ca_c34_s1, ca_c34_s2, ca_c34_s3]
theorem ca_c33_s2 {d L : Nat} {I : Nat → Nat → Int32} {J : Nat → Nat → Int64} {Q : Int32 → Int64 → pm_H → Prop} : pm_wp pm_code pm_meta (d + 1) 75 14 ([.ref 57, .ref 9], [.ref 58, .ref 57], ((caT_60 L, caO_105, 60, 5715), caI_100 I, caJ_52 J)) Q ↔ pm_wc pm_code pm_meta d 80 [.ref 60, .int 7, .int 1] ((caT_61 L, caO_107, 61, 5719), caI_101 I, caJ_53 J) (fun v w H => pm_wp pm_code pm_meta (d + 1) 75 28 ([.ref 57, .ref 9], [.ref 60, .ref 57], H) Q) := (pm_bk_iff pc_ch_75 7 14 _).trans (Iff.rfl)
theorem ca_c35_s0 {d L : Nat} {I : Nat → Nat → Int32} {J : Nat → Nat → Int64} {Q : Int32 → Int64 → pm_H → Prop} : pm_wc pm_code pm_meta d 80 [.ref 60, .int 7, .int 1] ((caT_61 L, caO_107, 61, 5719), caI_101 I, caJ_53 J) Q ↔ pm_wp pm_code pm_meta d 80 19 ([.ref 60, .int 7, .int 1], [.ref 60], ((caT_61 L, caO_107, 61, 5719), caI_103 I, caJ_53 J)) Q := (pm_bk_iff pc_ch_80 11 0 _).trans (pc_le0 (v := 7) (by decide))
theorem ca_c35_s1 {d L : Nat} {I : Nat → Nat → Int32} {J : Nat → Nat → Int64} {Q : Int32 → Int64 → pm_H → Prop} : pm_wp pm_code pm_meta d 80 19 ([.ref 60, .int 7, .int 1], [.ref 60], ((caT_61 L, caO_107, 61, 5719), caI_103 I, caJ_53 J)) Q ↔ pm_wp pm_code pm_meta d 80 23 ([.ref 60, .int 7, .int 1], [.ref 60], ((caT_61 L, caO_107, 61, 5719), caI_103 I, caJ_53 J)) Q := (pm_bk_iff pc_ch_80 2 19 _).trans (pc_le0 (v := 1) (by decide))
theorem ca_c35_s2 {d L : Nat} {I : Nat → Nat → Int32} {J : Nat → Nat → Int64} {Q : Int32 → Int64 → pm_H → Prop} : pm_wp pm_code pm_meta d 80 23 ([.ref 60, .int 7, .int 1], [.ref 60], ((caT_61 L, caO_107, 61, 5719), caI_103 I, caJ_53 J)) Q ↔ pm_wp pm_code pm_meta d 80 30 ([.ref 60, .int 7, .int 1], [.int (7 * 1), .ref 60], ((caT_61 L, caO_107, 61, 5719), caI_103 I, caJ_53 J)) Q := (pm_bk_iff pc_ch_80 4 23 _).trans (Iff.rfl)
theorem ca_c35_s3 {d L : Nat} {I : Nat → Nat → Int32} {J : Nat → Nat → Int64} {Q : Int32 → Int64 → pm_H → Prop} : pm_wp pm_code pm_meta d 80 30 ([.ref 60, .int 7, .int 1], [.int (7 * 1), .ref 60], ((caT_61 L, caO_107, 61, 5719), caI_103 I, caJ_53 J)) Q ↔ Q 0 0 ((caT_62 L, caO_109, 62, 5726), caI_104 I, caJ_54 J) := (pm_bk_iff pc_ch_80 3 30 _).trans (pm_tt.trans (pm_tt))
theorem ca_c35 {d L : Nat} {I : Nat → Nat → Int32} {J : Nat → Nat → Int64} {Q : Int32 → Int64 → pm_H → Prop} : pm_wc pm_code pm_meta d 80 [.ref 60, .int 7, .int 1] ((caT_61 L, caO_107, 61, 5719), caI_101 I, caJ_53 J) Q ↔ Q 0 0 ((caT_62 L, caO_109, 62, 5726), caI_104 I, caJ_54 J) := by
  rw [ca_c35_s0, ca_c35_s1, ca_c35_s2, ca_c35_s3]
theorem ca_c33_s4 {d L : Nat} {I : Nat → Nat → Int32} {J : Nat → Nat → Int64} {Q : Int32 → Int64 → pm_H → Prop} : pm_wp pm_code pm_meta (d + 1) 75 28 ([.ref 57, .ref 9], [.ref 60, .ref 57], ((caT_62 L, caO_109, 62, 5726), caI_104 I, caJ_54 J)) Q ↔ pm_wc pm_code pm_meta d 80 [.ref 62, .int 7, .int 1] ((caT_63 L, caO_111, 63, 5730), caI_105 I, caJ_55 J) (fun v w H => pm_wp pm_code pm_meta (d + 1) 75 42 ([.ref 57, .ref 9], [.ref 62, .ref 57], H) Q) := (pm_bk_iff pc_ch_75 7 28 _).trans (Iff.rfl)
theorem ca_c36_s0 {d L : Nat} {I : Nat → Nat → Int32} {J : Nat → Nat → Int64} {Q : Int32 → Int64 → pm_H → Prop} : pm_wc pm_code pm_meta d 80 [.ref 62, .int 7, .int 1] ((caT_63 L, caO_111, 63, 5730), caI_105 I, caJ_55 J) Q ↔ pm_wp pm_code pm_meta d 80 19 ([.ref 62, .int 7, .int 1], [.ref 62], ((caT_63 L, caO_111, 63, 5730), caI_107 I, caJ_55 J)) Q := (pm_bk_iff pc_ch_80 11 0 _).trans (pc_le0 (v := 7) (by decide))
theorem ca_c36_s1 {d L : Nat} {I : Nat → Nat → Int32} {J : Nat → Nat → Int64} {Q : Int32 → Int64 → pm_H → Prop} : pm_wp pm_code pm_meta d 80 19 ([.ref 62, .int 7, .int 1], [.ref 62], ((caT_63 L, caO_111, 63, 5730), caI_107 I, caJ_55 J)) Q ↔ pm_wp pm_code pm_meta d 80 23 ([.ref 62, .int 7, .int 1], [.ref 62], ((caT_63 L, caO_111, 63, 5730), caI_107 I, caJ_55 J)) Q := (pm_bk_iff pc_ch_80 2 19 _).trans (pc_le0 (v := 1) (by decide))
theorem ca_c36_s2 {d L : Nat} {I : Nat → Nat → Int32} {J : Nat → Nat → Int64} {Q : Int32 → Int64 → pm_H → Prop} : pm_wp pm_code pm_meta d 80 23 ([.ref 62, .int 7, .int 1], [.ref 62], ((caT_63 L, caO_111, 63, 5730), caI_107 I, caJ_55 J)) Q ↔ pm_wp pm_code pm_meta d 80 30 ([.ref 62, .int 7, .int 1], [.int (7 * 1), .ref 62], ((caT_63 L, caO_111, 63, 5730), caI_107 I, caJ_55 J)) Q := (pm_bk_iff pc_ch_80 4 23 _).trans (Iff.rfl)
theorem ca_c36_s3 {d L : Nat} {I : Nat → Nat → Int32} {J : Nat → Nat → Int64} {Q : Int32 → Int64 → pm_H → Prop} : pm_wp pm_code pm_meta d 80 30 ([.ref 62, .int 7, .int 1], [.int (7 * 1), .ref 62], ((caT_63 L, caO_111, 63, 5730), caI_107 I, caJ_55 J)) Q ↔ Q 0 0 ((caT_64 L, caO_113, 64, 5737), caI_108 I, caJ_56 J) := (pm_bk_iff pc_ch_80 3 30 _).trans (pm_tt.trans (pm_tt))
theorem ca_c36 {d L : Nat} {I : Nat → Nat → Int32} {J : Nat → Nat → Int64} {Q : Int32 → Int64 → pm_H → Prop} : pm_wc pm_code pm_meta d 80 [.ref 62, .int 7, .int 1] ((caT_63 L, caO_111, 63, 5730), caI_105 I, caJ_55 J) Q ↔ Q 0 0 ((caT_64 L, caO_113, 64, 5737), caI_108 I, caJ_56 J) := by
  rw [ca_c36_s0, ca_c36_s1, ca_c36_s2, ca_c36_s3]
theorem ca_c33_s6 {d L : Nat} {I : Nat → Nat → Int32} {J : Nat → Nat → Int64} {Q : Int32 → Int64 → pm_H → Prop} : pm_wp pm_code pm_meta (d + 1) 75 42 ([.ref 57, .ref 9], [.ref 62, .ref 57], ((caT_64 L, caO_113, 64, 5737), caI_108 I, caJ_56 J)) Q ↔ pm_wc pm_code pm_meta d 86 [.ref 58] ((caT_64 L, caO_115, 64, 5737), caI_108 I, caJ_56 J) (fun v w H => pm_wp pm_code pm_meta (d + 1) 75 57 ([.ref 57, .ref 9], [], H) Q) := (pm_bk_iff pc_ch_75 7 42 _).trans (Iff.rfl)
theorem ca_aa58_0 {d L : Nat} {I : Nat → Nat → Int32} {J : Nat → Nat → Int64} {Q : Int32 → Int64 → pm_H → Prop}  : pm_wc pm_code pm_meta d 86 [.ref 58] ((caT_64 L, caO_115, 64, 5737), I, J) Q ↔ pm_wp pm_code pm_meta d 86 5 ([.ref 58, .int (I 58 3)], [], ((caT_64 L, caO_115, 64, 5737), I, J)) Q := (pm_bk_iff pc_ch_86 3 0 _).trans (Iff.rfl)
theorem ca_aa58_5 {d L : Nat} {I : Nat → Nat → Int32} {J : Nat → Nat → Int64} {Q : Int32 → Int64 → pm_H → Prop} {x1 : Int32} : pm_wp pm_code pm_meta d 86 5 ([.ref 58, .int x1], [], ((caT_64 L, caO_115, 64, 5737), I, J)) Q ↔ if (I 58 2) ≤ x1 then pm_wp pm_code pm_meta d 86 24 ([.ref 58, .int x1], [], ((caT_64 L, caO_115, 64, 5737), I, J)) Q else pm_wp pm_code pm_meta d 86 13 ([.ref 58, .int x1], [], ((caT_64 L, caO_115, 64, 5737), I, J)) Q := (pm_bk_iff pc_ch_86 4 5 _).trans (pm_brd)
theorem ca_aa58_24 {d L : Nat} {I : Nat → Nat → Int32} {J : Nat → Nat → Int64} {Q : Int32 → Int64 → pm_H → Prop} {x1 : Int32} : pm_wp pm_code pm_meta d 86 24 ([.ref 58, .int x1], [], ((caT_64 L, caO_115, 64, 5737), I, J)) Q ↔ Q 0 0 ((caT_64 L, caO_115, 64, 5737), I, J) := (pm_bk_iff pc_ch_86 1 24 _).trans (pm_tt)
theorem ca_aa58_13 {d L : Nat} {I : Nat → Nat → Int32} {J : Nat → Nat → Int64} {Q : Int32 → Int64 → pm_H → Prop} {x1 : Int32} : pm_wp pm_code pm_meta (d + 1) 86 13 ([.ref 58, .int x1], [], ((caT_64 L, caO_115, 64, 5737), I, J)) Q ↔ pm_wc pm_code pm_meta d 85 [.ref 58] ((caT_64 L, caO_115, 64, 5737), I, J) (fun v w H => pm_wp pm_code pm_meta (d + 1) 86 17 ([.ref 58, .int x1], [.int v], H) Q) := (pm_bk_iff pc_ch_86 2 13 _).trans (Iff.rfl)
theorem ca_aa58_17 {d L : Nat} {I : Nat → Nat → Int32} {J : Nat → Nat → Int64} {Q : Int32 → Int64 → pm_H → Prop} {x1 s0 : Int32} : pm_wp pm_code pm_meta d 86 17 ([.ref 58, .int x1], [.int s0], ((caT_64 L, caO_115, 64, 5737), I, J)) Q ↔ pm_wp pm_code pm_meta d 86 5 ([.ref 58, .int (x1 + 1)], [], ((caT_64 L, caO_115, 64, 5737), I, J)) Q := (pm_bk_iff pc_ch_86 3 17 _).trans (Iff.rfl)
theorem ca_ad58_0 {d L : Nat} {I : Nat → Nat → Int32} {J : Nat → Nat → Int64} {Q : Int32 → Int64 → pm_H → Prop}  : pm_wc pm_code pm_meta d 85 [.ref 58] ((caT_64 L, caO_115, 64, 5737), I, J) Q ↔ if (I 58 3) < (I 58 2) then pm_wp pm_code pm_meta d 85 14 ([.ref 58, pm_unset], [], ((caT_64 L, caO_115, 64, 5737), I, J)) Q else pm_wp pm_code pm_meta d 85 11 ([.ref 58, pm_unset], [], ((caT_64 L, caO_115, 64, 5737), I, J)) Q := (pm_bk_iff pc_ch_85 5 0 _).trans (pm_brd)
theorem ca_ad58_14 {d L : Nat} {I : Nat → Nat → Int32} {J : Nat → Nat → Int64} {Q : Int32 → Int64 → pm_H → Prop}  : pm_wp pm_code pm_meta d 85 14 ([.ref 58, pm_unset], [], ((caT_64 L, caO_115, 64, 5737), I, J)) Q ↔ pm_wp pm_code pm_meta d 85 24 ([.ref 58, .int ((I 58 3) * (I 58 1))], [], ((caT_64 L, caO_115, 64, 5737), I, J)) Q := (pm_bk_iff pc_ch_85 6 14 _).trans (Iff.rfl)
theorem ca_ad58_11 {d L : Nat} {I : Nat → Nat → Int32} {J : Nat → Nat → Int64} {Q : Int32 → Int64 → pm_H → Prop}  : pm_wp pm_code pm_meta d 85 11 ([.ref 58, pm_unset], [], ((caT_64 L, caO_115, 64, 5737), I, J)) Q ↔ Q (-2) 0 ((caT_64 L, caO_115, 64, 5737), I, J) := (pm_bk_iff pc_ch_85 2 11 _).trans (pm_tt)
theorem ca_ad58_24 {d L : Nat} {I : Nat → Nat → Int32} {J : Nat → Nat → Int64} {Q : Int32 → Int64 → pm_H → Prop} {x1 : Int32} : pm_wp pm_code pm_meta d 85 24 ([.ref 58, .int x1], [], ((caT_64 L, caO_115, 64, 5737), I, J)) Q ↔ if (((I 58 3) + 1) * (I 58 1)) ≤ x1 then pm_wp pm_code pm_meta d 85 52 ([.ref 58, .int x1], [], ((caT_64 L, caO_115, 64, 5737), I, J)) Q else pm_wp pm_code pm_meta d 85 39 ([.ref 58, .int x1], [], ((caT_64 L, caO_115, 64, 5737), I, J)) Q := (pm_bk_iff pc_ch_85 9 24 _).trans (pm_brd)
theorem ca_ad58_52 {d L : Nat} {I : Nat → Nat → Int32} {J : Nat → Nat → Int64} {Q : Int32 → Int64 → pm_H → Prop} {x1 : Int32} : pm_wp pm_code pm_meta d 85 52 ([.ref 58, .int x1], [], ((caT_64 L, caO_115, 64, 5737), I, J)) Q ↔ Q (((pm_u I 58 3 ((I 58 3) + 1)) 58 3) - 1) 0 ((caT_64 L, caO_115, 64, 5737), (pm_u I 58 3 ((I 58 3) + 1)), J) := (pm_bk_iff pc_ch_85 11 52 _).trans (pm_tt)
theorem ca_ad58_39 {d L : Nat} {I : Nat → Nat → Int32} {J : Nat → Nat → Int64} {Q : Int32 → Int64 → pm_H → Prop} {x1 : Int32} : pm_wp pm_code pm_meta d 85 39 ([.ref 58, .int x1], [], ((caT_64 L, caO_115, 64, 5737), I, J)) Q ↔ pm_in x1 3 = true ∧ (pm_wp pm_code pm_meta d 85 24 ([.ref 58, .int (x1 + 1)], [], ((caT_64 L, caO_115, 64, 5737), (pm_u I 59 x1.toNatClampNeg 0), J)) Q) := (pm_bk_iff pc_ch_85 7 39 _).trans (and_congr Iff.rfl (Iff.rfl))
theorem ca_add_58 {d L : Nat} {I : Nat → Nat → Int32} {J : Nat → Nat → Int64} {Q : Int32 → Int64 → pm_H → Prop} (ht : pm_ti (I 58) 1 3) (hn : I 58 3 < 3) (hz : ∀ j, I 59 j = 0) : pm_wc pm_code pm_meta d 85 [.ref 58] ((caT_64 L, caO_115, 64, 5737), I, J) Q ↔ Q (I 58 3) 0 ((caT_64 L, caO_115, 64, 5737), pm_u I 58 3 (I 58 3 + 1), J) := by
  obtain ⟨h1, h2, h3, h4⟩ := ht
  have h3' := h3
  have hn' := hn
  rw [pi_le, pi_0] at h3'
  rw [pi_lt] at hn'
  have hl : (3 : Int32).toInt = 3 := rfl
  have hw : (1 : Int32).toInt = 1 := rfl
  have g1 : (I 58 3 + 1).toInt = (I 58 3).toInt + 1 := by rw [pi_add (by rw [pi_1]; omega) (by rw [pi_1]; omega), pi_1]
  have g2 : ((I 58 3 + 1) * I 58 1).toInt = ((I 58 3).toInt + 1) * 1 := by rw [h1, pi_mul (by rw [g1, hw]; omega) (by rw [g1, hw]; omega), g1, hw]
  have g3 : (I 58 3 * I 58 1).toInt = (I 58 3).toInt * 1 := by rw [h1, pi_mul (by rw [hw]; omega) (by rw [hw]; omega), hw]
  rw [ca_ad58_0, h2, if_pos hn, ca_ad58_14]
  have hA : ∀ x I', I' 58 = I 58 → (pm_wp pm_code pm_meta d 85 24 ([.ref 58, .int x], [], ((caT_64 L, caO_115, 64, 5737), I', J)) Q ↔ if (I 58 3 + 1) * I 58 1 ≤ x then pm_wp pm_code pm_meta d 85 52 ([.ref 58, .int x], [], ((caT_64 L, caO_115, 64, 5737), I', J)) Q else pm_in x 3 = true ∧ pm_wp pm_code pm_meta d 85 24 ([.ref 58, .int (x + 1)], [], ((caT_64 L, caO_115, 64, 5737), pm_u I' 59 x.toNatClampNeg 0, J)) Q) := by
    intro x I' hr
    rw [ca_ad58_24, hr, ca_ad58_39]
  rw [pm_add_loop (A := fun x I' => pm_wp pm_code pm_meta d 85 24 ([.ref 58, .int x], [], ((caT_64 L, caO_115, 64, 5737), I', J)) Q) (E := fun x I' => pm_wp pm_code pm_meta d 85 52 ([.ref 58, .int x], [], ((caT_64 L, caO_115, 64, 5737), I', J)) Q) (by decide) hA 1 _ I rfl (by rw [pi_le, pi_0]; omega) (by omega) (by omega)]
  rw [pc_zr0 hz, ca_ad58_52, pm_u_row, if_pos rfl, pm_w_at, if_pos rfl, pm_inc_sub]
theorem ca_aAll_58 {d L : Nat} {I : Nat → Nat → Int32} {J : Nat → Nat → Int64} {Q : Int32 → Int64 → pm_H → Prop} (h1 : I 58 1 = 1) (h2 : I 58 2 = 3) (h3 : I 58 3 = 0) (hz : ∀ j, I 59 j = 0) : pm_wc pm_code pm_meta (d + 1) 86 [.ref 58] ((caT_64 L, caO_115, 64, 5737), I, J) Q ↔ Q 0 0 ((caT_64 L, caO_115, 64, 5737), pm_u I 58 3 3, J) := by
  have key : ∀ (k m : Nat), m + k = 3 → (pm_wp pm_code pm_meta (d + 1) 86 5 ([.ref 58, .int (Int32.ofNat m)], [], ((caT_64 L, caO_115, 64, 5737), pm_u I 58 3 (Int32.ofNat m), J)) Q ↔ Q 0 0 ((caT_64 L, caO_115, 64, 5737), pm_u I 58 3 3, J)) := by
    intro k
    induction k with
    | zero =>
      intro m hm
      have em : m = 3 := by omega
      subst em
      have e2 : pm_u I 58 3 (Int32.ofNat 3) 58 2 = 3 := by rw [pm_u_row, if_pos rfl, pm_w_ne (by decide)]; exact h2
      rw [ca_aa58_5, e2, if_pos (by decide), ca_aa58_24]
      exact Iff.rfl
    | succ k ih =>
      intro m hm
      have g := on_n (a := m) (by omega)
      have e1 : pm_u I 58 3 (Int32.ofNat m) 58 1 = 1 := by rw [pm_u_row, if_pos rfl, pm_w_ne (by decide)]; exact h1
      have e2 : pm_u I 58 3 (Int32.ofNat m) 58 2 = 3 := by rw [pm_u_row, if_pos rfl, pm_w_ne (by decide)]; exact h2
      have e3 : pm_u I 58 3 (Int32.ofNat m) 58 3 = Int32.ofNat m := by rw [pm_u_at]
      have hl : (3 : Int32) = Int32.ofNat 3 := rfl
      have lt : Int32.ofNat m < 3 := by rw [hl, on_lt (by omega) (by omega)]; omega
      have le : Int32.ofNat m ≤ 3 := by rw [hl, on_le (by omega) (by omega)]; omega
      have ez : ∀ j, pm_u I 58 3 (Int32.ofNat m) 59 j = 0 := fun j => by rw [pm_u_row, if_neg (by decide)]; exact hz j
      rw [ca_aa58_5, e2, if_neg (Int32.not_le.mpr lt), ca_aa58_13, ca_add_58 ⟨e1, e2, by rw [e3]; exact g.1, by rw [e3]; exact le⟩ (by rw [e3]; exact lt) ez, e3, ca_aa58_17, on_s, pc_uu]
      exact ih (m + 1) (by omega)
  have e0 : pm_u I 58 3 (Int32.ofNat 0) = I := pc_u0 (by rw [h3]; rfl)
  have z := key 3 0 (by omega)
  rw [e0] at z
  rw [ca_aa58_0, h3]
  exact z
theorem ca_c37 {d L : Nat} {I : Nat → Nat → Int32} {J : Nat → Nat → Int64} {Q : Int32 → Int64 → pm_H → Prop} : pm_wc pm_code pm_meta (d + 1) 86 [.ref 58] ((caT_64 L, caO_115, 64, 5737), caI_108 I, caJ_56 J) Q ↔ Q 0 0 ((caT_64 L, caO_115, 64, 5737), caI_109 I, caJ_56 J) := ca_aAll_58 rfl rfl rfl (fun _ => rfl)
theorem ca_c33_s8 {d L : Nat} {I : Nat → Nat → Int32} {J : Nat → Nat → Int64} {Q : Int32 → Int64 → pm_H → Prop} : pm_wp pm_code pm_meta (d + 1) 75 57 ([.ref 57, .ref 9], [], ((caT_64 L, caO_115, 64, 5737), caI_109 I, caJ_56 J)) Q ↔ pm_wc pm_code pm_meta d 86 [.ref 60] ((caT_64 L, caO_115, 64, 5737), caI_109 I, caJ_56 J) (fun v w H => pm_wp pm_code pm_meta (d + 1) 75 64 ([.ref 57, .ref 9], [], H) Q) := (pm_bk_iff pc_ch_75 3 57 _).trans (Iff.rfl)
theorem ca_aa60_0 {d L : Nat} {I : Nat → Nat → Int32} {J : Nat → Nat → Int64} {Q : Int32 → Int64 → pm_H → Prop}  : pm_wc pm_code pm_meta d 86 [.ref 60] ((caT_64 L, caO_115, 64, 5737), I, J) Q ↔ pm_wp pm_code pm_meta d 86 5 ([.ref 60, .int (I 60 3)], [], ((caT_64 L, caO_115, 64, 5737), I, J)) Q := (pm_bk_iff pc_ch_86 3 0 _).trans (Iff.rfl)
theorem ca_aa60_5 {d L : Nat} {I : Nat → Nat → Int32} {J : Nat → Nat → Int64} {Q : Int32 → Int64 → pm_H → Prop} {x1 : Int32} : pm_wp pm_code pm_meta d 86 5 ([.ref 60, .int x1], [], ((caT_64 L, caO_115, 64, 5737), I, J)) Q ↔ if (I 60 2) ≤ x1 then pm_wp pm_code pm_meta d 86 24 ([.ref 60, .int x1], [], ((caT_64 L, caO_115, 64, 5737), I, J)) Q else pm_wp pm_code pm_meta d 86 13 ([.ref 60, .int x1], [], ((caT_64 L, caO_115, 64, 5737), I, J)) Q := (pm_bk_iff pc_ch_86 4 5 _).trans (pm_brd)
theorem ca_aa60_24 {d L : Nat} {I : Nat → Nat → Int32} {J : Nat → Nat → Int64} {Q : Int32 → Int64 → pm_H → Prop} {x1 : Int32} : pm_wp pm_code pm_meta d 86 24 ([.ref 60, .int x1], [], ((caT_64 L, caO_115, 64, 5737), I, J)) Q ↔ Q 0 0 ((caT_64 L, caO_115, 64, 5737), I, J) := (pm_bk_iff pc_ch_86 1 24 _).trans (pm_tt)
theorem ca_aa60_13 {d L : Nat} {I : Nat → Nat → Int32} {J : Nat → Nat → Int64} {Q : Int32 → Int64 → pm_H → Prop} {x1 : Int32} : pm_wp pm_code pm_meta (d + 1) 86 13 ([.ref 60, .int x1], [], ((caT_64 L, caO_115, 64, 5737), I, J)) Q ↔ pm_wc pm_code pm_meta d 85 [.ref 60] ((caT_64 L, caO_115, 64, 5737), I, J) (fun v w H => pm_wp pm_code pm_meta (d + 1) 86 17 ([.ref 60, .int x1], [.int v], H) Q) := (pm_bk_iff pc_ch_86 2 13 _).trans (Iff.rfl)
theorem ca_aa60_17 {d L : Nat} {I : Nat → Nat → Int32} {J : Nat → Nat → Int64} {Q : Int32 → Int64 → pm_H → Prop} {x1 s0 : Int32} : pm_wp pm_code pm_meta d 86 17 ([.ref 60, .int x1], [.int s0], ((caT_64 L, caO_115, 64, 5737), I, J)) Q ↔ pm_wp pm_code pm_meta d 86 5 ([.ref 60, .int (x1 + 1)], [], ((caT_64 L, caO_115, 64, 5737), I, J)) Q := (pm_bk_iff pc_ch_86 3 17 _).trans (Iff.rfl)
theorem ca_ad60_0 {d L : Nat} {I : Nat → Nat → Int32} {J : Nat → Nat → Int64} {Q : Int32 → Int64 → pm_H → Prop}  : pm_wc pm_code pm_meta d 85 [.ref 60] ((caT_64 L, caO_115, 64, 5737), I, J) Q ↔ if (I 60 3) < (I 60 2) then pm_wp pm_code pm_meta d 85 14 ([.ref 60, pm_unset], [], ((caT_64 L, caO_115, 64, 5737), I, J)) Q else pm_wp pm_code pm_meta d 85 11 ([.ref 60, pm_unset], [], ((caT_64 L, caO_115, 64, 5737), I, J)) Q := (pm_bk_iff pc_ch_85 5 0 _).trans (pm_brd)
theorem ca_ad60_14 {d L : Nat} {I : Nat → Nat → Int32} {J : Nat → Nat → Int64} {Q : Int32 → Int64 → pm_H → Prop}  : pm_wp pm_code pm_meta d 85 14 ([.ref 60, pm_unset], [], ((caT_64 L, caO_115, 64, 5737), I, J)) Q ↔ pm_wp pm_code pm_meta d 85 24 ([.ref 60, .int ((I 60 3) * (I 60 1))], [], ((caT_64 L, caO_115, 64, 5737), I, J)) Q := (pm_bk_iff pc_ch_85 6 14 _).trans (Iff.rfl)
theorem ca_ad60_11 {d L : Nat} {I : Nat → Nat → Int32} {J : Nat → Nat → Int64} {Q : Int32 → Int64 → pm_H → Prop}  : pm_wp pm_code pm_meta d 85 11 ([.ref 60, pm_unset], [], ((caT_64 L, caO_115, 64, 5737), I, J)) Q ↔ Q (-2) 0 ((caT_64 L, caO_115, 64, 5737), I, J) := (pm_bk_iff pc_ch_85 2 11 _).trans (pm_tt)
theorem ca_ad60_24 {d L : Nat} {I : Nat → Nat → Int32} {J : Nat → Nat → Int64} {Q : Int32 → Int64 → pm_H → Prop} {x1 : Int32} : pm_wp pm_code pm_meta d 85 24 ([.ref 60, .int x1], [], ((caT_64 L, caO_115, 64, 5737), I, J)) Q ↔ if (((I 60 3) + 1) * (I 60 1)) ≤ x1 then pm_wp pm_code pm_meta d 85 52 ([.ref 60, .int x1], [], ((caT_64 L, caO_115, 64, 5737), I, J)) Q else pm_wp pm_code pm_meta d 85 39 ([.ref 60, .int x1], [], ((caT_64 L, caO_115, 64, 5737), I, J)) Q := (pm_bk_iff pc_ch_85 9 24 _).trans (pm_brd)
theorem ca_ad60_52 {d L : Nat} {I : Nat → Nat → Int32} {J : Nat → Nat → Int64} {Q : Int32 → Int64 → pm_H → Prop} {x1 : Int32} : pm_wp pm_code pm_meta d 85 52 ([.ref 60, .int x1], [], ((caT_64 L, caO_115, 64, 5737), I, J)) Q ↔ Q (((pm_u I 60 3 ((I 60 3) + 1)) 60 3) - 1) 0 ((caT_64 L, caO_115, 64, 5737), (pm_u I 60 3 ((I 60 3) + 1)), J) := (pm_bk_iff pc_ch_85 11 52 _).trans (pm_tt)
theorem ca_ad60_39 {d L : Nat} {I : Nat → Nat → Int32} {J : Nat → Nat → Int64} {Q : Int32 → Int64 → pm_H → Prop} {x1 : Int32} : pm_wp pm_code pm_meta d 85 39 ([.ref 60, .int x1], [], ((caT_64 L, caO_115, 64, 5737), I, J)) Q ↔ pm_in x1 7 = true ∧ (pm_wp pm_code pm_meta d 85 24 ([.ref 60, .int (x1 + 1)], [], ((caT_64 L, caO_115, 64, 5737), (pm_u I 61 x1.toNatClampNeg 0), J)) Q) := (pm_bk_iff pc_ch_85 7 39 _).trans (and_congr Iff.rfl (Iff.rfl))
theorem ca_add_60 {d L : Nat} {I : Nat → Nat → Int32} {J : Nat → Nat → Int64} {Q : Int32 → Int64 → pm_H → Prop} (ht : pm_ti (I 60) 1 7) (hn : I 60 3 < 7) (hz : ∀ j, I 61 j = 0) : pm_wc pm_code pm_meta d 85 [.ref 60] ((caT_64 L, caO_115, 64, 5737), I, J) Q ↔ Q (I 60 3) 0 ((caT_64 L, caO_115, 64, 5737), pm_u I 60 3 (I 60 3 + 1), J) := by
  obtain ⟨h1, h2, h3, h4⟩ := ht
  have h3' := h3
  have hn' := hn
  rw [pi_le, pi_0] at h3'
  rw [pi_lt] at hn'
  have hl : (7 : Int32).toInt = 7 := rfl
  have hw : (1 : Int32).toInt = 1 := rfl
  have g1 : (I 60 3 + 1).toInt = (I 60 3).toInt + 1 := by rw [pi_add (by rw [pi_1]; omega) (by rw [pi_1]; omega), pi_1]
  have g2 : ((I 60 3 + 1) * I 60 1).toInt = ((I 60 3).toInt + 1) * 1 := by rw [h1, pi_mul (by rw [g1, hw]; omega) (by rw [g1, hw]; omega), g1, hw]
  have g3 : (I 60 3 * I 60 1).toInt = (I 60 3).toInt * 1 := by rw [h1, pi_mul (by rw [hw]; omega) (by rw [hw]; omega), hw]
  rw [ca_ad60_0, h2, if_pos hn, ca_ad60_14]
  have hA : ∀ x I', I' 60 = I 60 → (pm_wp pm_code pm_meta d 85 24 ([.ref 60, .int x], [], ((caT_64 L, caO_115, 64, 5737), I', J)) Q ↔ if (I 60 3 + 1) * I 60 1 ≤ x then pm_wp pm_code pm_meta d 85 52 ([.ref 60, .int x], [], ((caT_64 L, caO_115, 64, 5737), I', J)) Q else pm_in x 7 = true ∧ pm_wp pm_code pm_meta d 85 24 ([.ref 60, .int (x + 1)], [], ((caT_64 L, caO_115, 64, 5737), pm_u I' 61 x.toNatClampNeg 0, J)) Q) := by
    intro x I' hr
    rw [ca_ad60_24, hr, ca_ad60_39]
  rw [pm_add_loop (A := fun x I' => pm_wp pm_code pm_meta d 85 24 ([.ref 60, .int x], [], ((caT_64 L, caO_115, 64, 5737), I', J)) Q) (E := fun x I' => pm_wp pm_code pm_meta d 85 52 ([.ref 60, .int x], [], ((caT_64 L, caO_115, 64, 5737), I', J)) Q) (by decide) hA 1 _ I rfl (by rw [pi_le, pi_0]; omega) (by omega) (by omega)]
  rw [pc_zr0 hz, ca_ad60_52, pm_u_row, if_pos rfl, pm_w_at, if_pos rfl, pm_inc_sub]
theorem ca_aAll_60 {d L : Nat} {I : Nat → Nat → Int32} {J : Nat → Nat → Int64} {Q : Int32 → Int64 → pm_H → Prop} (h1 : I 60 1 = 1) (h2 : I 60 2 = 7) (h3 : I 60 3 = 0) (hz : ∀ j, I 61 j = 0) : pm_wc pm_code pm_meta (d + 1) 86 [.ref 60] ((caT_64 L, caO_115, 64, 5737), I, J) Q ↔ Q 0 0 ((caT_64 L, caO_115, 64, 5737), pm_u I 60 3 7, J) := by
  have key : ∀ (k m : Nat), m + k = 7 → (pm_wp pm_code pm_meta (d + 1) 86 5 ([.ref 60, .int (Int32.ofNat m)], [], ((caT_64 L, caO_115, 64, 5737), pm_u I 60 3 (Int32.ofNat m), J)) Q ↔ Q 0 0 ((caT_64 L, caO_115, 64, 5737), pm_u I 60 3 7, J)) := by
    intro k
    induction k with
    | zero =>
      intro m hm
      have em : m = 7 := by omega
      subst em
      have e2 : pm_u I 60 3 (Int32.ofNat 7) 60 2 = 7 := by rw [pm_u_row, if_pos rfl, pm_w_ne (by decide)]; exact h2
      rw [ca_aa60_5, e2, if_pos (by decide), ca_aa60_24]
      exact Iff.rfl
    | succ k ih =>
      intro m hm
      have g := on_n (a := m) (by omega)
      have e1 : pm_u I 60 3 (Int32.ofNat m) 60 1 = 1 := by rw [pm_u_row, if_pos rfl, pm_w_ne (by decide)]; exact h1
      have e2 : pm_u I 60 3 (Int32.ofNat m) 60 2 = 7 := by rw [pm_u_row, if_pos rfl, pm_w_ne (by decide)]; exact h2
      have e3 : pm_u I 60 3 (Int32.ofNat m) 60 3 = Int32.ofNat m := by rw [pm_u_at]
      have hl : (7 : Int32) = Int32.ofNat 7 := rfl
      have lt : Int32.ofNat m < 7 := by rw [hl, on_lt (by omega) (by omega)]; omega
      have le : Int32.ofNat m ≤ 7 := by rw [hl, on_le (by omega) (by omega)]; omega
      have ez : ∀ j, pm_u I 60 3 (Int32.ofNat m) 61 j = 0 := fun j => by rw [pm_u_row, if_neg (by decide)]; exact hz j
      rw [ca_aa60_5, e2, if_neg (Int32.not_le.mpr lt), ca_aa60_13, ca_add_60 ⟨e1, e2, by rw [e3]; exact g.1, by rw [e3]; exact le⟩ (by rw [e3]; exact lt) ez, e3, ca_aa60_17, on_s, pc_uu]
      exact ih (m + 1) (by omega)
  have e0 : pm_u I 60 3 (Int32.ofNat 0) = I := pc_u0 (by rw [h3]; rfl)
  have z := key 7 0 (by omega)
  rw [e0] at z
  rw [ca_aa60_0, h3]
  exact z
theorem ca_c38 {d L : Nat} {I : Nat → Nat → Int32} {J : Nat → Nat → Int64} {Q : Int32 → Int64 → pm_H → Prop} : pm_wc pm_code pm_meta (d + 1) 86 [.ref 60] ((caT_64 L, caO_115, 64, 5737), caI_109 I, caJ_56 J) Q ↔ Q 0 0 ((caT_64 L, caO_115, 64, 5737), caI_110 I, caJ_56 J) := ca_aAll_60 rfl rfl rfl (fun _ => rfl)
theorem ca_c33_s10 {d L : Nat} {I : Nat → Nat → Int32} {J : Nat → Nat → Int64} {Q : Int32 → Int64 → pm_H → Prop} : pm_wp pm_code pm_meta d 75 64 ([.ref 57, .ref 9], [], ((caT_64 L, caO_115, 64, 5737), caI_110 I, caJ_56 J)) Q ↔ Q 0 0 ((caT_64 L, caO_115, 64, 5737), caI_110 I, caJ_56 J) := (pm_bk_iff pc_ch_75 1 64 _).trans (pm_tt)
theorem ca_c33 {d L : Nat} {I : Nat → Nat → Int32} {J : Nat → Nat → Int64} {Q : Int32 → Int64 → pm_H → Prop} : pm_wc pm_code pm_meta (d + 2) 75 [.ref 57, .ref 9] ((caT_58 L, caO_102, 58, 5708), caI_96 I, caJ_50 J) Q ↔ Q 0 0 ((caT_64 L, caO_115, 64, 5737), caI_110 I, caJ_56 J) := by
  rw [ca_c33_s0, ca_c34, ca_c33_s2, ca_c35, ca_c33_s4, ca_c36, ca_c33_s6, ca_c37, ca_c33_s8, ca_c38, ca_c33_s10]
theorem ca_c2_s12 {d L : Nat} {I : Nat → Nat → Int32} {J : Nat → Nat → Int64} {Q : Int32 → Int64 → pm_H → Prop} : pm_wp pm_code pm_meta (d + 1) 111 87 ([.ref 8], [.ref 57, .ref 8], ((caT_64 L, caO_115, 64, 5737), caI_110 I, caJ_56 J)) Q ↔ pm_wc pm_code pm_meta d 7 [.ref 64, .ref 9] ((caT_65 L, caO_117, 65, 5742), caI_111 I, caJ_57 J) (fun v w H => pm_wp pm_code pm_meta (d + 1) 111 102 ([.ref 8], [.ref 64, .ref 8], H) Q) := (pm_bk_iff pc_ch_111 7 87 _).trans (Iff.rfl)
theorem ca_c39_s0 {d L : Nat} {I : Nat → Nat → Int32} {J : Nat → Nat → Int64} {Q : Int32 → Int64 → pm_H → Prop} : pm_wc pm_code pm_meta (d + 1) 7 [.ref 64, .ref 9] ((caT_65 L, caO_117, 65, 5742), caI_111 I, caJ_57 J) Q ↔ pm_wc pm_code pm_meta d 80 [.ref 65, .int 24, .int 1] ((caT_66 L, caO_118, 66, 5746), caI_112 I, caJ_58 J) (fun v w H => pm_wp pm_code pm_meta (d + 1) 7 15 ([.ref 64, .ref 9], [.ref 65, .ref 64], H) Q) := (pm_bk_iff pc_ch_7 8 0 _).trans (Iff.rfl)
theorem ca_c40_s0 {d L : Nat} {I : Nat → Nat → Int32} {J : Nat → Nat → Int64} {Q : Int32 → Int64 → pm_H → Prop} : pm_wc pm_code pm_meta d 80 [.ref 65, .int 24, .int 1] ((caT_66 L, caO_118, 66, 5746), caI_112 I, caJ_58 J) Q ↔ pm_wp pm_code pm_meta d 80 19 ([.ref 65, .int 24, .int 1], [.ref 65], ((caT_66 L, caO_118, 66, 5746), caI_114 I, caJ_58 J)) Q := (pm_bk_iff pc_ch_80 11 0 _).trans (pc_le0 (v := 24) (by decide))
theorem ca_c40_s1 {d L : Nat} {I : Nat → Nat → Int32} {J : Nat → Nat → Int64} {Q : Int32 → Int64 → pm_H → Prop} : pm_wp pm_code pm_meta d 80 19 ([.ref 65, .int 24, .int 1], [.ref 65], ((caT_66 L, caO_118, 66, 5746), caI_114 I, caJ_58 J)) Q ↔ pm_wp pm_code pm_meta d 80 23 ([.ref 65, .int 24, .int 1], [.ref 65], ((caT_66 L, caO_118, 66, 5746), caI_114 I, caJ_58 J)) Q := (pm_bk_iff pc_ch_80 2 19 _).trans (pc_le0 (v := 1) (by decide))
theorem ca_c40_s2 {d L : Nat} {I : Nat → Nat → Int32} {J : Nat → Nat → Int64} {Q : Int32 → Int64 → pm_H → Prop} : pm_wp pm_code pm_meta d 80 23 ([.ref 65, .int 24, .int 1], [.ref 65], ((caT_66 L, caO_118, 66, 5746), caI_114 I, caJ_58 J)) Q ↔ pm_wp pm_code pm_meta d 80 30 ([.ref 65, .int 24, .int 1], [.int (24 * 1), .ref 65], ((caT_66 L, caO_118, 66, 5746), caI_114 I, caJ_58 J)) Q := (pm_bk_iff pc_ch_80 4 23 _).trans (Iff.rfl)
theorem ca_c40_s3 {d L : Nat} {I : Nat → Nat → Int32} {J : Nat → Nat → Int64} {Q : Int32 → Int64 → pm_H → Prop} : pm_wp pm_code pm_meta d 80 30 ([.ref 65, .int 24, .int 1], [.int (24 * 1), .ref 65], ((caT_66 L, caO_118, 66, 5746), caI_114 I, caJ_58 J)) Q ↔ Q 0 0 ((caT_67 L, caO_120, 67, 5770), caI_115 I, caJ_59 J) := (pm_bk_iff pc_ch_80 3 30 _).trans (pm_tt.trans (pm_tt))
theorem ca_c40 {d L : Nat} {I : Nat → Nat → Int32} {J : Nat → Nat → Int64} {Q : Int32 → Int64 → pm_H → Prop} : pm_wc pm_code pm_meta d 80 [.ref 65, .int 24, .int 1] ((caT_66 L, caO_118, 66, 5746), caI_112 I, caJ_58 J) Q ↔ Q 0 0 ((caT_67 L, caO_120, 67, 5770), caI_115 I, caJ_59 J) := by
  rw [ca_c40_s0, ca_c40_s1, ca_c40_s2, ca_c40_s3]
theorem ca_c39_s2 {d L : Nat} {I : Nat → Nat → Int32} {J : Nat → Nat → Int64} {Q : Int32 → Int64 → pm_H → Prop} : pm_wp pm_code pm_meta d 7 15 ([.ref 64, .ref 9], [.ref 65, .ref 64], ((caT_67 L, caO_120, 67, 5770), caI_115 I, caJ_59 J)) Q ↔ Q 0 0 ((caT_67 L, caO_122, 67, 5770), caI_115 I, caJ_59 J) := (pm_bk_iff pc_ch_7 5 15 _).trans (pm_tt)
theorem ca_c39 {d L : Nat} {I : Nat → Nat → Int32} {J : Nat → Nat → Int64} {Q : Int32 → Int64 → pm_H → Prop} : pm_wc pm_code pm_meta (d + 1) 7 [.ref 64, .ref 9] ((caT_65 L, caO_117, 65, 5742), caI_111 I, caJ_57 J) Q ↔ Q 0 0 ((caT_67 L, caO_122, 67, 5770), caI_115 I, caJ_59 J) := by
  rw [ca_c39_s0, ca_c40, ca_c39_s2]
theorem ca_c2_s14 {d L : Nat} {I : Nat → Nat → Int32} {J : Nat → Nat → Int64} {Q : Int32 → Int64 → pm_H → Prop} : pm_wp pm_code pm_meta (d + 1) 111 102 ([.ref 8], [.ref 64, .ref 8], ((caT_67 L, caO_122, 67, 5770), caI_115 I, caJ_59 J)) Q ↔ pm_wc pm_code pm_meta d 61 [.ref 67, .ref 9] ((caT_68 L, caO_124, 68, 5772), caI_116 I, caJ_60 J) (fun v w H => pm_wp pm_code pm_meta (d + 1) 111 117 ([.ref 8], [.ref 67, .ref 8], H) Q) := (pm_bk_iff pc_ch_111 7 102 _).trans (Iff.rfl)
theorem ca_c41_s0 {d L : Nat} {I : Nat → Nat → Int32} {J : Nat → Nat → Int64} {Q : Int32 → Int64 → pm_H → Prop} : pm_wc pm_code pm_meta (d + 1) 61 [.ref 67, .ref 9] ((caT_68 L, caO_124, 68, 5772), caI_116 I, caJ_60 J) Q ↔ pm_wc pm_code pm_meta d 80 [.ref 68, .int 256, .int 1] ((caT_69 L, caO_125, 69, 5776), caI_117 I, caJ_61 J) (fun v w H => pm_wp pm_code pm_meta (d + 1) 61 16 ([.ref 67, .ref 9], [.ref 68, .ref 67], H) Q) := (pm_bk_iff pc_ch_61 8 0 _).trans (Iff.rfl)
theorem ca_c42_s0 {d L : Nat} {I : Nat → Nat → Int32} {J : Nat → Nat → Int64} {Q : Int32 → Int64 → pm_H → Prop} : pm_wc pm_code pm_meta d 80 [.ref 68, .int 256, .int 1] ((caT_69 L, caO_125, 69, 5776), caI_117 I, caJ_61 J) Q ↔ pm_wp pm_code pm_meta d 80 19 ([.ref 68, .int 256, .int 1], [.ref 68], ((caT_69 L, caO_125, 69, 5776), caI_119 I, caJ_61 J)) Q := (pm_bk_iff pc_ch_80 11 0 _).trans (pc_le0 (v := 256) (by decide))
theorem ca_c42_s1 {d L : Nat} {I : Nat → Nat → Int32} {J : Nat → Nat → Int64} {Q : Int32 → Int64 → pm_H → Prop} : pm_wp pm_code pm_meta d 80 19 ([.ref 68, .int 256, .int 1], [.ref 68], ((caT_69 L, caO_125, 69, 5776), caI_119 I, caJ_61 J)) Q ↔ pm_wp pm_code pm_meta d 80 23 ([.ref 68, .int 256, .int 1], [.ref 68], ((caT_69 L, caO_125, 69, 5776), caI_119 I, caJ_61 J)) Q := (pm_bk_iff pc_ch_80 2 19 _).trans (pc_le0 (v := 1) (by decide))
theorem ca_c42_s2 {d L : Nat} {I : Nat → Nat → Int32} {J : Nat → Nat → Int64} {Q : Int32 → Int64 → pm_H → Prop} : pm_wp pm_code pm_meta d 80 23 ([.ref 68, .int 256, .int 1], [.ref 68], ((caT_69 L, caO_125, 69, 5776), caI_119 I, caJ_61 J)) Q ↔ pm_wp pm_code pm_meta d 80 30 ([.ref 68, .int 256, .int 1], [.int (256 * 1), .ref 68], ((caT_69 L, caO_125, 69, 5776), caI_119 I, caJ_61 J)) Q := (pm_bk_iff pc_ch_80 4 23 _).trans (Iff.rfl)
theorem ca_c42_s3 {d L : Nat} {I : Nat → Nat → Int32} {J : Nat → Nat → Int64} {Q : Int32 → Int64 → pm_H → Prop} : pm_wp pm_code pm_meta d 80 30 ([.ref 68, .int 256, .int 1], [.int (256 * 1), .ref 68], ((caT_69 L, caO_125, 69, 5776), caI_119 I, caJ_61 J)) Q ↔ Q 0 0 ((caT_70 L, caO_127, 70, 6032), caI_120 I, caJ_62 J) := (pm_bk_iff pc_ch_80 3 30 _).trans (pm_tt.trans (pm_tt))
theorem ca_c42 {d L : Nat} {I : Nat → Nat → Int32} {J : Nat → Nat → Int64} {Q : Int32 → Int64 → pm_H → Prop} : pm_wc pm_code pm_meta d 80 [.ref 68, .int 256, .int 1] ((caT_69 L, caO_125, 69, 5776), caI_117 I, caJ_61 J) Q ↔ Q 0 0 ((caT_70 L, caO_127, 70, 6032), caI_120 I, caJ_62 J) := by
  rw [ca_c42_s0, ca_c42_s1, ca_c42_s2, ca_c42_s3]
theorem ca_c41_s2 {d L : Nat} {I : Nat → Nat → Int32} {J : Nat → Nat → Int64} {Q : Int32 → Int64 → pm_H → Prop} : pm_wp pm_code pm_meta (d + 1) 61 16 ([.ref 67, .ref 9], [.ref 68, .ref 67], ((caT_70 L, caO_127, 70, 6032), caI_120 I, caJ_62 J)) Q ↔ pm_wc pm_code pm_meta d 86 [.ref 68] ((caT_70 L, caO_129, 70, 6032), caI_120 I, caJ_62 J) (fun v w H => pm_wp pm_code pm_meta (d + 1) 61 31 ([.ref 67, .ref 9], [], H) Q) := (pm_bk_iff pc_ch_61 7 16 _).trans (Iff.rfl)
theorem ca_aa68_0 {d L : Nat} {I : Nat → Nat → Int32} {J : Nat → Nat → Int64} {Q : Int32 → Int64 → pm_H → Prop}  : pm_wc pm_code pm_meta d 86 [.ref 68] ((caT_70 L, caO_129, 70, 6032), I, J) Q ↔ pm_wp pm_code pm_meta d 86 5 ([.ref 68, .int (I 68 3)], [], ((caT_70 L, caO_129, 70, 6032), I, J)) Q := (pm_bk_iff pc_ch_86 3 0 _).trans (Iff.rfl)
theorem ca_aa68_5 {d L : Nat} {I : Nat → Nat → Int32} {J : Nat → Nat → Int64} {Q : Int32 → Int64 → pm_H → Prop} {x1 : Int32} : pm_wp pm_code pm_meta d 86 5 ([.ref 68, .int x1], [], ((caT_70 L, caO_129, 70, 6032), I, J)) Q ↔ if (I 68 2) ≤ x1 then pm_wp pm_code pm_meta d 86 24 ([.ref 68, .int x1], [], ((caT_70 L, caO_129, 70, 6032), I, J)) Q else pm_wp pm_code pm_meta d 86 13 ([.ref 68, .int x1], [], ((caT_70 L, caO_129, 70, 6032), I, J)) Q := (pm_bk_iff pc_ch_86 4 5 _).trans (pm_brd)
theorem ca_aa68_24 {d L : Nat} {I : Nat → Nat → Int32} {J : Nat → Nat → Int64} {Q : Int32 → Int64 → pm_H → Prop} {x1 : Int32} : pm_wp pm_code pm_meta d 86 24 ([.ref 68, .int x1], [], ((caT_70 L, caO_129, 70, 6032), I, J)) Q ↔ Q 0 0 ((caT_70 L, caO_129, 70, 6032), I, J) := (pm_bk_iff pc_ch_86 1 24 _).trans (pm_tt)
theorem ca_aa68_13 {d L : Nat} {I : Nat → Nat → Int32} {J : Nat → Nat → Int64} {Q : Int32 → Int64 → pm_H → Prop} {x1 : Int32} : pm_wp pm_code pm_meta (d + 1) 86 13 ([.ref 68, .int x1], [], ((caT_70 L, caO_129, 70, 6032), I, J)) Q ↔ pm_wc pm_code pm_meta d 85 [.ref 68] ((caT_70 L, caO_129, 70, 6032), I, J) (fun v w H => pm_wp pm_code pm_meta (d + 1) 86 17 ([.ref 68, .int x1], [.int v], H) Q) := (pm_bk_iff pc_ch_86 2 13 _).trans (Iff.rfl)
theorem ca_aa68_17 {d L : Nat} {I : Nat → Nat → Int32} {J : Nat → Nat → Int64} {Q : Int32 → Int64 → pm_H → Prop} {x1 s0 : Int32} : pm_wp pm_code pm_meta d 86 17 ([.ref 68, .int x1], [.int s0], ((caT_70 L, caO_129, 70, 6032), I, J)) Q ↔ pm_wp pm_code pm_meta d 86 5 ([.ref 68, .int (x1 + 1)], [], ((caT_70 L, caO_129, 70, 6032), I, J)) Q := (pm_bk_iff pc_ch_86 3 17 _).trans (Iff.rfl)
theorem ca_ad68_0 {d L : Nat} {I : Nat → Nat → Int32} {J : Nat → Nat → Int64} {Q : Int32 → Int64 → pm_H → Prop}  : pm_wc pm_code pm_meta d 85 [.ref 68] ((caT_70 L, caO_129, 70, 6032), I, J) Q ↔ if (I 68 3) < (I 68 2) then pm_wp pm_code pm_meta d 85 14 ([.ref 68, pm_unset], [], ((caT_70 L, caO_129, 70, 6032), I, J)) Q else pm_wp pm_code pm_meta d 85 11 ([.ref 68, pm_unset], [], ((caT_70 L, caO_129, 70, 6032), I, J)) Q := (pm_bk_iff pc_ch_85 5 0 _).trans (pm_brd)
theorem ca_ad68_14 {d L : Nat} {I : Nat → Nat → Int32} {J : Nat → Nat → Int64} {Q : Int32 → Int64 → pm_H → Prop}  : pm_wp pm_code pm_meta d 85 14 ([.ref 68, pm_unset], [], ((caT_70 L, caO_129, 70, 6032), I, J)) Q ↔ pm_wp pm_code pm_meta d 85 24 ([.ref 68, .int ((I 68 3) * (I 68 1))], [], ((caT_70 L, caO_129, 70, 6032), I, J)) Q := (pm_bk_iff pc_ch_85 6 14 _).trans (Iff.rfl)
theorem ca_ad68_11 {d L : Nat} {I : Nat → Nat → Int32} {J : Nat → Nat → Int64} {Q : Int32 → Int64 → pm_H → Prop}  : pm_wp pm_code pm_meta d 85 11 ([.ref 68, pm_unset], [], ((caT_70 L, caO_129, 70, 6032), I, J)) Q ↔ Q (-2) 0 ((caT_70 L, caO_129, 70, 6032), I, J) := (pm_bk_iff pc_ch_85 2 11 _).trans (pm_tt)
theorem ca_ad68_24 {d L : Nat} {I : Nat → Nat → Int32} {J : Nat → Nat → Int64} {Q : Int32 → Int64 → pm_H → Prop} {x1 : Int32} : pm_wp pm_code pm_meta d 85 24 ([.ref 68, .int x1], [], ((caT_70 L, caO_129, 70, 6032), I, J)) Q ↔ if (((I 68 3) + 1) * (I 68 1)) ≤ x1 then pm_wp pm_code pm_meta d 85 52 ([.ref 68, .int x1], [], ((caT_70 L, caO_129, 70, 6032), I, J)) Q else pm_wp pm_code pm_meta d 85 39 ([.ref 68, .int x1], [], ((caT_70 L, caO_129, 70, 6032), I, J)) Q := (pm_bk_iff pc_ch_85 9 24 _).trans (pm_brd)
theorem ca_ad68_52 {d L : Nat} {I : Nat → Nat → Int32} {J : Nat → Nat → Int64} {Q : Int32 → Int64 → pm_H → Prop} {x1 : Int32} : pm_wp pm_code pm_meta d 85 52 ([.ref 68, .int x1], [], ((caT_70 L, caO_129, 70, 6032), I, J)) Q ↔ Q (((pm_u I 68 3 ((I 68 3) + 1)) 68 3) - 1) 0 ((caT_70 L, caO_129, 70, 6032), (pm_u I 68 3 ((I 68 3) + 1)), J) := (pm_bk_iff pc_ch_85 11 52 _).trans (pm_tt)
theorem ca_ad68_39 {d L : Nat} {I : Nat → Nat → Int32} {J : Nat → Nat → Int64} {Q : Int32 → Int64 → pm_H → Prop} {x1 : Int32} : pm_wp pm_code pm_meta d 85 39 ([.ref 68, .int x1], [], ((caT_70 L, caO_129, 70, 6032), I, J)) Q ↔ pm_in x1 256 = true ∧ (pm_wp pm_code pm_meta d 85 24 ([.ref 68, .int (x1 + 1)], [], ((caT_70 L, caO_129, 70, 6032), (pm_u I 69 x1.toNatClampNeg 0), J)) Q) := (pm_bk_iff pc_ch_85 7 39 _).trans (and_congr Iff.rfl (Iff.rfl))
theorem ca_add_68 {d L : Nat} {I : Nat → Nat → Int32} {J : Nat → Nat → Int64} {Q : Int32 → Int64 → pm_H → Prop} (ht : pm_ti (I 68) 1 256) (hn : I 68 3 < 256) (hz : ∀ j, I 69 j = 0) : pm_wc pm_code pm_meta d 85 [.ref 68] ((caT_70 L, caO_129, 70, 6032), I, J) Q ↔ Q (I 68 3) 0 ((caT_70 L, caO_129, 70, 6032), pm_u I 68 3 (I 68 3 + 1), J) := by
  obtain ⟨h1, h2, h3, h4⟩ := ht
  have h3' := h3
  have hn' := hn
  rw [pi_le, pi_0] at h3'
  rw [pi_lt] at hn'
  have hl : (256 : Int32).toInt = 256 := rfl
  have hw : (1 : Int32).toInt = 1 := rfl
  have g1 : (I 68 3 + 1).toInt = (I 68 3).toInt + 1 := by rw [pi_add (by rw [pi_1]; omega) (by rw [pi_1]; omega), pi_1]
  have g2 : ((I 68 3 + 1) * I 68 1).toInt = ((I 68 3).toInt + 1) * 1 := by rw [h1, pi_mul (by rw [g1, hw]; omega) (by rw [g1, hw]; omega), g1, hw]
  have g3 : (I 68 3 * I 68 1).toInt = (I 68 3).toInt * 1 := by rw [h1, pi_mul (by rw [hw]; omega) (by rw [hw]; omega), hw]
  rw [ca_ad68_0, h2, if_pos hn, ca_ad68_14]
  have hA : ∀ x I', I' 68 = I 68 → (pm_wp pm_code pm_meta d 85 24 ([.ref 68, .int x], [], ((caT_70 L, caO_129, 70, 6032), I', J)) Q ↔ if (I 68 3 + 1) * I 68 1 ≤ x then pm_wp pm_code pm_meta d 85 52 ([.ref 68, .int x], [], ((caT_70 L, caO_129, 70, 6032), I', J)) Q else pm_in x 256 = true ∧ pm_wp pm_code pm_meta d 85 24 ([.ref 68, .int (x + 1)], [], ((caT_70 L, caO_129, 70, 6032), pm_u I' 69 x.toNatClampNeg 0, J)) Q) := by
    intro x I' hr
    rw [ca_ad68_24, hr, ca_ad68_39]
  rw [pm_add_loop (A := fun x I' => pm_wp pm_code pm_meta d 85 24 ([.ref 68, .int x], [], ((caT_70 L, caO_129, 70, 6032), I', J)) Q) (E := fun x I' => pm_wp pm_code pm_meta d 85 52 ([.ref 68, .int x], [], ((caT_70 L, caO_129, 70, 6032), I', J)) Q) (by decide) hA 1 _ I rfl (by rw [pi_le, pi_0]; omega) (by omega) (by omega)]
  rw [pc_zr0 hz, ca_ad68_52, pm_u_row, if_pos rfl, pm_w_at, if_pos rfl, pm_inc_sub]
theorem ca_aAll_68 {d L : Nat} {I : Nat → Nat → Int32} {J : Nat → Nat → Int64} {Q : Int32 → Int64 → pm_H → Prop} (h1 : I 68 1 = 1) (h2 : I 68 2 = 256) (h3 : I 68 3 = 0) (hz : ∀ j, I 69 j = 0) : pm_wc pm_code pm_meta (d + 1) 86 [.ref 68] ((caT_70 L, caO_129, 70, 6032), I, J) Q ↔ Q 0 0 ((caT_70 L, caO_129, 70, 6032), pm_u I 68 3 256, J) := by
  have key : ∀ (k m : Nat), m + k = 256 → (pm_wp pm_code pm_meta (d + 1) 86 5 ([.ref 68, .int (Int32.ofNat m)], [], ((caT_70 L, caO_129, 70, 6032), pm_u I 68 3 (Int32.ofNat m), J)) Q ↔ Q 0 0 ((caT_70 L, caO_129, 70, 6032), pm_u I 68 3 256, J)) := by
    intro k
    induction k with
    | zero =>
      intro m hm
      have em : m = 256 := by omega
      subst em
      have e2 : pm_u I 68 3 (Int32.ofNat 256) 68 2 = 256 := by rw [pm_u_row, if_pos rfl, pm_w_ne (by decide)]; exact h2
      rw [ca_aa68_5, e2, if_pos (by decide), ca_aa68_24]
      exact Iff.rfl
    | succ k ih =>
      intro m hm
      have g := on_n (a := m) (by omega)
      have e1 : pm_u I 68 3 (Int32.ofNat m) 68 1 = 1 := by rw [pm_u_row, if_pos rfl, pm_w_ne (by decide)]; exact h1
      have e2 : pm_u I 68 3 (Int32.ofNat m) 68 2 = 256 := by rw [pm_u_row, if_pos rfl, pm_w_ne (by decide)]; exact h2
      have e3 : pm_u I 68 3 (Int32.ofNat m) 68 3 = Int32.ofNat m := by rw [pm_u_at]
      have hl : (256 : Int32) = Int32.ofNat 256 := rfl
      have lt : Int32.ofNat m < 256 := by rw [hl, on_lt (by omega) (by omega)]; omega
      have le : Int32.ofNat m ≤ 256 := by rw [hl, on_le (by omega) (by omega)]; omega
      have ez : ∀ j, pm_u I 68 3 (Int32.ofNat m) 69 j = 0 := fun j => by rw [pm_u_row, if_neg (by decide)]; exact hz j
      rw [ca_aa68_5, e2, if_neg (Int32.not_le.mpr lt), ca_aa68_13, ca_add_68 ⟨e1, e2, by rw [e3]; exact g.1, by rw [e3]; exact le⟩ (by rw [e3]; exact lt) ez, e3, ca_aa68_17, on_s, pc_uu]
      exact ih (m + 1) (by omega)
  have e0 : pm_u I 68 3 (Int32.ofNat 0) = I := pc_u0 (by rw [h3]; rfl)
  have z := key 256 0 (by omega)
  rw [e0] at z
  rw [ca_aa68_0, h3]
  exact z
theorem ca_c43 {d L : Nat} {I : Nat → Nat → Int32} {J : Nat → Nat → Int64} {Q : Int32 → Int64 → pm_H → Prop} : pm_wc pm_code pm_meta (d + 1) 86 [.ref 68] ((caT_70 L, caO_129, 70, 6032), caI_120 I, caJ_62 J) Q ↔ Q 0 0 ((caT_70 L, caO_129, 70, 6032), caI_121 I, caJ_62 J) := ca_aAll_68 rfl rfl rfl (fun _ => rfl)
theorem ca_c41_s4 {d L : Nat} {I : Nat → Nat → Int32} {J : Nat → Nat → Int64} {Q : Int32 → Int64 → pm_H → Prop} : pm_wp pm_code pm_meta d 61 31 ([.ref 67, .ref 9], [], ((caT_70 L, caO_129, 70, 6032), caI_121 I, caJ_62 J)) Q ↔ Q 0 0 ((caT_70 L, caO_129, 70, 6032), caI_121 I, caJ_62 J) := (pm_bk_iff pc_ch_61 1 31 _).trans (pm_tt)
theorem ca_c41 {d L : Nat} {I : Nat → Nat → Int32} {J : Nat → Nat → Int64} {Q : Int32 → Int64 → pm_H → Prop} : pm_wc pm_code pm_meta (d + 2) 61 [.ref 67, .ref 9] ((caT_68 L, caO_124, 68, 5772), caI_116 I, caJ_60 J) Q ↔ Q 0 0 ((caT_70 L, caO_129, 70, 6032), caI_121 I, caJ_62 J) := by
  rw [ca_c41_s0, ca_c42, ca_c41_s2, ca_c43, ca_c41_s4]
theorem ca_c2_s16 {d L : Nat} {I : Nat → Nat → Int32} {J : Nat → Nat → Int64} {Q : Int32 → Int64 → pm_H → Prop} : pm_wp pm_code pm_meta (d + 1) 111 117 ([.ref 8], [.ref 67, .ref 8], ((caT_70 L, caO_129, 70, 6032), caI_121 I, caJ_62 J)) Q ↔ pm_wc pm_code pm_meta d 10 [.ref 70, .ref 9] ((caT_71 L, caO_131, 71, 6039), caI_122 I, caJ_63 J) (fun v w H => pm_wp pm_code pm_meta (d + 1) 111 132 ([.ref 8], [.ref 70, .ref 8], H) Q) := (pm_bk_iff pc_ch_111 7 117 _).trans (Iff.rfl)
theorem ca_c44_s0 {d L : Nat} {I : Nat → Nat → Int32} {J : Nat → Nat → Int64} {Q : Int32 → Int64 → pm_H → Prop} : pm_wc pm_code pm_meta (d + 1) 10 [.ref 70, .ref 9] ((caT_71 L, caO_131, 71, 6039), caI_122 I, caJ_63 J) Q ↔ pm_wc pm_code pm_meta d 80 [.ref 71, .int 4, .int 2] ((caT_72 L, caO_132, 72, 6043), caI_123 I, caJ_64 J) (fun v w H => pm_wp pm_code pm_meta (d + 1) 10 14 ([.ref 70, .ref 9, pm_unset], [.ref 71, .ref 70], H) Q) := (pm_bk_iff pc_ch_10 8 0 _).trans (Iff.rfl)
theorem ca_c45_s0 {d L : Nat} {I : Nat → Nat → Int32} {J : Nat → Nat → Int64} {Q : Int32 → Int64 → pm_H → Prop} : pm_wc pm_code pm_meta d 80 [.ref 71, .int 4, .int 2] ((caT_72 L, caO_132, 72, 6043), caI_123 I, caJ_64 J) Q ↔ pm_wp pm_code pm_meta d 80 19 ([.ref 71, .int 4, .int 2], [.ref 71], ((caT_72 L, caO_132, 72, 6043), caI_125 I, caJ_64 J)) Q := (pm_bk_iff pc_ch_80 11 0 _).trans (pc_le0 (v := 4) (by decide))
theorem ca_c45_s1 {d L : Nat} {I : Nat → Nat → Int32} {J : Nat → Nat → Int64} {Q : Int32 → Int64 → pm_H → Prop} : pm_wp pm_code pm_meta d 80 19 ([.ref 71, .int 4, .int 2], [.ref 71], ((caT_72 L, caO_132, 72, 6043), caI_125 I, caJ_64 J)) Q ↔ pm_wp pm_code pm_meta d 80 23 ([.ref 71, .int 4, .int 2], [.ref 71], ((caT_72 L, caO_132, 72, 6043), caI_125 I, caJ_64 J)) Q := (pm_bk_iff pc_ch_80 2 19 _).trans (pc_le0 (v := 2) (by decide))
theorem ca_c45_s2 {d L : Nat} {I : Nat → Nat → Int32} {J : Nat → Nat → Int64} {Q : Int32 → Int64 → pm_H → Prop} : pm_wp pm_code pm_meta d 80 23 ([.ref 71, .int 4, .int 2], [.ref 71], ((caT_72 L, caO_132, 72, 6043), caI_125 I, caJ_64 J)) Q ↔ pm_wp pm_code pm_meta d 80 30 ([.ref 71, .int 4, .int 2], [.int (4 * 2), .ref 71], ((caT_72 L, caO_132, 72, 6043), caI_125 I, caJ_64 J)) Q := (pm_bk_iff pc_ch_80 4 23 _).trans (Iff.rfl)
theorem ca_c45_s3 {d L : Nat} {I : Nat → Nat → Int32} {J : Nat → Nat → Int64} {Q : Int32 → Int64 → pm_H → Prop} : pm_wp pm_code pm_meta d 80 30 ([.ref 71, .int 4, .int 2], [.int (4 * 2), .ref 71], ((caT_72 L, caO_132, 72, 6043), caI_125 I, caJ_64 J)) Q ↔ Q 0 0 ((caT_73 L, caO_134, 73, 6051), caI_126 I, caJ_65 J) := (pm_bk_iff pc_ch_80 3 30 _).trans (pm_tt.trans (pm_tt))
theorem ca_c45 {d L : Nat} {I : Nat → Nat → Int32} {J : Nat → Nat → Int64} {Q : Int32 → Int64 → pm_H → Prop} : pm_wc pm_code pm_meta d 80 [.ref 71, .int 4, .int 2] ((caT_72 L, caO_132, 72, 6043), caI_123 I, caJ_64 J) Q ↔ Q 0 0 ((caT_73 L, caO_134, 73, 6051), caI_126 I, caJ_65 J) := by
  rw [ca_c45_s0, ca_c45_s1, ca_c45_s2, ca_c45_s3]
theorem ca_c44_s2 {d L : Nat} {I : Nat → Nat → Int32} {J : Nat → Nat → Int64} {Q : Int32 → Int64 → pm_H → Prop} : pm_wp pm_code pm_meta (d + 1) 10 14 ([.ref 70, .ref 9, pm_unset], [.ref 71, .ref 70], ((caT_73 L, caO_134, 73, 6051), caI_126 I, caJ_65 J)) Q ↔ pm_wc pm_code pm_meta d 80 [.ref 73, .int 4, .int 40] ((caT_74 L, caO_136, 74, 6055), caI_127 I, caJ_66 J) (fun v w H => pm_wp pm_code pm_meta (d + 1) 10 28 ([.ref 70, .ref 9, pm_unset], [.ref 73, .ref 70], H) Q) := (pm_bk_iff pc_ch_10 7 14 _).trans (Iff.rfl)
theorem ca_c46_s0 {d L : Nat} {I : Nat → Nat → Int32} {J : Nat → Nat → Int64} {Q : Int32 → Int64 → pm_H → Prop} : pm_wc pm_code pm_meta d 80 [.ref 73, .int 4, .int 40] ((caT_74 L, caO_136, 74, 6055), caI_127 I, caJ_66 J) Q ↔ pm_wp pm_code pm_meta d 80 19 ([.ref 73, .int 4, .int 40], [.ref 73], ((caT_74 L, caO_136, 74, 6055), caI_129 I, caJ_66 J)) Q := (pm_bk_iff pc_ch_80 11 0 _).trans (pc_le0 (v := 4) (by decide))
theorem ca_c46_s1 {d L : Nat} {I : Nat → Nat → Int32} {J : Nat → Nat → Int64} {Q : Int32 → Int64 → pm_H → Prop} : pm_wp pm_code pm_meta d 80 19 ([.ref 73, .int 4, .int 40], [.ref 73], ((caT_74 L, caO_136, 74, 6055), caI_129 I, caJ_66 J)) Q ↔ pm_wp pm_code pm_meta d 80 23 ([.ref 73, .int 4, .int 40], [.ref 73], ((caT_74 L, caO_136, 74, 6055), caI_129 I, caJ_66 J)) Q := (pm_bk_iff pc_ch_80 2 19 _).trans (pc_le0 (v := 40) (by decide))
theorem ca_c46_s2 {d L : Nat} {I : Nat → Nat → Int32} {J : Nat → Nat → Int64} {Q : Int32 → Int64 → pm_H → Prop} : pm_wp pm_code pm_meta d 80 23 ([.ref 73, .int 4, .int 40], [.ref 73], ((caT_74 L, caO_136, 74, 6055), caI_129 I, caJ_66 J)) Q ↔ pm_wp pm_code pm_meta d 80 30 ([.ref 73, .int 4, .int 40], [.int (4 * 40), .ref 73], ((caT_74 L, caO_136, 74, 6055), caI_129 I, caJ_66 J)) Q := (pm_bk_iff pc_ch_80 4 23 _).trans (Iff.rfl)
theorem ca_c46_s3 {d L : Nat} {I : Nat → Nat → Int32} {J : Nat → Nat → Int64} {Q : Int32 → Int64 → pm_H → Prop} : pm_wp pm_code pm_meta d 80 30 ([.ref 73, .int 4, .int 40], [.int (4 * 40), .ref 73], ((caT_74 L, caO_136, 74, 6055), caI_129 I, caJ_66 J)) Q ↔ Q 0 0 ((caT_75 L, caO_138, 75, 6215), caI_130 I, caJ_67 J) := (pm_bk_iff pc_ch_80 3 30 _).trans (pm_tt.trans (pm_tt))
theorem ca_c46 {d L : Nat} {I : Nat → Nat → Int32} {J : Nat → Nat → Int64} {Q : Int32 → Int64 → pm_H → Prop} : pm_wc pm_code pm_meta d 80 [.ref 73, .int 4, .int 40] ((caT_74 L, caO_136, 74, 6055), caI_127 I, caJ_66 J) Q ↔ Q 0 0 ((caT_75 L, caO_138, 75, 6215), caI_130 I, caJ_67 J) := by
  rw [ca_c46_s0, ca_c46_s1, ca_c46_s2, ca_c46_s3]
theorem ca_c44_s4 {d L : Nat} {I : Nat → Nat → Int32} {J : Nat → Nat → Int64} {Q : Int32 → Int64 → pm_H → Prop} : pm_wp pm_code pm_meta (d + 1) 10 28 ([.ref 70, .ref 9, pm_unset], [.ref 73, .ref 70], ((caT_75 L, caO_138, 75, 6215), caI_130 I, caJ_67 J)) Q ↔ pm_wc pm_code pm_meta d 80 [.ref 75, .int 4, .int 3] ((caT_76 L, caO_140, 76, 6219), caI_131 I, caJ_68 J) (fun v w H => pm_wp pm_code pm_meta (d + 1) 10 41 ([.ref 70, .ref 9, pm_unset], [.ref 75, .ref 70], H) Q) := (pm_bk_iff pc_ch_10 7 28 _).trans (Iff.rfl)
theorem ca_c47_s0 {d L : Nat} {I : Nat → Nat → Int32} {J : Nat → Nat → Int64} {Q : Int32 → Int64 → pm_H → Prop} : pm_wc pm_code pm_meta d 80 [.ref 75, .int 4, .int 3] ((caT_76 L, caO_140, 76, 6219), caI_131 I, caJ_68 J) Q ↔ pm_wp pm_code pm_meta d 80 19 ([.ref 75, .int 4, .int 3], [.ref 75], ((caT_76 L, caO_140, 76, 6219), caI_133 I, caJ_68 J)) Q := (pm_bk_iff pc_ch_80 11 0 _).trans (pc_le0 (v := 4) (by decide))
theorem ca_c47_s1 {d L : Nat} {I : Nat → Nat → Int32} {J : Nat → Nat → Int64} {Q : Int32 → Int64 → pm_H → Prop} : pm_wp pm_code pm_meta d 80 19 ([.ref 75, .int 4, .int 3], [.ref 75], ((caT_76 L, caO_140, 76, 6219), caI_133 I, caJ_68 J)) Q ↔ pm_wp pm_code pm_meta d 80 23 ([.ref 75, .int 4, .int 3], [.ref 75], ((caT_76 L, caO_140, 76, 6219), caI_133 I, caJ_68 J)) Q := (pm_bk_iff pc_ch_80 2 19 _).trans (pc_le0 (v := 3) (by decide))
theorem ca_c47_s2 {d L : Nat} {I : Nat → Nat → Int32} {J : Nat → Nat → Int64} {Q : Int32 → Int64 → pm_H → Prop} : pm_wp pm_code pm_meta d 80 23 ([.ref 75, .int 4, .int 3], [.ref 75], ((caT_76 L, caO_140, 76, 6219), caI_133 I, caJ_68 J)) Q ↔ pm_wp pm_code pm_meta d 80 30 ([.ref 75, .int 4, .int 3], [.int (4 * 3), .ref 75], ((caT_76 L, caO_140, 76, 6219), caI_133 I, caJ_68 J)) Q := (pm_bk_iff pc_ch_80 4 23 _).trans (Iff.rfl)
theorem ca_c47_s3 {d L : Nat} {I : Nat → Nat → Int32} {J : Nat → Nat → Int64} {Q : Int32 → Int64 → pm_H → Prop} : pm_wp pm_code pm_meta d 80 30 ([.ref 75, .int 4, .int 3], [.int (4 * 3), .ref 75], ((caT_76 L, caO_140, 76, 6219), caI_133 I, caJ_68 J)) Q ↔ Q 0 0 ((caT_77 L, caO_142, 77, 6231), caI_134 I, caJ_69 J) := (pm_bk_iff pc_ch_80 3 30 _).trans (pm_tt.trans (pm_tt))
theorem ca_c47 {d L : Nat} {I : Nat → Nat → Int32} {J : Nat → Nat → Int64} {Q : Int32 → Int64 → pm_H → Prop} : pm_wc pm_code pm_meta d 80 [.ref 75, .int 4, .int 3] ((caT_76 L, caO_140, 76, 6219), caI_131 I, caJ_68 J) Q ↔ Q 0 0 ((caT_77 L, caO_142, 77, 6231), caI_134 I, caJ_69 J) := by
  rw [ca_c47_s0, ca_c47_s1, ca_c47_s2, ca_c47_s3]
theorem ca_c44_s6 {d L : Nat} {I : Nat → Nat → Int32} {J : Nat → Nat → Int64} {Q : Int32 → Int64 → pm_H → Prop} : pm_wp pm_code pm_meta (d + 1) 10 41 ([.ref 70, .ref 9, pm_unset], [.ref 75, .ref 70], ((caT_77 L, caO_142, 77, 6231), caI_134 I, caJ_69 J)) Q ↔ pm_wc pm_code pm_meta d 80 [.ref 77, .int 30, .int 1] ((caT_78 L, caO_144, 78, 6235), caI_135 I, caJ_70 J) (fun v w H => pm_wp pm_code pm_meta (d + 1) 10 55 ([.ref 70, .ref 9, pm_unset], [.ref 77, .ref 70], H) Q) := (pm_bk_iff pc_ch_10 7 41 _).trans (Iff.rfl)
theorem ca_c48_s0 {d L : Nat} {I : Nat → Nat → Int32} {J : Nat → Nat → Int64} {Q : Int32 → Int64 → pm_H → Prop} : pm_wc pm_code pm_meta d 80 [.ref 77, .int 30, .int 1] ((caT_78 L, caO_144, 78, 6235), caI_135 I, caJ_70 J) Q ↔ pm_wp pm_code pm_meta d 80 19 ([.ref 77, .int 30, .int 1], [.ref 77], ((caT_78 L, caO_144, 78, 6235), caI_137 I, caJ_70 J)) Q := (pm_bk_iff pc_ch_80 11 0 _).trans (pc_le0 (v := 30) (by decide))
theorem ca_c48_s1 {d L : Nat} {I : Nat → Nat → Int32} {J : Nat → Nat → Int64} {Q : Int32 → Int64 → pm_H → Prop} : pm_wp pm_code pm_meta d 80 19 ([.ref 77, .int 30, .int 1], [.ref 77], ((caT_78 L, caO_144, 78, 6235), caI_137 I, caJ_70 J)) Q ↔ pm_wp pm_code pm_meta d 80 23 ([.ref 77, .int 30, .int 1], [.ref 77], ((caT_78 L, caO_144, 78, 6235), caI_137 I, caJ_70 J)) Q := (pm_bk_iff pc_ch_80 2 19 _).trans (pc_le0 (v := 1) (by decide))
theorem ca_c48_s2 {d L : Nat} {I : Nat → Nat → Int32} {J : Nat → Nat → Int64} {Q : Int32 → Int64 → pm_H → Prop} : pm_wp pm_code pm_meta d 80 23 ([.ref 77, .int 30, .int 1], [.ref 77], ((caT_78 L, caO_144, 78, 6235), caI_137 I, caJ_70 J)) Q ↔ pm_wp pm_code pm_meta d 80 30 ([.ref 77, .int 30, .int 1], [.int (30 * 1), .ref 77], ((caT_78 L, caO_144, 78, 6235), caI_137 I, caJ_70 J)) Q := (pm_bk_iff pc_ch_80 4 23 _).trans (Iff.rfl)
theorem ca_c48_s3 {d L : Nat} {I : Nat → Nat → Int32} {J : Nat → Nat → Int64} {Q : Int32 → Int64 → pm_H → Prop} : pm_wp pm_code pm_meta d 80 30 ([.ref 77, .int 30, .int 1], [.int (30 * 1), .ref 77], ((caT_78 L, caO_144, 78, 6235), caI_137 I, caJ_70 J)) Q ↔ Q 0 0 ((caT_79 L, caO_146, 79, 6265), caI_138 I, caJ_71 J) := (pm_bk_iff pc_ch_80 3 30 _).trans (pm_tt.trans (pm_tt))
theorem ca_c48 {d L : Nat} {I : Nat → Nat → Int32} {J : Nat → Nat → Int64} {Q : Int32 → Int64 → pm_H → Prop} : pm_wc pm_code pm_meta d 80 [.ref 77, .int 30, .int 1] ((caT_78 L, caO_144, 78, 6235), caI_135 I, caJ_70 J) Q ↔ Q 0 0 ((caT_79 L, caO_146, 79, 6265), caI_138 I, caJ_71 J) := by
  rw [ca_c48_s0, ca_c48_s1, ca_c48_s2, ca_c48_s3]
theorem ca_c44_s8 {d L : Nat} {I : Nat → Nat → Int32} {J : Nat → Nat → Int64} {Q : Int32 → Int64 → pm_H → Prop} : pm_wp pm_code pm_meta (d + 1) 10 55 ([.ref 70, .ref 9, pm_unset], [.ref 77, .ref 70], ((caT_79 L, caO_146, 79, 6265), caI_138 I, caJ_71 J)) Q ↔ pm_wc pm_code pm_meta d 86 [.ref 71] ((caT_79 L, caO_148, 79, 6265), caI_138 I, caJ_71 J) (fun v w H => pm_wp pm_code pm_meta (d + 1) 10 70 ([.ref 70, .ref 9, pm_unset], [], H) Q) := (pm_bk_iff pc_ch_10 7 55 _).trans (Iff.rfl)
theorem ca_aa71_0 {d L : Nat} {I : Nat → Nat → Int32} {J : Nat → Nat → Int64} {Q : Int32 → Int64 → pm_H → Prop}  : pm_wc pm_code pm_meta d 86 [.ref 71] ((caT_79 L, caO_148, 79, 6265), I, J) Q ↔ pm_wp pm_code pm_meta d 86 5 ([.ref 71, .int (I 71 3)], [], ((caT_79 L, caO_148, 79, 6265), I, J)) Q := (pm_bk_iff pc_ch_86 3 0 _).trans (Iff.rfl)
theorem ca_aa71_5 {d L : Nat} {I : Nat → Nat → Int32} {J : Nat → Nat → Int64} {Q : Int32 → Int64 → pm_H → Prop} {x1 : Int32} : pm_wp pm_code pm_meta d 86 5 ([.ref 71, .int x1], [], ((caT_79 L, caO_148, 79, 6265), I, J)) Q ↔ if (I 71 2) ≤ x1 then pm_wp pm_code pm_meta d 86 24 ([.ref 71, .int x1], [], ((caT_79 L, caO_148, 79, 6265), I, J)) Q else pm_wp pm_code pm_meta d 86 13 ([.ref 71, .int x1], [], ((caT_79 L, caO_148, 79, 6265), I, J)) Q := (pm_bk_iff pc_ch_86 4 5 _).trans (pm_brd)
theorem ca_aa71_24 {d L : Nat} {I : Nat → Nat → Int32} {J : Nat → Nat → Int64} {Q : Int32 → Int64 → pm_H → Prop} {x1 : Int32} : pm_wp pm_code pm_meta d 86 24 ([.ref 71, .int x1], [], ((caT_79 L, caO_148, 79, 6265), I, J)) Q ↔ Q 0 0 ((caT_79 L, caO_148, 79, 6265), I, J) := (pm_bk_iff pc_ch_86 1 24 _).trans (pm_tt)
theorem ca_aa71_13 {d L : Nat} {I : Nat → Nat → Int32} {J : Nat → Nat → Int64} {Q : Int32 → Int64 → pm_H → Prop} {x1 : Int32} : pm_wp pm_code pm_meta (d + 1) 86 13 ([.ref 71, .int x1], [], ((caT_79 L, caO_148, 79, 6265), I, J)) Q ↔ pm_wc pm_code pm_meta d 85 [.ref 71] ((caT_79 L, caO_148, 79, 6265), I, J) (fun v w H => pm_wp pm_code pm_meta (d + 1) 86 17 ([.ref 71, .int x1], [.int v], H) Q) := (pm_bk_iff pc_ch_86 2 13 _).trans (Iff.rfl)
theorem ca_aa71_17 {d L : Nat} {I : Nat → Nat → Int32} {J : Nat → Nat → Int64} {Q : Int32 → Int64 → pm_H → Prop} {x1 s0 : Int32} : pm_wp pm_code pm_meta d 86 17 ([.ref 71, .int x1], [.int s0], ((caT_79 L, caO_148, 79, 6265), I, J)) Q ↔ pm_wp pm_code pm_meta d 86 5 ([.ref 71, .int (x1 + 1)], [], ((caT_79 L, caO_148, 79, 6265), I, J)) Q := (pm_bk_iff pc_ch_86 3 17 _).trans (Iff.rfl)
theorem ca_ad71_0 {d L : Nat} {I : Nat → Nat → Int32} {J : Nat → Nat → Int64} {Q : Int32 → Int64 → pm_H → Prop}  : pm_wc pm_code pm_meta d 85 [.ref 71] ((caT_79 L, caO_148, 79, 6265), I, J) Q ↔ if (I 71 3) < (I 71 2) then pm_wp pm_code pm_meta d 85 14 ([.ref 71, pm_unset], [], ((caT_79 L, caO_148, 79, 6265), I, J)) Q else pm_wp pm_code pm_meta d 85 11 ([.ref 71, pm_unset], [], ((caT_79 L, caO_148, 79, 6265), I, J)) Q := (pm_bk_iff pc_ch_85 5 0 _).trans (pm_brd)
theorem ca_ad71_14 {d L : Nat} {I : Nat → Nat → Int32} {J : Nat → Nat → Int64} {Q : Int32 → Int64 → pm_H → Prop}  : pm_wp pm_code pm_meta d 85 14 ([.ref 71, pm_unset], [], ((caT_79 L, caO_148, 79, 6265), I, J)) Q ↔ pm_wp pm_code pm_meta d 85 24 ([.ref 71, .int ((I 71 3) * (I 71 1))], [], ((caT_79 L, caO_148, 79, 6265), I, J)) Q := (pm_bk_iff pc_ch_85 6 14 _).trans (Iff.rfl)
theorem ca_ad71_11 {d L : Nat} {I : Nat → Nat → Int32} {J : Nat → Nat → Int64} {Q : Int32 → Int64 → pm_H → Prop}  : pm_wp pm_code pm_meta d 85 11 ([.ref 71, pm_unset], [], ((caT_79 L, caO_148, 79, 6265), I, J)) Q ↔ Q (-2) 0 ((caT_79 L, caO_148, 79, 6265), I, J) := (pm_bk_iff pc_ch_85 2 11 _).trans (pm_tt)
theorem ca_ad71_24 {d L : Nat} {I : Nat → Nat → Int32} {J : Nat → Nat → Int64} {Q : Int32 → Int64 → pm_H → Prop} {x1 : Int32} : pm_wp pm_code pm_meta d 85 24 ([.ref 71, .int x1], [], ((caT_79 L, caO_148, 79, 6265), I, J)) Q ↔ if (((I 71 3) + 1) * (I 71 1)) ≤ x1 then pm_wp pm_code pm_meta d 85 52 ([.ref 71, .int x1], [], ((caT_79 L, caO_148, 79, 6265), I, J)) Q else pm_wp pm_code pm_meta d 85 39 ([.ref 71, .int x1], [], ((caT_79 L, caO_148, 79, 6265), I, J)) Q := (pm_bk_iff pc_ch_85 9 24 _).trans (pm_brd)
theorem ca_ad71_52 {d L : Nat} {I : Nat → Nat → Int32} {J : Nat → Nat → Int64} {Q : Int32 → Int64 → pm_H → Prop} {x1 : Int32} : pm_wp pm_code pm_meta d 85 52 ([.ref 71, .int x1], [], ((caT_79 L, caO_148, 79, 6265), I, J)) Q ↔ Q (((pm_u I 71 3 ((I 71 3) + 1)) 71 3) - 1) 0 ((caT_79 L, caO_148, 79, 6265), (pm_u I 71 3 ((I 71 3) + 1)), J) := (pm_bk_iff pc_ch_85 11 52 _).trans (pm_tt)
theorem ca_ad71_39 {d L : Nat} {I : Nat → Nat → Int32} {J : Nat → Nat → Int64} {Q : Int32 → Int64 → pm_H → Prop} {x1 : Int32} : pm_wp pm_code pm_meta d 85 39 ([.ref 71, .int x1], [], ((caT_79 L, caO_148, 79, 6265), I, J)) Q ↔ pm_in x1 8 = true ∧ (pm_wp pm_code pm_meta d 85 24 ([.ref 71, .int (x1 + 1)], [], ((caT_79 L, caO_148, 79, 6265), (pm_u I 72 x1.toNatClampNeg 0), J)) Q) := (pm_bk_iff pc_ch_85 7 39 _).trans (and_congr Iff.rfl (Iff.rfl))
theorem ca_add_71 {d L : Nat} {I : Nat → Nat → Int32} {J : Nat → Nat → Int64} {Q : Int32 → Int64 → pm_H → Prop} (ht : pm_ti (I 71) 2 4) (hn : I 71 3 < 4) (hz : ∀ j, I 72 j = 0) : pm_wc pm_code pm_meta d 85 [.ref 71] ((caT_79 L, caO_148, 79, 6265), I, J) Q ↔ Q (I 71 3) 0 ((caT_79 L, caO_148, 79, 6265), pm_u I 71 3 (I 71 3 + 1), J) := by
  obtain ⟨h1, h2, h3, h4⟩ := ht
  have h3' := h3
  have hn' := hn
  rw [pi_le, pi_0] at h3'
  rw [pi_lt] at hn'
  have hl : (4 : Int32).toInt = 4 := rfl
  have hw : (2 : Int32).toInt = 2 := rfl
  have g1 : (I 71 3 + 1).toInt = (I 71 3).toInt + 1 := by rw [pi_add (by rw [pi_1]; omega) (by rw [pi_1]; omega), pi_1]
  have g2 : ((I 71 3 + 1) * I 71 1).toInt = ((I 71 3).toInt + 1) * 2 := by rw [h1, pi_mul (by rw [g1, hw]; omega) (by rw [g1, hw]; omega), g1, hw]
  have g3 : (I 71 3 * I 71 1).toInt = (I 71 3).toInt * 2 := by rw [h1, pi_mul (by rw [hw]; omega) (by rw [hw]; omega), hw]
  rw [ca_ad71_0, h2, if_pos hn, ca_ad71_14]
  have hA : ∀ x I', I' 71 = I 71 → (pm_wp pm_code pm_meta d 85 24 ([.ref 71, .int x], [], ((caT_79 L, caO_148, 79, 6265), I', J)) Q ↔ if (I 71 3 + 1) * I 71 1 ≤ x then pm_wp pm_code pm_meta d 85 52 ([.ref 71, .int x], [], ((caT_79 L, caO_148, 79, 6265), I', J)) Q else pm_in x 8 = true ∧ pm_wp pm_code pm_meta d 85 24 ([.ref 71, .int (x + 1)], [], ((caT_79 L, caO_148, 79, 6265), pm_u I' 72 x.toNatClampNeg 0, J)) Q) := by
    intro x I' hr
    rw [ca_ad71_24, hr, ca_ad71_39]
  rw [pm_add_loop (A := fun x I' => pm_wp pm_code pm_meta d 85 24 ([.ref 71, .int x], [], ((caT_79 L, caO_148, 79, 6265), I', J)) Q) (E := fun x I' => pm_wp pm_code pm_meta d 85 52 ([.ref 71, .int x], [], ((caT_79 L, caO_148, 79, 6265), I', J)) Q) (by decide) hA 2 _ I rfl (by rw [pi_le, pi_0]; omega) (by omega) (by omega)]
  rw [pc_zr0 hz, ca_ad71_52, pm_u_row, if_pos rfl, pm_w_at, if_pos rfl, pm_inc_sub]
theorem ca_aAll_71 {d L : Nat} {I : Nat → Nat → Int32} {J : Nat → Nat → Int64} {Q : Int32 → Int64 → pm_H → Prop} (h1 : I 71 1 = 2) (h2 : I 71 2 = 4) (h3 : I 71 3 = 0) (hz : ∀ j, I 72 j = 0) : pm_wc pm_code pm_meta (d + 1) 86 [.ref 71] ((caT_79 L, caO_148, 79, 6265), I, J) Q ↔ Q 0 0 ((caT_79 L, caO_148, 79, 6265), pm_u I 71 3 4, J) := by
  have key : ∀ (k m : Nat), m + k = 4 → (pm_wp pm_code pm_meta (d + 1) 86 5 ([.ref 71, .int (Int32.ofNat m)], [], ((caT_79 L, caO_148, 79, 6265), pm_u I 71 3 (Int32.ofNat m), J)) Q ↔ Q 0 0 ((caT_79 L, caO_148, 79, 6265), pm_u I 71 3 4, J)) := by
    intro k
    induction k with
    | zero =>
      intro m hm
      have em : m = 4 := by omega
      subst em
      have e2 : pm_u I 71 3 (Int32.ofNat 4) 71 2 = 4 := by rw [pm_u_row, if_pos rfl, pm_w_ne (by decide)]; exact h2
      rw [ca_aa71_5, e2, if_pos (by decide), ca_aa71_24]
      exact Iff.rfl
    | succ k ih =>
      intro m hm
      have g := on_n (a := m) (by omega)
      have e1 : pm_u I 71 3 (Int32.ofNat m) 71 1 = 2 := by rw [pm_u_row, if_pos rfl, pm_w_ne (by decide)]; exact h1
      have e2 : pm_u I 71 3 (Int32.ofNat m) 71 2 = 4 := by rw [pm_u_row, if_pos rfl, pm_w_ne (by decide)]; exact h2
      have e3 : pm_u I 71 3 (Int32.ofNat m) 71 3 = Int32.ofNat m := by rw [pm_u_at]
      have hl : (4 : Int32) = Int32.ofNat 4 := rfl
      have lt : Int32.ofNat m < 4 := by rw [hl, on_lt (by omega) (by omega)]; omega
      have le : Int32.ofNat m ≤ 4 := by rw [hl, on_le (by omega) (by omega)]; omega
      have ez : ∀ j, pm_u I 71 3 (Int32.ofNat m) 72 j = 0 := fun j => by rw [pm_u_row, if_neg (by decide)]; exact hz j
      rw [ca_aa71_5, e2, if_neg (Int32.not_le.mpr lt), ca_aa71_13, ca_add_71 ⟨e1, e2, by rw [e3]; exact g.1, by rw [e3]; exact le⟩ (by rw [e3]; exact lt) ez, e3, ca_aa71_17, on_s, pc_uu]
      exact ih (m + 1) (by omega)
  have e0 : pm_u I 71 3 (Int32.ofNat 0) = I := pc_u0 (by rw [h3]; rfl)
  have z := key 4 0 (by omega)
  rw [e0] at z
  rw [ca_aa71_0, h3]
  exact z
theorem ca_c49 {d L : Nat} {I : Nat → Nat → Int32} {J : Nat → Nat → Int64} {Q : Int32 → Int64 → pm_H → Prop} : pm_wc pm_code pm_meta (d + 1) 86 [.ref 71] ((caT_79 L, caO_148, 79, 6265), caI_138 I, caJ_71 J) Q ↔ Q 0 0 ((caT_79 L, caO_148, 79, 6265), caI_139 I, caJ_71 J) := ca_aAll_71 rfl rfl rfl (fun _ => rfl)
theorem ca_c44_s10 {d L : Nat} {I : Nat → Nat → Int32} {J : Nat → Nat → Int64} {Q : Int32 → Int64 → pm_H → Prop} : pm_wp pm_code pm_meta (d + 1) 10 70 ([.ref 70, .ref 9, pm_unset], [], ((caT_79 L, caO_148, 79, 6265), caI_139 I, caJ_71 J)) Q ↔ pm_wc pm_code pm_meta d 86 [.ref 73] ((caT_79 L, caO_148, 79, 6265), caI_139 I, caJ_71 J) (fun v w H => pm_wp pm_code pm_meta (d + 1) 10 77 ([.ref 70, .ref 9, pm_unset], [], H) Q) := (pm_bk_iff pc_ch_10 3 70 _).trans (Iff.rfl)
theorem ca_aa73_0 {d L : Nat} {I : Nat → Nat → Int32} {J : Nat → Nat → Int64} {Q : Int32 → Int64 → pm_H → Prop}  : pm_wc pm_code pm_meta d 86 [.ref 73] ((caT_79 L, caO_148, 79, 6265), I, J) Q ↔ pm_wp pm_code pm_meta d 86 5 ([.ref 73, .int (I 73 3)], [], ((caT_79 L, caO_148, 79, 6265), I, J)) Q := (pm_bk_iff pc_ch_86 3 0 _).trans (Iff.rfl)
theorem ca_aa73_5 {d L : Nat} {I : Nat → Nat → Int32} {J : Nat → Nat → Int64} {Q : Int32 → Int64 → pm_H → Prop} {x1 : Int32} : pm_wp pm_code pm_meta d 86 5 ([.ref 73, .int x1], [], ((caT_79 L, caO_148, 79, 6265), I, J)) Q ↔ if (I 73 2) ≤ x1 then pm_wp pm_code pm_meta d 86 24 ([.ref 73, .int x1], [], ((caT_79 L, caO_148, 79, 6265), I, J)) Q else pm_wp pm_code pm_meta d 86 13 ([.ref 73, .int x1], [], ((caT_79 L, caO_148, 79, 6265), I, J)) Q := (pm_bk_iff pc_ch_86 4 5 _).trans (pm_brd)
theorem ca_aa73_24 {d L : Nat} {I : Nat → Nat → Int32} {J : Nat → Nat → Int64} {Q : Int32 → Int64 → pm_H → Prop} {x1 : Int32} : pm_wp pm_code pm_meta d 86 24 ([.ref 73, .int x1], [], ((caT_79 L, caO_148, 79, 6265), I, J)) Q ↔ Q 0 0 ((caT_79 L, caO_148, 79, 6265), I, J) := (pm_bk_iff pc_ch_86 1 24 _).trans (pm_tt)
theorem ca_aa73_13 {d L : Nat} {I : Nat → Nat → Int32} {J : Nat → Nat → Int64} {Q : Int32 → Int64 → pm_H → Prop} {x1 : Int32} : pm_wp pm_code pm_meta (d + 1) 86 13 ([.ref 73, .int x1], [], ((caT_79 L, caO_148, 79, 6265), I, J)) Q ↔ pm_wc pm_code pm_meta d 85 [.ref 73] ((caT_79 L, caO_148, 79, 6265), I, J) (fun v w H => pm_wp pm_code pm_meta (d + 1) 86 17 ([.ref 73, .int x1], [.int v], H) Q) := (pm_bk_iff pc_ch_86 2 13 _).trans (Iff.rfl)
theorem ca_aa73_17 {d L : Nat} {I : Nat → Nat → Int32} {J : Nat → Nat → Int64} {Q : Int32 → Int64 → pm_H → Prop} {x1 s0 : Int32} : pm_wp pm_code pm_meta d 86 17 ([.ref 73, .int x1], [.int s0], ((caT_79 L, caO_148, 79, 6265), I, J)) Q ↔ pm_wp pm_code pm_meta d 86 5 ([.ref 73, .int (x1 + 1)], [], ((caT_79 L, caO_148, 79, 6265), I, J)) Q := (pm_bk_iff pc_ch_86 3 17 _).trans (Iff.rfl)
theorem ca_ad73_0 {d L : Nat} {I : Nat → Nat → Int32} {J : Nat → Nat → Int64} {Q : Int32 → Int64 → pm_H → Prop}  : pm_wc pm_code pm_meta d 85 [.ref 73] ((caT_79 L, caO_148, 79, 6265), I, J) Q ↔ if (I 73 3) < (I 73 2) then pm_wp pm_code pm_meta d 85 14 ([.ref 73, pm_unset], [], ((caT_79 L, caO_148, 79, 6265), I, J)) Q else pm_wp pm_code pm_meta d 85 11 ([.ref 73, pm_unset], [], ((caT_79 L, caO_148, 79, 6265), I, J)) Q := (pm_bk_iff pc_ch_85 5 0 _).trans (pm_brd)
theorem ca_ad73_14 {d L : Nat} {I : Nat → Nat → Int32} {J : Nat → Nat → Int64} {Q : Int32 → Int64 → pm_H → Prop}  : pm_wp pm_code pm_meta d 85 14 ([.ref 73, pm_unset], [], ((caT_79 L, caO_148, 79, 6265), I, J)) Q ↔ pm_wp pm_code pm_meta d 85 24 ([.ref 73, .int ((I 73 3) * (I 73 1))], [], ((caT_79 L, caO_148, 79, 6265), I, J)) Q := (pm_bk_iff pc_ch_85 6 14 _).trans (Iff.rfl)
theorem ca_ad73_11 {d L : Nat} {I : Nat → Nat → Int32} {J : Nat → Nat → Int64} {Q : Int32 → Int64 → pm_H → Prop}  : pm_wp pm_code pm_meta d 85 11 ([.ref 73, pm_unset], [], ((caT_79 L, caO_148, 79, 6265), I, J)) Q ↔ Q (-2) 0 ((caT_79 L, caO_148, 79, 6265), I, J) := (pm_bk_iff pc_ch_85 2 11 _).trans (pm_tt)
theorem ca_ad73_24 {d L : Nat} {I : Nat → Nat → Int32} {J : Nat → Nat → Int64} {Q : Int32 → Int64 → pm_H → Prop} {x1 : Int32} : pm_wp pm_code pm_meta d 85 24 ([.ref 73, .int x1], [], ((caT_79 L, caO_148, 79, 6265), I, J)) Q ↔ if (((I 73 3) + 1) * (I 73 1)) ≤ x1 then pm_wp pm_code pm_meta d 85 52 ([.ref 73, .int x1], [], ((caT_79 L, caO_148, 79, 6265), I, J)) Q else pm_wp pm_code pm_meta d 85 39 ([.ref 73, .int x1], [], ((caT_79 L, caO_148, 79, 6265), I, J)) Q := (pm_bk_iff pc_ch_85 9 24 _).trans (pm_brd)
theorem ca_ad73_52 {d L : Nat} {I : Nat → Nat → Int32} {J : Nat → Nat → Int64} {Q : Int32 → Int64 → pm_H → Prop} {x1 : Int32} : pm_wp pm_code pm_meta d 85 52 ([.ref 73, .int x1], [], ((caT_79 L, caO_148, 79, 6265), I, J)) Q ↔ Q (((pm_u I 73 3 ((I 73 3) + 1)) 73 3) - 1) 0 ((caT_79 L, caO_148, 79, 6265), (pm_u I 73 3 ((I 73 3) + 1)), J) := (pm_bk_iff pc_ch_85 11 52 _).trans (pm_tt)
theorem ca_ad73_39 {d L : Nat} {I : Nat → Nat → Int32} {J : Nat → Nat → Int64} {Q : Int32 → Int64 → pm_H → Prop} {x1 : Int32} : pm_wp pm_code pm_meta d 85 39 ([.ref 73, .int x1], [], ((caT_79 L, caO_148, 79, 6265), I, J)) Q ↔ pm_in x1 160 = true ∧ (pm_wp pm_code pm_meta d 85 24 ([.ref 73, .int (x1 + 1)], [], ((caT_79 L, caO_148, 79, 6265), (pm_u I 74 x1.toNatClampNeg 0), J)) Q) := (pm_bk_iff pc_ch_85 7 39 _).trans (and_congr Iff.rfl (Iff.rfl))
theorem ca_add_73 {d L : Nat} {I : Nat → Nat → Int32} {J : Nat → Nat → Int64} {Q : Int32 → Int64 → pm_H → Prop} (ht : pm_ti (I 73) 40 4) (hn : I 73 3 < 4) (hz : ∀ j, I 74 j = 0) : pm_wc pm_code pm_meta d 85 [.ref 73] ((caT_79 L, caO_148, 79, 6265), I, J) Q ↔ Q (I 73 3) 0 ((caT_79 L, caO_148, 79, 6265), pm_u I 73 3 (I 73 3 + 1), J) := by
  obtain ⟨h1, h2, h3, h4⟩ := ht
  have h3' := h3
  have hn' := hn
  rw [pi_le, pi_0] at h3'
  rw [pi_lt] at hn'
  have hl : (4 : Int32).toInt = 4 := rfl
  have hw : (40 : Int32).toInt = 40 := rfl
  have g1 : (I 73 3 + 1).toInt = (I 73 3).toInt + 1 := by rw [pi_add (by rw [pi_1]; omega) (by rw [pi_1]; omega), pi_1]
  have g2 : ((I 73 3 + 1) * I 73 1).toInt = ((I 73 3).toInt + 1) * 40 := by rw [h1, pi_mul (by rw [g1, hw]; omega) (by rw [g1, hw]; omega), g1, hw]
  have g3 : (I 73 3 * I 73 1).toInt = (I 73 3).toInt * 40 := by rw [h1, pi_mul (by rw [hw]; omega) (by rw [hw]; omega), hw]
  rw [ca_ad73_0, h2, if_pos hn, ca_ad73_14]
  have hA : ∀ x I', I' 73 = I 73 → (pm_wp pm_code pm_meta d 85 24 ([.ref 73, .int x], [], ((caT_79 L, caO_148, 79, 6265), I', J)) Q ↔ if (I 73 3 + 1) * I 73 1 ≤ x then pm_wp pm_code pm_meta d 85 52 ([.ref 73, .int x], [], ((caT_79 L, caO_148, 79, 6265), I', J)) Q else pm_in x 160 = true ∧ pm_wp pm_code pm_meta d 85 24 ([.ref 73, .int (x + 1)], [], ((caT_79 L, caO_148, 79, 6265), pm_u I' 74 x.toNatClampNeg 0, J)) Q) := by
    intro x I' hr
    rw [ca_ad73_24, hr, ca_ad73_39]
  rw [pm_add_loop (A := fun x I' => pm_wp pm_code pm_meta d 85 24 ([.ref 73, .int x], [], ((caT_79 L, caO_148, 79, 6265), I', J)) Q) (E := fun x I' => pm_wp pm_code pm_meta d 85 52 ([.ref 73, .int x], [], ((caT_79 L, caO_148, 79, 6265), I', J)) Q) (by decide) hA 40 _ I rfl (by rw [pi_le, pi_0]; omega) (by omega) (by omega)]
  rw [pc_zr0 hz, ca_ad73_52, pm_u_row, if_pos rfl, pm_w_at, if_pos rfl, pm_inc_sub]
theorem ca_aAll_73 {d L : Nat} {I : Nat → Nat → Int32} {J : Nat → Nat → Int64} {Q : Int32 → Int64 → pm_H → Prop} (h1 : I 73 1 = 40) (h2 : I 73 2 = 4) (h3 : I 73 3 = 0) (hz : ∀ j, I 74 j = 0) : pm_wc pm_code pm_meta (d + 1) 86 [.ref 73] ((caT_79 L, caO_148, 79, 6265), I, J) Q ↔ Q 0 0 ((caT_79 L, caO_148, 79, 6265), pm_u I 73 3 4, J) := by
  have key : ∀ (k m : Nat), m + k = 4 → (pm_wp pm_code pm_meta (d + 1) 86 5 ([.ref 73, .int (Int32.ofNat m)], [], ((caT_79 L, caO_148, 79, 6265), pm_u I 73 3 (Int32.ofNat m), J)) Q ↔ Q 0 0 ((caT_79 L, caO_148, 79, 6265), pm_u I 73 3 4, J)) := by
    intro k
    induction k with
    | zero =>
      intro m hm
      have em : m = 4 := by omega
      subst em
      have e2 : pm_u I 73 3 (Int32.ofNat 4) 73 2 = 4 := by rw [pm_u_row, if_pos rfl, pm_w_ne (by decide)]; exact h2
      rw [ca_aa73_5, e2, if_pos (by decide), ca_aa73_24]
      exact Iff.rfl
    | succ k ih =>
      intro m hm
      have g := on_n (a := m) (by omega)
      have e1 : pm_u I 73 3 (Int32.ofNat m) 73 1 = 40 := by rw [pm_u_row, if_pos rfl, pm_w_ne (by decide)]; exact h1
      have e2 : pm_u I 73 3 (Int32.ofNat m) 73 2 = 4 := by rw [pm_u_row, if_pos rfl, pm_w_ne (by decide)]; exact h2
      have e3 : pm_u I 73 3 (Int32.ofNat m) 73 3 = Int32.ofNat m := by rw [pm_u_at]
      have hl : (4 : Int32) = Int32.ofNat 4 := rfl
      have lt : Int32.ofNat m < 4 := by rw [hl, on_lt (by omega) (by omega)]; omega
      have le : Int32.ofNat m ≤ 4 := by rw [hl, on_le (by omega) (by omega)]; omega
      have ez : ∀ j, pm_u I 73 3 (Int32.ofNat m) 74 j = 0 := fun j => by rw [pm_u_row, if_neg (by decide)]; exact hz j
      rw [ca_aa73_5, e2, if_neg (Int32.not_le.mpr lt), ca_aa73_13, ca_add_73 ⟨e1, e2, by rw [e3]; exact g.1, by rw [e3]; exact le⟩ (by rw [e3]; exact lt) ez, e3, ca_aa73_17, on_s, pc_uu]
      exact ih (m + 1) (by omega)
  have e0 : pm_u I 73 3 (Int32.ofNat 0) = I := pc_u0 (by rw [h3]; rfl)
  have z := key 4 0 (by omega)
  rw [e0] at z
  rw [ca_aa73_0, h3]
  exact z
theorem ca_c50 {d L : Nat} {I : Nat → Nat → Int32} {J : Nat → Nat → Int64} {Q : Int32 → Int64 → pm_H → Prop} : pm_wc pm_code pm_meta (d + 1) 86 [.ref 73] ((caT_79 L, caO_148, 79, 6265), caI_139 I, caJ_71 J) Q ↔ Q 0 0 ((caT_79 L, caO_148, 79, 6265), caI_140 I, caJ_71 J) := ca_aAll_73 rfl rfl rfl (fun _ => rfl)
theorem ca_c44_s12 {d L : Nat} {I : Nat → Nat → Int32} {J : Nat → Nat → Int64} {Q : Int32 → Int64 → pm_H → Prop} : pm_wp pm_code pm_meta (d + 1) 10 77 ([.ref 70, .ref 9, pm_unset], [], ((caT_79 L, caO_148, 79, 6265), caI_140 I, caJ_71 J)) Q ↔ pm_wc pm_code pm_meta d 86 [.ref 75] ((caT_79 L, caO_148, 79, 6265), caI_140 I, caJ_71 J) (fun v w H => pm_wp pm_code pm_meta (d + 1) 10 84 ([.ref 70, .ref 9, pm_unset], [], H) Q) := (pm_bk_iff pc_ch_10 3 77 _).trans (Iff.rfl)
theorem ca_aa75_0 {d L : Nat} {I : Nat → Nat → Int32} {J : Nat → Nat → Int64} {Q : Int32 → Int64 → pm_H → Prop}  : pm_wc pm_code pm_meta d 86 [.ref 75] ((caT_79 L, caO_148, 79, 6265), I, J) Q ↔ pm_wp pm_code pm_meta d 86 5 ([.ref 75, .int (I 75 3)], [], ((caT_79 L, caO_148, 79, 6265), I, J)) Q := (pm_bk_iff pc_ch_86 3 0 _).trans (Iff.rfl)
theorem ca_aa75_5 {d L : Nat} {I : Nat → Nat → Int32} {J : Nat → Nat → Int64} {Q : Int32 → Int64 → pm_H → Prop} {x1 : Int32} : pm_wp pm_code pm_meta d 86 5 ([.ref 75, .int x1], [], ((caT_79 L, caO_148, 79, 6265), I, J)) Q ↔ if (I 75 2) ≤ x1 then pm_wp pm_code pm_meta d 86 24 ([.ref 75, .int x1], [], ((caT_79 L, caO_148, 79, 6265), I, J)) Q else pm_wp pm_code pm_meta d 86 13 ([.ref 75, .int x1], [], ((caT_79 L, caO_148, 79, 6265), I, J)) Q := (pm_bk_iff pc_ch_86 4 5 _).trans (pm_brd)
theorem ca_aa75_24 {d L : Nat} {I : Nat → Nat → Int32} {J : Nat → Nat → Int64} {Q : Int32 → Int64 → pm_H → Prop} {x1 : Int32} : pm_wp pm_code pm_meta d 86 24 ([.ref 75, .int x1], [], ((caT_79 L, caO_148, 79, 6265), I, J)) Q ↔ Q 0 0 ((caT_79 L, caO_148, 79, 6265), I, J) := (pm_bk_iff pc_ch_86 1 24 _).trans (pm_tt)
theorem ca_aa75_13 {d L : Nat} {I : Nat → Nat → Int32} {J : Nat → Nat → Int64} {Q : Int32 → Int64 → pm_H → Prop} {x1 : Int32} : pm_wp pm_code pm_meta (d + 1) 86 13 ([.ref 75, .int x1], [], ((caT_79 L, caO_148, 79, 6265), I, J)) Q ↔ pm_wc pm_code pm_meta d 85 [.ref 75] ((caT_79 L, caO_148, 79, 6265), I, J) (fun v w H => pm_wp pm_code pm_meta (d + 1) 86 17 ([.ref 75, .int x1], [.int v], H) Q) := (pm_bk_iff pc_ch_86 2 13 _).trans (Iff.rfl)
theorem ca_aa75_17 {d L : Nat} {I : Nat → Nat → Int32} {J : Nat → Nat → Int64} {Q : Int32 → Int64 → pm_H → Prop} {x1 s0 : Int32} : pm_wp pm_code pm_meta d 86 17 ([.ref 75, .int x1], [.int s0], ((caT_79 L, caO_148, 79, 6265), I, J)) Q ↔ pm_wp pm_code pm_meta d 86 5 ([.ref 75, .int (x1 + 1)], [], ((caT_79 L, caO_148, 79, 6265), I, J)) Q := (pm_bk_iff pc_ch_86 3 17 _).trans (Iff.rfl)
theorem ca_ad75_0 {d L : Nat} {I : Nat → Nat → Int32} {J : Nat → Nat → Int64} {Q : Int32 → Int64 → pm_H → Prop}  : pm_wc pm_code pm_meta d 85 [.ref 75] ((caT_79 L, caO_148, 79, 6265), I, J) Q ↔ if (I 75 3) < (I 75 2) then pm_wp pm_code pm_meta d 85 14 ([.ref 75, pm_unset], [], ((caT_79 L, caO_148, 79, 6265), I, J)) Q else pm_wp pm_code pm_meta d 85 11 ([.ref 75, pm_unset], [], ((caT_79 L, caO_148, 79, 6265), I, J)) Q := (pm_bk_iff pc_ch_85 5 0 _).trans (pm_brd)
theorem ca_ad75_14 {d L : Nat} {I : Nat → Nat → Int32} {J : Nat → Nat → Int64} {Q : Int32 → Int64 → pm_H → Prop}  : pm_wp pm_code pm_meta d 85 14 ([.ref 75, pm_unset], [], ((caT_79 L, caO_148, 79, 6265), I, J)) Q ↔ pm_wp pm_code pm_meta d 85 24 ([.ref 75, .int ((I 75 3) * (I 75 1))], [], ((caT_79 L, caO_148, 79, 6265), I, J)) Q := (pm_bk_iff pc_ch_85 6 14 _).trans (Iff.rfl)
theorem ca_ad75_11 {d L : Nat} {I : Nat → Nat → Int32} {J : Nat → Nat → Int64} {Q : Int32 → Int64 → pm_H → Prop}  : pm_wp pm_code pm_meta d 85 11 ([.ref 75, pm_unset], [], ((caT_79 L, caO_148, 79, 6265), I, J)) Q ↔ Q (-2) 0 ((caT_79 L, caO_148, 79, 6265), I, J) := (pm_bk_iff pc_ch_85 2 11 _).trans (pm_tt)
theorem ca_ad75_24 {d L : Nat} {I : Nat → Nat → Int32} {J : Nat → Nat → Int64} {Q : Int32 → Int64 → pm_H → Prop} {x1 : Int32} : pm_wp pm_code pm_meta d 85 24 ([.ref 75, .int x1], [], ((caT_79 L, caO_148, 79, 6265), I, J)) Q ↔ if (((I 75 3) + 1) * (I 75 1)) ≤ x1 then pm_wp pm_code pm_meta d 85 52 ([.ref 75, .int x1], [], ((caT_79 L, caO_148, 79, 6265), I, J)) Q else pm_wp pm_code pm_meta d 85 39 ([.ref 75, .int x1], [], ((caT_79 L, caO_148, 79, 6265), I, J)) Q := (pm_bk_iff pc_ch_85 9 24 _).trans (pm_brd)
theorem ca_ad75_52 {d L : Nat} {I : Nat → Nat → Int32} {J : Nat → Nat → Int64} {Q : Int32 → Int64 → pm_H → Prop} {x1 : Int32} : pm_wp pm_code pm_meta d 85 52 ([.ref 75, .int x1], [], ((caT_79 L, caO_148, 79, 6265), I, J)) Q ↔ Q (((pm_u I 75 3 ((I 75 3) + 1)) 75 3) - 1) 0 ((caT_79 L, caO_148, 79, 6265), (pm_u I 75 3 ((I 75 3) + 1)), J) := (pm_bk_iff pc_ch_85 11 52 _).trans (pm_tt)
theorem ca_ad75_39 {d L : Nat} {I : Nat → Nat → Int32} {J : Nat → Nat → Int64} {Q : Int32 → Int64 → pm_H → Prop} {x1 : Int32} : pm_wp pm_code pm_meta d 85 39 ([.ref 75, .int x1], [], ((caT_79 L, caO_148, 79, 6265), I, J)) Q ↔ pm_in x1 12 = true ∧ (pm_wp pm_code pm_meta d 85 24 ([.ref 75, .int (x1 + 1)], [], ((caT_79 L, caO_148, 79, 6265), (pm_u I 76 x1.toNatClampNeg 0), J)) Q) := (pm_bk_iff pc_ch_85 7 39 _).trans (and_congr Iff.rfl (Iff.rfl))
theorem ca_add_75 {d L : Nat} {I : Nat → Nat → Int32} {J : Nat → Nat → Int64} {Q : Int32 → Int64 → pm_H → Prop} (ht : pm_ti (I 75) 3 4) (hn : I 75 3 < 4) (hz : ∀ j, I 76 j = 0) : pm_wc pm_code pm_meta d 85 [.ref 75] ((caT_79 L, caO_148, 79, 6265), I, J) Q ↔ Q (I 75 3) 0 ((caT_79 L, caO_148, 79, 6265), pm_u I 75 3 (I 75 3 + 1), J) := by
  obtain ⟨h1, h2, h3, h4⟩ := ht
  have h3' := h3
  have hn' := hn
  rw [pi_le, pi_0] at h3'
  rw [pi_lt] at hn'
  have hl : (4 : Int32).toInt = 4 := rfl
  have hw : (3 : Int32).toInt = 3 := rfl
  have g1 : (I 75 3 + 1).toInt = (I 75 3).toInt + 1 := by rw [pi_add (by rw [pi_1]; omega) (by rw [pi_1]; omega), pi_1]
  have g2 : ((I 75 3 + 1) * I 75 1).toInt = ((I 75 3).toInt + 1) * 3 := by rw [h1, pi_mul (by rw [g1, hw]; omega) (by rw [g1, hw]; omega), g1, hw]
  have g3 : (I 75 3 * I 75 1).toInt = (I 75 3).toInt * 3 := by rw [h1, pi_mul (by rw [hw]; omega) (by rw [hw]; omega), hw]
  rw [ca_ad75_0, h2, if_pos hn, ca_ad75_14]
  have hA : ∀ x I', I' 75 = I 75 → (pm_wp pm_code pm_meta d 85 24 ([.ref 75, .int x], [], ((caT_79 L, caO_148, 79, 6265), I', J)) Q ↔ if (I 75 3 + 1) * I 75 1 ≤ x then pm_wp pm_code pm_meta d 85 52 ([.ref 75, .int x], [], ((caT_79 L, caO_148, 79, 6265), I', J)) Q else pm_in x 12 = true ∧ pm_wp pm_code pm_meta d 85 24 ([.ref 75, .int (x + 1)], [], ((caT_79 L, caO_148, 79, 6265), pm_u I' 76 x.toNatClampNeg 0, J)) Q) := by
    intro x I' hr
    rw [ca_ad75_24, hr, ca_ad75_39]
  rw [pm_add_loop (A := fun x I' => pm_wp pm_code pm_meta d 85 24 ([.ref 75, .int x], [], ((caT_79 L, caO_148, 79, 6265), I', J)) Q) (E := fun x I' => pm_wp pm_code pm_meta d 85 52 ([.ref 75, .int x], [], ((caT_79 L, caO_148, 79, 6265), I', J)) Q) (by decide) hA 3 _ I rfl (by rw [pi_le, pi_0]; omega) (by omega) (by omega)]
  rw [pc_zr0 hz, ca_ad75_52, pm_u_row, if_pos rfl, pm_w_at, if_pos rfl, pm_inc_sub]
theorem ca_aAll_75 {d L : Nat} {I : Nat → Nat → Int32} {J : Nat → Nat → Int64} {Q : Int32 → Int64 → pm_H → Prop} (h1 : I 75 1 = 3) (h2 : I 75 2 = 4) (h3 : I 75 3 = 0) (hz : ∀ j, I 76 j = 0) : pm_wc pm_code pm_meta (d + 1) 86 [.ref 75] ((caT_79 L, caO_148, 79, 6265), I, J) Q ↔ Q 0 0 ((caT_79 L, caO_148, 79, 6265), pm_u I 75 3 4, J) := by
  have key : ∀ (k m : Nat), m + k = 4 → (pm_wp pm_code pm_meta (d + 1) 86 5 ([.ref 75, .int (Int32.ofNat m)], [], ((caT_79 L, caO_148, 79, 6265), pm_u I 75 3 (Int32.ofNat m), J)) Q ↔ Q 0 0 ((caT_79 L, caO_148, 79, 6265), pm_u I 75 3 4, J)) := by
    intro k
    induction k with
    | zero =>
      intro m hm
      have em : m = 4 := by omega
      subst em
      have e2 : pm_u I 75 3 (Int32.ofNat 4) 75 2 = 4 := by rw [pm_u_row, if_pos rfl, pm_w_ne (by decide)]; exact h2
      rw [ca_aa75_5, e2, if_pos (by decide), ca_aa75_24]
      exact Iff.rfl
    | succ k ih =>
      intro m hm
      have g := on_n (a := m) (by omega)
      have e1 : pm_u I 75 3 (Int32.ofNat m) 75 1 = 3 := by rw [pm_u_row, if_pos rfl, pm_w_ne (by decide)]; exact h1
      have e2 : pm_u I 75 3 (Int32.ofNat m) 75 2 = 4 := by rw [pm_u_row, if_pos rfl, pm_w_ne (by decide)]; exact h2
      have e3 : pm_u I 75 3 (Int32.ofNat m) 75 3 = Int32.ofNat m := by rw [pm_u_at]
      have hl : (4 : Int32) = Int32.ofNat 4 := rfl
      have lt : Int32.ofNat m < 4 := by rw [hl, on_lt (by omega) (by omega)]; omega
      have le : Int32.ofNat m ≤ 4 := by rw [hl, on_le (by omega) (by omega)]; omega
      have ez : ∀ j, pm_u I 75 3 (Int32.ofNat m) 76 j = 0 := fun j => by rw [pm_u_row, if_neg (by decide)]; exact hz j
      rw [ca_aa75_5, e2, if_neg (Int32.not_le.mpr lt), ca_aa75_13, ca_add_75 ⟨e1, e2, by rw [e3]; exact g.1, by rw [e3]; exact le⟩ (by rw [e3]; exact lt) ez, e3, ca_aa75_17, on_s, pc_uu]
      exact ih (m + 1) (by omega)
  have e0 : pm_u I 75 3 (Int32.ofNat 0) = I := pc_u0 (by rw [h3]; rfl)
  have z := key 4 0 (by omega)
  rw [e0] at z
  rw [ca_aa75_0, h3]
  exact z
theorem ca_c51 {d L : Nat} {I : Nat → Nat → Int32} {J : Nat → Nat → Int64} {Q : Int32 → Int64 → pm_H → Prop} : pm_wc pm_code pm_meta (d + 1) 86 [.ref 75] ((caT_79 L, caO_148, 79, 6265), caI_140 I, caJ_71 J) Q ↔ Q 0 0 ((caT_79 L, caO_148, 79, 6265), caI_141 I, caJ_71 J) := ca_aAll_75 rfl rfl rfl (fun _ => rfl)
theorem ca_c44_s14 {d L : Nat} {I : Nat → Nat → Int32} {J : Nat → Nat → Int64} {Q : Int32 → Int64 → pm_H → Prop} : pm_wp pm_code pm_meta d 10 84 ([.ref 70, .ref 9, pm_unset], [], ((caT_79 L, caO_148, 79, 6265), caI_141 I, caJ_71 J)) Q ↔ pm_wp pm_code pm_meta d 10 86 ([.ref 70, .ref 9, .int 0], [], ((caT_79 L, caO_148, 79, 6265), caI_141 I, caJ_71 J)) Q := (pm_bk_iff pc_ch_10 2 84 _).trans (Iff.rfl)
theorem ca_ho_86 {d L : Nat} {I : Nat → Nat → Int32} {J : Nat → Nat → Int64} {Q : Int32 → Int64 → pm_H → Prop} {x2 : Int32} : pm_wp pm_code pm_meta d 10 86 ([.ref 70, .ref 9, .int x2], [], ((caT_79 L, caO_148, 79, 6265), I, J)) Q ↔ if 4 ≤ x2 then pm_wp pm_code pm_meta d 10 107 ([.ref 70, .ref 9, .int x2], [], ((caT_79 L, caO_148, 79, 6265), I, J)) Q else pm_wp pm_code pm_meta d 10 91 ([.ref 70, .ref 9, .int x2], [], ((caT_79 L, caO_148, 79, 6265), I, J)) Q := (pm_bk_iff pc_ch_10 3 86 _).trans (pm_brd)
theorem ca_ho_107 {d L : Nat} {I : Nat → Nat → Int32} {J : Nat → Nat → Int64} {Q : Int32 → Int64 → pm_H → Prop} {x2 : Int32} : pm_wp pm_code pm_meta d 10 107 ([.ref 70, .ref 9, .int x2], [], ((caT_79 L, caO_148, 79, 6265), I, J)) Q ↔ pm_wp pm_code pm_meta d 10 109 ([.ref 70, .ref 9, .int 0], [], ((caT_79 L, caO_148, 79, 6265), I, J)) Q := (pm_bk_iff pc_ch_10 2 107 _).trans (Iff.rfl)
theorem ca_ho_91 {d L : Nat} {I : Nat → Nat → Int32} {J : Nat → Nat → Int64} {Q : Int32 → Int64 → pm_H → Prop} {x2 : Int32} : pm_wp pm_code pm_meta (d + 1) 10 91 ([.ref 70, .ref 9, .int x2], [], ((caT_79 L, caO_148, 79, 6265), I, J)) Q ↔ pm_wc pm_code pm_meta d 84 [.ref 71, .int x2, .int 0, .int (-1)] ((caT_79 L, caO_148, 79, 6265), I, J) (fun v w H => pm_wp pm_code pm_meta (d + 1) 10 101 ([.ref 70, .ref 9, .int x2], [], H) Q) := (pm_bk_iff pc_ch_10 6 91 _).trans (Iff.rfl)
theorem ca_ho_109 {d L : Nat} {I : Nat → Nat → Int32} {J : Nat → Nat → Int64} {Q : Int32 → Int64 → pm_H → Prop} {x2 : Int32} : pm_wp pm_code pm_meta d 10 109 ([.ref 70, .ref 9, .int x2], [], ((caT_79 L, caO_148, 79, 6265), I, J)) Q ↔ if 4 ≤ x2 then pm_wp pm_code pm_meta d 10 130 ([.ref 70, .ref 9, .int x2], [], ((caT_79 L, caO_148, 79, 6265), I, J)) Q else pm_wp pm_code pm_meta d 10 114 ([.ref 70, .ref 9, .int x2], [], ((caT_79 L, caO_148, 79, 6265), I, J)) Q := (pm_bk_iff pc_ch_10 3 109 _).trans (pm_brd)
theorem ca_ho_101 {d L : Nat} {I : Nat → Nat → Int32} {J : Nat → Nat → Int64} {Q : Int32 → Int64 → pm_H → Prop} {x2 : Int32} : pm_wp pm_code pm_meta d 10 101 ([.ref 70, .ref 9, .int x2], [], ((caT_79 L, caO_148, 79, 6265), I, J)) Q ↔ pm_wp pm_code pm_meta d 10 86 ([.ref 70, .ref 9, .int (x2 + 1)], [], ((caT_79 L, caO_148, 79, 6265), I, J)) Q := (pm_bk_iff pc_ch_10 2 101 _).trans (Iff.rfl)
theorem ca_ho_130 {d L : Nat} {I : Nat → Nat → Int32} {J : Nat → Nat → Int64} {Q : Int32 → Int64 → pm_H → Prop} {x2 : Int32} : pm_wp pm_code pm_meta d 10 130 ([.ref 70, .ref 9, .int x2], [], ((caT_79 L, caO_148, 79, 6265), I, J)) Q ↔ Q 0 0 ((caT_79 L, caO_148, 79, 6265), I, J) := (pm_bk_iff pc_ch_10 1 130 _).trans (pm_tt)
theorem ca_ho_114 {d L : Nat} {I : Nat → Nat → Int32} {J : Nat → Nat → Int64} {Q : Int32 → Int64 → pm_H → Prop} {x2 : Int32} : pm_wp pm_code pm_meta (d + 1) 10 114 ([.ref 70, .ref 9, .int x2], [], ((caT_79 L, caO_148, 79, 6265), I, J)) Q ↔ pm_wc pm_code pm_meta d 84 [.ref 75, .int x2, .int 0, .int 2] ((caT_79 L, caO_148, 79, 6265), I, J) (fun v w H => pm_wp pm_code pm_meta (d + 1) 10 124 ([.ref 70, .ref 9, .int x2], [], H) Q) := (pm_bk_iff pc_ch_10 6 114 _).trans (Iff.rfl)
theorem ca_ho_124 {d L : Nat} {I : Nat → Nat → Int32} {J : Nat → Nat → Int64} {Q : Int32 → Int64 → pm_H → Prop} {x2 : Int32} : pm_wp pm_code pm_meta d 10 124 ([.ref 70, .ref 9, .int x2], [], ((caT_79 L, caO_148, 79, 6265), I, J)) Q ↔ pm_wp pm_code pm_meta d 10 109 ([.ref 70, .ref 9, .int (x2 + 1)], [], ((caT_79 L, caO_148, 79, 6265), I, J)) Q := (pm_bk_iff pc_ch_10 2 124 _).trans (Iff.rfl)
theorem ca_set_71 {d L : Nat} {I : Nat → Nat → Int32} {J : Nat → Nat → Int64} {r k v : Int32} {Q : Int32 → Int64 → pm_H → Prop} (ht : pm_ti (I 71) 2 4) : pm_wc pm_code pm_meta d 84 [.ref 71, .int r, .int k, .int v] ((caT_79 L, caO_148, 79, 6265), I, J) Q ↔ Q 0 0 ((caT_79 L, caO_148, 79, 6265), (if (0 ≤ r ∧ r < I 71 3) ∧ 0 ≤ k ∧ k < 2 then pm_u I 72 (2 * r.toNatClampNeg + k.toNatClampNeg) v else I), J) := by
  have pin : pm_tin r k (I 71 3) (I 71 1) = true → (r * I 71 1 + k).toNatClampNeg = 2 * r.toNatClampNeg + k.toNatClampNeg ∧ pm_in (r * I 71 1 + k) 8 = true := fun h => by
    obtain ⟨h1, h2, h3, h4⟩ := ht
    rw [h1] at h ⊢
    simp only [pm_tin, Bool.and_eq_true, decide_eq_true_eq] at h
    obtain ⟨⟨⟨a1, a2⟩, a3⟩, a4⟩ := h
    exact pi_cell (lim := 4) (w := 2) a1 (by rw [pi_lt] at a2 ⊢; rw [pi_le] at h4; omega) a3 a4 rfl (by decide)
  have e : (if pm_tin r k (I 71 3) (I 71 1) then ((caT_79 L, caO_148, 79, 6265), pm_u I 72 (r * I 71 1 + k).toNatClampNeg v, J) else ((caT_79 L, caO_148, 79, 6265), I, J)) = ((caT_79 L, caO_148, 79, 6265), (if (0 ≤ r ∧ r < I 71 3) ∧ 0 ≤ k ∧ k < 2 then pm_u I 72 (2 * r.toNatClampNeg + k.toNatClampNeg) v else I), J) := by
    by_cases h : pm_tin r k (I 71 3) (I 71 1) = true
    · rw [if_pos h, (pin h).1]
      simp only [pm_tin, Bool.and_eq_true, decide_eq_true_eq, ht.1, and_assoc] at h
      rw [if_pos (by simpa only [and_assoc] using h)]
    · rw [if_neg h]
      simp only [pm_tin, Bool.and_eq_true, decide_eq_true_eq, ht.1, and_assoc] at h
      rw [if_neg (by simpa only [and_assoc] using h)]
  rw [← e]
  have htb : pm_tb ((caT_79 L, caO_148, 79, 6265), I, J) 71 72 8 (I 71 1) := ⟨rfl, by decide, rfl, rfl, by decide, rfl⟩
  have hin : pm_tin r k (I 71 3) (I 71 1) = true → pm_in (r * I 71 1 + k) 8 = true := fun h => (pin h).2
  refine pm_wc_iff (fun Q' h => ?_) Q
  refine pm_ts_set htb hin ?_
  exact h
theorem ca_set_75 {d L : Nat} {I : Nat → Nat → Int32} {J : Nat → Nat → Int64} {r k v : Int32} {Q : Int32 → Int64 → pm_H → Prop} (ht : pm_ti (I 75) 3 4) : pm_wc pm_code pm_meta d 84 [.ref 75, .int r, .int k, .int v] ((caT_79 L, caO_148, 79, 6265), I, J) Q ↔ Q 0 0 ((caT_79 L, caO_148, 79, 6265), (if (0 ≤ r ∧ r < I 75 3) ∧ 0 ≤ k ∧ k < 3 then pm_u I 76 (3 * r.toNatClampNeg + k.toNatClampNeg) v else I), J) := by
  have pin : pm_tin r k (I 75 3) (I 75 1) = true → (r * I 75 1 + k).toNatClampNeg = 3 * r.toNatClampNeg + k.toNatClampNeg ∧ pm_in (r * I 75 1 + k) 12 = true := fun h => by
    obtain ⟨h1, h2, h3, h4⟩ := ht
    rw [h1] at h ⊢
    simp only [pm_tin, Bool.and_eq_true, decide_eq_true_eq] at h
    obtain ⟨⟨⟨a1, a2⟩, a3⟩, a4⟩ := h
    exact pi_cell (lim := 4) (w := 3) a1 (by rw [pi_lt] at a2 ⊢; rw [pi_le] at h4; omega) a3 a4 rfl (by decide)
  have e : (if pm_tin r k (I 75 3) (I 75 1) then ((caT_79 L, caO_148, 79, 6265), pm_u I 76 (r * I 75 1 + k).toNatClampNeg v, J) else ((caT_79 L, caO_148, 79, 6265), I, J)) = ((caT_79 L, caO_148, 79, 6265), (if (0 ≤ r ∧ r < I 75 3) ∧ 0 ≤ k ∧ k < 3 then pm_u I 76 (3 * r.toNatClampNeg + k.toNatClampNeg) v else I), J) := by
    by_cases h : pm_tin r k (I 75 3) (I 75 1) = true
    · rw [if_pos h, (pin h).1]
      simp only [pm_tin, Bool.and_eq_true, decide_eq_true_eq, ht.1, and_assoc] at h
      rw [if_pos (by simpa only [and_assoc] using h)]
    · rw [if_neg h]
      simp only [pm_tin, Bool.and_eq_true, decide_eq_true_eq, ht.1, and_assoc] at h
      rw [if_neg (by simpa only [and_assoc] using h)]
  rw [← e]
  have htb : pm_tb ((caT_79 L, caO_148, 79, 6265), I, J) 75 76 12 (I 75 1) := ⟨rfl, by decide, rfl, rfl, by decide, rfl⟩
  have hin : pm_tin r k (I 75 3) (I 75 1) = true → pm_in (r * I 75 1 + k) 12 = true := fun h => (pin h).2
  refine pm_wc_iff (fun Q' h => ?_) Q
  refine pm_ts_set htb hin ?_
  exact h
theorem ca_hl_71 {d L : Nat} {I : Nat → Nat → Int32} {J : Nat → Nat → Int64} {Q : Int32 → Int64 → pm_H → Prop} (ht : pm_ti (I 71) 2 4) (h3 : I 71 3 = 4) : pm_wp pm_code pm_meta (d + 1) 10 86 ([.ref 70, .ref 9, .int 0], [], ((caT_79 L, caO_148, 79, 6265), I, J)) Q ↔ pm_wp pm_code pm_meta (d + 1) 10 107 ([.ref 70, .ref 9, .int 4], [], ((caT_79 L, caO_148, 79, 6265), pc_fl I 72 2 4 (-1), J)) Q := by
  have key : ∀ (k m : Nat), m + k = 4 → (pm_wp pm_code pm_meta (d + 1) 10 86 ([.ref 70, .ref 9, .int (Int32.ofNat m)], [], ((caT_79 L, caO_148, 79, 6265), pc_fl I 72 2 m (-1), J)) Q ↔ pm_wp pm_code pm_meta (d + 1) 10 107 ([.ref 70, .ref 9, .int 4], [], ((caT_79 L, caO_148, 79, 6265), pc_fl I 72 2 4 (-1), J)) Q) := by
    intro k
    induction k with
    | zero =>
      intro m hm
      have em : m = 4 := by omega
      subst em
      rw [ca_ho_86, if_pos (by decide)]
      exact Iff.rfl
    | succ k ih =>
      intro m hm
      have g := on_n (a := m) (by omega)
      have et : pc_fl I 72 2 m (-1) 71 = I 71 := by funext j; exact if_neg (fun q => absurd q.1 (by decide))
      have hl : (4 : Int32) = Int32.ofNat 4 := rfl
      rw [ca_ho_86, if_neg (by rw [hl, on_le (by omega) (by omega)]; omega), ca_ho_91, ca_set_71 (by rw [et]; exact ht), et, h3, if_pos ⟨⟨g.1, by rw [hl, on_lt (by omega) (by omega)]; omega⟩, by decide, by decide⟩, ca_ho_101, on_s, g.2.1, show (0 : Int32).toNatClampNeg = 0 from rfl, show 2 * m + 0 = 2 * m from Nat.add_zero _, pc_fls (by decide)]
      exact ih (m + 1) (by omega)
  have z := key 4 0 (by omega)
  rw [pc_fl0] at z
  exact z
theorem ca_hl_75 {d L : Nat} {I : Nat → Nat → Int32} {J : Nat → Nat → Int64} {Q : Int32 → Int64 → pm_H → Prop} (ht : pm_ti (I 75) 3 4) (h3 : I 75 3 = 4) : pm_wp pm_code pm_meta (d + 1) 10 109 ([.ref 70, .ref 9, .int 0], [], ((caT_79 L, caO_148, 79, 6265), I, J)) Q ↔ pm_wp pm_code pm_meta (d + 1) 10 130 ([.ref 70, .ref 9, .int 4], [], ((caT_79 L, caO_148, 79, 6265), pc_fl I 76 3 4 2, J)) Q := by
  have key : ∀ (k m : Nat), m + k = 4 → (pm_wp pm_code pm_meta (d + 1) 10 109 ([.ref 70, .ref 9, .int (Int32.ofNat m)], [], ((caT_79 L, caO_148, 79, 6265), pc_fl I 76 3 m 2, J)) Q ↔ pm_wp pm_code pm_meta (d + 1) 10 130 ([.ref 70, .ref 9, .int 4], [], ((caT_79 L, caO_148, 79, 6265), pc_fl I 76 3 4 2, J)) Q) := by
    intro k
    induction k with
    | zero =>
      intro m hm
      have em : m = 4 := by omega
      subst em
      rw [ca_ho_109, if_pos (by decide)]
      exact Iff.rfl
    | succ k ih =>
      intro m hm
      have g := on_n (a := m) (by omega)
      have et : pc_fl I 76 3 m 2 75 = I 75 := by funext j; exact if_neg (fun q => absurd q.1 (by decide))
      have hl : (4 : Int32) = Int32.ofNat 4 := rfl
      rw [ca_ho_109, if_neg (by rw [hl, on_le (by omega) (by omega)]; omega), ca_ho_114, ca_set_75 (by rw [et]; exact ht), et, h3, if_pos ⟨⟨g.1, by rw [hl, on_lt (by omega) (by omega)]; omega⟩, by decide, by decide⟩, ca_ho_124, on_s, g.2.1, show (0 : Int32).toNatClampNeg = 0 from rfl, show 3 * m + 0 = 3 * m from Nat.add_zero _, pc_fls (by decide)]
      exact ih (m + 1) (by omega)
  have z := key 4 0 (by omega)
  rw [pc_fl0] at z
  exact z
theorem ca_c52 {d L : Nat} {I : Nat → Nat → Int32} {J : Nat → Nat → Int64} {Q : Int32 → Int64 → pm_H → Prop} : pm_wp pm_code pm_meta (d + 1) 10 86 ([.ref 70, .ref 9, .int 0], [], ((caT_79 L, caO_148, 79, 6265), caI_141 I, caJ_71 J)) Q ↔ pm_wp pm_code pm_meta (d + 1) 10 107 ([.ref 70, .ref 9, .int 4], [], ((caT_79 L, caO_148, 79, 6265), caI_142 I, caJ_71 J)) Q := ca_hl_71 ⟨rfl, rfl, (show (0 : Int32) ≤ 4 by decide), (show (4 : Int32) ≤ 4 by decide)⟩ rfl
theorem ca_c52b {d L : Nat} {I : Nat → Nat → Int32} {J : Nat → Nat → Int64} {Q : Int32 → Int64 → pm_H → Prop} : pm_wp pm_code pm_meta (d + 1) 10 109 ([.ref 70, .ref 9, .int 0], [], ((caT_79 L, caO_148, 79, 6265), caI_142 I, caJ_71 J)) Q ↔ pm_wp pm_code pm_meta (d + 1) 10 130 ([.ref 70, .ref 9, .int 4], [], ((caT_79 L, caO_148, 79, 6265), caI_143 I, caJ_71 J)) Q := ca_hl_75 ⟨rfl, rfl, (show (0 : Int32) ≤ 4 by decide), (show (4 : Int32) ≤ 4 by decide)⟩ rfl
theorem ca_c44 {d L : Nat} {I : Nat → Nat → Int32} {J : Nat → Nat → Int64} {Q : Int32 → Int64 → pm_H → Prop} : pm_wc pm_code pm_meta (d + 2) 10 [.ref 70, .ref 9] ((caT_71 L, caO_131, 71, 6039), caI_122 I, caJ_63 J) Q ↔ Q 0 0 ((caT_79 L, caO_148, 79, 6265), caI_143 I, caJ_71 J) := by
  rw [ca_c44_s0, ca_c45, ca_c44_s2, ca_c46, ca_c44_s4, ca_c47, ca_c44_s6, ca_c48, ca_c44_s8, ca_c49, ca_c44_s10, ca_c50, ca_c44_s12, ca_c51, ca_c44_s14, ca_c52, ca_ho_107, ca_c52b, ca_ho_130]
theorem ca_c2_s18 {d L : Nat} {I : Nat → Nat → Int32} {J : Nat → Nat → Int64} {Q : Int32 → Int64 → pm_H → Prop} : pm_wp pm_code pm_meta d 111 132 ([.ref 8], [.ref 70, .ref 8], ((caT_79 L, caO_148, 79, 6265), caI_143 I, caJ_71 J)) Q ↔ Q 0 0 ((caT_79 L, caO_149, 79, 6265), caI_143 I, caJ_71 J) := (pm_bk_iff pc_ch_111 2 132 _).trans (pm_tt)
theorem ca_c2 {d L : Nat} {I : Nat → Nat → Int32} {J : Nat → Nat → Int64} {Q : Int32 → Int64 → pm_H → Prop} : pm_wc pm_code pm_meta (d + 3) 111 [.ref 8] ((caT_9 L, caO_1, 9, 10), caI_1 I, caJ_1 J) Q ↔ Q 0 0 ((caT_79 L, caO_149, 79, 6265), caI_143 I, caJ_71 J) := by
  rw [ca_c2_s0, ca_c3, ca_c2_s2, ca_c20, ca_c2_s4, ca_c21, ca_c2_s6, ca_c23, ca_c2_s8, ca_c27, ca_c2_s10, ca_c33, ca_c2_s12, ca_c39, ca_c2_s14, ca_c41, ca_c2_s16, ca_c44, ca_c2_s18]
theorem ca_c1_s2 {d L : Nat} {I : Nat → Nat → Int32} {J : Nat → Nat → Int64} {Q : Int32 → Int64 → pm_H → Prop} : pm_wp pm_code pm_meta (d + 1) 317 7 ([.ref 1, pm_unset, pm_unset, pm_unset], [.ref 8], ((caT_79 L, caO_149, 79, 6265), caI_143 I, caJ_71 J)) Q ↔ pm_wc pm_code pm_meta d 177 [.ref 79] ((caT_80 L, caO_150, 80, 6372), caI_144 I, caJ_72 J) (fun v w H => pm_wp pm_code pm_meta (d + 1) 317 15 ([.ref 1, .ref 8, pm_unset, pm_unset], [.ref 79], H) Q) := (pm_bk_iff pc_ch_317 4 7 _).trans (Iff.rfl)
set_option maxRecDepth 20000 in
theorem ca_c53_s0 {d L : Nat} {I : Nat → Nat → Int32} {J : Nat → Nat → Int64} {Q : Int32 → Int64 → pm_H → Prop} : pm_wc pm_code pm_meta d 177 [.ref 79] ((caT_80 L, caO_150, 80, 6372), caI_144 I, caJ_72 J) Q ↔ pm_wp pm_code pm_meta d 177 84 ([.ref 79, pm_unset, pm_unset], [], ((caT_90 L, caO_170, 90, 6568), caI_154 I, caJ_82 J)) Q := (pm_bk_iff pc_ch_177 42 0 _).trans (pm_tt.trans (pm_tt.trans (pm_tt.trans (pm_tt.trans (pm_tt.trans (pm_tt.trans (pm_tt.trans (pm_tt.trans (pm_tt.trans (pm_tt.trans (Iff.rfl)))))))))))
set_option maxRecDepth 20000 in
theorem ca_c53_s1 {d L : Nat} {I : Nat → Nat → Int32} {J : Nat → Nat → Int64} {Q : Int32 → Int64 → pm_H → Prop} : pm_wp pm_code pm_meta d 177 84 ([.ref 79, pm_unset, pm_unset], [], ((caT_90 L, caO_170, 90, 6568), caI_154 I, caJ_82 J)) Q ↔ pm_wp pm_code pm_meta d 177 164 ([.ref 79, pm_unset, pm_unset], [], ((caT_100 L, caO_190, 100, 6744), caI_164 I, caJ_92 J)) Q := (pm_bk_iff pc_ch_177 40 84 _).trans (pm_tt.trans (pm_tt.trans (pm_tt.trans (pm_tt.trans (pm_tt.trans (pm_tt.trans (pm_tt.trans (pm_tt.trans (pm_tt.trans (pm_tt.trans (Iff.rfl)))))))))))
set_option maxRecDepth 20000 in
theorem ca_c53_s2 {d L : Nat} {I : Nat → Nat → Int32} {J : Nat → Nat → Int64} {Q : Int32 → Int64 → pm_H → Prop} : pm_wp pm_code pm_meta d 177 164 ([.ref 79, pm_unset, pm_unset], [], ((caT_100 L, caO_190, 100, 6744), caI_164 I, caJ_92 J)) Q ↔ pm_wp pm_code pm_meta d 177 244 ([.ref 79, pm_unset, pm_unset], [], ((caT_110 L, caO_210, 110, 6984), caI_174 I, caJ_102 J)) Q := (pm_bk_iff pc_ch_177 40 164 _).trans (pm_tt.trans (pm_tt.trans (pm_tt.trans (pm_tt.trans (pm_tt.trans (pm_tt.trans (pm_tt.trans (pm_tt.trans (pm_tt.trans (pm_tt.trans (Iff.rfl)))))))))))
set_option maxRecDepth 20000 in
theorem ca_c53_s3 {d L : Nat} {I : Nat → Nat → Int32} {J : Nat → Nat → Int64} {Q : Int32 → Int64 → pm_H → Prop} : pm_wp pm_code pm_meta d 177 244 ([.ref 79, pm_unset, pm_unset], [], ((caT_110 L, caO_210, 110, 6984), caI_174 I, caJ_102 J)) Q ↔ pm_wp pm_code pm_meta d 177 327 ([.ref 79, pm_unset, pm_unset], [], ((caT_120 L, caO_230, 120, 7535), caI_184 I, caJ_112 J)) Q := (pm_bk_iff pc_ch_177 40 244 _).trans (pm_tt.trans (pm_tt.trans (pm_tt.trans (pm_tt.trans (pm_tt.trans (pm_tt.trans (pm_tt.trans (pm_tt.trans (pm_tt.trans (pm_tt.trans (Iff.rfl)))))))))))
set_option maxRecDepth 20000 in
theorem ca_c53_s4 {d L : Nat} {I : Nat → Nat → Int32} {J : Nat → Nat → Int64} {Q : Int32 → Int64 → pm_H → Prop} : pm_wp pm_code pm_meta d 177 327 ([.ref 79, pm_unset, pm_unset], [], ((caT_120 L, caO_230, 120, 7535), caI_184 I, caJ_112 J)) Q ↔ pm_wp pm_code pm_meta d 177 409 ([.ref 79, pm_unset, pm_unset], [], ((caT_130 L, caO_250, 130, 9961), caI_194 I, caJ_122 J)) Q := (pm_bk_iff pc_ch_177 40 327 _).trans (pm_tt.trans (pm_tt.trans (pm_tt.trans (pm_tt.trans (pm_tt.trans (pm_tt.trans (pm_tt.trans (pm_tt.trans (pm_tt.trans (pm_tt.trans (Iff.rfl)))))))))))
set_option maxRecDepth 20000 in
theorem ca_c53_s5 {d L : Nat} {I : Nat → Nat → Int32} {J : Nat → Nat → Int64} {Q : Int32 → Int64 → pm_H → Prop} : pm_wp pm_code pm_meta d 177 409 ([.ref 79, pm_unset, pm_unset], [], ((caT_130 L, caO_250, 130, 9961), caI_194 I, caJ_122 J)) Q ↔ pm_wp pm_code pm_meta d 177 491 ([.ref 79, pm_unset, pm_unset], [], ((caT_140 L, caO_270, 140, 14653), caI_204 I, caJ_132 J)) Q := (pm_bk_iff pc_ch_177 40 409 _).trans (pm_tt.trans (pm_tt.trans (pm_tt.trans (pm_tt.trans (pm_tt.trans (pm_tt.trans (pm_tt.trans (pm_tt.trans (pm_tt.trans (pm_tt.trans (Iff.rfl)))))))))))
set_option maxRecDepth 20000 in
theorem ca_c53_s6 {d L : Nat} {I : Nat → Nat → Int32} {J : Nat → Nat → Int64} {Q : Int32 → Int64 → pm_H → Prop} : pm_wp pm_code pm_meta d 177 491 ([.ref 79, pm_unset, pm_unset], [], ((caT_140 L, caO_270, 140, 14653), caI_204 I, caJ_132 J)) Q ↔ pm_wp pm_code pm_meta d 177 571 ([.ref 79, pm_unset, pm_unset], [], ((caT_150 L, caO_290, 150, 15009), caI_214 I, caJ_142 J)) Q := (pm_bk_iff pc_ch_177 40 491 _).trans (pm_tt.trans (pm_tt.trans (pm_tt.trans (pm_tt.trans (pm_tt.trans (pm_tt.trans (pm_tt.trans (pm_tt.trans (pm_tt.trans (pm_tt.trans (Iff.rfl)))))))))))
set_option maxRecDepth 20000 in
theorem ca_c53_s7 {d L : Nat} {I : Nat → Nat → Int32} {J : Nat → Nat → Int64} {Q : Int32 → Int64 → pm_H → Prop} : pm_wp pm_code pm_meta d 177 571 ([.ref 79, pm_unset, pm_unset], [], ((caT_150 L, caO_290, 150, 15009), caI_214 I, caJ_142 J)) Q ↔ pm_wp pm_code pm_meta d 177 642 ([.ref 79, pm_unset, pm_unset], [], ((caT_155 L, caO_300, 155, 15437), caI_227 I, caJ_147 J)) Q := (pm_bk_iff pc_ch_177 52 571 _).trans (pm_tt.trans (pm_tt.trans (pm_tt.trans (pm_tt.trans (pm_tt.trans (pm_tt.trans (pm_tt.trans (pm_tt.trans (pm_tt.trans (pm_tt.trans (pm_tt.trans (pm_tt.trans (pm_tt.trans (Iff.rfl))))))))))))))
set_option maxRecDepth 20000 in
theorem ca_c53_s8 {d L : Nat} {I : Nat → Nat → Int32} {J : Nat → Nat → Int64} {Q : Int32 → Int64 → pm_H → Prop} : pm_wp pm_code pm_meta d 177 642 ([.ref 79, pm_unset, pm_unset], [], ((caT_155 L, caO_300, 155, 15437), caI_227 I, caJ_147 J)) Q ↔ pm_wp pm_code pm_meta d 177 666 ([.ref 79, .int 0, pm_unset], [], ((caT_158 L, caO_306, 158, 15475), caI_230 I, caJ_150 J)) Q := (pm_bk_iff pc_ch_177 14 642 _).trans (pm_tt.trans (pm_tt.trans (pm_tt.trans (Iff.rfl))))
set_option maxRecDepth 20000 in
theorem ca_rd177_666 {d L : Nat} {I : Nat → Nat → Int32} {J : Nat → Nat → Int64} {Q : Int32 → Int64 → pm_H → Prop} {x1 : Int32} : pm_wp pm_code pm_meta d 177 666 ([.ref 79, .int x1, pm_unset], [], ((caT_158 L, caO_306, 158, 15475), I, J)) Q ↔ if 10 ≤ x1 then pm_wp pm_code pm_meta d 177 713 ([.ref 79, .int x1, pm_unset], [], ((caT_158 L, caO_306, 158, 15475), I, J)) Q else pm_wp pm_code pm_meta d 177 672 ([.ref 79, .int x1, pm_unset], [], ((caT_158 L, caO_306, 158, 15475), I, J)) Q := (pm_bk_iff pc_ch_177 3 666 _).trans (pm_brd)
set_option maxRecDepth 20000 in
theorem ca_rd177_713 {d L : Nat} {I : Nat → Nat → Int32} {J : Nat → Nat → Int64} {Q : Int32 → Int64 → pm_H → Prop} {x1 : Int32} : pm_wp pm_code pm_meta d 177 713 ([.ref 79, .int x1, pm_unset], [], ((caT_158 L, caO_306, 158, 15475), I, J)) Q ↔ Q 0 0 ((caT_158 L, caO_306, 158, 15475), I, J) := (pm_bk_iff pc_ch_177 1 713 _).trans (pm_tt)
set_option maxRecDepth 20000 in
theorem ca_rd177_672 {d L : Nat} {I : Nat → Nat → Int32} {J : Nat → Nat → Int64} {Q : Int32 → Int64 → pm_H → Prop} {x1 : Int32} : pm_wp pm_code pm_meta d 177 672 ([.ref 79, .int x1, pm_unset], [], ((caT_158 L, caO_306, 158, 15475), I, J)) Q ↔ pm_wp pm_code pm_meta d 177 674 ([.ref 79, .int x1, .int 0], [], ((caT_158 L, caO_306, 158, 15475), I, J)) Q := (pm_bk_iff pc_ch_177 2 672 _).trans (Iff.rfl)
set_option maxRecDepth 20000 in
theorem ca_rd177_674 {d L : Nat} {I : Nat → Nat → Int32} {J : Nat → Nat → Int64} {Q : Int32 → Int64 → pm_H → Prop} {x1 x2 : Int32} : pm_wp pm_code pm_meta d 177 674 ([.ref 79, .int x1, .int x2], [], ((caT_158 L, caO_306, 158, 15475), I, J)) Q ↔ if 10 ≤ x2 then pm_wp pm_code pm_meta d 177 707 ([.ref 79, .int x1, .int x2], [], ((caT_158 L, caO_306, 158, 15475), I, J)) Q else pm_wp pm_code pm_meta d 177 680 ([.ref 79, .int x1, .int x2], [], ((caT_158 L, caO_306, 158, 15475), I, J)) Q := (pm_bk_iff pc_ch_177 3 674 _).trans (pm_brd)
set_option maxRecDepth 20000 in
theorem ca_rd177_707 {d L : Nat} {I : Nat → Nat → Int32} {J : Nat → Nat → Int64} {Q : Int32 → Int64 → pm_H → Prop} {x1 x2 : Int32} : pm_wp pm_code pm_meta d 177 707 ([.ref 79, .int x1, .int x2], [], ((caT_158 L, caO_306, 158, 15475), I, J)) Q ↔ pm_wp pm_code pm_meta d 177 666 ([.ref 79, .int (x1 + 1), .int x2], [], ((caT_158 L, caO_306, 158, 15475), I, J)) Q := (pm_bk_iff pc_ch_177 2 707 _).trans (Iff.rfl)
set_option maxRecDepth 20000 in
theorem ca_rd177_680 {d L : Nat} {I : Nat → Nat → Int32} {J : Nat → Nat → Int64} {Q : Int32 → Int64 → pm_H → Prop} {x1 x2 : Int32} : pm_wp pm_code pm_meta d 177 680 ([.ref 79, .int x1, .int x2], [], ((caT_158 L, caO_306, 158, 15475), I, J)) Q ↔ if x1 = x2 then pm_wp pm_code pm_meta d 177 695 ([.ref 79, .int x1, .int x2], [.int ((10 * x1) + x2), .ref 81], ((caT_158 L, caO_306, 158, 15475), I, J)) Q else pm_wp pm_code pm_meta d 177 699 ([.ref 79, .int x1, .int x2], [.int ((10 * x1) + x2), .ref 81], ((caT_158 L, caO_306, 158, 15475), I, J)) Q := (pm_bk_iff pc_ch_177 10 680 _).trans (pm_brn)
set_option maxRecDepth 20000 in
theorem ca_rd177_666b {d L : Nat} {I : Nat → Nat → Int32} {J : Nat → Nat → Int64} {Q : Int32 → Int64 → pm_H → Prop} {x1 x2 : Int32} : pm_wp pm_code pm_meta d 177 666 ([.ref 79, .int x1, .int x2], [], ((caT_158 L, caO_306, 158, 15475), I, J)) Q ↔ if 10 ≤ x1 then pm_wp pm_code pm_meta d 177 713 ([.ref 79, .int x1, .int x2], [], ((caT_158 L, caO_306, 158, 15475), I, J)) Q else pm_wp pm_code pm_meta d 177 672 ([.ref 79, .int x1, .int x2], [], ((caT_158 L, caO_306, 158, 15475), I, J)) Q := (pm_bk_iff pc_ch_177 3 666 _).trans (pm_brd)
set_option maxRecDepth 20000 in
theorem ca_rd177_695 {d L : Nat} {I : Nat → Nat → Int32} {J : Nat → Nat → Int64} {Q : Int32 → Int64 → pm_H → Prop} {x1 x2 s1 : Int32} : pm_wp pm_code pm_meta d 177 695 ([.ref 79, .int x1, .int x2], [.int s1, .ref 81], ((caT_158 L, caO_306, 158, 15475), I, J)) Q ↔ pm_wp pm_code pm_meta d 177 700 ([.ref 79, .int x1, .int x2], [.int 0, .int s1, .ref 81], ((caT_158 L, caO_306, 158, 15475), I, J)) Q := (pm_bk_iff pc_ch_177 2 695 _).trans (Iff.rfl)
set_option maxRecDepth 20000 in
theorem ca_rd177_699 {d L : Nat} {I : Nat → Nat → Int32} {J : Nat → Nat → Int64} {Q : Int32 → Int64 → pm_H → Prop} {x1 x2 s1 : Int32} : pm_wp pm_code pm_meta d 177 699 ([.ref 79, .int x1, .int x2], [.int s1, .ref 81], ((caT_158 L, caO_306, 158, 15475), I, J)) Q ↔ pm_wp pm_code pm_meta d 177 700 ([.ref 79, .int x1, .int x2], [.int 5, .int s1, .ref 81], ((caT_158 L, caO_306, 158, 15475), I, J)) Q := (pm_bk_iff pc_ch_177 1 699 _).trans (Iff.rfl)
set_option maxRecDepth 20000 in
theorem ca_rd177_713b {d L : Nat} {I : Nat → Nat → Int32} {J : Nat → Nat → Int64} {Q : Int32 → Int64 → pm_H → Prop} {x1 x2 : Int32} : pm_wp pm_code pm_meta d 177 713 ([.ref 79, .int x1, .int x2], [], ((caT_158 L, caO_306, 158, 15475), I, J)) Q ↔ Q 0 0 ((caT_158 L, caO_306, 158, 15475), I, J) := (pm_bk_iff pc_ch_177 1 713 _).trans (pm_tt)
set_option maxRecDepth 20000 in
theorem ca_rd177_672b {d L : Nat} {I : Nat → Nat → Int32} {J : Nat → Nat → Int64} {Q : Int32 → Int64 → pm_H → Prop} {x1 x2 : Int32} : pm_wp pm_code pm_meta d 177 672 ([.ref 79, .int x1, .int x2], [], ((caT_158 L, caO_306, 158, 15475), I, J)) Q ↔ pm_wp pm_code pm_meta d 177 674 ([.ref 79, .int x1, .int 0], [], ((caT_158 L, caO_306, 158, 15475), I, J)) Q := (pm_bk_iff pc_ch_177 2 672 _).trans (Iff.rfl)
set_option maxRecDepth 20000 in
theorem ca_rd177_700 {d L : Nat} {I : Nat → Nat → Int32} {J : Nat → Nat → Int64} {Q : Int32 → Int64 → pm_H → Prop} {x1 x2 s1 s2 : Int32} : pm_wp pm_code pm_meta d 177 700 ([.ref 79, .int x1, .int x2], [.int s2, .int s1, .ref 81], ((caT_158 L, caO_306, 158, 15475), I, J)) Q ↔ pm_in s1 100 = true ∧ (pm_wp pm_code pm_meta d 177 674 ([.ref 79, .int x1, .int (x2 + 1)], [], ((caT_158 L, caO_306, 158, 15475), (pm_u I 81 s1.toNatClampNeg s2), J)) Q) := (pm_bk_iff pc_ch_177 3 700 _).trans (and_congr Iff.rfl (Iff.rfl))
theorem ca_rl_177 {d L : Nat} {I : Nat → Nat → Int32} {J : Nat → Nat → Int64} {Q : Int32 → Int64 → pm_H → Prop} : pm_wp pm_code pm_meta d 177 666 ([.ref 79, .int 0, pm_unset], [], ((caT_158 L, caO_306, 158, 15475), I, J)) Q ↔ Q 0 0 ((caT_158 L, caO_306, 158, 15475), pc_rd I 81 100, J) := by
  have h10 : (10 : Int32) = Int32.ofNat 10 := rfl
  have et : ∀ p, pc_rd I 81 p 80 = I 80 := fun p => by funext j; exact if_neg (fun q => absurd q.1 (by decide))
  have inner : ∀ (k a b : Nat), a < 10 → b + k = 10 → (pm_wp pm_code pm_meta d 177 674 ([.ref 79, .int (Int32.ofNat a), .int (Int32.ofNat b)], [], ((caT_158 L, caO_306, 158, 15475), pc_rd I 81 (10 * a + b), J)) Q ↔ pm_wp pm_code pm_meta d 177 666 ([.ref 79, .int (Int32.ofNat (a + 1)), .int 10], [], ((caT_158 L, caO_306, 158, 15475), pc_rd I 81 (10 * (a + 1)), J)) Q) := by
    intro k a
    induction k with
    | zero =>
      intro b ha hb
      have eb : b = 10 := by omega
      subst eb
      rw [ca_rd177_674, if_pos (by decide), ca_rd177_707, on_s, show 10 * a + 10 = 10 * (a + 1) by omega]
      exact Iff.rfl
    | succ k ih =>
      intro b ha hb
      have ga := on_n (a := a) (by omega)
      have gb := on_n (a := b) (by omega)
      have ih := fun b h1 h2 => ih b h1 h2
      have ei : 10 * Int32.ofNat a + Int32.ofNat b = Int32.ofNat (10 * a + b) := by rw [h10, on_mul, hb_add _ _ (by omega) (by omega)]
      have gi := on_n (a := 10 * a + b) (by omega)
      have i100 : pm_in (Int32.ofNat (10 * a + b)) 100 = true := pi_in gi.1 (by rw [gi.2.2]; omega)
      by_cases e : a = b
      · rw [ca_rd177_674, if_neg (by rw [h10, on_le (by omega) (by omega)]; omega), ca_rd177_680, if_pos (by rw [e]), ca_rd177_695, ca_rd177_700, ei, gi.2.1, on_s, pc_rds0 (by omega), show 10 * a + b + 1 = 10 * a + (b + 1) from Nat.add_assoc _ _ _, ih (b + 1) ha (by omega)]
        exact ⟨fun h => h.2, fun h => ⟨i100, h⟩⟩
      · rw [ca_rd177_674, if_neg (by rw [h10, on_le (by omega) (by omega)]; omega), ca_rd177_680, if_neg (by rw [on_eq (by omega) (by omega)]; exact e), ca_rd177_699, ca_rd177_700, ei, gi.2.1, on_s, pc_rds5 (by omega), show 10 * a + b + 1 = 10 * a + (b + 1) from Nat.add_assoc _ _ _, ih (b + 1) ha (by omega)]
        exact ⟨fun h => h.2, fun h => ⟨i100, h⟩⟩
  have outer : ∀ (k a : Nat), a + k = 10 → (pm_wp pm_code pm_meta d 177 666 ([.ref 79, .int (Int32.ofNat a), .int 10], [], ((caT_158 L, caO_306, 158, 15475), pc_rd I 81 (10 * a), J)) Q ↔ Q 0 0 ((caT_158 L, caO_306, 158, 15475), pc_rd I 81 100, J)) := by
    intro k
    induction k with
    | zero =>
      intro a ha
      have ea : a = 10 := by omega
      subst ea
      rw [ca_rd177_666b, if_pos (by decide), ca_rd177_713b]
    | succ k ih =>
      intro a ha
      rw [ca_rd177_666b, if_neg (by rw [h10, on_le (by omega) (by omega)]; omega), ca_rd177_672b]
      exact (inner 10 a 0 (by omega) (by omega)).trans (ih (a + 1) (by omega))
  rw [ca_rd177_666, if_neg (by decide), ca_rd177_672]
  have z := (inner 10 0 0 (by decide) (by omega)).trans (outer 9 1 (by omega))
  rw [show 10 * 0 + 0 = 0 from rfl, pc_rd0] at z
  exact z
theorem ca_c54 {d L : Nat} {I : Nat → Nat → Int32} {J : Nat → Nat → Int64} {Q : Int32 → Int64 → pm_H → Prop} : pm_wp pm_code pm_meta d 177 666 ([.ref 79, .int 0, pm_unset], [], ((caT_158 L, caO_306, 158, 15475), caI_230 I, caJ_150 J)) Q ↔ Q 0 0 ((caT_158 L, caO_306, 158, 15475), caI_231 I, caJ_150 J) := ca_rl_177 
theorem ca_c53 {d L : Nat} {I : Nat → Nat → Int32} {J : Nat → Nat → Int64} {Q : Int32 → Int64 → pm_H → Prop} : pm_wc pm_code pm_meta d 177 [.ref 79] ((caT_80 L, caO_150, 80, 6372), caI_144 I, caJ_72 J) Q ↔ Q 0 0 ((caT_158 L, caO_306, 158, 15475), caI_231 I, caJ_150 J) := by
  rw [ca_c53_s0, ca_c53_s1, ca_c53_s2, ca_c53_s3, ca_c53_s4, ca_c53_s5, ca_c53_s6, ca_c53_s7, ca_c53_s8, ca_c54]
set_option maxRecDepth 20000 in
theorem ca_c1_s4 {d L : Nat} {I : Nat → Nat → Int32} {J : Nat → Nat → Int64} {Q : Int32 → Int64 → pm_H → Prop} : pm_wp pm_code pm_meta d 317 15 ([.ref 1, .ref 8, pm_unset, pm_unset], [.ref 79], ((caT_158 L, caO_306, 158, 15475), caI_231 I, caJ_150 J)) Q ↔ pm_wp pm_code pm_meta d 317 18 ([.ref 1, .ref 8, .ref 79, .int 0], [], ((caT_158 L, caO_306, 158, 15475), caI_231 I, caJ_150 J)) Q := (pm_bk_iff pc_ch_317 3 15 _).trans (Iff.rfl)
theorem ca_c1 {d L : Nat} {I : Nat → Nat → Int32} {J : Nat → Nat → Int64} {Q : Int32 → Int64 → pm_H → Prop} : pm_wc pm_code pm_meta (d + 4) 317 [.ref 1] ((caT_8 L, caO_0, 8, 0), caI_0 I, caJ_0 J) Q ↔ pm_wp pm_code pm_meta (d + 4) 317 18 ([.ref 1, .ref 8, .ref 79, .int 0], [], ((caT_158 L, caO_306, 158, 15475), caI_231 I, caJ_150 J)) Q := by
  rw [ca_c1_s0, ca_c2, ca_c1_s2, ca_c53, ca_c1_s4]

