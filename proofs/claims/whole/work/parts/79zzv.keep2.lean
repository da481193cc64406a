/-! THE LAND is copied: its tables. -/
theorem pc_cpr {I : Nat → Nat → Int32} {a c N M : Nat} (h : N = M) : pm_cp I a (0 : Int32).toNatClampNeg c (0 : Int32).toNatClampNeg N = pm_r I c (fun j => if j < M then I a j else I c j) := by
  have z0 : (0 : Int32).toNatClampNeg = 0 := rfl
  funext x j
  unfold pm_cp
  rw [pm_r_row, z0, h]
  by_cases k1 : x = c
  · subst k1
    rw [if_pos rfl]
    by_cases k2 : j < M
    · rw [if_pos ⟨rfl, by omega, by omega⟩, if_pos k2, Nat.zero_add, Nat.sub_zero]
    · rw [if_neg (fun q => k2 (by omega)), if_neg k2]
  · rw [if_neg (fun q => k1 q.1), if_neg k1]
def pc_W (i : Nat) : Nat := [10, 2, 10, 5, 16, 5, 5, 2, 1, 3, 1, 1, 6].getD i 0
def pc_L (i : Nat) : Nat := [10, 16, 8, 24, 24, 12, 120, 1200, 4, 24, 7, 3, 24].getD i 0
/-- the first n tables are copied, from row a on to row c on -/
def pc_P (a c n : Nat) (I I' : Nat → Nat → Int32) : Prop := (∀ k, (k < c ∨ c + 2 * n ≤ k) → I' k = I k) ∧ ∀ i, i < n → pc_cp (pc_W i) (pc_L i) (I (a + 2 * i)) (I (a + 2 * i + 1)) (I' (c + 2 * i)) (I' (c + 2 * i + 1))
theorem pc_P0 {a c : Nat} {I : Nat → Nat → Int32} : pc_P a c 0 I I := ⟨fun _ _ => rfl, fun i hi => absurd hi (Nat.not_lt_zero _)⟩
theorem pc_Ps {a c n w : Nat} {I I' : Nat → Nat → Int32} (hP : pc_P a c n I I') (hd : a + 26 ≤ c ∨ c + 26 ≤ a) (hn : n < 13) (hw : pc_W n = w) (hs : pm_ti (I (a + 2 * n)) (Int32.ofNat (pc_W n)) (Int32.ofNat (pc_L n))) (ht : pm_ti (I (c + 2 * n)) (Int32.ofNat (pc_W n)) (Int32.ofNat (pc_L n))) :
    pc_P a c (n + 1) I (pm_u (pm_r I' (c + 2 * n + 1) (fun j => if j < w * (I' (a + 2 * n) 3).toNatClampNeg then I' (a + 2 * n + 1) j else I' (c + 2 * n + 1) j)) (c + 2 * n) 3 (I' (a + 2 * n) 3)) := by
  obtain ⟨h1, h2⟩ := hP
  have e1 : I' (a + 2 * n) = I (a + 2 * n) := h1 _ (by omega)
  have e2 : I' (a + 2 * n + 1) = I (a + 2 * n + 1) := h1 _ (by omega)
  have e3 : I' (c + 2 * n) = I (c + 2 * n) := h1 _ (by omega)
  refine ⟨fun k hk => ?_, fun i hi => ?_⟩
  · rw [pm_u_row, if_neg (by omega), pm_r_row, if_neg (by omega)]
    exact h1 k (by omega)
  · by_cases e : i = n
    · subst e
      rw [pm_u_row, if_pos rfl, pm_r_row, if_neg (by omega), e3, e1, e2, pm_u_row, if_neg (by omega), pm_r_row, if_pos rfl]
      refine ⟨pm_ti_w ht hs.2.2.1 hs.2.2.2, by rw [pm_w_at, if_pos rfl], fun j hj => ?_⟩
      rw [hw] at hj
      exact if_pos hj
    · rw [pm_u_row, if_neg (by omega), pm_r_row, if_neg (by omega), pm_u_row, if_neg (by omega), pm_r_row, if_neg (by omega)]
      exact h2 i (by omega)
theorem pb_88k159x10_0 {d L : Nat} {I : Nat → Nat → Int32} {J : Nat → Nat → Int64}  {Q : Int32 → Int64 → pm_H → Prop} : pm_wc pm_code pm_meta d 88 [.ref 159, .ref 10] (pm_Gb L true, I, J) Q ↔ if (I 10 2) = (I 159 2) then pm_wp pm_code pm_meta d 88 11 ([.ref 159, .ref 10], [], (pm_Gb L true, I, J)) Q else pm_wp pm_code pm_meta d 88 22 ([.ref 159, .ref 10], [], (pm_Gb L true, I, J)) Q := (pm_bk_iff pc_ch_88 5 0 _).trans (pm_brn)
theorem pb_88k159x10_11 {d L : Nat} {I : Nat → Nat → Int32} {J : Nat → Nat → Int64}  {Q : Int32 → Int64 → pm_H → Prop} : pm_wp pm_code pm_meta d 88 11 ([.ref 159, .ref 10], [], (pm_Gb L true, I, J)) Q ↔ if (I 10 1) = (I 159 1) then pm_wp pm_code pm_meta d 88 23 ([.ref 159, .ref 10], [], (pm_Gb L true, I, J)) Q else pm_wp pm_code pm_meta d 88 22 ([.ref 159, .ref 10], [], (pm_Gb L true, I, J)) Q := (pm_bk_iff pc_ch_88 5 11 _).trans (pm_brd)
theorem pb_88k159x10_22 {d L : Nat} {I : Nat → Nat → Int32} {J : Nat → Nat → Int64}  {Q : Int32 → Int64 → pm_H → Prop} : pm_wp pm_code pm_meta d 88 22 ([.ref 159, .ref 10], [], (pm_Gb L true, I, J)) Q ↔ Q 0 0 (pm_Gb L true, I, J) := (pm_bk_iff pc_ch_88 1 22 _).trans (pm_tt)
theorem pb_88k159x10_45 {d L : Nat} {I : Nat → Nat → Int32} {J : Nat → Nat → Int64} {Q : Int32 → Int64 → pm_H → Prop} : pm_wp pm_code pm_meta d 88 45 ([.ref 159, .ref 10], [], (pm_Gb L true, I, J)) Q ↔ Q 0 0 (pm_Gb L true, pm_u I 159 3 (I 10 3), J) := (pm_bk_iff pc_ch_88 5 45 _).trans (pm_tt)
theorem pb_88k159x10_23 {d L : Nat} {I : Nat → Nat → Int32} {J : Nat → Nat → Int64} {Q : Int32 → Int64 → pm_H → Prop} : pm_wp pm_code pm_meta d 88 23 ([.ref 159, .ref 10], [], (pm_Gb L true, I, J)) Q ↔ (decide ((0 : Int32) ≤ 0) && decide ((0 : Int32) ≤ 0) && decide (0 ≤ (I 10 3 * I 159 1)) && decide ((0 : Int32).toNatClampNeg + (I 10 3 * I 159 1).toNatClampNeg ≤ 100) && decide ((0 : Int32).toNatClampNeg + (I 10 3 * I 159 1).toNatClampNeg ≤ 100)) = true ∧ pm_wp pm_code pm_meta d 88 45 ([.ref 159, .ref 10], [], (pm_Gb L true, (pm_cp I 11 (0 : Int32).toNatClampNeg 160 (0 : Int32).toNatClampNeg (I 10 3 * I 159 1).toNatClampNeg), J)) Q := (pm_bk_iff pc_ch_88 12 23 _).trans (and_congr Iff.rfl Iff.rfl)
theorem pt_cp_159_10 {d L : Nat} {I : Nat → Nat → Int32} {J : Nat → Nat → Int64} {Q : Int32 → Int64 → pm_H → Prop} (ht : pm_ti (I 159) 10 10) (hs : pm_ti (I 10) 10 10) : pm_wc pm_code pm_meta d 88 [.ref 159, .ref 10] (pm_Gb L true, I, J) Q ↔ Q 0 0 (pm_Gb L true, pm_u (pm_r I 160 (fun j => if j < 10 * (I 10 3).toNatClampNeg then I 11 j else I 160 j)) 159 3 (I 10 3), J) := by
  obtain ⟨h1, h2, h3, h4⟩ := hs
  have h3' := pi_le.mp h3
  have h4' := pi_le.mp h4
  rw [pi_0] at h3'
  rw [show (10 : Int32).toInt = 10 from rfl] at h4'
  have g3 : (I 10 3 * I 159 1).toInt = (I 10 3).toInt * 10 := by rw [ht.1, pi_mul (by rw [show (10 : Int32).toInt = 10 from rfl]; omega) (by rw [show (10 : Int32).toInt = 10 from rfl]; omega), show (10 : Int32).toInt = 10 from rfl]
  have g4 : (I 10 3 * I 159 1).toNatClampNeg = 10 * (I 10 3).toNatClampNeg := by rw [pi_tn, pi_tn, g3]; omega
  have g5 : 0 ≤ I 10 3 * I 159 1 := by rw [pi_le, pi_0, g3]; omega
  have g6 : (I 10 3).toNatClampNeg ≤ 10 := by rw [pi_tn]; omega
  have z0 : (0 : Int32).toNatClampNeg = 0 := rfl
  rw [pb_88k159x10_0, if_pos (by rw [h2, ht.2.1]), pb_88k159x10_11, if_pos (by rw [h1, ht.1]), pb_88k159x10_23, pb_88k159x10_45]
  have hc : (decide ((0 : Int32) ≤ 0) && decide ((0 : Int32) ≤ 0) && decide (0 ≤ (I 10 3 * I 159 1)) && decide ((0 : Int32).toNatClampNeg + (I 10 3 * I 159 1).toNatClampNeg ≤ 100) && decide ((0 : Int32).toNatClampNeg + (I 10 3 * I 159 1).toNatClampNeg ≤ 100)) = true := by
    have k1 : (0 : Int32).toNatClampNeg + (I 10 3 * I 159 1).toNatClampNeg ≤ 100 := by rw [z0, g4]; omega
    simp only [decide_eq_true (Int32.le_refl 0), decide_eq_true g5, decide_eq_true k1, Bool.and_self]
  rw [pc_cpr (by rw [g4]), pm_r_row, if_neg (by decide)]
  exact ⟨fun h => h.2, fun h => ⟨hc, h⟩⟩
theorem pb_88k10x159_0 {d L : Nat} {I : Nat → Nat → Int32} {J : Nat → Nat → Int64}  {Q : Int32 → Int64 → pm_H → Prop} : pm_wc pm_code pm_meta d 88 [.ref 10, .ref 159] (pm_Gb L true, I, J) Q ↔ if (I 159 2) = (I 10 2) then pm_wp pm_code pm_meta d 88 11 ([.ref 10, .ref 159], [], (pm_Gb L true, I, J)) Q else pm_wp pm_code pm_meta d 88 22 ([.ref 10, .ref 159], [], (pm_Gb L true, I, J)) Q := (pm_bk_iff pc_ch_88 5 0 _).trans (pm_brn)
theorem pb_88k10x159_11 {d L : Nat} {I : Nat → Nat → Int32} {J : Nat → Nat → Int64}  {Q : Int32 → Int64 → pm_H → Prop} : pm_wp pm_code pm_meta d 88 11 ([.ref 10, .ref 159], [], (pm_Gb L true, I, J)) Q ↔ if (I 159 1) = (I 10 1) then pm_wp pm_code pm_meta d 88 23 ([.ref 10, .ref 159], [], (pm_Gb L true, I, J)) Q else pm_wp pm_code pm_meta d 88 22 ([.ref 10, .ref 159], [], (pm_Gb L true, I, J)) Q := (pm_bk_iff pc_ch_88 5 11 _).trans (pm_brd)
theorem pb_88k10x159_22 {d L : Nat} {I : Nat → Nat → Int32} {J : Nat → Nat → Int64}  {Q : Int32 → Int64 → pm_H → Prop} : pm_wp pm_code pm_meta d 88 22 ([.ref 10, .ref 159], [], (pm_Gb L true, I, J)) Q ↔ Q 0 0 (pm_Gb L true, I, J) := (pm_bk_iff pc_ch_88 1 22 _).trans (pm_tt)
theorem pb_88k10x159_45 {d L : Nat} {I : Nat → Nat → Int32} {J : Nat → Nat → Int64} {Q : Int32 → Int64 → pm_H → Prop} : pm_wp pm_code pm_meta d 88 45 ([.ref 10, .ref 159], [], (pm_Gb L true, I, J)) Q ↔ Q 0 0 (pm_Gb L true, pm_u I 10 3 (I 159 3), J) := (pm_bk_iff pc_ch_88 5 45 _).trans (pm_tt)
theorem pb_88k10x159_23 {d L : Nat} {I : Nat → Nat → Int32} {J : Nat → Nat → Int64} {Q : Int32 → Int64 → pm_H → Prop} : pm_wp pm_code pm_meta d 88 23 ([.ref 10, .ref 159], [], (pm_Gb L true, I, J)) Q ↔ (decide ((0 : Int32) ≤ 0) && decide ((0 : Int32) ≤ 0) && decide (0 ≤ (I 159 3 * I 10 1)) && decide ((0 : Int32).toNatClampNeg + (I 159 3 * I 10 1).toNatClampNeg ≤ 100) && decide ((0 : Int32).toNatClampNeg + (I 159 3 * I 10 1).toNatClampNeg ≤ 100)) = true ∧ pm_wp pm_code pm_meta d 88 45 ([.ref 10, .ref 159], [], (pm_Gb L true, (pm_cp I 160 (0 : Int32).toNatClampNeg 11 (0 : Int32).toNatClampNeg (I 159 3 * I 10 1).toNatClampNeg), J)) Q := (pm_bk_iff pc_ch_88 12 23 _).trans (and_congr Iff.rfl Iff.rfl)
theorem pt_cp_10_159 {d L : Nat} {I : Nat → Nat → Int32} {J : Nat → Nat → Int64} {Q : Int32 → Int64 → pm_H → Prop} (ht : pm_ti (I 10) 10 10) (hs : pm_ti (I 159) 10 10) : pm_wc pm_code pm_meta d 88 [.ref 10, .ref 159] (pm_Gb L true, I, J) Q ↔ Q 0 0 (pm_Gb L true, pm_u (pm_r I 11 (fun j => if j < 10 * (I 159 3).toNatClampNeg then I 160 j else I 11 j)) 10 3 (I 159 3), J) := by
  obtain ⟨h1, h2, h3, h4⟩ := hs
  have h3' := pi_le.mp h3
  have h4' := pi_le.mp h4
  rw [pi_0] at h3'
  rw [show (10 : Int32).toInt = 10 from rfl] at h4'
  have g3 : (I 159 3 * I 10 1).toInt = (I 159 3).toInt * 10 := by rw [ht.1, pi_mul (by rw [show (10 : Int32).toInt = 10 from rfl]; omega) (by rw [show (10 : Int32).toInt = 10 from rfl]; omega), show (10 : Int32).toInt = 10 from rfl]
  have g4 : (I 159 3 * I 10 1).toNatClampNeg = 10 * (I 159 3).toNatClampNeg := by rw [pi_tn, pi_tn, g3]; omega
  have g5 : 0 ≤ I 159 3 * I 10 1 := by rw [pi_le, pi_0, g3]; omega
  have g6 : (I 159 3).toNatClampNeg ≤ 10 := by rw [pi_tn]; omega
  have z0 : (0 : Int32).toNatClampNeg = 0 := rfl
  rw [pb_88k10x159_0, if_pos (by rw [h2, ht.2.1]), pb_88k10x159_11, if_pos (by rw [h1, ht.1]), pb_88k10x159_23, pb_88k10x159_45]
  have hc : (decide ((0 : Int32) ≤ 0) && decide ((0 : Int32) ≤ 0) && decide (0 ≤ (I 159 3 * I 10 1)) && decide ((0 : Int32).toNatClampNeg + (I 159 3 * I 10 1).toNatClampNeg ≤ 100) && decide ((0 : Int32).toNatClampNeg + (I 159 3 * I 10 1).toNatClampNeg ≤ 100)) = true := by
    have k1 : (0 : Int32).toNatClampNeg + (I 159 3 * I 10 1).toNatClampNeg ≤ 100 := by rw [z0, g4]; omega
    simp only [decide_eq_true (Int32.le_refl 0), decide_eq_true g5, decide_eq_true k1, Bool.and_self]
  rw [pc_cpr (by rw [g4]), pm_r_row, if_neg (by decide)]
  exact ⟨fun h => h.2, fun h => ⟨hc, h⟩⟩
theorem pb_88k161x12_0 {d L : Nat} {I : Nat → Nat → Int32} {J : Nat → Nat → Int64}  {Q : Int32 → Int64 → pm_H → Prop} : pm_wc pm_code pm_meta d 88 [.ref 161, .ref 12] (pm_Gb L true, I, J) Q ↔ if (I 12 2) = (I 161 2) then pm_wp pm_code pm_meta d 88 11 ([.ref 161, .ref 12], [], (pm_Gb L true, I, J)) Q else pm_wp pm_code pm_meta d 88 22 ([.ref 161, .ref 12], [], (pm_Gb L true, I, J)) Q := (pm_bk_iff pc_ch_88 5 0 _).trans (pm_brn)
theorem pb_88k161x12_11 {d L : Nat} {I : Nat → Nat → Int32} {J : Nat → Nat → Int64}  {Q : Int32 → Int64 → pm_H → Prop} : pm_wp pm_code pm_meta d 88 11 ([.ref 161, .ref 12], [], (pm_Gb L true, I, J)) Q ↔ if (I 12 1) = (I 161 1) then pm_wp pm_code pm_meta d 88 23 ([.ref 161, .ref 12], [], (pm_Gb L true, I, J)) Q else pm_wp pm_code pm_meta d 88 22 ([.ref 161, .ref 12], [], (pm_Gb L true, I, J)) Q := (pm_bk_iff pc_ch_88 5 11 _).trans (pm_brd)
theorem pb_88k161x12_22 {d L : Nat} {I : Nat → Nat → Int32} {J : Nat → Nat → Int64}  {Q : Int32 → Int64 → pm_H → Prop} : pm_wp pm_code pm_meta d 88 22 ([.ref 161, .ref 12], [], (pm_Gb L true, I, J)) Q ↔ Q 0 0 (pm_Gb L true, I, J) := (pm_bk_iff pc_ch_88 1 22 _).trans (pm_tt)
theorem pb_88k161x12_45 {d L : Nat} {I : Nat → Nat → Int32} {J : Nat → Nat → Int64} {Q : Int32 → Int64 → pm_H → Prop} : pm_wp pm_code pm_meta d 88 45 ([.ref 161, .ref 12], [], (pm_Gb L true, I, J)) Q ↔ Q 0 0 (pm_Gb L true, pm_u I 161 3 (I 12 3), J) := (pm_bk_iff pc_ch_88 5 45 _).trans (pm_tt)
theorem pb_88k161x12_23 {d L : Nat} {I : Nat → Nat → Int32} {J : Nat → Nat → Int64} {Q : Int32 → Int64 → pm_H → Prop} : pm_wp pm_code pm_meta d 88 23 ([.ref 161, .ref 12], [], (pm_Gb L true, I, J)) Q ↔ (decide ((0 : Int32) ≤ 0) && decide ((0 : Int32) ≤ 0) && decide (0 ≤ (I 12 3 * I 161 1)) && decide ((0 : Int32).toNatClampNeg + (I 12 3 * I 161 1).toNatClampNeg ≤ 32) && decide ((0 : Int32).toNatClampNeg + (I 12 3 * I 161 1).toNatClampNeg ≤ 32)) = true ∧ pm_wp pm_code pm_meta d 88 45 ([.ref 161, .ref 12], [], (pm_Gb L true, (pm_cp I 13 (0 : Int32).toNatClampNeg 162 (0 : Int32).toNatClampNeg (I 12 3 * I 161 1).toNatClampNeg), J)) Q := (pm_bk_iff pc_ch_88 12 23 _).trans (and_congr Iff.rfl Iff.rfl)
theorem pt_cp_161_12 {d L : Nat} {I : Nat → Nat → Int32} {J : Nat → Nat → Int64} {Q : Int32 → Int64 → pm_H → Prop} (ht : pm_ti (I 161) 2 16) (hs : pm_ti (I 12) 2 16) : pm_wc pm_code pm_meta d 88 [.ref 161, .ref 12] (pm_Gb L true, I, J) Q ↔ Q 0 0 (pm_Gb L true, pm_u (pm_r I 162 (fun j => if j < 2 * (I 12 3).toNatClampNeg then I 13 j else I 162 j)) 161 3 (I 12 3), J) := by
  obtain ⟨h1, h2, h3, h4⟩ := hs
  have h3' := pi_le.mp h3
  have h4' := pi_le.mp h4
  rw [pi_0] at h3'
  rw [show (16 : Int32).toInt = 16 from rfl] at h4'
  have g3 : (I 12 3 * I 161 1).toInt = (I 12 3).toInt * 2 := by rw [ht.1, pi_mul (by rw [show (2 : Int32).toInt = 2 from rfl]; omega) (by rw [show (2 : Int32).toInt = 2 from rfl]; omega), show (2 : Int32).toInt = 2 from rfl]
  have g4 : (I 12 3 * I 161 1).toNatClampNeg = 2 * (I 12 3).toNatClampNeg := by rw [pi_tn, pi_tn, g3]; omega
  have g5 : 0 ≤ I 12 3 * I 161 1 := by rw [pi_le, pi_0, g3]; omega
  have g6 : (I 12 3).toNatClampNeg ≤ 16 := by rw [pi_tn]; omega
  have z0 : (0 : Int32).toNatClampNeg = 0 := rfl
  rw [pb_88k161x12_0, if_pos (by rw [h2, ht.2.1]), pb_88k161x12_11, if_pos (by rw [h1, ht.1]), pb_88k161x12_23, pb_88k161x12_45]
  have hc : (decide ((0 : Int32) ≤ 0) && decide ((0 : Int32) ≤ 0) && decide (0 ≤ (I 12 3 * I 161 1)) && decide ((0 : Int32).toNatClampNeg + (I 12 3 * I 161 1).toNatClampNeg ≤ 32) && decide ((0 : Int32).toNatClampNeg + (I 12 3 * I 161 1).toNatClampNeg ≤ 32)) = true := by
    have k1 : (0 : Int32).toNatClampNeg + (I 12 3 * I 161 1).toNatClampNeg ≤ 32 := by rw [z0, g4]; omega
    simp only [decide_eq_true (Int32.le_refl 0), decide_eq_true g5, decide_eq_true k1, Bool.and_self]
  rw [pc_cpr (by rw [g4]), pm_r_row, if_neg (by decide)]
  exact ⟨fun h => h.2, fun h => ⟨hc, h⟩⟩
theorem pb_88k12x161_0 {d L : Nat} {I : Nat → Nat → Int32} {J : Nat → Nat → Int64}  {Q : Int32 → Int64 → pm_H → Prop} : pm_wc pm_code pm_meta d 88 [.ref 12, .ref 161] (pm_Gb L true, I, J) Q ↔ if (I 161 2) = (I 12 2) then pm_wp pm_code pm_meta d 88 11 ([.ref 12, .ref 161], [], (pm_Gb L true, I, J)) Q else pm_wp pm_code pm_meta d 88 22 ([.ref 12, .ref 161], [], (pm_Gb L true, I, J)) Q := (pm_bk_iff pc_ch_88 5 0 _).trans (pm_brn)
theorem pb_88k12x161_11 {d L : Nat} {I : Nat → Nat → Int32} {J : Nat → Nat → Int64}  {Q : Int32 → Int64 → pm_H → Prop} : pm_wp pm_code pm_meta d 88 11 ([.ref 12, .ref 161], [], (pm_Gb L true, I, J)) Q ↔ if (I 161 1) = (I 12 1) then pm_wp pm_code pm_meta d 88 23 ([.ref 12, .ref 161], [], (pm_Gb L true, I, J)) Q else pm_wp pm_code pm_meta d 88 22 ([.ref 12, .ref 161], [], (pm_Gb L true, I, J)) Q := (pm_bk_iff pc_ch_88 5 11 _).trans (pm_brd)
theorem pb_88k12x161_22 {d L : Nat} {I : Nat → Nat → Int32} {J : Nat → Nat → Int64}  {Q : Int32 → Int64 → pm_H → Prop} : pm_wp pm_code pm_meta d 88 22 ([.ref 12, .ref 161], [], (pm_Gb L true, I, J)) Q ↔ Q 0 0 (pm_Gb L true, I, J) := (pm_bk_iff pc_ch_88 1 22 _).trans (pm_tt)
theorem pb_88k12x161_45 {d L : Nat} {I : Nat → Nat → Int32} {J : Nat → Nat → Int64} {Q : Int32 → Int64 → pm_H → Prop} : pm_wp pm_code pm_meta d 88 45 ([.ref 12, .ref 161], [], (pm_Gb L true, I, J)) Q ↔ Q 0 0 (pm_Gb L true, pm_u I 12 3 (I 161 3), J) := (pm_bk_iff pc_ch_88 5 45 _).trans (pm_tt)
theorem pb_88k12x161_23 {d L : Nat} {I : Nat → Nat → Int32} {J : Nat → Nat → Int64} {Q : Int32 → Int64 → pm_H → Prop} : pm_wp pm_code pm_meta d 88 23 ([.ref 12, .ref 161], [], (pm_Gb L true, I, J)) Q ↔ (decide ((0 : Int32) ≤ 0) && decide ((0 : Int32) ≤ 0) && decide (0 ≤ (I 161 3 * I 12 1)) && decide ((0 : Int32).toNatClampNeg + (I 161 3 * I 12 1).toNatClampNeg ≤ 32) && decide ((0 : Int32).toNatClampNeg + (I 161 3 * I 12 1).toNatClampNeg ≤ 32)) = true ∧ pm_wp pm_code pm_meta d 88 45 ([.ref 12, .ref 161], [], (pm_Gb L true, (pm_cp I 162 (0 : Int32).toNatClampNeg 13 (0 : Int32).toNatClampNeg (I 161 3 * I 12 1).toNatClampNeg), J)) Q := (pm_bk_iff pc_ch_88 12 23 _).trans (and_congr Iff.rfl Iff.rfl)
theorem pt_cp_12_161 {d L : Nat} {I : Nat → Nat → Int32} {J : Nat → Nat → Int64} {Q : Int32 → Int64 → pm_H → Prop} (ht : pm_ti (I 12) 2 16) (hs : pm_ti (I 161) 2 16) : pm_wc pm_code pm_meta d 88 [.ref 12, .ref 161] (pm_Gb L true, I, J) Q ↔ Q 0 0 (pm_Gb L true, pm_u (pm_r I 13 (fun j => if j < 2 * (I 161 3).toNatClampNeg then I 162 j else I 13 j)) 12 3 (I 161 3), J) := by
  obtain ⟨h1, h2, h3, h4⟩ := hs
  have h3' := pi_le.mp h3
  have h4' := pi_le.mp h4
  rw [pi_0] at h3'
  rw [show (16 : Int32).toInt = 16 from rfl] at h4'
  have g3 : (I 161 3 * I 12 1).toInt = (I 161 3).toInt * 2 := by rw [ht.1, pi_mul (by rw [show (2 : Int32).toInt = 2 from rfl]; omega) (by rw [show (2 : Int32).toInt = 2 from rfl]; omega), show (2 : Int32).toInt = 2 from rfl]
  have g4 : (I 161 3 * I 12 1).toNatClampNeg = 2 * (I 161 3).toNatClampNeg := by rw [pi_tn, pi_tn, g3]; omega
  have g5 : 0 ≤ I 161 3 * I 12 1 := by rw [pi_le, pi_0, g3]; omega
  have g6 : (I 161 3).toNatClampNeg ≤ 16 := by rw [pi_tn]; omega
  have z0 : (0 : Int32).toNatClampNeg = 0 := rfl
  rw [pb_88k12x161_0, if_pos (by rw [h2, ht.2.1]), pb_88k12x161_11, if_pos (by rw [h1, ht.1]), pb_88k12x161_23, pb_88k12x161_45]
  have hc : (decide ((0 : Int32) ≤ 0) && decide ((0 : Int32) ≤ 0) && decide (0 ≤ (I 161 3 * I 12 1)) && decide ((0 : Int32).toNatClampNeg + (I 161 3 * I 12 1).toNatClampNeg ≤ 32) && decide ((0 : Int32).toNatClampNeg + (I 161 3 * I 12 1).toNatClampNeg ≤ 32)) = true := by
    have k1 : (0 : Int32).toNatClampNeg + (I 161 3 * I 12 1).toNatClampNeg ≤ 32 := by rw [z0, g4]; omega
    simp only [decide_eq_true (Int32.le_refl 0), decide_eq_true g5, decide_eq_true k1, Bool.and_self]
  rw [pc_cpr (by rw [g4]), pm_r_row, if_neg (by decide)]
  exact ⟨fun h => h.2, fun h => ⟨hc, h⟩⟩
theorem pb_88k163x14_0 {d L : Nat} {I : Nat → Nat → Int32} {J : Nat → Nat → Int64}  {Q : Int32 → Int64 → pm_H → Prop} : pm_wc pm_code pm_meta d 88 [.ref 163, .ref 14] (pm_Gb L true, I, J) Q ↔ if (I 14 2) = (I 163 2) then pm_wp pm_code pm_meta d 88 11 ([.ref 163, .ref 14], [], (pm_Gb L true, I, J)) Q else pm_wp pm_code pm_meta d 88 22 ([.ref 163, .ref 14], [], (pm_Gb L true, I, J)) Q := (pm_bk_iff pc_ch_88 5 0 _).trans (pm_brn)
theorem pb_88k163x14_11 {d L : Nat} {I : Nat → Nat → Int32} {J : Nat → Nat → Int64}  {Q : Int32 → Int64 → pm_H → Prop} : pm_wp pm_code pm_meta d 88 11 ([.ref 163, .ref 14], [], (pm_Gb L true, I, J)) Q ↔ if (I 14 1) = (I 163 1) then pm_wp pm_code pm_meta d 88 23 ([.ref 163, .ref 14], [], (pm_Gb L true, I, J)) Q else pm_wp pm_code pm_meta d 88 22 ([.ref 163, .ref 14], [], (pm_Gb L true, I, J)) Q := (pm_bk_iff pc_ch_88 5 11 _).trans (pm_brd)
theorem pb_88k163x14_22 {d L : Nat} {I : Nat → Nat → Int32} {J : Nat → Nat → Int64}  {Q : Int32 → Int64 → pm_H → Prop} : pm_wp pm_code pm_meta d 88 22 ([.ref 163, .ref 14], [], (pm_Gb L true, I, J)) Q ↔ Q 0 0 (pm_Gb L true, I, J) := (pm_bk_iff pc_ch_88 1 22 _).trans (pm_tt)
theorem pb_88k163x14_45 {d L : Nat} {I : Nat → Nat → Int32} {J : Nat → Nat → Int64} {Q : Int32 → Int64 → pm_H → Prop} : pm_wp pm_code pm_meta d 88 45 ([.ref 163, .ref 14], [], (pm_Gb L true, I, J)) Q ↔ Q 0 0 (pm_Gb L true, pm_u I 163 3 (I 14 3), J) := (pm_bk_iff pc_ch_88 5 45 _).trans (pm_tt)
theorem pb_88k163x14_23 {d L : Nat} {I : Nat → Nat → Int32} {J : Nat → Nat → Int64} {Q : Int32 → Int64 → pm_H → Prop} : pm_wp pm_code pm_meta d 88 23 ([.ref 163, .ref 14], [], (pm_Gb L true, I, J)) Q ↔ (decide ((0 : Int32) ≤ 0) && decide ((0 : Int32) ≤ 0) && decide (0 ≤ (I 14 3 * I 163 1)) && decide ((0 : Int32).toNatClampNeg + (I 14 3 * I 163 1).toNatClampNeg ≤ 80) && decide ((0 : Int32).toNatClampNeg + (I 14 3 * I 163 1).toNatClampNeg ≤ 80)) = true ∧ pm_wp pm_code pm_meta d 88 45 ([.ref 163, .ref 14], [], (pm_Gb L true, (pm_cp I 15 (0 : Int32).toNatClampNeg 164 (0 : Int32).toNatClampNeg (I 14 3 * I 163 1).toNatClampNeg), J)) Q := (pm_bk_iff pc_ch_88 12 23 _).trans (and_congr Iff.rfl Iff.rfl)
theorem pt_cp_163_14 {d L : Nat} {I : Nat → Nat → Int32} {J : Nat → Nat → Int64} {Q : Int32 → Int64 → pm_H → Prop} (ht : pm_ti (I 163) 10 8) (hs : pm_ti (I 14) 10 8) : pm_wc pm_code pm_meta d 88 [.ref 163, .ref 14] (pm_Gb L true, I, J) Q ↔ Q 0 0 (pm_Gb L true, pm_u (pm_r I 164 (fun j => if j < 10 * (I 14 3).toNatClampNeg then I 15 j else I 164 j)) 163 3 (I 14 3), J) := by
  obtain ⟨h1, h2, h3, h4⟩ := hs
  have h3' := pi_le.mp h3
  have h4' := pi_le.mp h4
  rw [pi_0] at h3'
  rw [show (8 : Int32).toInt = 8 from rfl] at h4'
  have g3 : (I 14 3 * I 163 1).toInt = (I 14 3).toInt * 10 := by rw [ht.1, pi_mul (by rw [show (10 : Int32).toInt = 10 from rfl]; omega) (by rw [show (10 : Int32).toInt = 10 from rfl]; omega), show (10 : Int32).toInt = 10 from rfl]
  have g4 : (I 14 3 * I 163 1).toNatClampNeg = 10 * (I 14 3).toNatClampNeg := by rw [pi_tn, pi_tn, g3]; omega
  have g5 : 0 ≤ I 14 3 * I 163 1 := by rw [pi_le, pi_0, g3]; omega
  have g6 : (I 14 3).toNatClampNeg ≤ 8 := by rw [pi_tn]; omega
  have z0 : (0 : Int32).toNatClampNeg = 0 := rfl
  rw [pb_88k163x14_0, if_pos (by rw [h2, ht.2.1]), pb_88k163x14_11, if_pos (by rw [h1, ht.1]), pb_88k163x14_23, pb_88k163x14_45]
  have hc : (decide ((0 : Int32) ≤ 0) && decide ((0 : Int32) ≤ 0) && decide (0 ≤ (I 14 3 * I 163 1)) && decide ((0 : Int32).toNatClampNeg + (I 14 3 * I 163 1).toNatClampNeg ≤ 80) && decide ((0 : Int32).toNatClampNeg + (I 14 3 * I 163 1).toNatClampNeg ≤ 80)) = true := by
    have k1 : (0 : Int32).toNatClampNeg + (I 14 3 * I 163 1).toNatClampNeg ≤ 80 := by rw [z0, g4]; omega
    simp only [decide_eq_true (Int32.le_refl 0), decide_eq_true g5, decide_eq_true k1, Bool.and_self]
  rw [pc_cpr (by rw [g4]), pm_r_row, if_neg (by decide)]
  exact ⟨fun h => h.2, fun h => ⟨hc, h⟩⟩
theorem pb_88k14x163_0 {d L : Nat} {I : Nat → Nat → Int32} {J : Nat → Nat → Int64}  {Q : Int32 → Int64 → pm_H → Prop} : pm_wc pm_code pm_meta d 88 [.ref 14, .ref 163] (pm_Gb L true, I, J) Q ↔ if (I 163 2) = (I 14 2) then pm_wp pm_code pm_meta d 88 11 ([.ref 14, .ref 163], [], (pm_Gb L true, I, J)) Q else pm_wp pm_code pm_meta d 88 22 ([.ref 14, .ref 163], [], (pm_Gb L true, I, J)) Q := (pm_bk_iff pc_ch_88 5 0 _).trans (pm_brn)
theorem pb_88k14x163_11 {d L : Nat} {I : Nat → Nat → Int32} {J : Nat → Nat → Int64}  {Q : Int32 → Int64 → pm_H → Prop} : pm_wp pm_code pm_meta d 88 11 ([.ref 14, .ref 163], [], (pm_Gb L true, I, J)) Q ↔ if (I 163 1) = (I 14 1) then pm_wp pm_code pm_meta d 88 23 ([.ref 14, .ref 163], [], (pm_Gb L true, I, J)) Q else pm_wp pm_code pm_meta d 88 22 ([.ref 14, .ref 163], [], (pm_Gb L true, I, J)) Q := (pm_bk_iff pc_ch_88 5 11 _).trans (pm_brd)
theorem pb_88k14x163_22 {d L : Nat} {I : Nat → Nat → Int32} {J : Nat → Nat → Int64}  {Q : Int32 → Int64 → pm_H → Prop} : pm_wp pm_code pm_meta d 88 22 ([.ref 14, .ref 163], [], (pm_Gb L true, I, J)) Q ↔ Q 0 0 (pm_Gb L true, I, J) := (pm_bk_iff pc_ch_88 1 22 _).trans (pm_tt)
theorem pb_88k14x163_45 {d L : Nat} {I : Nat → Nat → Int32} {J : Nat → Nat → Int64} {Q : Int32 → Int64 → pm_H → Prop} : pm_wp pm_code pm_meta d 88 45 ([.ref 14, .ref 163], [], (pm_Gb L true, I, J)) Q ↔ Q 0 0 (pm_Gb L true, pm_u I 14 3 (I 163 3), J) := (pm_bk_iff pc_ch_88 5 45 _).trans (pm_tt)
theorem pb_88k14x163_23 {d L : Nat} {I : Nat → Nat → Int32} {J : Nat → Nat → Int64} {Q : Int32 → Int64 → pm_H → Prop} : pm_wp pm_code pm_meta d 88 23 ([.ref 14, .ref 163], [], (pm_Gb L true, I, J)) Q ↔ (decide ((0 : Int32) ≤ 0) && decide ((0 : Int32) ≤ 0) && decide (0 ≤ (I 163 3 * I 14 1)) && decide ((0 : Int32).toNatClampNeg + (I 163 3 * I 14 1).toNatClampNeg ≤ 80) && decide ((0 : Int32).toNatClampNeg + (I 163 3 * I 14 1).toNatClampNeg ≤ 80)) = true ∧ pm_wp pm_code pm_meta d 88 45 ([.ref 14, .ref 163], [], (pm_Gb L true, (pm_cp I 164 (0 : Int32).toNatClampNeg 15 (0 : Int32).toNatClampNeg (I 163 3 * I 14 1).toNatClampNeg), J)) Q := (pm_bk_iff pc_ch_88 12 23 _).trans (and_congr Iff.rfl Iff.rfl)
theorem pt_cp_14_163 {d L : Nat} {I : Nat → Nat → Int32} {J : Nat → Nat → Int64} {Q : Int32 → Int64 → pm_H → Prop} (ht : pm_ti (I 14) 10 8) (hs : pm_ti (I 163) 10 8) : pm_wc pm_code pm_meta d 88 [.ref 14, .ref 163] (pm_Gb L true, I, J) Q ↔ Q 0 0 (pm_Gb L true, pm_u (pm_r I 15 (fun j => if j < 10 * (I 163 3).toNatClampNeg then I 164 j else I 15 j)) 14 3 (I 163 3), J) := by
  obtain ⟨h1, h2, h3, h4⟩ := hs
  have h3' := pi_le.mp h3
  have h4' := pi_le.mp h4
  rw [pi_0] at h3'
  rw [show (8 : Int32).toInt = 8 from rfl] at h4'
  have g3 : (I 163 3 * I 14 1).toInt = (I 163 3).toInt * 10 := by rw [ht.1, pi_mul (by rw [show (10 : Int32).toInt = 10 from rfl]; omega) (by rw [show (10 : Int32).toInt = 10 from rfl]; omega), show (10 : Int32).toInt = 10 from rfl]
  have g4 : (I 163 3 * I 14 1).toNatClampNeg = 10 * (I 163 3).toNatClampNeg := by rw [pi_tn, pi_tn, g3]; omega
  have g5 : 0 ≤ I 163 3 * I 14 1 := by rw [pi_le, pi_0, g3]; omega
  have g6 : (I 163 3).toNatClampNeg ≤ 8 := by rw [pi_tn]; omega
  have z0 : (0 : Int32).toNatClampNeg = 0 := rfl
  rw [pb_88k14x163_0, if_pos (by rw [h2, ht.2.1]), pb_88k14x163_11, if_pos (by rw [h1, ht.1]), pb_88k14x163_23, pb_88k14x163_45]
  have hc : (decide ((0 : Int32) ≤ 0) && decide ((0 : Int32) ≤ 0) && decide (0 ≤ (I 163 3 * I 14 1)) && decide ((0 : Int32).toNatClampNeg + (I 163 3 * I 14 1).toNatClampNeg ≤ 80) && decide ((0 : Int32).toNatClampNeg + (I 163 3 * I 14 1).toNatClampNeg ≤ 80)) = true := by
    have k1 : (0 : Int32).toNatClampNeg + (I 163 3 * I 14 1).toNatClampNeg ≤ 80 := by rw [z0, g4]; omega
    simp only [decide_eq_true (Int32.le_refl 0), decide_eq_true g5, decide_eq_true k1, Bool.and_self]
  rw [pc_cpr (by rw [g4]), pm_r_row, if_neg (by decide)]
  exact ⟨fun h => h.2, fun h => ⟨hc, h⟩⟩
theorem pb_88k165x16_0 {d L : Nat} {I : Nat → Nat → Int32} {J : Nat → Nat → Int64}  {Q : Int32 → Int64 → pm_H → Prop} : pm_wc pm_code pm_meta d 88 [.ref 165, .ref 16] (pm_Gb L true, I, J) Q ↔ if (I 16 2) = (I 165 2) then pm_wp pm_code pm_meta d 88 11 ([.ref 165, .ref 16], [], (pm_Gb L true, I, J)) Q else pm_wp pm_code pm_meta d 88 22 ([.ref 165, .ref 16], [], (pm_Gb L true, I, J)) Q := (pm_bk_iff pc_ch_88 5 0 _).trans (pm_brn)
theorem pb_88k165x16_11 {d L : Nat} {I : Nat → Nat → Int32} {J : Nat → Nat → Int64}  {Q : Int32 → Int64 → pm_H → Prop} : pm_wp pm_code pm_meta d 88 11 ([.ref 165, .ref 16], [], (pm_Gb L true, I, J)) Q ↔ if (I 16 1) = (I 165 1) then pm_wp pm_code pm_meta d 88 23 ([.ref 165, .ref 16], [], (pm_Gb L true, I, J)) Q else pm_wp pm_code pm_meta d 88 22 ([.ref 165, .ref 16], [], (pm_Gb L true, I, J)) Q := (pm_bk_iff pc_ch_88 5 11 _).trans (pm_brd)
theorem pb_88k165x16_22 {d L : Nat} {I : Nat → Nat → Int32} {J : Nat → Nat → Int64}  {Q : Int32 → Int64 → pm_H → Prop} : pm_wp pm_code pm_meta d 88 22 ([.ref 165, .ref 16], [], (pm_Gb L true, I, J)) Q ↔ Q 0 0 (pm_Gb L true, I, J) := (pm_bk_iff pc_ch_88 1 22 _).trans (pm_tt)
theorem pb_88k165x16_45 {d L : Nat} {I : Nat → Nat → Int32} {J : Nat → Nat → Int64} {Q : Int32 → Int64 → pm_H → Prop} : pm_wp pm_code pm_meta d 88 45 ([.ref 165, .ref 16], [], (pm_Gb L true, I, J)) Q ↔ Q 0 0 (pm_Gb L true, pm_u I 165 3 (I 16 3), J) := (pm_bk_iff pc_ch_88 5 45 _).trans (pm_tt)
theorem pb_88k165x16_23 {d L : Nat} {I : Nat → Nat → Int32} {J : Nat → Nat → Int64} {Q : Int32 → Int64 → pm_H → Prop} : pm_wp pm_code pm_meta d 88 23 ([.ref 165, .ref 16], [], (pm_Gb L true, I, J)) Q ↔ (decide ((0 : Int32) ≤ 0) && decide ((0 : Int32) ≤ 0) && decide (0 ≤ (I 16 3 * I 165 1)) && decide ((0 : Int32).toNatClampNeg + (I 16 3 * I 165 1).toNatClampNeg ≤ 120) && decide ((0 : Int32).toNatClampNeg + (I 16 3 * I 165 1).toNatClampNeg ≤ 120)) = true ∧ pm_wp pm_code pm_meta d 88 45 ([.ref 165, .ref 16], [], (pm_Gb L true, (pm_cp I 17 (0 : Int32).toNatClampNeg 166 (0 : Int32).toNatClampNeg (I 16 3 * I 165 1).toNatClampNeg), J)) Q := (pm_bk_iff pc_ch_88 12 23 _).trans (and_congr Iff.rfl Iff.rfl)
theorem pt_cp_165_16 {d L : Nat} {I : Nat → Nat → Int32} {J : Nat → Nat → Int64} {Q : Int32 → Int64 → pm_H → Prop} (ht : pm_ti (I 165) 5 24) (hs : pm_ti (I 16) 5 24) : pm_wc pm_code pm_meta d 88 [.ref 165, .ref 16] (pm_Gb L true, I, J) Q ↔ Q 0 0 (pm_Gb L true, pm_u (pm_r I 166 (fun j => if j < 5 * (I 16 3).toNatClampNeg then I 17 j else I 166 j)) 165 3 (I 16 3), J) := by
  obtain ⟨h1, h2, h3, h4⟩ := hs
  have h3' := pi_le.mp h3
  have h4' := pi_le.mp h4
  rw [pi_0] at h3'
  rw [show (24 : Int32).toInt = 24 from rfl] at h4'
  have g3 : (I 16 3 * I 165 1).toInt = (I 16 3).toInt * 5 := by rw [ht.1, pi_mul (by rw [show (5 : Int32).toInt = 5 from rfl]; omega) (by rw [show (5 : Int32).toInt = 5 from rfl]; omega), show (5 : Int32).toInt = 5 from rfl]
  have g4 : (I 16 3 * I 165 1).toNatClampNeg = 5 * (I 16 3).toNatClampNeg := by rw [pi_tn, pi_tn, g3]; omega
  have g5 : 0 ≤ I 16 3 * I 165 1 := by rw [pi_le, pi_0, g3]; omega
  have g6 : (I 16 3).toNatClampNeg ≤ 24 := by rw [pi_tn]; omega
  have z0 : (0 : Int32).toNatClampNeg = 0 := rfl
  rw [pb_88k165x16_0, if_pos (by rw [h2, ht.2.1]), pb_88k165x16_11, if_pos (by rw [h1, ht.1]), pb_88k165x16_23, pb_88k165x16_45]
  have hc : (decide ((0 : Int32) ≤ 0) && decide ((0 : Int32) ≤ 0) && decide (0 ≤ (I 16 3 * I 165 1)) && decide ((0 : Int32).toNatClampNeg + (I 16 3 * I 165 1).toNatClampNeg ≤ 120) && decide ((0 : Int32).toNatClampNeg + (I 16 3 * I 165 1).toNatClampNeg ≤ 120)) = true := by
    have k1 : (0 : Int32).toNatClampNeg + (I 16 3 * I 165 1).toNatClampNeg ≤ 120 := by rw [z0, g4]; omega
    simp only [decide_eq_true (Int32.le_refl 0), decide_eq_true g5, decide_eq_true k1, Bool.and_self]
  rw [pc_cpr (by rw [g4]), pm_r_row, if_neg (by decide)]
  exact ⟨fun h => h.2, fun h => ⟨hc, h⟩⟩
theorem pb_88k16x165_0 {d L : Nat} {I : Nat → Nat → Int32} {J : Nat → Nat → Int64}  {Q : Int32 → Int64 → pm_H → Prop} : pm_wc pm_code pm_meta d 88 [.ref 16, .ref 165] (pm_Gb L true, I, J) Q ↔ if (I 165 2) = (I 16 2) then pm_wp pm_code pm_meta d 88 11 ([.ref 16, .ref 165], [], (pm_Gb L true, I, J)) Q else pm_wp pm_code pm_meta d 88 22 ([.ref 16, .ref 165], [], (pm_Gb L true, I, J)) Q := (pm_bk_iff pc_ch_88 5 0 _).trans (pm_brn)
theorem pb_88k16x165_11 {d L : Nat} {I : Nat → Nat → Int32} {J : Nat → Nat → Int64}  {Q : Int32 → Int64 → pm_H → Prop} : pm_wp pm_code pm_meta d 88 11 ([.ref 16, .ref 165], [], (pm_Gb L true, I, J)) Q ↔ if (I 165 1) = (I 16 1) then pm_wp pm_code pm_meta d 88 23 ([.ref 16, .ref 165], [], (pm_Gb L true, I, J)) Q else pm_wp pm_code pm_meta d 88 22 ([.ref 16, .ref 165], [], (pm_Gb L true, I, J)) Q := (pm_bk_iff pc_ch_88 5 11 _).trans (pm_brd)
theorem pb_88k16x165_22 {d L : Nat} {I : Nat → Nat → Int32} {J : Nat → Nat → Int64}  {Q : Int32 → Int64 → pm_H → Prop} : pm_wp pm_code pm_meta d 88 22 ([.ref 16, .ref 165], [], (pm_Gb L true, I, J)) Q ↔ Q 0 0 (pm_Gb L true, I, J) := (pm_bk_iff pc_ch_88 1 22 _).trans (pm_tt)
theorem pb_88k16x165_45 {d L : Nat} {I : Nat → Nat → Int32} {J : Nat → Nat → Int64} {Q : Int32 → Int64 → pm_H → Prop} : pm_wp pm_code pm_meta d 88 45 ([.ref 16, .ref 165], [], (pm_Gb L true, I, J)) Q ↔ Q 0 0 (pm_Gb L true, pm_u I 16 3 (I 165 3), J) := (pm_bk_iff pc_ch_88 5 45 _).trans (pm_tt)
theorem pb_88k16x165_23 {d L : Nat} {I : Nat → Nat → Int32} {J : Nat → Nat → Int64} {Q : Int32 → Int64 → pm_H → Prop} : pm_wp pm_code pm_meta d 88 23 ([.ref 16, .ref 165], [], (pm_Gb L true, I, J)) Q ↔ (decide ((0 : Int32) ≤ 0) && decide ((0 : Int32) ≤ 0) && decide (0 ≤ (I 165 3 * I 16 1)) && decide ((0 : Int32).toNatClampNeg + (I 165 3 * I 16 1).toNatClampNeg ≤ 120) && decide ((0 : Int32).toNatClampNeg + (I 165 3 * I 16 1).toNatClampNeg ≤ 120)) = true ∧ pm_wp pm_code pm_meta d 88 45 ([.ref 16, .ref 165], [], (pm_Gb L true, (pm_cp I 166 (0 : Int32).toNatClampNeg 17 (0 : Int32).toNatClampNeg (I 165 3 * I 16 1).toNatClampNeg), J)) Q := (pm_bk_iff pc_ch_88 12 23 _).trans (and_congr Iff.rfl Iff.rfl)
theorem pt_cp_16_165 {d L : Nat} {I : Nat → Nat → Int32} {J : Nat → Nat → Int64} {Q : Int32 → Int64 → pm_H → Prop} (ht : pm_ti (I 16) 5 24) (hs : pm_ti (I 165) 5 24) : pm_wc pm_code pm_meta d 88 [.ref 16, .ref 165] (pm_Gb L true, I, J) Q ↔ Q 0 0 (pm_Gb L true, pm_u (pm_r I 17 (fun j => if j < 5 * (I 165 3).toNatClampNeg then I 166 j else I 17 j)) 16 3 (I 165 3), J) := by
  obtain ⟨h1, h2, h3, h4⟩ := hs
  have h3' := pi_le.mp h3
  have h4' := pi_le.mp h4
  rw [pi_0] at h3'
  rw [show (24 : Int32).toInt = 24 from rfl] at h4'
  have g3 : (I 165 3 * I 16 1).toInt = (I 165 3).toInt * 5 := by rw [ht.1, pi_mul (by rw [show (5 : Int32).toInt = 5 from rfl]; omega) (by rw [show (5 : Int32).toInt = 5 from rfl]; omega), show (5 : Int32).toInt = 5 from rfl]
  have g4 : (I 165 3 * I 16 1).toNatClampNeg = 5 * (I 165 3).toNatClampNeg := by rw [pi_tn, pi_tn, g3]; omega
  have g5 : 0 ≤ I 165 3 * I 16 1 := by rw [pi_le, pi_0, g3]; omega
  have g6 : (I 165 3).toNatClampNeg ≤ 24 := by rw [pi_tn]; omega
  have z0 : (0 : Int32).toNatClampNeg = 0 := rfl
  rw [pb_88k16x165_0, if_pos (by rw [h2, ht.2.1]), pb_88k16x165_11, if_pos (by rw [h1, ht.1]), pb_88k16x165_23, pb_88k16x165_45]
  have hc : (decide ((0 : Int32) ≤ 0) && decide ((0 : Int32) ≤ 0) && decide (0 ≤ (I 165 3 * I 16 1)) && decide ((0 : Int32).toNatClampNeg + (I 165 3 * I 16 1).toNatClampNeg ≤ 120) && decide ((0 : Int32).toNatClampNeg + (I 165 3 * I 16 1).toNatClampNeg ≤ 120)) = true := by
    have k1 : (0 : Int32).toNatClampNeg + (I 165 3 * I 16 1).toNatClampNeg ≤ 120 := by rw [z0, g4]; omega
    simp only [decide_eq_true (Int32.le_refl 0), decide_eq_true g5, decide_eq_true k1, Bool.and_self]
  rw [pc_cpr (by rw [g4]), pm_r_row, if_neg (by decide)]
  exact ⟨fun h => h.2, fun h => ⟨hc, h⟩⟩
theorem pb_88k167x18_0 {d L : Nat} {I : Nat → Nat → Int32} {J : Nat → Nat → Int64}  {Q : Int32 → Int64 → pm_H → Prop} : pm_wc pm_code pm_meta d 88 [.ref 167, .ref 18] (pm_Gb L true, I, J) Q ↔ if (I 18 2) = (I 167 2) then pm_wp pm_code pm_meta d 88 11 ([.ref 167, .ref 18], [], (pm_Gb L true, I, J)) Q else pm_wp pm_code pm_meta d 88 22 ([.ref 167, .ref 18], [], (pm_Gb L true, I, J)) Q := (pm_bk_iff pc_ch_88 5 0 _).trans (pm_brn)
theorem pb_88k167x18_11 {d L : Nat} {I : Nat → Nat → Int32} {J : Nat → Nat → Int64}  {Q : Int32 → Int64 → pm_H → Prop} : pm_wp pm_code pm_meta d 88 11 ([.ref 167, .ref 18], [], (pm_Gb L true, I, J)) Q ↔ if (I 18 1) = (I 167 1) then pm_wp pm_code pm_meta d 88 23 ([.ref 167, .ref 18], [], (pm_Gb L true, I, J)) Q else pm_wp pm_code pm_meta d 88 22 ([.ref 167, .ref 18], [], (pm_Gb L true, I, J)) Q := (pm_bk_iff pc_ch_88 5 11 _).trans (pm_brd)
theorem pb_88k167x18_22 {d L : Nat} {I : Nat → Nat → Int32} {J : Nat → Nat → Int64}  {Q : Int32 → Int64 → pm_H → Prop} : pm_wp pm_code pm_meta d 88 22 ([.ref 167, .ref 18], [], (pm_Gb L true, I, J)) Q ↔ Q 0 0 (pm_Gb L true, I, J) := (pm_bk_iff pc_ch_88 1 22 _).trans (pm_tt)
theorem pb_88k167x18_45 {d L : Nat} {I : Nat → Nat → Int32} {J : Nat → Nat → Int64} {Q : Int32 → Int64 → pm_H → Prop} : pm_wp pm_code pm_meta d 88 45 ([.ref 167, .ref 18], [], (pm_Gb L true, I, J)) Q ↔ Q 0 0 (pm_Gb L true, pm_u I 167 3 (I 18 3), J) := (pm_bk_iff pc_ch_88 5 45 _).trans (pm_tt)
theorem pb_88k167x18_23 {d L : Nat} {I : Nat → Nat → Int32} {J : Nat → Nat → Int64} {Q : Int32 → Int64 → pm_H → Prop} : pm_wp pm_code pm_meta d 88 23 ([.ref 167, .ref 18], [], (pm_Gb L true, I, J)) Q ↔ (decide ((0 : Int32) ≤ 0) && decide ((0 : Int32) ≤ 0) && decide (0 ≤ (I 18 3 * I 167 1)) && decide ((0 : Int32).toNatClampNeg + (I 18 3 * I 167 1).toNatClampNeg ≤ 384) && decide ((0 : Int32).toNatClampNeg + (I 18 3 * I 167 1).toNatClampNeg ≤ 384)) = true ∧ pm_wp pm_code pm_meta d 88 45 ([.ref 167, .ref 18], [], (pm_Gb L true, (pm_cp I 19 (0 : Int32).toNatClampNeg 168 (0 : Int32).toNatClampNeg (I 18 3 * I 167 1).toNatClampNeg), J)) Q := (pm_bk_iff pc_ch_88 12 23 _).trans (and_congr Iff.rfl Iff.rfl)
theorem pt_cp_167_18 {d L : Nat} {I : Nat → Nat → Int32} {J : Nat → Nat → Int64} {Q : Int32 → Int64 → pm_H → Prop} (ht : pm_ti (I 167) 16 24) (hs : pm_ti (I 18) 16 24) : pm_wc pm_code pm_meta d 88 [.ref 167, .ref 18] (pm_Gb L true, I, J) Q ↔ Q 0 0 (pm_Gb L true, pm_u (pm_r I 168 (fun j => if j < 16 * (I 18 3).toNatClampNeg then I 19 j else I 168 j)) 167 3 (I 18 3), J) := by
  obtain ⟨h1, h2, h3, h4⟩ := hs
  have h3' := pi_le.mp h3
  have h4' := pi_le.mp h4
  rw [pi_0] at h3'
  rw [show (24 : Int32).toInt = 24 from rfl] at h4'
  have g3 : (I 18 3 * I 167 1).toInt = (I 18 3).toInt * 16 := by rw [ht.1, pi_mul (by rw [show (16 : Int32).toInt = 16 from rfl]; omega) (by rw [show (16 : Int32).toInt = 16 from rfl]; omega), show (16 : Int32).toInt = 16 from rfl]
  have g4 : (I 18 3 * I 167 1).toNatClampNeg = 16 * (I 18 3).toNatClampNeg := by rw [pi_tn, pi_tn, g3]; omega
  have g5 : 0 ≤ I 18 3 * I 167 1 := by rw [pi_le, pi_0, g3]; omega
  have g6 : (I 18 3).toNatClampNeg ≤ 24 := by rw [pi_tn]; omega
  have z0 : (0 : Int32).toNatClampNeg = 0 := rfl
  rw [pb_88k167x18_0, if_pos (by rw [h2, ht.2.1]), pb_88k167x18_11, if_pos (by rw [h1, ht.1]), pb_88k167x18_23, pb_88k167x18_45]
  have hc : (decide ((0 : Int32) ≤ 0) && decide ((0 : Int32) ≤ 0) && decide (0 ≤ (I 18 3 * I 167 1)) && decide ((0 : Int32).toNatClampNeg + (I 18 3 * I 167 1).toNatClampNeg ≤ 384) && decide ((0 : Int32).toNatClampNeg + (I 18 3 * I 167 1).toNatClampNeg ≤ 384)) = true := by
    have k1 : (0 : Int32).toNatClampNeg + (I 18 3 * I 167 1).toNatClampNeg ≤ 384 := by rw [z0, g4]; omega
    simp only [decide_eq_true (Int32.le_refl 0), decide_eq_true g5, decide_eq_true k1, Bool.and_self]
  rw [pc_cpr (by rw [g4]), pm_r_row, if_neg (by decide)]
  exact ⟨fun h => h.2, fun h => ⟨hc, h⟩⟩
theorem pb_88k18x167_0 {d L : Nat} {I : Nat → Nat → Int32} {J : Nat → Nat → Int64}  {Q : Int32 → Int64 → pm_H → Prop} : pm_wc pm_code pm_meta d 88 [.ref 18, .ref 167] (pm_Gb L true, I, J) Q ↔ if (I 167 2) = (I 18 2) then pm_wp pm_code pm_meta d 88 11 ([.ref 18, .ref 167], [], (pm_Gb L true, I, J)) Q else pm_wp pm_code pm_meta d 88 22 ([.ref 18, .ref 167], [], (pm_Gb L true, I, J)) Q := (pm_bk_iff pc_ch_88 5 0 _).trans (pm_brn)
theorem pb_88k18x167_11 {d L : Nat} {I : Nat → Nat → Int32} {J : Nat → Nat → Int64}  {Q : Int32 → Int64 → pm_H → Prop} : pm_wp pm_code pm_meta d 88 11 ([.ref 18, .ref 167], [], (pm_Gb L true, I, J)) Q ↔ if (I 167 1) = (I 18 1) then pm_wp pm_code pm_meta d 88 23 ([.ref 18, .ref 167], [], (pm_Gb L true, I, J)) Q else pm_wp pm_code pm_meta d 88 22 ([.ref 18, .ref 167], [], (pm_Gb L true, I, J)) Q := (pm_bk_iff pc_ch_88 5 11 _).trans (pm_brd)
theorem pb_88k18x167_22 {d L : Nat} {I : Nat → Nat → Int32} {J : Nat → Nat → Int64}  {Q : Int32 → Int64 → pm_H → Prop} : pm_wp pm_code pm_meta d 88 22 ([.ref 18, .ref 167], [], (pm_Gb L true, I, J)) Q ↔ Q 0 0 (pm_Gb L true, I, J) := (pm_bk_iff pc_ch_88 1 22 _).trans (pm_tt)
theorem pb_88k18x167_45 {d L : Nat} {I : Nat → Nat → Int32} {J : Nat → Nat → Int64} {Q : Int32 → Int64 → pm_H → Prop} : pm_wp pm_code pm_meta d 88 45 ([.ref 18, .ref 167], [], (pm_Gb L true, I, J)) Q ↔ Q 0 0 (pm_Gb L true, pm_u I 18 3 (I 167 3), J) := (pm_bk_iff pc_ch_88 5 45 _).trans (pm_tt)
theorem pb_88k18x167_23 {d L : Nat} {I : Nat → Nat → Int32} {J : Nat → Nat → Int64} {Q : Int32 → Int64 → pm_H → Prop} : pm_wp pm_code pm_meta d 88 23 ([.ref 18, .ref 167], [], (pm_Gb L true, I, J)) Q ↔ (decide ((0 : Int32) ≤ 0) && decide ((0 : Int32) ≤ 0) && decide (0 ≤ (I 167 3 * I 18 1)) && decide ((0 : Int32).toNatClampNeg + (I 167 3 * I 18 1).toNatClampNeg ≤ 384) && decide ((0 : Int32).toNatClampNeg + (I 167 3 * I 18 1).toNatClampNeg ≤ 384)) = true ∧ pm_wp pm_code pm_meta d 88 45 ([.ref 18, .ref 167], [], (pm_Gb L true, (pm_cp I 168 (0 : Int32).toNatClampNeg 19 (0 : Int32).toNatClampNeg (I 167 3 * I 18 1).toNatClampNeg), J)) Q := (pm_bk_iff pc_ch_88 12 23 _).trans (and_congr Iff.rfl Iff.rfl)
theorem pt_cp_18_167 {d L : Nat} {I : Nat → Nat → Int32} {J : Nat → Nat → Int64} {Q : Int32 → Int64 → pm_H → Prop} (ht : pm_ti (I 18) 16 24) (hs : pm_ti (I 167) 16 24) : pm_wc pm_code pm_meta d 88 [.ref 18, .ref 167] (pm_Gb L true, I, J) Q ↔ Q 0 0 (pm_Gb L true, pm_u (pm_r I 19 (fun j => if j < 16 * (I 167 3).toNatClampNeg then I 168 j else I 19 j)) 18 3 (I 167 3), J) := by
  obtain ⟨h1, h2, h3, h4⟩ := hs
  have h3' := pi_le.mp h3
  have h4' := pi_le.mp h4
  rw [pi_0] at h3'
  rw [show (24 : Int32).toInt = 24 from rfl] at h4'
  have g3 : (I 167 3 * I 18 1).toInt = (I 167 3).toInt * 16 := by rw [ht.1, pi_mul (by rw [show (16 : Int32).toInt = 16 from rfl]; omega) (by rw [show (16 : Int32).toInt = 16 from rfl]; omega), show (16 : Int32).toInt = 16 from rfl]
  have g4 : (I 167 3 * I 18 1).toNatClampNeg = 16 * (I 167 3).toNatClampNeg := by rw [pi_tn, pi_tn, g3]; omega
  have g5 : 0 ≤ I 167 3 * I 18 1 := by rw [pi_le, pi_0, g3]; omega
  have g6 : (I 167 3).toNatClampNeg ≤ 24 := by rw [pi_tn]; omega
  have z0 : (0 : Int32).toNatClampNeg = 0 := rfl
  rw [pb_88k18x167_0, if_pos (by rw [h2, ht.2.1]), pb_88k18x167_11, if_pos (by rw [h1, ht.1]), pb_88k18x167_23, pb_88k18x167_45]
  have hc : (decide ((0 : Int32) ≤ 0) && decide ((0 : Int32) ≤ 0) && decide (0 ≤ (I 167 3 * I 18 1)) && decide ((0 : Int32).toNatClampNeg + (I 167 3 * I 18 1).toNatClampNeg ≤ 384) && decide ((0 : Int32).toNatClampNeg + (I 167 3 * I 18 1).toNatClampNeg ≤ 384)) = true := by
    have k1 : (0 : Int32).toNatClampNeg + (I 167 3 * I 18 1).toNatClampNeg ≤ 384 := by rw [z0, g4]; omega
    simp only [decide_eq_true (Int32.le_refl 0), decide_eq_true g5, decide_eq_true k1, Bool.and_self]
  rw [pc_cpr (by rw [g4]), pm_r_row, if_neg (by decide)]
  exact ⟨fun h => h.2, fun h => ⟨hc, h⟩⟩
theorem pb_88k169x20_0 {d L : Nat} {I : Nat → Nat → Int32} {J : Nat → Nat → Int64}  {Q : Int32 → Int64 → pm_H → Prop} : pm_wc pm_code pm_meta d 88 [.ref 169, .ref 20] (pm_Gb L true, I, J) Q ↔ if (I 20 2) = (I 169 2) then pm_wp pm_code pm_meta d 88 11 ([.ref 169, .ref 20], [], (pm_Gb L true, I, J)) Q else pm_wp pm_code pm_meta d 88 22 ([.ref 169, .ref 20], [], (pm_Gb L true, I, J)) Q := (pm_bk_iff pc_ch_88 5 0 _).trans (pm_brn)
theorem pb_88k169x20_11 {d L : Nat} {I : Nat → Nat → Int32} {J : Nat → Nat → Int64}  {Q : Int32 → Int64 → pm_H → Prop} : pm_wp pm_code pm_meta d 88 11 ([.ref 169, .ref 20], [], (pm_Gb L true, I, J)) Q ↔ if (I 20 1) = (I 169 1) then pm_wp pm_code pm_meta d 88 23 ([.ref 169, .ref 20], [], (pm_Gb L true, I, J)) Q else pm_wp pm_code pm_meta d 88 22 ([.ref 169, .ref 20], [], (pm_Gb L true, I, J)) Q := (pm_bk_iff pc_ch_88 5 11 _).trans (pm_brd)
theorem pb_88k169x20_22 {d L : Nat} {I : Nat → Nat → Int32} {J : Nat → Nat → Int64}  {Q : Int32 → Int64 → pm_H → Prop} : pm_wp pm_code pm_meta d 88 22 ([.ref 169, .ref 20], [], (pm_Gb L true, I, J)) Q ↔ Q 0 0 (pm_Gb L true, I, J) := (pm_bk_iff pc_ch_88 1 22 _).trans (pm_tt)
theorem pb_88k169x20_45 {d L : Nat} {I : Nat → Nat → Int32} {J : Nat → Nat → Int64} {Q : Int32 → Int64 → pm_H → Prop} : pm_wp pm_code pm_meta d 88 45 ([.ref 169, .ref 20], [], (pm_Gb L true, I, J)) Q ↔ Q 0 0 (pm_Gb L true, pm_u I 169 3 (I 20 3), J) := (pm_bk_iff pc_ch_88 5 45 _).trans (pm_tt)
theorem pb_88k169x20_23 {d L : Nat} {I : Nat → Nat → Int32} {J : Nat → Nat → Int64} {Q : Int32 → Int64 → pm_H → Prop} : pm_wp pm_code pm_meta d 88 23 ([.ref 169, .ref 20], [], (pm_Gb L true, I, J)) Q ↔ (decide ((0 : Int32) ≤ 0) && decide ((0 : Int32) ≤ 0) && decide (0 ≤ (I 20 3 * I 169 1)) && decide ((0 : Int32).toNatClampNeg + (I 20 3 * I 169 1).toNatClampNeg ≤ 60) && decide ((0 : Int32).toNatClampNeg + (I 20 3 * I 169 1).toNatClampNeg ≤ 60)) = true ∧ pm_wp pm_code pm_meta d 88 45 ([.ref 169, .ref 20], [], (pm_Gb L true, (pm_cp I 21 (0 : Int32).toNatClampNeg 170 (0 : Int32).toNatClampNeg (I 20 3 * I 169 1).toNatClampNeg), J)) Q := (pm_bk_iff pc_ch_88 12 23 _).trans (and_congr Iff.rfl Iff.rfl)
theorem pt_cp_169_20 {d L : Nat} {I : Nat → Nat → Int32} {J : Nat → Nat → Int64} {Q : Int32 → Int64 → pm_H → Prop} (ht : pm_ti (I 169) 5 12) (hs : pm_ti (I 20) 5 12) : pm_wc pm_code pm_meta d 88 [.ref 169, .ref 20] (pm_Gb L true, I, J) Q ↔ Q 0 0 (pm_Gb L true, pm_u (pm_r I 170 (fun j => if j < 5 * (I 20 3).toNatClampNeg then I 21 j else I 170 j)) 169 3 (I 20 3), J) := by
  obtain ⟨h1, h2, h3, h4⟩ := hs
  have h3' := pi_le.mp h3
  have h4' := pi_le.mp h4
  rw [pi_0] at h3'
  rw [show (12 : Int32).toInt = 12 from rfl] at h4'
  have g3 : (I 20 3 * I 169 1).toInt = (I 20 3).toInt * 5 := by rw [ht.1, pi_mul (by rw [show (5 : Int32).toInt = 5 from rfl]; omega) (by rw [show (5 : Int32).toInt = 5 from rfl]; omega), show (5 : Int32).toInt = 5 from rfl]
  have g4 : (I 20 3 * I 169 1).toNatClampNeg = 5 * (I 20 3).toNatClampNeg := by rw [pi_tn, pi_tn, g3]; omega
  have g5 : 0 ≤ I 20 3 * I 169 1 := by rw [pi_le, pi_0, g3]; omega
  have g6 : (I 20 3).toNatClampNeg ≤ 12 := by rw [pi_tn]; omega
  have z0 : (0 : Int32).toNatClampNeg = 0 := rfl
  rw [pb_88k169x20_0, if_pos (by rw [h2, ht.2.1]), pb_88k169x20_11, if_pos (by rw [h1, ht.1]), pb_88k169x20_23, pb_88k169x20_45]
  have hc : (decide ((0 : Int32) ≤ 0) && decide ((0 : Int32) ≤ 0) && decide (0 ≤ (I 20 3 * I 169 1)) && decide ((0 : Int32).toNatClampNeg + (I 20 3 * I 169 1).toNatClampNeg ≤ 60) && decide ((0 : Int32).toNatClampNeg + (I 20 3 * I 169 1).toNatClampNeg ≤ 60)) = true := by
    have k1 : (0 : Int32).toNatClampNeg + (I 20 3 * I 169 1).toNatClampNeg ≤ 60 := by rw [z0, g4]; omega
    simp only [decide_eq_true (Int32.le_refl 0), decide_eq_true g5, decide_eq_true k1, Bool.and_self]
  rw [pc_cpr (by rw [g4]), pm_r_row, if_neg (by decide)]
  exact ⟨fun h => h.2, fun h => ⟨hc, h⟩⟩
theorem pb_88k20x169_0 {d L : Nat} {I : Nat → Nat → Int32} {J : Nat → Nat → Int64}  {Q : Int32 → Int64 → pm_H → Prop} : pm_wc pm_code pm_meta d 88 [.ref 20, .ref 169] (pm_Gb L true, I, J) Q ↔ if (I 169 2) = (I 20 2) then pm_wp pm_code pm_meta d 88 11 ([.ref 20, .ref 169], [], (pm_Gb L true, I, J)) Q else pm_wp pm_code pm_meta d 88 22 ([.ref 20, .ref 169], [], (pm_Gb L true, I, J)) Q := (pm_bk_iff pc_ch_88 5 0 _).trans (pm_brn)
theorem pb_88k20x169_11 {d L : Nat} {I : Nat → Nat → Int32} {J : Nat → Nat → Int64}  {Q : Int32 → Int64 → pm_H → Prop} : pm_wp pm_code pm_meta d 88 11 ([.ref 20, .ref 169], [], (pm_Gb L true, I, J)) Q ↔ if (I 169 1) = (I 20 1) then pm_wp pm_code pm_meta d 88 23 ([.ref 20, .ref 169], [], (pm_Gb L true, I, J)) Q else pm_wp pm_code pm_meta d 88 22 ([.ref 20, .ref 169], [], (pm_Gb L true, I, J)) Q := (pm_bk_iff pc_ch_88 5 11 _).trans (pm_brd)
theorem pb_88k20x169_22 {d L : Nat} {I : Nat → Nat → Int32} {J : Nat → Nat → Int64}  {Q : Int32 → Int64 → pm_H → Prop} : pm_wp pm_code pm_meta d 88 22 ([.ref 20, .ref 169], [], (pm_Gb L true, I, J)) Q ↔ Q 0 0 (pm_Gb L true, I, J) := (pm_bk_iff pc_ch_88 1 22 _).trans (pm_tt)
theorem pb_88k20x169_45 {d L : Nat} {I : Nat → Nat → Int32} {J : Nat → Nat → Int64} {Q : Int32 → Int64 → pm_H → Prop} : pm_wp pm_code pm_meta d 88 45 ([.ref 20, .ref 169], [], (pm_Gb L true, I, J)) Q ↔ Q 0 0 (pm_Gb L true, pm_u I 20 3 (I 169 3), J) := (pm_bk_iff pc_ch_88 5 45 _).trans (pm_tt)
theorem pb_88k20x169_23 {d L : Nat} {I : Nat → Nat → Int32} {J : Nat → Nat → Int64} {Q : Int32 → Int64 → pm_H → Prop} : pm_wp pm_code pm_meta d 88 23 ([.ref 20, .ref 169], [], (pm_Gb L true, I, J)) Q ↔ (decide ((0 : Int32) ≤ 0) && decide ((0 : Int32) ≤ 0) && decide (0 ≤ (I 169 3 * I 20 1)) && decide ((0 : Int32).toNatClampNeg + (I 169 3 * I 20 1).toNatClampNeg ≤ 60) && decide ((0 : Int32).toNatClampNeg + (I 169 3 * I 20 1).toNatClampNeg ≤ 60)) = true ∧ pm_wp pm_code pm_meta d 88 45 ([.ref 20, .ref 169], [], (pm_Gb L true, (pm_cp I 170 (0 : Int32).toNatClampNeg 21 (0 : Int32).toNatClampNeg (I 169 3 * I 20 1).toNatClampNeg), J)) Q := (pm_bk_iff pc_ch_88 12 23 _).trans (and_congr Iff.rfl Iff.rfl)
theorem pt_cp_20_169 {d L : Nat} {I : Nat → Nat → Int32} {J : Nat → Nat → Int64} {Q : Int32 → Int64 → pm_H → Prop} (ht : pm_ti (I 20) 5 12) (hs : pm_ti (I 169) 5 12) : pm_wc pm_code pm_meta d 88 [.ref 20, .ref 169] (pm_Gb L true, I, J) Q ↔ Q 0 0 (pm_Gb L true, pm_u (pm_r I 21 (fun j => if j < 5 * (I 169 3).toNatClampNeg then I 170 j else I 21 j)) 20 3 (I 169 3), J) := by
  obtain ⟨h1, h2, h3, h4⟩ := hs
  have h3' := pi_le.mp h3
  have h4' := pi_le.mp h4
  rw [pi_0] at h3'
  rw [show (12 : Int32).toInt = 12 from rfl] at h4'
  have g3 : (I 169 3 * I 20 1).toInt = (I 169 3).toInt * 5 := by rw [ht.1, pi_mul (by rw [show (5 : Int32).toInt = 5 from rfl]; omega) (by rw [show (5 : Int32).toInt = 5 from rfl]; omega), show (5 : Int32).toInt = 5 from rfl]
  have g4 : (I 169 3 * I 20 1).toNatClampNeg = 5 * (I 169 3).toNatClampNeg := by rw [pi_tn, pi_tn, g3]; omega
  have g5 : 0 ≤ I 169 3 * I 20 1 := by rw [pi_le, pi_0, g3]; omega
  have g6 : (I 169 3).toNatClampNeg ≤ 12 := by rw [pi_tn]; omega
  have z0 : (0 : Int32).toNatClampNeg = 0 := rfl
  rw [pb_88k20x169_0, if_pos (by rw [h2, ht.2.1]), pb_88k20x169_11, if_pos (by rw [h1, ht.1]), pb_88k20x169_23, pb_88k20x169_45]
  have hc : (decide ((0 : Int32) ≤ 0) && decide ((0 : Int32) ≤ 0) && decide (0 ≤ (I 169 3 * I 20 1)) && decide ((0 : Int32).toNatClampNeg + (I 169 3 * I 20 1).toNatClampNeg ≤ 60) && decide ((0 : Int32).toNatClampNeg + (I 169 3 * I 20 1).toNatClampNeg ≤ 60)) = true := by
    have k1 : (0 : Int32).toNatClampNeg + (I 169 3 * I 20 1).toNatClampNeg ≤ 60 := by rw [z0, g4]; omega
    simp only [decide_eq_true (Int32.le_refl 0), decide_eq_true g5, decide_eq_true k1, Bool.and_self]
  rw [pc_cpr (by rw [g4]), pm_r_row, if_neg (by decide)]
  exact ⟨fun h => h.2, fun h => ⟨hc, h⟩⟩
theorem pb_88k171x22_0 {d L : Nat} {I : Nat → Nat → Int32} {J : Nat → Nat → Int64}  {Q : Int32 → Int64 → pm_H → Prop} : pm_wc pm_code pm_meta d 88 [.ref 171, .ref 22] (pm_Gb L true, I, J) Q ↔ if (I 22 2) = (I 171 2) then pm_wp pm_code pm_meta d 88 11 ([.ref 171, .ref 22], [], (pm_Gb L true, I, J)) Q else pm_wp pm_code pm_meta d 88 22 ([.ref 171, .ref 22], [], (pm_Gb L true, I, J)) Q := (pm_bk_iff pc_ch_88 5 0 _).trans (pm_brn)
theorem pb_88k171x22_11 {d L : Nat} {I : Nat → Nat → Int32} {J : Nat → Nat → Int64}  {Q : Int32 → Int64 → pm_H → Prop} : pm_wp pm_code pm_meta d 88 11 ([.ref 171, .ref 22], [], (pm_Gb L true, I, J)) Q ↔ if (I 22 1) = (I 171 1) then pm_wp pm_code pm_meta d 88 23 ([.ref 171, .ref 22], [], (pm_Gb L true, I, J)) Q else pm_wp pm_code pm_meta d 88 22 ([.ref 171, .ref 22], [], (pm_Gb L true, I, J)) Q := (pm_bk_iff pc_ch_88 5 11 _).trans (pm_brd)
theorem pb_88k171x22_22 {d L : Nat} {I : Nat → Nat → Int32} {J : Nat → Nat → Int64}  {Q : Int32 → Int64 → pm_H → Prop} : pm_wp pm_code pm_meta d 88 22 ([.ref 171, .ref 22], [], (pm_Gb L true, I, J)) Q ↔ Q 0 0 (pm_Gb L true, I, J) := (pm_bk_iff pc_ch_88 1 22 _).trans (pm_tt)
theorem pb_88k171x22_45 {d L : Nat} {I : Nat → Nat → Int32} {J : Nat → Nat → Int64} {Q : Int32 → Int64 → pm_H → Prop} : pm_wp pm_code pm_meta d 88 45 ([.ref 171, .ref 22], [], (pm_Gb L true, I, J)) Q ↔ Q 0 0 (pm_Gb L true, pm_u I 171 3 (I 22 3), J) := (pm_bk_iff pc_ch_88 5 45 _).trans (pm_tt)
theorem pb_88k171x22_23 {d L : Nat} {I : Nat → Nat → Int32} {J : Nat → Nat → Int64} {Q : Int32 → Int64 → pm_H → Prop} : pm_wp pm_code pm_meta d 88 23 ([.ref 171, .ref 22], [], (pm_Gb L true, I, J)) Q ↔ (decide ((0 : Int32) ≤ 0) && decide ((0 : Int32) ≤ 0) && decide (0 ≤ (I 22 3 * I 171 1)) && decide ((0 : Int32).toNatClampNeg + (I 22 3 * I 171 1).toNatClampNeg ≤ 600) && decide ((0 : Int32).toNatClampNeg + (I 22 3 * I 171 1).toNatClampNeg ≤ 600)) = true ∧ pm_wp pm_code pm_meta d 88 45 ([.ref 171, .ref 22], [], (pm_Gb L true, (pm_cp I 23 (0 : Int32).toNatClampNeg 172 (0 : Int32).toNatClampNeg (I 22 3 * I 171 1).toNatClampNeg), J)) Q := (pm_bk_iff pc_ch_88 12 23 _).trans (and_congr Iff.rfl Iff.rfl)
theorem pt_cp_171_22 {d L : Nat} {I : Nat → Nat → Int32} {J : Nat → Nat → Int64} {Q : Int32 → Int64 → pm_H → Prop} (ht : pm_ti (I 171) 5 120) (hs : pm_ti (I 22) 5 120) : pm_wc pm_code pm_meta d 88 [.ref 171, .ref 22] (pm_Gb L true, I, J) Q ↔ Q 0 0 (pm_Gb L true, pm_u (pm_r I 172 (fun j => if j < 5 * (I 22 3).toNatClampNeg then I 23 j else I 172 j)) 171 3 (I 22 3), J) := by
  obtain ⟨h1, h2, h3, h4⟩ := hs
  have h3' := pi_le.mp h3
  have h4' := pi_le.mp h4
  rw [pi_0] at h3'
  rw [show (120 : Int32).toInt = 120 from rfl] at h4'
  have g3 : (I 22 3 * I 171 1).toInt = (I 22 3).toInt * 5 := by rw [ht.1, pi_mul (by rw [show (5 : Int32).toInt = 5 from rfl]; omega) (by rw [show (5 : Int32).toInt = 5 from rfl]; omega), show (5 : Int32).toInt = 5 from rfl]
  have g4 : (I 22 3 * I 171 1).toNatClampNeg = 5 * (I 22 3).toNatClampNeg := by rw [pi_tn, pi_tn, g3]; omega
  have g5 : 0 ≤ I 22 3 * I 171 1 := by rw [pi_le, pi_0, g3]; omega
  have g6 : (I 22 3).toNatClampNeg ≤ 120 := by rw [pi_tn]; omega
  have z0 : (0 : Int32).toNatClampNeg = 0 := rfl
  rw [pb_88k171x22_0, if_pos (by rw [h2, ht.2.1]), pb_88k171x22_11, if_pos (by rw [h1, ht.1]), pb_88k171x22_23, pb_88k171x22_45]
  have hc : (decide ((0 : Int32) ≤ 0) && decide ((0 : Int32) ≤ 0) && decide (0 ≤ (I 22 3 * I 171 1)) && decide ((0 : Int32).toNatClampNeg + (I 22 3 * I 171 1).toNatClampNeg ≤ 600) && decide ((0 : Int32).toNatClampNeg + (I 22 3 * I 171 1).toNatClampNeg ≤ 600)) = true := by
    have k1 : (0 : Int32).toNatClampNeg + (I 22 3 * I 171 1).toNatClampNeg ≤ 600 := by rw [z0, g4]; omega
    simp only [decide_eq_true (Int32.le_refl 0), decide_eq_true g5, decide_eq_true k1, Bool.and_self]
  rw [pc_cpr (by rw [g4]), pm_r_row, if_neg (by decide)]
  exact ⟨fun h => h.2, fun h => ⟨hc, h⟩⟩
theorem pb_88k22x171_0 {d L : Nat} {I : Nat → Nat → Int32} {J : Nat → Nat → Int64}  {Q : Int32 → Int64 → pm_H → Prop} : pm_wc pm_code pm_meta d 88 [.ref 22, .ref 171] (pm_Gb L true, I, J) Q ↔ if (I 171 2) = (I 22 2) then pm_wp pm_code pm_meta d 88 11 ([.ref 22, .ref 171], [], (pm_Gb L true, I, J)) Q else pm_wp pm_code pm_meta d 88 22 ([.ref 22, .ref 171], [], (pm_Gb L true, I, J)) Q := (pm_bk_iff pc_ch_88 5 0 _).trans (pm_brn)
theorem pb_88k22x171_11 {d L : Nat} {I : Nat → Nat → Int32} {J : Nat → Nat → Int64}  {Q : Int32 → Int64 → pm_H → Prop} : pm_wp pm_code pm_meta d 88 11 ([.ref 22, .ref 171], [], (pm_Gb L true, I, J)) Q ↔ if (I 171 1) = (I 22 1) then pm_wp pm_code pm_meta d 88 23 ([.ref 22, .ref 171], [], (pm_Gb L true, I, J)) Q else pm_wp pm_code pm_meta d 88 22 ([.ref 22, .ref 171], [], (pm_Gb L true, I, J)) Q := (pm_bk_iff pc_ch_88 5 11 _).trans (pm_brd)
theorem pb_88k22x171_22 {d L : Nat} {I : Nat → Nat → Int32} {J : Nat → Nat → Int64}  {Q : Int32 → Int64 → pm_H → Prop} : pm_wp pm_code pm_meta d 88 22 ([.ref 22, .ref 171], [], (pm_Gb L true, I, J)) Q ↔ Q 0 0 (pm_Gb L true, I, J) := (pm_bk_iff pc_ch_88 1 22 _).trans (pm_tt)
theorem pb_88k22x171_45 {d L : Nat} {I : Nat → Nat → Int32} {J : Nat → Nat → Int64} {Q : Int32 → Int64 → pm_H → Prop} : pm_wp pm_code pm_meta d 88 45 ([.ref 22, .ref 171], [], (pm_Gb L true, I, J)) Q ↔ Q 0 0 (pm_Gb L true, pm_u I 22 3 (I 171 3), J) := (pm_bk_iff pc_ch_88 5 45 _).trans (pm_tt)
theorem pb_88k22x171_23 {d L : Nat} {I : Nat → Nat → Int32} {J : Nat → Nat → Int64} {Q : Int32 → Int64 → pm_H → Prop} : pm_wp pm_code pm_meta d 88 23 ([.ref 22, .ref 171], [], (pm_Gb L true, I, J)) Q ↔ (decide ((0 : Int32) ≤ 0) && decide ((0 : Int32) ≤ 0) && decide (0 ≤ (I 171 3 * I 22 1)) && decide ((0 : Int32).toNatClampNeg + (I 171 3 * I 22 1).toNatClampNeg ≤ 600) && decide ((0 : Int32).toNatClampNeg + (I 171 3 * I 22 1).toNatClampNeg ≤ 600)) = true ∧ pm_wp pm_code pm_meta d 88 45 ([.ref 22, .ref 171], [], (pm_Gb L true, (pm_cp I 172 (0 : Int32).toNatClampNeg 23 (0 : Int32).toNatClampNeg (I 171 3 * I 22 1).toNatClampNeg), J)) Q := (pm_bk_iff pc_ch_88 12 23 _).trans (and_congr Iff.rfl Iff.rfl)
theorem pt_cp_22_171 {d L : Nat} {I : Nat → Nat → Int32} {J : Nat → Nat → Int64} {Q : Int32 → Int64 → pm_H → Prop} (ht : pm_ti (I 22) 5 120) (hs : pm_ti (I 171) 5 120) : pm_wc pm_code pm_meta d 88 [.ref 22, .ref 171] (pm_Gb L true, I, J) Q ↔ Q 0 0 (pm_Gb L true, pm_u (pm_r I 23 (fun j => if j < 5 * (I 171 3).toNatClampNeg then I 172 j else I 23 j)) 22 3 (I 171 3), J) := by
  obtain ⟨h1, h2, h3, h4⟩ := hs
  have h3' := pi_le.mp h3
  have h4' := pi_le.mp h4
  rw [pi_0] at h3'
  rw [show (120 : Int32).toInt = 120 from rfl] at h4'
  have g3 : (I 171 3 * I 22 1).toInt = (I 171 3).toInt * 5 := by rw [ht.1, pi_mul (by rw [show (5 : Int32).toInt = 5 from rfl]; omega) (by rw [show (5 : Int32).toInt = 5 from rfl]; omega), show (5 : Int32).toInt = 5 from rfl]
  have g4 : (I 171 3 * I 22 1).toNatClampNeg = 5 * (I 171 3).toNatClampNeg := by rw [pi_tn, pi_tn, g3]; omega
  have g5 : 0 ≤ I 171 3 * I 22 1 := by rw [pi_le, pi_0, g3]; omega
  have g6 : (I 171 3).toNatClampNeg ≤ 120 := by rw [pi_tn]; omega
  have z0 : (0 : Int32).toNatClampNeg = 0 := rfl
  rw [pb_88k22x171_0, if_pos (by rw [h2, ht.2.1]), pb_88k22x171_11, if_pos (by rw [h1, ht.1]), pb_88k22x171_23, pb_88k22x171_45]
  have hc : (decide ((0 : Int32) ≤ 0) && decide ((0 : Int32) ≤ 0) && decide (0 ≤ (I 171 3 * I 22 1)) && decide ((0 : Int32).toNatClampNeg + (I 171 3 * I 22 1).toNatClampNeg ≤ 600) && decide ((0 : Int32).toNatClampNeg + (I 171 3 * I 22 1).toNatClampNeg ≤ 600)) = true := by
    have k1 : (0 : Int32).toNatClampNeg + (I 171 3 * I 22 1).toNatClampNeg ≤ 600 := by rw [z0, g4]; omega
    simp only [decide_eq_true (Int32.le_refl 0), decide_eq_true g5, decide_eq_true k1, Bool.and_self]
  rw [pc_cpr (by rw [g4]), pm_r_row, if_neg (by decide)]
  exact ⟨fun h => h.2, fun h => ⟨hc, h⟩⟩
theorem pb_88k173x24_0 {d L : Nat} {I : Nat → Nat → Int32} {J : Nat → Nat → Int64}  {Q : Int32 → Int64 → pm_H → Prop} : pm_wc pm_code pm_meta d 88 [.ref 173, .ref 24] (pm_Gb L true, I, J) Q ↔ if (I 24 2) = (I 173 2) then pm_wp pm_code pm_meta d 88 11 ([.ref 173, .ref 24], [], (pm_Gb L true, I, J)) Q else pm_wp pm_code pm_meta d 88 22 ([.ref 173, .ref 24], [], (pm_Gb L true, I, J)) Q := (pm_bk_iff pc_ch_88 5 0 _).trans (pm_brn)
theorem pb_88k173x24_11 {d L : Nat} {I : Nat → Nat → Int32} {J : Nat → Nat → Int64}  {Q : Int32 → Int64 → pm_H → Prop} : pm_wp pm_code pm_meta d 88 11 ([.ref 173, .ref 24], [], (pm_Gb L true, I, J)) Q ↔ if (I 24 1) = (I 173 1) then pm_wp pm_code pm_meta d 88 23 ([.ref 173, .ref 24], [], (pm_Gb L true, I, J)) Q else pm_wp pm_code pm_meta d 88 22 ([.ref 173, .ref 24], [], (pm_Gb L true, I, J)) Q := (pm_bk_iff pc_ch_88 5 11 _).trans (pm_brd)
theorem pb_88k173x24_22 {d L : Nat} {I : Nat → Nat → Int32} {J : Nat → Nat → Int64}  {Q : Int32 → Int64 → pm_H → Prop} : pm_wp pm_code pm_meta d 88 22 ([.ref 173, .ref 24], [], (pm_Gb L true, I, J)) Q ↔ Q 0 0 (pm_Gb L true, I, J) := (pm_bk_iff pc_ch_88 1 22 _).trans (pm_tt)
theorem pb_88k173x24_45 {d L : Nat} {I : Nat → Nat → Int32} {J : Nat → Nat → Int64} {Q : Int32 → Int64 → pm_H → Prop} : pm_wp pm_code pm_meta d 88 45 ([.ref 173, .ref 24], [], (pm_Gb L true, I, J)) Q ↔ Q 0 0 (pm_Gb L true, pm_u I 173 3 (I 24 3), J) := (pm_bk_iff pc_ch_88 5 45 _).trans (pm_tt)
theorem pb_88k173x24_23 {d L : Nat} {I : Nat → Nat → Int32} {J : Nat → Nat → Int64} {Q : Int32 → Int64 → pm_H → Prop} : pm_wp pm_code pm_meta d 88 23 ([.ref 173, .ref 24], [], (pm_Gb L true, I, J)) Q ↔ (decide ((0 : Int32) ≤ 0) && decide ((0 : Int32) ≤ 0) && decide (0 ≤ (I 24 3 * I 173 1)) && decide ((0 : Int32).toNatClampNeg + (I 24 3 * I 173 1).toNatClampNeg ≤ 2400) && decide ((0 : Int32).toNatClampNeg + (I 24 3 * I 173 1).toNatClampNeg ≤ 2400)) = true ∧ pm_wp pm_code pm_meta d 88 45 ([.ref 173, .ref 24], [], (pm_Gb L true, (pm_cp I 25 (0 : Int32).toNatClampNeg 174 (0 : Int32).toNatClampNeg (I 24 3 * I 173 1).toNatClampNeg), J)) Q := (pm_bk_iff pc_ch_88 12 23 _).trans (and_congr Iff.rfl Iff.rfl)
theorem pt_cp_173_24 {d L : Nat} {I : Nat → Nat → Int32} {J : Nat → Nat → Int64} {Q : Int32 → Int64 → pm_H → Prop} (ht : pm_ti (I 173) 2 1200) (hs : pm_ti (I 24) 2 1200) : pm_wc pm_code pm_meta d 88 [.ref 173, .ref 24] (pm_Gb L true, I, J) Q ↔ Q 0 0 (pm_Gb L true, pm_u (pm_r I 174 (fun j => if j < 2 * (I 24 3).toNatClampNeg then I 25 j else I 174 j)) 173 3 (I 24 3), J) := by
  obtain ⟨h1, h2, h3, h4⟩ := hs
  have h3' := pi_le.mp h3
  have h4' := pi_le.mp h4
  rw [pi_0] at h3'
  rw [show (1200 : Int32).toInt = 1200 from rfl] at h4'
  have g3 : (I 24 3 * I 173 1).toInt = (I 24 3).toInt * 2 := by rw [ht.1, pi_mul (by rw [show (2 : Int32).toInt = 2 from rfl]; omega) (by rw [show (2 : Int32).toInt = 2 from rfl]; omega), show (2 : Int32).toInt = 2 from rfl]
  have g4 : (I 24 3 * I 173 1).toNatClampNeg = 2 * (I 24 3).toNatClampNeg := by rw [pi_tn, pi_tn, g3]; omega
  have g5 : 0 ≤ I 24 3 * I 173 1 := by rw [pi_le, pi_0, g3]; omega
  have g6 : (I 24 3).toNatClampNeg ≤ 1200 := by rw [pi_tn]; omega
  have z0 : (0 : Int32).toNatClampNeg = 0 := rfl
  rw [pb_88k173x24_0, if_pos (by rw [h2, ht.2.1]), pb_88k173x24_11, if_pos (by rw [h1, ht.1]), pb_88k173x24_23, pb_88k173x24_45]
  have hc : (decide ((0 : Int32) ≤ 0) && decide ((0 : Int32) ≤ 0) && decide (0 ≤ (I 24 3 * I 173 1)) && decide ((0 : Int32).toNatClampNeg + (I 24 3 * I 173 1).toNatClampNeg ≤ 2400) && decide ((0 : Int32).toNatClampNeg + (I 24 3 * I 173 1).toNatClampNeg ≤ 2400)) = true := by
    have k1 : (0 : Int32).toNatClampNeg + (I 24 3 * I 173 1).toNatClampNeg ≤ 2400 := by rw [z0, g4]; omega
    simp only [decide_eq_true (Int32.le_refl 0), decide_eq_true g5, decide_eq_true k1, Bool.and_self]
  rw [pc_cpr (by rw [g4]), pm_r_row, if_neg (by decide)]
  exact ⟨fun h => h.2, fun h => ⟨hc, h⟩⟩
theorem pb_88k24x173_0 {d L : Nat} {I : Nat → Nat → Int32} {J : Nat → Nat → Int64}  {Q : Int32 → Int64 → pm_H → Prop} : pm_wc pm_code pm_meta d 88 [.ref 24, .ref 173] (pm_Gb L true, I, J) Q ↔ if (I 173 2) = (I 24 2) then pm_wp pm_code pm_meta d 88 11 ([.ref 24, .ref 173], [], (pm_Gb L true, I, J)) Q else pm_wp pm_code pm_meta d 88 22 ([.ref 24, .ref 173], [], (pm_Gb L true, I, J)) Q := (pm_bk_iff pc_ch_88 5 0 _).trans (pm_brn)
theorem pb_88k24x173_11 {d L : Nat} {I : Nat → Nat → Int32} {J : Nat → Nat → Int64}  {Q : Int32 → Int64 → pm_H → Prop} : pm_wp pm_code pm_meta d 88 11 ([.ref 24, .ref 173], [], (pm_Gb L true, I, J)) Q ↔ if (I 173 1) = (I 24 1) then pm_wp pm_code pm_meta d 88 23 ([.ref 24, .ref 173], [], (pm_Gb L true, I, J)) Q else pm_wp pm_code pm_meta d 88 22 ([.ref 24, .ref 173], [], (pm_Gb L true, I, J)) Q := (pm_bk_iff pc_ch_88 5 11 _).trans (pm_brd)
theorem pb_88k24x173_22 {d L : Nat} {I : Nat → Nat → Int32} {J : Nat → Nat → Int64}  {Q : Int32 → Int64 → pm_H → Prop} : pm_wp pm_code pm_meta d 88 22 ([.ref 24, .ref 173], [], (pm_Gb L true, I, J)) Q ↔ Q 0 0 (pm_Gb L true, I, J) := (pm_bk_iff pc_ch_88 1 22 _).trans (pm_tt)
theorem pb_88k24x173_45 {d L : Nat} {I : Nat → Nat → Int32} {J : Nat → Nat → Int64} {Q : Int32 → Int64 → pm_H → Prop} : pm_wp pm_code pm_meta d 88 45 ([.ref 24, .ref 173], [], (pm_Gb L true, I, J)) Q ↔ Q 0 0 (pm_Gb L true, pm_u I 24 3 (I 173 3), J) := (pm_bk_iff pc_ch_88 5 45 _).trans (pm_tt)
theorem pb_88k24x173_23 {d L : Nat} {I : Nat → Nat → Int32} {J : Nat → Nat → Int64} {Q : Int32 → Int64 → pm_H → Prop} : pm_wp pm_code pm_meta d 88 23 ([.ref 24, .ref 173], [], (pm_Gb L true, I, J)) Q ↔ (decide ((0 : Int32) ≤ 0) && decide ((0 : Int32) ≤ 0) && decide (0 ≤ (I 173 3 * I 24 1)) && decide ((0 : Int32).toNatClampNeg + (I 173 3 * I 24 1).toNatClampNeg ≤ 2400) && decide ((0 : Int32).toNatClampNeg + (I 173 3 * I 24 1).toNatClampNeg ≤ 2400)) = true ∧ pm_wp pm_code pm_meta d 88 45 ([.ref 24, .ref 173], [], (pm_Gb L true, (pm_cp I 174 (0 : Int32).toNatClampNeg 25 (0 : Int32).toNatClampNeg (I 173 3 * I 24 1).toNatClampNeg), J)) Q := (pm_bk_iff pc_ch_88 12 23 _).trans (and_congr Iff.rfl Iff.rfl)
theorem pt_cp_24_173 {d L : Nat} {I : Nat → Nat → Int32} {J : Nat → Nat → Int64} {Q : Int32 → Int64 → pm_H → Prop} (ht : pm_ti (I 24) 2 1200) (hs : pm_ti (I 173) 2 1200) : pm_wc pm_code pm_meta d 88 [.ref 24, .ref 173] (pm_Gb L true, I, J) Q ↔ Q 0 0 (pm_Gb L true, pm_u (pm_r I 25 (fun j => if j < 2 * (I 173 3).toNatClampNeg then I 174 j else I 25 j)) 24 3 (I 173 3), J) := by
  obtain ⟨h1, h2, h3, h4⟩ := hs
  have h3' := pi_le.mp h3
  have h4' := pi_le.mp h4
  rw [pi_0] at h3'
  rw [show (1200 : Int32).toInt = 1200 from rfl] at h4'
  have g3 : (I 173 3 * I 24 1).toInt = (I 173 3).toInt * 2 := by rw [ht.1, pi_mul (by rw [show (2 : Int32).toInt = 2 from rfl]; omega) (by rw [show (2 : Int32).toInt = 2 from rfl]; omega), show (2 : Int32).toInt = 2 from rfl]
  have g4 : (I 173 3 * I 24 1).toNatClampNeg = 2 * (I 173 3).toNatClampNeg := by rw [pi_tn, pi_tn, g3]; omega
  have g5 : 0 ≤ I 173 3 * I 24 1 := by rw [pi_le, pi_0, g3]; omega
  have g6 : (I 173 3).toNatClampNeg ≤ 1200 := by rw [pi_tn]; omega
  have z0 : (0 : Int32).toNatClampNeg = 0 := rfl
  rw [pb_88k24x173_0, if_pos (by rw [h2, ht.2.1]), pb_88k24x173_11, if_pos (by rw [h1, ht.1]), pb_88k24x173_23, pb_88k24x173_45]
  have hc : (decide ((0 : Int32) ≤ 0) && decide ((0 : Int32) ≤ 0) && decide (0 ≤ (I 173 3 * I 24 1)) && decide ((0 : Int32).toNatClampNeg + (I 173 3 * I 24 1).toNatClampNeg ≤ 2400) && decide ((0 : Int32).toNatClampNeg + (I 173 3 * I 24 1).toNatClampNeg ≤ 2400)) = true := by
    have k1 : (0 : Int32).toNatClampNeg + (I 173 3 * I 24 1).toNatClampNeg ≤ 2400 := by rw [z0, g4]; omega
    simp only [decide_eq_true (Int32.le_refl 0), decide_eq_true g5, decide_eq_true k1, Bool.and_self]
  rw [pc_cpr (by rw [g4]), pm_r_row, if_neg (by decide)]
  exact ⟨fun h => h.2, fun h => ⟨hc, h⟩⟩
theorem pb_88k175x26_0 {d L : Nat} {I : Nat → Nat → Int32} {J : Nat → Nat → Int64}  {Q : Int32 → Int64 → pm_H → Prop} : pm_wc pm_code pm_meta d 88 [.ref 175, .ref 26] (pm_Gb L true, I, J) Q ↔ if (I 26 2) = (I 175 2) then pm_wp pm_code pm_meta d 88 11 ([.ref 175, .ref 26], [], (pm_Gb L true, I, J)) Q else pm_wp pm_code pm_meta d 88 22 ([.ref 175, .ref 26], [], (pm_Gb L true, I, J)) Q := (pm_bk_iff pc_ch_88 5 0 _).trans (pm_brn)
theorem pb_88k175x26_11 {d L : Nat} {I : Nat → Nat → Int32} {J : Nat → Nat → Int64}  {Q : Int32 → Int64 → pm_H → Prop} : pm_wp pm_code pm_meta d 88 11 ([.ref 175, .ref 26], [], (pm_Gb L true, I, J)) Q ↔ if (I 26 1) = (I 175 1) then pm_wp pm_code pm_meta d 88 23 ([.ref 175, .ref 26], [], (pm_Gb L true, I, J)) Q else pm_wp pm_code pm_meta d 88 22 ([.ref 175, .ref 26], [], (pm_Gb L true, I, J)) Q := (pm_bk_iff pc_ch_88 5 11 _).trans (pm_brd)
theorem pb_88k175x26_22 {d L : Nat} {I : Nat → Nat → Int32} {J : Nat → Nat → Int64}  {Q : Int32 → Int64 → pm_H → Prop} : pm_wp pm_code pm_meta d 88 22 ([.ref 175, .ref 26], [], (pm_Gb L true, I, J)) Q ↔ Q 0 0 (pm_Gb L true, I, J) := (pm_bk_iff pc_ch_88 1 22 _).trans (pm_tt)
theorem pb_88k175x26_45 {d L : Nat} {I : Nat → Nat → Int32} {J : Nat → Nat → Int64} {Q : Int32 → Int64 → pm_H → Prop} : pm_wp pm_code pm_meta d 88 45 ([.ref 175, .ref 26], [], (pm_Gb L true, I, J)) Q ↔ Q 0 0 (pm_Gb L true, pm_u I 175 3 (I 26 3), J) := (pm_bk_iff pc_ch_88 5 45 _).trans (pm_tt)
theorem pb_88k175x26_23 {d L : Nat} {I : Nat → Nat → Int32} {J : Nat → Nat → Int64} {Q : Int32 → Int64 → pm_H → Prop} : pm_wp pm_code pm_meta d 88 23 ([.ref 175, .ref 26], [], (pm_Gb L true, I, J)) Q ↔ (decide ((0 : Int32) ≤ 0) && decide ((0 : Int32) ≤ 0) && decide (0 ≤ (I 26 3 * I 175 1)) && decide ((0 : Int32).toNatClampNeg + (I 26 3 * I 175 1).toNatClampNeg ≤ 4) && decide ((0 : Int32).toNatClampNeg + (I 26 3 * I 175 1).toNatClampNeg ≤ 4)) = true ∧ pm_wp pm_code pm_meta d 88 45 ([.ref 175, .ref 26], [], (pm_Gb L true, (pm_cp I 27 (0 : Int32).toNatClampNeg 176 (0 : Int32).toNatClampNeg (I 26 3 * I 175 1).toNatClampNeg), J)) Q := (pm_bk_iff pc_ch_88 12 23 _).trans (and_congr Iff.rfl Iff.rfl)
theorem pt_cp_175_26 {d L : Nat} {I : Nat → Nat → Int32} {J : Nat → Nat → Int64} {Q : Int32 → Int64 → pm_H → Prop} (ht : pm_ti (I 175) 1 4) (hs : pm_ti (I 26) 1 4) : pm_wc pm_code pm_meta d 88 [.ref 175, .ref 26] (pm_Gb L true, I, J) Q ↔ Q 0 0 (pm_Gb L true, pm_u (pm_r I 176 (fun j => if j < 1 * (I 26 3).toNatClampNeg then I 27 j else I 176 j)) 175 3 (I 26 3), J) := by
  obtain ⟨h1, h2, h3, h4⟩ := hs
  have h3' := pi_le.mp h3
  have h4' := pi_le.mp h4
  rw [pi_0] at h3'
  rw [show (4 : Int32).toInt = 4 from rfl] at h4'
  have g3 : (I 26 3 * I 175 1).toInt = (I 26 3).toInt * 1 := by rw [ht.1, pi_mul (by rw [show (1 : Int32).toInt = 1 from rfl]; omega) (by rw [show (1 : Int32).toInt = 1 from rfl]; omega), show (1 : Int32).toInt = 1 from rfl]
  have g4 : (I 26 3 * I 175 1).toNatClampNeg = 1 * (I 26 3).toNatClampNeg := by rw [pi_tn, pi_tn, g3]; omega
  have g5 : 0 ≤ I 26 3 * I 175 1 := by rw [pi_le, pi_0, g3]; omega
  have g6 : (I 26 3).toNatClampNeg ≤ 4 := by rw [pi_tn]; omega
  have z0 : (0 : Int32).toNatClampNeg = 0 := rfl
  rw [pb_88k175x26_0, if_pos (by rw [h2, ht.2.1]), pb_88k175x26_11, if_pos (by rw [h1, ht.1]), pb_88k175x26_23, pb_88k175x26_45]
  have hc : (decide ((0 : Int32) ≤ 0) && decide ((0 : Int32) ≤ 0) && decide (0 ≤ (I 26 3 * I 175 1)) && decide ((0 : Int32).toNatClampNeg + (I 26 3 * I 175 1).toNatClampNeg ≤ 4) && decide ((0 : Int32).toNatClampNeg + (I 26 3 * I 175 1).toNatClampNeg ≤ 4)) = true := by
    have k1 : (0 : Int32).toNatClampNeg + (I 26 3 * I 175 1).toNatClampNeg ≤ 4 := by rw [z0, g4]; omega
    simp only [decide_eq_true (Int32.le_refl 0), decide_eq_true g5, decide_eq_true k1, Bool.and_self]
  rw [pc_cpr (by rw [g4]), pm_r_row, if_neg (by decide)]
  exact ⟨fun h => h.2, fun h => ⟨hc, h⟩⟩
theorem pb_88k26x175_0 {d L : Nat} {I : Nat → Nat → Int32} {J : Nat → Nat → Int64}  {Q : Int32 → Int64 → pm_H → Prop} : pm_wc pm_code pm_meta d 88 [.ref 26, .ref 175] (pm_Gb L true, I, J) Q ↔ if (I 175 2) = (I 26 2) then pm_wp pm_code pm_meta d 88 11 ([.ref 26, .ref 175], [], (pm_Gb L true, I, J)) Q else pm_wp pm_code pm_meta d 88 22 ([.ref 26, .ref 175], [], (pm_Gb L true, I, J)) Q := (pm_bk_iff pc_ch_88 5 0 _).trans (pm_brn)
theorem pb_88k26x175_11 {d L : Nat} {I : Nat → Nat → Int32} {J : Nat → Nat → Int64}  {Q : Int32 → Int64 → pm_H → Prop} : pm_wp pm_code pm_meta d 88 11 ([.ref 26, .ref 175], [], (pm_Gb L true, I, J)) Q ↔ if (I 175 1) = (I 26 1) then pm_wp pm_code pm_meta d 88 23 ([.ref 26, .ref 175], [], (pm_Gb L true, I, J)) Q else pm_wp pm_code pm_meta d 88 22 ([.ref 26, .ref 175], [], (pm_Gb L true, I, J)) Q := (pm_bk_iff pc_ch_88 5 11 _).trans (pm_brd)
theorem pb_88k26x175_22 {d L : Nat} {I : Nat → Nat → Int32} {J : Nat → Nat → Int64}  {Q : Int32 → Int64 → pm_H → Prop} : pm_wp pm_code pm_meta d 88 22 ([.ref 26, .ref 175], [], (pm_Gb L true, I, J)) Q ↔ Q 0 0 (pm_Gb L true, I, J) := (pm_bk_iff pc_ch_88 1 22 _).trans (pm_tt)
theorem pb_88k26x175_45 {d L : Nat} {I : Nat → Nat → Int32} {J : Nat → Nat → Int64} {Q : Int32 → Int64 → pm_H → Prop} : pm_wp pm_code pm_meta d 88 45 ([.ref 26, .ref 175], [], (pm_Gb L true, I, J)) Q ↔ Q 0 0 (pm_Gb L true, pm_u I 26 3 (I 175 3), J) := (pm_bk_iff pc_ch_88 5 45 _).trans (pm_tt)
theorem pb_88k26x175_23 {d L : Nat} {I : Nat → Nat → Int32} {J : Nat → Nat → Int64} {Q : Int32 → Int64 → pm_H → Prop} : pm_wp pm_code pm_meta d 88 23 ([.ref 26, .ref 175], [], (pm_Gb L true, I, J)) Q ↔ (decide ((0 : Int32) ≤ 0) && decide ((0 : Int32) ≤ 0) && decide (0 ≤ (I 175 3 * I 26 1)) && decide ((0 : Int32).toNatClampNeg + (I 175 3 * I 26 1).toNatClampNeg ≤ 4) && decide ((0 : Int32).toNatClampNeg + (I 175 3 * I 26 1).toNatClampNeg ≤ 4)) = true ∧ pm_wp pm_code pm_meta d 88 45 ([.ref 26, .ref 175], [], (pm_Gb L true, (pm_cp I 176 (0 : Int32).toNatClampNeg 27 (0 : Int32).toNatClampNeg (I 175 3 * I 26 1).toNatClampNeg), J)) Q := (pm_bk_iff pc_ch_88 12 23 _).trans (and_congr Iff.rfl Iff.rfl)
theorem pt_cp_26_175 {d L : Nat} {I : Nat → Nat → Int32} {J : Nat → Nat → Int64} {Q : Int32 → Int64 → pm_H → Prop} (ht : pm_ti (I 26) 1 4) (hs : pm_ti (I 175) 1 4) : pm_wc pm_code pm_meta d 88 [.ref 26, .ref 175] (pm_Gb L true, I, J) Q ↔ Q 0 0 (pm_Gb L true, pm_u (pm_r I 27 (fun j => if j < 1 * (I 175 3).toNatClampNeg then I 176 j else I 27 j)) 26 3 (I 175 3), J) := by
  obtain ⟨h1, h2, h3, h4⟩ := hs
  have h3' := pi_le.mp h3
  have h4' := pi_le.mp h4
  rw [pi_0] at h3'
  rw [show (4 : Int32).toInt = 4 from rfl] at h4'
  have g3 : (I 175 3 * I 26 1).toInt = (I 175 3).toInt * 1 := by rw [ht.1, pi_mul (by rw [show (1 : Int32).toInt = 1 from rfl]; omega) (by rw [show (1 : Int32).toInt = 1 from rfl]; omega), show (1 : Int32).toInt = 1 from rfl]
  have g4 : (I 175 3 * I 26 1).toNatClampNeg = 1 * (I 175 3).toNatClampNeg := by rw [pi_tn, pi_tn, g3]; omega
  have g5 : 0 ≤ I 175 3 * I 26 1 := by rw [pi_le, pi_0, g3]; omega
  have g6 : (I 175 3).toNatClampNeg ≤ 4 := by rw [pi_tn]; omega
  have z0 : (0 : Int32).toNatClampNeg = 0 := rfl
  rw [pb_88k26x175_0, if_pos (by rw [h2, ht.2.1]), pb_88k26x175_11, if_pos (by rw [h1, ht.1]), pb_88k26x175_23, pb_88k26x175_45]
  have hc : (decide ((0 : Int32) ≤ 0) && decide ((0 : Int32) ≤ 0) && decide (0 ≤ (I 175 3 * I 26 1)) && decide ((0 : Int32).toNatClampNeg + (I 175 3 * I 26 1).toNatClampNeg ≤ 4) && decide ((0 : Int32).toNatClampNeg + (I 175 3 * I 26 1).toNatClampNeg ≤ 4)) = true := by
    have k1 : (0 : Int32).toNatClampNeg + (I 175 3 * I 26 1).toNatClampNeg ≤ 4 := by rw [z0, g4]; omega
    simp only [decide_eq_true (Int32.le_refl 0), decide_eq_true g5, decide_eq_true k1, Bool.and_self]
  rw [pc_cpr (by rw [g4]), pm_r_row, if_neg (by decide)]
  exact ⟨fun h => h.2, fun h => ⟨hc, h⟩⟩
theorem pb_88k177x28_0 {d L : Nat} {I : Nat → Nat → Int32} {J : Nat → Nat → Int64}  {Q : Int32 → Int64 → pm_H → Prop} : pm_wc pm_code pm_meta d 88 [.ref 177, .ref 28] (pm_Gb L true, I, J) Q ↔ if (I 28 2) = (I 177 2) then pm_wp pm_code pm_meta d 88 11 ([.ref 177, .ref 28], [], (pm_Gb L true, I, J)) Q else pm_wp pm_code pm_meta d 88 22 ([.ref 177, .ref 28], [], (pm_Gb L true, I, J)) Q := (pm_bk_iff pc_ch_88 5 0 _).trans (pm_brn)
theorem pb_88k177x28_11 {d L : Nat} {I : Nat → Nat → Int32} {J : Nat → Nat → Int64}  {Q : Int32 → Int64 → pm_H → Prop} : pm_wp pm_code pm_meta d 88 11 ([.ref 177, .ref 28], [], (pm_Gb L true, I, J)) Q ↔ if (I 28 1) = (I 177 1) then pm_wp pm_code pm_meta d 88 23 ([.ref 177, .ref 28], [], (pm_Gb L true, I, J)) Q else pm_wp pm_code pm_meta d 88 22 ([.ref 177, .ref 28], [], (pm_Gb L true, I, J)) Q := (pm_bk_iff pc_ch_88 5 11 _).trans (pm_brd)
theorem pb_88k177x28_22 {d L : Nat} {I : Nat → Nat → Int32} {J : Nat → Nat → Int64}  {Q : Int32 → Int64 → pm_H → Prop} : pm_wp pm_code pm_meta d 88 22 ([.ref 177, .ref 28], [], (pm_Gb L true, I, J)) Q ↔ Q 0 0 (pm_Gb L true, I, J) := (pm_bk_iff pc_ch_88 1 22 _).trans (pm_tt)
theorem pb_88k177x28_45 {d L : Nat} {I : Nat → Nat → Int32} {J : Nat → Nat → Int64} {Q : Int32 → Int64 → pm_H → Prop} : pm_wp pm_code pm_meta d 88 45 ([.ref 177, .ref 28], [], (pm_Gb L true, I, J)) Q ↔ Q 0 0 (pm_Gb L true, pm_u I 177 3 (I 28 3), J) := (pm_bk_iff pc_ch_88 5 45 _).trans (pm_tt)
theorem pb_88k177x28_23 {d L : Nat} {I : Nat → Nat → Int32} {J : Nat → Nat → Int64} {Q : Int32 → Int64 → pm_H → Prop} : pm_wp pm_code pm_meta d 88 23 ([.ref 177, .ref 28], [], (pm_Gb L true, I, J)) Q ↔ (decide ((0 : Int32) ≤ 0) && decide ((0 : Int32) ≤ 0) && decide (0 ≤ (I 28 3 * I 177 1)) && decide ((0 : Int32).toNatClampNeg + (I 28 3 * I 177 1).toNatClampNeg ≤ 72) && decide ((0 : Int32).toNatClampNeg + (I 28 3 * I 177 1).toNatClampNeg ≤ 72)) = true ∧ pm_wp pm_code pm_meta d 88 45 ([.ref 177, .ref 28], [], (pm_Gb L true, (pm_cp I 29 (0 : Int32).toNatClampNeg 178 (0 : Int32).toNatClampNeg (I 28 3 * I 177 1).toNatClampNeg), J)) Q := (pm_bk_iff pc_ch_88 12 23 _).trans (and_congr Iff.rfl Iff.rfl)
theorem pt_cp_177_28 {d L : Nat} {I : Nat → Nat → Int32} {J : Nat → Nat → Int64} {Q : Int32 → Int64 → pm_H → Prop} (ht : pm_ti (I 177) 3 24) (hs : pm_ti (I 28) 3 24) : pm_wc pm_code pm_meta d 88 [.ref 177, .ref 28] (pm_Gb L true, I, J) Q ↔ Q 0 0 (pm_Gb L true, pm_u (pm_r I 178 (fun j => if j < 3 * (I 28 3).toNatClampNeg then I 29 j else I 178 j)) 177 3 (I 28 3), J) := by
  obtain ⟨h1, h2, h3, h4⟩ := hs
  have h3' := pi_le.mp h3
  have h4' := pi_le.mp h4
  rw [pi_0] at h3'
  rw [show (24 : Int32).toInt = 24 from rfl] at h4'
  have g3 : (I 28 3 * I 177 1).toInt = (I 28 3).toInt * 3 := by rw [ht.1, pi_mul (by rw [show (3 : Int32).toInt = 3 from rfl]; omega) (by rw [show (3 : Int32).toInt = 3 from rfl]; omega), show (3 : Int32).toInt = 3 from rfl]
  have g4 : (I 28 3 * I 177 1).toNatClampNeg = 3 * (I 28 3).toNatClampNeg := by rw [pi_tn, pi_tn, g3]; omega
  have g5 : 0 ≤ I 28 3 * I 177 1 := by rw [pi_le, pi_0, g3]; omega
  have g6 : (I 28 3).toNatClampNeg ≤ 24 := by rw [pi_tn]; omega
  have z0 : (0 : Int32).toNatClampNeg = 0 := rfl
  rw [pb_88k177x28_0, if_pos (by rw [h2, ht.2.1]), pb_88k177x28_11, if_pos (by rw [h1, ht.1]), pb_88k177x28_23, pb_88k177x28_45]
  have hc : (decide ((0 : Int32) ≤ 0) && decide ((0 : Int32) ≤ 0) && decide (0 ≤ (I 28 3 * I 177 1)) && decide ((0 : Int32).toNatClampNeg + (I 28 3 * I 177 1).toNatClampNeg ≤ 72) && decide ((0 : Int32).toNatClampNeg + (I 28 3 * I 177 1).toNatClampNeg ≤ 72)) = true := by
    have k1 : (0 : Int32).toNatClampNeg + (I 28 3 * I 177 1).toNatClampNeg ≤ 72 := by rw [z0, g4]; omega
    simp only [decide_eq_true (Int32.le_refl 0), decide_eq_true g5, decide_eq_true k1, Bool.and_self]
  rw [pc_cpr (by rw [g4]), pm_r_row, if_neg (by decide)]
  exact ⟨fun h => h.2, fun h => ⟨hc, h⟩⟩
theorem pb_88k28x177_0 {d L : Nat} {I : Nat → Nat → Int32} {J : Nat → Nat → Int64}  {Q : Int32 → Int64 → pm_H → Prop} : pm_wc pm_code pm_meta d 88 [.ref 28, .ref 177] (pm_Gb L true, I, J) Q ↔ if (I 177 2) = (I 28 2) then pm_wp pm_code pm_meta d 88 11 ([.ref 28, .ref 177], [], (pm_Gb L true, I, J)) Q else pm_wp pm_code pm_meta d 88 22 ([.ref 28, .ref 177], [], (pm_Gb L true, I, J)) Q := (pm_bk_iff pc_ch_88 5 0 _).trans (pm_brn)
theorem pb_88k28x177_11 {d L : Nat} {I : Nat → Nat → Int32} {J : Nat → Nat → Int64}  {Q : Int32 → Int64 → pm_H → Prop} : pm_wp pm_code pm_meta d 88 11 ([.ref 28, .ref 177], [], (pm_Gb L true, I, J)) Q ↔ if (I 177 1) = (I 28 1) then pm_wp pm_code pm_meta d 88 23 ([.ref 28, .ref 177], [], (pm_Gb L true, I, J)) Q else pm_wp pm_code pm_meta d 88 22 ([.ref 28, .ref 177], [], (pm_Gb L true, I, J)) Q := (pm_bk_iff pc_ch_88 5 11 _).trans (pm_brd)
theorem pb_88k28x177_22 {d L : Nat} {I : Nat → Nat → Int32} {J : Nat → Nat → Int64}  {Q : Int32 → Int64 → pm_H → Prop} : pm_wp pm_code pm_meta d 88 22 ([.ref 28, .ref 177], [], (pm_Gb L true, I, J)) Q ↔ Q 0 0 (pm_Gb L true, I, J) := (pm_bk_iff pc_ch_88 1 22 _).trans (pm_tt)
theorem pb_88k28x177_45 {d L : Nat} {I : Nat → Nat → Int32} {J : Nat → Nat → Int64} {Q : Int32 → Int64 → pm_H → Prop} : pm_wp pm_code pm_meta d 88 45 ([.ref 28, .ref 177], [], (pm_Gb L true, I, J)) Q ↔ Q 0 0 (pm_Gb L true, pm_u I 28 3 (I 177 3), J) := (pm_bk_iff pc_ch_88 5 45 _).trans (pm_tt)
theorem pb_88k28x177_23 {d L : Nat} {I : Nat → Nat → Int32} {J : Nat → Nat → Int64} {Q : Int32 → Int64 → pm_H → Prop} : pm_wp pm_code pm_meta d 88 23 ([.ref 28, .ref 177], [], (pm_Gb L true, I, J)) Q ↔ (decide ((0 : Int32) ≤ 0) && decide ((0 : Int32) ≤ 0) && decide (0 ≤ (I 177 3 * I 28 1)) && decide ((0 : Int32).toNatClampNeg + (I 177 3 * I 28 1).toNatClampNeg ≤ 72) && decide ((0 : Int32).toNatClampNeg + (I 177 3 * I 28 1).toNatClampNeg ≤ 72)) = true ∧ pm_wp pm_code pm_meta d 88 45 ([.ref 28, .ref 177], [], (pm_Gb L true, (pm_cp I 178 (0 : Int32).toNatClampNeg 29 (0 : Int32).toNatClampNeg (I 177 3 * I 28 1).toNatClampNeg), J)) Q := (pm_bk_iff pc_ch_88 12 23 _).trans (and_congr Iff.rfl Iff.rfl)
theorem pt_cp_28_177 {d L : Nat} {I : Nat → Nat → Int32} {J : Nat → Nat → Int64} {Q : Int32 → Int64 → pm_H → Prop} (ht : pm_ti (I 28) 3 24) (hs : pm_ti (I 177) 3 24) : pm_wc pm_code pm_meta d 88 [.ref 28, .ref 177] (pm_Gb L true, I, J) Q ↔ Q 0 0 (pm_Gb L true, pm_u (pm_r I 29 (fun j => if j < 3 * (I 177 3).toNatClampNeg then I 178 j else I 29 j)) 28 3 (I 177 3), J) := by
  obtain ⟨h1, h2, h3, h4⟩ := hs
  have h3' := pi_le.mp h3
  have h4' := pi_le.mp h4
  rw [pi_0] at h3'
  rw [show (24 : Int32).toInt = 24 from rfl] at h4'
  have g3 : (I 177 3 * I 28 1).toInt = (I 177 3).toInt * 3 := by rw [ht.1, pi_mul (by rw [show (3 : Int32).toInt = 3 from rfl]; omega) (by rw [show (3 : Int32).toInt = 3 from rfl]; omega), show (3 : Int32).toInt = 3 from rfl]
  have g4 : (I 177 3 * I 28 1).toNatClampNeg = 3 * (I 177 3).toNatClampNeg := by rw [pi_tn, pi_tn, g3]; omega
  have g5 : 0 ≤ I 177 3 * I 28 1 := by rw [pi_le, pi_0, g3]; omega
  have g6 : (I 177 3).toNatClampNeg ≤ 24 := by rw [pi_tn]; omega
  have z0 : (0 : Int32).toNatClampNeg = 0 := rfl
  rw [pb_88k28x177_0, if_pos (by rw [h2, ht.2.1]), pb_88k28x177_11, if_pos (by rw [h1, ht.1]), pb_88k28x177_23, pb_88k28x177_45]
  have hc : (decide ((0 : Int32) ≤ 0) && decide ((0 : Int32) ≤ 0) && decide (0 ≤ (I 177 3 * I 28 1)) && decide ((0 : Int32).toNatClampNeg + (I 177 3 * I 28 1).toNatClampNeg ≤ 72) && decide ((0 : Int32).toNatClampNeg + (I 177 3 * I 28 1).toNatClampNeg ≤ 72)) = true := by
    have k1 : (0 : Int32).toNatClampNeg + (I 177 3 * I 28 1).toNatClampNeg ≤ 72 := by rw [z0, g4]; omega
    simp only [decide_eq_true (Int32.le_refl 0), decide_eq_true g5, decide_eq_true k1, Bool.and_self]
  rw [pc_cpr (by rw [g4]), pm_r_row, if_neg (by decide)]
  exact ⟨fun h => h.2, fun h => ⟨hc, h⟩⟩
theorem pb_88k179x30_0 {d L : Nat} {I : Nat → Nat → Int32} {J : Nat → Nat → Int64}  {Q : Int32 → Int64 → pm_H → Prop} : pm_wc pm_code pm_meta d 88 [.ref 179, .ref 30] (pm_Gb L true, I, J) Q ↔ if (I 30 2) = (I 179 2) then pm_wp pm_code pm_meta d 88 11 ([.ref 179, .ref 30], [], (pm_Gb L true, I, J)) Q else pm_wp pm_code pm_meta d 88 22 ([.ref 179, .ref 30], [], (pm_Gb L true, I, J)) Q := (pm_bk_iff pc_ch_88 5 0 _).trans (pm_brn)
theorem pb_88k179x30_11 {d L : Nat} {I : Nat → Nat → Int32} {J : Nat → Nat → Int64}  {Q : Int32 → Int64 → pm_H → Prop} : pm_wp pm_code pm_meta d 88 11 ([.ref 179, .ref 30], [], (pm_Gb L true, I, J)) Q ↔ if (I 30 1) = (I 179 1) then pm_wp pm_code pm_meta d 88 23 ([.ref 179, .ref 30], [], (pm_Gb L true, I, J)) Q else pm_wp pm_code pm_meta d 88 22 ([.ref 179, .ref 30], [], (pm_Gb L true, I, J)) Q := (pm_bk_iff pc_ch_88 5 11 _).trans (pm_brd)
theorem pb_88k179x30_22 {d L : Nat} {I : Nat → Nat → Int32} {J : Nat → Nat → Int64}  {Q : Int32 → Int64 → pm_H → Prop} : pm_wp pm_code pm_meta d 88 22 ([.ref 179, .ref 30], [], (pm_Gb L true, I, J)) Q ↔ Q 0 0 (pm_Gb L true, I, J) := (pm_bk_iff pc_ch_88 1 22 _).trans (pm_tt)
theorem pb_88k179x30_45 {d L : Nat} {I : Nat → Nat → Int32} {J : Nat → Nat → Int64} {Q : Int32 → Int64 → pm_H → Prop} : pm_wp pm_code pm_meta d 88 45 ([.ref 179, .ref 30], [], (pm_Gb L true, I, J)) Q ↔ Q 0 0 (pm_Gb L true, pm_u I 179 3 (I 30 3), J) := (pm_bk_iff pc_ch_88 5 45 _).trans (pm_tt)
theorem pb_88k179x30_23 {d L : Nat} {I : Nat → Nat → Int32} {J : Nat → Nat → Int64} {Q : Int32 → Int64 → pm_H → Prop} : pm_wp pm_code pm_meta d 88 23 ([.ref 179, .ref 30], [], (pm_Gb L true, I, J)) Q ↔ (decide ((0 : Int32) ≤ 0) && decide ((0 : Int32) ≤ 0) && decide (0 ≤ (I 30 3 * I 179 1)) && decide ((0 : Int32).toNatClampNeg + (I 30 3 * I 179 1).toNatClampNeg ≤ 7) && decide ((0 : Int32).toNatClampNeg + (I 30 3 * I 179 1).toNatClampNeg ≤ 7)) = true ∧ pm_wp pm_code pm_meta d 88 45 ([.ref 179, .ref 30], [], (pm_Gb L true, (pm_cp I 31 (0 : Int32).toNatClampNeg 180 (0 : Int32).toNatClampNeg (I 30 3 * I 179 1).toNatClampNeg), J)) Q := (pm_bk_iff pc_ch_88 12 23 _).trans (and_congr Iff.rfl Iff.rfl)
theorem pt_cp_179_30 {d L : Nat} {I : Nat → Nat → Int32} {J : Nat → Nat → Int64} {Q : Int32 → Int64 → pm_H → Prop} (ht : pm_ti (I 179) 1 7) (hs : pm_ti (I 30) 1 7) : pm_wc pm_code pm_meta d 88 [.ref 179, .ref 30] (pm_Gb L true, I, J) Q ↔ Q 0 0 (pm_Gb L true, pm_u (pm_r I 180 (fun j => if j < 1 * (I 30 3).toNatClampNeg then I 31 j else I 180 j)) 179 3 (I 30 3), J) := by
  obtain ⟨h1, h2, h3, h4⟩ := hs
  have h3' := pi_le.mp h3
  have h4' := pi_le.mp h4
  rw [pi_0] at h3'
  rw [show (7 : Int32).toInt = 7 from rfl] at h4'
  have g3 : (I 30 3 * I 179 1).toInt = (I 30 3).toInt * 1 := by rw [ht.1, pi_mul (by rw [show (1 : Int32).toInt = 1 from rfl]; omega) (by rw [show (1 : Int32).toInt = 1 from rfl]; omega), show (1 : Int32).toInt = 1 from rfl]
  have g4 : (I 30 3 * I 179 1).toNatClampNeg = 1 * (I 30 3).toNatClampNeg := by rw [pi_tn, pi_tn, g3]; omega
  have g5 : 0 ≤ I 30 3 * I 179 1 := by rw [pi_le, pi_0, g3]; omega
  have g6 : (I 30 3).toNatClampNeg ≤ 7 := by rw [pi_tn]; omega
  have z0 : (0 : Int32).toNatClampNeg = 0 := rfl
  rw [pb_88k179x30_0, if_pos (by rw [h2, ht.2.1]), pb_88k179x30_11, if_pos (by rw [h1, ht.1]), pb_88k179x30_23, pb_88k179x30_45]
  have hc : (decide ((0 : Int32) ≤ 0) && decide ((0 : Int32) ≤ 0) && decide (0 ≤ (I 30 3 * I 179 1)) && decide ((0 : Int32).toNatClampNeg + (I 30 3 * I 179 1).toNatClampNeg ≤ 7) && decide ((0 : Int32).toNatClampNeg + (I 30 3 * I 179 1).toNatClampNeg ≤ 7)) = true := by
    have k1 : (0 : Int32).toNatClampNeg + (I 30 3 * I 179 1).toNatClampNeg ≤ 7 := by rw [z0, g4]; omega
    simp only [decide_eq_true (Int32.le_refl 0), decide_eq_true g5, decide_eq_true k1, Bool.and_self]
  rw [pc_cpr (by rw [g4]), pm_r_row, if_neg (by decide)]
  exact ⟨fun h => h.2, fun h => ⟨hc, h⟩⟩
theorem pb_88k30x179_0 {d L : Nat} {I : Nat → Nat → Int32} {J : Nat → Nat → Int64}  {Q : Int32 → Int64 → pm_H → Prop} : pm_wc pm_code pm_meta d 88 [.ref 30, .ref 179] (pm_Gb L true, I, J) Q ↔ if (I 179 2) = (I 30 2) then pm_wp pm_code pm_meta d 88 11 ([.ref 30, .ref 179], [], (pm_Gb L true, I, J)) Q else pm_wp pm_code pm_meta d 88 22 ([.ref 30, .ref 179], [], (pm_Gb L true, I, J)) Q := (pm_bk_iff pc_ch_88 5 0 _).trans (pm_brn)
theorem pb_88k30x179_11 {d L : Nat} {I : Nat → Nat → Int32} {J : Nat → Nat → Int64}  {Q : Int32 → Int64 → pm_H → Prop} : pm_wp pm_code pm_meta d 88 11 ([.ref 30, .ref 179], [], (pm_Gb L true, I, J)) Q ↔ if (I 179 1) = (I 30 1) then pm_wp pm_code pm_meta d 88 23 ([.ref 30, .ref 179], [], (pm_Gb L true, I, J)) Q else pm_wp pm_code pm_meta d 88 22 ([.ref 30, .ref 179], [], (pm_Gb L true, I, J)) Q := (pm_bk_iff pc_ch_88 5 11 _).trans (pm_brd)
theorem pb_88k30x179_22 {d L : Nat} {I : Nat → Nat → Int32} {J : Nat → Nat → Int64}  {Q : Int32 → Int64 → pm_H → Prop} : pm_wp pm_code pm_meta d 88 22 ([.ref 30, .ref 179], [], (pm_Gb L true, I, J)) Q ↔ Q 0 0 (pm_Gb L true, I, J) := (pm_bk_iff pc_ch_88 1 22 _).trans (pm_tt)
theorem pb_88k30x179_45 {d L : Nat} {I : Nat → Nat → Int32} {J : Nat → Nat → Int64} {Q : Int32 → Int64 → pm_H → Prop} : pm_wp pm_code pm_meta d 88 45 ([.ref 30, .ref 179], [], (pm_Gb L true, I, J)) Q ↔ Q 0 0 (pm_Gb L true, pm_u I 30 3 (I 179 3), J) := (pm_bk_iff pc_ch_88 5 45 _).trans (pm_tt)
theorem pb_88k30x179_23 {d L : Nat} {I : Nat → Nat → Int32} {J : Nat → Nat → Int64} {Q : Int32 → Int64 → pm_H → Prop} : pm_wp pm_code pm_meta d 88 23 ([.ref 30, .ref 179], [], (pm_Gb L true, I, J)) Q ↔ (decide ((0 : Int32) ≤ 0) && decide ((0 : Int32) ≤ 0) && decide (0 ≤ (I 179 3 * I 30 1)) && decide ((0 : Int32).toNatClampNeg + (I 179 3 * I 30 1).toNatClampNeg ≤ 7) && decide ((0 : Int32).toNatClampNeg + (I 179 3 * I 30 1).toNatClampNeg ≤ 7)) = true ∧ pm_wp pm_code pm_meta d 88 45 ([.ref 30, .ref 179], [], (pm_Gb L true, (pm_cp I 180 (0 : Int32).toNatClampNeg 31 (0 : Int32).toNatClampNeg (I 179 3 * I 30 1).toNatClampNeg), J)) Q := (pm_bk_iff pc_ch_88 12 23 _).trans (and_congr Iff.rfl Iff.rfl)
theorem pt_cp_30_179 {d L : Nat} {I : Nat → Nat → Int32} {J : Nat → Nat → Int64} {Q : Int32 → Int64 → pm_H → Prop} (ht : pm_ti (I 30) 1 7) (hs : pm_ti (I 179) 1 7) : pm_wc pm_code pm_meta d 88 [.ref 30, .ref 179] (pm_Gb L true, I, J) Q ↔ Q 0 0 (pm_Gb L true, pm_u (pm_r I 31 (fun j => if j < 1 * (I 179 3).toNatClampNeg then I 180 j else I 31 j)) 30 3 (I 179 3), J) := by
  obtain ⟨h1, h2, h3, h4⟩ := hs
  have h3' := pi_le.mp h3
  have h4' := pi_le.mp h4
  rw [pi_0] at h3'
  rw [show (7 : Int32).toInt = 7 from rfl] at h4'
  have g3 : (I 179 3 * I 30 1).toInt = (I 179 3).toInt * 1 := by rw [ht.1, pi_mul (by rw [show (1 : Int32).toInt = 1 from rfl]; omega) (by rw [show (1 : Int32).toInt = 1 from rfl]; omega), show (1 : Int32).toInt = 1 from rfl]
  have g4 : (I 179 3 * I 30 1).toNatClampNeg = 1 * (I 179 3).toNatClampNeg := by rw [pi_tn, pi_tn, g3]; omega
  have g5 : 0 ≤ I 179 3 * I 30 1 := by rw [pi_le, pi_0, g3]; omega
  have g6 : (I 179 3).toNatClampNeg ≤ 7 := by rw [pi_tn]; omega
  have z0 : (0 : Int32).toNatClampNeg = 0 := rfl
  rw [pb_88k30x179_0, if_pos (by rw [h2, ht.2.1]), pb_88k30x179_11, if_pos (by rw [h1, ht.1]), pb_88k30x179_23, pb_88k30x179_45]
  have hc : (decide ((0 : Int32) ≤ 0) && decide ((0 : Int32) ≤ 0) && decide (0 ≤ (I 179 3 * I 30 1)) && decide ((0 : Int32).toNatClampNeg + (I 179 3 * I 30 1).toNatClampNeg ≤ 7) && decide ((0 : Int32).toNatClampNeg + (I 179 3 * I 30 1).toNatClampNeg ≤ 7)) = true := by
    have k1 : (0 : Int32).toNatClampNeg + (I 179 3 * I 30 1).toNatClampNeg ≤ 7 := by rw [z0, g4]; omega
    simp only [decide_eq_true (Int32.le_refl 0), decide_eq_true g5, decide_eq_true k1, Bool.and_self]
  rw [pc_cpr (by rw [g4]), pm_r_row, if_neg (by decide)]
  exact ⟨fun h => h.2, fun h => ⟨hc, h⟩⟩
theorem pb_88k181x32_0 {d L : Nat} {I : Nat → Nat → Int32} {J : Nat → Nat → Int64}  {Q : Int32 → Int64 → pm_H → Prop} : pm_wc pm_code pm_meta d 88 [.ref 181, .ref 32] (pm_Gb L true, I, J) Q ↔ if (I 32 2) = (I 181 2) then pm_wp pm_code pm_meta d 88 11 ([.ref 181, .ref 32], [], (pm_Gb L true, I, J)) Q else pm_wp pm_code pm_meta d 88 22 ([.ref 181, .ref 32], [], (pm_Gb L true, I, J)) Q := (pm_bk_iff pc_ch_88 5 0 _).trans (pm_brn)
theorem pb_88k181x32_11 {d L : Nat} {I : Nat → Nat → Int32} {J : Nat → Nat → Int64}  {Q : Int32 → Int64 → pm_H → Prop} : pm_wp pm_code pm_meta d 88 11 ([.ref 181, .ref 32], [], (pm_Gb L true, I, J)) Q ↔ if (I 32 1) = (I 181 1) then pm_wp pm_code pm_meta d 88 23 ([.ref 181, .ref 32], [], (pm_Gb L true, I, J)) Q else pm_wp pm_code pm_meta d 88 22 ([.ref 181, .ref 32], [], (pm_Gb L true, I, J)) Q := (pm_bk_iff pc_ch_88 5 11 _).trans (pm_brd)
theorem pb_88k181x32_22 {d L : Nat} {I : Nat → Nat → Int32} {J : Nat → Nat → Int64}  {Q : Int32 → Int64 → pm_H → Prop} : pm_wp pm_code pm_meta d 88 22 ([.ref 181, .ref 32], [], (pm_Gb L true, I, J)) Q ↔ Q 0 0 (pm_Gb L true, I, J) := (pm_bk_iff pc_ch_88 1 22 _).trans (pm_tt)
theorem pb_88k181x32_45 {d L : Nat} {I : Nat → Nat → Int32} {J : Nat → Nat → Int64} {Q : Int32 → Int64 → pm_H → Prop} : pm_wp pm_code pm_meta d 88 45 ([.ref 181, .ref 32], [], (pm_Gb L true, I, J)) Q ↔ Q 0 0 (pm_Gb L true, pm_u I 181 3 (I 32 3), J) := (pm_bk_iff pc_ch_88 5 45 _).trans (pm_tt)
theorem pb_88k181x32_23 {d L : Nat} {I : Nat → Nat → Int32} {J : Nat → Nat → Int64} {Q : Int32 → Int64 → pm_H → Prop} : pm_wp pm_code pm_meta d 88 23 ([.ref 181, .ref 32], [], (pm_Gb L true, I, J)) Q ↔ (decide ((0 : Int32) ≤ 0) && decide ((0 : Int32) ≤ 0) && decide (0 ≤ (I 32 3 * I 181 1)) && decide ((0 : Int32).toNatClampNeg + (I 32 3 * I 181 1).toNatClampNeg ≤ 3) && decide ((0 : Int32).toNatClampNeg + (I 32 3 * I 181 1).toNatClampNeg ≤ 3)) = true ∧ pm_wp pm_code pm_meta d 88 45 ([.ref 181, .ref 32], [], (pm_Gb L true, (pm_cp I 33 (0 : Int32).toNatClampNeg 182 (0 : Int32).toNatClampNeg (I 32 3 * I 181 1).toNatClampNeg), J)) Q := (pm_bk_iff pc_ch_88 12 23 _).trans (and_congr Iff.rfl Iff.rfl)
theorem pt_cp_181_32 {d L : Nat} {I : Nat → Nat → Int32} {J : Nat → Nat → Int64} {Q : Int32 → Int64 → pm_H → Prop} (ht : pm_ti (I 181) 1 3) (hs : pm_ti (I 32) 1 3) : pm_wc pm_code pm_meta d 88 [.ref 181, .ref 32] (pm_Gb L true, I, J) Q ↔ Q 0 0 (pm_Gb L true, pm_u (pm_r I 182 (fun j => if j < 1 * (I 32 3).toNatClampNeg then I 33 j else I 182 j)) 181 3 (I 32 3), J) := by
  obtain ⟨h1, h2, h3, h4⟩ := hs
  have h3' := pi_le.mp h3
  have h4' := pi_le.mp h4
  rw [pi_0] at h3'
  rw [show (3 : Int32).toInt = 3 from rfl] at h4'
  have g3 : (I 32 3 * I 181 1).toInt = (I 32 3).toInt * 1 := by rw [ht.1, pi_mul (by rw [show (1 : Int32).toInt = 1 from rfl]; omega) (by rw [show (1 : Int32).toInt = 1 from rfl]; omega), show (1 : Int32).toInt = 1 from rfl]
  have g4 : (I 32 3 * I 181 1).toNatClampNeg = 1 * (I 32 3).toNatClampNeg := by rw [pi_tn, pi_tn, g3]; omega
  have g5 : 0 ≤ I 32 3 * I 181 1 := by rw [pi_le, pi_0, g3]; omega
  have g6 : (I 32 3).toNatClampNeg ≤ 3 := by rw [pi_tn]; omega
  have z0 : (0 : Int32).toNatClampNeg = 0 := rfl
  rw [pb_88k181x32_0, if_pos (by rw [h2, ht.2.1]), pb_88k181x32_11, if_pos (by rw [h1, ht.1]), pb_88k181x32_23, pb_88k181x32_45]
  have hc : (decide ((0 : Int32) ≤ 0) && decide ((0 : Int32) ≤ 0) && decide (0 ≤ (I 32 3 * I 181 1)) && decide ((0 : Int32).toNatClampNeg + (I 32 3 * I 181 1).toNatClampNeg ≤ 3) && decide ((0 : Int32).toNatClampNeg + (I 32 3 * I 181 1).toNatClampNeg ≤ 3)) = true := by
    have k1 : (0 : Int32).toNatClampNeg + (I 32 3 * I 181 1).toNatClampNeg ≤ 3 := by rw [z0, g4]; omega
    simp only [decide_eq_true (Int32.le_refl 0), decide_eq_true g5, decide_eq_true k1, Bool.and_self]
  rw [pc_cpr (by rw [g4]), pm_r_row, if_neg (by decide)]
  exact ⟨fun h => h.2, fun h => ⟨hc, h⟩⟩
theorem pb_88k32x181_0 {d L : Nat} {I : Nat → Nat → Int32} {J : Nat → Nat → Int64}  {Q : Int32 → Int64 → pm_H → Prop} : pm_wc pm_code pm_meta d 88 [.ref 32, .ref 181] (pm_Gb L true, I, J) Q ↔ if (I 181 2) = (I 32 2) then pm_wp pm_code pm_meta d 88 11 ([.ref 32, .ref 181], [], (pm_Gb L true, I, J)) Q else pm_wp pm_code pm_meta d 88 22 ([.ref 32, .ref 181], [], (pm_Gb L true, I, J)) Q := (pm_bk_iff pc_ch_88 5 0 _).trans (pm_brn)
theorem pb_88k32x181_11 {d L : Nat} {I : Nat → Nat → Int32} {J : Nat → Nat → Int64}  {Q : Int32 → Int64 → pm_H → Prop} : pm_wp pm_code pm_meta d 88 11 ([.ref 32, .ref 181], [], (pm_Gb L true, I, J)) Q ↔ if (I 181 1) = (I 32 1) then pm_wp pm_code pm_meta d 88 23 ([.ref 32, .ref 181], [], (pm_Gb L true, I, J)) Q else pm_wp pm_code pm_meta d 88 22 ([.ref 32, .ref 181], [], (pm_Gb L true, I, J)) Q := (pm_bk_iff pc_ch_88 5 11 _).trans (pm_brd)
theorem pb_88k32x181_22 {d L : Nat} {I : Nat → Nat → Int32} {J : Nat → Nat → Int64}  {Q : Int32 → Int64 → pm_H → Prop} : pm_wp pm_code pm_meta d 88 22 ([.ref 32, .ref 181], [], (pm_Gb L true, I, J)) Q ↔ Q 0 0 (pm_Gb L true, I, J) := (pm_bk_iff pc_ch_88 1 22 _).trans (pm_tt)
theorem pb_88k32x181_45 {d L : Nat} {I : Nat → Nat → Int32} {J : Nat → Nat → Int64} {Q : Int32 → Int64 → pm_H → Prop} : pm_wp pm_code pm_meta d 88 45 ([.ref 32, .ref 181], [], (pm_Gb L true, I, J)) Q ↔ Q 0 0 (pm_Gb L true, pm_u I 32 3 (I 181 3), J) := (pm_bk_iff pc_ch_88 5 45 _).trans (pm_tt)
theorem pb_88k32x181_23 {d L : Nat} {I : Nat → Nat → Int32} {J : Nat → Nat → Int64} {Q : Int32 → Int64 → pm_H → Prop} : pm_wp pm_code pm_meta d 88 23 ([.ref 32, .ref 181], [], (pm_Gb L true, I, J)) Q ↔ (decide ((0 : Int32) ≤ 0) && decide ((0 : Int32) ≤ 0) && decide (0 ≤ (I 181 3 * I 32 1)) && decide ((0 : Int32).toNatClampNeg + (I 181 3 * I 32 1).toNatClampNeg ≤ 3) && decide ((0 : Int32).toNatClampNeg + (I 181 3 * I 32 1).toNatClampNeg ≤ 3)) = true ∧ pm_wp pm_code pm_meta d 88 45 ([.ref 32, .ref 181], [], (pm_Gb L true, (pm_cp I 182 (0 : Int32).toNatClampNeg 33 (0 : Int32).toNatClampNeg (I 181 3 * I 32 1).toNatClampNeg), J)) Q := (pm_bk_iff pc_ch_88 12 23 _).trans (and_congr Iff.rfl Iff.rfl)
theorem pt_cp_32_181 {d L : Nat} {I : Nat → Nat → Int32} {J : Nat → Nat → Int64} {Q : Int32 → Int64 → pm_H → Prop} (ht : pm_ti (I 32) 1 3) (hs : pm_ti (I 181) 1 3) : pm_wc pm_code pm_meta d 88 [.ref 32, .ref 181] (pm_Gb L true, I, J) Q ↔ Q 0 0 (pm_Gb L true, pm_u (pm_r I 33 (fun j => if j < 1 * (I 181 3).toNatClampNeg then I 182 j else I 33 j)) 32 3 (I 181 3), J) := by
  obtain ⟨h1, h2, h3, h4⟩ := hs
  have h3' := pi_le.mp h3
  have h4' := pi_le.mp h4
  rw [pi_0] at h3'
  rw [show (3 : Int32).toInt = 3 from rfl] at h4'
  have g3 : (I 181 3 * I 32 1).toInt = (I 181 3).toInt * 1 := by rw [ht.1, pi_mul (by rw [show (1 : Int32).toInt = 1 from rfl]; omega) (by rw [show (1 : Int32).toInt = 1 from rfl]; omega), show (1 : Int32).toInt = 1 from rfl]
  have g4 : (I 181 3 * I 32 1).toNatClampNeg = 1 * (I 181 3).toNatClampNeg := by rw [pi_tn, pi_tn, g3]; omega
  have g5 : 0 ≤ I 181 3 * I 32 1 := by rw [pi_le, pi_0, g3]; omega
  have g6 : (I 181 3).toNatClampNeg ≤ 3 := by rw [pi_tn]; omega
  have z0 : (0 : Int32).toNatClampNeg = 0 := rfl
  rw [pb_88k32x181_0, if_pos (by rw [h2, ht.2.1]), pb_88k32x181_11, if_pos (by rw [h1, ht.1]), pb_88k32x181_23, pb_88k32x181_45]
  have hc : (decide ((0 : Int32) ≤ 0) && decide ((0 : Int32) ≤ 0) && decide (0 ≤ (I 181 3 * I 32 1)) && decide ((0 : Int32).toNatClampNeg + (I 181 3 * I 32 1).toNatClampNeg ≤ 3) && decide ((0 : Int32).toNatClampNeg + (I 181 3 * I 32 1).toNatClampNeg ≤ 3)) = true := by
    have k1 : (0 : Int32).toNatClampNeg + (I 181 3 * I 32 1).toNatClampNeg ≤ 3 := by rw [z0, g4]; omega
    simp only [decide_eq_true (Int32.le_refl 0), decide_eq_true g5, decide_eq_true k1, Bool.and_self]
  rw [pc_cpr (by rw [g4]), pm_r_row, if_neg (by decide)]
  exact ⟨fun h => h.2, fun h => ⟨hc, h⟩⟩
theorem pb_88k183x34_0 {d L : Nat} {I : Nat → Nat → Int32} {J : Nat → Nat → Int64}  {Q : Int32 → Int64 → pm_H → Prop} : pm_wc pm_code pm_meta d 88 [.ref 183, .ref 34] (pm_Gb L true, I, J) Q ↔ if (I 34 2) = (I 183 2) then pm_wp pm_code pm_meta d 88 11 ([.ref 183, .ref 34], [], (pm_Gb L true, I, J)) Q else pm_wp pm_code pm_meta d 88 22 ([.ref 183, .ref 34], [], (pm_Gb L true, I, J)) Q := (pm_bk_iff pc_ch_88 5 0 _).trans (pm_brn)
theorem pb_88k183x34_11 {d L : Nat} {I : Nat → Nat → Int32} {J : Nat → Nat → Int64}  {Q : Int32 → Int64 → pm_H → Prop} : pm_wp pm_code pm_meta d 88 11 ([.ref 183, .ref 34], [], (pm_Gb L true, I, J)) Q ↔ if (I 34 1) = (I 183 1) then pm_wp pm_code pm_meta d 88 23 ([.ref 183, .ref 34], [], (pm_Gb L true, I, J)) Q else pm_wp pm_code pm_meta d 88 22 ([.ref 183, .ref 34], [], (pm_Gb L true, I, J)) Q := (pm_bk_iff pc_ch_88 5 11 _).trans (pm_brd)
theorem pb_88k183x34_22 {d L : Nat} {I : Nat → Nat → Int32} {J : Nat → Nat → Int64}  {Q : Int32 → Int64 → pm_H → Prop} : pm_wp pm_code pm_meta d 88 22 ([.ref 183, .ref 34], [], (pm_Gb L true, I, J)) Q ↔ Q 0 0 (pm_Gb L true, I, J) := (pm_bk_iff pc_ch_88 1 22 _).trans (pm_tt)
theorem pb_88k183x34_45 {d L : Nat} {I : Nat → Nat → Int32} {J : Nat → Nat → Int64} {Q : Int32 → Int64 → pm_H → Prop} : pm_wp pm_code pm_meta d 88 45 ([.ref 183, .ref 34], [], (pm_Gb L true, I, J)) Q ↔ Q 0 0 (pm_Gb L true, pm_u I 183 3 (I 34 3), J) := (pm_bk_iff pc_ch_88 5 45 _).trans (pm_tt)
theorem pb_88k183x34_23 {d L : Nat} {I : Nat → Nat → Int32} {J : Nat → Nat → Int64} {Q : Int32 → Int64 → pm_H → Prop} : pm_wp pm_code pm_meta d 88 23 ([.ref 183, .ref 34], [], (pm_Gb L true, I, J)) Q ↔ (decide ((0 : Int32) ≤ 0) && decide ((0 : Int32) ≤ 0) && decide (0 ≤ (I 34 3 * I 183 1)) && decide ((0 : Int32).toNatClampNeg + (I 34 3 * I 183 1).toNatClampNeg ≤ 144) && decide ((0 : Int32).toNatClampNeg + (I 34 3 * I 183 1).toNatClampNeg ≤ 144)) = true ∧ pm_wp pm_code pm_meta d 88 45 ([.ref 183, .ref 34], [], (pm_Gb L true, (pm_cp I 35 (0 : Int32).toNatClampNeg 184 (0 : Int32).toNatClampNeg (I 34 3 * I 183 1).toNatClampNeg), J)) Q := (pm_bk_iff pc_ch_88 12 23 _).trans (and_congr Iff.rfl Iff.rfl)
theorem pt_cp_183_34 {d L : Nat} {I : Nat → Nat → Int32} {J : Nat → Nat → Int64} {Q : Int32 → Int64 → pm_H → Prop} (ht : pm_ti (I 183) 6 24) (hs : pm_ti (I 34) 6 24) : pm_wc pm_code pm_meta d 88 [.ref 183, .ref 34] (pm_Gb L true, I, J) Q ↔ Q 0 0 (pm_Gb L true, pm_u (pm_r I 184 (fun j => if j < 6 * (I 34 3).toNatClampNeg then I 35 j else I 184 j)) 183 3 (I 34 3), J) := by
  obtain ⟨h1, h2, h3, h4⟩ := hs
  have h3' := pi_le.mp h3
  have h4' := pi_le.mp h4
  rw [pi_0] at h3'
  rw [show (24 : Int32).toInt = 24 from rfl] at h4'
  have g3 : (I 34 3 * I 183 1).toInt = (I 34 3).toInt * 6 := by rw [ht.1, pi_mul (by rw [show (6 : Int32).toInt = 6 from rfl]; omega) (by rw [show (6 : Int32).toInt = 6 from rfl]; omega), show (6 : Int32).toInt = 6 from rfl]
  have g4 : (I 34 3 * I 183 1).toNatClampNeg = 6 * (I 34 3).toNatClampNeg := by rw [pi_tn, pi_tn, g3]; omega
  have g5 : 0 ≤ I 34 3 * I 183 1 := by rw [pi_le, pi_0, g3]; omega
  have g6 : (I 34 3).toNatClampNeg ≤ 24 := by rw [pi_tn]; omega
  have z0 : (0 : Int32).toNatClampNeg = 0 := rfl
  rw [pb_88k183x34_0, if_pos (by rw [h2, ht.2.1]), pb_88k183x34_11, if_pos (by rw [h1, ht.1]), pb_88k183x34_23, pb_88k183x34_45]
  have hc : (decide ((0 : Int32) ≤ 0) && decide ((0 : Int32) ≤ 0) && decide (0 ≤ (I 34 3 * I 183 1)) && decide ((0 : Int32).toNatClampNeg + (I 34 3 * I 183 1).toNatClampNeg ≤ 144) && decide ((0 : Int32).toNatClampNeg + (I 34 3 * I 183 1).toNatClampNeg ≤ 144)) = true := by
    have k1 : (0 : Int32).toNatClampNeg + (I 34 3 * I 183 1).toNatClampNeg ≤ 144 := by rw [z0, g4]; omega
    simp only [decide_eq_true (Int32.le_refl 0), decide_eq_true g5, decide_eq_true k1, Bool.and_self]
  rw [pc_cpr (by rw [g4]), pm_r_row, if_neg (by decide)]
  exact ⟨fun h => h.2, fun h => ⟨hc, h⟩⟩
theorem pb_88k34x183_0 {d L : Nat} {I : Nat → Nat → Int32} {J : Nat → Nat → Int64}  {Q : Int32 → Int64 → pm_H → Prop} : pm_wc pm_code pm_meta d 88 [.ref 34, .ref 183] (pm_Gb L true, I, J) Q ↔ if (I 183 2) = (I 34 2) then pm_wp pm_code pm_meta d 88 11 ([.ref 34, .ref 183], [], (pm_Gb L true, I, J)) Q else pm_wp pm_code pm_meta d 88 22 ([.ref 34, .ref 183], [], (pm_Gb L true, I, J)) Q := (pm_bk_iff pc_ch_88 5 0 _).trans (pm_brn)
theorem pb_88k34x183_11 {d L : Nat} {I : Nat → Nat → Int32} {J : Nat → Nat → Int64}  {Q : Int32 → Int64 → pm_H → Prop} : pm_wp pm_code pm_meta d 88 11 ([.ref 34, .ref 183], [], (pm_Gb L true, I, J)) Q ↔ if (I 183 1) = (I 34 1) then pm_wp pm_code pm_meta d 88 23 ([.ref 34, .ref 183], [], (pm_Gb L true, I, J)) Q else pm_wp pm_code pm_meta d 88 22 ([.ref 34, .ref 183], [], (pm_Gb L true, I, J)) Q := (pm_bk_iff pc_ch_88 5 11 _).trans (pm_brd)
theorem pb_88k34x183_22 {d L : Nat} {I : Nat → Nat → Int32} {J : Nat → Nat → Int64}  {Q : Int32 → Int64 → pm_H → Prop} : pm_wp pm_code pm_meta d 88 22 ([.ref 34, .ref 183], [], (pm_Gb L true, I, J)) Q ↔ Q 0 0 (pm_Gb L true, I, J) := (pm_bk_iff pc_ch_88 1 22 _).trans (pm_tt)
theorem pb_88k34x183_45 {d L : Nat} {I : Nat → Nat → Int32} {J : Nat → Nat → Int64} {Q : Int32 → Int64 → pm_H → Prop} : pm_wp pm_code pm_meta d 88 45 ([.ref 34, .ref 183], [], (pm_Gb L true, I, J)) Q ↔ Q 0 0 (pm_Gb L true, pm_u I 34 3 (I 183 3), J) := (pm_bk_iff pc_ch_88 5 45 _).trans (pm_tt)
theorem pb_88k34x183_23 {d L : Nat} {I : Nat → Nat → Int32} {J : Nat → Nat → Int64} {Q : Int32 → Int64 → pm_H → Prop} : pm_wp pm_code pm_meta d 88 23 ([.ref 34, .ref 183], [], (pm_Gb L true, I, J)) Q ↔ (decide ((0 : Int32) ≤ 0) && decide ((0 : Int32) ≤ 0) && decide (0 ≤ (I 183 3 * I 34 1)) && decide ((0 : Int32).toNatClampNeg + (I 183 3 * I 34 1).toNatClampNeg ≤ 144) && decide ((0 : Int32).toNatClampNeg + (I 183 3 * I 34 1).toNatClampNeg ≤ 144)) = true ∧ pm_wp pm_code pm_meta d 88 45 ([.ref 34, .ref 183], [], (pm_Gb L true, (pm_cp I 184 (0 : Int32).toNatClampNeg 35 (0 : Int32).toNatClampNeg (I 183 3 * I 34 1).toNatClampNeg), J)) Q := (pm_bk_iff pc_ch_88 12 23 _).trans (and_congr Iff.rfl Iff.rfl)
theorem pt_cp_34_183 {d L : Nat} {I : Nat → Nat → Int32} {J : Nat → Nat → Int64} {Q : Int32 → Int64 → pm_H → Prop} (ht : pm_ti (I 34) 6 24) (hs : pm_ti (I 183) 6 24) : pm_wc pm_code pm_meta d 88 [.ref 34, .ref 183] (pm_Gb L true, I, J) Q ↔ Q 0 0 (pm_Gb L true, pm_u (pm_r I 35 (fun j => if j < 6 * (I 183 3).toNatClampNeg then I 184 j else I 35 j)) 34 3 (I 183 3), J) := by
  obtain ⟨h1, h2, h3, h4⟩ := hs
  have h3' := pi_le.mp h3
  have h4' := pi_le.mp h4
  rw [pi_0] at h3'
  rw [show (24 : Int32).toInt = 24 from rfl] at h4'
  have g3 : (I 183 3 * I 34 1).toInt = (I 183 3).toInt * 6 := by rw [ht.1, pi_mul (by rw [show (6 : Int32).toInt = 6 from rfl]; omega) (by rw [show (6 : Int32).toInt = 6 from rfl]; omega), show (6 : Int32).toInt = 6 from rfl]
  have g4 : (I 183 3 * I 34 1).toNatClampNeg = 6 * (I 183 3).toNatClampNeg := by rw [pi_tn, pi_tn, g3]; omega
  have g5 : 0 ≤ I 183 3 * I 34 1 := by rw [pi_le, pi_0, g3]; omega
  have g6 : (I 183 3).toNatClampNeg ≤ 24 := by rw [pi_tn]; omega
  have z0 : (0 : Int32).toNatClampNeg = 0 := rfl
  rw [pb_88k34x183_0, if_pos (by rw [h2, ht.2.1]), pb_88k34x183_11, if_pos (by rw [h1, ht.1]), pb_88k34x183_23, pb_88k34x183_45]
  have hc : (decide ((0 : Int32) ≤ 0) && decide ((0 : Int32) ≤ 0) && decide (0 ≤ (I 183 3 * I 34 1)) && decide ((0 : Int32).toNatClampNeg + (I 183 3 * I 34 1).toNatClampNeg ≤ 144) && decide ((0 : Int32).toNatClampNeg + (I 183 3 * I 34 1).toNatClampNeg ≤ 144)) = true := by
    have k1 : (0 : Int32).toNatClampNeg + (I 183 3 * I 34 1).toNatClampNeg ≤ 144 := by rw [z0, g4]; omega
    simp only [decide_eq_true (Int32.le_refl 0), decide_eq_true g5, decide_eq_true k1, Bool.and_self]
  rw [pc_cpr (by rw [g4]), pm_r_row, if_neg (by decide)]
  exact ⟨fun h => h.2, fun h => ⟨hc, h⟩⟩
theorem pc_ch_26 : pm_chain (pm_code 26) = true := by decide +kernel
theorem pb_26kx_0 {d L : Nat} {I : Nat → Nat → Int32} {J : Nat → Nat → Int64}  {Q : Int32 → Int64 → pm_H → Prop} : pm_wc pm_code pm_meta (d + 1) 26 [.ref 158, .ref 9] (pm_Gb L true, I, J) Q ↔ pm_wc pm_code pm_meta d 88 [.ref 159, .ref 10] (pm_Gb L true, (pm_u I 158 0 (I 9 0)), J) (fun v w H => pm_wp pm_code pm_meta (d + 1) 26 19 ([.ref 158, .ref 9], [], H) Q) := (pm_bk_iff pc_ch_26 9 0 _).trans (Iff.rfl)
theorem pb_26kx_19 {d L : Nat} {I : Nat → Nat → Int32} {J : Nat → Nat → Int64}  {Q : Int32 → Int64 → pm_H → Prop} : pm_wp pm_code pm_meta (d + 1) 26 19 ([.ref 158, .ref 9], [], (pm_Gb L true, I, J)) Q ↔ pm_wc pm_code pm_meta d 88 [.ref 161, .ref 12] (pm_Gb L true, I, J) (fun v w H => pm_wp pm_code pm_meta (d + 1) 26 30 ([.ref 158, .ref 9], [], H) Q) := (pm_bk_iff pc_ch_26 5 19 _).trans (Iff.rfl)
theorem pb_26kx_30 {d L : Nat} {I : Nat → Nat → Int32} {J : Nat → Nat → Int64}  {Q : Int32 → Int64 → pm_H → Prop} : pm_wp pm_code pm_meta (d + 1) 26 30 ([.ref 158, .ref 9], [], (pm_Gb L true, I, J)) Q ↔ pm_wc pm_code pm_meta d 88 [.ref 163, .ref 14] (pm_Gb L true, I, J) (fun v w H => pm_wp pm_code pm_meta (d + 1) 26 41 ([.ref 158, .ref 9], [], H) Q) := (pm_bk_iff pc_ch_26 5 30 _).trans (Iff.rfl)
theorem pb_26kx_41 {d L : Nat} {I : Nat → Nat → Int32} {J : Nat → Nat → Int64}  {Q : Int32 → Int64 → pm_H → Prop} : pm_wp pm_code pm_meta (d + 1) 26 41 ([.ref 158, .ref 9], [], (pm_Gb L true, I, J)) Q ↔ pm_wc pm_code pm_meta d 88 [.ref 165, .ref 16] (pm_Gb L true, I, J) (fun v w H => pm_wp pm_code pm_meta (d + 1) 26 52 ([.ref 158, .ref 9], [], H) Q) := (pm_bk_iff pc_ch_26 5 41 _).trans (Iff.rfl)
theorem pb_26kx_52 {d L : Nat} {I : Nat → Nat → Int32} {J : Nat → Nat → Int64}  {Q : Int32 → Int64 → pm_H → Prop} : pm_wp pm_code pm_meta (d + 1) 26 52 ([.ref 158, .ref 9], [], (pm_Gb L true, I, J)) Q ↔ pm_wc pm_code pm_meta d 88 [.ref 167, .ref 18] (pm_Gb L true, I, J) (fun v w H => pm_wp pm_code pm_meta (d + 1) 26 63 ([.ref 158, .ref 9], [], H) Q) := (pm_bk_iff pc_ch_26 5 52 _).trans (Iff.rfl)
theorem pb_26kx_63 {d L : Nat} {I : Nat → Nat → Int32} {J : Nat → Nat → Int64}  {Q : Int32 → Int64 → pm_H → Prop} : pm_wp pm_code pm_meta (d + 1) 26 63 ([.ref 158, .ref 9], [], (pm_Gb L true, I, J)) Q ↔ pm_wc pm_code pm_meta d 88 [.ref 169, .ref 20] (pm_Gb L true, I, J) (fun v w H => pm_wp pm_code pm_meta (d + 1) 26 74 ([.ref 158, .ref 9], [], H) Q) := (pm_bk_iff pc_ch_26 5 63 _).trans (Iff.rfl)
theorem pb_26kx_74 {d L : Nat} {I : Nat → Nat → Int32} {J : Nat → Nat → Int64}  {Q : Int32 → Int64 → pm_H → Prop} : pm_wp pm_code pm_meta (d + 1) 26 74 ([.ref 158, .ref 9], [], (pm_Gb L true, I, J)) Q ↔ pm_wc pm_code pm_meta d 88 [.ref 171, .ref 22] (pm_Gb L true, I, J) (fun v w H => pm_wp pm_code pm_meta (d + 1) 26 85 ([.ref 158, .ref 9], [], H) Q) := (pm_bk_iff pc_ch_26 5 74 _).trans (Iff.rfl)
theorem pb_26kx_85 {d L : Nat} {I : Nat → Nat → Int32} {J : Nat → Nat → Int64}  {Q : Int32 → Int64 → pm_H → Prop} : pm_wp pm_code pm_meta (d + 1) 26 85 ([.ref 158, .ref 9], [], (pm_Gb L true, I, J)) Q ↔ pm_wc pm_code pm_meta d 88 [.ref 173, .ref 24] (pm_Gb L true, I, J) (fun v w H => pm_wp pm_code pm_meta (d + 1) 26 96 ([.ref 158, .ref 9], [], H) Q) := (pm_bk_iff pc_ch_26 5 85 _).trans (Iff.rfl)
theorem pb_26kx_96 {d L : Nat} {I : Nat → Nat → Int32} {J : Nat → Nat → Int64}  {Q : Int32 → Int64 → pm_H → Prop} : pm_wp pm_code pm_meta (d + 1) 26 96 ([.ref 158, .ref 9], [], (pm_Gb L true, I, J)) Q ↔ pm_wc pm_code pm_meta d 88 [.ref 175, .ref 26] (pm_Gb L true, I, J) (fun v w H => pm_wp pm_code pm_meta (d + 1) 26 107 ([.ref 158, .ref 9], [], H) Q) := (pm_bk_iff pc_ch_26 5 96 _).trans (Iff.rfl)
theorem pb_26kx_107 {d L : Nat} {I : Nat → Nat → Int32} {J : Nat → Nat → Int64}  {Q : Int32 → Int64 → pm_H → Prop} : pm_wp pm_code pm_meta (d + 1) 26 107 ([.ref 158, .ref 9], [], (pm_Gb L true, I, J)) Q ↔ pm_wc pm_code pm_meta d 88 [.ref 177, .ref 28] (pm_Gb L true, I, J) (fun v w H => pm_wp pm_code pm_meta (d + 1) 26 118 ([.ref 158, .ref 9], [], H) Q) := (pm_bk_iff pc_ch_26 5 107 _).trans (Iff.rfl)
theorem pb_26kx_118 {d L : Nat} {I : Nat → Nat → Int32} {J : Nat → Nat → Int64}  {Q : Int32 → Int64 → pm_H → Prop} : pm_wp pm_code pm_meta (d + 1) 26 118 ([.ref 158, .ref 9], [], (pm_Gb L true, I, J)) Q ↔ pm_wc pm_code pm_meta d 88 [.ref 179, .ref 30] (pm_Gb L true, I, J) (fun v w H => pm_wp pm_code pm_meta (d + 1) 26 129 ([.ref 158, .ref 9], [], H) Q) := (pm_bk_iff pc_ch_26 5 118 _).trans (Iff.rfl)
theorem pb_26kx_129 {d L : Nat} {I : Nat → Nat → Int32} {J : Nat → Nat → Int64}  {Q : Int32 → Int64 → pm_H → Prop} : pm_wp pm_code pm_meta (d + 1) 26 129 ([.ref 158, .ref 9], [], (pm_Gb L true, I, J)) Q ↔ pm_wc pm_code pm_meta d 88 [.ref 181, .ref 32] (pm_Gb L true, I, J) (fun v w H => pm_wp pm_code pm_meta (d + 1) 26 140 ([.ref 158, .ref 9], [], H) Q) := (pm_bk_iff pc_ch_26 5 129 _).trans (Iff.rfl)
theorem pb_26kx_140 {d L : Nat} {I : Nat → Nat → Int32} {J : Nat → Nat → Int64}  {Q : Int32 → Int64 → pm_H → Prop} : pm_wp pm_code pm_meta (d + 1) 26 140 ([.ref 158, .ref 9], [], (pm_Gb L true, I, J)) Q ↔ pm_wc pm_code pm_meta d 88 [.ref 183, .ref 34] (pm_Gb L true, I, J) (fun v w H => pm_wp pm_code pm_meta (d + 1) 26 151 ([.ref 158, .ref 9], [], H) Q) := (pm_bk_iff pc_ch_26 5 140 _).trans (Iff.rfl)
theorem pb_26kx_151 {d L : Nat} {I : Nat → Nat → Int32} {J : Nat → Nat → Int64}  {Q : Int32 → Int64 → pm_H → Prop} : pm_wp pm_code pm_meta d 26 151 ([.ref 158, .ref 9], [], (pm_Gb L true, I, J)) Q ↔ Q 0 0 (pm_Gb L true, I, J) := (pm_bk_iff pc_ch_26 1 151 _).trans (pm_tt)
theorem px_land_kx {d L : Nat} {I : Nat → Nat → Int32} {J : Nat → Nat → Int64} {Q : Int32 → Int64 → pm_H → Prop} (hs : ∀ i, i < 13 → pm_ti (I (10 + 2 * i)) (Int32.ofNat (pc_W i)) (Int32.ofNat (pc_L i))) (ht : ∀ i, i < 13 → pm_ti (I (159 + 2 * i)) (Int32.ofNat (pc_W i)) (Int32.ofNat (pc_L i))) (hQ : ∀ I', pc_P 10 159 13 (pm_u I 158 0 (I 9 0)) I' → Q 0 0 (pm_Gb L true, I', J)) :
    pm_wc pm_code pm_meta (d + 1) 26 [.ref 158, .ref 9] (pm_Gb L true, I, J) Q := by
  rw [pb_26kx_0]
  generalize hI0 : pm_u I 158 0 (I 9 0) = I0 at hQ ⊢
  have k0 : ∀ k, ¬ k = 158 → I0 k = I k := fun k h => by rw [← hI0, pm_u_row, if_neg h]
  have hs0 : ∀ i, i < 13 → pm_ti (I0 (10 + 2 * i)) (Int32.ofNat (pc_W i)) (Int32.ofNat (pc_L i)) := fun i hi => by rw [k0 _ (by omega)]; exact hs i hi
  have ht0 : ∀ i, i < 13 → pm_ti (I0 (159 + 2 * i)) (Int32.ofNat (pc_W i)) (Int32.ofNat (pc_L i)) := fun i hi => by rw [k0 _ (by omega)]; exact ht i hi
  have p0 : pc_P 10 159 0 I0 I0 := pc_P0
  rw [pt_cp_159_10 (I := I0) (by rw [p0.1 159 (by omega)]; exact ht0 0 (by decide)) (by rw [p0.1 10 (by omega)]; exact hs0 0 (by decide)), pb_26kx_19]
  have p1 := pc_Ps (w := 10) p0 (by omega) (by decide) rfl (hs0 0 (by decide)) (ht0 0 (by decide))
  simp only [show 10 + 2 * 0 = 10 from rfl, show 159 + 2 * 0 = 159 from rfl, show 10 + 1 = 11 from rfl, show 159 + 1 = 160 from rfl, show 0 + 1 = 1 from rfl] at p1
  generalize hI1 : pm_u (pm_r I0 160 (fun j => if j < 10 * (I0 10 3).toNatClampNeg then I0 11 j else I0 160 j)) 159 3 (I0 10 3) = I1 at p1 ⊢
  rw [pt_cp_161_12 (I := I1) (by rw [p1.1 161 (by omega)]; exact ht0 1 (by decide)) (by rw [p1.1 12 (by omega)]; exact hs0 1 (by decide)), pb_26kx_30]
  have p2 := pc_Ps (w := 2) p1 (by omega) (by decide) rfl (hs0 1 (by decide)) (ht0 1 (by decide))
  simp only [show 10 + 2 * 1 = 12 from rfl, show 159 + 2 * 1 = 161 from rfl, show 12 + 1 = 13 from rfl, show 161 + 1 = 162 from rfl, show 1 + 1 = 2 from rfl] at p2
  generalize hI2 : pm_u (pm_r I1 162 (fun j => if j < 2 * (I1 12 3).toNatClampNeg then I1 13 j else I1 162 j)) 161 3 (I1 12 3) = I2 at p2 ⊢
  rw [pt_cp_163_14 (I := I2) (by rw [p2.1 163 (by omega)]; exact ht0 2 (by decide)) (by rw [p2.1 14 (by omega)]; exact hs0 2 (by decide)), pb_26kx_41]
  have p3 := pc_Ps (w := 10) p2 (by omega) (by decide) rfl (hs0 2 (by decide)) (ht0 2 (by decide))
  simp only [show 10 + 2 * 2 = 14 from rfl, show 159 + 2 * 2 = 163 from rfl, show 14 + 1 = 15 from rfl, show 163 + 1 = 164 from rfl, show 2 + 1 = 3 from rfl] at p3
  generalize hI3 : pm_u (pm_r I2 164 (fun j => if j < 10 * (I2 14 3).toNatClampNeg then I2 15 j else I2 164 j)) 163 3 (I2 14 3) = I3 at p3 ⊢
  rw [pt_cp_165_16 (I := I3) (by rw [p3.1 165 (by omega)]; exact ht0 3 (by decide)) (by rw [p3.1 16 (by omega)]; exact hs0 3 (by decide)), pb_26kx_52]
  have p4 := pc_Ps (w := 5) p3 (by omega) (by decide) rfl (hs0 3 (by decide)) (ht0 3 (by decide))
  simp only [show 10 + 2 * 3 = 16 from rfl, show 159 + 2 * 3 = 165 from rfl, show 16 + 1 = 17 from rfl, show 165 + 1 = 166 from rfl, show 3 + 1 = 4 from rfl] at p4
  generalize hI4 : pm_u (pm_r I3 166 (fun j => if j < 5 * (I3 16 3).toNatClampNeg then I3 17 j else I3 166 j)) 165 3 (I3 16 3) = I4 at p4 ⊢
  rw [pt_cp_167_18 (I := I4) (by rw [p4.1 167 (by omega)]; exact ht0 4 (by decide)) (by rw [p4.1 18 (by omega)]; exact hs0 4 (by decide)), pb_26kx_63]
  have p5 := pc_Ps (w := 16) p4 (by omega) (by decide) rfl (hs0 4 (by decide)) (ht0 4 (by decide))
  simp only [show 10 + 2 * 4 = 18 from rfl, show 159 + 2 * 4 = 167 from rfl, show 18 + 1 = 19 from rfl, show 167 + 1 = 168 from rfl, show 4 + 1 = 5 from rfl] at p5
  generalize hI5 : pm_u (pm_r I4 168 (fun j => if j < 16 * (I4 18 3).toNatClampNeg then I4 19 j else I4 168 j)) 167 3 (I4 18 3) = I5 at p5 ⊢
  rw [pt_cp_169_20 (I := I5) (by rw [p5.1 169 (by omega)]; exact ht0 5 (by decide)) (by rw [p5.1 20 (by omega)]; exact hs0 5 (by decide)), pb_26kx_74]
  have p6 := pc_Ps (w := 5) p5 (by omega) (by decide) rfl (hs0 5 (by decide)) (ht0 5 (by decide))
  simp only [show 10 + 2 * 5 = 20 from rfl, show 159 + 2 * 5 = 169 from rfl, show 20 + 1 = 21 from rfl, show 169 + 1 = 170 from rfl, show 5 + 1 = 6 from rfl] at p6
  generalize hI6 : pm_u (pm_r I5 170 (fun j => if j < 5 * (I5 20 3).toNatClampNeg then I5 21 j else I5 170 j)) 169 3 (I5 20 3) = I6 at p6 ⊢
  rw [pt_cp_171_22 (I := I6) (by rw [p6.1 171 (by omega)]; exact ht0 6 (by decide)) (by rw [p6.1 22 (by omega)]; exact hs0 6 (by decide)), pb_26kx_85]
  have p7 := pc_Ps (w := 5) p6 (by omega) (by decide) rfl (hs0 6 (by decide)) (ht0 6 (by decide))
  simp only [show 10 + 2 * 6 = 22 from rfl, show 159 + 2 * 6 = 171 from rfl, show 22 + 1 = 23 from rfl, show 171 + 1 = 172 from rfl, show 6 + 1 = 7 from rfl] at p7
  generalize hI7 : pm_u (pm_r I6 172 (fun j => if j < 5 * (I6 22 3).toNatClampNeg then I6 23 j else I6 172 j)) 171 3 (I6 22 3) = I7 at p7 ⊢
  rw [pt_cp_173_24 (I := I7) (by rw [p7.1 173 (by omega)]; exact ht0 7 (by decide)) (by rw [p7.1 24 (by omega)]; exact hs0 7 (by decide)), pb_26kx_96]
  have p8 := pc_Ps (w := 2) p7 (by omega) (by decide) rfl (hs0 7 (by decide)) (ht0 7 (by decide))
  simp only [show 10 + 2 * 7 = 24 from rfl, show 159 + 2 * 7 = 173 from rfl, show 24 + 1 = 25 from rfl, show 173 + 1 = 174 from rfl, show 7 + 1 = 8 from rfl] at p8
  generalize hI8 : pm_u (pm_r I7 174 (fun j => if j < 2 * (I7 24 3).toNatClampNeg then I7 25 j else I7 174 j)) 173 3 (I7 24 3) = I8 at p8 ⊢
  rw [pt_cp_175_26 (I := I8) (by rw [p8.1 175 (by omega)]; exact ht0 8 (by decide)) (by rw [p8.1 26 (by omega)]; exact hs0 8 (by decide)), pb_26kx_107]
  have p9 := pc_Ps (w := 1) p8 (by omega) (by decide) rfl (hs0 8 (by decide)) (ht0 8 (by decide))
  simp only [show 10 + 2 * 8 = 26 from rfl, show 159 + 2 * 8 = 175 from rfl, show 26 + 1 = 27 from rfl, show 175 + 1 = 176 from rfl, show 8 + 1 = 9 from rfl] at p9
  generalize hI9 : pm_u (pm_r I8 176 (fun j => if j < 1 * (I8 26 3).toNatClampNeg then I8 27 j else I8 176 j)) 175 3 (I8 26 3) = I9 at p9 ⊢
  rw [pt_cp_177_28 (I := I9) (by rw [p9.1 177 (by omega)]; exact ht0 9 (by decide)) (by rw [p9.1 28 (by omega)]; exact hs0 9 (by decide)), pb_26kx_118]
  have p10 := pc_Ps (w := 3) p9 (by omega) (by decide) rfl (hs0 9 (by decide)) (ht0 9 (by decide))
  simp only [show 10 + 2 * 9 = 28 from rfl, show 159 + 2 * 9 = 177 from rfl, show 28 + 1 = 29 from rfl, show 177 + 1 = 178 from rfl, show 9 + 1 = 10 from rfl] at p10
  generalize hI10 : pm_u (pm_r I9 178 (fun j => if j < 3 * (I9 28 3).toNatClampNeg then I9 29 j else I9 178 j)) 177 3 (I9 28 3) = I10 at p10 ⊢
  rw [pt_cp_179_30 (I := I10) (by rw [p10.1 179 (by omega)]; exact ht0 10 (by decide)) (by rw [p10.1 30 (by omega)]; exact hs0 10 (by decide)), pb_26kx_129]
  have p11 := pc_Ps (w := 1) p10 (by omega) (by decide) rfl (hs0 10 (by decide)) (ht0 10 (by decide))
  simp only [show 10 + 2 * 10 = 30 from rfl, show 159 + 2 * 10 = 179 from rfl, show 30 + 1 = 31 from rfl, show 179 + 1 = 180 from rfl, show 10 + 1 = 11 from rfl] at p11
  generalize hI11 : pm_u (pm_r I10 180 (fun j => if j < 1 * (I10 30 3).toNatClampNeg then I10 31 j else I10 180 j)) 179 3 (I10 30 3) = I11 at p11 ⊢
  rw [pt_cp_181_32 (I := I11) (by rw [p11.1 181 (by omega)]; exact ht0 11 (by decide)) (by rw [p11.1 32 (by omega)]; exact hs0 11 (by decide)), pb_26kx_140]
  have p12 := pc_Ps (w := 1) p11 (by omega) (by decide) rfl (hs0 11 (by decide)) (ht0 11 (by decide))
  simp only [show 10 + 2 * 11 = 32 from rfl, show 159 + 2 * 11 = 181 from rfl, show 32 + 1 = 33 from rfl, show 181 + 1 = 182 from rfl, show 11 + 1 = 12 from rfl] at p12
  generalize hI12 : pm_u (pm_r I11 182 (fun j => if j < 1 * (I11 32 3).toNatClampNeg then I11 33 j else I11 182 j)) 181 3 (I11 32 3) = I12 at p12 ⊢
  rw [pt_cp_183_34 (I := I12) (by rw [p12.1 183 (by omega)]; exact ht0 12 (by decide)) (by rw [p12.1 34 (by omega)]; exact hs0 12 (by decide)), pb_26kx_151]
  have p13 := pc_Ps (w := 6) p12 (by omega) (by decide) rfl (hs0 12 (by decide)) (ht0 12 (by decide))
  simp only [show 10 + 2 * 12 = 34 from rfl, show 159 + 2 * 12 = 183 from rfl, show 34 + 1 = 35 from rfl, show 183 + 1 = 184 from rfl, show 12 + 1 = 13 from rfl] at p13
  generalize hI13 : pm_u (pm_r I12 184 (fun j => if j < 6 * (I12 34 3).toNatClampNeg then I12 35 j else I12 184 j)) 183 3 (I12 34 3) = I13 at p13 ⊢
  exact hQ I13 p13
theorem pb_26ax_0 {d L : Nat} {I : Nat → Nat → Int32} {J : Nat → Nat → Int64}  {Q : Int32 → Int64 → pm_H → Prop} : pm_wc pm_code pm_meta (d + 1) 26 [.ref 9, .ref 158] (pm_Gb L true, I, J) Q ↔ pm_wc pm_code pm_meta d 88 [.ref 10, .ref 159] (pm_Gb L true, (pm_u I 9 0 (I 158 0)), J) (fun v w H => pm_wp pm_code pm_meta (d + 1) 26 19 ([.ref 9, .ref 158], [], H) Q) := (pm_bk_iff pc_ch_26 9 0 _).trans (Iff.rfl)
theorem pb_26ax_19 {d L : Nat} {I : Nat → Nat → Int32} {J : Nat → Nat → Int64}  {Q : Int32 → Int64 → pm_H → Prop} : pm_wp pm_code pm_meta (d + 1) 26 19 ([.ref 9, .ref 158], [], (pm_Gb L true, I, J)) Q ↔ pm_wc pm_code pm_meta d 88 [.ref 12, .ref 161] (pm_Gb L true, I, J) (fun v w H => pm_wp pm_code pm_meta (d + 1) 26 30 ([.ref 9, .ref 158], [], H) Q) := (pm_bk_iff pc_ch_26 5 19 _).trans (Iff.rfl)
theorem pb_26ax_30 {d L : Nat} {I : Nat → Nat → Int32} {J : Nat → Nat → Int64}  {Q : Int32 → Int64 → pm_H → Prop} : pm_wp pm_code pm_meta (d + 1) 26 30 ([.ref 9, .ref 158], [], (pm_Gb L true, I, J)) Q ↔ pm_wc pm_code pm_meta d 88 [.ref 14, .ref 163] (pm_Gb L true, I, J) (fun v w H => pm_wp pm_code pm_meta (d + 1) 26 41 ([.ref 9, .ref 158], [], H) Q) := (pm_bk_iff pc_ch_26 5 30 _).trans (Iff.rfl)
theorem pb_26ax_41 {d L : Nat} {I : Nat → Nat → Int32} {J : Nat → Nat → Int64}  {Q : Int32 → Int64 → pm_H → Prop} : pm_wp pm_code pm_meta (d + 1) 26 41 ([.ref 9, .ref 158], [], (pm_Gb L true, I, J)) Q ↔ pm_wc pm_code pm_meta d 88 [.ref 16, .ref 165] (pm_Gb L true, I, J) (fun v w H => pm_wp pm_code pm_meta (d + 1) 26 52 ([.ref 9, .ref 158], [], H) Q) := (pm_bk_iff pc_ch_26 5 41 _).trans (Iff.rfl)
theorem pb_26ax_52 {d L : Nat} {I : Nat → Nat → Int32} {J : Nat → Nat → Int64}  {Q : Int32 → Int64 → pm_H → Prop} : pm_wp pm_code pm_meta (d + 1) 26 52 ([.ref 9, .ref 158], [], (pm_Gb L true, I, J)) Q ↔ pm_wc pm_code pm_meta d 88 [.ref 18, .ref 167] (pm_Gb L true, I, J) (fun v w H => pm_wp pm_code pm_meta (d + 1) 26 63 ([.ref 9, .ref 158], [], H) Q) := (pm_bk_iff pc_ch_26 5 52 _).trans (Iff.rfl)
theorem pb_26ax_63 {d L : Nat} {I : Nat → Nat → Int32} {J : Nat → Nat → Int64}  {Q : Int32 → Int64 → pm_H → Prop} : pm_wp pm_code pm_meta (d + 1) 26 63 ([.ref 9, .ref 158], [], (pm_Gb L true, I, J)) Q ↔ pm_wc pm_code pm_meta d 88 [.ref 20, .ref 169] (pm_Gb L true, I, J) (fun v w H => pm_wp pm_code pm_meta (d + 1) 26 74 ([.ref 9, .ref 158], [], H) Q) := (pm_bk_iff pc_ch_26 5 63 _).trans (Iff.rfl)
theorem pb_26ax_74 {d L : Nat} {I : Nat → Nat → Int32} {J : Nat → Nat → Int64}  {Q : Int32 → Int64 → pm_H → Prop} : pm_wp pm_code pm_meta (d + 1) 26 74 ([.ref 9, .ref 158], [], (pm_Gb L true, I, J)) Q ↔ pm_wc pm_code pm_meta d 88 [.ref 22, .ref 171] (pm_Gb L true, I, J) (fun v w H => pm_wp pm_code pm_meta (d + 1) 26 85 ([.ref 9, .ref 158], [], H) Q) := (pm_bk_iff pc_ch_26 5 74 _).trans (Iff.rfl)
theorem pb_26ax_85 {d L : Nat} {I : Nat → Nat → Int32} {J : Nat → Nat → Int64}  {Q : Int32 → Int64 → pm_H → Prop} : pm_wp pm_code pm_meta (d + 1) 26 85 ([.ref 9, .ref 158], [], (pm_Gb L true, I, J)) Q ↔ pm_wc pm_code pm_meta d 88 [.ref 24, .ref 173] (pm_Gb L true, I, J) (fun v w H => pm_wp pm_code pm_meta (d + 1) 26 96 ([.ref 9, .ref 158], [], H) Q) := (pm_bk_iff pc_ch_26 5 85 _).trans (Iff.rfl)
theorem pb_26ax_96 {d L : Nat} {I : Nat → Nat → Int32} {J : Nat → Nat → Int64}  {Q : Int32 → Int64 → pm_H → Prop} : pm_wp pm_code pm_meta (d + 1) 26 96 ([.ref 9, .ref 158], [], (pm_Gb L true, I, J)) Q ↔ pm_wc pm_code pm_meta d 88 [.ref 26, .ref 175] (pm_Gb L true, I, J) (fun v w H => pm_wp pm_code pm_meta (d + 1) 26 107 ([.ref 9, .ref 158], [], H) Q) := (pm_bk_iff pc_ch_26 5 96 _).trans (Iff.rfl)
theorem pb_26ax_107 {d L : Nat} {I : Nat → Nat → Int32} {J : Nat → Nat → Int64}  {Q : Int32 → Int64 → pm_H → Prop} : pm_wp pm_code pm_meta (d + 1) 26 107 ([.ref 9, .ref 158], [], (pm_Gb L true, I, J)) Q ↔ pm_wc pm_code pm_meta d 88 [.ref 28, .ref 177] (pm_Gb L true, I, J) (fun v w H => pm_wp pm_code pm_meta (d + 1) 26 118 ([.ref 9, .ref 158], [], H) Q) := (pm_bk_iff pc_ch_26 5 107 _).trans (Iff.rfl)
theorem pb_26ax_118 {d L : Nat} {I : Nat → Nat → Int32} {J : Nat → Nat → Int64}  {Q : Int32 → Int64 → pm_H → Prop} : pm_wp pm_code pm_meta (d + 1) 26 118 ([.ref 9, .ref 158], [], (pm_Gb L true, I, J)) Q ↔ pm_wc pm_code pm_meta d 88 [.ref 30, .ref 179] (pm_Gb L true, I, J) (fun v w H => pm_wp pm_code pm_meta (d + 1) 26 129 ([.ref 9, .ref 158], [], H) Q) := (pm_bk_iff pc_ch_26 5 118 _).trans (Iff.rfl)
theorem pb_26ax_129 {d L : Nat} {I : Nat → Nat → Int32} {J : Nat → Nat → Int64}  {Q : Int32 → Int64 → pm_H → Prop} : pm_wp pm_code pm_meta (d + 1) 26 129 ([.ref 9, .ref 158], [], (pm_Gb L true, I, J)) Q ↔ pm_wc pm_code pm_meta d 88 [.ref 32, .ref 181] (pm_Gb L true, I, J) (fun v w H => pm_wp pm_code pm_meta (d + 1) 26 140 ([.ref 9, .ref 158], [], H) Q) := (pm_bk_iff pc_ch_26 5 129 _).trans (Iff.rfl)
theorem pb_26ax_140 {d L : Nat} {I : Nat → Nat → Int32} {J : Nat → Nat → Int64}  {Q : Int32 → Int64 → pm_H → Prop} : pm_wp pm_code pm_meta (d + 1) 26 140 ([.ref 9, .ref 158], [], (pm_Gb L true, I, J)) Q ↔ pm_wc pm_code pm_meta d 88 [.ref 34, .ref 183] (pm_Gb L true, I, J) (fun v w H => pm_wp pm_code pm_meta (d + 1) 26 151 ([.ref 9, .ref 158], [], H) Q) := (pm_bk_iff pc_ch_26 5 140 _).trans (Iff.rfl)
theorem pb_26ax_151 {d L : Nat} {I : Nat → Nat → Int32} {J : Nat → Nat → Int64}  {Q : Int32 → Int64 → pm_H → Prop} : pm_wp pm_code pm_meta d 26 151 ([.ref 9, .ref 158], [], (pm_Gb L true, I, J)) Q ↔ Q 0 0 (pm_Gb L true, I, J) := (pm_bk_iff pc_ch_26 1 151 _).trans (pm_tt)
theorem px_land_ax {d L : Nat} {I : Nat → Nat → Int32} {J : Nat → Nat → Int64} {Q : Int32 → Int64 → pm_H → Prop} (hs : ∀ i, i < 13 → pm_ti (I (159 + 2 * i)) (Int32.ofNat (pc_W i)) (Int32.ofNat (pc_L i))) (ht : ∀ i, i < 13 → pm_ti (I (10 + 2 * i)) (Int32.ofNat (pc_W i)) (Int32.ofNat (pc_L i))) (hQ : ∀ I', pc_P 159 10 13 (pm_u I 9 0 (I 158 0)) I' → Q 0 0 (pm_Gb L true, I', J)) :
    pm_wc pm_code pm_meta (d + 1) 26 [.ref 9, .ref 158] (pm_Gb L true, I, J) Q := by
  rw [pb_26ax_0]
  generalize hI0 : pm_u I 9 0 (I 158 0) = I0 at hQ ⊢
  have k0 : ∀ k, ¬ k = 9 → I0 k = I k := fun k h => by rw [← hI0, pm_u_row, if_neg h]
  have hs0 : ∀ i, i < 13 → pm_ti (I0 (159 + 2 * i)) (Int32.ofNat (pc_W i)) (Int32.ofNat (pc_L i)) := fun i hi => by rw [k0 _ (by omega)]; exact hs i hi
  have ht0 : ∀ i, i < 13 → pm_ti (I0 (10 + 2 * i)) (Int32.ofNat (pc_W i)) (Int32.ofNat (pc_L i)) := fun i hi => by rw [k0 _ (by omega)]; exact ht i hi
  have p0 : pc_P 159 10 0 I0 I0 := pc_P0
  rw [pt_cp_10_159 (I := I0) (by rw [p0.1 10 (by omega)]; exact ht0 0 (by decide)) (by rw [p0.1 159 (by omega)]; exact hs0 0 (by decide)), pb_26ax_19]
  have p1 := pc_Ps (w := 10) p0 (by omega) (by decide) rfl (hs0 0 (by decide)) (ht0 0 (by decide))
  simp only [show 159 + 2 * 0 = 159 from rfl, show 10 + 2 * 0 = 10 from rfl, show 159 + 1 = 160 from rfl, show 10 + 1 = 11 from rfl, show 0 + 1 = 1 from rfl] at p1
  generalize hI1 : pm_u (pm_r I0 11 (fun j => if j < 10 * (I0 159 3).toNatClampNeg then I0 160 j else I0 11 j)) 10 3 (I0 159 3) = I1 at p1 ⊢
  rw [pt_cp_12_161 (I := I1) (by rw [p1.1 12 (by omega)]; exact ht0 1 (by decide)) (by rw [p1.1 161 (by omega)]; exact hs0 1 (by decide)), pb_26ax_30]
  have p2 := pc_Ps (w := 2) p1 (by omega) (by decide) rfl (hs0 1 (by decide)) (ht0 1 (by decide))
  simp only [show 159 + 2 * 1 = 161 from rfl, show 10 + 2 * 1 = 12 from rfl, show 161 + 1 = 162 from rfl, show 12 + 1 = 13 from rfl, show 1 + 1 = 2 from rfl] at p2
  generalize hI2 : pm_u (pm_r I1 13 (fun j => if j < 2 * (I1 161 3).toNatClampNeg then I1 162 j else I1 13 j)) 12 3 (I1 161 3) = I2 at p2 ⊢
  rw [pt_cp_14_163 (I := I2) (by rw [p2.1 14 (by omega)]; exact ht0 2 (by decide)) (by rw [p2.1 163 (by omega)]; exact hs0 2 (by decide)), pb_26ax_41]
  have p3 := pc_Ps (w := 10) p2 (by omega) (by decide) rfl (hs0 2 (by decide)) (ht0 2 (by decide))
  simp only [show 159 + 2 * 2 = 163 from rfl, show 10 + 2 * 2 = 14 from rfl, show 163 + 1 = 164 from rfl, show 14 + 1 = 15 from rfl, show 2 + 1 = 3 from rfl] at p3
  generalize hI3 : pm_u (pm_r I2 15 (fun j => if j < 10 * (I2 163 3).toNatClampNeg then I2 164 j else I2 15 j)) 14 3 (I2 163 3) = I3 at p3 ⊢
  rw [pt_cp_16_165 (I := I3) (by rw [p3.1 16 (by omega)]; exact ht0 3 (by decide)) (by rw [p3.1 165 (by omega)]; exact hs0 3 (by decide)), pb_26ax_52]
  have p4 := pc_Ps (w := 5) p3 (by omega) (by decide) rfl (hs0 3 (by decide)) (ht0 3 (by decide))
  simp only [show 159 + 2 * 3 = 165 from rfl, show 10 + 2 * 3 = 16 from rfl, show 165 + 1 = 166 from rfl, show 16 + 1 = 17 from rfl, show 3 + 1 = 4 from rfl] at p4
  generalize hI4 : pm_u (pm_r I3 17 (fun j => if j < 5 * (I3 165 3).toNatClampNeg then I3 166 j else I3 17 j)) 16 3 (I3 165 3) = I4 at p4 ⊢
  rw [pt_cp_18_167 (I := I4) (by rw [p4.1 18 (by omega)]; exact ht0 4 (by decide)) (by rw [p4.1 167 (by omega)]; exact hs0 4 (by decide)), pb_26ax_63]
  have p5 := pc_Ps (w := 16) p4 (by omega) (by decide) rfl (hs0 4 (by decide)) (ht0 4 (by decide))
  simp only [show 159 + 2 * 4 = 167 from rfl, show 10 + 2 * 4 = 18 from rfl, show 167 + 1 = 168 from rfl, show 18 + 1 = 19 from rfl, show 4 + 1 = 5 from rfl] at p5
  generalize hI5 : pm_u (pm_r I4 19 (fun j => if j < 16 * (I4 167 3).toNatClampNeg then I4 168 j else I4 19 j)) 18 3 (I4 167 3) = I5 at p5 ⊢
  rw [pt_cp_20_169 (I := I5) (by rw [p5.1 20 (by omega)]; exact ht0 5 (by decide)) (by rw [p5.1 169 (by omega)]; exact hs0 5 (by decide)), pb_26ax_74]
  have p6 := pc_Ps (w := 5) p5 (by omega) (by decide) rfl (hs0 5 (by decide)) (ht0 5 (by decide))
  simp only [show 159 + 2 * 5 = 169 from rfl, show 10 + 2 * 5 = 20 from rfl, show 169 + 1 = 170 from rfl, show 20 + 1 = 21 from rfl, show 5 + 1 = 6 from rfl] at p6
  generalize hI6 : pm_u (pm_r I5 21 (fun j => if j < 5 * (I5 169 3).toNatClampNeg then I5 170 j else I5 21 j)) 20 3 (I5 169 3) = I6 at p6 ⊢
  rw [pt_cp_22_171 (I := I6) (by rw [p6.1 22 (by omega)]; exact ht0 6 (by decide)) (by rw [p6.1 171 (by omega)]; exact hs0 6 (by decide)), pb_26ax_85]
  have p7 := pc_Ps (w := 5) p6 (by omega) (by decide) rfl (hs0 6 (by decide)) (ht0 6 (by decide))
  simp only [show 159 + 2 * 6 = 171 from rfl, show 10 + 2 * 6 = 22 from rfl, show 171 + 1 = 172 from rfl, show 22 + 1 = 23 from rfl, show 6 + 1 = 7 from rfl] at p7
  generalize hI7 : pm_u (pm_r I6 23 (fun j => if j < 5 * (I6 171 3).toNatClampNeg then I6 172 j else I6 23 j)) 22 3 (I6 171 3) = I7 at p7 ⊢
  rw [pt_cp_24_173 (I := I7) (by rw [p7.1 24 (by omega)]; exact ht0 7 (by decide)) (by rw [p7.1 173 (by omega)]; exact hs0 7 (by decide)), pb_26ax_96]
  have p8 := pc_Ps (w := 2) p7 (by omega) (by decide) rfl (hs0 7 (by decide)) (ht0 7 (by decide))
  simp only [show 159 + 2 * 7 = 173 from rfl, show 10 + 2 * 7 = 24 from rfl, show 173 + 1 = 174 from rfl, show 24 + 1 = 25 from rfl, show 7 + 1 = 8 from rfl] at p8
  generalize hI8 : pm_u (pm_r I7 25 (fun j => if j < 2 * (I7 173 3).toNatClampNeg then I7 174 j else I7 25 j)) 24 3 (I7 173 3) = I8 at p8 ⊢
  rw [pt_cp_26_175 (I := I8) (by rw [p8.1 26 (by omega)]; exact ht0 8 (by decide)) (by rw [p8.1 175 (by omega)]; exact hs0 8 (by decide)), pb_26ax_107]
  have p9 := pc_Ps (w := 1) p8 (by omega) (by decide) rfl (hs0 8 (by decide)) (ht0 8 (by decide))
  simp only [show 159 + 2 * 8 = 175 from rfl, show 10 + 2 * 8 = 26 from rfl, show 175 + 1 = 176 from rfl, show 26 + 1 = 27 from rfl, show 8 + 1 = 9 from rfl] at p9
  generalize hI9 : pm_u (pm_r I8 27 (fun j => if j < 1 * (I8 175 3).toNatClampNeg then I8 176 j else I8 27 j)) 26 3 (I8 175 3) = I9 at p9 ⊢
  rw [pt_cp_28_177 (I := I9) (by rw [p9.1 28 (by omega)]; exact ht0 9 (by decide)) (by rw [p9.1 177 (by omega)]; exact hs0 9 (by decide)), pb_26ax_118]
  have p10 := pc_Ps (w := 3) p9 (by omega) (by decide) rfl (hs0 9 (by decide)) (ht0 9 (by decide))
  simp only [show 159 + 2 * 9 = 177 from rfl, show 10 + 2 * 9 = 28 from rfl, show 177 + 1 = 178 from rfl, show 28 + 1 = 29 from rfl, show 9 + 1 = 10 from rfl] at p10
  generalize hI10 : pm_u (pm_r I9 29 (fun j => if j < 3 * (I9 177 3).toNatClampNeg then I9 178 j else I9 29 j)) 28 3 (I9 177 3) = I10 at p10 ⊢
  rw [pt_cp_30_179 (I := I10) (by rw [p10.1 30 (by omega)]; exact ht0 10 (by decide)) (by rw [p10.1 179 (by omega)]; exact hs0 10 (by decide)), pb_26ax_129]
  have p11 := pc_Ps (w := 1) p10 (by omega) (by decide) rfl (hs0 10 (by decide)) (ht0 10 (by decide))
  simp only [show 159 + 2 * 10 = 179 from rfl, show 10 + 2 * 10 = 30 from rfl, show 179 + 1 = 180 from rfl, show 30 + 1 = 31 from rfl, show 10 + 1 = 11 from rfl] at p11
  generalize hI11 : pm_u (pm_r I10 31 (fun j => if j < 1 * (I10 179 3).toNatClampNeg then I10 180 j else I10 31 j)) 30 3 (I10 179 3) = I11 at p11 ⊢
  rw [pt_cp_32_181 (I := I11) (by rw [p11.1 32 (by omega)]; exact ht0 11 (by decide)) (by rw [p11.1 181 (by omega)]; exact hs0 11 (by decide)), pb_26ax_140]
  have p12 := pc_Ps (w := 1) p11 (by omega) (by decide) rfl (hs0 11 (by decide)) (ht0 11 (by decide))
  simp only [show 159 + 2 * 11 = 181 from rfl, show 10 + 2 * 11 = 32 from rfl, show 181 + 1 = 182 from rfl, show 32 + 1 = 33 from rfl, show 11 + 1 = 12 from rfl] at p12
  generalize hI12 : pm_u (pm_r I11 33 (fun j => if j < 1 * (I11 181 3).toNatClampNeg then I11 182 j else I11 33 j)) 32 3 (I11 181 3) = I12 at p12 ⊢
  rw [pt_cp_34_183 (I := I12) (by rw [p12.1 34 (by omega)]; exact ht0 12 (by decide)) (by rw [p12.1 183 (by omega)]; exact hs0 12 (by decide)), pb_26ax_151]
  have p13 := pc_Ps (w := 6) p12 (by omega) (by decide) rfl (hs0 12 (by decide)) (ht0 12 (by decide))
  simp only [show 159 + 2 * 12 = 183 from rfl, show 10 + 2 * 12 = 34 from rfl, show 183 + 1 = 184 from rfl, show 34 + 1 = 35 from rfl, show 12 + 1 = 13 from rfl] at p13
  generalize hI13 : pm_u (pm_r I12 35 (fun j => if j < 6 * (I12 183 3).toNatClampNeg then I12 184 j else I12 35 j)) 34 3 (I12 183 3) = I13 at p13 ⊢
  exact hQ I13 p13

