/-! A COPY of a table. -/
theorem pc_ch_88 : pm_chain (pm_code 88) = true := by decide +kernel
theorem pb_88v1_0 {d L : Nat} {b : Bool} {I : Nat → Nat → Int32} {J : Nat → Nat → Int64}  {Q : Int32 → Int64 → pm_H → Prop} : pm_wc pm_code pm_meta d 88 [.ref 62, .ref 60] (pm_Gb L b, I, J) Q ↔ if (I 60 2) = (I 62 2) then pm_wp pm_code pm_meta d 88 11 ([.ref 62, .ref 60], [], (pm_Gb L b, I, J)) Q else pm_wp pm_code pm_meta d 88 22 ([.ref 62, .ref 60], [], (pm_Gb L b, I, J)) Q := (pm_bk_iff pc_ch_88 5 0 _).trans (pm_brn)
theorem pb_88v1_11 {d L : Nat} {b : Bool} {I : Nat → Nat → Int32} {J : Nat → Nat → Int64}  {Q : Int32 → Int64 → pm_H → Prop} : pm_wp pm_code pm_meta d 88 11 ([.ref 62, .ref 60], [], (pm_Gb L b, I, J)) Q ↔ if (I 60 1) = (I 62 1) then pm_wp pm_code pm_meta d 88 23 ([.ref 62, .ref 60], [], (pm_Gb L b, I, J)) Q else pm_wp pm_code pm_meta d 88 22 ([.ref 62, .ref 60], [], (pm_Gb L b, I, J)) Q := (pm_bk_iff pc_ch_88 5 11 _).trans (pm_brd)
theorem pb_88v1_22 {d L : Nat} {b : Bool} {I : Nat → Nat → Int32} {J : Nat → Nat → Int64}  {Q : Int32 → Int64 → pm_H → Prop} : pm_wp pm_code pm_meta d 88 22 ([.ref 62, .ref 60], [], (pm_Gb L b, I, J)) Q ↔ Q 0 0 (pm_Gb L b, I, J) := (pm_bk_iff pc_ch_88 1 22 _).trans (pm_tt)
theorem pb_88x_62_45 {d L : Nat} {b : Bool} {I : Nat → Nat → Int32} {J : Nat → Nat → Int64} {Q : Int32 → Int64 → pm_H → Prop} : pm_wp pm_code pm_meta d 88 45 ([.ref 62, .ref 60], [], (pm_Gb L b, I, J)) Q ↔ Q 0 0 (pm_Gb L b, pm_u I 62 3 (I 60 3), J) := (pm_bk_iff pc_ch_88 5 45 _).trans (pm_tt)
theorem pb_88x_62_23 {d L : Nat} {b : Bool} {I : Nat → Nat → Int32} {J : Nat → Nat → Int64} {Q : Int32 → Int64 → pm_H → Prop} : pm_wp pm_code pm_meta d 88 23 ([.ref 62, .ref 60], [], (pm_Gb L b, I, J)) Q ↔ (decide ((0 : Int32) ≤ 0) && decide ((0 : Int32) ≤ 0) && decide (0 ≤ (I 60 3 * I 62 1)) && decide ((0 : Int32).toNatClampNeg + (I 60 3 * I 62 1).toNatClampNeg ≤ 7) && decide ((0 : Int32).toNatClampNeg + (I 60 3 * I 62 1).toNatClampNeg ≤ 7)) = true ∧ pm_wp pm_code pm_meta d 88 45 ([.ref 62, .ref 60], [], (pm_Gb L b, (pm_cp I 61 (0 : Int32).toNatClampNeg 63 (0 : Int32).toNatClampNeg (I 60 3 * I 62 1).toNatClampNeg), J)) Q := (pm_bk_iff pc_ch_88 12 23 _).trans (and_congr Iff.rfl Iff.rfl)
theorem pt_copy_62 {d L : Nat} {b : Bool} {I : Nat → Nat → Int32} {J : Nat → Nat → Int64} {Q : Int32 → Int64 → pm_H → Prop} (ht : pm_ti (I 62) 1 7) (hs : pm_ti (I 60) 1 7) : pm_wc pm_code pm_meta d 88 [.ref 62, .ref 60] (pm_Gb L b, I, J) Q ↔ Q 0 0 (pm_Gb L b, pm_u (pm_r I 63 (fun j => if j < 1 * (I 60 3).toNatClampNeg then I 61 j else I 63 j)) 62 3 (I 60 3), J) := by
  obtain ⟨h1, h2, h3, h4⟩ := hs
  have h3' := pi_le.mp h3
  have h4' := pi_le.mp h4
  rw [pi_0] at h3'
  rw [show (7 : Int32).toInt = 7 from rfl] at h4'
  have g3 : (I 60 3 * I 62 1).toInt = (I 60 3).toInt * 1 := by rw [ht.1, pi_mul (by rw [show (1 : Int32).toInt = 1 from rfl]; omega) (by rw [show (1 : Int32).toInt = 1 from rfl]; omega), show (1 : Int32).toInt = 1 from rfl]
  have g4 : (I 60 3 * I 62 1).toNatClampNeg = 1 * (I 60 3).toNatClampNeg := by rw [pi_tn, pi_tn, g3]; omega
  have g5 : 0 ≤ I 60 3 * I 62 1 := by rw [pi_le, pi_0, g3]; omega
  have g6 : (I 60 3).toNatClampNeg ≤ 7 := by rw [pi_tn]; omega
  have z0 : (0 : Int32).toNatClampNeg = 0 := rfl
  rw [pb_88v1_0, if_pos (by rw [h2, ht.2.1]), pb_88v1_11, if_pos (by rw [h1, ht.1]), pb_88x_62_23, pb_88x_62_45]
  have hc : (decide ((0 : Int32) ≤ 0) && decide ((0 : Int32) ≤ 0) && decide (0 ≤ (I 60 3 * I 62 1)) && decide ((0 : Int32).toNatClampNeg + (I 60 3 * I 62 1).toNatClampNeg ≤ 7) && decide ((0 : Int32).toNatClampNeg + (I 60 3 * I 62 1).toNatClampNeg ≤ 7)) = true := by
    have k1 : (0 : Int32).toNatClampNeg + (I 60 3 * I 62 1).toNatClampNeg ≤ 7 := by rw [z0, g4]; omega
    simp only [decide_eq_true (Int32.le_refl 0), decide_eq_true g5, decide_eq_true k1, Bool.and_self]
  have he : (pm_cp I 61 (0 : Int32).toNatClampNeg 63 (0 : Int32).toNatClampNeg (I 60 3 * I 62 1).toNatClampNeg) = pm_r I 63 (fun j => if j < 1 * (I 60 3).toNatClampNeg then I 61 j else I 63 j) := by
    funext c j
    unfold pm_cp
    rw [pm_r_row, z0, g4]
    by_cases k1 : c = 63
    · subst k1
      rw [if_pos rfl]
      by_cases k2 : j < 1 * (I 60 3).toNatClampNeg
      · rw [if_pos ⟨rfl, by omega, by omega⟩, if_pos k2, Nat.zero_add, Nat.sub_zero]
      · rw [if_neg (fun q => k2 (by omega)), if_neg k2]
    · rw [if_neg (fun q => k1 q.1), if_neg k1]
  rw [he, pm_r_row, if_neg (by decide)]
  exact ⟨fun h => h.2, fun h => ⟨hc, h⟩⟩
theorem pb_88_0 {d L : Nat} {b : Bool} {I : Nat → Nat → Int32} {J : Nat → Nat → Int64}  {Q : Int32 → Int64 → pm_H → Prop} : pm_wc pm_code pm_meta d 88 [.ref 51, .ref 49] (pm_Gb L b, I, J) Q ↔ if (I 49 2) = (I 51 2) then pm_wp pm_code pm_meta d 88 11 ([.ref 51, .ref 49], [], (pm_Gb L b, I, J)) Q else pm_wp pm_code pm_meta d 88 22 ([.ref 51, .ref 49], [], (pm_Gb L b, I, J)) Q := (pm_bk_iff pc_ch_88 5 0 _).trans (pm_brn)
theorem pb_88_11 {d L : Nat} {b : Bool} {I : Nat → Nat → Int32} {J : Nat → Nat → Int64}  {Q : Int32 → Int64 → pm_H → Prop} : pm_wp pm_code pm_meta d 88 11 ([.ref 51, .ref 49], [], (pm_Gb L b, I, J)) Q ↔ if (I 49 1) = (I 51 1) then pm_wp pm_code pm_meta d 88 23 ([.ref 51, .ref 49], [], (pm_Gb L b, I, J)) Q else pm_wp pm_code pm_meta d 88 22 ([.ref 51, .ref 49], [], (pm_Gb L b, I, J)) Q := (pm_bk_iff pc_ch_88 5 11 _).trans (pm_brd)
theorem pb_88_22 {d L : Nat} {b : Bool} {I : Nat → Nat → Int32} {J : Nat → Nat → Int64}  {Q : Int32 → Int64 → pm_H → Prop} : pm_wp pm_code pm_meta d 88 22 ([.ref 51, .ref 49], [], (pm_Gb L b, I, J)) Q ↔ Q 0 0 (pm_Gb L b, I, J) := (pm_bk_iff pc_ch_88 1 22 _).trans (pm_tt)
theorem pb_88x_51_45 {d L : Nat} {b : Bool} {I : Nat → Nat → Int32} {J : Nat → Nat → Int64} {Q : Int32 → Int64 → pm_H → Prop} : pm_wp pm_code pm_meta d 88 45 ([.ref 51, .ref 49], [], (pm_Gb L b, I, J)) Q ↔ Q 0 0 (pm_Gb L b, pm_u I 51 3 (I 49 3), J) := (pm_bk_iff pc_ch_88 5 45 _).trans (pm_tt)
theorem pb_88x_51_23 {d L : Nat} {b : Bool} {I : Nat → Nat → Int32} {J : Nat → Nat → Int64} {Q : Int32 → Int64 → pm_H → Prop} : pm_wp pm_code pm_meta d 88 23 ([.ref 51, .ref 49], [], (pm_Gb L b, I, J)) Q ↔ (decide ((0 : Int32) ≤ 0) && decide ((0 : Int32) ≤ 0) && decide (0 ≤ (I 49 3 * I 51 1)) && decide ((0 : Int32).toNatClampNeg + (I 49 3 * I 51 1).toNatClampNeg ≤ 14) && decide ((0 : Int32).toNatClampNeg + (I 49 3 * I 51 1).toNatClampNeg ≤ 14)) = true ∧ pm_wp pm_code pm_meta d 88 45 ([.ref 51, .ref 49], [], (pm_Gb L b, (pm_cp I 50 (0 : Int32).toNatClampNeg 52 (0 : Int32).toNatClampNeg (I 49 3 * I 51 1).toNatClampNeg), J)) Q := (pm_bk_iff pc_ch_88 12 23 _).trans (and_congr Iff.rfl Iff.rfl)
theorem pt_copy_51 {d L : Nat} {b : Bool} {I : Nat → Nat → Int32} {J : Nat → Nat → Int64} {Q : Int32 → Int64 → pm_H → Prop} (ht : pm_ti (I 51) 2 7) (hs : pm_ti (I 49) 2 7) : pm_wc pm_code pm_meta d 88 [.ref 51, .ref 49] (pm_Gb L b, I, J) Q ↔ Q 0 0 (pm_Gb L b, pm_u (pm_r I 52 (fun j => if j < 2 * (I 49 3).toNatClampNeg then I 50 j else I 52 j)) 51 3 (I 49 3), J) := by
  obtain ⟨h1, h2, h3, h4⟩ := hs
  have h3' := pi_le.mp h3
  have h4' := pi_le.mp h4
  rw [pi_0] at h3'
  rw [show (7 : Int32).toInt = 7 from rfl] at h4'
  have g3 : (I 49 3 * I 51 1).toInt = (I 49 3).toInt * 2 := by rw [ht.1, pi_mul (by rw [show (2 : Int32).toInt = 2 from rfl]; omega) (by rw [show (2 : Int32).toInt = 2 from rfl]; omega), show (2 : Int32).toInt = 2 from rfl]
  have g4 : (I 49 3 * I 51 1).toNatClampNeg = 2 * (I 49 3).toNatClampNeg := by rw [pi_tn, pi_tn, g3]; omega
  have g5 : 0 ≤ I 49 3 * I 51 1 := by rw [pi_le, pi_0, g3]; omega
  have g6 : (I 49 3).toNatClampNeg ≤ 7 := by rw [pi_tn]; omega
  have z0 : (0 : Int32).toNatClampNeg = 0 := rfl
  rw [pb_88_0, if_pos (by rw [h2, ht.2.1]), pb_88_11, if_pos (by rw [h1, ht.1]), pb_88x_51_23, pb_88x_51_45]
  have hc : (decide ((0 : Int32) ≤ 0) && decide ((0 : Int32) ≤ 0) && decide (0 ≤ (I 49 3 * I 51 1)) && decide ((0 : Int32).toNatClampNeg + (I 49 3 * I 51 1).toNatClampNeg ≤ 14) && decide ((0 : Int32).toNatClampNeg + (I 49 3 * I 51 1).toNatClampNeg ≤ 14)) = true := by
    have k1 : (0 : Int32).toNatClampNeg + (I 49 3 * I 51 1).toNatClampNeg ≤ 14 := by rw [z0, g4]; omega
    simp only [decide_eq_true (Int32.le_refl 0), decide_eq_true g5, decide_eq_true k1, Bool.and_self]
  have he : (pm_cp I 50 (0 : Int32).toNatClampNeg 52 (0 : Int32).toNatClampNeg (I 49 3 * I 51 1).toNatClampNeg) = pm_r I 52 (fun j => if j < 2 * (I 49 3).toNatClampNeg then I 50 j else I 52 j) := by
    funext c j
    unfold pm_cp
    rw [pm_r_row, z0, g4]
    by_cases k1 : c = 52
    · subst k1
      rw [if_pos rfl]
      by_cases k2 : j < 2 * (I 49 3).toNatClampNeg
      · rw [if_pos ⟨rfl, by omega, by omega⟩, if_pos k2, Nat.zero_add, Nat.sub_zero]
      · rw [if_neg (fun q => k2 (by omega)), if_neg k2]
    · rw [if_neg (fun q => k1 q.1), if_neg k1]
  rw [he, pm_r_row, if_neg (by decide)]
  exact ⟨fun h => h.2, fun h => ⟨hc, h⟩⟩
theorem pb_88v2_0 {d L : Nat} {b : Bool} {I : Nat → Nat → Int32} {J : Nat → Nat → Int64}  {Q : Int32 → Int64 → pm_H → Prop} : pm_wc pm_code pm_meta d 88 [.ref 55, .ref 53] (pm_Gb L b, I, J) Q ↔ if (I 53 2) = (I 55 2) then pm_wp pm_code pm_meta d 88 11 ([.ref 55, .ref 53], [], (pm_Gb L b, I, J)) Q else pm_wp pm_code pm_meta d 88 22 ([.ref 55, .ref 53], [], (pm_Gb L b, I, J)) Q := (pm_bk_iff pc_ch_88 5 0 _).trans (pm_brn)
theorem pb_88v2_11 {d L : Nat} {b : Bool} {I : Nat → Nat → Int32} {J : Nat → Nat → Int64}  {Q : Int32 → Int64 → pm_H → Prop} : pm_wp pm_code pm_meta d 88 11 ([.ref 55, .ref 53], [], (pm_Gb L b, I, J)) Q ↔ if (I 53 1) = (I 55 1) then pm_wp pm_code pm_meta d 88 23 ([.ref 55, .ref 53], [], (pm_Gb L b, I, J)) Q else pm_wp pm_code pm_meta d 88 22 ([.ref 55, .ref 53], [], (pm_Gb L b, I, J)) Q := (pm_bk_iff pc_ch_88 5 11 _).trans (pm_brd)
theorem pb_88v2_22 {d L : Nat} {b : Bool} {I : Nat → Nat → Int32} {J : Nat → Nat → Int64}  {Q : Int32 → Int64 → pm_H → Prop} : pm_wp pm_code pm_meta d 88 22 ([.ref 55, .ref 53], [], (pm_Gb L b, I, J)) Q ↔ Q 0 0 (pm_Gb L b, I, J) := (pm_bk_iff pc_ch_88 1 22 _).trans (pm_tt)
theorem pb_88x_55_45 {d L : Nat} {b : Bool} {I : Nat → Nat → Int32} {J : Nat → Nat → Int64} {Q : Int32 → Int64 → pm_H → Prop} : pm_wp pm_code pm_meta d 88 45 ([.ref 55, .ref 53], [], (pm_Gb L b, I, J)) Q ↔ Q 0 0 (pm_Gb L b, pm_u I 55 3 (I 53 3), J) := (pm_bk_iff pc_ch_88 5 45 _).trans (pm_tt)
theorem pb_88x_55_23 {d L : Nat} {b : Bool} {I : Nat → Nat → Int32} {J : Nat → Nat → Int64} {Q : Int32 → Int64 → pm_H → Prop} : pm_wp pm_code pm_meta d 88 23 ([.ref 55, .ref 53], [], (pm_Gb L b, I, J)) Q ↔ (decide ((0 : Int32) ≤ 0) && decide ((0 : Int32) ≤ 0) && decide (0 ≤ (I 53 3 * I 55 1)) && decide ((0 : Int32).toNatClampNeg + (I 53 3 * I 55 1).toNatClampNeg ≤ 7) && decide ((0 : Int32).toNatClampNeg + (I 53 3 * I 55 1).toNatClampNeg ≤ 7)) = true ∧ pm_wp pm_code pm_meta d 88 45 ([.ref 55, .ref 53], [], (pm_Gb L b, (pm_cp I 54 (0 : Int32).toNatClampNeg 56 (0 : Int32).toNatClampNeg (I 53 3 * I 55 1).toNatClampNeg), J)) Q := (pm_bk_iff pc_ch_88 12 23 _).trans (and_congr Iff.rfl Iff.rfl)
theorem pt_copy_55 {d L : Nat} {b : Bool} {I : Nat → Nat → Int32} {J : Nat → Nat → Int64} {Q : Int32 → Int64 → pm_H → Prop} (ht : pm_ti (I 55) 1 7) (hs : pm_ti (I 53) 1 7) : pm_wc pm_code pm_meta d 88 [.ref 55, .ref 53] (pm_Gb L b, I, J) Q ↔ Q 0 0 (pm_Gb L b, pm_u (pm_r I 56 (fun j => if j < 1 * (I 53 3).toNatClampNeg then I 54 j else I 56 j)) 55 3 (I 53 3), J) := by
  obtain ⟨h1, h2, h3, h4⟩ := hs
  have h3' := pi_le.mp h3
  have h4' := pi_le.mp h4
  rw [pi_0] at h3'
  rw [show (7 : Int32).toInt = 7 from rfl] at h4'
  have g3 : (I 53 3 * I 55 1).toInt = (I 53 3).toInt * 1 := by rw [ht.1, pi_mul (by rw [show (1 : Int32).toInt = 1 from rfl]; omega) (by rw [show (1 : Int32).toInt = 1 from rfl]; omega), show (1 : Int32).toInt = 1 from rfl]
  have g4 : (I 53 3 * I 55 1).toNatClampNeg = 1 * (I 53 3).toNatClampNeg := by rw [pi_tn, pi_tn, g3]; omega
  have g5 : 0 ≤ I 53 3 * I 55 1 := by rw [pi_le, pi_0, g3]; omega
  have g6 : (I 53 3).toNatClampNeg ≤ 7 := by rw [pi_tn]; omega
  have z0 : (0 : Int32).toNatClampNeg = 0 := rfl
  rw [pb_88v2_0, if_pos (by rw [h2, ht.2.1]), pb_88v2_11, if_pos (by rw [h1, ht.1]), pb_88x_55_23, pb_88x_55_45]
  have hc : (decide ((0 : Int32) ≤ 0) && decide ((0 : Int32) ≤ 0) && decide (0 ≤ (I 53 3 * I 55 1)) && decide ((0 : Int32).toNatClampNeg + (I 53 3 * I 55 1).toNatClampNeg ≤ 7) && decide ((0 : Int32).toNatClampNeg + (I 53 3 * I 55 1).toNatClampNeg ≤ 7)) = true := by
    have k1 : (0 : Int32).toNatClampNeg + (I 53 3 * I 55 1).toNatClampNeg ≤ 7 := by rw [z0, g4]; omega
    simp only [decide_eq_true (Int32.le_refl 0), decide_eq_true g5, decide_eq_true k1, Bool.and_self]
  have he : (pm_cp I 54 (0 : Int32).toNatClampNeg 56 (0 : Int32).toNatClampNeg (I 53 3 * I 55 1).toNatClampNeg) = pm_r I 56 (fun j => if j < 1 * (I 53 3).toNatClampNeg then I 54 j else I 56 j) := by
    funext c j
    unfold pm_cp
    rw [pm_r_row, z0, g4]
    by_cases k1 : c = 56
    · subst k1
      rw [if_pos rfl]
      by_cases k2 : j < 1 * (I 53 3).toNatClampNeg
      · rw [if_pos ⟨rfl, by omega, by omega⟩, if_pos k2, Nat.zero_add, Nat.sub_zero]
      · rw [if_neg (fun q => k2 (by omega)), if_neg k2]
    · rw [if_neg (fun q => k1 q.1), if_neg k1]
  rw [he, pm_r_row, if_neg (by decide)]
  exact ⟨fun h => h.2, fun h => ⟨hc, h⟩⟩

