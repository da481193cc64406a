/-! THE CALL deal: the bodies of the class, one by one. -/
def pm_hb (X : Nat → Int32) (b : Bool) (I0 : Nat → Nat → Int32) (J : Nat → Nat → Int64) (N K A H : Int32) : Prop := pm_inv X b I0 J ∧ 0 ≤ N ∧ N < I0 80 4 ∧ I0 99 N.toNatClampNeg = K ∧ I0 102 N.toNatClampNeg = A ∧ I0 100 N.toNatClampNeg = H
theorem lev_n {l : Int32} (l0 : 0 ≤ l.toInt) (l1 : l.toInt ≤ 8) : (l + 1).toInt = l.toInt + 1 := by
  rw [pi_add (by rw [pi_1]; omega) (by rw [pi_1]; omega), pi_1]
theorem k_cases {K : Int32} (h0 : 0 ≤ K) (h7 : K ≤ 7) : K = 0 ∨ K = 1 ∨ K = 2 ∨ K = 3 ∨ K = 4 ∨ K = 5 ∨ K = 6 ∨ K = 7 := by
  have a := pi_le.mp h0
  have c := pi_le.mp h7
  have e7 : (7 : Int32).toInt = 7 := rfl
  rw [pi_0] at a
  have key : ∀ n : Int32, K.toInt = n.toInt → K = n := fun n h => Int32.toInt_inj.mp h
  rcases (show K.toInt = 0 ∨ K.toInt = 1 ∨ K.toInt = 2 ∨ K.toInt = 3 ∨ K.toInt = 4 ∨ K.toInt = 5 ∨ K.toInt = 6 ∨ K.toInt = 7 by omega) with q | q | q | q | q | q | q | q
  · exact Or.inl (key 0 q)
  · exact Or.inr (Or.inl (key 1 q))
  · exact Or.inr (Or.inr (Or.inl (key 2 q)))
  · exact Or.inr (Or.inr (Or.inr (Or.inl (key 3 q))))
  · exact Or.inr (Or.inr (Or.inr (Or.inr (Or.inl (key 4 q)))))
  · exact Or.inr (Or.inr (Or.inr (Or.inr (Or.inr (Or.inl (key 5 q))))))
  · exact Or.inr (Or.inr (Or.inr (Or.inr (Or.inr (Or.inr (Or.inl (key 6 q)))))))
  · exact Or.inr (Or.inr (Or.inr (Or.inr (Or.inr (Or.inr (Or.inr (key 7 q)))))))
section
variable {d L : Nat} {b : Bool} {J : Nat → Nat → Int64} {X : Nat → Int32} {I0 : Nat → Nat → Int32} {K N A H : Int32}
theorem hb_k (hb : pm_hb X b I0 J N K A H) : 0 ≤ K ∧ K ≤ 7 := by
  obtain ⟨hI, N0, N1, hK, _⟩ := hb
  have g := (hI.1.2.2.2.2.2.1.2 _ (pi_tnlt N0 N1)).2.2
  rw [hK] at g
  exact ⟨g.1, g.2.1⟩
theorem px_b10 {x l z : Int32} {T : List Int32} {I : Nat → Nat → Int32} {Q : Int32 → Int64 → pm_H → Prop} (hb : pm_hb X b I0 J N K A H) (hT : pm_tx I0 N A H I T z) (l0 : 0 ≤ l.toInt) (l1 : l.toInt ≤ 8) (hl : T.length ≤ 28) (hQ : ∀ I', pm_tx I0 N A H I' (10 :: T) z → Q (x + A) 0 (pm_Gb L b, I', J)) : pm_wc pm_code pm_meta (d + 1) 23 [.ref 70, .int 10, .int x, .int l] (pm_Gb L b, I, J) Q := by
  obtain ⟨hI, N0, N1, hK, hA, hH⟩ := hb
  have hb : pm_hb X b I0 J N K A H := ⟨hI, N0, N1, hK, hA, hH⟩
  have ln := lev_n l0 (by omega : l.toInt ≤ 8)
  refine px_bhead (d := d + 0) hI N0 N1 hA hH hT l0 (by omega) (by omega) (fun I1 hT1 => ?_)
  rw [pb_23_63]
  simp only [if_false, if_true]
  rw [pb_23_188]
  exact hQ I1 hT1
theorem px_b30 {x l z : Int32} {T : List Int32} {I : Nat → Nat → Int32} {Q : Int32 → Int64 → pm_H → Prop} (hb : pm_hb X b I0 J N K A H) (hT : pm_tx I0 N A H I T z) (l0 : 0 ≤ l.toInt) (l1 : l.toInt ≤ 7) (hl : T.length ≤ 27) (hQ : ∀ I', pm_tx I0 N A H I' (10 :: 30 :: T) z → Q ((x + A) * 2) 0 (pm_Gb L b, I', J)) : pm_wc pm_code pm_meta (d + 2) 23 [.ref 70, .int 30, .int x, .int l] (pm_Gb L b, I, J) Q := by
  obtain ⟨hI, N0, N1, hK, hA, hH⟩ := hb
  have hb : pm_hb X b I0 J N K A H := ⟨hI, N0, N1, hK, hA, hH⟩
  have ln := lev_n l0 (by omega : l.toInt ≤ 8)
  refine px_bhead (d := d + 1) hI N0 N1 hA hH hT l0 (by omega) (by omega) (fun I1 hT1 => ?_)
  rw [pb_23_63]
  simp only [(by decide : ¬ (30 : Int32) = 10), (by decide : ¬ (30 : Int32) = 11), (by decide : ¬ (30 : Int32) = 12), (by decide : ¬ (30 : Int32) = 13), (by decide : ¬ (30 : Int32) = 20), if_false, if_true]
  rw [pb_23_250]
  refine px_b10 (d := d) hb hT1 (by rw [ln]; omega) (by rw [ln]; omega) (by simp only [List.length_cons]; omega) (fun I2 hT2 => ?_)
  rw [pb_23_259]
  exact hQ I2 hT2
theorem px_b50 {x l z : Int32} {T : List Int32} {I : Nat → Nat → Int32} {Q : Int32 → Int64 → pm_H → Prop} (hb : pm_hb X b I0 J N K A H) (hT : pm_tx I0 N A H I T z) (l0 : 0 ≤ l.toInt) (l1 : l.toInt ≤ 7) (hl : T.length ≤ 27) (hQ : ∀ I', pm_tx I0 N A H I' (10 :: 50 :: T) z → Q (x + A - 7) 0 (pm_Gb L b, I', J)) : pm_wc pm_code pm_meta (d + 2) 23 [.ref 70, .int 50, .int x, .int l] (pm_Gb L b, I, J) Q := by
  obtain ⟨hI, N0, N1, hK, hA, hH⟩ := hb
  have hb : pm_hb X b I0 J N K A H := ⟨hI, N0, N1, hK, hA, hH⟩
  have ln := lev_n l0 (by omega : l.toInt ≤ 8)
  refine px_bhead (d := d + 1) hI N0 N1 hA hH hT l0 (by omega) (by omega) (fun I1 hT1 => ?_)
  rw [pb_23_63]
  simp only [(by decide : ¬ (50 : Int32) = 10), (by decide : ¬ (50 : Int32) = 11), (by decide : ¬ (50 : Int32) = 12), (by decide : ¬ (50 : Int32) = 13), (by decide : ¬ (50 : Int32) = 20), (by decide : ¬ (50 : Int32) = 30), (by decide : ¬ (50 : Int32) = 31), (by decide : ¬ (50 : Int32) = 40), if_false, if_true]
  rw [pb_23_300]
  refine px_b10 (d := d) hb hT1 (by rw [ln]; omega) (by rw [ln]; omega) (by simp only [List.length_cons]; omega) (fun I2 hT2 => ?_)
  rw [pb_23_309]
  exact hQ I2 hT2
theorem px_b70 {x l z : Int32} {T : List Int32} {I : Nat → Nat → Int32} {Q : Int32 → Int64 → pm_H → Prop} (hb : pm_hb X b I0 J N K A H) (hT : pm_tx I0 N A H I T z) (l0 : 0 ≤ l.toInt) (l1 : l.toInt ≤ 7) (hl : T.length ≤ 27) (hQ : ∀ I', pm_tx I0 N A H I' (10 :: 70 :: T) z → Q (x + A + N) 0 (pm_Gb L b, I', J)) : pm_wc pm_code pm_meta (d + 2) 23 [.ref 70, .int 70, .int x, .int l] (pm_Gb L b, I, J) Q := by
  obtain ⟨hI, N0, N1, hK, hA, hH⟩ := hb
  have hb : pm_hb X b I0 J N K A H := ⟨hI, N0, N1, hK, hA, hH⟩
  have ln := lev_n l0 (by omega : l.toInt ≤ 8)
  refine px_bhead (d := d + 1) hI N0 N1 hA hH hT l0 (by omega) (by omega) (fun I1 hT1 => ?_)
  rw [pb_23_63]
  simp only [(by decide : ¬ (70 : Int32) = 10), (by decide : ¬ (70 : Int32) = 11), (by decide : ¬ (70 : Int32) = 12), (by decide : ¬ (70 : Int32) = 13), (by decide : ¬ (70 : Int32) = 20), (by decide : ¬ (70 : Int32) = 30), (by decide : ¬ (70 : Int32) = 31), (by decide : ¬ (70 : Int32) = 40), (by decide : ¬ (70 : Int32) = 50), (by decide : ¬ (70 : Int32) = 60), (by decide : ¬ (70 : Int32) = 61), if_false, if_true]
  rw [pb_23_348]
  refine px_b10 (d := d) hb hT1 (by rw [ln]; omega) (by rw [ln]; omega) (by simp only [List.length_cons]; omega) (fun I2 hT2 => ?_)
  rw [pb_23_357, hT2.2.1]
  exact hQ I2 hT2
theorem px_bears {x l z : Int32} {T : List Int32} {I : Nat → Nat → Int32} {Q : Int32 → Int64 → pm_H → Prop} (hb : pm_hb X b I0 J N K A H) (hT : pm_tx I0 N A H I T z) (l0 : 0 ≤ l.toInt) (l1 : l.toInt ≤ 7) (hl : T.length ≤ 27) (hQ : ∀ I', pm_tx I0 N A H I' (pf_lB K T) z → Q (pf_vB K A N x) 0 (pm_Gb L b, I', J)) : pm_wc pm_code pm_meta (d + 2) 23 [.ref 70, .int (pm_a4.getD (8 * (0 : Int32).toNatClampNeg + K.toNatClampNeg) 0), .int x, .int l] (pm_Gb L b, I, J) Q := by
  obtain ⟨hI, N0, N1, hK, hA, hH⟩ := hb
  have hb : pm_hb X b I0 J N K A H := ⟨hI, N0, N1, hK, hA, hH⟩
  have ln := lev_n l0 (by omega : l.toInt ≤ 8)
  rcases k_cases (hb_k hb).1 (hb_k hb).2 with q | q | q | q | q | q | q | q <;> subst q
  · exact px_b10 (d := d + 1) hb hT l0 (by omega) (by omega) hQ
  · exact px_b10 (d := d + 1) hb hT l0 (by omega) (by omega) hQ
  · exact px_b30 (d := d + 0) hb hT l0 (by omega) (by omega) hQ
  · exact px_b10 (d := d + 1) hb hT l0 (by omega) (by omega) hQ
  · exact px_b50 (d := d + 0) hb hT l0 (by omega) (by omega) hQ
  · exact px_b10 (d := d + 1) hb hT l0 (by omega) (by omega) hQ
  · exact px_b70 (d := d + 0) hb hT l0 (by omega) (by omega) hQ
  · exact px_b10 (d := d + 1) hb hT l0 (by omega) (by omega) hQ
theorem px_b11 {x l z : Int32} {T : List Int32} {I : Nat → Nat → Int32} {Q : Int32 → Int64 → pm_H → Prop} (hb : pm_hb X b I0 J N K A H) (hT : pm_tx I0 N A H I T z) (l0 : 0 ≤ l.toInt) (l1 : l.toInt ≤ 6) (hl : T.length ≤ 26) (hQ : ∀ I', pm_tx I0 N A H I' (pf_lB K (11 :: T)) z → Q (pf_v1 K A N x) 0 (pm_Gb L b, I', J)) : pm_wc pm_code pm_meta (d + 3) 23 [.ref 70, .int 11, .int x, .int l] (pm_Gb L b, I, J) Q := by
  obtain ⟨hI, N0, N1, hK, hA, hH⟩ := hb
  have hb : pm_hb X b I0 J N K A H := ⟨hI, N0, N1, hK, hA, hH⟩
  have ln := lev_n l0 (by omega : l.toInt ≤ 8)
  refine px_bhead (d := d + 2) hI N0 N1 hA hH hT l0 (by omega) (by omega) (fun I1 hT1 => ?_)
  rw [pb_23_63]
  simp only [(by decide : ¬ (11 : Int32) = 10), if_false, if_true]
  rw [pb_23_193, px_bodyOf (d := d + 1) (D := 0) hI N0 N1 hK hT1.1 hT1.2.1 (by decide) (by decide), pb_23_199]
  refine px_bears (d := d) hb hT1 (by rw [ln]; omega) (by rw [ln]; omega) (by simp only [List.length_cons]; omega) (fun I2 hT2 => ?_)
  rw [pb_23_205]
  exact hQ I2 hT2
theorem px_b20 {x l z : Int32} {T : List Int32} {I : Nat → Nat → Int32} {Q : Int32 → Int64 → pm_H → Prop} (hb : pm_hb X b I0 J N K A H) (hT : pm_tx I0 N A H I T z) (l0 : 0 ≤ l.toInt) (l1 : l.toInt ≤ 5) (hl : T.length ≤ 25) (hQ : ∀ I', pm_tx I0 N A H I' (pf_lB K (11 :: 20 :: T)) z → Q (pf_v1 K A N x ^^^ N) 0 (pm_Gb L b, I', J)) : pm_wc pm_code pm_meta (d + 4) 23 [.ref 70, .int 20, .int x, .int l] (pm_Gb L b, I, J) Q := by
  obtain ⟨hI, N0, N1, hK, hA, hH⟩ := hb
  have hb : pm_hb X b I0 J N K A H := ⟨hI, N0, N1, hK, hA, hH⟩
  have ln := lev_n l0 (by omega : l.toInt ≤ 8)
  refine px_bhead (d := d + 3) hI N0 N1 hA hH hT l0 (by omega) (by omega) (fun I1 hT1 => ?_)
  rw [pb_23_63]
  simp only [(by decide : ¬ (20 : Int32) = 10), (by decide : ¬ (20 : Int32) = 11), (by decide : ¬ (20 : Int32) = 12), (by decide : ¬ (20 : Int32) = 13), if_false, if_true]
  rw [pb_23_235]
  refine px_b11 (d := d) hb hT1 (by rw [ln]; omega) (by rw [ln]; omega) (by simp only [List.length_cons]; omega) (fun I2 hT2 => ?_)
  rw [pb_23_244, hT2.2.1]
  exact hQ I2 hT2
theorem px_b80 {x l z : Int32} {T : List Int32} {I : Nat → Nat → Int32} {Q : Int32 → Int64 → pm_H → Prop} (hb : pm_hb X b I0 J N K A H) (hT : pm_tx I0 N A H I T z) (l0 : 0 ≤ l.toInt) (l1 : l.toInt ≤ 5) (hl : T.length ≤ 25) (hQ : ∀ I', pm_tx I0 N A H I' (pf_lB K (11 :: 80 :: T)) z → Q (0 - pf_v1 K A N x) 0 (pm_Gb L b, I', J)) : pm_wc pm_code pm_meta (d + 4) 23 [.ref 70, .int 80, .int x, .int l] (pm_Gb L b, I, J) Q := by
  obtain ⟨hI, N0, N1, hK, hA, hH⟩ := hb
  have hb : pm_hb X b I0 J N K A H := ⟨hI, N0, N1, hK, hA, hH⟩
  have ln := lev_n l0 (by omega : l.toInt ≤ 8)
  refine px_bhead (d := d + 3) hI N0 N1 hA hH hT l0 (by omega) (by omega) (fun I1 hT1 => ?_)
  rw [pb_23_63]
  simp only [(by decide : ¬ (80 : Int32) = 10), (by decide : ¬ (80 : Int32) = 11), (by decide : ¬ (80 : Int32) = 12), (by decide : ¬ (80 : Int32) = 13), (by decide : ¬ (80 : Int32) = 20), (by decide : ¬ (80 : Int32) = 30), (by decide : ¬ (80 : Int32) = 31), (by decide : ¬ (80 : Int32) = 40), (by decide : ¬ (80 : Int32) = 50), (by decide : ¬ (80 : Int32) = 60), (by decide : ¬ (80 : Int32) = 61), (by decide : ¬ (80 : Int32) = 70), (by decide : ¬ (80 : Int32) = 71), if_false, if_true]
  rw [pb_23_386]
  refine px_b11 (d := d) hb hT1 (by rw [ln]; omega) (by rw [ln]; omega) (by simp only [List.length_cons]; omega) (fun I2 hT2 => ?_)
  rw [pb_23_396]
  exact hQ I2 hT2
theorem px_follows {x l z : Int32} {T : List Int32} {I : Nat → Nat → Int32} {Q : Int32 → Int64 → pm_H → Prop} (hb : pm_hb X b I0 J N K A H) (hT : pm_tx I0 N A H I T z) (l0 : 0 ≤ l.toInt) (l1 : l.toInt ≤ 5) (hl : T.length ≤ 25) (hQ : ∀ I', pm_tx I0 N A H I' (pf_lF K T) z → Q (pf_vF K A N x) 0 (pm_Gb L b, I', J)) : pm_wc pm_code pm_meta (d + 4) 23 [.ref 70, .int (pm_a4.getD (8 * (1 : Int32).toNatClampNeg + K.toNatClampNeg) 0), .int x, .int l] (pm_Gb L b, I, J) Q := by
  obtain ⟨hI, N0, N1, hK, hA, hH⟩ := hb
  have hb : pm_hb X b I0 J N K A H := ⟨hI, N0, N1, hK, hA, hH⟩
  have ln := lev_n l0 (by omega : l.toInt ≤ 8)
  rcases k_cases (hb_k hb).1 (hb_k hb).2 with q | q | q | q | q | q | q | q <;> subst q
  · exact px_b11 (d := d + 1) hb hT l0 (by omega) (by omega) hQ
  · exact px_b20 (d := d + 0) hb hT l0 (by omega) (by omega) hQ
  · exact px_b20 (d := d + 0) hb hT l0 (by omega) (by omega) hQ
  · exact px_b11 (d := d + 1) hb hT l0 (by omega) (by omega) hQ
  · exact px_b11 (d := d + 1) hb hT l0 (by omega) (by omega) hQ
  · exact px_b11 (d := d + 1) hb hT l0 (by omega) (by omega) hQ
  · exact px_b11 (d := d + 1) hb hT l0 (by omega) (by omega) hQ
  · exact px_b80 (d := d + 0) hb hT l0 (by omega) (by omega) hQ
theorem px_b12 {x l z : Int32} {T : List Int32} {I : Nat → Nat → Int32} {Q : Int32 → Int64 → pm_H → Prop} (hb : pm_hb X b I0 J N K A H) (hT : pm_tx I0 N A H I T z) (l0 : 0 ≤ l.toInt) (l1 : l.toInt ≤ 4) (hl : T.length ≤ 24) (hQ : ∀ I', pm_tx I0 N A H I' (pf_l2 K T) z → Q (pf_v2 K A H N x) 0 (pm_Gb L b, I', J)) : pm_wc pm_code pm_meta (d + 5) 23 [.ref 70, .int 12, .int x, .int l] (pm_Gb L b, I, J) Q := by
  obtain ⟨hI, N0, N1, hK, hA, hH⟩ := hb
  have hb : pm_hb X b I0 J N K A H := ⟨hI, N0, N1, hK, hA, hH⟩
  have ln := lev_n l0 (by omega : l.toInt ≤ 8)
  refine px_bhead (d := d + 4) hI N0 N1 hA hH hT l0 (by omega) (by omega) (fun I1 hT1 => ?_)
  rw [pb_23_63]
  simp only [(by decide : ¬ (12 : Int32) = 10), (by decide : ¬ (12 : Int32) = 11), if_false, if_true]
  rw [pb_23_208, px_bodyOf (d := d + 3) (D := 1) hI N0 N1 hK hT1.1 hT1.2.1 (by decide) (by decide), pb_23_214]
  refine px_follows (d := d) hb hT1 (by rw [ln]; omega) (by rw [ln]; omega) (by simp only [List.length_cons]; omega) (fun I2 hT2 => ?_)
  rw [pb_23_220]
  exact hQ I2 hT2
theorem px_b40 {x l z : Int32} {T : List Int32} {I : Nat → Nat → Int32} {Q : Int32 → Int64 → pm_H → Prop} (hb : pm_hb X b I0 J N K A H) (hT : pm_tx I0 N A H I T z) (l0 : 0 ≤ l.toInt) (l1 : l.toInt ≤ 3) (hl : T.length ≤ 20) (hQ : ∀ I', pm_tx I0 N A H I' (pf_lB K (pf_l2 K (40 :: T))) z → Q (pf_v2 K A H N x + pf_vB K A N 1) 0 (pm_Gb L b, I', J)) : pm_wc pm_code pm_meta (d + 6) 23 [.ref 70, .int 40, .int x, .int l] (pm_Gb L b, I, J) Q := by
  obtain ⟨hI, N0, N1, hK, hA, hH⟩ := hb
  have hb : pm_hb X b I0 J N K A H := ⟨hI, N0, N1, hK, hA, hH⟩
  have ln := lev_n l0 (by omega : l.toInt ≤ 8)
  refine px_bhead (d := d + 5) hI N0 N1 hA hH hT l0 (by omega) (by omega) (fun I1 hT1 => ?_)
  rw [pb_23_63]
  simp only [(by decide : ¬ (40 : Int32) = 10), (by decide : ¬ (40 : Int32) = 11), (by decide : ¬ (40 : Int32) = 12), (by decide : ¬ (40 : Int32) = 13), (by decide : ¬ (40 : Int32) = 20), (by decide : ¬ (40 : Int32) = 30), (by decide : ¬ (40 : Int32) = 31), if_false, if_true]
  rw [pb_23_277]
  refine px_b12 (d := d + 0) hb hT1 (by rw [ln]; omega) (by rw [ln]; omega) (by simp only [List.length_cons]; omega) (fun I2 hT2 => ?_)
  rw [pb_23_286, px_bodyOf (d := d + 4) (D := 0) hI N0 N1 hK hT2.1 hT2.2.1 (by decide) (by decide), pb_23_292]
  refine px_bears (d := d + 3) hb hT2 (by rw [ln]; omega) (by rw [ln]; omega) (by have := l2_len K (40 :: T); simp only [List.length_cons] at this; omega) (fun I3 hT3 => ?_)
  rw [pb_23_298]
  exact hQ I3 hT3
theorem px_b60 {x l z : Int32} {T : List Int32} {I : Nat → Nat → Int32} {Q : Int32 → Int64 → pm_H → Prop} (hb : pm_hb X b I0 J N K A H) (hT : pm_tx I0 N A H I T z) (l0 : 0 ≤ l.toInt) (l1 : l.toInt ≤ 3) (hl : T.length ≤ 18) (hQ : ∀ I', pm_tx I0 N A H I' (pf_l6 K T) z → Q (pf_v6 K A H N x) 0 (pm_Gb L b, I', J)) : pm_wc pm_code pm_meta (d + 6) 23 [.ref 70, .int 60, .int x, .int l] (pm_Gb L b, I, J) Q := by
  obtain ⟨hI, N0, N1, hK, hA, hH⟩ := hb
  have hb : pm_hb X b I0 J N K A H := ⟨hI, N0, N1, hK, hA, hH⟩
  have ln := lev_n l0 (by omega : l.toInt ≤ 8)
  refine px_bhead (d := d + 5) hI N0 N1 hA hH hT l0 (by omega) (by omega) (fun I1 hT1 => ?_)
  rw [pb_23_63]
  simp only [(by decide : ¬ (60 : Int32) = 10), (by decide : ¬ (60 : Int32) = 11), (by decide : ¬ (60 : Int32) = 12), (by decide : ¬ (60 : Int32) = 13), (by decide : ¬ (60 : Int32) = 20), (by decide : ¬ (60 : Int32) = 30), (by decide : ¬ (60 : Int32) = 31), (by decide : ¬ (60 : Int32) = 40), (by decide : ¬ (60 : Int32) = 50), if_false, if_true]
  rw [pb_23_313]
  refine px_b12 (d := d + 0) hb hT1 (by rw [ln]; omega) (by rw [ln]; omega) (by simp only [List.length_cons]; omega) (fun I2 hT2 => ?_)
  rw [pb_23_322, px_bodyOf (d := d + 4) (D := 1) hI N0 N1 hK hT2.1 hT2.2.1 (by decide) (by decide), pb_23_328]
  refine px_follows (d := d + 1) hb hT2 (by rw [ln]; omega) (by rw [ln]; omega) (by have := l2_len K (60 :: T); simp only [List.length_cons] at this; omega) (fun I3 hT3 => ?_)
  rw [pb_23_334]
  exact hQ I3 hT3
theorem px_b71 {x l z : Int32} {T : List Int32} {I : Nat → Nat → Int32} {Q : Int32 → Int64 → pm_H → Prop} (hb : pm_hb X b I0 J N K A H) (hT : pm_tx I0 N A H I T z) (l0 : 0 ≤ l.toInt) (l1 : l.toInt ≤ 2) (hl : T.length ≤ 15) (hQ : ∀ I', pm_tx I0 N A H I' (pf_lB K (pf_l6 K (71 :: T))) z → Q (pf_v6 K A H N x ^^^ pf_vB K A N 0) 0 (pm_Gb L b, I', J)) : pm_wc pm_code pm_meta (d + 7) 23 [.ref 70, .int 71, .int x, .int l] (pm_Gb L b, I, J) Q := by
  obtain ⟨hI, N0, N1, hK, hA, hH⟩ := hb
  have hb : pm_hb X b I0 J N K A H := ⟨hI, N0, N1, hK, hA, hH⟩
  have ln := lev_n l0 (by omega : l.toInt ≤ 8)
  refine px_bhead (d := d + 6) hI N0 N1 hA hH hT l0 (by omega) (by omega) (fun I1 hT1 => ?_)
  rw [pb_23_63]
  simp only [(by decide : ¬ (71 : Int32) = 10), (by decide : ¬ (71 : Int32) = 11), (by decide : ¬ (71 : Int32) = 12), (by decide : ¬ (71 : Int32) = 13), (by decide : ¬ (71 : Int32) = 20), (by decide : ¬ (71 : Int32) = 30), (by decide : ¬ (71 : Int32) = 31), (by decide : ¬ (71 : Int32) = 40), (by decide : ¬ (71 : Int32) = 50), (by decide : ¬ (71 : Int32) = 60), (by decide : ¬ (71 : Int32) = 61), (by decide : ¬ (71 : Int32) = 70), if_false, if_true]
  rw [pb_23_363]
  refine px_b60 (d := d + 0) hb hT1 (by rw [ln]; omega) (by rw [ln]; omega) (by simp only [List.length_cons]; omega) (fun I2 hT2 => ?_)
  rw [pb_23_372, px_bodyOf (d := d + 5) (D := 0) hI N0 N1 hK hT2.1 hT2.2.1 (by decide) (by decide), pb_23_378]
  refine px_bears (d := d + 4) hb hT2 (by rw [ln]; omega) (by rw [ln]; omega) (by have := l6_len K (71 :: T); simp only [List.length_cons] at this; omega) (fun I3 hT3 => ?_)
  rw [pb_23_384]
  exact hQ I3 hT3
theorem px_ranked {x l z : Int32} {T : List Int32} {I : Nat → Nat → Int32} {Q : Int32 → Int64 → pm_H → Prop} (hb : pm_hb X b I0 J N K A H) (hT : pm_tx I0 N A H I T z) (l0 : 0 ≤ l.toInt) (l1 : l.toInt ≤ 2) (hl : T.length ≤ 15) (hQ : ∀ I', pm_tx I0 N A H I' (pf_lR K T) z → Q (pf_vR K A H N x) 0 (pm_Gb L b, I', J)) : pm_wc pm_code pm_meta (d + 7) 23 [.ref 70, .int (pm_a4.getD (8 * (2 : Int32).toNatClampNeg + K.toNatClampNeg) 0), .int x, .int l] (pm_Gb L b, I, J) Q := by
  obtain ⟨hI, N0, N1, hK, hA, hH⟩ := hb
  have hb : pm_hb X b I0 J N K A H := ⟨hI, N0, N1, hK, hA, hH⟩
  have ln := lev_n l0 (by omega : l.toInt ≤ 8)
  rcases k_cases (hb_k hb).1 (hb_k hb).2 with q | q | q | q | q | q | q | q <;> subst q
  · exact px_b12 (d := d + 2) hb hT l0 (by omega) (by omega) hQ
  · exact px_b12 (d := d + 2) hb hT l0 (by omega) (by omega) hQ
  · exact px_b12 (d := d + 2) hb hT l0 (by omega) (by omega) hQ
  · exact px_b40 (d := d + 1) hb hT l0 (by omega) (by omega) hQ
  · exact px_b12 (d := d + 2) hb hT l0 (by omega) (by omega) hQ
  · exact px_b60 (d := d + 1) hb hT l0 (by omega) (by omega) hQ
  · exact px_b71 (d := d + 0) hb hT l0 (by omega) (by omega) hQ
  · exact px_b12 (d := d + 2) hb hT l0 (by omega) (by omega) hQ
theorem px_b13 {x l : Int32} {T : List Int32} {I : Nat → Nat → Int32} {Q : Int32 → Int64 → pm_H → Prop} (hb : pm_hb X b I0 J N K A H) (hT : pm_tx I0 N A H I T 0) (l0 : 0 ≤ l.toInt) (l1 : l.toInt ≤ 7) (hl : T.length ≤ 27) (hQ : ∀ I', pm_tx I0 N A H I' (13 :: T) (pf_z3 A) → Q (pf_v3 A x) 0 (pm_Gb L b, I', J)) : pm_wc pm_code pm_meta (d + 2) 23 [.ref 70, .int 13, .int x, .int l] (pm_Gb L b, I, J) Q := by
  obtain ⟨hI, N0, N1, hK, hA, hH⟩ := hb
  have hb : pm_hb X b I0 J N K A H := ⟨hI, N0, N1, hK, hA, hH⟩
  have ln := lev_n l0 (by omega : l.toInt ≤ 8)
  refine px_bhead (d := d + 1) hI N0 N1 hA hH hT l0 (by omega) (by omega) (fun I1 hT1 => ?_)
  rw [pb_23_63]
  simp only [(by decide : ¬ (13 : Int32) = 10), (by decide : ¬ (13 : Int32) = 11), (by decide : ¬ (13 : Int32) = 12), if_false, if_true]
  rw [pb_23_224, pb_24_0]
  by_cases c : A - 10 = 0
  · rw [if_pos c, pb_24_4, pb_23_234]
    have z := hQ (pm_u I1 70 6 1) ⟨fun k a c e => by rw [pm_u_row, if_neg a]; exact hT1.1 k a c e, by rw [pm_u_row, if_pos rfl, pm_w_ne (by decide)]; exact hT1.2.1, by rw [pm_u_at]; unfold pf_z3; rw [if_pos c], by rw [pm_u_row, if_neg (by decide)]; exact hT1.2.2.2.1, by rw [pm_u_row, if_neg (by decide)]; exact hT1.2.2.2.2.1, by rw [pm_u_row, if_neg (by decide)]; exact hT1.2.2.2.2.2⟩
    have e : pf_v3 A x = 0 := if_pos c
    rw [e] at z
    exact z
  · rw [if_neg c, pb_24_11, pb_23_234]
    have e : pf_v3 A x = x / (A - 10) := if_neg c
    have ez : pf_z3 A = 0 := if_neg c
    rw [e, ez] at hQ
    exact ⟨c, hQ I1 hT1⟩
theorem px_b31 {x l : Int32} {T : List Int32} {I : Nat → Nat → Int32} {Q : Int32 → Int64 → pm_H → Prop} (hb : pm_hb X b I0 J N K A H) (hT : pm_tx I0 N A H I T 0) (l0 : 0 ≤ l.toInt) (l1 : l.toInt ≤ 6) (hl : T.length ≤ 26) (hQ : ∀ I', pm_tx I0 N A H I' (13 :: 31 :: T) (pf_z3 A) → Q (pf_v3 A (x + 1) + H) 0 (pm_Gb L b, I', J)) : pm_wc pm_code pm_meta (d + 3) 23 [.ref 70, .int 31, .int x, .int l] (pm_Gb L b, I, J) Q := by
  obtain ⟨hI, N0, N1, hK, hA, hH⟩ := hb
  have hb : pm_hb X b I0 J N K A H := ⟨hI, N0, N1, hK, hA, hH⟩
  have ln := lev_n l0 (by omega : l.toInt ≤ 8)
  refine px_bhead (d := d + 2) hI N0 N1 hA hH hT l0 (by omega) (by omega) (fun I1 hT1 => ?_)
  rw [pb_23_63]
  simp only [(by decide : ¬ (31 : Int32) = 10), (by decide : ¬ (31 : Int32) = 11), (by decide : ¬ (31 : Int32) = 12), (by decide : ¬ (31 : Int32) = 13), (by decide : ¬ (31 : Int32) = 20), (by decide : ¬ (31 : Int32) = 30), if_false, if_true]
  rw [pb_23_262]
  refine px_b13 (d := d) hb hT1 (by rw [ln]; omega) (by rw [ln]; omega) (by simp only [List.length_cons]; omega) (fun I2 hT2 => ?_)
  rw [pb_23_273]
  exact hQ I2 hT2
theorem px_b61 {x l : Int32} {T : List Int32} {I : Nat → Nat → Int32} {Q : Int32 → Int64 → pm_H → Prop} (hb : pm_hb X b I0 J N K A H) (hT : pm_tx I0 N A H I T 0) (l0 : 0 ≤ l.toInt) (l1 : l.toInt ≤ 6) (hl : T.length ≤ 26) (hQ : ∀ I', pm_tx I0 N A H I' (13 :: 61 :: T) (pf_z3 A) → Q (0 - pf_v3 A x) 0 (pm_Gb L b, I', J)) : pm_wc pm_code pm_meta (d + 3) 23 [.ref 70, .int 61, .int x, .int l] (pm_Gb L b, I, J) Q := by
  obtain ⟨hI, N0, N1, hK, hA, hH⟩ := hb
  have hb : pm_hb X b I0 J N K A H := ⟨hI, N0, N1, hK, hA, hH⟩
  have ln := lev_n l0 (by omega : l.toInt ≤ 8)
  refine px_bhead (d := d + 2) hI N0 N1 hA hH hT l0 (by omega) (by omega) (fun I1 hT1 => ?_)
  rw [pb_23_63]
  simp only [(by decide : ¬ (61 : Int32) = 10), (by decide : ¬ (61 : Int32) = 11), (by decide : ¬ (61 : Int32) = 12), (by decide : ¬ (61 : Int32) = 13), (by decide : ¬ (61 : Int32) = 20), (by decide : ¬ (61 : Int32) = 30), (by decide : ¬ (61 : Int32) = 31), (by decide : ¬ (61 : Int32) = 40), (by decide : ¬ (61 : Int32) = 50), (by decide : ¬ (61 : Int32) = 60), if_false, if_true]
  rw [pb_23_336]
  refine px_b13 (d := d) hb hT1 (by rw [ln]; omega) (by rw [ln]; omega) (by simp only [List.length_cons]; omega) (fun I2 hT2 => ?_)
  rw [pb_23_346]
  exact hQ I2 hT2
theorem px_parted {x l : Int32} {T : List Int32} {I : Nat → Nat → Int32} {Q : Int32 → Int64 → pm_H → Prop} (hb : pm_hb X b I0 J N K A H) (hT : pm_tx I0 N A H I T 0) (l0 : 0 ≤ l.toInt) (l1 : l.toInt ≤ 6) (hl : T.length ≤ 26) (hQ : ∀ I', pm_tx I0 N A H I' (pf_lP K T) (pf_z3 A) → Q (pf_vP K A H x) 0 (pm_Gb L b, I', J)) : pm_wc pm_code pm_meta (d + 3) 23 [.ref 70, .int (pm_a4.getD (8 * (3 : Int32).toNatClampNeg + K.toNatClampNeg) 0), .int x, .int l] (pm_Gb L b, I, J) Q := by
  obtain ⟨hI, N0, N1, hK, hA, hH⟩ := hb
  have hb : pm_hb X b I0 J N K A H := ⟨hI, N0, N1, hK, hA, hH⟩
  have ln := lev_n l0 (by omega : l.toInt ≤ 8)
  rcases k_cases (hb_k hb).1 (hb_k hb).2 with q | q | q | q | q | q | q | q <;> subst q
  · exact px_b13 (d := d + 1) hb hT l0 (by omega) (by omega) hQ
  · exact px_b13 (d := d + 1) hb hT l0 (by omega) (by omega) hQ
  · exact px_b31 (d := d + 0) hb hT l0 (by omega) (by omega) hQ
  · exact px_b13 (d := d + 1) hb hT l0 (by omega) (by omega) hQ
  · exact px_b13 (d := d + 1) hb hT l0 (by omega) (by omega) hQ
  · exact px_b61 (d := d + 0) hb hT l0 (by omega) (by omega) hQ
  · exact px_b61 (d := d + 0) hb hT l0 (by omega) (by omega) hQ
  · exact px_b13 (d := d + 1) hb hT l0 (by omega) (by omega) hQ
end

