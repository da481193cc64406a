/-! READING under what holds. -/
def pm_ok (X : Nat → Int32) (L : Nat) (b : Bool) (v : Int32) : Int32 → Int64 → pm_H → Prop := fun v' _ H' => v' = v ∧ ∃ (I' : Nat → Nat → Int32) (J' : Nat → Nat → Int64), H' = (pm_Gb L b, I', J') ∧ pm_inv X b I' J'
theorem pr_isPerson {d L : Nat} {b : Bool} {I : Nat → Nat → Int32} {J : Nat → Nat → Int64} {x : Int32} {Q : Int32 → Int64 → pm_H → Prop} (h : 0 ≤ I 80 1) : pm_wc pm_code pm_meta (d + 1) 184 [.ref 79, .int x] (pm_Gb L b, I, J) Q ↔ Q (pm_b (0 ≤ x ∧ x < I 80 1)) 0 (pm_Gb L b, I, J) := by
  simp only [pb_184_0, pb_184_13, pr_in, pm_b_fit, true_and, pr_isPersons h]
theorem pr_isHouse {d L : Nat} {b : Bool} {I : Nat → Nat → Int32} {J : Nat → Nat → Int64} {x : Int32} {Q : Int32 → Int64 → pm_H → Prop} (h : 0 ≤ I 80 2) : pm_wc pm_code pm_meta (d + 1) 185 [.ref 79, .int x] (pm_Gb L b, I, J) Q ↔ Q (pm_b (0 ≤ x ∧ x < I 80 2)) 0 (pm_Gb L b, I, J) := by
  simp only [pb_185_0, pb_185_13, pr_in, pm_b_fit, true_and, pr_isPersons h]
theorem pr_isThing {d L : Nat} {b : Bool} {I : Nat → Nat → Int32} {J : Nat → Nat → Int64} {x : Int32} {Q : Int32 → Int64 → pm_H → Prop} (h : 0 ≤ I 80 3) : pm_wc pm_code pm_meta (d + 1) 186 [.ref 79, .int x] (pm_Gb L b, I, J) Q ↔ Q (pm_b (0 ≤ x ∧ x < I 80 3)) 0 (pm_Gb L b, I, J) := by
  simp only [pb_186_0, pb_186_13, pr_in, pm_b_fit, true_and, pr_isPersons h]
theorem pr_isRight {d L : Nat} {b : Bool} {I : Nat → Nat → Int32} {J : Nat → Nat → Int64} {x : Int32} {Q : Int32 → Int64 → pm_H → Prop} (h : 0 ≤ I 80 4) : pm_wc pm_code pm_meta (d + 1) 187 [.ref 79, .int x] (pm_Gb L b, I, J) Q ↔ Q (pm_b (0 ≤ x ∧ x < I 80 4)) 0 (pm_Gb L b, I, J) := by
  simp only [pb_187_0, pb_187_13, pr_in, pm_b_fit, true_and, pr_isPersons h]
theorem pm_kept_u {b : Bool} {I : Nat → Nat → Int32} {a k : Nat} {v : Int32} (h : a < 158) (h2 : ¬ a = 136) : pm_kept b (pm_u I a k v) = pm_kept b I := by
  have e : ∀ i, 158 ≤ i → pm_u I a k v i = I i := fun i hi => by rw [pm_u_row, if_neg (by omega)]
  have e2 : pm_u I a k v 136 = I 136 := by rw [pm_u_row, if_neg (by omega)]
  exact propext ⟨fun g => pm_kept_cg (fun i hi => (e i hi).symm) e2.symm g, fun g => pm_kept_cg e e2 g⟩
theorem pm_kept_z {b : Bool} {I : Nat → Nat → Int32} {a p q : Nat} (h : a < 158) (h2 : ¬ a = 136) : pm_kept b (pm_zr I a p q) = pm_kept b I := by
  have e : ∀ i, 158 ≤ i → pm_zr I a p q i = I i := fun i hi => by rw [pm_zr_row, if_neg (by omega)]
  have e2 : pm_zr I a p q 136 = I 136 := by rw [pm_zr_row, if_neg (by omega)]
  exact propext ⟨fun g => pm_kept_cg (fun i hi => (e i hi).symm) e2.symm g, fun g => pm_kept_cg e e2 g⟩
/-- a cell of a row of a table, 0 outside -/
def pm_at (n r : Int32) (f : Nat → Int32) : Int32 := if 0 ≤ r ∧ r < n then f r.toNatClampNeg else 0
theorem pm_at_in {n r : Int32} {f : Nat → Int32} (h0 : 0 ≤ r) (h1 : r < n) : pm_at n r f = f r.toNatClampNeg := if_pos ⟨h0, h1⟩
theorem pm_at_cg {n r : Int32} {f : Nat → Int32} {g : Nat → Int32} (h : ∀ k, k < n.toNatClampNeg → f k = g k) : (if 0 ≤ r ∧ r < n then f r.toNatClampNeg else 0) = pm_at n r g := by
  unfold pm_at
  by_cases e : 0 ≤ r ∧ r < n
  · rw [if_pos e, if_pos e, h _ (pi_tnlt e.1 e.2)]
  · rw [if_neg e, if_neg e]
theorem pm_no_eq {x : Int32} : (pm_no x = -3) = (¬ 0 ≤ x) := by rw [pm_no_eq', pi_lt0]
theorem pm_no_pos {x : Int32} (h : 0 ≤ x) : pm_no x = x := if_neg (Int32.not_lt.mpr h)
theorem pm_okJ {X : Nat → Int32} {L : Nat} {b : Bool} {v : Int32} {w : Int64} {I : Nat → Nat → Int32} {J : Nat → Nat → Int64} (h : pm_inv X b I J) : pm_ok X L b v v w (pm_Gb L b, I, J) := ⟨rfl, _, _, rfl, h⟩
theorem pm_okI2 {X : Nat → Int32} {L : Nat} {b : Bool} {v v' : Int32} {w : Int64} {I : Nat → Nat → Int32} {J : Nat → Nat → Int64} (e : v' = v) (h : pm_inv X b I J) : pm_ok X L b v v' w (pm_Gb L b, I, J) := ⟨e, _, _, rfl, h⟩
theorem pm_no_nn {x : Int32} (h : 0 ≤ x) : pm_no x = x := if_neg (Int32.not_lt.mpr h)
theorem per_n {t c : Nat → Int32} {n : Int32} {born died : Nat → Int32} (h : pg_per t c n born died) : 0 ≤ n ∧ n ≤ 16 := by
  obtain ⟨⟨⟨_, _, h1, h2⟩, rfl⟩, _⟩ := h; exact ⟨h1, h2⟩
theorem per_in {t c : Nat → Int32} {n : Int32} {born died : Nat → Int32} (h : pg_per t c n born died) {p : Int32} (h0 : 0 ≤ p) (h1 : p < n) : pm_in p 16 = true := by
  have := (per_n h).2
  rw [pi_lt] at h1; rw [pi_le] at this
  exact pi_in h0 (by have e : (16 : Int32).toInt = 16 := rfl; omega)
theorem per_in2 {t c : Nat → Int32} {n : Int32} {born died : Nat → Int32} (h : pg_per t c n born died) (h1 : n < 16) : pm_in n 16 = true := by
  rw [pi_lt] at h1
  exact pi_in (per_n h).1 (by have e : (16 : Int32).toInt = 16 := rfl; omega)
theorem per_eq {t c : Nat → Int32} {n : Int32} {born died : Nat → Int32} (h : pg_per t c n born died) : (n = 16) = (16 ≤ n) := by
  have := (per_n h).2
  rw [pi_le] at this
  rw [pi_eq, pi_le]; exact propext (by omega)
theorem px_has_per {d L : Nat} {b : Bool} {I : Nat → Nat → Int32} {J : Nat → Nat → Int64} {r : Int32} {n : Int32} {born died : Nat → Int32} {Q : Int32 → Int64 → pm_H → Prop} (h : pg_per (I 12) (I 13) n born died) : pm_wc pm_code pm_meta d 81 [.ref 12, .int r] (pm_Gb L b, I, J) Q ↔ Q (pm_b (0 ≤ r ∧ r < n)) 0 (pm_Gb L b, I, J) := by
  simp only [pt_has_12, h.1.2]
theorem px_per_0 {d L : Nat} {b : Bool} {I : Nat → Nat → Int32} {J : Nat → Nat → Int64} {r : Int32} {n : Int32} {born died : Nat → Int32} {Q : Int32 → Int64 → pm_H → Prop} (h : pg_per (I 12) (I 13) n born died) : pm_wc pm_code pm_meta d 83 [.ref 12, .int r, .int 0] (pm_Gb L b, I, J) Q ↔ Q (pm_at n r born) 0 (pm_Gb L b, I, J) := by
  rw [pt_get_12_0 h.1.1, h.1.2, pm_at_cg (f := fun k => I 13 (2 * k + 0)) (fun k hk => (h.2 k hk).1)]
theorem px_per_1 {d L : Nat} {b : Bool} {I : Nat → Nat → Int32} {J : Nat → Nat → Int64} {r : Int32} {n : Int32} {born died : Nat → Int32} {Q : Int32 → Int64 → pm_H → Prop} (h : pg_per (I 12) (I 13) n born died) : pm_wc pm_code pm_meta d 83 [.ref 12, .int r, .int 1] (pm_Gb L b, I, J) Q ↔ Q (pm_at n r (fun k => pm_no (died k))) 0 (pm_Gb L b, I, J) := by
  rw [pt_get_12_1 h.1.1, h.1.2, pm_at_cg (f := fun k => I 13 (2 * k + 1)) (fun k hk => (h.2 k hk).2)]
theorem hou_n {t c : Nat → Int32} {n today : Int32} {place order coin fear fell stripped due roll rollday had : Nat → Int32} (h : pg_hou t c n today place order coin fear fell stripped due roll rollday had) : 0 ≤ n ∧ n ≤ 8 := by
  obtain ⟨⟨⟨_, _, h1, h2⟩, rfl⟩, _⟩ := h; exact ⟨h1, h2⟩
theorem hou_in {t c : Nat → Int32} {n today : Int32} {place order coin fear fell stripped due roll rollday had : Nat → Int32} (h : pg_hou t c n today place order coin fear fell stripped due roll rollday had) {p : Int32} (h0 : 0 ≤ p) (h1 : p < n) : pm_in p 8 = true := by
  have := (hou_n h).2
  rw [pi_lt] at h1; rw [pi_le] at this
  exact pi_in h0 (by have e : (8 : Int32).toInt = 8 := rfl; omega)
theorem hou_in2 {t c : Nat → Int32} {n today : Int32} {place order coin fear fell stripped due roll rollday had : Nat → Int32} (h : pg_hou t c n today place order coin fear fell stripped due roll rollday had) (h1 : n < 8) : pm_in n 8 = true := by
  rw [pi_lt] at h1
  exact pi_in (hou_n h).1 (by have e : (8 : Int32).toInt = 8 := rfl; omega)
theorem hou_eq {t c : Nat → Int32} {n today : Int32} {place order coin fear fell stripped due roll rollday had : Nat → Int32} (h : pg_hou t c n today place order coin fear fell stripped due roll rollday had) : (n = 8) = (8 ≤ n) := by
  have := (hou_n h).2
  rw [pi_le] at this
  rw [pi_eq, pi_le]; exact propext (by omega)
theorem px_has_hou {d L : Nat} {b : Bool} {I : Nat → Nat → Int32} {J : Nat → Nat → Int64} {r : Int32} {n today : Int32} {place order coin fear fell stripped due roll rollday had : Nat → Int32} {Q : Int32 → Int64 → pm_H → Prop} (h : pg_hou (I 14) (I 15) n today place order coin fear fell stripped due roll rollday had) : pm_wc pm_code pm_meta d 81 [.ref 14, .int r] (pm_Gb L b, I, J) Q ↔ Q (pm_b (0 ≤ r ∧ r < n)) 0 (pm_Gb L b, I, J) := by
  simp only [pt_has_14, h.1.2]
theorem px_hou_0 {d L : Nat} {b : Bool} {I : Nat → Nat → Int32} {J : Nat → Nat → Int64} {r : Int32} {n today : Int32} {place order coin fear fell stripped due roll rollday had : Nat → Int32} {Q : Int32 → Int64 → pm_H → Prop} (h : pg_hou (I 14) (I 15) n today place order coin fear fell stripped due roll rollday had) : pm_wc pm_code pm_meta d 83 [.ref 14, .int r, .int 0] (pm_Gb L b, I, J) Q ↔ Q (pm_at n r place) 0 (pm_Gb L b, I, J) := by
  rw [pt_get_14_0 h.1.1, h.1.2, pm_at_cg (f := fun k => I 15 (10 * k + 0)) (fun k hk => (h.2 k hk).1.1)]
theorem px_hou_1 {d L : Nat} {b : Bool} {I : Nat → Nat → Int32} {J : Nat → Nat → Int64} {r : Int32} {n today : Int32} {place order coin fear fell stripped due roll rollday had : Nat → Int32} {Q : Int32 → Int64 → pm_H → Prop} (h : pg_hou (I 14) (I 15) n today place order coin fear fell stripped due roll rollday had) : pm_wc pm_code pm_meta d 83 [.ref 14, .int r, .int 1] (pm_Gb L b, I, J) Q ↔ Q (pm_at n r order) 0 (pm_Gb L b, I, J) := by
  rw [pt_get_14_1 h.1.1, h.1.2, pm_at_cg (f := fun k => I 15 (10 * k + 1)) (fun k hk => (h.2 k hk).1.2.1)]
theorem px_hou_2 {d L : Nat} {b : Bool} {I : Nat → Nat → Int32} {J : Nat → Nat → Int64} {r : Int32} {n today : Int32} {place order coin fear fell stripped due roll rollday had : Nat → Int32} {Q : Int32 → Int64 → pm_H → Prop} (h : pg_hou (I 14) (I 15) n today place order coin fear fell stripped due roll rollday had) : pm_wc pm_code pm_meta d 83 [.ref 14, .int r, .int 2] (pm_Gb L b, I, J) Q ↔ Q (pm_at n r coin) 0 (pm_Gb L b, I, J) := by
  rw [pt_get_14_2 h.1.1, h.1.2, pm_at_cg (f := fun k => I 15 (10 * k + 2)) (fun k hk => (h.2 k hk).1.2.2.1)]
theorem px_hou_3 {d L : Nat} {b : Bool} {I : Nat → Nat → Int32} {J : Nat → Nat → Int64} {r : Int32} {n today : Int32} {place order coin fear fell stripped due roll rollday had : Nat → Int32} {Q : Int32 → Int64 → pm_H → Prop} (h : pg_hou (I 14) (I 15) n today place order coin fear fell stripped due roll rollday had) : pm_wc pm_code pm_meta d 83 [.ref 14, .int r, .int 3] (pm_Gb L b, I, J) Q ↔ Q (pm_at n r fear) 0 (pm_Gb L b, I, J) := by
  rw [pt_get_14_3 h.1.1, h.1.2, pm_at_cg (f := fun k => I 15 (10 * k + 3)) (fun k hk => (h.2 k hk).1.2.2.2.1)]
theorem px_hou_4 {d L : Nat} {b : Bool} {I : Nat → Nat → Int32} {J : Nat → Nat → Int64} {r : Int32} {n today : Int32} {place order coin fear fell stripped due roll rollday had : Nat → Int32} {Q : Int32 → Int64 → pm_H → Prop} (h : pg_hou (I 14) (I 15) n today place order coin fear fell stripped due roll rollday had) : pm_wc pm_code pm_meta d 83 [.ref 14, .int r, .int 4] (pm_Gb L b, I, J) Q ↔ Q (pm_at n r (fun k => pm_no (fell k))) 0 (pm_Gb L b, I, J) := by
  rw [pt_get_14_4 h.1.1, h.1.2, pm_at_cg (f := fun k => I 15 (10 * k + 4)) (fun k hk => (h.2 k hk).1.2.2.2.2.1)]
theorem px_hou_5 {d L : Nat} {b : Bool} {I : Nat → Nat → Int32} {J : Nat → Nat → Int64} {r : Int32} {n today : Int32} {place order coin fear fell stripped due roll rollday had : Nat → Int32} {Q : Int32 → Int64 → pm_H → Prop} (h : pg_hou (I 14) (I 15) n today place order coin fear fell stripped due roll rollday had) : pm_wc pm_code pm_meta d 83 [.ref 14, .int r, .int 5] (pm_Gb L b, I, J) Q ↔ Q (pm_at n r (fun k => pm_no (stripped k))) 0 (pm_Gb L b, I, J) := by
  rw [pt_get_14_5 h.1.1, h.1.2, pm_at_cg (f := fun k => I 15 (10 * k + 5)) (fun k hk => (h.2 k hk).1.2.2.2.2.2.1)]
theorem px_hou_6 {d L : Nat} {b : Bool} {I : Nat → Nat → Int32} {J : Nat → Nat → Int64} {r : Int32} {n today : Int32} {place order coin fear fell stripped due roll rollday had : Nat → Int32} {Q : Int32 → Int64 → pm_H → Prop} (h : pg_hou (I 14) (I 15) n today place order coin fear fell stripped due roll rollday had) : pm_wc pm_code pm_meta d 83 [.ref 14, .int r, .int 6] (pm_Gb L b, I, J) Q ↔ Q (pm_at n r due) 0 (pm_Gb L b, I, J) := by
  rw [pt_get_14_6 h.1.1, h.1.2, pm_at_cg (f := fun k => I 15 (10 * k + 6)) (fun k hk => (h.2 k hk).1.2.2.2.2.2.2.1)]
theorem px_hou_7 {d L : Nat} {b : Bool} {I : Nat → Nat → Int32} {J : Nat → Nat → Int64} {r : Int32} {n today : Int32} {place order coin fear fell stripped due roll rollday had : Nat → Int32} {Q : Int32 → Int64 → pm_H → Prop} (h : pg_hou (I 14) (I 15) n today place order coin fear fell stripped due roll rollday had) : pm_wc pm_code pm_meta d 83 [.ref 14, .int r, .int 7] (pm_Gb L b, I, J) Q ↔ Q (pm_at n r (fun k => if fell k < 0 then -3 else had k)) 0 (pm_Gb L b, I, J) := by
  rw [pt_get_14_7 h.1.1, h.1.2, pm_at_cg (f := fun k => I 15 (10 * k + 7)) (fun k hk => (h.2 k hk).1.2.2.2.2.2.2.2.1)]
theorem px_hou_8 {d L : Nat} {b : Bool} {I : Nat → Nat → Int32} {J : Nat → Nat → Int64} {r : Int32} {n today : Int32} {place order coin fear fell stripped due roll rollday had : Nat → Int32} {Q : Int32 → Int64 → pm_H → Prop} (h : pg_hou (I 14) (I 15) n today place order coin fear fell stripped due roll rollday had) : pm_wc pm_code pm_meta d 83 [.ref 14, .int r, .int 8] (pm_Gb L b, I, J) Q ↔ Q (pm_at n r roll) 0 (pm_Gb L b, I, J) := by
  rw [pt_get_14_8 h.1.1, h.1.2, pm_at_cg (f := fun k => I 15 (10 * k + 8)) (fun k hk => (h.2 k hk).1.2.2.2.2.2.2.2.2.1)]
theorem px_hou_9 {d L : Nat} {b : Bool} {I : Nat → Nat → Int32} {J : Nat → Nat → Int64} {r : Int32} {n today : Int32} {place order coin fear fell stripped due roll rollday had : Nat → Int32} {Q : Int32 → Int64 → pm_H → Prop} (h : pg_hou (I 14) (I 15) n today place order coin fear fell stripped due roll rollday had) : pm_wc pm_code pm_meta d 83 [.ref 14, .int r, .int 9] (pm_Gb L b, I, J) Q ↔ Q (pm_at n r (fun k => pm_no (rollday k))) 0 (pm_Gb L b, I, J) := by
  rw [pt_get_14_9 h.1.1, h.1.2, pm_at_cg (f := fun k => I 15 (10 * k + 9)) (fun k hk => (h.2 k hk).1.2.2.2.2.2.2.2.2.2)]
theorem thi_n {t c : Nat → Int32} {n nH : Int32} {house kind worth is shown : Nat → Int32} (h : pg_thi t c n nH house kind worth is shown) : 0 ≤ n ∧ n ≤ 24 := by
  obtain ⟨⟨⟨_, _, h1, h2⟩, rfl⟩, _⟩ := h; exact ⟨h1, h2⟩
theorem thi_in {t c : Nat → Int32} {n nH : Int32} {house kind worth is shown : Nat → Int32} (h : pg_thi t c n nH house kind worth is shown) {p : Int32} (h0 : 0 ≤ p) (h1 : p < n) : pm_in p 24 = true := by
  have := (thi_n h).2
  rw [pi_lt] at h1; rw [pi_le] at this
  exact pi_in h0 (by have e : (24 : Int32).toInt = 24 := rfl; omega)
theorem thi_in2 {t c : Nat → Int32} {n nH : Int32} {house kind worth is shown : Nat → Int32} (h : pg_thi t c n nH house kind worth is shown) (h1 : n < 24) : pm_in n 24 = true := by
  rw [pi_lt] at h1
  exact pi_in (thi_n h).1 (by have e : (24 : Int32).toInt = 24 := rfl; omega)
theorem thi_eq {t c : Nat → Int32} {n nH : Int32} {house kind worth is shown : Nat → Int32} (h : pg_thi t c n nH house kind worth is shown) : (n = 24) = (24 ≤ n) := by
  have := (thi_n h).2
  rw [pi_le] at this
  rw [pi_eq, pi_le]; exact propext (by omega)
theorem px_has_thi {d L : Nat} {b : Bool} {I : Nat → Nat → Int32} {J : Nat → Nat → Int64} {r : Int32} {n nH : Int32} {house kind worth is shown : Nat → Int32} {Q : Int32 → Int64 → pm_H → Prop} (h : pg_thi (I 16) (I 17) n nH house kind worth is shown) : pm_wc pm_code pm_meta d 81 [.ref 16, .int r] (pm_Gb L b, I, J) Q ↔ Q (pm_b (0 ≤ r ∧ r < n)) 0 (pm_Gb L b, I, J) := by
  simp only [pt_has_16, h.1.2]
theorem px_thi_0 {d L : Nat} {b : Bool} {I : Nat → Nat → Int32} {J : Nat → Nat → Int64} {r : Int32} {n nH : Int32} {house kind worth is shown : Nat → Int32} {Q : Int32 → Int64 → pm_H → Prop} (h : pg_thi (I 16) (I 17) n nH house kind worth is shown) : pm_wc pm_code pm_meta d 83 [.ref 16, .int r, .int 0] (pm_Gb L b, I, J) Q ↔ Q (pm_at n r house) 0 (pm_Gb L b, I, J) := by
  rw [pt_get_16_0 h.1.1, h.1.2, pm_at_cg (f := fun k => I 17 (5 * k + 0)) (fun k hk => (h.2 k hk).1.1)]
theorem px_thi_1 {d L : Nat} {b : Bool} {I : Nat → Nat → Int32} {J : Nat → Nat → Int64} {r : Int32} {n nH : Int32} {house kind worth is shown : Nat → Int32} {Q : Int32 → Int64 → pm_H → Prop} (h : pg_thi (I 16) (I 17) n nH house kind worth is shown) : pm_wc pm_code pm_meta d 83 [.ref 16, .int r, .int 1] (pm_Gb L b, I, J) Q ↔ Q (pm_at n r kind) 0 (pm_Gb L b, I, J) := by
  rw [pt_get_16_1 h.1.1, h.1.2, pm_at_cg (f := fun k => I 17 (5 * k + 1)) (fun k hk => (h.2 k hk).1.2.1)]
theorem px_thi_2 {d L : Nat} {b : Bool} {I : Nat → Nat → Int32} {J : Nat → Nat → Int64} {r : Int32} {n nH : Int32} {house kind worth is shown : Nat → Int32} {Q : Int32 → Int64 → pm_H → Prop} (h : pg_thi (I 16) (I 17) n nH house kind worth is shown) : pm_wc pm_code pm_meta d 83 [.ref 16, .int r, .int 2] (pm_Gb L b, I, J) Q ↔ Q (pm_at n r worth) 0 (pm_Gb L b, I, J) := by
  rw [pt_get_16_2 h.1.1, h.1.2, pm_at_cg (f := fun k => I 17 (5 * k + 2)) (fun k hk => (h.2 k hk).1.2.2.1)]
theorem px_thi_3 {d L : Nat} {b : Bool} {I : Nat → Nat → Int32} {J : Nat → Nat → Int64} {r : Int32} {n nH : Int32} {house kind worth is shown : Nat → Int32} {Q : Int32 → Int64 → pm_H → Prop} (h : pg_thi (I 16) (I 17) n nH house kind worth is shown) : pm_wc pm_code pm_meta d 83 [.ref 16, .int r, .int 3] (pm_Gb L b, I, J) Q ↔ Q (pm_at n r is) 0 (pm_Gb L b, I, J) := by
  rw [pt_get_16_3 h.1.1, h.1.2, pm_at_cg (f := fun k => I 17 (5 * k + 3)) (fun k hk => (h.2 k hk).1.2.2.2.1)]
theorem px_thi_4 {d L : Nat} {b : Bool} {I : Nat → Nat → Int32} {J : Nat → Nat → Int64} {r : Int32} {n nH : Int32} {house kind worth is shown : Nat → Int32} {Q : Int32 → Int64 → pm_H → Prop} (h : pg_thi (I 16) (I 17) n nH house kind worth is shown) : pm_wc pm_code pm_meta d 83 [.ref 16, .int r, .int 4] (pm_Gb L b, I, J) Q ↔ Q (pm_at n r shown) 0 (pm_Gb L b, I, J) := by
  rw [pt_get_16_4 h.1.1, h.1.2, pm_at_cg (f := fun k => I 17 (5 * k + 4)) (fun k hk => (h.2 k hk).1.2.2.2.2)]
theorem rig_n {t c : Nat → Int32} {n nP nH nT : Int32} {kind house person amount fr to is leans proved seals told wit witOf : Nat → Int32} (h : pg_rig t c n nP nH nT kind house person amount fr to is leans proved seals told wit witOf) : 0 ≤ n ∧ n ≤ 24 := by
  obtain ⟨⟨⟨_, _, h1, h2⟩, rfl⟩, _⟩ := h; exact ⟨h1, h2⟩
theorem rig_in {t c : Nat → Int32} {n nP nH nT : Int32} {kind house person amount fr to is leans proved seals told wit witOf : Nat → Int32} (h : pg_rig t c n nP nH nT kind house person amount fr to is leans proved seals told wit witOf) {p : Int32} (h0 : 0 ≤ p) (h1 : p < n) : pm_in p 24 = true := by
  have := (rig_n h).2
  rw [pi_lt] at h1; rw [pi_le] at this
  exact pi_in h0 (by have e : (24 : Int32).toInt = 24 := rfl; omega)
theorem rig_in2 {t c : Nat → Int32} {n nP nH nT : Int32} {kind house person amount fr to is leans proved seals told wit witOf : Nat → Int32} (h : pg_rig t c n nP nH nT kind house person amount fr to is leans proved seals told wit witOf) (h1 : n < 24) : pm_in n 24 = true := by
  rw [pi_lt] at h1
  exact pi_in (rig_n h).1 (by have e : (24 : Int32).toInt = 24 := rfl; omega)
theorem rig_eq {t c : Nat → Int32} {n nP nH nT : Int32} {kind house person amount fr to is leans proved seals told wit witOf : Nat → Int32} (h : pg_rig t c n nP nH nT kind house person amount fr to is leans proved seals told wit witOf) : (n = 24) = (24 ≤ n) := by
  have := (rig_n h).2
  rw [pi_le] at this
  rw [pi_eq, pi_le]; exact propext (by omega)
theorem px_has_rig {d L : Nat} {b : Bool} {I : Nat → Nat → Int32} {J : Nat → Nat → Int64} {r : Int32} {n nP nH nT : Int32} {kind house person amount fr to is leans proved seals told wit witOf : Nat → Int32} {Q : Int32 → Int64 → pm_H → Prop} (h : pg_rig (I 18) (I 19) n nP nH nT kind house person amount fr to is leans proved seals told wit witOf) : pm_wc pm_code pm_meta d 81 [.ref 18, .int r] (pm_Gb L b, I, J) Q ↔ Q (pm_b (0 ≤ r ∧ r < n)) 0 (pm_Gb L b, I, J) := by
  simp only [pt_has_18, h.1.2]
theorem px_rig_0 {d L : Nat} {b : Bool} {I : Nat → Nat → Int32} {J : Nat → Nat → Int64} {r : Int32} {n nP nH nT : Int32} {kind house person amount fr to is leans proved seals told wit witOf : Nat → Int32} {Q : Int32 → Int64 → pm_H → Prop} (h : pg_rig (I 18) (I 19) n nP nH nT kind house person amount fr to is leans proved seals told wit witOf) : pm_wc pm_code pm_meta d 83 [.ref 18, .int r, .int 0] (pm_Gb L b, I, J) Q ↔ Q (pm_at n r kind) 0 (pm_Gb L b, I, J) := by
  rw [pt_get_18_0 h.1.1, h.1.2, pm_at_cg (f := fun k => I 19 (16 * k + 0)) (fun k hk => (h.2 k hk).1.1)]
theorem px_rig_1 {d L : Nat} {b : Bool} {I : Nat → Nat → Int32} {J : Nat → Nat → Int64} {r : Int32} {n nP nH nT : Int32} {kind house person amount fr to is leans proved seals told wit witOf : Nat → Int32} {Q : Int32 → Int64 → pm_H → Prop} (h : pg_rig (I 18) (I 19) n nP nH nT kind house person amount fr to is leans proved seals told wit witOf) : pm_wc pm_code pm_meta d 83 [.ref 18, .int r, .int 1] (pm_Gb L b, I, J) Q ↔ Q (pm_at n r house) 0 (pm_Gb L b, I, J) := by
  rw [pt_get_18_1 h.1.1, h.1.2, pm_at_cg (f := fun k => I 19 (16 * k + 1)) (fun k hk => (h.2 k hk).1.2.1)]
theorem px_rig_2 {d L : Nat} {b : Bool} {I : Nat → Nat → Int32} {J : Nat → Nat → Int64} {r : Int32} {n nP nH nT : Int32} {kind house person amount fr to is leans proved seals told wit witOf : Nat → Int32} {Q : Int32 → Int64 → pm_H → Prop} (h : pg_rig (I 18) (I 19) n nP nH nT kind house person amount fr to is leans proved seals told wit witOf) : pm_wc pm_code pm_meta d 83 [.ref 18, .int r, .int 2] (pm_Gb L b, I, J) Q ↔ Q (pm_at n r person) 0 (pm_Gb L b, I, J) := by
  rw [pt_get_18_2 h.1.1, h.1.2, pm_at_cg (f := fun k => I 19 (16 * k + 2)) (fun k hk => (h.2 k hk).1.2.2.1)]
theorem px_rig_3 {d L : Nat} {b : Bool} {I : Nat → Nat → Int32} {J : Nat → Nat → Int64} {r : Int32} {n nP nH nT : Int32} {kind house person amount fr to is leans proved seals told wit witOf : Nat → Int32} {Q : Int32 → Int64 → pm_H → Prop} (h : pg_rig (I 18) (I 19) n nP nH nT kind house person amount fr to is leans proved seals told wit witOf) : pm_wc pm_code pm_meta d 83 [.ref 18, .int r, .int 3] (pm_Gb L b, I, J) Q ↔ Q (pm_at n r amount) 0 (pm_Gb L b, I, J) := by
  rw [pt_get_18_3 h.1.1, h.1.2, pm_at_cg (f := fun k => I 19 (16 * k + 3)) (fun k hk => (h.2 k hk).1.2.2.2.1)]
theorem px_rig_4 {d L : Nat} {b : Bool} {I : Nat → Nat → Int32} {J : Nat → Nat → Int64} {r : Int32} {n nP nH nT : Int32} {kind house person amount fr to is leans proved seals told wit witOf : Nat → Int32} {Q : Int32 → Int64 → pm_H → Prop} (h : pg_rig (I 18) (I 19) n nP nH nT kind house person amount fr to is leans proved seals told wit witOf) : pm_wc pm_code pm_meta d 83 [.ref 18, .int r, .int 4] (pm_Gb L b, I, J) Q ↔ Q (pm_at n r fr) 0 (pm_Gb L b, I, J) := by
  rw [pt_get_18_4 h.1.1, h.1.2, pm_at_cg (f := fun k => I 19 (16 * k + 4)) (fun k hk => (h.2 k hk).1.2.2.2.2.1)]
theorem px_rig_5 {d L : Nat} {b : Bool} {I : Nat → Nat → Int32} {J : Nat → Nat → Int64} {r : Int32} {n nP nH nT : Int32} {kind house person amount fr to is leans proved seals told wit witOf : Nat → Int32} {Q : Int32 → Int64 → pm_H → Prop} (h : pg_rig (I 18) (I 19) n nP nH nT kind house person amount fr to is leans proved seals told wit witOf) : pm_wc pm_code pm_meta d 83 [.ref 18, .int r, .int 5] (pm_Gb L b, I, J) Q ↔ Q (pm_at n r to) 0 (pm_Gb L b, I, J) := by
  rw [pt_get_18_5 h.1.1, h.1.2, pm_at_cg (f := fun k => I 19 (16 * k + 5)) (fun k hk => (h.2 k hk).1.2.2.2.2.2.1)]
theorem px_rig_6 {d L : Nat} {b : Bool} {I : Nat → Nat → Int32} {J : Nat → Nat → Int64} {r : Int32} {n nP nH nT : Int32} {kind house person amount fr to is leans proved seals told wit witOf : Nat → Int32} {Q : Int32 → Int64 → pm_H → Prop} (h : pg_rig (I 18) (I 19) n nP nH nT kind house person amount fr to is leans proved seals told wit witOf) : pm_wc pm_code pm_meta d 83 [.ref 18, .int r, .int 6] (pm_Gb L b, I, J) Q ↔ Q (pm_at n r (fun k => pm_no (leans k))) 0 (pm_Gb L b, I, J) := by
  rw [pt_get_18_6 h.1.1, h.1.2, pm_at_cg (f := fun k => I 19 (16 * k + 6)) (fun k hk => (h.2 k hk).1.2.2.2.2.2.2.1)]
theorem px_rig_7 {d L : Nat} {b : Bool} {I : Nat → Nat → Int32} {J : Nat → Nat → Int64} {r : Int32} {n nP nH nT : Int32} {kind house person amount fr to is leans proved seals told wit witOf : Nat → Int32} {Q : Int32 → Int64 → pm_H → Prop} (h : pg_rig (I 18) (I 19) n nP nH nT kind house person amount fr to is leans proved seals told wit witOf) : pm_wc pm_code pm_meta d 83 [.ref 18, .int r, .int 7] (pm_Gb L b, I, J) Q ↔ Q (pm_at n r is) 0 (pm_Gb L b, I, J) := by
  rw [pt_get_18_7 h.1.1, h.1.2, pm_at_cg (f := fun k => I 19 (16 * k + 7)) (fun k hk => (h.2 k hk).1.2.2.2.2.2.2.2.1)]
theorem px_rig_9 {d L : Nat} {b : Bool} {I : Nat → Nat → Int32} {J : Nat → Nat → Int64} {r : Int32} {n nP nH nT : Int32} {kind house person amount fr to is leans proved seals told wit witOf : Nat → Int32} {Q : Int32 → Int64 → pm_H → Prop} (h : pg_rig (I 18) (I 19) n nP nH nT kind house person amount fr to is leans proved seals told wit witOf) : pm_wc pm_code pm_meta d 83 [.ref 18, .int r, .int 9] (pm_Gb L b, I, J) Q ↔ Q (pm_at n r (fun k => pm_no (proved k))) 0 (pm_Gb L b, I, J) := by
  rw [pt_get_18_9 h.1.1, h.1.2, pm_at_cg (f := fun k => I 19 (16 * k + 9)) (fun k hk => (h.2 k hk).1.2.2.2.2.2.2.2.2.1)]
theorem px_rig_10 {d L : Nat} {b : Bool} {I : Nat → Nat → Int32} {J : Nat → Nat → Int64} {r : Int32} {n nP nH nT : Int32} {kind house person amount fr to is leans proved seals told wit witOf : Nat → Int32} {Q : Int32 → Int64 → pm_H → Prop} (h : pg_rig (I 18) (I 19) n nP nH nT kind house person amount fr to is leans proved seals told wit witOf) : pm_wc pm_code pm_meta d 83 [.ref 18, .int r, .int 10] (pm_Gb L b, I, J) Q ↔ Q (pm_at n r (fun k => pm_no (seals k))) 0 (pm_Gb L b, I, J) := by
  rw [pt_get_18_10 h.1.1, h.1.2, pm_at_cg (f := fun k => I 19 (16 * k + 10)) (fun k hk => (h.2 k hk).1.2.2.2.2.2.2.2.2.2.1)]
theorem px_rig_11 {d L : Nat} {b : Bool} {I : Nat → Nat → Int32} {J : Nat → Nat → Int64} {r : Int32} {n nP nH nT : Int32} {kind house person amount fr to is leans proved seals told wit witOf : Nat → Int32} {Q : Int32 → Int64 → pm_H → Prop} (h : pg_rig (I 18) (I 19) n nP nH nT kind house person amount fr to is leans proved seals told wit witOf) : pm_wc pm_code pm_meta d 83 [.ref 18, .int r, .int 11] (pm_Gb L b, I, J) Q ↔ Q (pm_at n r (fun k => pm_no (told k))) 0 (pm_Gb L b, I, J) := by
  rw [pt_get_18_11 h.1.1, h.1.2, pm_at_cg (f := fun k => I 19 (16 * k + 11)) (fun k hk => (h.2 k hk).1.2.2.2.2.2.2.2.2.2.2.1)]
theorem px_rig_12 {d L : Nat} {b : Bool} {I : Nat → Nat → Int32} {J : Nat → Nat → Int64} {r : Int32} {n nP nH nT : Int32} {kind house person amount fr to is leans proved seals told wit witOf : Nat → Int32} {Q : Int32 → Int64 → pm_H → Prop} (h : pg_rig (I 18) (I 19) n nP nH nT kind house person amount fr to is leans proved seals told wit witOf) : pm_wc pm_code pm_meta d 83 [.ref 18, .int r, .int 12] (pm_Gb L b, I, J) Q ↔ Q (pm_at n r wit) 0 (pm_Gb L b, I, J) := by
  rw [pt_get_18_12 h.1.1, h.1.2, pm_at_cg (f := fun k => I 19 (16 * k + 12)) (fun k hk => (h.2 k hk).1.2.2.2.2.2.2.2.2.2.2.2)]
theorem sta_n {t c : Nat → Int32} {n nP : Int32} {person place day : Nat → Int32} (h : pg_sta t c n nP person place day) : 0 ≤ n ∧ n ≤ 24 := by
  obtain ⟨⟨⟨_, _, h1, h2⟩, rfl⟩, _⟩ := h; exact ⟨h1, h2⟩
theorem sta_in {t c : Nat → Int32} {n nP : Int32} {person place day : Nat → Int32} (h : pg_sta t c n nP person place day) {p : Int32} (h0 : 0 ≤ p) (h1 : p < n) : pm_in p 24 = true := by
  have := (sta_n h).2
  rw [pi_lt] at h1; rw [pi_le] at this
  exact pi_in h0 (by have e : (24 : Int32).toInt = 24 := rfl; omega)
theorem sta_in2 {t c : Nat → Int32} {n nP : Int32} {person place day : Nat → Int32} (h : pg_sta t c n nP person place day) (h1 : n < 24) : pm_in n 24 = true := by
  rw [pi_lt] at h1
  exact pi_in (sta_n h).1 (by have e : (24 : Int32).toInt = 24 := rfl; omega)
theorem sta_eq {t c : Nat → Int32} {n nP : Int32} {person place day : Nat → Int32} (h : pg_sta t c n nP person place day) : (n = 24) = (24 ≤ n) := by
  have := (sta_n h).2
  rw [pi_le] at this
  rw [pi_eq, pi_le]; exact propext (by omega)
theorem px_sta_0 {d L : Nat} {b : Bool} {I : Nat → Nat → Int32} {J : Nat → Nat → Int64} {r : Int32} {n nP : Int32} {person place day : Nat → Int32} {Q : Int32 → Int64 → pm_H → Prop} (h : pg_sta (I 28) (I 29) n nP person place day) : pm_wc pm_code pm_meta d 83 [.ref 28, .int r, .int 0] (pm_Gb L b, I, J) Q ↔ Q (pm_at n r person) 0 (pm_Gb L b, I, J) := by
  rw [pt_get_28_0 h.1.1, h.1.2, pm_at_cg (f := fun k => I 29 (3 * k + 0)) (fun k hk => (h.2 k hk).1.1)]
theorem px_sta_1 {d L : Nat} {b : Bool} {I : Nat → Nat → Int32} {J : Nat → Nat → Int64} {r : Int32} {n nP : Int32} {person place day : Nat → Int32} {Q : Int32 → Int64 → pm_H → Prop} (h : pg_sta (I 28) (I 29) n nP person place day) : pm_wc pm_code pm_meta d 83 [.ref 28, .int r, .int 1] (pm_Gb L b, I, J) Q ↔ Q (pm_at n r place) 0 (pm_Gb L b, I, J) := by
  rw [pt_get_28_1 h.1.1, h.1.2, pm_at_cg (f := fun k => I 29 (3 * k + 1)) (fun k hk => (h.2 k hk).1.2.1)]
theorem px_sta_2 {d L : Nat} {b : Bool} {I : Nat → Nat → Int32} {J : Nat → Nat → Int64} {r : Int32} {n nP : Int32} {person place day : Nat → Int32} {Q : Int32 → Int64 → pm_H → Prop} (h : pg_sta (I 28) (I 29) n nP person place day) : pm_wc pm_code pm_meta d 83 [.ref 28, .int r, .int 2] (pm_Gb L b, I, J) Q ↔ Q (pm_at n r day) 0 (pm_Gb L b, I, J) := by
  rw [pt_get_28_2 h.1.1, h.1.2, pm_at_cg (f := fun k => I 29 (3 * k + 2)) (fun k hk => (h.2 k hk).1.2.2)]
theorem lot_n {t c : Nat → Int32} {n : Int32} {price : Nat → Int32} (h : pg_lot t c n price) : 0 ≤ n ∧ n ≤ 7 := by
  obtain ⟨⟨⟨_, _, h1, h2⟩, rfl⟩, _⟩ := h; exact ⟨h1, h2⟩
theorem lot_in {t c : Nat → Int32} {n : Int32} {price : Nat → Int32} (h : pg_lot t c n price) {p : Int32} (h0 : 0 ≤ p) (h1 : p < n) : pm_in p 7 = true := by
  have := (lot_n h).2
  rw [pi_lt] at h1; rw [pi_le] at this
  exact pi_in h0 (by have e : (7 : Int32).toInt = 7 := rfl; omega)
theorem lot_in2 {t c : Nat → Int32} {n : Int32} {price : Nat → Int32} (h : pg_lot t c n price) (h1 : n < 7) : pm_in n 7 = true := by
  rw [pi_lt] at h1
  exact pi_in (lot_n h).1 (by have e : (7 : Int32).toInt = 7 := rfl; omega)
theorem lot_eq {t c : Nat → Int32} {n : Int32} {price : Nat → Int32} (h : pg_lot t c n price) : (n = 7) = (7 ≤ n) := by
  have := (lot_n h).2
  rw [pi_le] at this
  rw [pi_eq, pi_le]; exact propext (by omega)
theorem px_lot_0 {d L : Nat} {b : Bool} {I : Nat → Nat → Int32} {J : Nat → Nat → Int64} {r : Int32} {n : Int32} {price : Nat → Int32} {Q : Int32 → Int64 → pm_H → Prop} (h : pg_lot (I 30) (I 31) n price) : pm_wc pm_code pm_meta d 83 [.ref 30, .int r, .int 0] (pm_Gb L b, I, J) Q ↔ Q (pm_at n r price) 0 (pm_Gb L b, I, J) := by
  rw [pt_get_30_0 h.1.1, h.1.2, pm_at_cg (f := fun k => I 31 (1 * k + 0)) (fun k hk => (h.2 k hk).1)]
theorem buy_n {t c : Nat → Int32} {n : Int32} {coin : Nat → Int32} (h : pg_buy t c n coin) : 0 ≤ n ∧ n ≤ 3 := by
  obtain ⟨⟨⟨_, _, h1, h2⟩, rfl⟩, _⟩ := h; exact ⟨h1, h2⟩
theorem buy_in {t c : Nat → Int32} {n : Int32} {coin : Nat → Int32} (h : pg_buy t c n coin) {p : Int32} (h0 : 0 ≤ p) (h1 : p < n) : pm_in p 3 = true := by
  have := (buy_n h).2
  rw [pi_lt] at h1; rw [pi_le] at this
  exact pi_in h0 (by have e : (3 : Int32).toInt = 3 := rfl; omega)
theorem buy_in2 {t c : Nat → Int32} {n : Int32} {coin : Nat → Int32} (h : pg_buy t c n coin) (h1 : n < 3) : pm_in n 3 = true := by
  rw [pi_lt] at h1
  exact pi_in (buy_n h).1 (by have e : (3 : Int32).toInt = 3 := rfl; omega)
theorem buy_eq {t c : Nat → Int32} {n : Int32} {coin : Nat → Int32} (h : pg_buy t c n coin) : (n = 3) = (3 ≤ n) := by
  have := (buy_n h).2
  rw [pi_le] at this
  rw [pi_eq, pi_le]; exact propext (by omega)
theorem px_buy_0 {d L : Nat} {b : Bool} {I : Nat → Nat → Int32} {J : Nat → Nat → Int64} {r : Int32} {n : Int32} {coin : Nat → Int32} {Q : Int32 → Int64 → pm_H → Prop} (h : pg_buy (I 32) (I 33) n coin) : pm_wc pm_code pm_meta d 83 [.ref 32, .int r, .int 0] (pm_Gb L b, I, J) Q ↔ Q (pm_at n r coin) 0 (pm_Gb L b, I, J) := by
  rw [pt_get_32_0 h.1.1, h.1.2, pm_at_cg (f := fun k => I 33 (1 * k + 0)) (fun k hk => (h.2 k hk).1)]
theorem dee_n {t c : Nat → Int32} {n : Int32} {field fr to day amount known : Nat → Int32} (h : pg_dee t c n field fr to day amount known) : 0 ≤ n ∧ n ≤ 24 := by
  obtain ⟨⟨⟨_, _, h1, h2⟩, rfl⟩, _⟩ := h; exact ⟨h1, h2⟩
theorem dee_in {t c : Nat → Int32} {n : Int32} {field fr to day amount known : Nat → Int32} (h : pg_dee t c n field fr to day amount known) {p : Int32} (h0 : 0 ≤ p) (h1 : p < n) : pm_in p 24 = true := by
  have := (dee_n h).2
  rw [pi_lt] at h1; rw [pi_le] at this
  exact pi_in h0 (by have e : (24 : Int32).toInt = 24 := rfl; omega)
theorem dee_in2 {t c : Nat → Int32} {n : Int32} {field fr to day amount known : Nat → Int32} (h : pg_dee t c n field fr to day amount known) (h1 : n < 24) : pm_in n 24 = true := by
  rw [pi_lt] at h1
  exact pi_in (dee_n h).1 (by have e : (24 : Int32).toInt = 24 := rfl; omega)
theorem dee_eq {t c : Nat → Int32} {n : Int32} {field fr to day amount known : Nat → Int32} (h : pg_dee t c n field fr to day amount known) : (n = 24) = (24 ≤ n) := by
  have := (dee_n h).2
  rw [pi_le] at this
  rw [pi_eq, pi_le]; exact propext (by omega)
theorem px_dee_0 {d L : Nat} {b : Bool} {I : Nat → Nat → Int32} {J : Nat → Nat → Int64} {r : Int32} {n : Int32} {field fr to day amount known : Nat → Int32} {Q : Int32 → Int64 → pm_H → Prop} (h : pg_dee (I 34) (I 35) n field fr to day amount known) : pm_wc pm_code pm_meta d 83 [.ref 34, .int r, .int 0] (pm_Gb L b, I, J) Q ↔ Q (pm_at n r field) 0 (pm_Gb L b, I, J) := by
  rw [pt_get_34_0 h.1.1, h.1.2, pm_at_cg (f := fun k => I 35 (6 * k + 0)) (fun k hk => (h.2 k hk).1.1)]
theorem px_dee_1 {d L : Nat} {b : Bool} {I : Nat → Nat → Int32} {J : Nat → Nat → Int64} {r : Int32} {n : Int32} {field fr to day amount known : Nat → Int32} {Q : Int32 → Int64 → pm_H → Prop} (h : pg_dee (I 34) (I 35) n field fr to day amount known) : pm_wc pm_code pm_meta d 83 [.ref 34, .int r, .int 1] (pm_Gb L b, I, J) Q ↔ Q (pm_at n r fr) 0 (pm_Gb L b, I, J) := by
  rw [pt_get_34_1 h.1.1, h.1.2, pm_at_cg (f := fun k => I 35 (6 * k + 1)) (fun k hk => (h.2 k hk).1.2.1)]
theorem px_dee_2 {d L : Nat} {b : Bool} {I : Nat → Nat → Int32} {J : Nat → Nat → Int64} {r : Int32} {n : Int32} {field fr to day amount known : Nat → Int32} {Q : Int32 → Int64 → pm_H → Prop} (h : pg_dee (I 34) (I 35) n field fr to day amount known) : pm_wc pm_code pm_meta d 83 [.ref 34, .int r, .int 2] (pm_Gb L b, I, J) Q ↔ Q (pm_at n r to) 0 (pm_Gb L b, I, J) := by
  rw [pt_get_34_2 h.1.1, h.1.2, pm_at_cg (f := fun k => I 35 (6 * k + 2)) (fun k hk => (h.2 k hk).1.2.2.1)]
theorem px_dee_3 {d L : Nat} {b : Bool} {I : Nat → Nat → Int32} {J : Nat → Nat → Int64} {r : Int32} {n : Int32} {field fr to day amount known : Nat → Int32} {Q : Int32 → Int64 → pm_H → Prop} (h : pg_dee (I 34) (I 35) n field fr to day amount known) : pm_wc pm_code pm_meta d 83 [.ref 34, .int r, .int 3] (pm_Gb L b, I, J) Q ↔ Q (pm_at n r day) 0 (pm_Gb L b, I, J) := by
  rw [pt_get_34_3 h.1.1, h.1.2, pm_at_cg (f := fun k => I 35 (6 * k + 3)) (fun k hk => (h.2 k hk).1.2.2.2.1)]
theorem px_dee_4 {d L : Nat} {b : Bool} {I : Nat → Nat → Int32} {J : Nat → Nat → Int64} {r : Int32} {n : Int32} {field fr to day amount known : Nat → Int32} {Q : Int32 → Int64 → pm_H → Prop} (h : pg_dee (I 34) (I 35) n field fr to day amount known) : pm_wc pm_code pm_meta d 83 [.ref 34, .int r, .int 4] (pm_Gb L b, I, J) Q ↔ Q (pm_at n r amount) 0 (pm_Gb L b, I, J) := by
  rw [pt_get_34_4 h.1.1, h.1.2, pm_at_cg (f := fun k => I 35 (6 * k + 4)) (fun k hk => (h.2 k hk).1.2.2.2.2.1)]
theorem px_dee_5 {d L : Nat} {b : Bool} {I : Nat → Nat → Int32} {J : Nat → Nat → Int64} {r : Int32} {n : Int32} {field fr to day amount known : Nat → Int32} {Q : Int32 → Int64 → pm_H → Prop} (h : pg_dee (I 34) (I 35) n field fr to day amount known) : pm_wc pm_code pm_meta d 83 [.ref 34, .int r, .int 5] (pm_Gb L b, I, J) Q ↔ Q (pm_at n r known) 0 (pm_Gb L b, I, J) := by
  rw [pt_get_34_5 h.1.1, h.1.2, pm_at_cg (f := fun k => I 35 (6 * k + 5)) (fun k hk => (h.2 k hk).1.2.2.2.2.2)]

