/-! THE CALL days. -/
theorem pm_r_r {α : Type} (f : Nat → Nat → α) (a : Nat) (r s : Nat → α) : pm_r (pm_r f a r) a s = pm_r f a s := by
  funext b; simp only [pm_r_row]; split <;> rfl
theorem pr_rots_loop {d L : Nat} {b : Bool} {I : Nat → Nat → Int32} {J : Nat → Nat → Int64} {x y : Int32} {Q : Int32 → Int64 → pm_H → Prop} (h2 : 0 ≤ I 80 2) (h8 : I 80 2 ≤ 8) (hp : ∀ i : Int32, 0 ≤ i → i < I 80 2 → 0 ≤ I 84 i.toNatClampNeg ∧ I 84 i.toNatClampNeg ≤ 9) (h3 : 0 ≤ I 80 3) (h24 : I 80 3 ≤ 24) : pm_wp pm_code pm_meta (d + 3) 193 49 ([.ref 79, .int x, .int y, .int 0], [], (pm_Gb L b, I, J)) Q ↔ pm_wp pm_code pm_meta (d + 3) 193 72 ([.ref 79, .int x, .int y, .int 0], [], (pm_Gb L b, pm_r I 97 (pm_fo (fun g h => pf_rg (I 80 0) (I 89) (I 94) (I 95) (I 96) (I 80 3) g (fun j => j) g h) (I 80 2).toNatClampNeg 0 (I 97)), J)) Q := by
  have hl : I 80 2 < 2147483647 := pi_ltb (Int32.lt_of_le_of_lt h8 (by decide : (8 : Int32) < 100)) (by decide)
  have key := pm_for (A := fun g i => pm_wp pm_code pm_meta (d + 3) 193 49 ([.ref 79, .int x, .int y, .int i], [], (pm_Gb L b, pm_r I 97 g, J)) Q) (E := fun g => pm_wp pm_code pm_meta (d + 3) 193 72 ([.ref 79, .int x, .int y, .int 0], [], (pm_Gb L b, pm_r I 97 g, J)) Q) (f := (fun g h => pf_rg (I 80 0) (I 89) (I 94) (I 95) (I 96) (I 80 3) g (fun j => j) g h)) h2 hl (fun g i h0 => ?_) (I 97)
  · rw [pm_r_self] at key
    exact key
  · rw [pb_193_49]
    by_cases hi : I 80 2 ≤ i
    · simp only [pm_r_row, Nat.reduceEqDiff, hi, if_true, if_false, pb_193_70]
    · have i1 := pi_in8 h8 h0 (Int32.not_le.mp hi)
      simp only [pm_r_row, Nat.reduceEqDiff, hi, if_true, if_false, pb_193_59, pr_rots (I := pm_r I 97 g) h3 h24 i1, pb_193_64, pm_r_r]
theorem pr_hides_loop {d L : Nat} {b : Bool} {I : Nat → Nat → Int32} {J : Nat → Nat → Int64} {x y : Int32} {Q : Int32 → Int64 → pm_H → Prop} (h2 : 0 ≤ I 80 2) (h8 : I 80 2 ≤ 8) (hp : ∀ i : Int32, 0 ≤ i → i < I 80 2 → 0 ≤ I 84 i.toNatClampNeg ∧ I 84 i.toNatClampNeg ≤ 9) (h3 : 0 ≤ I 80 3) (h24 : I 80 3 ≤ 24) : pm_wp pm_code pm_meta (d + 3) 193 72 ([.ref 79, .int x, .int y, .int 0], [], (pm_Gb L b, I, J)) Q ↔ pm_wp pm_code pm_meta (d + 3) 193 32 ([.ref 79, .int x, .int (y + 1), .int (I 80 2)], [], (pm_Gb L b, pm_r I 97 (pm_fo (fun g h => pf_hg (I 80 0) (I 80 2) (I 88) (I 84) (I 81) (I 87) (I 94) (I 95) (I 96) (I 80 3) g (fun j => j) g h) (I 80 2).toNatClampNeg 0 (I 97)), J)) Q := by
  have hl : I 80 2 < 2147483647 := pi_ltb (Int32.lt_of_le_of_lt h8 (by decide : (8 : Int32) < 100)) (by decide)
  have key := pm_for_i (A := fun g i => pm_wp pm_code pm_meta (d + 3) 193 72 ([.ref 79, .int x, .int y, .int i], [], (pm_Gb L b, pm_r I 97 g, J)) Q) (E := fun g i => pm_wp pm_code pm_meta (d + 3) 193 32 ([.ref 79, .int x, .int (y + 1), .int i], [], (pm_Gb L b, pm_r I 97 g, J)) Q) (f := (fun g h => pf_hg (I 80 0) (I 80 2) (I 88) (I 84) (I 81) (I 87) (I 94) (I 95) (I 96) (I 80 3) g (fun j => j) g h)) h2 hl (fun g i h0 => ?_) (I 97)
  · rw [pm_r_self] at key
    exact key
  · rw [pb_193_72]
    by_cases hi : I 80 2 ≤ i
    · simp only [pm_r_row, Nat.reduceEqDiff, hi, if_true, if_false, pb_193_93]
    · have h1 := Int32.not_le.mp hi
      simp only [pm_r_row, Nat.reduceEqDiff, hi, if_true, if_false, pb_193_82]
      refine (pr_hides (d := d) (I := pm_r I 97 g) h2 h8 hp h3 h24 h0 h1).trans ?_
      simp only [pm_r_row, Nat.reduceEqDiff, if_true, if_false, pb_193_87, pm_r_r]
theorem pr_days_loop {d L : Nat} {b : Bool} {I : Nat → Nat → Int32} {J : Nat → Nat → Int64} {x : Int32} {Q : Int32 → Int64 → pm_H → Prop} (h2 : 0 ≤ I 80 2) (h8 : I 80 2 ≤ 8) (hp : ∀ i : Int32, 0 ≤ i → i < I 80 2 → 0 ≤ I 84 i.toNatClampNeg ∧ I 84 i.toNatClampNeg ≤ 9) (h3 : 0 ≤ I 80 3) (h24 : I 80 3 ≤ 24) (hx : 0 ≤ x) (hxl : x ≤ 400) : pm_wp pm_code pm_meta (d + 3) 193 32 ([.ref 79, .int x, .int 0, pm_unset], [], (pm_Gb L b, I, J)) Q ↔ Q (pm_fo (fun (s : Int32 × (Nat → Int32)) _ => (s.1 + 1, pf_day (s.1 + 1) (I 89) (I 80 2) (I 88) (I 84) (I 81) (I 87) (I 94) (I 95) (I 96) (I 80 3) s.2)) x.toNatClampNeg 0 (I 80 0, I 97)).1 0 (pm_Gb L b, pm_r (pm_u I 80 0 (pm_fo (fun (s : Int32 × (Nat → Int32)) _ => (s.1 + 1, pf_day (s.1 + 1) (I 89) (I 80 2) (I 88) (I 84) (I 81) (I 87) (I 94) (I 95) (I 96) (I 80 3) s.2)) x.toNatClampNeg 0 (I 80 0, I 97)).1) 97 (pm_fo (fun (s : Int32 × (Nat → Int32)) _ => (s.1 + 1, pf_day (s.1 + 1) (I 89) (I 80 2) (I 88) (I 84) (I 81) (I 87) (I 94) (I 95) (I 96) (I 80 3) s.2)) x.toNatClampNeg 0 (I 80 0, I 97)).2, J) := by
  have hl : x < 2147483647 := pi_ltb (Int32.lt_of_le_of_lt hxl (by decide : (400 : Int32) < 1000)) (by decide)
  have e0 : pm_r (pm_u I 80 0 (I 80 0)) 97 (I 97) = I := by
    funext a j
    simp only [pm_r_row, pm_u_row]
    by_cases e : a = 97
    · subst e; simp
    · by_cases e2 : a = 80
      · subst e2; simp only [e, if_false, if_true, pm_w_at]; split <;> simp_all
      · simp only [e, e2, if_false]
  let F : (Int32 × (Nat → Int32)) × Option Int32 → Int32 → (Int32 × (Nat → Int32)) × Option Int32 := fun u _ => ((fun (s : Int32 × (Nat → Int32)) => (s.1 + 1, pf_day (s.1 + 1) (I 89) (I 80 2) (I 88) (I 84) (I 81) (I 87) (I 94) (I 95) (I 96) (I 80 3) s.2)) u.1, some (I 80 2))
  have pr : ∀ (m : Nat) (i : Int32) (u : (Int32 × (Nat → Int32)) × Option Int32), (pm_fo F m i u).1 = pm_fo (fun (s : Int32 × (Nat → Int32)) _ => (s.1 + 1, pf_day (s.1 + 1) (I 89) (I 80 2) (I 88) (I 84) (I 81) (I 87) (I 94) (I 95) (I 96) (I 80 3) s.2)) m i u.1 := by
    intro m
    induction m with
    | zero => intro i u; rfl
    | succ m ih => intro i u; unfold pm_fo; rw [ih]
  have key := pm_for (A := fun u i => pm_wp pm_code pm_meta (d + 3) 193 32 ([.ref 79, .int x, .int i, pm_vl u.2], [], (pm_Gb L b, pm_r (pm_u I 80 0 u.1.1) 97 u.1.2, J)) Q) (E := fun u => Q u.1.1 0 (pm_Gb L b, pm_r (pm_u I 80 0 u.1.1) 97 u.1.2, J)) (f := F) hx hl (fun u i h0 => ?_) ((I 80 0, I 97), none)
  · simp only [pr, e0, pm_vl_n] at key
    exact key
  · obtain ⟨⟨t, g⟩, v⟩ := u
    have u1 : pm_u (pm_r (pm_u I 80 0 t) 97 g) 80 0 (t + 1) = pm_r (pm_u I 80 0 (t + 1)) 97 g := by
      funext a j
      simp only [pm_r_row, pm_u_row]
      by_cases e : a = 97
      · subst e; simp
      · by_cases e2 : a = 80
        · subst e2; simp only [e, if_false, if_true, pm_w_at]; split <;> rfl
        · simp only [e, e2, if_false]
    by_cases hi : x ≤ i
    · cases v <;> (simp only [pm_vl_n, pm_vl_s]; first | rw [pb_193_32] | rw [pb_193_32b]) <;> simp only [hi, if_true, pb_193_99, pb_193_99b, pm_u_row, pm_zr_row, pm_r_row, pm_w_at, Nat.reduceEqDiff, Nat.reduceLT, ite_true, ite_false, if_true, if_false, ite_self]
    · have st : pm_wp pm_code pm_meta (d + 3) 193 49 ([.ref 79, .int x, .int i, .int 0], [], (pm_Gb L b, pm_r (pm_u I 80 0 (t + 1)) 97 g, J)) Q ↔ pm_wp pm_code pm_meta (d + 3) 193 32 ([.ref 79, .int x, .int (i + 1), .int (I 80 2)], [], (pm_Gb L b, pm_r (pm_u I 80 0 (t + 1)) 97 (pf_day (t + 1) (I 89) (I 80 2) (I 88) (I 84) (I 81) (I 87) (I 94) (I 95) (I 96) (I 80 3) g), J)) Q := by
        refine (pr_rots_loop (I := pm_r (pm_u I 80 0 (t + 1)) 97 g) (by simpa only [pm_u_row, pm_zr_row, pm_r_row, pm_w_at, Nat.reduceEqDiff, Nat.reduceLT, ite_true, ite_false, if_true, if_false, ite_self] using h2) (by simpa only [pm_u_row, pm_zr_row, pm_r_row, pm_w_at, Nat.reduceEqDiff, Nat.reduceLT, ite_true, ite_false, if_true, if_false, ite_self] using h8) (by simpa only [pm_u_row, pm_zr_row, pm_r_row, pm_w_at, Nat.reduceEqDiff, Nat.reduceLT, ite_true, ite_false, if_true, if_false, ite_self] using hp) (by simpa only [pm_u_row, pm_zr_row, pm_r_row, pm_w_at, Nat.reduceEqDiff, Nat.reduceLT, ite_true, ite_false, if_true, if_false, ite_self] using h3) (by simpa only [pm_u_row, pm_zr_row, pm_r_row, pm_w_at, Nat.reduceEqDiff, Nat.reduceLT, ite_true, ite_false, if_true, if_false, ite_self] using h24)).trans ?_
        simp only [pm_u_row, pm_zr_row, pm_r_row, pm_w_at, Nat.reduceEqDiff, Nat.reduceLT, ite_true, ite_false, if_true, if_false, ite_self, pm_r_r]
        refine (pr_hides_loop (I := pm_r (pm_u I 80 0 (t + 1)) 97 (pm_fo (fun g h => pf_rg (t + 1) (I 89) (I 94) (I 95) (I 96) (I 80 3) g (fun j => j) g h) (I 80 2).toNatClampNeg 0 g)) (by simpa only [pm_u_row, pm_zr_row, pm_r_row, pm_w_at, Nat.reduceEqDiff, Nat.reduceLT, ite_true, ite_false, if_true, if_false, ite_self] using h2) (by simpa only [pm_u_row, pm_zr_row, pm_r_row, pm_w_at, Nat.reduceEqDiff, Nat.reduceLT, ite_true, ite_false, if_true, if_false, ite_self] using h8) (by simpa only [pm_u_row, pm_zr_row, pm_r_row, pm_w_at, Nat.reduceEqDiff, Nat.reduceLT, ite_true, ite_false, if_true, if_false, ite_self] using hp) (by simpa only [pm_u_row, pm_zr_row, pm_r_row, pm_w_at, Nat.reduceEqDiff, Nat.reduceLT, ite_true, ite_false, if_true, if_false, ite_self] using h3) (by simpa only [pm_u_row, pm_zr_row, pm_r_row, pm_w_at, Nat.reduceEqDiff, Nat.reduceLT, ite_true, ite_false, if_true, if_false, ite_self] using h24)).trans ?_
        simp only [pm_u_row, pm_zr_row, pm_r_row, pm_w_at, Nat.reduceEqDiff, Nat.reduceLT, ite_true, ite_false, if_true, if_false, ite_self, pm_r_r]
        exact Iff.rfl
      cases v <;> (simp only [pm_vl_n, pm_vl_s]; first | rw [pb_193_32] | rw [pb_193_32b]) <;> simp only [hi, if_false, pb_193_37, pb_193_37b, pm_u_row, pm_zr_row, pm_r_row, pm_w_at, Nat.reduceEqDiff, Nat.reduceLT, ite_true, ite_false, if_true, if_false, ite_self, u1] <;> exact st

