/-! THE CONSTRUCTORS: what holds then. -/
set_option maxRecDepth 20000 in
theorem st_ti_10 (xs : Nat → Int32) : pm_ti (caI_231 (pm_IS xs) 10) 10 10 := ⟨rfl, rfl, (show (0 : Int32) ≤ 10 by decide), (show (10 : Int32) ≤ 10 by decide)⟩
set_option maxRecDepth 20000 in
theorem st_n_10 (xs : Nat → Int32) : caI_231 (pm_IS xs) 10 3 = 10 := rfl
set_option maxRecDepth 20000 in
theorem st_ti_12 (xs : Nat → Int32) : pm_ti (caI_231 (pm_IS xs) 12) 2 16 := ⟨rfl, rfl, (show (0 : Int32) ≤ 0 by decide), (show (0 : Int32) ≤ 16 by decide)⟩
set_option maxRecDepth 20000 in
theorem st_n_12 (xs : Nat → Int32) : caI_231 (pm_IS xs) 12 3 = 0 := rfl
set_option maxRecDepth 20000 in
theorem st_ti_14 (xs : Nat → Int32) : pm_ti (caI_231 (pm_IS xs) 14) 10 8 := ⟨rfl, rfl, (show (0 : Int32) ≤ 0 by decide), (show (0 : Int32) ≤ 8 by decide)⟩
set_option maxRecDepth 20000 in
theorem st_n_14 (xs : Nat → Int32) : caI_231 (pm_IS xs) 14 3 = 0 := rfl
set_option maxRecDepth 20000 in
theorem st_ti_16 (xs : Nat → Int32) : pm_ti (caI_231 (pm_IS xs) 16) 5 24 := ⟨rfl, rfl, (show (0 : Int32) ≤ 0 by decide), (show (0 : Int32) ≤ 24 by decide)⟩
set_option maxRecDepth 20000 in
theorem st_n_16 (xs : Nat → Int32) : caI_231 (pm_IS xs) 16 3 = 0 := rfl
set_option maxRecDepth 20000 in
theorem st_ti_18 (xs : Nat → Int32) : pm_ti (caI_231 (pm_IS xs) 18) 16 24 := ⟨rfl, rfl, (show (0 : Int32) ≤ 0 by decide), (show (0 : Int32) ≤ 24 by decide)⟩
set_option maxRecDepth 20000 in
theorem st_n_18 (xs : Nat → Int32) : caI_231 (pm_IS xs) 18 3 = 0 := rfl
set_option maxRecDepth 20000 in
theorem st_ti_20 (xs : Nat → Int32) : pm_ti (caI_231 (pm_IS xs) 20) 5 12 := ⟨rfl, rfl, (show (0 : Int32) ≤ 0 by decide), (show (0 : Int32) ≤ 12 by decide)⟩
set_option maxRecDepth 20000 in
theorem st_n_20 (xs : Nat → Int32) : caI_231 (pm_IS xs) 20 3 = 0 := rfl
set_option maxRecDepth 20000 in
theorem st_ti_22 (xs : Nat → Int32) : pm_ti (caI_231 (pm_IS xs) 22) 5 120 := ⟨rfl, rfl, (show (0 : Int32) ≤ 0 by decide), (show (0 : Int32) ≤ 120 by decide)⟩
set_option maxRecDepth 20000 in
theorem st_n_22 (xs : Nat → Int32) : caI_231 (pm_IS xs) 22 3 = 0 := rfl
set_option maxRecDepth 20000 in
theorem st_ti_24 (xs : Nat → Int32) : pm_ti (caI_231 (pm_IS xs) 24) 2 1200 := ⟨rfl, rfl, (show (0 : Int32) ≤ 0 by decide), (show (0 : Int32) ≤ 1200 by decide)⟩
set_option maxRecDepth 20000 in
theorem st_n_24 (xs : Nat → Int32) : caI_231 (pm_IS xs) 24 3 = 0 := rfl
set_option maxRecDepth 20000 in
theorem st_ti_26 (xs : Nat → Int32) : pm_ti (caI_231 (pm_IS xs) 26) 1 4 := ⟨rfl, rfl, (show (0 : Int32) ≤ 4 by decide), (show (4 : Int32) ≤ 4 by decide)⟩
set_option maxRecDepth 20000 in
theorem st_n_26 (xs : Nat → Int32) : caI_231 (pm_IS xs) 26 3 = 4 := rfl
set_option maxRecDepth 20000 in
theorem st_ti_28 (xs : Nat → Int32) : pm_ti (caI_231 (pm_IS xs) 28) 3 24 := ⟨rfl, rfl, (show (0 : Int32) ≤ 0 by decide), (show (0 : Int32) ≤ 24 by decide)⟩
set_option maxRecDepth 20000 in
theorem st_n_28 (xs : Nat → Int32) : caI_231 (pm_IS xs) 28 3 = 0 := rfl
set_option maxRecDepth 20000 in
theorem st_ti_30 (xs : Nat → Int32) : pm_ti (caI_231 (pm_IS xs) 30) 1 7 := ⟨rfl, rfl, (show (0 : Int32) ≤ 0 by decide), (show (0 : Int32) ≤ 7 by decide)⟩
set_option maxRecDepth 20000 in
theorem st_n_30 (xs : Nat → Int32) : caI_231 (pm_IS xs) 30 3 = 0 := rfl
set_option maxRecDepth 20000 in
theorem st_ti_32 (xs : Nat → Int32) : pm_ti (caI_231 (pm_IS xs) 32) 1 3 := ⟨rfl, rfl, (show (0 : Int32) ≤ 0 by decide), (show (0 : Int32) ≤ 3 by decide)⟩
set_option maxRecDepth 20000 in
theorem st_n_32 (xs : Nat → Int32) : caI_231 (pm_IS xs) 32 3 = 0 := rfl
set_option maxRecDepth 20000 in
theorem st_ti_34 (xs : Nat → Int32) : pm_ti (caI_231 (pm_IS xs) 34) 6 24 := ⟨rfl, rfl, (show (0 : Int32) ≤ 0 by decide), (show (0 : Int32) ≤ 24 by decide)⟩
set_option maxRecDepth 20000 in
theorem st_n_34 (xs : Nat → Int32) : caI_231 (pm_IS xs) 34 3 = 0 := rfl
set_option maxRecDepth 20000 in
theorem st_ti_38 (xs : Nat → Int32) : pm_ti (caI_231 (pm_IS xs) 38) 3 24 := ⟨rfl, rfl, (show (0 : Int32) ≤ 0 by decide), (show (0 : Int32) ≤ 24 by decide)⟩
set_option maxRecDepth 20000 in
theorem st_n_38 (xs : Nat → Int32) : caI_231 (pm_IS xs) 38 3 = 0 := rfl
set_option maxRecDepth 20000 in
theorem st_ti_42 (xs : Nat → Int32) : pm_ti (caI_231 (pm_IS xs) 42) 3 301 := ⟨rfl, rfl, (show (0 : Int32) ≤ 0 by decide), (show (0 : Int32) ≤ 301 by decide)⟩
set_option maxRecDepth 20000 in
theorem st_n_42 (xs : Nat → Int32) : caI_231 (pm_IS xs) 42 3 = 0 := rfl
set_option maxRecDepth 20000 in
theorem st_ti_44 (xs : Nat → Int32) : pm_ti (caI_231 (pm_IS xs) 44) 5 10 := ⟨rfl, rfl, (show (0 : Int32) ≤ 0 by decide), (show (0 : Int32) ≤ 10 by decide)⟩
set_option maxRecDepth 20000 in
theorem st_n_44 (xs : Nat → Int32) : caI_231 (pm_IS xs) 44 3 = 0 := rfl
set_option maxRecDepth 20000 in
theorem st_ti_46 (xs : Nat → Int32) : pm_ti (caI_231 (pm_IS xs) 46) 2 100 := ⟨rfl, rfl, (show (0 : Int32) ≤ 0 by decide), (show (0 : Int32) ≤ 100 by decide)⟩
set_option maxRecDepth 20000 in
theorem st_n_46 (xs : Nat → Int32) : caI_231 (pm_IS xs) 46 3 = 0 := rfl
set_option maxRecDepth 20000 in
theorem st_ti_49 (xs : Nat → Int32) : pm_ti (caI_231 (pm_IS xs) 49) 2 7 := ⟨rfl, rfl, (show (0 : Int32) ≤ 0 by decide), (show (0 : Int32) ≤ 7 by decide)⟩
set_option maxRecDepth 20000 in
theorem st_n_49 (xs : Nat → Int32) : caI_231 (pm_IS xs) 49 3 = 0 := rfl
set_option maxRecDepth 20000 in
theorem st_ti_51 (xs : Nat → Int32) : pm_ti (caI_231 (pm_IS xs) 51) 2 7 := ⟨rfl, rfl, (show (0 : Int32) ≤ 0 by decide), (show (0 : Int32) ≤ 7 by decide)⟩
set_option maxRecDepth 20000 in
theorem st_n_51 (xs : Nat → Int32) : caI_231 (pm_IS xs) 51 3 = 0 := rfl
set_option maxRecDepth 20000 in
theorem st_ti_53 (xs : Nat → Int32) : pm_ti (caI_231 (pm_IS xs) 53) 1 7 := ⟨rfl, rfl, (show (0 : Int32) ≤ 7 by decide), (show (7 : Int32) ≤ 7 by decide)⟩
set_option maxRecDepth 20000 in
theorem st_n_53 (xs : Nat → Int32) : caI_231 (pm_IS xs) 53 3 = 7 := rfl
set_option maxRecDepth 20000 in
theorem st_ti_55 (xs : Nat → Int32) : pm_ti (caI_231 (pm_IS xs) 55) 1 7 := ⟨rfl, rfl, (show (0 : Int32) ≤ 0 by decide), (show (0 : Int32) ≤ 7 by decide)⟩
set_option maxRecDepth 20000 in
theorem st_n_55 (xs : Nat → Int32) : caI_231 (pm_IS xs) 55 3 = 0 := rfl
set_option maxRecDepth 20000 in
theorem st_ti_58 (xs : Nat → Int32) : pm_ti (caI_231 (pm_IS xs) 58) 1 3 := ⟨rfl, rfl, (show (0 : Int32) ≤ 3 by decide), (show (3 : Int32) ≤ 3 by decide)⟩
set_option maxRecDepth 20000 in
theorem st_n_58 (xs : Nat → Int32) : caI_231 (pm_IS xs) 58 3 = 3 := rfl
set_option maxRecDepth 20000 in
theorem st_ti_60 (xs : Nat → Int32) : pm_ti (caI_231 (pm_IS xs) 60) 1 7 := ⟨rfl, rfl, (show (0 : Int32) ≤ 7 by decide), (show (7 : Int32) ≤ 7 by decide)⟩
set_option maxRecDepth 20000 in
theorem st_n_60 (xs : Nat → Int32) : caI_231 (pm_IS xs) 60 3 = 7 := rfl
set_option maxRecDepth 20000 in
theorem st_ti_62 (xs : Nat → Int32) : pm_ti (caI_231 (pm_IS xs) 62) 1 7 := ⟨rfl, rfl, (show (0 : Int32) ≤ 0 by decide), (show (0 : Int32) ≤ 7 by decide)⟩
set_option maxRecDepth 20000 in
theorem st_n_62 (xs : Nat → Int32) : caI_231 (pm_IS xs) 62 3 = 0 := rfl
set_option maxRecDepth 20000 in
theorem st_ti_65 (xs : Nat → Int32) : pm_ti (caI_231 (pm_IS xs) 65) 1 24 := ⟨rfl, rfl, (show (0 : Int32) ≤ 0 by decide), (show (0 : Int32) ≤ 24 by decide)⟩
set_option maxRecDepth 20000 in
theorem st_n_65 (xs : Nat → Int32) : caI_231 (pm_IS xs) 65 3 = 0 := rfl
set_option maxRecDepth 20000 in
theorem st_ti_68 (xs : Nat → Int32) : pm_ti (caI_231 (pm_IS xs) 68) 1 256 := ⟨rfl, rfl, (show (0 : Int32) ≤ 256 by decide), (show (256 : Int32) ≤ 256 by decide)⟩
set_option maxRecDepth 20000 in
theorem st_n_68 (xs : Nat → Int32) : caI_231 (pm_IS xs) 68 3 = 256 := rfl
set_option maxRecDepth 20000 in
theorem st_ti_71 (xs : Nat → Int32) : pm_ti (caI_231 (pm_IS xs) 71) 2 4 := ⟨rfl, rfl, (show (0 : Int32) ≤ 4 by decide), (show (4 : Int32) ≤ 4 by decide)⟩
set_option maxRecDepth 20000 in
theorem st_n_71 (xs : Nat → Int32) : caI_231 (pm_IS xs) 71 3 = 4 := rfl
set_option maxRecDepth 20000 in
theorem st_ti_73 (xs : Nat → Int32) : pm_ti (caI_231 (pm_IS xs) 73) 40 4 := ⟨rfl, rfl, (show (0 : Int32) ≤ 4 by decide), (show (4 : Int32) ≤ 4 by decide)⟩
set_option maxRecDepth 20000 in
theorem st_n_73 (xs : Nat → Int32) : caI_231 (pm_IS xs) 73 3 = 4 := rfl
set_option maxRecDepth 20000 in
theorem st_ti_75 (xs : Nat → Int32) : pm_ti (caI_231 (pm_IS xs) 75) 3 4 := ⟨rfl, rfl, (show (0 : Int32) ≤ 4 by decide), (show (4 : Int32) ≤ 4 by decide)⟩
set_option maxRecDepth 20000 in
theorem st_n_75 (xs : Nat → Int32) : caI_231 (pm_IS xs) 75 3 = 4 := rfl
set_option maxRecDepth 20000 in
theorem st_ti_77 (xs : Nat → Int32) : pm_ti (caI_231 (pm_IS xs) 77) 1 30 := ⟨rfl, rfl, (show (0 : Int32) ≤ 0 by decide), (show (0 : Int32) ≤ 30 by decide)⟩
set_option maxRecDepth 20000 in
theorem st_n_77 (xs : Nat → Int32) : caI_231 (pm_IS xs) 77 3 = 0 := rfl
set_option maxRecDepth 20000 in
theorem st_r_11 (xs : Nat → Int32) {j : Nat} (h : j < 100) : caI_231 (pm_IS xs) 11 j = if j % 11 = 0 then 0 else 5 := by
  have e : caI_231 (pm_IS xs) 11 j = (if 11 = 11 ∧ j < 100 then (if j % 11 = 0 then 0 else 5) else 0) := rfl
  rw [e, if_pos ⟨rfl, h⟩]
set_option maxRecDepth 20000 in
theorem st_r_81 (xs : Nat → Int32) {j : Nat} (h : j < 100) : caI_231 (pm_IS xs) 81 j = if j % 11 = 0 then 0 else 5 := by
  have e : caI_231 (pm_IS xs) 81 j = (if 81 = 81 ∧ j < 100 then (if j % 11 = 0 then 0 else 5) else 0) := rfl
  rw [e, if_pos ⟨rfl, h⟩]
set_option maxRecDepth 20000 in
theorem st_80_0 (xs : Nat → Int32) : caI_231 (pm_IS xs) 80 0 = 0 := rfl
set_option maxRecDepth 20000 in
theorem st_80_1 (xs : Nat → Int32) : caI_231 (pm_IS xs) 80 1 = 0 := rfl
set_option maxRecDepth 20000 in
theorem st_80_2 (xs : Nat → Int32) : caI_231 (pm_IS xs) 80 2 = 0 := rfl
set_option maxRecDepth 20000 in
theorem st_80_3 (xs : Nat → Int32) : caI_231 (pm_IS xs) 80 3 = 0 := rfl
set_option maxRecDepth 20000 in
theorem st_80_4 (xs : Nat → Int32) : caI_231 (pm_IS xs) 80 4 = 0 := rfl
set_option maxRecDepth 20000 in
theorem st_80_5 (xs : Nat → Int32) : caI_231 (pm_IS xs) 80 5 = 0 := rfl
set_option maxRecDepth 20000 in
theorem st_80_6 (xs : Nat → Int32) : caI_231 (pm_IS xs) 80 6 = 0 := rfl
set_option maxRecDepth 20000 in
theorem st_80_7 (xs : Nat → Int32) : caI_231 (pm_IS xs) 80 7 = 0 := rfl
set_option maxRecDepth 20000 in
theorem st_80_8 (xs : Nat → Int32) : caI_231 (pm_IS xs) 80 8 = 0 := rfl
set_option maxRecDepth 20000 in
theorem st_80_9 (xs : Nat → Int32) : caI_231 (pm_IS xs) 80 9 = 0 := rfl
set_option maxRecDepth 20000 in
theorem st_79_57 (xs : Nat → Int32) : caI_231 (pm_IS xs) 79 57 = 0 := rfl
set_option maxRecDepth 20000 in
theorem st_79_61 (xs : Nat → Int32) : caI_231 (pm_IS xs) 79 61 = 0 := rfl
set_option maxRecDepth 20000 in
theorem st_79_83 (xs : Nat → Int32) : caI_231 (pm_IS xs) 79 83 = 0 := rfl
set_option maxRecDepth 20000 in
theorem st_79_84 (xs : Nat → Int32) : caI_231 (pm_IS xs) 79 84 = 0 := rfl
set_option maxRecDepth 20000 in
theorem st_79_85 (xs : Nat → Int32) : caI_231 (pm_IS xs) 79 85 = 0 := rfl
set_option maxRecDepth 20000 in
theorem st_79_101 (xs : Nat → Int32) : caI_231 (pm_IS xs) 79 101 = 0 := rfl
set_option maxRecDepth 20000 in
theorem st_9_0 (xs : Nat → Int32) : caI_231 (pm_IS xs) 9 0 = 0 := rfl
set_option maxRecDepth 20000 in
theorem st_40_1 (xs : Nat → Int32) : caI_231 (pm_IS xs) 40 1 = 0 := rfl
set_option maxRecDepth 20000 in
theorem st_5_1 (xs : Nat → Int32) : caI_231 (pm_IS xs) 5 1 = 0 := rfl
set_option maxRecDepth 20000 in
theorem st_z_27 (xs : Nat → Int32) (j : Nat) : caI_231 (pm_IS xs) 27 j = 0 := rfl
set_option maxRecDepth 20000 in
theorem st_z_124 (xs : Nat → Int32) (j : Nat) : caI_231 (pm_IS xs) 124 j = 0 := rfl
set_option maxRecDepth 20000 in
theorem st_z_74 (xs : Nat → Int32) (j : Nat) : caI_231 (pm_IS xs) 74 j = 0 := rfl
set_option maxRecDepth 20000 in
theorem st_z_152 (xs : Nat → Int32) (j : Nat) : caI_231 (pm_IS xs) 152 j = 0 := rfl
set_option maxRecDepth 20000 in
theorem st_zJ (j : Nat) : caJ_150 (fun _ _ => 0) 153 j = 0 := rfl
set_option maxRecDepth 20000 in
theorem st_72_0 (xs : Nat → Int32) : caI_231 (pm_IS xs) 72 (2 * 0 + 0) = -1 ∧ caI_231 (pm_IS xs) 151 0 = -1 ∧ caI_231 (pm_IS xs) 72 (2 * 0 + 1) = 0 := ⟨rfl, rfl, rfl⟩
set_option maxRecDepth 20000 in
theorem st_76_0 (xs : Nat → Int32) : caI_231 (pm_IS xs) 154 0 = 2 ∧ caI_231 (pm_IS xs) 76 (3 * 0 + 0) = 2 := ⟨rfl, rfl⟩
set_option maxRecDepth 20000 in
theorem st_72_1 (xs : Nat → Int32) : caI_231 (pm_IS xs) 72 (2 * 1 + 0) = -1 ∧ caI_231 (pm_IS xs) 151 1 = -1 ∧ caI_231 (pm_IS xs) 72 (2 * 1 + 1) = 0 := ⟨rfl, rfl, rfl⟩
set_option maxRecDepth 20000 in
theorem st_76_1 (xs : Nat → Int32) : caI_231 (pm_IS xs) 154 1 = 2 ∧ caI_231 (pm_IS xs) 76 (3 * 1 + 0) = 2 := ⟨rfl, rfl⟩
set_option maxRecDepth 20000 in
theorem st_72_2 (xs : Nat → Int32) : caI_231 (pm_IS xs) 72 (2 * 2 + 0) = -1 ∧ caI_231 (pm_IS xs) 151 2 = -1 ∧ caI_231 (pm_IS xs) 72 (2 * 2 + 1) = 0 := ⟨rfl, rfl, rfl⟩
set_option maxRecDepth 20000 in
theorem st_76_2 (xs : Nat → Int32) : caI_231 (pm_IS xs) 154 2 = 2 ∧ caI_231 (pm_IS xs) 76 (3 * 2 + 0) = 2 := ⟨rfl, rfl⟩
set_option maxRecDepth 20000 in
theorem st_72_3 (xs : Nat → Int32) : caI_231 (pm_IS xs) 72 (2 * 3 + 0) = -1 ∧ caI_231 (pm_IS xs) 151 3 = -1 ∧ caI_231 (pm_IS xs) 72 (2 * 3 + 1) = 0 := ⟨rfl, rfl, rfl⟩
set_option maxRecDepth 20000 in
theorem st_76_3 (xs : Nat → Int32) : caI_231 (pm_IS xs) 154 3 = 2 ∧ caI_231 (pm_IS xs) 76 (3 * 3 + 0) = 2 := ⟨rfl, rfl⟩
set_option maxRecDepth 20000 in
theorem st_s_1 (xs : Nat → Int32) (j : Nat) : caI_231 (pm_IS xs) 1 j = pm_IS xs 1 j := rfl
set_option maxRecDepth 20000 in
theorem st_s_2 (xs : Nat → Int32) (j : Nat) : caI_231 (pm_IS xs) 2 j = pm_IS xs 2 j := rfl
set_option maxRecDepth 20000 in
theorem st_s_3 (xs : Nat → Int32) (j : Nat) : caI_231 (pm_IS xs) 3 j = pm_IS xs 3 j := rfl
set_option maxRecDepth 20000 in
theorem st_s_4 (xs : Nat → Int32) (j : Nat) : caI_231 (pm_IS xs) 4 j = pm_IS xs 4 j := rfl
set_option maxRecDepth 20000 in
theorem st_s_6 (xs : Nat → Int32) (j : Nat) : caI_231 (pm_IS xs) 6 j = pm_IS xs 6 j := rfl
theorem st_vac {P : Nat → Prop} {n : Int32} (h : n = 0) : ∀ k : Nat, k < n.toNatClampNeg → P k := fun k hk => by
  rw [h] at hk; exact absurd hk (Nat.not_lt_zero k)
theorem inv_start (xs : Nat → Int32) : pm_inv xs false (caI_231 (pm_IS xs)) (caJ_150 (fun _ _ => 0)) := by
  have c0 : ∀ a b : Int32, a = 0 → b = 0 → a = b := fun a b h h' => h.trans h'.symm
  have land : pm_land (caI_231 (pm_IS xs)) (caI_231 (pm_IS xs)) := by
    refine ⟨⟨c0 _ _ (st_9_0 xs) (st_80_0 xs), by rw [st_80_0]; exact ⟨by decide, by decide⟩⟩, ⟨⟨st_ti_10 xs, st_n_10 xs⟩, fun j hj => ?_⟩, ⟨⟨st_ti_12 xs, c0 _ _ (st_n_12 xs) (st_80_1 xs)⟩, st_vac (st_80_1 xs)⟩, ⟨⟨st_ti_14 xs, c0 _ _ (st_n_14 xs) (st_80_2 xs)⟩, st_vac (st_80_2 xs)⟩, ⟨⟨st_ti_16 xs, c0 _ _ (st_n_16 xs) (st_80_3 xs)⟩, st_vac (st_80_3 xs)⟩, ⟨⟨st_ti_18 xs, c0 _ _ (st_n_18 xs) (st_80_4 xs)⟩, st_vac (st_80_4 xs)⟩, ⟨⟨st_ti_20 xs, c0 _ _ (st_n_20 xs) (st_80_5 xs), st_ti_22 xs, st_ti_24 xs⟩, ?_, ?_, st_vac (st_80_5 xs), fun v w _ hw => ?_⟩, ⟨⟨st_ti_26 xs, st_n_26 xs⟩, fun j hj => ?_⟩, ⟨⟨st_ti_28 xs, c0 _ _ (st_n_28 xs) (st_80_6 xs)⟩, st_vac (st_80_6 xs)⟩, ⟨⟨st_ti_30 xs, c0 _ _ (st_n_30 xs) (st_80_7 xs)⟩, st_vac (st_80_7 xs)⟩, ⟨⟨st_ti_32 xs, c0 _ _ (st_n_32 xs) (st_80_8 xs)⟩, st_vac (st_80_8 xs)⟩, ⟨⟨st_ti_34 xs, c0 _ _ (st_n_34 xs) (st_80_9 xs)⟩, st_vac (st_80_9 xs)⟩, st_vac (st_80_2 xs), st_vac (st_80_3 xs), st_vac (st_80_4 xs), fun p q _ hq => ?_⟩
    · rw [st_r_11 xs hj, st_r_81 xs hj]
      refine ⟨rfl, ?_⟩
      by_cases c : j % 11 = 0
      · rw [if_pos c]; exact ⟨by decide, by decide⟩
      · rw [if_neg c]; exact ⟨by decide, by decide⟩
    · rw [st_n_22]; exact Nat.zero_le _
    · rw [st_n_24]; exact Nat.zero_le _
    · rw [st_80_5] at hw; exact absurd hw (Nat.not_lt_zero _)
    · rw [st_z_27, st_z_124]
    · rw [st_80_4] at hq; exact absurd hq (Nat.not_lt_zero _)
  refine ⟨land, ⟨⟨st_ti_42 xs, st_ti_44 xs, st_ti_46 xs⟩, c0 _ _ (st_40_1 xs) (st_79_61 xs), ?_, ?_, st_vac (st_79_61 xs)⟩, ⟨⟨st_ti_49 xs, st_ti_51 xs, st_ti_53 xs, st_n_53 xs, st_ti_55 xs⟩, c0 _ _ (st_n_49 xs) (st_79_85 xs), c0 _ _ (st_n_51 xs) (st_79_84 xs), ?_, ?_, st_vac (st_79_85 xs), st_vac (st_79_84 xs)⟩, ⟨st_ti_38 xs, ⟨st_ti_58 xs, st_n_58 xs⟩, ⟨st_ti_60 xs, st_n_60 xs⟩, st_ti_62 xs, st_ti_65 xs, st_ti_68 xs, st_n_68 xs⟩, ⟨⟨st_ti_71 xs, st_n_71 xs, st_ti_73 xs, st_n_73 xs⟩, fun s hs => ?_⟩, ⟨⟨st_ti_75 xs, st_n_75 xs⟩, fun s hs => Or.inl ?_⟩, ⟨st_ti_77 xs, ?_, ?_, ?_, st_vac (st_n_77 xs)⟩, st_79_57 xs, fun h => absurd h (by decide), ⟨?_, st_s_2 xs, st_s_3 xs, st_s_4 xs, st_5_1 xs, st_s_6 xs⟩⟩
  · rw [st_79_61]; decide
  · rw [st_79_61]; decide
  · rw [st_79_85, st_79_84]; decide
  · rw [st_79_83, st_79_84]; decide
  · have hv : caI_231 (pm_IS xs) 72 (2 * s + 0) = -1 ∧ caI_231 (pm_IS xs) 151 s = -1 ∧ caI_231 (pm_IS xs) 72 (2 * s + 1) = 0 := by
      have : s = 0 ∨ s = 1 ∨ s = 2 ∨ s = 3 := by omega
      rcases this with q | q | q | q <;> subst q
      · exact st_72_0 xs
      · exact st_72_1 xs
      · exact st_72_2 xs
      · exact st_72_3 xs
    rw [hv.1, hv.2.1, hv.2.2, st_z_152]
    exact ⟨⟨rfl, rfl⟩, by decide, by decide, by decide, by decide, fun j _ => by rw [st_z_74, st_zJ]; rfl⟩
  · have : s = 0 ∨ s = 1 ∨ s = 2 ∨ s = 3 := by omega
    rcases this with q | q | q | q <;> subst q
    · exact st_76_0 xs
    · exact st_76_1 xs
    · exact st_76_2 xs
    · exact st_76_3 xs
  · rw [st_79_101]; decide
  · rw [st_79_101]; decide
  · rw [st_n_77, st_79_101]; decide
  · funext j; exact st_s_1 xs j
theorem law_start {d L : Nat} {xs : Nat → Int32} {Q : Int32 → Int64 → pm_H → Prop} (h : ∀ I J, pm_inv xs false I J → pm_wp pm_code pm_meta (d + 4) 317 18 ([.ref 1, .ref 8, .ref 79, .int 0], [], (pm_Gb L false, I, J)) Q) : pm_wc pm_code pm_meta (d + 4) 317 [.ref 1] ((pm_TS L, pm_OS, 8, 0), pm_IS xs, fun _ _ => 0) Q := by
  have z := ca_c1 (d := d) (L := L) (I := pm_IS xs) (J := fun _ _ => 0) (Q := Q)
  refine z.mpr ?_
  have e : ((caT_158 L, caO_306, 158, 15475) : pm_G) = pm_Gb L false := by rw [caT_fin, caO_fin]; rfl
  rw [e]
  exact h _ _ (inv_start xs)

