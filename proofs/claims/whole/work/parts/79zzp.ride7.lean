/-! THE CALL ride. -/
section
variable {d L : Nat} {b : Bool} {J : Nat → Nat → Int64} {I0 : Nat → Nat → Int32} {p0 t0 M NH : Nat} {pl rd : Nat → Nat} {tm : Nat → Nat → Bool} {x2 x3 : Int32} {Q : Int32 → Int64 → pm_H → Prop}
theorem px_rideRows {nH today : Int32} {roads place order coin fear fell stripped due roll rollday had : Nat → Int32} (hhou : pg_hou (I0 14) (I0 15) nH today place order coin fear fell stripped due roll rollday had) (hroa : pg_roa (I0 10) (I0 11) roads)
    (hN : NH ≤ 8) (hM : M ≤ 7) (p9 : p0 ≤ 9) (h0 : t0 ≤ 3599) (pl9 : ∀ h, pl h ≤ 9) (rd20 : ∀ k, rd k ≤ 20) (eN : nH = Int32.ofNat NH) (ep : ∀ h, h < NH → place h = Int32.ofNat (pl h)) (er : ∀ k, k < 100 → roads k = Int32.ofNat (rd k)) {v : List Nat} (lv : v.length = M) (vn : ∀ x ∈ v, x < NH)
    (t49 : pm_ti (I0 49) 2 7) (c49 : I0 49 3 = 0) (t51 : pm_ti (I0 51) 2 7) (t55 : pm_ti (I0 55) 1 7) (c55 : I0 55 3 = Int32.ofNat M) (e56 : pw_h (I0 56) v)
    (hQ : ∀ I, (∀ r, ¬ r = 49 → ¬ r = 50 → ¬ r = 51 → ¬ r = 52 → I r = I0 r) → pm_ti (I 49) 2 7 → pm_ti (I 51) 2 7 → I 49 3 = Int32.ofNat M → I 51 3 = Int32.ofNat M → pw_row (fun i => I 50 (2 * i + 0)) (fun i => I 50 (2 * i + 1)) pl rd tm p0 t0 M v → pw_row (fun i => I 52 (2 * i + 0)) (fun i => I 52 (2 * i + 1)) pl rd tm p0 t0 M v → Q 0 0 (pm_Gb L b, I, J)) :
    pm_wp pm_code pm_meta (d + 1) 70 47 ([.ref 48, .int (Int32.ofNat p0), .int x2, .int (Int32.ofNat t0), .int (Int32.ofNat p0), .int 0, pm_unset, pm_unset, pm_unset], [], (pm_Gb L b, I0, J)) Q := by
  have bd := fun w => ev_bd (tm := tm) pl9 rd20 w p0 0 0 p9
  have e7 : (7 : Int32).toInt = 7 := rfl
  have at148 : ∀ (I : Nat → Nat → Int32), (∀ r, ¬ r = 49 → ¬ r = 50 → I r = I0 r) → pm_ti (I 49) 2 7 → I 49 3 = Int32.ofNat M → pw_row (fun i => I 50 (2 * i + 0)) (fun i => I 50 (2 * i + 1)) pl rd tm p0 t0 M v → Q 0 0 (pm_Gb L b, pm_u (pm_r I 52 (fun j => if j < 2 * (I 49 3).toNatClampNeg then I 50 j else I 52 j)) 51 3 (I 49 3), J) := fun I fr ti c r => by
    have gM := on_n (a := M) (by omega)
    refine hQ _ (fun r q1 q2 q3 q4 => ?_) ?_ ?_ ?_ ?_ (fun i x hi hx => ?_) (fun i x hi hx => ?_)
    · rw [pm_u_row, if_neg q3, pm_r_row, if_neg q4]; exact fr r q1 q2
    · rw [pm_u_row, if_neg (by decide), pm_r_row, if_neg (by decide)]; exact ti
    · rw [pm_u_row, if_pos rfl, pm_r_row, if_neg (by decide), fr 51 (by decide) (by decide), c]
      exact pm_ti_w t51 gM.1 (by rw [pi_le, gM.2.2, e7]; omega)
    · rw [pm_u_row, if_neg (by decide), pm_r_row, if_neg (by decide)]; exact c
    · rw [pm_u_at]; exact c
    · show pm_u _ 51 3 _ 50 _ = _ ∧ pm_u _ 51 3 _ 50 _ = _
      rw [pm_u_row, if_neg (by decide), pm_r_row, if_neg (by decide)]
      exact r i x hi hx
    · show pm_u _ 51 3 _ 52 _ = _ ∧ pm_u _ 51 3 _ 52 _ = _
      rw [pm_u_row, if_neg (by decide), pm_r_row, if_pos rfl, c, gM.2.1, if_pos (by omega), if_pos (by omega)]
      exact r i x hi hx
  have key : ∀ (t w : List Nat) (I : Nat → Nat → Int32) (E : Option (Int32 × Int32 × Int32)), v = w ++ t → (∀ r, ¬ r = 49 → ¬ r = 50 → I r = I0 r) → pm_ti (I 49) 2 7 → I 49 3 = Int32.ofNat w.length → pw_row (fun i => I 50 (2 * i + 0)) (fun i => I 50 (2 * i + 1)) pl rd tm p0 t0 w.length v →
      pm_wp pm_code pm_meta (d + 1) 70 47 ([.ref 48, .int (Int32.ofNat p0), .int x2, .int (Int32.ofNat (t0 + (pw_ev pl rd tm p0 0 0 w).2.1)), .int (Int32.ofNat (pw_ev pl rd tm p0 0 0 w).1), .int (Int32.ofNat w.length), pm_vl (E.map (·.1)), pm_vl (E.map (·.2.1)), pm_vl (E.map (·.2.2))], [], (pm_Gb L b, I, J)) Q := by
    intro t
    induction t with
    | nil =>
      intro w I E e fr ti c r
      rw [List.append_nil] at e
      subst e
      have hc : I 55 3 ≤ Int32.ofNat v.length := by rw [fr 55 (by decide) (by decide), c55, lv]; exact Int32.le_refl _
      rw [lv] at c r
      have z := at148 I fr ti c r
      rcases E with _ | ⟨a1, a2, a3⟩ <;> simp only [Option.map, pm_vl_n, pm_vl_s]
      · rw [pb_70_47, if_pos hc, pb_70_148, pt_copy_51 (by rw [fr 51 (by decide) (by decide)]; exact t51) ti, pb_70_159]; exact z
      · rw [pb_70_47b, if_pos hc, pb_70_148b, pt_copy_51 (by rw [fr 51 (by decide) (by decide)]; exact t51) ti, pb_70_159b]; exact z
    | cons h t ih =>
      intro w I E e fr ti c r
      have ll : w.length + (t.length + 1) = M := by rw [← lv, e, List.length_append, List.length_cons]
      have hn : h < NH := vn h (by rw [e]; simp)
      have gw := on_n (a := w.length) (by omega)
      have gh := on_n (a := h) (by omega)
      have lh : Int32.ofNat h < nH := by rw [eN, on_lt (by omega) (by omega)]; exact hn
      have hc : ¬ I 55 3 ≤ Int32.ofNat w.length := by rw [fr 55 (by decide) (by decide), c55, on_le (by omega) (by omega)]; omega
      have i55 : 0 ≤ Int32.ofNat w.length ∧ Int32.ofNat w.length < I 55 3 := ⟨gw.1, by rw [fr 55 (by decide) (by decide), c55, on_lt (by omega) (by omega)]; omega⟩
      have g56 : I 56 (1 * (Int32.ofNat w.length).toNatClampNeg + 0) = Int32.ofNat h := by
        rw [gw.2.1, show 1 * w.length + 0 = w.length by omega, fr 56 (by decide) (by decide)]; exact e56 _ _ (by rw [e]; exact ls_at)
      obtain ⟨c1, c2, c3⟩ := bd w
      have pp := pl9 h
      have rr := rd20 (10 * (pw_ev pl rd tm p0 0 0 w).1 + pl h)
      have gp := on_n (a := (pw_ev pl rd tm p0 0 0 w).1) (by omega)
      have gq := on_n (a := pl h) (by omega)
      have e1 : (0 : Int32) ≤ Int32.ofNat (pw_ev pl rd tm p0 0 0 w).1 ∧ Int32.ofNat (pw_ev pl rd tm p0 0 0 w).1 ≤ 9 := ⟨gp.1, by rw [pi_le, gp.2.2, show (9 : Int32).toInt = 9 from rfl]; omega⟩
      have e2 : (0 : Int32) ≤ Int32.ofNat (pl h) ∧ Int32.ofNat (pl h) ≤ 9 := ⟨gq.1, by rw [pi_le, gq.2.2, show (9 : Int32).toInt = 9 from rfl]; omega⟩
      have hroa' : pg_roa (I 10) (I 11) roads := by rw [fr 10 (by decide) (by decide), fr 11 (by decide) (by decide)]; exact hroa
      have hhou' : pg_hou (I 14) (I 15) nH today place order coin fear fell stripped due roll rollday had := by rw [fr 14 (by decide) (by decide), fr 15 (by decide) (by decide)]; exact hhou
      have ed : Int32.ofNat (t0 + (pw_ev pl rd tm p0 0 0 w).2.1) + Int32.ofNat (rd (10 * (pw_ev pl rd tm p0 0 0 w).1 + pl h)) = Int32.ofNat (t0 + ((pw_ev pl rd tm p0 0 0 w).2.1 + rd (10 * (pw_ev pl rd tm p0 0 0 w).1 + pl h))) := by rw [hb_add _ _ (by omega) (by omega), Nat.add_assoc]
      have l7 : I 49 3 < 7 := by rw [c, pi_lt, gw.2.2, e7]; omega
      have evs : (pw_ev pl rd tm p0 0 0 (w ++ [h])) = (pl h, (pw_ev pl rd tm p0 0 0 w).2.1 + rd (10 * (pw_ev pl rd tm p0 0 0 w).1 + pl h) + 1, (pw_ev pl rd tm p0 0 0 w).2.2 + (bif tm h ((pw_ev pl rd tm p0 0 0 w).2.1 + rd (10 * (pw_ev pl rd tm p0 0 0 w).1 + pl h)) then 1 else 0)) := by rw [ev_app]; rfl
      have el : (w ++ [h]).length = w.length + 1 := by rw [List.length_append]; rfl
      -- the new row
      generalize hI1 : pm_u (pm_zr I 50 (2 * (I 49 3).toNatClampNeg) (2 * (I 49 3).toNatClampNeg + 2)) 49 3 (I 49 3 + 1) = I1
      have k1 : ∀ r, ¬ r = 49 → ¬ r = 50 → I1 r = I r := fun r q1 q2 => by rw [← hI1, pm_u_row, if_neg q1, pm_zr_row, if_neg q2]
      have c1' : I1 49 3 = Int32.ofNat (w.length + 1) := by rw [← hI1, pm_u_at, c, on_s]
      have ti1 : pm_ti (I1 49) 2 7 := by
        rw [← hI1, pm_u_row, if_pos rfl, pm_zr_row, if_neg (by decide), c, on_s]
        have g2 := on_n (a := w.length + 1) (by omega)
        exact pm_ti_w ti g2.1 (by rw [pi_le, g2.2.2, e7]; omega)
      have r50 : ∀ j, ¬ (2 * w.length ≤ j ∧ j < 2 * w.length + 2) → I1 50 j = I 50 j := fun j hj => by
        rw [← hI1, pm_u_row, if_neg (by decide), pm_zr_row, if_pos rfl, c, gw.2.1]
        exact pm_zw_out hj
      have in1 : ∀ X1 : Nat → Nat → Int32, X1 49 = I1 49 → 0 ≤ Int32.ofNat w.length ∧ Int32.ofNat w.length < X1 49 3 := fun X1 hX => ⟨gw.1, by rw [hX, c1', on_lt (by omega) (by omega)]; omega⟩
      have hI : ∀ y1 y2 y3 : Int32, pm_wp pm_code pm_meta (d + 1) 70 47 ([.ref 48, .int (Int32.ofNat p0), .int x2, .int (Int32.ofNat ((t0 + ((pw_ev pl rd tm p0 0 0 w).2.1 + rd (10 * (pw_ev pl rd tm p0 0 0 w).1 + pl h))) + 1)), .int (Int32.ofNat (pl h)), .int (Int32.ofNat (w.length + 1)), .int y1, .int y2, .int y3], [], (pm_Gb L b, pm_u (pm_u I1 50 (2 * w.length + 0) (Int32.ofNat h)) 50 (2 * w.length + 1) (Int32.ofNat (t0 + ((pw_ev pl rd tm p0 0 0 w).2.1 + rd (10 * (pw_ev pl rd tm p0 0 0 w).1 + pl h)))), J)) Q := fun y1 y2 y3 => by
        have z := ih (w ++ [h]) (pm_u (pm_u I1 50 (2 * w.length + 0) (Int32.ofNat h)) 50 (2 * w.length + 1) (Int32.ofNat (t0 + ((pw_ev pl rd tm p0 0 0 w).2.1 + rd (10 * (pw_ev pl rd tm p0 0 0 w).1 + pl h))))) (some (y1, y2, y3)) (by rw [e, List.append_assoc]; rfl) (fun r q1 q2 => by rw [pm_u_row, if_neg q2, pm_u_row, if_neg q2, k1 r q1 q2]; exact fr r q1 q2) (by rw [pm_u_row, if_neg (by decide), pm_u_row, if_neg (by decide)]; exact ti1) (by rw [pm_u_row, if_neg (by decide), pm_u_row, if_neg (by decide), c1', el]) (fun i x hi hx => ?_)
        · rw [evs, el] at z
          simp only [Option.map, pm_vl_s] at z
          exact z
        · show pm_u _ 50 _ _ 50 _ = _ ∧ pm_u _ 50 _ _ 50 _ = _
          simp only [pm_u_row, if_true, pm_w_at]
          by_cases ei : i = w.length
          · subst ei
            rw [e, ls_at] at hx
            have hx' := Option.some.inj hx
            rw [if_neg (by omega), if_pos rfl, if_pos rfl, e, day_at, hx']
            exact ⟨rfl, rfl⟩
          · rw [el] at hi
            rw [if_neg (by omega), if_neg (by omega), if_neg (by omega), if_neg (by omega), r50 _ (by omega), r50 _ (by omega)]
            exact r i x (by omega) hx
      have i1 := in1 I1 rfl
      have i2 := in1 (pm_u I1 50 (2 * w.length + 0) (Int32.ofNat h)) (by rw [pm_u_row, if_neg (by decide)])
      rcases E with _ | ⟨a1, a2, a3⟩ <;> simp only [Option.map, pm_vl_n, pm_vl_s]
      · rw [pb_70_47, if_neg hc, pb_70_59, pt_get_55_0 (by rw [fr 55 (by decide) (by decide)]; exact t55), if_pos i55, g56, pb_70_69, px_hou_0 hhou', pm_at_in gh.1 lh, gh.2.1, ep h hn, pb_70_84, px_road hroa' e1 e2, gp.2.1, gq.2.1, er _ (by omega), pb_70_101, ed, pt_add_49 ti l7, hI1, pb_70_110, c, pt_set_49_0 ti1, if_pos i1, gw.2.1, pb_70_124, pt_set_49_1 (by rw [pm_u_row, if_neg (by decide)]; exact ti1), if_pos i2, gw.2.1, pb_70_135, on_s, on_s]
        exact hI _ _ _
      · rw [pb_70_47b, if_neg hc, pb_70_59b, pt_get_55_0 (by rw [fr 55 (by decide) (by decide)]; exact t55), if_pos i55, g56, pb_70_69b, px_hou_0 hhou', pm_at_in gh.1 lh, gh.2.1, ep h hn, pb_70_84b, px_road hroa' e1 e2, gp.2.1, gq.2.1, er _ (by omega), pb_70_101b, ed, pt_add_49 ti l7, hI1, pb_70_110b, c, pt_set_49_0 ti1, if_pos i1, gw.2.1, pb_70_124, pt_set_49_1 (by rw [pm_u_row, if_neg (by decide)]; exact ti1), if_pos i2, gw.2.1, pb_70_135, on_s, on_s]
        exact hI _ _ _
  have z := key v [] I0 none rfl (fun _ _ _ => rfl) t49 c49 (fun i x hi _ => absurd hi (Nat.not_lt_zero _))
  exact z
theorem px_digits {v : List Nat} {I : Nat → Nat → Int32} (hM : M ≤ 7) (lv : v.length = M) (vn : ∀ x ∈ v, x < 10) (t55 : pm_ti (I 55) 1 7) (c55 : I 55 3 = Int32.ofNat M) (e56 : pw_h (I 56) v) (hQ : Q (10000000 + Int32.ofNat (pw_dg v)) 0 (pm_Gb L b, I, J)) :
    pm_wc pm_code pm_meta (d + 1) 73 [.ref 48] (pm_Gb L b, I, J) Q := by
  have key : ∀ (t w : List Nat), v = w ++ t → pm_wp pm_code pm_meta (d + 1) 73 4 ([.ref 48, .int (Int32.ofNat (pw_dg w)), .int (Int32.ofNat w.length)], [], (pm_Gb L b, I, J)) Q := by
    intro t
    induction t with
    | nil =>
      intro w e
      rw [List.append_nil] at e
      subst e
      rw [pb_73_4, c55, lv, if_pos (Int32.le_refl _), pb_73_36]
      exact hQ
    | cons h t ih =>
      intro w e
      have ll : w.length + (t.length + 1) = M := by rw [← lv, e, List.length_append, List.length_cons]
      have hn : h < 10 := vn h (by rw [e]; simp)
      have gw := on_n (a := w.length) (by omega)
      have dgb := dg_bd w.length w rfl (fun x hx => vn x (by rw [e]; exact List.mem_append_left _ hx))
      have dgc : 10 ^ w.length ≤ 10 ^ 6 := Nat.pow_le_pow_right (by decide) (by omega)
      have dgd : (10 : Nat) ^ 6 = 1000000 := by decide
      have g56 : I 56 (1 * (Int32.ofNat w.length).toNatClampNeg + 0) = Int32.ofNat h := by
        rw [gw.2.1, show 1 * w.length + 0 = w.length by omega]; exact e56 _ _ (by rw [e]; exact ls_at)
      have eg : 10 * Int32.ofNat (pw_dg w) + Int32.ofNat h = Int32.ofNat (pw_dg (w ++ [h])) := by rw [dg_app, show (10 : Int32) = Int32.ofNat 10 from rfl, on_mul, hb_add _ _ (by omega) (by omega)]
      have z := ih (w ++ [h]) (by rw [e, List.append_assoc]; rfl)
      rw [List.length_append] at z
      rw [pb_73_4, c55, if_neg (by rw [on_le (by omega) (by omega)]; omega), pb_73_15, pt_get_55_0 t55, c55, if_pos ⟨gw.1, by rw [on_lt (by omega) (by omega)]; omega⟩, g56, pb_73_28, eg, on_s]
      exact z
  rw [pb_73_0]
  exact key v [] rfl
end
theorem inv_ride {X : Nat → Int32} {b : Bool} {I I' : Nat → Nat → Int32} {J : Nat → Nat → Int64} (hI : pm_inv X b I J) (h : ∀ k, ¬ k = 48 → ¬ k = 49 → ¬ k = 50 → ¬ k = 51 → ¬ k = 52 → ¬ k = 54 → ¬ k = 55 → ¬ k = 56 → ¬ k = 79 → ¬ k = 142 → ¬ k = 143 → ¬ k = 144 → ¬ k = 145 → ¬ k = 146 → ¬ k = 147 → I' k = I k)
    (h79 : ∀ j, ¬ j = 76 → ¬ j = 77 → ¬ j = 78 → ¬ j = 83 → ¬ j = 84 → ¬ j = 85 → I' 79 j = I 79 j) (hr : pg_rid (I' 49) (I' 50) (I' 51) (I' 52) (I' 53) (I' 55) (I' 79 83) (I' 79 84) (I' 79 85) (I' 144) (I' 145) (I' 146) (I' 147)) : pm_inv X b I' J := by
  obtain ⟨hland, htxt, hrid, htmp, hshe, hshf, htra, h57, hkept, hcon⟩ := hI
  have e : ∀ k, (k < 48 ∨ k = 53 ∨ (57 ≤ k ∧ k < 79) ∨ (80 ≤ k ∧ k < 142) ∨ 148 ≤ k) → I' k = I k := fun k hk => h k (by omega) (by omega) (by omega) (by omega) (by omega) (by omega) (by omega) (by omega) (by omega) (by omega) (by omega) (by omega) (by omega) (by omega) (by omega)
  refine ⟨pm_land_cg (fun i h1 h2 => (e i (by omega)).symm) (fun i h1 h2 => (e i (by omega)).symm) hland, ?_, hr, ?_, ?_, ?_, ?_, ?_, pm_kept_cg (fun i hi => e i (by omega)) (e 136 (by omega)) hkept, ?_⟩
  · rw [e 42 (by omega), e 44 (by omega), e 46 (by omega), e 40 (by omega), e 41 (by omega), e 138 (by omega), h79 61 (by decide) (by decide) (by decide) (by decide) (by decide) (by decide)]; exact htxt
  · rw [e 38 (by omega), e 58 (by omega), e 60 (by omega), e 62 (by omega), e 65 (by omega), e 68 (by omega)]; exact htmp
  · rw [e 71 (by omega), e 72 (by omega), e 73 (by omega), e 74 (by omega), e 151 (by omega), e 152 (by omega)]; exact hshe
  · rw [e 75 (by omega), e 76 (by omega), e 154 (by omega), e 155 (by omega), e 156 (by omega)]; exact hshf
  · rw [e 77 (by omega), e 78 (by omega), e 157 (by omega), h79 101 (by decide) (by decide) (by decide) (by decide) (by decide) (by decide)]; exact htra
  · rw [h79 57 (by decide) (by decide) (by decide) (by decide) (by decide) (by decide)]; exact h57
  · rw [e 1 (by omega), e 2 (by omega), e 3 (by omega), e 4 (by omega), e 5 (by omega), e 6 (by omega)]; exact hcon

