/-! ROWS ARE ADDED: what holds goes on to hold. -/
theorem ti_inc {r : Nat → Int32} {w lim n : Int32} (h : pm_ti r w lim) (hn : n < lim) (h0 : 0 ≤ n) (hl : lim < 100000) : pm_ti (pm_w r 3 (n + 1)) w lim := by
  rw [pi_lt] at hn hl
  rw [pi_le, pi_0] at h0
  have hl : lim.toInt < 100000 := hl
  have e : (n + 1).toInt = n.toInt + 1 := by rw [pi_add (by rw [pi_1]; omega) (by rw [pi_1]; omega), pi_1]
  exact pm_ti_w h (by rw [pi_le, pi_0]; omega) (by rw [pi_le]; omega)
theorem pi_inc {n : Int32} (hn : n < 100000) : n < n + 1 := by
  rw [pi_lt] at hn ⊢
  have hl : n.toInt < 100000 := hn
  have := pi_lo n
  have e : (n + 1).toInt = n.toInt + 1 := by rw [pi_add (by rw [pi_1]; omega) (by rw [pi_1]; omega), pi_1]
  omega
theorem pi_tninc {n : Int32} (h0 : 0 ≤ n) (hn : n < 100000) : (n + 1).toNatClampNeg = n.toNatClampNeg + 1 := pi_tn1 h0 (by rw [pi_lt] at hn ⊢; have h : n.toInt < 100000 := hn; show n.toInt < 2147483647; omega)
theorem pi_ltb {n a b : Int32} (h : n < a) (hab : a ≤ b) : n < b := by rw [pi_lt] at h ⊢; rw [pi_le] at hab; omega
theorem per_add {t c : Nat → Int32} {n a : Int32} {born died : Nat → Int32} (h : pg_per t c n born died) (hn : n < 16) : pg_per (pm_w t 3 (n + 1)) (pm_w (pm_w (pm_zw c (2 * n.toNatClampNeg) (2 * n.toNatClampNeg + 2)) (2 * n.toNatClampNeg + 0) a) (2 * n.toNatClampNeg + 1) (-3)) (n + 1) (pm_w born n.toNatClampNeg a) (pm_w died n.toNatClampNeg (-1)) := by
  have e := pi_tninc (per_n h).1 (pi_ltb hn (by decide))
  refine ⟨⟨ti_inc h.1.1 hn (per_n h).1 (by decide), rfl⟩, ?_⟩
  rw [e]
  have h2 := h.2
  have e3 : pm_no (-1) = -3 := by decide
  grind [pm_w, pm_zw]
theorem hou_add {t c : Nat → Int32} {n today : Int32} {a0 a1 a2 a3 : Int32} {place order coin fear fell stripped due roll rollday had : Nat → Int32} (h : pg_hou t c n today place order coin fear fell stripped due roll rollday had) (hn : n < 8) (b1 : 0 ≤ a0) (b2 : a0 ≤ 9) (b3 : 0 ≤ today) : pg_hou (pm_w t 3 (n + 1)) (pm_w (pm_w (pm_w (pm_w (pm_w (pm_w (pm_w (pm_w (pm_w (pm_zw c (10 * n.toNatClampNeg) (10 * n.toNatClampNeg + 10)) (10 * n.toNatClampNeg + 0) a0) (10 * n.toNatClampNeg + 1) a1) (10 * n.toNatClampNeg + 2) a2) (10 * n.toNatClampNeg + 3) a3) (10 * n.toNatClampNeg + 4) (-3)) (10 * n.toNatClampNeg + 5) (-3)) (10 * n.toNatClampNeg + 6) 3599) (10 * n.toNatClampNeg + 7) (-3)) (10 * n.toNatClampNeg + 9) (-3)) (n + 1) today (pm_w place n.toNatClampNeg a0) (pm_w order n.toNatClampNeg a1) (pm_w coin n.toNatClampNeg a2) (pm_w fear n.toNatClampNeg a3) (pm_w fell n.toNatClampNeg (-1)) (pm_w stripped n.toNatClampNeg (-1)) (pm_w due n.toNatClampNeg 3599) (pm_w roll n.toNatClampNeg 0) (pm_w rollday n.toNatClampNeg (-1)) (pm_w had n.toNatClampNeg 0) := by
  have e := pi_tninc (hou_n h).1 (pi_ltb hn (by decide))
  refine ⟨⟨ti_inc h.1.1 hn (hou_n h).1 (by decide), rfl⟩, ?_⟩
  rw [e]
  have h2 := h.2
  have e3 : pm_no (-1) = -3 := by decide
  intro k hk
  by_cases hk2 : k = n.toNatClampNeg
  · subst hk2
    simp (disch := omega) only [pm_w_self, pm_w_ne, pm_zw_in, e3]
    grind
  · have h3 := h2 k (by omega)
    simp (disch := omega) only [pm_w_ne, pm_zw_out]
    exact h3
theorem thi_add {t c : Nat → Int32} {n nH : Int32} {a0 a1 a2 : Int32} {house kind worth is shown : Nat → Int32} (h : pg_thi t c n nH house kind worth is shown) (hn : n < 24) (b1 : 0 ≤ a0) (b2 : a0 < nH) (b3 : 0 ≤ a1) (b4 : a1 ≤ 3) : pg_thi (pm_w t 3 (n + 1)) (pm_w (pm_w (pm_w (pm_w (pm_zw c (5 * n.toNatClampNeg) (5 * n.toNatClampNeg + 5)) (5 * n.toNatClampNeg + 0) a0) (5 * n.toNatClampNeg + 1) a1) (5 * n.toNatClampNeg + 2) a2) (5 * n.toNatClampNeg + 3) 0) (n + 1) nH (pm_w house n.toNatClampNeg a0) (pm_w kind n.toNatClampNeg a1) (pm_w worth n.toNatClampNeg a2) (pm_w is n.toNatClampNeg 0) (pm_w shown n.toNatClampNeg 0) := by
  have e := pi_tninc (thi_n h).1 (pi_ltb hn (by decide))
  refine ⟨⟨ti_inc h.1.1 hn (thi_n h).1 (by decide), rfl⟩, ?_⟩
  rw [e]
  have h2 := h.2
  have e3 : pm_no (-1) = -3 := by decide
  intro k hk
  by_cases hk2 : k = n.toNatClampNeg
  · subst hk2
    simp (disch := omega) only [pm_w_self, pm_w_ne, pm_zw_in, e3]
    grind
  · have h3 := h2 k (by omega)
    simp (disch := omega) only [pm_w_ne, pm_zw_out]
    exact h3
theorem sta_add {t c : Nat → Int32} {n nP : Int32} {a0 a1 a2 : Int32} {person place day : Nat → Int32} (h : pg_sta t c n nP person place day) (hn : n < 24) (b1 : 0 ≤ a1) (b2 : a1 ≤ 9) (b3 : 0 ≤ a2) (b4 : a2 ≤ 3599) : pg_sta (pm_w t 3 (n + 1)) (pm_w (pm_w (pm_w (pm_zw c (3 * n.toNatClampNeg) (3 * n.toNatClampNeg + 3)) (3 * n.toNatClampNeg + 0) a0) (3 * n.toNatClampNeg + 1) a1) (3 * n.toNatClampNeg + 2) a2) (n + 1) nP (pm_w person n.toNatClampNeg a0) (pm_w place n.toNatClampNeg a1) (pm_w day n.toNatClampNeg a2) := by
  have e := pi_tninc (sta_n h).1 (pi_ltb hn (by decide))
  refine ⟨⟨ti_inc h.1.1 hn (sta_n h).1 (by decide), rfl⟩, ?_⟩
  rw [e]
  have h2 := h.2
  have e3 : pm_no (-1) = -3 := by decide
  intro k hk
  by_cases hk2 : k = n.toNatClampNeg
  · subst hk2
    simp (disch := omega) only [pm_w_self, pm_w_ne, pm_zw_in, e3]
    grind
  · have h3 := h2 k (by omega)
    simp (disch := omega) only [pm_w_ne, pm_zw_out]
    exact h3
theorem lot_add {t c : Nat → Int32} {n : Int32} {a0 : Int32} {price : Nat → Int32} (h : pg_lot t c n price) (hn : n < 7) (b1 : 1 ≤ a0) (b2 : a0 ≤ 99) : pg_lot (pm_w t 3 (n + 1)) (pm_w (pm_zw c (1 * n.toNatClampNeg) (1 * n.toNatClampNeg + 1)) (1 * n.toNatClampNeg + 0) a0) (n + 1)  (pm_w price n.toNatClampNeg a0) := by
  have e := pi_tninc (lot_n h).1 (pi_ltb hn (by decide))
  refine ⟨⟨ti_inc h.1.1 hn (lot_n h).1 (by decide), rfl⟩, ?_⟩
  rw [e]
  have h2 := h.2
  have e3 : pm_no (-1) = -3 := by decide
  intro k hk
  by_cases hk2 : k = n.toNatClampNeg
  · subst hk2
    simp (disch := omega) only [pm_w_self, pm_w_ne, pm_zw_in, e3]
    grind
  · have h3 := h2 k (by omega)
    simp (disch := omega) only [pm_w_ne, pm_zw_out]
    exact h3
theorem buy_add {t c : Nat → Int32} {n : Int32} {a0 : Int32} {coin : Nat → Int32} (h : pg_buy t c n coin) (hn : n < 3) (b1 : 0 ≤ a0) (b2 : a0 ≤ 300) : pg_buy (pm_w t 3 (n + 1)) (pm_w (pm_zw c (1 * n.toNatClampNeg) (1 * n.toNatClampNeg + 1)) (1 * n.toNatClampNeg + 0) a0) (n + 1)  (pm_w coin n.toNatClampNeg a0) := by
  have e := pi_tninc (buy_n h).1 (pi_ltb hn (by decide))
  refine ⟨⟨ti_inc h.1.1 hn (buy_n h).1 (by decide), rfl⟩, ?_⟩
  rw [e]
  have h2 := h.2
  have e3 : pm_no (-1) = -3 := by decide
  intro k hk
  by_cases hk2 : k = n.toNatClampNeg
  · subst hk2
    simp (disch := omega) only [pm_w_self, pm_w_ne, pm_zw_in, e3]
    grind
  · have h3 := h2 k (by omega)
    simp (disch := omega) only [pm_w_ne, pm_zw_out]
    exact h3
theorem dee_add {t c : Nat → Int32} {n : Int32} {a0 a1 a2 a3 a4 a5 : Int32} {field fr to day amount known : Nat → Int32} (h : pg_dee t c n field fr to day amount known) (hn : n < 24) (b1 : 0 ≤ a1) (b2 : 0 ≤ a2) (b3 : 0 ≤ a3) (b4 : a3 ≤ 3599) : pg_dee (pm_w t 3 (n + 1)) (pm_w (pm_w (pm_w (pm_w (pm_w (pm_w (pm_zw c (6 * n.toNatClampNeg) (6 * n.toNatClampNeg + 6)) (6 * n.toNatClampNeg + 0) a0) (6 * n.toNatClampNeg + 1) a1) (6 * n.toNatClampNeg + 2) a2) (6 * n.toNatClampNeg + 3) a3) (6 * n.toNatClampNeg + 4) a4) (6 * n.toNatClampNeg + 5) a5) (n + 1)  (pm_w field n.toNatClampNeg a0) (pm_w fr n.toNatClampNeg a1) (pm_w to n.toNatClampNeg a2) (pm_w day n.toNatClampNeg a3) (pm_w amount n.toNatClampNeg a4) (pm_w known n.toNatClampNeg a5) := by
  have e := pi_tninc (dee_n h).1 (pi_ltb hn (by decide))
  refine ⟨⟨ti_inc h.1.1 hn (dee_n h).1 (by decide), rfl⟩, ?_⟩
  rw [e]
  have h2 := h.2
  have e3 : pm_no (-1) = -3 := by decide
  intro k hk
  by_cases hk2 : k = n.toNatClampNeg
  · subst hk2
    simp (disch := omega) only [pm_w_self, pm_w_ne, pm_zw_in, e3]
    grind
  · have h3 := h2 k (by omega)
    simp (disch := omega) only [pm_w_ne, pm_zw_out]
    exact h3
theorem rig_mono {t c : Nat → Int32} {n nP nH nT nP2 nH2 nT2 : Int32} {kind house person amount fr to is leans proved seals told wit witOf : Nat → Int32} (h : pg_rig t c n nP nH nT kind house person amount fr to is leans proved seals told wit witOf) (h1 : nP ≤ nP2) (h2 : nH ≤ nH2) (h3 : nT ≤ nT2) : pg_rig t c n nP2 nH2 nT2 kind house person amount fr to is leans proved seals told wit witOf := by
  refine ⟨h.1, fun q hq => ?_⟩
  obtain ⟨g1, g2, g3⟩ := h.2 q hq
  exact ⟨g1, fun i hi => ⟨(g2 i hi).1, (g2 i hi).2.1, pi_ltb (g2 i hi).2.2 h1⟩, by grind⟩
theorem thi_mono {t c : Nat → Int32} {n nH nH2 : Int32} {house kind worth is shown : Nat → Int32} (h : pg_thi t c n nH house kind worth is shown) (h2 : nH ≤ nH2) : pg_thi t c n nH2 house kind worth is shown := by
  refine ⟨h.1, fun q hq => ?_⟩
  obtain ⟨g1, g3⟩ := h.2 q hq
  exact ⟨g1, by grind⟩
theorem sta_mono {t c : Nat → Int32} {n nP nP2 : Int32} {person place day : Nat → Int32} (h : pg_sta t c n nP person place day) : pg_sta t c n nP2 person place day := h
theorem pi_leinc {n : Int32} (hn : n < 100000) : n ≤ n + 1 := Int32.le_of_lt (pi_inc hn)
theorem rig_add {t c : Nat → Int32} {n nP nH nT a0 a1 a2 a3 a4 a5 a6 a7 a8 : Int32} {kind house person amount fr to is leans proved seals told wit witOf : Nat → Int32} (h : pg_rig t c n nP nH nT kind house person amount fr to is leans proved seals told wit witOf) (hn : n < 24) (b0 : 0 ≤ a0) (b1 : a0 ≤ 7) (b2 : 0 ≤ a1) (b3 : a1 < nH) (b4 : 0 ≤ a2) (b5 : a2 < nP) (b6 : 1 ≤ a3) (b7 : a3 ≤ 999) (b8 : 0 ≤ a4) (b9 : a4 ≤ 3599) (b10 : 0 ≤ a5) (b11 : a5 ≤ 3599) (b12 : -1 ≤ a7) (b13 : a7 < n) (b14 : a0 = 2 → 0 ≤ a6 ∧ a6 ≤ 3599) (b15 : a0 = 6 → 0 ≤ a6 ∧ a6 < nT) (b16 : a8 = pm_no a7) : pg_rig (pm_w t 3 (n + 1)) (pm_w (pm_w (pm_w (pm_w (pm_w (pm_w (pm_w (pm_w (pm_w (pm_w (pm_w (pm_zw c (16 * n.toNatClampNeg) (16 * n.toNatClampNeg + 16)) (16 * n.toNatClampNeg + 0) a0) (16 * n.toNatClampNeg + 1) a1) (16 * n.toNatClampNeg + 2) a2) (16 * n.toNatClampNeg + 3) a3) (16 * n.toNatClampNeg + 4) a4) (16 * n.toNatClampNeg + 5) a5) (16 * n.toNatClampNeg + 7) a6) (16 * n.toNatClampNeg + 6) a8) (16 * n.toNatClampNeg + 9) (-3)) (16 * n.toNatClampNeg + 10) (-3)) (16 * n.toNatClampNeg + 11) (-3)) (n + 1) nP nH nT (pm_w kind n.toNatClampNeg a0) (pm_w house n.toNatClampNeg a1) (pm_w person n.toNatClampNeg a2) (pm_w amount n.toNatClampNeg a3) (pm_w fr n.toNatClampNeg a4) (pm_w to n.toNatClampNeg a5) (pm_w is n.toNatClampNeg a6) (pm_w leans n.toNatClampNeg a7) (pm_w proved n.toNatClampNeg (-1)) (pm_w seals n.toNatClampNeg (-1)) (pm_w told n.toNatClampNeg (-1)) (pm_w wit n.toNatClampNeg 0) witOf := by
  have e := pi_tninc (rig_n h).1 (pi_ltb hn (by decide))
  refine ⟨⟨ti_inc h.1.1 hn (rig_n h).1 (by decide), rfl⟩, ?_⟩
  rw [e]
  have h2 := h.2
  have e3 : pm_no (-1) = -3 := by decide
  intro k hk
  by_cases hk2 : k = n.toNatClampNeg
  · have b13' : a7.toInt < (n.toNatClampNeg : Nat) := by rw [pi_tni (rig_n h).1]; exact pi_lt.mp b13
    subst hk2
    simp (disch := omega) only [pm_w_self, pm_w_ne, pm_zw_in, e3]
    refine ⟨by grind, fun i hi => absurd hi (by simp), by grind⟩
  · obtain ⟨g1, g2, g3⟩ := h2 k (by omega)
    simp (disch := omega) only [pm_w_ne, pm_zw_out]
    refine ⟨g1, fun i hi => ?_, g3⟩
    have hi3 : i < 3 := by
      have : wit k ≤ 3 := g3.2.2.2.2.2.2.2.2.2.2.2.2.2.2.2.2.2.2.2.1
      have h1 : (wit k).toNatClampNeg ≤ 3 := by rw [pi_le] at this; rw [pi_tn]; have e9 : (3 : Int32).toInt = 3 := rfl; omega
      omega
    have := g2 i hi
    simp (disch := omega) only [pm_w_ne, pm_zw_out]
    exact this

