/-! CELLS ARE SET: what holds goes on to hold. -/
theorem pm_w_self {α : Type} (r : Nat → α) (k : Nat) (v : α) : pm_w r k v k = v := if_pos rfl
theorem pm_w_ne {α : Type} {r : Nat → α} {k j : Nat} {v : α} (h : ¬ j = k) : pm_w r k v j = r j := if_neg h
theorem pm_zw_in {r : Nat → Int32} {p q j : Nat} (h : p ≤ j ∧ j < q) : pm_zw r p q j = 0 := if_pos h
theorem pm_zw_out {r : Nat → Int32} {p q j : Nat} (h : ¬ (p ≤ j ∧ j < q)) : pm_zw r p q j = r j := if_neg h
theorem rig_wit {k : Int32} (h : k ≤ 3) : k.toNatClampNeg ≤ 3 := by
  rw [pi_le] at h; rw [pi_tn]; have e9 : (3 : Int32).toInt = 3 := rfl; omega
theorem per_set1 {t c : Nat → Int32} {n v xv : Int32} {P : Nat} {born died : Nat → Int32} (h : pg_per t c n born died) (hv : xv = pm_no v) : pg_per t (pm_w c (2 * P + 1) xv) n born (pm_w died P v) := by
  refine ⟨h.1, fun k hk => ?_⟩
  have h9 := h.2 k hk
  by_cases hk2 : k = P
  · subst hk2
    simp (disch := omega) only [pm_w_self, pm_w_ne]
    grind
  · simp (disch := omega) only [pm_w_ne]
    exact h9
theorem hou_set2 {t c : Nat → Int32} {n today v : Int32} {P : Nat} {place order coin fear fell stripped due roll rollday had : Nat → Int32} (h : pg_hou t c n today place order coin fear fell stripped due roll rollday had)  : pg_hou t (pm_w c (10 * P + 2) v) n today place order (pm_w coin P v) fear fell stripped due roll rollday had := by
  refine ⟨h.1, fun k hk => ?_⟩
  have h9 := h.2 k hk
  by_cases hk2 : k = P
  · subst hk2
    simp (disch := omega) only [pm_w_self, pm_w_ne]
    grind
  · simp (disch := omega) only [pm_w_ne]
    exact h9
theorem hou_set6 {t c : Nat → Int32} {n today v : Int32} {P : Nat} {place order coin fear fell stripped due roll rollday had : Nat → Int32} (h : pg_hou t c n today place order coin fear fell stripped due roll rollday had)  : pg_hou t (pm_w c (10 * P + 6) v) n today place order coin fear fell stripped (pm_w due P v) roll rollday had := by
  refine ⟨h.1, fun k hk => ?_⟩
  have h9 := h.2 k hk
  by_cases hk2 : k = P
  · subst hk2
    simp (disch := omega) only [pm_w_self, pm_w_ne]
    grind
  · simp (disch := omega) only [pm_w_ne]
    exact h9
theorem hou_set5 {t c : Nat → Int32} {n today v : Int32} {P : Nat} {place order coin fear fell stripped due roll rollday had : Nat → Int32} (h : pg_hou t c n today place order coin fear fell stripped due roll rollday had) (h0 : 0 ≤ v) (h1 : v ≤ today) (hv : pm_no v = v) : pg_hou t (pm_w c (10 * P + 5) v) n today place order coin fear fell (pm_w stripped P v) due roll rollday had := by
  refine ⟨h.1, fun k hk => ?_⟩
  have h9 := h.2 k hk
  by_cases hk2 : k = P
  · subst hk2
    simp (disch := omega) only [pm_w_self, pm_w_ne]
    grind
  · simp (disch := omega) only [pm_w_ne]
    exact h9
theorem hou_set89 {t c : Nat → Int32} {n today u v : Int32} {P : Nat} {place order coin fear fell stripped due roll rollday had : Nat → Int32} (h : pg_hou t c n today place order coin fear fell stripped due roll rollday had) (hu : pm_no u = u) : pg_hou t (pm_w (pm_w c (10 * P + 8) v) (10 * P + 9) u) n today place order coin fear fell stripped due (pm_w roll P v) (pm_w rollday P u) had := by
  refine ⟨h.1, fun k hk => ?_⟩
  have h9 := h.2 k hk
  by_cases hk2 : k = P
  · subst hk2
    simp (disch := omega) only [pm_w_self, pm_w_ne]
    grind
  · simp (disch := omega) only [pm_w_ne]
    exact h9
theorem hou_set47 {t c : Nat → Int32} {n today u v : Int32} {P : Nat} {place order coin fear fell stripped due roll rollday had : Nat → Int32} (h : pg_hou t c n today place order coin fear fell stripped due roll rollday had) (h0 : 0 ≤ v) (h1 : v ≤ today) (hv : pm_no v = v) : pg_hou t (pm_w (pm_w c (10 * P + 4) v) (10 * P + 7) u) n today place order coin fear (pm_w fell P v) stripped due roll rollday (pm_w had P u) := by
  refine ⟨h.1, fun k hk => ?_⟩
  have h9 := h.2 k hk
  by_cases hk2 : k = P
  · subst hk2
    simp (disch := omega) only [pm_w_self, pm_w_ne]
    grind
  · simp (disch := omega) only [pm_w_ne]
    exact h9
theorem thi_set3 {t c : Nat → Int32} {n nH v : Int32} {P : Nat} {house kind worth is shown : Nat → Int32} (h : pg_thi t c n nH house kind worth is shown)  : pg_thi t (pm_w c (5 * P + 3) v) n nH house kind worth (pm_w is P v) shown := by
  refine ⟨h.1, fun k hk => ?_⟩
  have h9 := h.2 k hk
  by_cases hk2 : k = P
  · subst hk2
    simp (disch := omega) only [pm_w_self, pm_w_ne]
    grind
  · simp (disch := omega) only [pm_w_ne]
    exact h9
theorem thi_set4 {t c : Nat → Int32} {n nH v : Int32} {P : Nat} {house kind worth is shown : Nat → Int32} (h : pg_thi t c n nH house kind worth is shown)  : pg_thi t (pm_w c (5 * P + 4) v) n nH house kind worth is (pm_w shown P v) := by
  refine ⟨h.1, fun k hk => ?_⟩
  have h9 := h.2 k hk
  by_cases hk2 : k = P
  · subst hk2
    simp (disch := omega) only [pm_w_self, pm_w_ne]
    grind
  · simp (disch := omega) only [pm_w_ne]
    exact h9
theorem rig_set8 {t c : Nat → Int32} {n nP nH nT v : Int32} {P : Nat} {kind house person amount fr to is leans proved seals told wit witOf : Nat → Int32} (h : pg_rig t c n nP nH nT kind house person amount fr to is leans proved seals told wit witOf)  : pg_rig t (pm_w c (16 * P + 8) v) n nP nH nT kind house person amount fr to is leans proved seals told wit witOf := by
  refine ⟨h.1, fun k hk => ?_⟩
  obtain ⟨g1, g2, g3⟩ := h.2 k hk
  have hw : (wit k).toNatClampNeg ≤ 3 := rig_wit (by grind)
  by_cases hk2 : k = P
  · subst hk2
    simp (disch := omega) only [pm_w_self, pm_w_ne]
    refine ⟨by grind, fun i hi => ?_, by grind⟩
    try simp (disch := omega) only [pm_w_ne]
    exact g2 i hi
  · simp (disch := omega) only [pm_w_ne]
    refine ⟨g1, fun i hi => ?_, g3⟩
    try simp (disch := omega) only [pm_w_ne]
    exact g2 i hi
theorem rig_set9 {t c : Nat → Int32} {n nP nH nT v : Int32} {P : Nat} {kind house person amount fr to is leans proved seals told wit witOf : Nat → Int32} (h : pg_rig t c n nP nH nT kind house person amount fr to is leans proved seals told wit witOf) (h0 : 0 ≤ v) (h1 : v ≤ 3599) (hv : pm_no v = v) : pg_rig t (pm_w c (16 * P + 9) v) n nP nH nT kind house person amount fr to is leans (pm_w proved P v) seals told wit witOf := by
  refine ⟨h.1, fun k hk => ?_⟩
  obtain ⟨g1, g2, g3⟩ := h.2 k hk
  have hw : (wit k).toNatClampNeg ≤ 3 := rig_wit (by grind)
  by_cases hk2 : k = P
  · subst hk2
    simp (disch := omega) only [pm_w_self, pm_w_ne]
    refine ⟨by grind, fun i hi => ?_, by grind⟩
    try simp (disch := omega) only [pm_w_ne]
    exact g2 i hi
  · simp (disch := omega) only [pm_w_ne]
    refine ⟨g1, fun i hi => ?_, g3⟩
    try simp (disch := omega) only [pm_w_ne]
    exact g2 i hi
theorem rig_set10 {t c : Nat → Int32} {n nP nH nT v xv : Int32} {P : Nat} {kind house person amount fr to is leans proved seals told wit witOf : Nat → Int32} (h : pg_rig t c n nP nH nT kind house person amount fr to is leans proved seals told wit witOf) (h0 : -1 ≤ v) (h1 : v ≤ 3) (hv : xv = pm_no v) : pg_rig t (pm_w c (16 * P + 10) xv) n nP nH nT kind house person amount fr to is leans proved (pm_w seals P v) told wit witOf := by
  refine ⟨h.1, fun k hk => ?_⟩
  obtain ⟨g1, g2, g3⟩ := h.2 k hk
  have hw : (wit k).toNatClampNeg ≤ 3 := rig_wit (by grind)
  by_cases hk2 : k = P
  · subst hk2
    simp (disch := omega) only [pm_w_self, pm_w_ne]
    refine ⟨by grind, fun i hi => ?_, by grind⟩
    try simp (disch := omega) only [pm_w_ne]
    exact g2 i hi
  · simp (disch := omega) only [pm_w_ne]
    refine ⟨g1, fun i hi => ?_, g3⟩
    try simp (disch := omega) only [pm_w_ne]
    exact g2 i hi
theorem rig_set11 {t c : Nat → Int32} {n nP nH nT v : Int32} {P : Nat} {kind house person amount fr to is leans proved seals told wit witOf : Nat → Int32} (h : pg_rig t c n nP nH nT kind house person amount fr to is leans proved seals told wit witOf) (h0 : 0 ≤ v) (h1 : v ≤ 3599) (hv : pm_no v = v) : pg_rig t (pm_w c (16 * P + 11) v) n nP nH nT kind house person amount fr to is leans proved seals (pm_w told P v) wit witOf := by
  refine ⟨h.1, fun k hk => ?_⟩
  obtain ⟨g1, g2, g3⟩ := h.2 k hk
  have hw : (wit k).toNatClampNeg ≤ 3 := rig_wit (by grind)
  by_cases hk2 : k = P
  · subst hk2
    simp (disch := omega) only [pm_w_self, pm_w_ne]
    refine ⟨by grind, fun i hi => ?_, by grind⟩
    try simp (disch := omega) only [pm_w_ne]
    exact g2 i hi
  · simp (disch := omega) only [pm_w_ne]
    refine ⟨g1, fun i hi => ?_, g3⟩
    try simp (disch := omega) only [pm_w_ne]
    exact g2 i hi

