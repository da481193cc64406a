/-! EACH STEP: cells, switches, ends. -/
section PMY
variable {p : Program} {l : Launch} {e : Env} {R : Room} {s : State} {m : MethodId} {args : Array Value} {below : List Frame} {meth : Method} {c : Code} {Q : State → Prop}
variable {k : Nat} {sa : Nat → Value} {base : Nat} {D : va_G} {cs : pm_cs3} {L : Nat} {xs : Nat → Int32}
theorem pm_ofInt_inj {u v : Int} (hu : -100000 ≤ u ∧ u ≤ 100000) {x : Int32} (h : x.toInt = v) : Int32.ofInt u = x ↔ u = v := by
  constructor
  · intro q
    rw [← h, ← q, Int32.toInt_ofInt_of_le (by simp; omega) (by simp; omega)]
  · intro q
    rw [q, ← h, Int32.ofInt_toInt]
theorem pm_tsw_sel {x : Int32} {d : Nat} {pc : Nat} {lo : Int} : ∀ (offs : List Int) (i : Nat), -1000 ≤ lo → lo + (i : Int) + (offs.length : Int) ≤ 100001 →
    pm_sel x d (pm_tsw pc lo i offs) = if lo + (i : Int) ≤ x.toInt ∧ x.toInt < lo + (i : Int) + (offs.length : Int) then pm_tgt pc (offs.getD (x.toInt - lo - (i : Int)).toNat 0) else d := by
  intro offs
  induction offs with
  | nil =>
    intro i h1 h2
    rw [if_neg (by intro hh; simp only [List.length_nil] at hh; omega)]
    rfl
  | cons o r ih =>
    intro i h1 h2
    simp only [List.length_cons, Int.natCast_add, Int.natCast_one] at h2
    have hi : Int32.ofInt (lo + (i : Int)) = x ↔ lo + (i : Int) = x.toInt := pm_ofInt_inj ⟨by omega, by omega⟩ rfl
    simp only [pm_tsw, pm_sel]
    by_cases hx : x = Int32.ofInt (lo + (i : Int))
    · rw [if_pos hx]
      have := hi.mp hx.symm
      rw [if_pos (by simp only [List.length_cons, Int.natCast_add, Int.natCast_one]; omega), show (x.toInt - lo - (i : Int)).toNat = 0 by omega]
      rfl
    · rw [if_neg hx, ih (i + 1) h1 (by simp only [Int.natCast_add, Int.natCast_one]; omega)]
      have hne : ¬ lo + (i : Int) = x.toInt := fun q => hx (hi.mpr q).symm
      simp only [List.length_cons, Int.natCast_add, Int.natCast_one]
      by_cases hr : lo + (i : Int) ≤ x.toInt ∧ x.toInt < lo + (i : Int) + ((r.length : Int) + 1)
      · rw [if_pos hr, if_pos (by omega)]
        congr 1
        have : (x.toInt - lo - (i : Int)).toNat = (x.toInt - lo - ((i : Int) + 1)).toNat + 1 := by omega
        rw [this]
        rfl
      · rw [if_neg hr, if_neg (by omega)]
theorem pm_lsw_sel {x : Int32} {pc : Nat} {dd : Int} : ∀ (ps : List (Int × Int)), ps.all (fun o => pm_pos pc o.2 && decide (-100000 ≤ o.1) && decide (o.1 ≤ 100000)) = true →
    pm_sel x (pm_tgt pc dd) (pm_lsw pc ps) = pm_tgt pc (Op.lookupswitch.offset ps dd x.toInt) := by
  intro ps
  induction ps with
  | nil => intro _; rfl
  | cons q r ih =>
    intro h
    simp only [List.all_cons, Bool.and_eq_true, decide_eq_true_eq] at h
    obtain ⟨u, v⟩ := q
    have hi : Int32.ofInt u = x ↔ u = x.toInt := pm_ofInt_inj ⟨h.1.1.2, h.1.2⟩ rfl
    simp only [pm_lsw, pm_sel]
    have ih := ih (by simpa only [Bool.and_eq_true] using h.2)
    by_cases hx : x = Int32.ofInt u
    · rw [if_pos hx]
      have := hi.mp hx.symm
      simp [Op.lookupswitch.offset, this]
    · rw [if_neg hx, ih]
      have : ¬ u = x.toInt := fun z => hx (hi.mpr z).symm
      simp [Op.lookupswitch.offset, this]
theorem pm_lsw_pos {x : Int32} {pc : Nat} {dd : Int} : ∀ (ps : List (Int × Int)), ps.all (fun o => pm_pos pc o.2 && decide (-100000 ≤ o.1) && decide (o.1 ≤ 100000)) = true → pm_pos pc dd = true → 0 ≤ (pc : Int) + Op.lookupswitch.offset ps dd x.toInt := by
  intro ps
  induction ps with
  | nil => intro _ h; exact of_decide_eq_true h
  | cons q r ih =>
    intro h hd
    simp only [List.all_cons, Bool.and_eq_true] at h
    obtain ⟨u, v⟩ := q
    by_cases hx : u = x.toInt
    · simp only [Op.lookupswitch.offset, hx]
      simpa using of_decide_eq_true h.1.1.1
    · have := ih (by simpa only [Bool.and_eq_true] using h.2) hd
      simpa [Op.lookupswitch.offset, hx] using this

theorem pm_S_tableswitch (hC : pm_Ctx p s m args meth c k sa base D cs L xs) (hsa : pm_rvok sa) (h0 : sa 0 = .null) (hR : 1 ≤ R.frames ∧ 64 ≤ R.locals) {pc len a b : Nat} {cc : Int} {dd lo2 hi2 : Int} {offs : Array Int} {lo st : List Value} {H : pm_H} {o : pm_out} {Hp : Heap} {locs : List Loc} {ls : Array Slot} {cells slots : Nat}
    (hdg : decode (pm_by k) pc = .ok (.tableswitch dd lo2 hi2 offs, len)) (hln : pm_lnc (pc, .tableswitch dd lo2 hi2 offs, len, a, b, cc) = true) (hok : pm_okI k (pc, .tableswitch dd lo2 hi2 offs, len, a, b, cc) = true) (hs : pm_step (pc, .tableswitch dd lo2 hi2 offs, len, a, b, cc) (lo, st, H) = some o) (hAt : pm_At s k sa base D cs L xs (lo, st, H) Hp locs ls)
    (hct : s.heap.size + cells ≤ base + (H.1.2.2.1 - 8)) (hrm : cells + ((pm_oH o).1.2.2.1 - H.1.2.2.1) ≤ R.cells ∧ slots + ((pm_oH o).1.2.2.2 - H.1.2.2.2) ≤ R.slots)
    (K : pm_K p l e R s m args below meth c Q k sa base D cs L xs (lo, st, H) cells slots (pc + len) o) : W p l e R s m args below meth c Hp locs cells slots Q (F0 m pc ls (st.map (pm_cv (pm_rv sa base)))) := by
  obtain ⟨hx, hb, hml, hown, hts, hKs, hSt, hnm, hbl, hrt, hlk⟩ := id hC
  simp only [pm_okI, Bool.and_eq_true, decide_eq_true_eq] at hok
  obtain ⟨⟨⟨⟨g1, g2⟩, g3⟩, g4⟩, g5⟩ := hok
  cases st with
  | nil => cases hs
  | cons v0 r =>
    cases v0 with
    | int v =>
      obtain rfl := Option.some.inj hs
      have K := pm_Ct.st K hAt
      rw [pm_tsw_sel offs.toList 0 g3 (by show lo2 + ((0 : Nat) : Int) + _ ≤ _; omega)] at K
      simp only [Int.natCast_zero, Int.add_zero, Int.sub_zero] at K
      by_cases hin : lo2 ≤ v.toInt ∧ v.toInt < lo2 + (offs.toList.length : Int)
      · rw [if_pos hin] at K
        have hlt : (v.toInt - lo2).toNat < offs.toList.length := by omega
        have hof : offs[(v.toInt - lo2).toNat]? = some (offs.toList.getD (v.toInt - lo2).toNat 0) := by
          rw [← Array.getElem?_toList, List.getD_eq_getElem?_getD, List.getElem?_eq_getElem hlt]
          rfl
        refine lv_tableIn hx hb hdg (by omega) (by omega) hof ?_ K
        have := List.all_eq_true.mp g2 (offs.toList.getD (v.toInt - lo2).toNat 0) (by rw [List.getD_eq_getElem?_getD, List.getElem?_eq_getElem hlt]; exact List.getElem_mem hlt)
        have := of_decide_eq_true this
        show (pc : Int) + _ = ((((pc : Int) + _).toNat : Nat) : Int)
        omega
      · rw [if_neg hin] at K
        refine lv_tableOut hx hb hdg (by omega) ?_ K
        have := of_decide_eq_true g1
        show (pc : Int) + _ = ((((pc : Int) + _).toNat : Nat) : Int)
        omega
    | _ => cases hs
theorem pm_S_lookupswitch (hC : pm_Ctx p s m args meth c k sa base D cs L xs) (hsa : pm_rvok sa) (h0 : sa 0 = .null) (hR : 1 ≤ R.frames ∧ 64 ≤ R.locals) {pc len a b : Nat} {cc : Int} {dd : Int} {ps : Array (Int × Int)} {lo st : List Value} {H : pm_H} {o : pm_out} {Hp : Heap} {locs : List Loc} {ls : Array Slot} {cells slots : Nat}
    (hdg : decode (pm_by k) pc = .ok (.lookupswitch dd ps, len)) (hln : pm_lnc (pc, .lookupswitch dd ps, len, a, b, cc) = true) (hok : pm_okI k (pc, .lookupswitch dd ps, len, a, b, cc) = true) (hs : pm_step (pc, .lookupswitch dd ps, len, a, b, cc) (lo, st, H) = some o) (hAt : pm_At s k sa base D cs L xs (lo, st, H) Hp locs ls)
    (hct : s.heap.size + cells ≤ base + (H.1.2.2.1 - 8)) (hrm : cells + ((pm_oH o).1.2.2.1 - H.1.2.2.1) ≤ R.cells ∧ slots + ((pm_oH o).1.2.2.2 - H.1.2.2.2) ≤ R.slots)
    (K : pm_K p l e R s m args below meth c Q k sa base D cs L xs (lo, st, H) cells slots (pc + len) o) : W p l e R s m args below meth c Hp locs cells slots Q (F0 m pc ls (st.map (pm_cv (pm_rv sa base)))) := by
  obtain ⟨hx, hb, hml, hown, hts, hKs, hSt, hnm, hbl, hrt, hlk⟩ := id hC
  simp only [pm_okI, Bool.and_eq_true] at hok
  obtain ⟨⟨g1, g2⟩, g3⟩ := hok
  have g2 : ps.toList.all (fun o => pm_pos pc o.2 && decide (-100000 ≤ o.1) && decide (o.1 ≤ 100000)) = true := g2
  cases st with
  | nil => cases hs
  | cons v0 r =>
    cases v0 with
    | int v =>
      obtain rfl := Option.some.inj hs
      have K := pm_Ct.st K hAt
      rw [pm_lsw_sel ps.toList g2] at K
      refine lv_lookup hx hb hdg g3 rfl ?_ K
      have := pm_lsw_pos (x := v) ps.toList g2 g1
      show (pc : Int) + _ = ((((pc : Int) + _).toNat : Nat) : Int)
      omega
    | _ => cases hs
theorem pm_S_getfield (hC : pm_Ctx p s m args meth c k sa base D cs L xs) (hsa : pm_rvok sa) (h0 : sa 0 = .null) (hR : 1 ≤ R.frames ∧ 64 ≤ R.locals) {pc len a b : Nat} {cc : Int} {i : Nat} {lo st : List Value} {H : pm_H} {o : pm_out} {Hp : Heap} {locs : List Loc} {ls : Array Slot} {cells slots : Nat}
    (hdg : decode (pm_by k) pc = .ok (.getfield i, len)) (hln : pm_lnc (pc, .getfield i, len, a, b, cc) = true) (hok : pm_okI k (pc, .getfield i, len, a, b, cc) = true) (hs : pm_step (pc, .getfield i, len, a, b, cc) (lo, st, H) = some o) (hAt : pm_At s k sa base D cs L xs (lo, st, H) Hp locs ls)
    (hct : s.heap.size + cells ≤ base + (H.1.2.2.1 - 8)) (hrm : cells + ((pm_oH o).1.2.2.1 - H.1.2.2.1) ≤ R.cells ∧ slots + ((pm_oH o).1.2.2.2 - H.1.2.2.2) ≤ R.slots)
    (K : pm_K p l e R s m args below meth c Q k sa base D cs L xs (lo, st, H) cells slots (pc + len) o) : W p l e R s m args below meth c Hp locs cells slots Q (F0 m pc ls (st.map (pm_cv (pm_rv sa base)))) := by
  obtain ⟨hx, hb, hml, hown, hts, hKs, hSt, hnm, hbl, hrt, hlk⟩ := id hC
  obtain rfl : len = 3 := Nat.eq_of_beq_eq_true hln
  obtain ⟨q, r, rfl, hr, hT, rfl⟩ := pm_get_inv (show pm_get (lo, st, H) a b cc.toNat = some o from hs)
  obtain ⟨hl, hlen, hP, hS, hf⟩ := id hAt
  have K := pm_Ct.st K hAt
  simp only [pm_okI, Bool.or_eq_true, Bool.and_eq_true, decide_eq_true_eq] at hok
  rw [List.map_cons, pm_cvr]
  rcases hok with ⟨⟨⟨g1, g2⟩, g3⟩, g4⟩ | ⟨⟨g1, g2⟩, g3⟩
  · have ha := Nat.blt_eq.mp g1
    have hbn := Nat.blt_eq.mp g2
    have h8 : 8 ≤ q := by
      rcases pm_lo5 hf hT with ⟨h, -⟩ | ⟨-, h⟩
      · exact h
      · omega
    have hcc : cc.toNat = pm_ft a b := by rw [g3]; rfl
    rw [hcc] at K
    rw [pm_rv_hi h8]
    have hget := pm_ws_get (pm_rv sa base) cs base H h8 (hf.lt (by rw [hT]; exact (by decide : (0 : Nat) ≠ 9)))
    have hcell : pm_cell (pm_rv sa base) cs H q = .inr (a, pm_fs (pm_rv sa base) H q a) := by unfold pm_cell; rw [hT]; rfl
    rw [hcell] at hget
    obtain ⟨-, -, -, hin⟩ := pm_cfacts ha
    rcases pm_fword g4 with hw | hw
    · exact va_get (D := D) (ci := a) (v := pm_cv (pm_rv sa base) (pm_fv H (pm_ft a b) q b)) (C := pm_on a) (T := pm_Tf a) (N := pm_nf a) hx hb hts hin hown hKs hP (q - 8) hget (pm_clk a ha) b hbn (hts _ (pm_gwi hw rfl)) (fun _ h9 => h9) (pm_fs_get hbn) hdg K
    · exact va_getN (D := D) (ci := a) (v := pm_cv (pm_rv sa base) (pm_fv H (pm_ft a b) q b)) (C := pm_on a) (T := pm_Tf a) (N := pm_nf a) hx hb hts hin hown hKs hP (q - 8) hget (pm_clk a ha) b hbn (va_Nw.use rfl (hSt.2.2.2 _ hw rfl)) (fun _ h9 => h9) (pm_fs_get hbn) hdg K
  · obtain rfl := Nat.eq_of_beq_eq_true g1
    have h5 : q = 5 := by
      rcases pm_lo5 hf hT with ⟨-, h⟩ | ⟨h, -⟩
      · omega
      · exact h
    subst h5
    obtain ⟨u, w, e1, e2, e3, e4, e5, e6, e7⟩ := hSt.2.1
    rw [pm_rv_lo (by decide), e1]
    rw [show pm_ow k = 12 from Nat.eq_of_beq_eq_true g2] at hown
    rcases g3 with ⟨⟨g3, g4⟩, g5⟩ | ⟨⟨g3, g4⟩, g5⟩
    · obtain rfl := Nat.eq_of_beq_eq_true g3
      obtain rfl := Nat.eq_of_beq_eq_true g4
      subst g5
      refine vk_getf hx hb e5 hS hown (hts _ (pm_gwi pm_uq_0 rfl)) (fun _ h9 => h9) hdg ?_
      have hO : pm_cv (pm_rv sa base) (pm_fv H (3 : Int).toNat 5 0) = .ref w := by
        show pm_rv sa base (H.1.2.1 5 0) = _
        rw [hf.2.2.1 5 (by decide) 0]
        show pm_rv sa base 6 = _
        rw [pm_rv_lo (by decide), e2]
      rw [List.map_cons, hO] at K
      exact K
    · obtain rfl := Nat.eq_of_beq_eq_true g3
      obtain rfl := Nat.eq_of_beq_eq_true g4
      subst g5
      refine vk_getf hx hb e4 hS hown (hts _ (pm_gwi pm_uq_1 rfl)) (fun _ h9 => h9) hdg ?_
      have hO : pm_cv (pm_rv sa base) (pm_fv H (0 : Int).toNat 5 1) = .int 0 := by
        show Value.int (H.2.1 5 1) = _
        rw [hf.2.1 5 (by decide) 1]
        rfl
      rw [List.map_cons, hO] at K
      exact K
theorem pm_S_putfield (hC : pm_Ctx p s m args meth c k sa base D cs L xs) (hsa : pm_rvok sa) (h0 : sa 0 = .null) (hR : 1 ≤ R.frames ∧ 64 ≤ R.locals) {pc len a b : Nat} {cc : Int} {i : Nat} {lo st : List Value} {H : pm_H} {o : pm_out} {Hp : Heap} {locs : List Loc} {ls : Array Slot} {cells slots : Nat}
    (hdg : decode (pm_by k) pc = .ok (.putfield i, len)) (hln : pm_lnc (pc, .putfield i, len, a, b, cc) = true) (hok : pm_okI k (pc, .putfield i, len, a, b, cc) = true) (hs : pm_step (pc, .putfield i, len, a, b, cc) (lo, st, H) = some o) (hAt : pm_At s k sa base D cs L xs (lo, st, H) Hp locs ls)
    (hct : s.heap.size + cells ≤ base + (H.1.2.2.1 - 8)) (hrm : cells + ((pm_oH o).1.2.2.1 - H.1.2.2.1) ≤ R.cells ∧ slots + ((pm_oH o).1.2.2.2 - H.1.2.2.2) ≤ R.slots)
    (K : pm_K p l e R s m args below meth c Q k sa base D cs L xs (lo, st, H) cells slots (pc + len) o) : W p l e R s m args below meth c Hp locs cells slots Q (F0 m pc ls (st.map (pm_cv (pm_rv sa base)))) := by
  obtain ⟨hx, hb, hml, hown, hts, hKs, hSt, hnm, hbl, hrt, hlk⟩ := id hC
  obtain rfl : len = 3 := Nat.eq_of_beq_eq_true hln
  simp only [pm_okI, Bool.or_eq_true, Bool.and_eq_true, decide_eq_true_eq, Bool.not_eq_true'] at hok
  obtain ⟨⟨⟨⟨g1, g2⟩, g3⟩, g4⟩, g5⟩ := hok
  have ha := Nat.blt_eq.mp g1
  have hbn := Nat.blt_eq.mp g2
  have hcc : cc.toNat = pm_ft a b := by rw [g3]; rfl
  have hfin : (pm_fd a b).2.2.2 = true → (pm_y k).name = "<init>" ∧ (pm_fd a b).1 = pm_on (pm_ow k) := by
    intro h
    rcases g5 with g5 | g5
    · rw [g5] at h; cases h
    · exact g5
  obtain ⟨hl, hlen, hP, hS, hf⟩ := id hAt
  obtain ⟨-, hftk, -, -⟩ := pm_cfacts ha
  have hk2 := hftk b hbn
  rcases pm_put_inv (show pm_put (lo, st, H) a b cc.toNat = some o from hs) with ⟨v, q, r, hty, rfl, hT, h8, rfl⟩ | ⟨v, q, r, hty, rfl, hT, h8, rfl⟩ | ⟨v, q, r, hty, rfl, hT, h8, rfl⟩ | ⟨v, q, r, hty, rfl, hT, h8, rfl⟩
  · rw [hcc] at hty
    rw [hty] at hk2
    have hft : pm_fty a b = .int := by revert hk2; cases pm_fty a b <;> simp [pm_ftk]
    rw [List.map_cons, List.map_cons, pm_cvr8 h8]
    refine pm_putW (H' := (H.1, pm_u H.2.1 q b v, H.2.2)) hC hdg hAt hT h8 ha hbn g4 hfin (by rw [hty]; show Value.int (pm_u H.2.1 q b v q b) = Value.int v; simp [pm_u]) (fun j hj => ?_) rfl rfl (fun j hj => pm_cell_congr rfl (pm_u_ne hj) rfl rfl) (by rw [hft]; rfl) (by rw [hft]; rfl) (fun Hp' locs' hP' hS' => ?_)
    · have hI : pm_u H.2.1 q b v q j = H.2.1 q j := by simp [pm_u, hj]
      unfold pm_fv
      simp only [hI]
    · exact pm_Ct.hp (G' := H.1) K hAt rfl hP' hS' (hf.upI h8)
  · rw [hcc] at hty
    rw [hty] at hk2
    have hft : pm_fty a b = .boolean := by revert hk2; cases pm_fty a b <;> simp [pm_ftk]
    obtain ⟨hv01, K⟩ := K
    simp only [Bool.or_eq_true, beq_iff_eq] at hv01
    rw [List.map_cons, List.map_cons, pm_cvr8 h8]
    refine pm_putW (H' := (H.1, pm_u H.2.1 q b v, H.2.2)) hC hdg hAt hT h8 ha hbn g4 hfin (by rw [hty]; show Value.int (pm_u H.2.1 q b v q b) = Value.int v; simp [pm_u]) (fun j hj => ?_) rfl rfl (fun j hj => pm_cell_congr rfl (pm_u_ne hj) rfl rfl) (by rw [hft]; rcases hv01 with rfl | rfl <;> rfl) (by rw [hft]; rcases hv01 with rfl | rfl <;> rfl) (fun Hp' locs' hP' hS' => ?_)
    · have hI : pm_u H.2.1 q b v q j = H.2.1 q j := by simp [pm_u, hj]
      unfold pm_fv
      simp only [hI]
    · exact pm_Ct.hp (G' := H.1) K hAt rfl hP' hS' (hf.upI h8)
  · rw [hcc] at hty
    rw [hty] at hk2
    have hft : pm_fty a b = .long := by revert hk2; cases pm_fty a b <;> simp [pm_ftk]
    rw [List.map_cons, List.map_cons, pm_cvr8 h8]
    refine pm_putW (H' := (H.1, H.2.1, pm_u H.2.2 q b v)) hC hdg hAt hT h8 ha hbn g4 hfin (by rw [hty]; show Value.long (pm_u H.2.2 q b v q b) = Value.long v; simp [pm_u]) (fun j hj => ?_) rfl rfl (fun j hj => pm_cell_congr rfl rfl (pm_u_ne hj) rfl) (by rw [hft]; rfl) (by rw [hft]; rfl) (fun Hp' locs' hP' hS' => ?_)
    · have hI : pm_u H.2.2 q b v q j = H.2.2 q j := by simp [pm_u, hj]
      unfold pm_fv
      simp only [hI]
    · exact pm_Ct.hp (G' := H.1) K hAt rfl hP' hS' hf.upJ
  · rw [hcc] at hty
    rw [hty] at hk2
    have hrv : pm_rv sa base v = .null ∨ ∃ t, pm_rv sa base v = .ref t := by
      unfold pm_rv
      split
      · exact hsa v
      · exact Or.inr ⟨_, rfl⟩
    have hnf : narrow (pm_fty a b) (pm_rv sa base v) = pm_rv sa base v ∧ fits (pm_fty a b) (pm_rv sa base v) = true := by
      revert hk2
      cases pm_fty a b <;> simp [pm_ftk] <;> rcases hrv with h | ⟨t, h⟩ <;> rw [h] <;> exact ⟨rfl, rfl⟩
    rw [List.map_cons, List.map_cons, pm_cvr8 h8]
    refine pm_putW (H' := ((H.1.1, pm_u H.1.2.1 q b v, H.1.2.2), H.2)) hC hdg hAt hT h8 ha hbn g4 hfin (by rw [hty]; show pm_rv sa base (pm_u H.1.2.1 q b v q b) = pm_rv sa base v; simp [pm_u]) (fun j hj => ?_) rfl rfl (fun j hj => pm_cell_congr rfl rfl rfl (pm_u_ne hj)) hnf.1 hnf.2 (fun Hp' locs' hP' hS' => ?_)
    · have hI : pm_u H.1.2.1 q b v q j = H.1.2.1 q j := by simp [pm_u, hj]
      unfold pm_fv
      simp only [hI]
    · exact pm_Ct.hp (G := H.1) (d := H.2) (G' := (H.1.1, pm_u H.1.2.1 q b v, H.1.2.2)) K hAt rfl hP' hS' (hf.upO h8)
end PMY
