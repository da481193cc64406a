/-! EACH STEP: rows, new cells, statics, ends. -/
section PMZ
variable {p : Program} {l : Launch} {e : Env} {R : Room} {s : State} {m : MethodId} {args : Array Value} {below : List Frame} {meth : Method} {c : Code} {Q : State → Prop}
variable {k : Nat} {sa : Nat → Value} {base : Nat} {D : va_G} {cs : pm_cs3} {L : Nat} {xs : Nat → Int32}
/-- which of the start's cells are rows -/
theorem pm_TS1 {L a : Nat} (h8 : a < 8) (h : (pm_TS L a).1 = 1) : 1 ≤ a ∧ a ≤ 4 := by
  match a, h8, h with
  | 0, _, h => cases h
  | 1, _, _ => decide
  | 2, _, _ => decide
  | 3, _, _ => decide
  | 4, _, _ => decide
  | 5, _, h => cases h
  | 6, _, h => cases h
  | 7, _, h => cases h
  | a + 8, h8, _ => omega
theorem pm_TS2 {L a : Nat} (h8 : a < 8) (h : (pm_TS L a).1 = 2) : a = 6 := by
  match a, h8, h with
  | 0, _, h => cases h
  | 1, _, h => cases h
  | 2, _, h => cases h
  | 3, _, h => cases h
  | 4, _, h => cases h
  | 5, _, h => cases h
  | 6, _, _ => rfl
  | 7, _, h => cases h
  | a + 8, h8, _ => omega
theorem pm_TS3 {L a : Nat} (h8 : a < 8) (h : (pm_TS L a).1 = 3) : False := by
  match a, h8, h with
  | 0, _, h => cases h
  | 1, _, h => cases h
  | 2, _, h => cases h
  | 3, _, h => cases h
  | 4, _, h => cases h
  | 5, _, h => cases h
  | 6, _, h => cases h
  | 7, _, h => cases h
  | a + 8, h8, _ => omega
theorem pm_sltab {o i a b : Nat} (h : pm_lkS o i a b = true) : (o, i, a, b) ∈ pm_uS := by
  obtain ⟨u, hu, h⟩ := List.any_eq_true.mp h
  simp only [Bool.and_eq_true] at h
  obtain ⟨u1, u2, u3, u4⟩ := u
  rw [show o = u1 from (Nat.eq_of_beq_eq_true h.1.1.1).symm, show i = u2 from (Nat.eq_of_beq_eq_true h.1.1.2).symm, show a = u3 from (Nat.eq_of_beq_eq_true h.1.2).symm, show b = u4 from (Nat.eq_of_beq_eq_true h.2).symm]
  exact hu

theorem pm_S_iaload (hC : pm_Ctx p s m args meth c k sa base D cs L xs) (hsa : pm_rvok sa) (h0 : sa 0 = .null) (hR : 1 ≤ R.frames ∧ 64 ≤ R.locals) {pc len a b : Nat} {cc : Int}  {lo st : List Value} {H : pm_H} {o : pm_out} {Hp : Heap} {locs : List Loc} {ls : Array Slot} {cells slots : Nat}
    (hdg : decode (pm_by k) pc = .ok (.iaload, len)) (hln : pm_lnc (pc, .iaload, len, a, b, cc) = true) (hok : pm_okI k (pc, .iaload, len, a, b, cc) = true) (hs : pm_step (pc, .iaload, len, a, b, cc) (lo, st, H) = some o) (hAt : pm_At s k sa base D cs L xs (lo, st, H) Hp locs ls)
    (hct : s.heap.size + cells ≤ base + (H.1.2.2.1 - 8)) (hrm : cells + ((pm_oH o).1.2.2.1 - H.1.2.2.1) ≤ R.cells ∧ slots + ((pm_oH o).1.2.2.2 - H.1.2.2.2) ≤ R.slots)
    (K : pm_K p l e R s m args below meth c Q k sa base D cs L xs (lo, st, H) cells slots (pc + len) o) : W p l e R s m args below meth c Hp locs cells slots Q (F0 m pc ls (st.map (pm_cv (pm_rv sa base)))) := by
  obtain ⟨hx, hb, hml, hown, hts, hKs, hSt, hnm, hbl, hrt, hlk⟩ := id hC
  obtain rfl : len = 1 := Nat.eq_of_beq_eq_true hln
  obtain ⟨i, q, r, rfl, hT, rfl⟩ := pm_ald_inv (show pm_ald (lo, st, H) 1 = some o from hs)
  obtain ⟨hl, hlen, hP, hS, hf⟩ := id hAt
  have hin := pm_in_vp K.1
  have K := pm_Ct.st K.2 hAt
  rw [List.map_cons, List.map_cons, pm_cvr]
  by_cases h8 : 8 ≤ q
  · rw [pm_rv_hi h8]
    have hget := pm_AtArr hf h8 hT (by decide) base (pm_rv sa base) cs
    have hcell : pm_cell (pm_rv sa base) cs H q = .inl (cs.1, (H.1.1 q).2, .inl (H.2.1 q)) := by unfold pm_cell; rw [hT]; rfl
    rw [hcell] at hget
    exact va_iald hx hb hKs hP (q - 8) 0 hget rfl hin hdg K
  · rw [hf.1 q (by omega)] at hT hin
    obtain ⟨h1, h4⟩ := pm_TS1 (by omega) hT
    obtain ⟨t, ht, hTt⟩ := hSt.1 q h1 h4
    rw [pm_rv_lo (by omega), ht]
    rw [hf.2.1 q (by omega)] at K
    exact pm_sldI hx hb hTt hS hin hdg K
theorem pm_S_baload (hC : pm_Ctx p s m args meth c k sa base D cs L xs) (hsa : pm_rvok sa) (h0 : sa 0 = .null) (hR : 1 ≤ R.frames ∧ 64 ≤ R.locals) {pc len a b : Nat} {cc : Int}  {lo st : List Value} {H : pm_H} {o : pm_out} {Hp : Heap} {locs : List Loc} {ls : Array Slot} {cells slots : Nat}
    (hdg : decode (pm_by k) pc = .ok (.baload, len)) (hln : pm_lnc (pc, .baload, len, a, b, cc) = true) (hok : pm_okI k (pc, .baload, len, a, b, cc) = true) (hs : pm_step (pc, .baload, len, a, b, cc) (lo, st, H) = some o) (hAt : pm_At s k sa base D cs L xs (lo, st, H) Hp locs ls)
    (hct : s.heap.size + cells ≤ base + (H.1.2.2.1 - 8)) (hrm : cells + ((pm_oH o).1.2.2.1 - H.1.2.2.1) ≤ R.cells ∧ slots + ((pm_oH o).1.2.2.2 - H.1.2.2.2) ≤ R.slots)
    (K : pm_K p l e R s m args below meth c Q k sa base D cs L xs (lo, st, H) cells slots (pc + len) o) : W p l e R s m args below meth c Hp locs cells slots Q (F0 m pc ls (st.map (pm_cv (pm_rv sa base)))) := by
  obtain ⟨hx, hb, hml, hown, hts, hKs, hSt, hnm, hbl, hrt, hlk⟩ := id hC
  obtain rfl : len = 1 := Nat.eq_of_beq_eq_true hln
  obtain ⟨i, q, r, rfl, hT, rfl⟩ := pm_ald_inv (show pm_ald (lo, st, H) 2 = some o from hs)
  obtain ⟨hl, hlen, hP, hS, hf⟩ := id hAt
  have hin := pm_in_vp K.1
  have K := pm_Ct.st K.2 hAt
  rw [List.map_cons, List.map_cons, pm_cvr]
  by_cases h8 : 8 ≤ q
  · rw [pm_rv_hi h8]
    have hget := pm_AtArr hf h8 hT (by decide) base (pm_rv sa base) cs
    have hcell : pm_cell (pm_rv sa base) cs H q = .inl (cs.2.1, (H.1.1 q).2, .inl (H.2.1 q)) := by unfold pm_cell; rw [hT]; rfl
    rw [hcell] at hget
    exact va_bald hx hb hKs hP (q - 8) 1 hget rfl hin hdg K
  · rw [hf.1 q (by omega)] at hT hin
    obtain rfl := pm_TS2 (by omega) hT
    obtain ⟨u, w, e1, e2, e3, e4, e5, e6, e7⟩ := hSt.2.1
    rw [pm_rv_lo (by decide), e2]
    rw [hf.2.1 6 (by decide)] at K
    exact pm_sldB hx hb e6 hS hin hdg K
theorem pm_S_laload (hC : pm_Ctx p s m args meth c k sa base D cs L xs) (hsa : pm_rvok sa) (h0 : sa 0 = .null) (hR : 1 ≤ R.frames ∧ 64 ≤ R.locals) {pc len a b : Nat} {cc : Int}  {lo st : List Value} {H : pm_H} {o : pm_out} {Hp : Heap} {locs : List Loc} {ls : Array Slot} {cells slots : Nat}
    (hdg : decode (pm_by k) pc = .ok (.laload, len)) (hln : pm_lnc (pc, .laload, len, a, b, cc) = true) (hok : pm_okI k (pc, .laload, len, a, b, cc) = true) (hs : pm_step (pc, .laload, len, a, b, cc) (lo, st, H) = some o) (hAt : pm_At s k sa base D cs L xs (lo, st, H) Hp locs ls)
    (hct : s.heap.size + cells ≤ base + (H.1.2.2.1 - 8)) (hrm : cells + ((pm_oH o).1.2.2.1 - H.1.2.2.1) ≤ R.cells ∧ slots + ((pm_oH o).1.2.2.2 - H.1.2.2.2) ≤ R.slots)
    (K : pm_K p l e R s m args below meth c Q k sa base D cs L xs (lo, st, H) cells slots (pc + len) o) : W p l e R s m args below meth c Hp locs cells slots Q (F0 m pc ls (st.map (pm_cv (pm_rv sa base)))) := by
  obtain ⟨hx, hb, hml, hown, hts, hKs, hSt, hnm, hbl, hrt, hlk⟩ := id hC
  obtain rfl : len = 1 := Nat.eq_of_beq_eq_true hln
  obtain ⟨i, q, r, rfl, hT, rfl⟩ := pm_ldl_inv (show pm_ldl (lo, st, H) = some o from hs)
  obtain ⟨hl, hlen, hP, hS, hf⟩ := id hAt
  have hin := pm_in_vp K.1
  have K := pm_Ct.st K.2 hAt
  rw [List.map_cons, List.map_cons, pm_cvr]
  have h8 : 8 ≤ q := by
    rcases Nat.lt_or_ge q 8 with h | h
    · rw [hf.1 q h] at hT
      exact (pm_TS3 h hT).elim
    · exact h
  rw [pm_rv_hi h8]
  have hget := pm_AtArr hf h8 hT (by decide) base (pm_rv sa base) cs
  have hcell : pm_cell (pm_rv sa base) cs H q = .inl (cs.2.2, (H.1.1 q).2, .inr (.inl (H.2.2 q))) := by unfold pm_cell; rw [hT]; rfl
  rw [hcell] at hget
  exact va_lald hx hb hKs hP (q - 8) 2 hget rfl hin hdg K
theorem pm_S_iastore (hC : pm_Ctx p s m args meth c k sa base D cs L xs) (hsa : pm_rvok sa) (h0 : sa 0 = .null) (hR : 1 ≤ R.frames ∧ 64 ≤ R.locals) {pc len a b : Nat} {cc : Int}  {lo st : List Value} {H : pm_H} {o : pm_out} {Hp : Heap} {locs : List Loc} {ls : Array Slot} {cells slots : Nat}
    (hdg : decode (pm_by k) pc = .ok (.iastore, len)) (hln : pm_lnc (pc, .iastore, len, a, b, cc) = true) (hok : pm_okI k (pc, .iastore, len, a, b, cc) = true) (hs : pm_step (pc, .iastore, len, a, b, cc) (lo, st, H) = some o) (hAt : pm_At s k sa base D cs L xs (lo, st, H) Hp locs ls)
    (hct : s.heap.size + cells ≤ base + (H.1.2.2.1 - 8)) (hrm : cells + ((pm_oH o).1.2.2.1 - H.1.2.2.1) ≤ R.cells ∧ slots + ((pm_oH o).1.2.2.2 - H.1.2.2.2) ≤ R.slots)
    (K : pm_K p l e R s m args below meth c Q k sa base D cs L xs (lo, st, H) cells slots (pc + len) o) : W p l e R s m args below meth c Hp locs cells slots Q (F0 m pc ls (st.map (pm_cv (pm_rv sa base)))) := by
  obtain ⟨hx, hb, hml, hown, hts, hKs, hSt, hnm, hbl, hrt, hlk⟩ := id hC
  obtain rfl : len = 1 := Nat.eq_of_beq_eq_true hln
  obtain ⟨v, i, q, r, rfl, hT, h8, rfl⟩ := pm_ast_inv (show pm_ast (lo, st, H) 1 (fun v => v) = some o from hs)
  obtain ⟨hl, hlen, hP, hS, hf⟩ := id hAt
  have hin := pm_in_vp K.1
  have K := K.2
  rw [List.map_cons, List.map_cons, List.map_cons, pm_cvr8 h8]
  have hget := pm_AtArr hf h8 hT (by decide) base (pm_rv sa base) cs
  have hcell : pm_cell (pm_rv sa base) cs H q = .inl (cs.1, (H.1.1 q).2, .inl (H.2.1 q)) := by unfold pm_cell; rw [hT]; rfl
  rw [hcell] at hget
  refine va_iast hx hb hKs hP (pm_ws_D _ _ _ _) hS (q - 8) 0 hget rfl hin hdg (fun H1 locs1 hP1 _ hS1 => ?_)
  rw [pm_set_arr h8 (Or.inl hT) hcell] at hP1
  exact pm_Ct.hp (G' := H.1) K hAt rfl hP1 hS1 (hf.upI h8)
theorem pm_S_bastore (hC : pm_Ctx p s m args meth c k sa base D cs L xs) (hsa : pm_rvok sa) (h0 : sa 0 = .null) (hR : 1 ≤ R.frames ∧ 64 ≤ R.locals) {pc len a b : Nat} {cc : Int}  {lo st : List Value} {H : pm_H} {o : pm_out} {Hp : Heap} {locs : List Loc} {ls : Array Slot} {cells slots : Nat}
    (hdg : decode (pm_by k) pc = .ok (.bastore, len)) (hln : pm_lnc (pc, .bastore, len, a, b, cc) = true) (hok : pm_okI k (pc, .bastore, len, a, b, cc) = true) (hs : pm_step (pc, .bastore, len, a, b, cc) (lo, st, H) = some o) (hAt : pm_At s k sa base D cs L xs (lo, st, H) Hp locs ls)
    (hct : s.heap.size + cells ≤ base + (H.1.2.2.1 - 8)) (hrm : cells + ((pm_oH o).1.2.2.1 - H.1.2.2.1) ≤ R.cells ∧ slots + ((pm_oH o).1.2.2.2 - H.1.2.2.2) ≤ R.slots)
    (K : pm_K p l e R s m args below meth c Q k sa base D cs L xs (lo, st, H) cells slots (pc + len) o) : W p l e R s m args below meth c Hp locs cells slots Q (F0 m pc ls (st.map (pm_cv (pm_rv sa base)))) := by
  obtain ⟨hx, hb, hml, hown, hts, hKs, hSt, hnm, hbl, hrt, hlk⟩ := id hC
  obtain rfl : len = 1 := Nat.eq_of_beq_eq_true hln
  obtain ⟨v, i, q, r, rfl, hT, h8, rfl⟩ := pm_ast_inv (show pm_ast (lo, st, H) 2 (fun v => v.toInt8.toInt32) = some o from hs)
  obtain ⟨hl, hlen, hP, hS, hf⟩ := id hAt
  have hin := pm_in_vp K.1
  have K := K.2
  rw [List.map_cons, List.map_cons, List.map_cons, pm_cvr8 h8]
  have hget := pm_AtArr hf h8 hT (by decide) base (pm_rv sa base) cs
  have hcell : pm_cell (pm_rv sa base) cs H q = .inl (cs.2.1, (H.1.1 q).2, .inl (H.2.1 q)) := by unfold pm_cell; rw [hT]; rfl
  rw [hcell] at hget
  refine va_bast hx hb hKs hP (pm_ws_D _ _ _ _) hS (q - 8) 1 hget rfl hin hdg (fun H1 locs1 hP1 _ hS1 => ?_)
  rw [pm_set_arr h8 (Or.inr hT) hcell, vp_nar_byte] at hP1
  exact pm_Ct.hp (G' := H.1) K hAt rfl hP1 hS1 (hf.upI h8)
theorem pm_S_lastore (hC : pm_Ctx p s m args meth c k sa base D cs L xs) (hsa : pm_rvok sa) (h0 : sa 0 = .null) (hR : 1 ≤ R.frames ∧ 64 ≤ R.locals) {pc len a b : Nat} {cc : Int}  {lo st : List Value} {H : pm_H} {o : pm_out} {Hp : Heap} {locs : List Loc} {ls : Array Slot} {cells slots : Nat}
    (hdg : decode (pm_by k) pc = .ok (.lastore, len)) (hln : pm_lnc (pc, .lastore, len, a, b, cc) = true) (hok : pm_okI k (pc, .lastore, len, a, b, cc) = true) (hs : pm_step (pc, .lastore, len, a, b, cc) (lo, st, H) = some o) (hAt : pm_At s k sa base D cs L xs (lo, st, H) Hp locs ls)
    (hct : s.heap.size + cells ≤ base + (H.1.2.2.1 - 8)) (hrm : cells + ((pm_oH o).1.2.2.1 - H.1.2.2.1) ≤ R.cells ∧ slots + ((pm_oH o).1.2.2.2 - H.1.2.2.2) ≤ R.slots)
    (K : pm_K p l e R s m args below meth c Q k sa base D cs L xs (lo, st, H) cells slots (pc + len) o) : W p l e R s m args below meth c Hp locs cells slots Q (F0 m pc ls (st.map (pm_cv (pm_rv sa base)))) := by
  obtain ⟨hx, hb, hml, hown, hts, hKs, hSt, hnm, hbl, hrt, hlk⟩ := id hC
  obtain rfl : len = 1 := Nat.eq_of_beq_eq_true hln
  obtain ⟨v, i, q, r, rfl, hT, h8, rfl⟩ := pm_stl_inv (show pm_stl (lo, st, H) = some o from hs)
  obtain ⟨hl, hlen, hP, hS, hf⟩ := id hAt
  have hin := pm_in_vp K.1
  have K := K.2
  rw [List.map_cons, List.map_cons, List.map_cons, pm_cvr8 h8]
  have hget := pm_AtArr hf h8 hT (by decide) base (pm_rv sa base) cs
  have hcell : pm_cell (pm_rv sa base) cs H q = .inl (cs.2.2, (H.1.1 q).2, .inr (.inl (H.2.2 q))) := by unfold pm_cell; rw [hT]; rfl
  rw [hcell] at hget
  refine va_last hx hb hKs hP (pm_ws_D _ _ _ _) hS (q - 8) 2 hget rfl hin hdg (fun H1 locs1 hP1 _ hS1 => ?_)
  have hset : (pm_ws (pm_rv sa base) cs base H).set (q - 8) (base + (q - 8), .inl (cs.2.2, (H.1.1 q).2, .inr (.inl (vp_updL (H.2.2 q) i.toNatClampNeg v)))) = pm_ws (pm_rv sa base) cs base (H.1, H.2.1, pm_u H.2.2 q i.toNatClampNeg v) := by
    refine pm_ws_set h8 rfl ?_ (fun j hj => pm_cell_congr rfl rfl (pm_u_ne hj) rfl)
    rw [← pm_u_arrL]
    unfold pm_cell
    simp only [hT]
  rw [hset] at hP1
  exact pm_Ct.hp (G' := H.1) K hAt rfl hP1 hS1 hf.upJ
theorem pm_S_arraylength (hC : pm_Ctx p s m args meth c k sa base D cs L xs) (hsa : pm_rvok sa) (h0 : sa 0 = .null) (hR : 1 ≤ R.frames ∧ 64 ≤ R.locals) {pc len a b : Nat} {cc : Int}  {lo st : List Value} {H : pm_H} {o : pm_out} {Hp : Heap} {locs : List Loc} {ls : Array Slot} {cells slots : Nat}
    (hdg : decode (pm_by k) pc = .ok (.arraylength, len)) (hln : pm_lnc (pc, .arraylength, len, a, b, cc) = true) (hok : pm_okI k (pc, .arraylength, len, a, b, cc) = true) (hs : pm_step (pc, .arraylength, len, a, b, cc) (lo, st, H) = some o) (hAt : pm_At s k sa base D cs L xs (lo, st, H) Hp locs ls)
    (hct : s.heap.size + cells ≤ base + (H.1.2.2.1 - 8)) (hrm : cells + ((pm_oH o).1.2.2.1 - H.1.2.2.1) ≤ R.cells ∧ slots + ((pm_oH o).1.2.2.2 - H.1.2.2.2) ≤ R.slots)
    (K : pm_K p l e R s m args below meth c Q k sa base D cs L xs (lo, st, H) cells slots (pc + len) o) : W p l e R s m args below meth c Hp locs cells slots Q (F0 m pc ls (st.map (pm_cv (pm_rv sa base)))) := by
  obtain ⟨hx, hb, hml, hown, hts, hKs, hSt, hnm, hbl, hrt, hlk⟩ := id hC
  obtain rfl : len = 1 := Nat.eq_of_beq_eq_true hln
  obtain ⟨q, r, rfl, h1, h3, rfl⟩ := pm_aln_inv (show pm_aln (lo, st, H) = some o from hs)
  obtain ⟨hl, hlen, hP, hS, hf⟩ := id hAt
  have K := pm_Ct.st K hAt
  rw [List.map_cons, pm_cvr]
  by_cases h8 : 8 ≤ q
  · rw [pm_rv_hi h8]
    have hget := pm_AtArr (t := (H.1.1 q).1) hf h8 rfl (fun z => by rw [z] at h3; exact absurd h3 (by decide)) base (pm_rv sa base) cs
    rcases (by omega : (H.1.1 q).1 = 1 ∨ (H.1.1 q).1 = 2 ∨ (H.1.1 q).1 = 3) with hT | hT | hT
    · have hcell : pm_cell (pm_rv sa base) cs H q = .inl (cs.1, (H.1.1 q).2, .inl (H.2.1 q)) := by unfold pm_cell; rw [hT]; rfl
      rw [hcell] at hget
      exact va_alen hx hb hKs hP (q - 8) 0 hget (ty := .int) rfl rfl hdg K
    · have hcell : pm_cell (pm_rv sa base) cs H q = .inl (cs.2.1, (H.1.1 q).2, .inl (H.2.1 q)) := by unfold pm_cell; rw [hT]; rfl
      rw [hcell] at hget
      exact va_alen hx hb hKs hP (q - 8) 1 hget (ty := .byte) rfl rfl hdg K
    · have hcell : pm_cell (pm_rv sa base) cs H q = .inl (cs.2.2, (H.1.1 q).2, .inr (.inl (H.2.2 q))) := by unfold pm_cell; rw [hT]; rfl
      rw [hcell] at hget
      exact va_alen hx hb hKs hP (q - 8) 2 hget (ty := .long) rfl rfl hdg K
  · rw [hf.1 q (by omega)] at h1 h3 K
    rcases (by omega : (pm_TS L q).1 = 1 ∨ (pm_TS L q).1 = 2 ∨ (pm_TS L q).1 = 3) with hT | hT | hT
    · obtain ⟨h1, h4⟩ := pm_TS1 (by omega) hT
      obtain ⟨t, ht, hTt⟩ := hSt.1 q h1 h4
      rw [pm_rv_lo (by omega), ht]
      exact pm_slen hx hb hTt hS hdg K
    · obtain rfl := pm_TS2 (by omega) hT
      obtain ⟨u, w, e1, e2, e3, e4, e5, e6, e7⟩ := hSt.2.1
      rw [pm_rv_lo (by decide), e2]
      exact pm_slen hx hb e6 hS hdg K
    · exact (pm_TS3 (by omega) hT).elim
theorem pm_S_new (hC : pm_Ctx p s m args meth c k sa base D cs L xs) (hsa : pm_rvok sa) (h0 : sa 0 = .null) (hR : 1 ≤ R.frames ∧ 64 ≤ R.locals) {pc len a b : Nat} {cc : Int} {i : Nat} {lo st : List Value} {H : pm_H} {o : pm_out} {Hp : Heap} {locs : List Loc} {ls : Array Slot} {cells slots : Nat}
    (hdg : decode (pm_by k) pc = .ok (.new i, len)) (hln : pm_lnc (pc, .new i, len, a, b, cc) = true) (hok : pm_okI k (pc, .new i, len, a, b, cc) = true) (hs : pm_step (pc, .new i, len, a, b, cc) (lo, st, H) = some o) (hAt : pm_At s k sa base D cs L xs (lo, st, H) Hp locs ls)
    (hct : s.heap.size + cells ≤ base + (H.1.2.2.1 - 8)) (hrm : cells + ((pm_oH o).1.2.2.1 - H.1.2.2.1) ≤ R.cells ∧ slots + ((pm_oH o).1.2.2.2 - H.1.2.2.2) ≤ R.slots)
    (K : pm_K p l e R s m args below meth c Q k sa base D cs L xs (lo, st, H) cells slots (pc + len) o) : W p l e R s m args below meth c Hp locs cells slots Q (F0 m pc ls (st.map (pm_cv (pm_rv sa base)))) := by
  obtain ⟨hx, hb, hml, hown, hts, hKs, hSt, hnm, hbl, hrt, hlk⟩ := id hC
  obtain rfl : len = 3 := Nat.eq_of_beq_eq_true hln
  obtain rfl := Option.some.inj hs
  obtain ⟨hl, hlen, hP, hS, hf⟩ := id hAt
  simp only [pm_okI, Bool.and_eq_true] at hok
  obtain ⟨⟨g1, g2⟩, g3⟩ := hok
  have ha := Nat.blt_eq.mp g1
  obtain rfl := Nat.eq_of_beq_eq_true g2
  obtain ⟨u, hu, q1, q2, q3, -⟩ := pm_tab g3
  have hw := pm_uC_ok u hu
  obtain ⟨u1, u2, u3, u4, u5, u6⟩ := u
  simp only [pm_wC] at hw
  have q1 : u1 = pm_ow k := q1
  obtain rfl : u2 = i := q2
  obtain rfl : u3 = a := q3
  rw [q1] at hw
  obtain ⟨hty, hftk, -, hin⟩ := pm_cfacts ha
  obtain ⟨-, hinst, hini⟩ := pm_cwall u3 ha
  have hnx : (pm_oH (.inl (pm_mk (lo, st, H) st (0, u3) (pm_nf u3)))).1.2.2.1 = H.1.2.2.1 + 1 := rfl
  have hsl : (pm_oH (.inl (pm_mk (lo, st, H) st (0, u3) (pm_nf u3)))).1.2.2.2 = H.1.2.2.2 + pm_nf u3 := rfl
  rw [hnx, hsl] at hrm
  have h8n : 8 ≤ H.1.2.2.1 := hf.2.2.2.1
  refine pm_Wsize (fun hsz => ?_)
  refine va_new (ci := u3) (fs := pm_fs (pm_rv sa base) (pm_mk (lo, st, H) st (0, u3) (pm_nf u3)).2.2 H.1.2.2.1 u3) (C := pm_on u3) (T := pm_Tf u3) (N := pm_nf u3) hx hb hts hin (pm_fty u3) hty hown (hts _ (pm_gwi hw rfl)) (hts _ (pm_gwi hinst rfl)) (hts _ (pm_gwi hini rfl)) hKs hP (pm_ws_D _ _ _ _) hS (fun q hq => Nat.le_trans hbl hq) (pm_clk u3 ha) (fun j hj => ?_) (by omega) (by omega) hdg (fun q H1 hP1 hD1 hS1 => ?_)
  · unfold vp_V
    rw [List.getD_eq_getElem?_getD, pm_fs_get hj, Option.getD_some]
    have hk2 := hftk j hj
    revert hk2
    have z1 : (pm_mk (lo, st, H) st (0, u3) (pm_nf u3)).2.2.2.1 H.1.2.2.1 j = 0 := by show pm_z H.2.1 H.1.2.2.1 0 H.1.2.2.1 j = 0; rw [pm_z_eq]
    have z2 : (pm_mk (lo, st, H) st (0, u3) (pm_nf u3)).2.2.2.2 H.1.2.2.1 j = 0 := by show pm_z H.2.2 H.1.2.2.1 0 H.1.2.2.1 j = 0; rw [pm_z_eq]
    have z3 : (pm_mk (lo, st, H) st (0, u3) (pm_nf u3)).2.2.1.2.1 H.1.2.2.1 j = 0 := by show pm_z H.1.2.1 H.1.2.2.1 0 H.1.2.2.1 j = 0; rw [pm_z_eq]
    generalize hn : pm_ft u3 j = n
    match n with
    | 0 => cases pm_fty u3 j <;> simp [pm_ftk, pm_fv, pm_cv, z1, defaultValue]
    | 1 => cases pm_fty u3 j <;> simp [pm_ftk, pm_fv, pm_cv, z1, defaultValue]
    | 2 => cases pm_fty u3 j <;> simp [pm_ftk, pm_fv, pm_cv, z2, defaultValue]
    | 3 => cases pm_fty u3 j <;> simp [pm_ftk, pm_fv, pm_cv, z3, defaultValue, pm_rv, h0]
    | n + 4 => cases pm_fty u3 j <;> simp [pm_ftk]
  · refine pm_Wsize (fun hsz1 => ?_)
    have hq1 : q < H1.size := (hP1 (H.1.2.2.1 - 8) (q, .inr (u3, pm_fs (pm_rv sa base) (pm_mk (lo, st, H) st (0, u3) (pm_nf u3)).2.2 H.1.2.2.1 u3)) (by rw [List.getElem?_append_right (by rw [pm_ws_len]; exact Nat.le_refl _), pm_ws_len, Nat.sub_self]; rfl)).lt
    have hq : q = base + (H.1.2.2.1 - 8) := by
      exact pm_new_at (by omega) hD1
    subst hq
    have hpush := pm_ws_push (rv := pm_rv sa base) (cs := cs) (base := base) (H := H) (H' := (pm_mk (lo, st, H) st (0, u3) (pm_nf u3)).2.2) (e := .inr (u3, pm_fs (pm_rv sa base) (pm_mk (lo, st, H) st (0, u3) (pm_nf u3)).2.2 H.1.2.2.1 u3)) h8n rfl (by
        have hT : (pm_mk (lo, st, H) st (0, u3) (pm_nf u3)).2.2.1.1 H.1.2.2.1 = (0, u3) := pm_t_eq
        unfold pm_cell
        rw [hT]
        rfl) (fun j hj => pm_cell_congr (pm_t_ne (Nat.ne_of_lt hj)) (pm_z_ne (Nat.ne_of_lt hj)) (pm_z_ne (Nat.ne_of_lt hj)) (pm_z_ne (Nat.ne_of_lt hj)))
    rw [hpush] at hP1
    have K := K H1 locs ls ⟨hl, hlen, hP1, hS1, hf.mk (fun _ => ha)⟩
    have e1 : cells + ((pm_mk (lo, st, H) st (0, u3) (pm_nf u3)).2.2.1.2.2.1 - H.1.2.2.1) = cells + 1 := by show cells + (H.1.2.2.1 + 1 - H.1.2.2.1) = _; omega
    have e2 : slots + ((pm_mk (lo, st, H) st (0, u3) (pm_nf u3)).2.2.1.2.2.2 - H.1.2.2.2) = slots + pm_nf u3 := by show slots + (H.1.2.2.2 + pm_nf u3 - H.1.2.2.2) = _; omega
    have e3 : (pm_mk (lo, st, H) st (0, u3) (pm_nf u3)).2.1.map (pm_cv (pm_rv sa base)) = .ref (base + (H.1.2.2.1 - 8)) :: st.map (pm_cv (pm_rv sa base)) := by show pm_cv (pm_rv sa base) (.ref H.1.2.2.1) :: _ = _; rw [pm_cvr8 h8n]
    have K : W p l e R s m args below meth c H1 locs (cells + ((pm_mk (lo, st, H) st (0, u3) (pm_nf u3)).2.2.1.2.2.1 - H.1.2.2.1)) (slots + ((pm_mk (lo, st, H) st (0, u3) (pm_nf u3)).2.2.1.2.2.2 - H.1.2.2.2)) Q (F0 m (pc + 3) ls ((pm_mk (lo, st, H) st (0, u3) (pm_nf u3)).2.1.map (pm_cv (pm_rv sa base)))) := K
    rw [e1, e2, e3] at K
    exact K
theorem pm_S_newarray (hC : pm_Ctx p s m args meth c k sa base D cs L xs) (hsa : pm_rvok sa) (h0 : sa 0 = .null) (hR : 1 ≤ R.frames ∧ 64 ≤ R.locals) {pc len a b : Nat} {cc : Int} {t : ArrayType} {lo st : List Value} {H : pm_H} {o : pm_out} {Hp : Heap} {locs : List Loc} {ls : Array Slot} {cells slots : Nat}
    (hdg : decode (pm_by k) pc = .ok (.newarray t, len)) (hln : pm_lnc (pc, .newarray t, len, a, b, cc) = true) (hok : pm_okI k (pc, .newarray t, len, a, b, cc) = true) (hs : pm_step (pc, .newarray t, len, a, b, cc) (lo, st, H) = some o) (hAt : pm_At s k sa base D cs L xs (lo, st, H) Hp locs ls)
    (hct : s.heap.size + cells ≤ base + (H.1.2.2.1 - 8)) (hrm : cells + ((pm_oH o).1.2.2.1 - H.1.2.2.1) ≤ R.cells ∧ slots + ((pm_oH o).1.2.2.2 - H.1.2.2.2) ≤ R.slots)
    (K : pm_K p l e R s m args below meth c Q k sa base D cs L xs (lo, st, H) cells slots (pc + len) o) : W p l e R s m args below meth c Hp locs cells slots Q (F0 m pc ls (st.map (pm_cv (pm_rv sa base)))) := by
  obtain ⟨hx, hb, hml, hown, hts, hKs, hSt, hnm, hbl, hrt, hlk⟩ := id hC
  obtain rfl : len = 2 := Nat.eq_of_beq_eq_true hln
  have hatc : pm_atc t a = true := hok
  obtain ⟨n, r, rfl, rfl⟩ := pm_nwa_inv (show pm_nwa (lo, st, H) a = some o from hs)
  obtain ⟨hl, hlen, hP, hS, hf⟩ := id hAt
  obtain ⟨hn, K⟩ := K
  simp only [Bool.and_eq_true, decide_eq_true_eq] at hn
  have hn0 : ¬ n < 0 := Int32.not_lt.mpr hn.1
  have hnN : n.toNatClampNeg ≤ 100000 := by
    have h1 := Int32.le_iff_toInt_le.mp hn.2
    have h2 : (100000 : Int32).toInt = 100000 := by decide
    rw [h2] at h1
    show n.toInt.toNat ≤ 100000
    omega
  have hnx : (pm_oH (.inr (.inl (decide (0 ≤ n) && decide (n ≤ 100000), pm_mk (lo, .int n :: r, H) r (a, n.toNatClampNeg) n.toNatClampNeg)))).1.2.2.1 = H.1.2.2.1 + 1 := rfl
  have hsl : (pm_oH (.inr (.inl (decide (0 ≤ n) && decide (n ≤ 100000), pm_mk (lo, .int n :: r, H) r (a, n.toNatClampNeg) n.toNatClampNeg)))).1.2.2.2 = H.1.2.2.2 + n.toNatClampNeg := rfl
  rw [hnx, hsl] at hrm
  have h8n : 8 ≤ H.1.2.2.1 := hf.2.2.2.1
  have e1 : cells + ((pm_mk (lo, .int n :: r, H) r (a, n.toNatClampNeg) n.toNatClampNeg).2.2.1.2.2.1 - H.1.2.2.1) = cells + 1 := by show cells + (H.1.2.2.1 + 1 - H.1.2.2.1) = _; omega
  have e2 : slots + ((pm_mk (lo, .int n :: r, H) r (a, n.toNatClampNeg) n.toNatClampNeg).2.2.1.2.2.2 - H.1.2.2.2) = slots + n.toNatClampNeg := by show slots + (H.1.2.2.2 + n.toNatClampNeg - H.1.2.2.2) = _; omega
  have e3 : (pm_mk (lo, .int n :: r, H) r (a, n.toNatClampNeg) n.toNatClampNeg).2.1.map (pm_cv (pm_rv sa base)) = .ref (base + (H.1.2.2.1 - 8)) :: r.map (pm_cv (pm_rv sa base)) := by show pm_cv (pm_rv sa base) (.ref H.1.2.2.1) :: _ = _; rw [pm_cvr8 h8n]
  have hT' : (pm_mk (lo, .int n :: r, H) r (a, n.toNatClampNeg) n.toNatClampNeg).2.2.1.1 H.1.2.2.1 = (a, n.toNatClampNeg) := pm_t_eq
  have hI' : (pm_mk (lo, .int n :: r, H) r (a, n.toNatClampNeg) n.toNatClampNeg).2.2.2.1 H.1.2.2.1 = fun _ => 0 := pm_z_eq
  have hJ' : (pm_mk (lo, .int n :: r, H) r (a, n.toNatClampNeg) n.toNatClampNeg).2.2.2.2 H.1.2.2.1 = fun _ => 0 := pm_z_eq
  have key : ∀ (ty : FieldType) (cA : ClassId) (a0 : vp_A) (j0 : Nat), newarray.typeOf t = ty → (pm_tys cs)[j0]? = some (cA, ty) → (Cond.arrayClass ty : Cond) ∈ lw_tbl → (∀ cA : ClassId, vp_cell cA a0 = arrV cA n.toNatClampNeg (fun _ => defaultValue ty)) → n.toNatClampNeg * componentBytes ty ≤ 536870912 → (∀ C : String, ty ≠ .object C) → pm_cell (pm_rv sa base) cs (pm_mk (lo, .int n :: r, H) r (a, n.toNatClampNeg) n.toNatClampNeg).2.2 H.1.2.2.1 = .inl (cA, a0) → a ≠ 0 →
      W p l e R s m args below meth c Hp locs cells slots Q (F0 m pc ls (List.map (pm_cv (pm_rv sa base)) (.int n :: r))) := by
    intro ty cA a0 j0 h1 h2 h3 h4 h5 h6 h7 ha0
    refine pm_Wsize (fun hsz => ?_)
    refine va_newa hx hb (atype := t) (by rw [h1]; exact hts _ (pm_gwi h3 rfl)) h1 hKs hP (pm_ws_D _ _ _ _) hS (fun q hq => Nat.le_trans hbl hq) h4 hn0 rfl h5 (by omega) (by omega) hdg (fun q cA' H1 hK1 hP1 hD1 hS1 => ?_)
    refine pm_Wsize (fun hsz1 => ?_)
    have hq1 : q < H1.size := (hP1 (H.1.2.2.1 - 8) (q, .inl (cA', a0)) (by rw [List.getElem?_append_right (by rw [pm_ws_len]; exact Nat.le_refl _), pm_ws_len, Nat.sub_self]; rfl)).lt
    have hq : q = base + (H.1.2.2.1 - 8) := pm_new_at (by omega) hD1
    subst hq
    have hcA : cA' = cA := by
      have g1 := (hK1.2 (pm_tys cs).length (cA', ty) (by rw [List.getElem?_append_right (Nat.le_refl _), Nat.sub_self]; rfl)).2
      have g2 := (hKs.2 j0 (cA, ty) h2).2
      have u1 : s.vm.findClass ("[" ++ ty.toString) = some cA' := by
        cases ty with
        | object C => exact absurd rfl (h6 C)
        | _ => exact g1
      have u2 : s.vm.findClass ("[" ++ ty.toString) = some cA := by
        cases ty with
        | object C => exact absurd rfl (h6 C)
        | _ => exact g2
      exact Option.some.inj (u1.symm.trans u2)
    subst hcA
    have hpush := pm_ws_push (rv := pm_rv sa base) (cs := cs) (base := base) (H := H) (H' := (pm_mk (lo, .int n :: r, H) r (a, n.toNatClampNeg) n.toNatClampNeg).2.2) (e := .inl (cA', a0)) h8n rfl h7 (fun j hj => pm_cell_congr (pm_t_ne (Nat.ne_of_lt hj)) (pm_z_ne (Nat.ne_of_lt hj)) (pm_z_ne (Nat.ne_of_lt hj)) (pm_z_ne (Nat.ne_of_lt hj)))
    rw [hpush] at hP1
    have K : W p l e R s m args below meth c H1 locs (cells + ((pm_mk (lo, .int n :: r, H) r (a, n.toNatClampNeg) n.toNatClampNeg).2.2.1.2.2.1 - H.1.2.2.1)) (slots + ((pm_mk (lo, .int n :: r, H) r (a, n.toNatClampNeg) n.toNatClampNeg).2.2.1.2.2.2 - H.1.2.2.2)) Q (F0 m (pc + 2) ls ((pm_mk (lo, .int n :: r, H) r (a, n.toNatClampNeg) n.toNatClampNeg).2.1.map (pm_cv (pm_rv sa base)))) :=
      K H1 locs ls ⟨hl, hlen, hP1, hS1, hf.mk (fun h => absurd h ha0)⟩
    rw [e1, e2, e3] at K
    exact K
  match t, a, hatc with
  | .int, 1, _ => exact key .int cs.1 (n.toNatClampNeg, .inl (fun _ => 0)) 0 rfl rfl pm_arc_int (fun _ => rfl) (by show _ * 4 ≤ _; omega) (fun C h => by cases h) (by unfold pm_cell; rw [hT', hI']; rfl) (by decide)
  | .byte, 2, _ => exact key .byte cs.2.1 (n.toNatClampNeg, .inl (fun _ => 0)) 1 rfl rfl pm_arc_byte (fun _ => rfl) (by show _ * 1 ≤ _; omega) (fun C h => by cases h) (by unfold pm_cell; rw [hT', hI']; rfl) (by decide)
  | .long, 3, _ => exact key .long cs.2.2 (n.toNatClampNeg, .inr (.inl (fun _ => 0))) 2 rfl rfl pm_arc_long (fun _ => rfl) (by show _ * 8 ≤ _; omega) (fun C h => by cases h) (by unfold pm_cell; rw [hT', hJ']; rfl) (by decide)
theorem pm_S_getstatic (hC : pm_Ctx p s m args meth c k sa base D cs L xs) (hsa : pm_rvok sa) (h0 : sa 0 = .null) (hR : 1 ≤ R.frames ∧ 64 ≤ R.locals) {pc len a b : Nat} {cc : Int} {i : Nat} {lo st : List Value} {H : pm_H} {o : pm_out} {Hp : Heap} {locs : List Loc} {ls : Array Slot} {cells slots : Nat}
    (hdg : decode (pm_by k) pc = .ok (.getstatic i, len)) (hln : pm_lnc (pc, .getstatic i, len, a, b, cc) = true) (hok : pm_okI k (pc, .getstatic i, len, a, b, cc) = true) (hs : pm_step (pc, .getstatic i, len, a, b, cc) (lo, st, H) = some o) (hAt : pm_At s k sa base D cs L xs (lo, st, H) Hp locs ls)
    (hct : s.heap.size + cells ≤ base + (H.1.2.2.1 - 8)) (hrm : cells + ((pm_oH o).1.2.2.1 - H.1.2.2.1) ≤ R.cells ∧ slots + ((pm_oH o).1.2.2.2 - H.1.2.2.2) ≤ R.slots)
    (K : pm_K p l e R s m args below meth c Q k sa base D cs L xs (lo, st, H) cells slots (pc + len) o) : W p l e R s m args below meth c Hp locs cells slots Q (F0 m pc ls (st.map (pm_cv (pm_rv sa base)))) := by
  obtain ⟨hx, hb, hml, hown, hts, hKs, hSt, hnm, hbl, hrt, hlk⟩ := id hC
  obtain rfl : len = 3 := Nat.eq_of_beq_eq_true hln
  obtain ⟨hl, hlen, hP, hS, hf⟩ := id hAt
  simp only [pm_okI, Bool.or_eq_true, Bool.and_eq_true, decide_eq_true_eq] at hok
  have hmem := pm_sltab hok.1
  obtain ⟨z1, z2, z3, z4, z5⟩ := hSt.2.2.1
  simp only [pm_step] at hs
  simp only [pm_uS, List.mem_cons, Prod.mk.injEq, List.not_mem_nil, or_false] at hmem
  rcases hmem with ⟨q1, rfl, rfl, rfl⟩ | ⟨q1, rfl, rfl, rfl⟩ | ⟨q1, rfl, rfl, rfl⟩ | ⟨q1, rfl, rfl, rfl⟩ | ⟨q1, rfl, rfl, rfl⟩ | ⟨q1, rfl, rfl, rfl⟩
  · obtain rfl := Option.some.inj hs
    have K := pm_Ct.st K hAt
    rw [List.map_cons, pm_cvr, pm_rv_lo (by decide)] at K
    rw [q1] at hown
    exact va_getsN hx hb z1 hS hown (va_Nw.use rfl (hSt.2.2.2 _ pm_us_0 rfl)) (fun _ h9 => h9) hdg K
  · obtain rfl := Option.some.inj hs
    have K := pm_Ct.st K hAt
    rw [List.map_cons, pm_cvr, pm_rv_lo (by decide)] at K
    rw [q1] at hown
    exact va_gets hx hb z3 hS hown (hts _ (pm_gwi pm_us_1 rfl)) (fun _ h9 => h9) hdg K
  · obtain rfl := Option.some.inj hs
    have K := pm_Ct.st K hAt
    rw [List.map_cons, pm_cvr, pm_rv_lo (by decide)] at K
    rw [q1] at hown
    exact va_gets hx hb z2 hS hown (hts _ (pm_gwi pm_us_2 rfl)) (fun _ h9 => h9) hdg K
  · obtain rfl := Option.some.inj hs
    have K := pm_Ct.st K hAt
    rw [List.map_cons, pm_cvr, pm_rv_lo (by decide)] at K
    rw [q1] at hown
    exact va_getsN hx hb z1 hS hown (va_Nw.use rfl (hSt.2.2.2 _ pm_us_3 rfl)) (fun _ h9 => h9) hdg K
  · have hc1 : cc = 1 := by
      rcases hok.2 with h | h
      · exact absurd h (by decide)
      · exact h.2
    subst hc1
    obtain rfl := Option.some.inj hs
    have K := pm_Ct.st K hAt
    rw [q1] at hown
    exact va_gets hx hb z4 hS hown (hts _ (pm_gwi pm_us_4 rfl)) (fun _ h9 => h9) hdg K
  · obtain rfl := Option.some.inj hs
    have K := pm_Ct.st K hAt
    rw [List.map_cons, pm_cvr, pm_rv_lo (by decide)] at K
    rw [q1] at hown
    exact va_gets hx hb z5 hS hown (hts _ (pm_gwi pm_us_5 rfl)) (fun _ h9 => h9) hdg K
theorem pm_S_invokespecialO (hC : pm_Ctx p s m args meth c k sa base D cs L xs) (hsa : pm_rvok sa) (h0 : sa 0 = .null) (hR : 1 ≤ R.frames ∧ 64 ≤ R.locals) {pc len a b : Nat} {cc : Int} {i : Nat} {lo st : List Value} {H : pm_H} {o : pm_out} {Hp : Heap} {locs : List Loc} {ls : Array Slot} {cells slots : Nat}
    (hdg : decode (pm_by k) pc = .ok (.invokespecial i, len)) (hln : pm_lnc (pc, .invokespecial i, len, a, b, cc) = true) (hok : pm_okI k (pc, .invokespecial i, len, a, b, cc) = true) (hs : pm_step (pc, .invokespecial i, len, a, b, cc) (lo, st, H) = some o) (hAt : pm_At s k sa base D cs L xs (lo, st, H) Hp locs ls)
    (hct : s.heap.size + cells ≤ base + (H.1.2.2.1 - 8)) (hrm : cells + ((pm_oH o).1.2.2.1 - H.1.2.2.1) ≤ R.cells ∧ slots + ((pm_oH o).1.2.2.2 - H.1.2.2.2) ≤ R.slots)
    (K : pm_K p l e R s m args below meth c Q k sa base D cs L xs (lo, st, H) cells slots (pc + len) o) : W p l e R s m args below meth c Hp locs cells slots Q (F0 m pc ls (st.map (pm_cv (pm_rv sa base)))) := by
  obtain ⟨hx, hb, hml, hown, hts, hKs, hSt, hnm, hbl, hrt, hlk⟩ := id hC
  obtain rfl : len = 3 := Nat.eq_of_beq_eq_true hln
  obtain ⟨hl, hlen, hP, hS, hf⟩ := id hAt
  simp only [pm_step] at hs
  split at hs
  next hb9 =>
    have h9 := Nat.eq_of_beq_eq_true hb9
    subst h9
    cases st with
    | nil => cases hs
    | cons v0 r =>
      cases v0 with
      | ref v =>
        simp only at hs
        split at hs
        next hcat =>
          obtain rfl := Option.some.inj hs
          have K := pm_Ct.st K hAt
          have hw : (Cond.methodLink (pm_on (pm_ow k)) i Lib.objectInit : Cond) ∈ lw_tbl := by
            have hh : pm_lkM pm_uM (pm_ow k) i 9999 0 = true := by
              simp only [pm_okI, Bool.or_eq_true, Bool.and_eq_true] at hok
              rcases hok with (hok | hok) | hok
              · exact absurd (Nat.blt_eq.mp hok.1.1.1.1.1.1) (by decide)
              · exact hok.2
              · exact absurd (Nat.blt_eq.mp hok.1.1.1.1.1.1) (by decide)
            obtain ⟨u, hu, h2⟩ := List.any_eq_true.mp hh
            simp only [Bool.and_eq_true] at h2
            have hw := pm_uM_ok u hu
            obtain ⟨u1, u2, u3, u4, u5, u6⟩ := u
            obtain rfl := Nat.eq_of_beq_eq_true h2.1.1.1
            obtain rfl := Nat.eq_of_beq_eq_true h2.1.1.2
            have e3 := Nat.eq_of_beq_eq_true h2.1.2
            simp only at e3
            subst e3
            exact hw
          simp only [Bool.and_eq_true] at hcat
          obtain ⟨t, ht⟩ := pm_okr_ref (base := base) hSt hcat.2
          rw [List.map_cons, pm_cvr, ht]
          have hcats : (r.map (pm_cv (pm_rv sa base))).map (fun v => v.category) = r.map (fun v => v.category) := by
            rw [List.map_map]
            exact List.map_congr_left (fun v _ => pm_cv_cat hsa base v)
          refine W.objInit hx hb hown (hts _ (pm_gwi hw rfl)) (hts _ (pm_gwi pm_obj_in rfl)) (hts _ (pm_gwi pm_obj_code rfl)) rfl (by rw [hml]; exact hAt.1.1) rfl hdg hR.1 ?_ K
          show 2 * 0 + ((r.map (pm_cv (pm_rv sa base))).map (fun v => v.category)).sum + 12 ≤ R.locals
          rw [hcats]
          have := Nat.le_of_ble_eq_true hcat.1
          unfold pm_cat at this
          omega
        next => cases hs
      | _ => cases hs
  next hb9 =>
    obtain ⟨as, r, -, -, -, rfl⟩ := pm_call_inv hs
    exact K.elim
theorem pm_S_invokestaticC (hC : pm_Ctx p s m args meth c k sa base D cs L xs) (hsa : pm_rvok sa) (h0 : sa 0 = .null) (hR : 1 ≤ R.frames ∧ 64 ≤ R.locals) {pc len a b : Nat} {cc : Int} {i : Nat} {lo st : List Value} {H : pm_H} {o : pm_out} {Hp : Heap} {locs : List Loc} {ls : Array Slot} {cells slots : Nat}
    (hdg : decode (pm_by k) pc = .ok (.invokestatic i, len)) (hln : pm_lnc (pc, .invokestatic i, len, a, b, cc) = true) (hok : pm_okI k (pc, .invokestatic i, len, a, b, cc) = true) (hs : pm_step (pc, .invokestatic i, len, a, b, cc) (lo, st, H) = some o) (hAt : pm_At s k sa base D cs L xs (lo, st, H) Hp locs ls)
    (hct : s.heap.size + cells ≤ base + (H.1.2.2.1 - 8)) (hrm : cells + ((pm_oH o).1.2.2.1 - H.1.2.2.1) ≤ R.cells ∧ slots + ((pm_oH o).1.2.2.2 - H.1.2.2.2) ≤ R.slots)
    (K : pm_K p l e R s m args below meth c Q k sa base D cs L xs (lo, st, H) cells slots (pc + len) o) : W p l e R s m args below meth c Hp locs cells slots Q (F0 m pc ls (st.map (pm_cv (pm_rv sa base)))) := by
  obtain ⟨hx, hb, hml, hown, hts, hKs, hSt, hnm, hbl, hrt, hlk⟩ := id hC
  obtain rfl : len = 3 := Nat.eq_of_beq_eq_true hln
  obtain ⟨hl, hlen, hP, hS, hf⟩ := id hAt
  simp only [pm_step] at hs
  split at hs
  next hb9 =>
    have h9 := Nat.eq_of_beq_eq_true hb9
    subst h9
    obtain ⟨n, q, bb, pp, aa, r, rfl, hTa, hTb, h8a, h8b, hcat, rfl⟩ := pm_acp_inv hs
    obtain ⟨hc, K⟩ := K
    simp only [Bool.and_eq_true, decide_eq_true_eq] at hc
    obtain ⟨⟨⟨⟨c1, c2⟩, c3⟩, c4⟩, c5⟩ := hc
    have hw : (Cond.methodLink (pm_on (pm_ow k)) i arraycopyName : Cond) ∈ lw_tbl := by
      have hh : pm_lkM pm_uM (pm_ow k) i 9998 0 = true := by
        simp only [pm_okI, Bool.or_eq_true, Bool.and_eq_true] at hok
        rcases hok with (hok | hok) | hok
        · exact absurd (Nat.blt_eq.mp hok.1.1.1) (by decide)
        · exact hok.2
        · exact absurd (Nat.eq_of_beq_eq_true hok) (by decide)
      obtain ⟨u, hu, h2⟩ := List.any_eq_true.mp hh
      simp only [Bool.and_eq_true] at h2
      have hw := pm_uM_ok u hu
      obtain ⟨u1, u2, u3, u4, u5, u6⟩ := u
      obtain rfl := Nat.eq_of_beq_eq_true h2.1.1.1
      obtain rfl := Nat.eq_of_beq_eq_true h2.1.1.2
      have e3 := Nat.eq_of_beq_eq_true h2.1.2
      simp only at e3
      subst e3
      exact hw
    have hga := pm_AtArr hf h8a hTa (by decide) base (pm_rv sa base) cs
    have hgb := pm_AtArr hf h8b hTb (by decide) base (pm_rv sa base) cs
    have hca : pm_cell (pm_rv sa base) cs H aa = .inl (cs.1, (H.1.1 aa).2, .inl (H.2.1 aa)) := by unfold pm_cell; rw [hTa]; rfl
    have hcb : pm_cell (pm_rv sa base) cs H bb = .inl (cs.1, (H.1.1 bb).2, .inl (H.2.1 bb)) := by unfold pm_cell; rw [hTb]; rfl
    rw [hca] at hga
    rw [hcb] at hgb
    simp only [List.map_cons, pm_cvr, pm_rv_hi h8a, pm_rv_hi h8b]
    have hcats : (r.map (pm_cv (pm_rv sa base))).map (fun v => v.category) = r.map (fun v => v.category) := by
      rw [List.map_map]
      exact List.map_congr_left (fun v _ => pm_cv_cat hsa base v)
    refine va_copyi hx hb (by rw [hml]; exact hAt.1.1.symm) hown (hts _ (pm_gwi hw rfl)) (hts _ (pm_gwi pm_sys_nat rfl)) (hts _ (pm_gwi pm_sys_st rfl)) (hts _ (pm_gwi pm_sys_ini rfl)) hKs hP (pm_ws_D _ _ _ _) hS (aa - 8) (bb - 8) 0 0 hga hgb rfl rfl rfl (Int32.not_lt.mpr c1) (Int32.not_lt.mpr c2) (Int32.not_lt.mpr c3) c4 c5 (fun _ _ => rfl) hR.1 ?_ hdg (fun H1 locs1 hP1 _ hS1 => ?_)
    · rw [hcats, show nativeFrameWords "java/lang/System" "arraycopy" 5 = 7 from by decide +kernel]
      unfold pm_cat at hcat
      omega
    · have hset : (pm_ws (pm_rv sa base) cs base H).set (bb - 8) (base + (bb - 8), .inl (cs.1, (H.1.1 bb).2, .inl (va_cpy (H.2.1 aa) (H.2.1 bb) pp.toNatClampNeg q.toNatClampNeg n.toNatClampNeg))) = pm_ws (pm_rv sa base) cs base (H.1, pm_cp H.2.1 aa pp.toNatClampNeg bb q.toNatClampNeg n.toNatClampNeg, H.2.2) := by
        refine pm_ws_set h8b rfl ?_ (fun j hj => pm_cell_congr rfl (pm_cp_ne hj) rfl rfl)
        rw [← pm_cp_eq]
        unfold pm_cell
        simp only [hTb]
      rw [hset] at hP1
      exact pm_Ct.hp (G' := H.1) K hAt rfl hP1 hS1 (hf.upC h8b)
  next hb9 =>
    obtain ⟨as, r, -, -, -, rfl⟩ := pm_call_inv hs
    exact K.elim
theorem pm_S_invokevirtual0 (hC : pm_Ctx p s m args meth c k sa base D cs L xs) (hsa : pm_rvok sa) (h0 : sa 0 = .null) (hR : 1 ≤ R.frames ∧ 64 ≤ R.locals) {pc len a b : Nat} {cc : Int} {i : Nat} {lo st : List Value} {H : pm_H} {o : pm_out} {Hp : Heap} {locs : List Loc} {ls : Array Slot} {cells slots : Nat}
    (hdg : decode (pm_by k) pc = .ok (.invokevirtual i, len)) (hln : pm_lnc (pc, .invokevirtual i, len, a, b, cc) = true) (hok : pm_okI k (pc, .invokevirtual i, len, a, b, cc) = true) (hs : pm_step (pc, .invokevirtual i, len, a, b, cc) (lo, st, H) = some o) (hAt : pm_At s k sa base D cs L xs (lo, st, H) Hp locs ls)
    (hct : s.heap.size + cells ≤ base + (H.1.2.2.1 - 8)) (hrm : cells + ((pm_oH o).1.2.2.1 - H.1.2.2.1) ≤ R.cells ∧ slots + ((pm_oH o).1.2.2.2 - H.1.2.2.2) ≤ R.slots)
    (K : pm_K p l e R s m args below meth c Q k sa base D cs L xs (lo, st, H) cells slots (pc + len) o) : W p l e R s m args below meth c Hp locs cells slots Q (F0 m pc ls (st.map (pm_cv (pm_rv sa base)))) := by
  obtain ⟨hx, hb, hml, hown, hts, hKs, hSt, hnm, hbl, hrt, hlk⟩ := id hC
  obtain rfl : len = 3 := Nat.eq_of_beq_eq_true hln
  obtain ⟨as, r, -, -, -, rfl⟩ := pm_call_inv (show pm_call (lo, st, H) a b cc.toNat = some o from hs)
  exact K.elim
theorem pm_S_ireturn (hC : pm_Ctx p s m args meth c k sa base D cs L xs) (hsa : pm_rvok sa) (h0 : sa 0 = .null) (hR : 1 ≤ R.frames ∧ 64 ≤ R.locals) {pc len a b : Nat} {cc : Int}  {lo st : List Value} {H : pm_H} {o : pm_out} {Hp : Heap} {locs : List Loc} {ls : Array Slot} {cells slots : Nat}
    (hdg : decode (pm_by k) pc = .ok (.ireturn, len)) (hln : pm_lnc (pc, .ireturn, len, a, b, cc) = true) (hok : pm_okI k (pc, .ireturn, len, a, b, cc) = true) (hs : pm_step (pc, .ireturn, len, a, b, cc) (lo, st, H) = some o) (hAt : pm_At s k sa base D cs L xs (lo, st, H) Hp locs ls)
    (hct : s.heap.size + cells ≤ base + (H.1.2.2.1 - 8)) (hrm : cells + ((pm_oH o).1.2.2.1 - H.1.2.2.1) ≤ R.cells ∧ slots + ((pm_oH o).1.2.2.2 - H.1.2.2.2) ≤ R.slots)
    (K : pm_K p l e R s m args below meth c Q k sa base D cs L xs (lo, st, H) cells slots (pc + len) o) : W p l e R s m args below meth c Hp locs cells slots Q (F0 m pc ls (st.map (pm_cv (pm_rv sa base)))) := by
  obtain ⟨hx, hb, hml, hown, hts, hKs, hSt, hnm, hbl, hrt, hlk⟩ := id hC
  obtain rfl : len = 1 := Nat.eq_of_beq_eq_true hln
  obtain ⟨hl, hlen, hP, hS, hf⟩ := id hAt
  obtain ⟨v, rfl, rfl⟩ := pm_ret_inv (show pm_ret (lo, st, H) a = some o from hs)
  obtain ⟨hfit, K⟩ := K
  have hrc : pm_rtc (pm_rt k) a = true := hok
  have key : ∃ ty, pm_rt k = some ty ∧ ty ≠ .long ∧ narrow ty (.int v) = .int v := by
    revert hrc
    cases hr : pm_rt k with
    | none => intro h; exact absurd h (by simp [pm_rtc])
    | some ty =>
      intro h
      refine ⟨ty, rfl, ?_⟩
      match ty, a, h with
      | .int, 0, _ => exact ⟨by decide, rfl⟩
      | .boolean, 1, _ =>
        refine ⟨by decide, ?_⟩
        simp only [pm_fit, Bool.or_eq_true, beq_iff_eq] at hfit
        rcases hfit with rfl | rfl <;> rfl
      | .byte, 2, _ =>
        refine ⟨by decide, ?_⟩
        simp only [pm_fit, beq_iff_eq] at hfit
        show Value.int v.toInt8.toInt32 = _
        rw [hfit]
      | .char, 3, _ =>
        refine ⟨by decide, ?_⟩
        simp only [pm_fit, beq_iff_eq] at hfit
        have := pk_nc v
        rw [hfit] at this
        exact this
  obtain ⟨ty, h1, h2, h3⟩ := key
  have K := K pc .ireturn Hp locs ls hdg (Or.inr (Or.inr ⟨ty, h1, h2, rfl, h3⟩)) hP hS
  rw [h1] at K
  have e : pm_ov (some ty) v 0 = some (.int v) := by
    cases ty <;> first | rfl | exact absurd rfl h2
  rw [e] at K
  exact K
theorem pm_S_lreturn (hC : pm_Ctx p s m args meth c k sa base D cs L xs) (hsa : pm_rvok sa) (h0 : sa 0 = .null) (hR : 1 ≤ R.frames ∧ 64 ≤ R.locals) {pc len a b : Nat} {cc : Int}  {lo st : List Value} {H : pm_H} {o : pm_out} {Hp : Heap} {locs : List Loc} {ls : Array Slot} {cells slots : Nat}
    (hdg : decode (pm_by k) pc = .ok (.lreturn, len)) (hln : pm_lnc (pc, .lreturn, len, a, b, cc) = true) (hok : pm_okI k (pc, .lreturn, len, a, b, cc) = true) (hs : pm_step (pc, .lreturn, len, a, b, cc) (lo, st, H) = some o) (hAt : pm_At s k sa base D cs L xs (lo, st, H) Hp locs ls)
    (hct : s.heap.size + cells ≤ base + (H.1.2.2.1 - 8)) (hrm : cells + ((pm_oH o).1.2.2.1 - H.1.2.2.1) ≤ R.cells ∧ slots + ((pm_oH o).1.2.2.2 - H.1.2.2.2) ≤ R.slots)
    (K : pm_K p l e R s m args below meth c Q k sa base D cs L xs (lo, st, H) cells slots (pc + len) o) : W p l e R s m args below meth c Hp locs cells slots Q (F0 m pc ls (st.map (pm_cv (pm_rv sa base)))) := by
  obtain ⟨hx, hb, hml, hown, hts, hKs, hSt, hnm, hbl, hrt, hlk⟩ := id hC
  obtain rfl : len = 1 := Nat.eq_of_beq_eq_true hln
  obtain ⟨hl, hlen, hP, hS, hf⟩ := id hAt
  obtain ⟨v, rfl, rfl⟩ := pm_retl_inv (show pm_retl (lo, st, H) = some o from hs)
  have hr : pm_rt k = some .long := of_decide_eq_true hok
  have K := K.2 pc .lreturn Hp locs ls hdg (Or.inr (Or.inl ⟨hr, rfl⟩)) hP hS
  rw [hr] at K
  exact K
theorem pm_S_return_ (hC : pm_Ctx p s m args meth c k sa base D cs L xs) (hsa : pm_rvok sa) (h0 : sa 0 = .null) (hR : 1 ≤ R.frames ∧ 64 ≤ R.locals) {pc len a b : Nat} {cc : Int}  {lo st : List Value} {H : pm_H} {o : pm_out} {Hp : Heap} {locs : List Loc} {ls : Array Slot} {cells slots : Nat}
    (hdg : decode (pm_by k) pc = .ok (.return_, len)) (hln : pm_lnc (pc, .return_, len, a, b, cc) = true) (hok : pm_okI k (pc, .return_, len, a, b, cc) = true) (hs : pm_step (pc, .return_, len, a, b, cc) (lo, st, H) = some o) (hAt : pm_At s k sa base D cs L xs (lo, st, H) Hp locs ls)
    (hct : s.heap.size + cells ≤ base + (H.1.2.2.1 - 8)) (hrm : cells + ((pm_oH o).1.2.2.1 - H.1.2.2.1) ≤ R.cells ∧ slots + ((pm_oH o).1.2.2.2 - H.1.2.2.2) ≤ R.slots)
    (K : pm_K p l e R s m args below meth c Q k sa base D cs L xs (lo, st, H) cells slots (pc + len) o) : W p l e R s m args below meth c Hp locs cells slots Q (F0 m pc ls (st.map (pm_cv (pm_rv sa base)))) := by
  obtain ⟨hx, hb, hml, hown, hts, hKs, hSt, hnm, hbl, hrt, hlk⟩ := id hC
  obtain rfl : len = 1 := Nat.eq_of_beq_eq_true hln
  obtain ⟨hl, hlen, hP, hS, hf⟩ := id hAt
  obtain ⟨rfl, rfl⟩ := pm_retv_inv (show pm_retv (lo, st, H) = some o from hs)
  have hr : pm_rt k = none := of_decide_eq_true hok
  have K := K.2 pc .return_ Hp locs ls hdg (Or.inl ⟨hr, rfl⟩) hP hS
  rw [hr] at K
  exact K
end PMZ
