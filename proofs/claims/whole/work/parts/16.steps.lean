/-! EACH STEP: the theorem. -/
section PMX
variable {p : Program} {l : Launch} {e : Env} {R : Room} {s : State} {m : MethodId} {args : Array Value} {below : List Frame} {meth : Method} {c : Code} {Q : State → Prop}
variable {k : Nat} {sa : Nat → Value} {base : Nat} {D : va_G} {cs : pm_cs3} {L : Nat} {xs : Nat → Int32}
theorem pm_cvr {sa : Nat → Value} {base v : Nat} : pm_cv (pm_rv sa base) (.ref v) = pm_rv sa base v := rfl
theorem pm_cvr8 {sa : Nat → Value} {base v : Nat} (h : 8 ≤ v) : pm_cv (pm_rv sa base) (.ref v) = .ref (base + (v - 8)) := pm_rv_hi h

theorem pm_S_iload_n (hC : pm_Ctx p s m args meth c k sa base D cs L xs) (hsa : pm_rvok sa) (h0 : sa 0 = .null) (hR : 1 ≤ R.frames ∧ 64 ≤ R.locals) {pc len a b : Nat} {cc : Int} {kk : Fin 4} {lo st : List Value} {H : pm_H} {o : pm_out} {Hp : Heap} {locs : List Loc} {ls : Array Slot} {cells slots : Nat}
    (hdg : decode (pm_by k) pc = .ok (.iload_n kk, len)) (hln : pm_lnc (pc, .iload_n kk, len, a, b, cc) = true) (hok : pm_okI k (pc, .iload_n kk, len, a, b, cc) = true) (hs : pm_step (pc, .iload_n kk, len, a, b, cc) (lo, st, H) = some o) (hAt : pm_At s k sa base D cs L xs (lo, st, H) Hp locs ls)
    (hct : s.heap.size + cells ≤ base + (H.1.2.2.1 - 8)) (hrm : cells + ((pm_oH o).1.2.2.1 - H.1.2.2.1) ≤ R.cells ∧ slots + ((pm_oH o).1.2.2.2 - H.1.2.2.2) ≤ R.slots)
    (K : pm_K p l e R s m args below meth c Q k sa base D cs L xs (lo, st, H) cells slots (pc + len) o) : W p l e R s m args below meth c Hp locs cells slots Q (F0 m pc ls (st.map (pm_cv (pm_rv sa base)))) := by
  obtain ⟨hx, hb, hml, hown, hts, hKs, hSt, hnm, hbl, hrt, hlk⟩ := id hC
  obtain rfl : len = 1 := Nat.eq_of_beq_eq_true hln
  have hs : pm_load kk (lo, st, H) = some o := hs
  obtain ⟨v, hv, rfl⟩ := pm_load_inv hs
  have hg := pm_lget hAt.1 hv rfl
  exact lv_iload_n hx hb hdg rfl hg (pm_Ct.st K hAt)
theorem pm_S_iload (hC : pm_Ctx p s m args meth c k sa base D cs L xs) (hsa : pm_rvok sa) (h0 : sa 0 = .null) (hR : 1 ≤ R.frames ∧ 64 ≤ R.locals) {pc len a b : Nat} {cc : Int} {kk : Nat} {lo st : List Value} {H : pm_H} {o : pm_out} {Hp : Heap} {locs : List Loc} {ls : Array Slot} {cells slots : Nat}
    (hdg : decode (pm_by k) pc = .ok (.iload kk, len)) (hln : pm_lnc (pc, .iload kk, len, a, b, cc) = true) (hok : pm_okI k (pc, .iload kk, len, a, b, cc) = true) (hs : pm_step (pc, .iload kk, len, a, b, cc) (lo, st, H) = some o) (hAt : pm_At s k sa base D cs L xs (lo, st, H) Hp locs ls)
    (hct : s.heap.size + cells ≤ base + (H.1.2.2.1 - 8)) (hrm : cells + ((pm_oH o).1.2.2.1 - H.1.2.2.1) ≤ R.cells ∧ slots + ((pm_oH o).1.2.2.2 - H.1.2.2.2) ≤ R.slots)
    (K : pm_K p l e R s m args below meth c Q k sa base D cs L xs (lo, st, H) cells slots (pc + len) o) : W p l e R s m args below meth c Hp locs cells slots Q (F0 m pc ls (st.map (pm_cv (pm_rv sa base)))) := by
  obtain ⟨hx, hb, hml, hown, hts, hKs, hSt, hnm, hbl, hrt, hlk⟩ := id hC
  obtain rfl : len = 2 := Nat.eq_of_beq_eq_true hln
  have hs : pm_load kk (lo, st, H) = some o := hs
  obtain ⟨v, hv, rfl⟩ := pm_load_inv hs
  have hg := pm_lget hAt.1 hv rfl
  exact lv_iload hx hb hdg hg (pm_Ct.st K hAt)
theorem pm_S_lload_n (hC : pm_Ctx p s m args meth c k sa base D cs L xs) (hsa : pm_rvok sa) (h0 : sa 0 = .null) (hR : 1 ≤ R.frames ∧ 64 ≤ R.locals) {pc len a b : Nat} {cc : Int} {kk : Fin 4} {lo st : List Value} {H : pm_H} {o : pm_out} {Hp : Heap} {locs : List Loc} {ls : Array Slot} {cells slots : Nat}
    (hdg : decode (pm_by k) pc = .ok (.lload_n kk, len)) (hln : pm_lnc (pc, .lload_n kk, len, a, b, cc) = true) (hok : pm_okI k (pc, .lload_n kk, len, a, b, cc) = true) (hs : pm_step (pc, .lload_n kk, len, a, b, cc) (lo, st, H) = some o) (hAt : pm_At s k sa base D cs L xs (lo, st, H) Hp locs ls)
    (hct : s.heap.size + cells ≤ base + (H.1.2.2.1 - 8)) (hrm : cells + ((pm_oH o).1.2.2.1 - H.1.2.2.1) ≤ R.cells ∧ slots + ((pm_oH o).1.2.2.2 - H.1.2.2.2) ≤ R.slots)
    (K : pm_K p l e R s m args below meth c Q k sa base D cs L xs (lo, st, H) cells slots (pc + len) o) : W p l e R s m args below meth c Hp locs cells slots Q (F0 m pc ls (st.map (pm_cv (pm_rv sa base)))) := by
  obtain ⟨hx, hb, hml, hown, hts, hKs, hSt, hnm, hbl, hrt, hlk⟩ := id hC
  obtain rfl : len = 1 := Nat.eq_of_beq_eq_true hln
  have hs : pm_loadl kk (lo, st, H) = some o := hs
  obtain ⟨v, hv, rfl⟩ := pm_loadl_inv hs
  have hg := pm_lget hAt.1 hv rfl
  exact lv_lload_n hx hb hdg rfl hg (pm_Ct.st K hAt)
theorem pm_S_lload (hC : pm_Ctx p s m args meth c k sa base D cs L xs) (hsa : pm_rvok sa) (h0 : sa 0 = .null) (hR : 1 ≤ R.frames ∧ 64 ≤ R.locals) {pc len a b : Nat} {cc : Int} {kk : Nat} {lo st : List Value} {H : pm_H} {o : pm_out} {Hp : Heap} {locs : List Loc} {ls : Array Slot} {cells slots : Nat}
    (hdg : decode (pm_by k) pc = .ok (.lload kk, len)) (hln : pm_lnc (pc, .lload kk, len, a, b, cc) = true) (hok : pm_okI k (pc, .lload kk, len, a, b, cc) = true) (hs : pm_step (pc, .lload kk, len, a, b, cc) (lo, st, H) = some o) (hAt : pm_At s k sa base D cs L xs (lo, st, H) Hp locs ls)
    (hct : s.heap.size + cells ≤ base + (H.1.2.2.1 - 8)) (hrm : cells + ((pm_oH o).1.2.2.1 - H.1.2.2.1) ≤ R.cells ∧ slots + ((pm_oH o).1.2.2.2 - H.1.2.2.2) ≤ R.slots)
    (K : pm_K p l e R s m args below meth c Q k sa base D cs L xs (lo, st, H) cells slots (pc + len) o) : W p l e R s m args below meth c Hp locs cells slots Q (F0 m pc ls (st.map (pm_cv (pm_rv sa base)))) := by
  obtain ⟨hx, hb, hml, hown, hts, hKs, hSt, hnm, hbl, hrt, hlk⟩ := id hC
  obtain rfl : len = 2 := Nat.eq_of_beq_eq_true hln
  have hs : pm_loadl kk (lo, st, H) = some o := hs
  obtain ⟨v, hv, rfl⟩ := pm_loadl_inv hs
  have hg := pm_lget hAt.1 hv rfl
  exact lv_lload hx hb hdg hg (pm_Ct.st K hAt)
theorem pm_S_aload_n (hC : pm_Ctx p s m args meth c k sa base D cs L xs) (hsa : pm_rvok sa) (h0 : sa 0 = .null) (hR : 1 ≤ R.frames ∧ 64 ≤ R.locals) {pc len a b : Nat} {cc : Int} {kk : Fin 4} {lo st : List Value} {H : pm_H} {o : pm_out} {Hp : Heap} {locs : List Loc} {ls : Array Slot} {cells slots : Nat}
    (hdg : decode (pm_by k) pc = .ok (.aload_n kk, len)) (hln : pm_lnc (pc, .aload_n kk, len, a, b, cc) = true) (hok : pm_okI k (pc, .aload_n kk, len, a, b, cc) = true) (hs : pm_step (pc, .aload_n kk, len, a, b, cc) (lo, st, H) = some o) (hAt : pm_At s k sa base D cs L xs (lo, st, H) Hp locs ls)
    (hct : s.heap.size + cells ≤ base + (H.1.2.2.1 - 8)) (hrm : cells + ((pm_oH o).1.2.2.1 - H.1.2.2.1) ≤ R.cells ∧ slots + ((pm_oH o).1.2.2.2 - H.1.2.2.2) ≤ R.slots)
    (K : pm_K p l e R s m args below meth c Q k sa base D cs L xs (lo, st, H) cells slots (pc + len) o) : W p l e R s m args below meth c Hp locs cells slots Q (F0 m pc ls (st.map (pm_cv (pm_rv sa base)))) := by
  obtain ⟨hx, hb, hml, hown, hts, hKs, hSt, hnm, hbl, hrt, hlk⟩ := id hC
  obtain rfl : len = 1 := Nat.eq_of_beq_eq_true hln
  have hs : pm_loada kk (lo, st, H) = some o := hs
  obtain ⟨v, hv, hr, rfl⟩ := pm_loada_inv hs
  obtain ⟨t, ht⟩ := pm_okr_ref (base := base) hSt hr
  have hg := pm_lget hAt.1 hv rfl
  rw [pm_cvr, ht] at hg
  have K := pm_Ct.st K hAt
  rw [List.map_cons, pm_cvr, ht] at K
  exact lv_aload_n hx hb hdg rfl hg K
theorem pm_S_aload (hC : pm_Ctx p s m args meth c k sa base D cs L xs) (hsa : pm_rvok sa) (h0 : sa 0 = .null) (hR : 1 ≤ R.frames ∧ 64 ≤ R.locals) {pc len a b : Nat} {cc : Int} {kk : Nat} {lo st : List Value} {H : pm_H} {o : pm_out} {Hp : Heap} {locs : List Loc} {ls : Array Slot} {cells slots : Nat}
    (hdg : decode (pm_by k) pc = .ok (.aload kk, len)) (hln : pm_lnc (pc, .aload kk, len, a, b, cc) = true) (hok : pm_okI k (pc, .aload kk, len, a, b, cc) = true) (hs : pm_step (pc, .aload kk, len, a, b, cc) (lo, st, H) = some o) (hAt : pm_At s k sa base D cs L xs (lo, st, H) Hp locs ls)
    (hct : s.heap.size + cells ≤ base + (H.1.2.2.1 - 8)) (hrm : cells + ((pm_oH o).1.2.2.1 - H.1.2.2.1) ≤ R.cells ∧ slots + ((pm_oH o).1.2.2.2 - H.1.2.2.2) ≤ R.slots)
    (K : pm_K p l e R s m args below meth c Q k sa base D cs L xs (lo, st, H) cells slots (pc + len) o) : W p l e R s m args below meth c Hp locs cells slots Q (F0 m pc ls (st.map (pm_cv (pm_rv sa base)))) := by
  obtain ⟨hx, hb, hml, hown, hts, hKs, hSt, hnm, hbl, hrt, hlk⟩ := id hC
  obtain rfl : len = 2 := Nat.eq_of_beq_eq_true hln
  have hs : pm_loada kk (lo, st, H) = some o := hs
  obtain ⟨v, hv, hr, rfl⟩ := pm_loada_inv hs
  obtain ⟨t, ht⟩ := pm_okr_ref (base := base) hSt hr
  have hg := pm_lget hAt.1 hv rfl
  rw [pm_cvr, ht] at hg
  have K := pm_Ct.st K hAt
  rw [List.map_cons, pm_cvr, ht] at K
  exact lv_aload hx hb hdg hg K
theorem pm_S_istore_n (hC : pm_Ctx p s m args meth c k sa base D cs L xs) (hsa : pm_rvok sa) (h0 : sa 0 = .null) (hR : 1 ≤ R.frames ∧ 64 ≤ R.locals) {pc len a b : Nat} {cc : Int} {kk : Fin 4} {lo st : List Value} {H : pm_H} {o : pm_out} {Hp : Heap} {locs : List Loc} {ls : Array Slot} {cells slots : Nat}
    (hdg : decode (pm_by k) pc = .ok (.istore_n kk, len)) (hln : pm_lnc (pc, .istore_n kk, len, a, b, cc) = true) (hok : pm_okI k (pc, .istore_n kk, len, a, b, cc) = true) (hs : pm_step (pc, .istore_n kk, len, a, b, cc) (lo, st, H) = some o) (hAt : pm_At s k sa base D cs L xs (lo, st, H) Hp locs ls)
    (hct : s.heap.size + cells ≤ base + (H.1.2.2.1 - 8)) (hrm : cells + ((pm_oH o).1.2.2.1 - H.1.2.2.1) ≤ R.cells ∧ slots + ((pm_oH o).1.2.2.2 - H.1.2.2.2) ≤ R.slots)
    (K : pm_K p l e R s m args below meth c Q k sa base D cs L xs (lo, st, H) cells slots (pc + len) o) : W p l e R s m args below meth c Hp locs cells slots Q (F0 m pc ls (st.map (pm_cv (pm_rv sa base)))) := by
  obtain ⟨hx, hb, hml, hown, hts, hKs, hSt, hnm, hbl, hrt, hlk⟩ := id hC
  obtain rfl : len = 1 := Nat.eq_of_beq_eq_true hln
  have hs : pm_stor kk (lo, st, H) = some o := hs
  obtain ⟨v, r, rfl, hi, rfl⟩ := pm_stor_inv hs
  refine lv_istore_n hx hb hdg rfl hAt.1 (by rw [← hAt.2.1]; exact hi) rfl (fun ls' hl' => ?_)
  exact pm_Ct.ls K hAt (pm_set1_has hsa (v := .int v) hl') (pm_set1_len _ _ _)
theorem pm_S_istore (hC : pm_Ctx p s m args meth c k sa base D cs L xs) (hsa : pm_rvok sa) (h0 : sa 0 = .null) (hR : 1 ≤ R.frames ∧ 64 ≤ R.locals) {pc len a b : Nat} {cc : Int} {kk : Nat} {lo st : List Value} {H : pm_H} {o : pm_out} {Hp : Heap} {locs : List Loc} {ls : Array Slot} {cells slots : Nat}
    (hdg : decode (pm_by k) pc = .ok (.istore kk, len)) (hln : pm_lnc (pc, .istore kk, len, a, b, cc) = true) (hok : pm_okI k (pc, .istore kk, len, a, b, cc) = true) (hs : pm_step (pc, .istore kk, len, a, b, cc) (lo, st, H) = some o) (hAt : pm_At s k sa base D cs L xs (lo, st, H) Hp locs ls)
    (hct : s.heap.size + cells ≤ base + (H.1.2.2.1 - 8)) (hrm : cells + ((pm_oH o).1.2.2.1 - H.1.2.2.1) ≤ R.cells ∧ slots + ((pm_oH o).1.2.2.2 - H.1.2.2.2) ≤ R.slots)
    (K : pm_K p l e R s m args below meth c Q k sa base D cs L xs (lo, st, H) cells slots (pc + len) o) : W p l e R s m args below meth c Hp locs cells slots Q (F0 m pc ls (st.map (pm_cv (pm_rv sa base)))) := by
  obtain ⟨hx, hb, hml, hown, hts, hKs, hSt, hnm, hbl, hrt, hlk⟩ := id hC
  obtain rfl : len = 2 := Nat.eq_of_beq_eq_true hln
  have hs : pm_stor kk (lo, st, H) = some o := hs
  obtain ⟨v, r, rfl, hi, rfl⟩ := pm_stor_inv hs
  refine lv_istore hx hb hdg hAt.1 (by rw [← hAt.2.1]; exact hi) rfl (fun ls' hl' => ?_)
  exact pm_Ct.ls K hAt (pm_set1_has hsa (v := .int v) hl') (pm_set1_len _ _ _)
theorem pm_S_lstore_n (hC : pm_Ctx p s m args meth c k sa base D cs L xs) (hsa : pm_rvok sa) (h0 : sa 0 = .null) (hR : 1 ≤ R.frames ∧ 64 ≤ R.locals) {pc len a b : Nat} {cc : Int} {kk : Fin 4} {lo st : List Value} {H : pm_H} {o : pm_out} {Hp : Heap} {locs : List Loc} {ls : Array Slot} {cells slots : Nat}
    (hdg : decode (pm_by k) pc = .ok (.lstore_n kk, len)) (hln : pm_lnc (pc, .lstore_n kk, len, a, b, cc) = true) (hok : pm_okI k (pc, .lstore_n kk, len, a, b, cc) = true) (hs : pm_step (pc, .lstore_n kk, len, a, b, cc) (lo, st, H) = some o) (hAt : pm_At s k sa base D cs L xs (lo, st, H) Hp locs ls)
    (hct : s.heap.size + cells ≤ base + (H.1.2.2.1 - 8)) (hrm : cells + ((pm_oH o).1.2.2.1 - H.1.2.2.1) ≤ R.cells ∧ slots + ((pm_oH o).1.2.2.2 - H.1.2.2.2) ≤ R.slots)
    (K : pm_K p l e R s m args below meth c Q k sa base D cs L xs (lo, st, H) cells slots (pc + len) o) : W p l e R s m args below meth c Hp locs cells slots Q (F0 m pc ls (st.map (pm_cv (pm_rv sa base)))) := by
  obtain ⟨hx, hb, hml, hown, hts, hKs, hSt, hnm, hbl, hrt, hlk⟩ := id hC
  obtain rfl : len = 1 := Nat.eq_of_beq_eq_true hln
  have hs : pm_storl kk (lo, st, H) = some o := hs
  obtain ⟨v, r, rfl, hi, rfl⟩ := pm_storl_inv hs
  refine lv_lstore_n hx hb hdg rfl hAt.1 (by rw [← hAt.2.1]; exact hi) rfl (fun ls' hl' => ?_)
  exact pm_Ct.ls K hAt (pm_set2_has hsa (v := .long v) hl') (pm_set2_len _ _ _)
theorem pm_S_lstore (hC : pm_Ctx p s m args meth c k sa base D cs L xs) (hsa : pm_rvok sa) (h0 : sa 0 = .null) (hR : 1 ≤ R.frames ∧ 64 ≤ R.locals) {pc len a b : Nat} {cc : Int} {kk : Nat} {lo st : List Value} {H : pm_H} {o : pm_out} {Hp : Heap} {locs : List Loc} {ls : Array Slot} {cells slots : Nat}
    (hdg : decode (pm_by k) pc = .ok (.lstore kk, len)) (hln : pm_lnc (pc, .lstore kk, len, a, b, cc) = true) (hok : pm_okI k (pc, .lstore kk, len, a, b, cc) = true) (hs : pm_step (pc, .lstore kk, len, a, b, cc) (lo, st, H) = some o) (hAt : pm_At s k sa base D cs L xs (lo, st, H) Hp locs ls)
    (hct : s.heap.size + cells ≤ base + (H.1.2.2.1 - 8)) (hrm : cells + ((pm_oH o).1.2.2.1 - H.1.2.2.1) ≤ R.cells ∧ slots + ((pm_oH o).1.2.2.2 - H.1.2.2.2) ≤ R.slots)
    (K : pm_K p l e R s m args below meth c Q k sa base D cs L xs (lo, st, H) cells slots (pc + len) o) : W p l e R s m args below meth c Hp locs cells slots Q (F0 m pc ls (st.map (pm_cv (pm_rv sa base)))) := by
  obtain ⟨hx, hb, hml, hown, hts, hKs, hSt, hnm, hbl, hrt, hlk⟩ := id hC
  obtain rfl : len = 2 := Nat.eq_of_beq_eq_true hln
  have hs : pm_storl kk (lo, st, H) = some o := hs
  obtain ⟨v, r, rfl, hi, rfl⟩ := pm_storl_inv hs
  refine lv_lstore hx hb hdg hAt.1 (by rw [← hAt.2.1]; exact hi) rfl (fun ls' hl' => ?_)
  exact pm_Ct.ls K hAt (pm_set2_has hsa (v := .long v) hl') (pm_set2_len _ _ _)
theorem pm_S_astore_n (hC : pm_Ctx p s m args meth c k sa base D cs L xs) (hsa : pm_rvok sa) (h0 : sa 0 = .null) (hR : 1 ≤ R.frames ∧ 64 ≤ R.locals) {pc len a b : Nat} {cc : Int} {kk : Fin 4} {lo st : List Value} {H : pm_H} {o : pm_out} {Hp : Heap} {locs : List Loc} {ls : Array Slot} {cells slots : Nat}
    (hdg : decode (pm_by k) pc = .ok (.astore_n kk, len)) (hln : pm_lnc (pc, .astore_n kk, len, a, b, cc) = true) (hok : pm_okI k (pc, .astore_n kk, len, a, b, cc) = true) (hs : pm_step (pc, .astore_n kk, len, a, b, cc) (lo, st, H) = some o) (hAt : pm_At s k sa base D cs L xs (lo, st, H) Hp locs ls)
    (hct : s.heap.size + cells ≤ base + (H.1.2.2.1 - 8)) (hrm : cells + ((pm_oH o).1.2.2.1 - H.1.2.2.1) ≤ R.cells ∧ slots + ((pm_oH o).1.2.2.2 - H.1.2.2.2) ≤ R.slots)
    (K : pm_K p l e R s m args below meth c Q k sa base D cs L xs (lo, st, H) cells slots (pc + len) o) : W p l e R s m args below meth c Hp locs cells slots Q (F0 m pc ls (st.map (pm_cv (pm_rv sa base)))) := by
  obtain ⟨hx, hb, hml, hown, hts, hKs, hSt, hnm, hbl, hrt, hlk⟩ := id hC
  obtain rfl : len = 1 := Nat.eq_of_beq_eq_true hln
  have hs : pm_stora kk (lo, st, H) = some o := hs
  obtain ⟨v, r, rfl, hi, hr, rfl⟩ := pm_stora_inv hs
  obtain ⟨t, ht⟩ := pm_okr_ref (base := base) hSt hr
  rw [List.map_cons, pm_cvr, ht]
  refine lv_astore_n hx hb hdg rfl hAt.1 (by rw [← hAt.2.1]; exact hi) rfl (fun ls' hl' => ?_)
  exact pm_Ct.ls K hAt (pm_set1_has hsa (v := .ref v) (by rw [pm_cvr, ht]; exact hl')) (pm_set1_len _ _ _)
theorem pm_S_astore (hC : pm_Ctx p s m args meth c k sa base D cs L xs) (hsa : pm_rvok sa) (h0 : sa 0 = .null) (hR : 1 ≤ R.frames ∧ 64 ≤ R.locals) {pc len a b : Nat} {cc : Int} {kk : Nat} {lo st : List Value} {H : pm_H} {o : pm_out} {Hp : Heap} {locs : List Loc} {ls : Array Slot} {cells slots : Nat}
    (hdg : decode (pm_by k) pc = .ok (.astore kk, len)) (hln : pm_lnc (pc, .astore kk, len, a, b, cc) = true) (hok : pm_okI k (pc, .astore kk, len, a, b, cc) = true) (hs : pm_step (pc, .astore kk, len, a, b, cc) (lo, st, H) = some o) (hAt : pm_At s k sa base D cs L xs (lo, st, H) Hp locs ls)
    (hct : s.heap.size + cells ≤ base + (H.1.2.2.1 - 8)) (hrm : cells + ((pm_oH o).1.2.2.1 - H.1.2.2.1) ≤ R.cells ∧ slots + ((pm_oH o).1.2.2.2 - H.1.2.2.2) ≤ R.slots)
    (K : pm_K p l e R s m args below meth c Q k sa base D cs L xs (lo, st, H) cells slots (pc + len) o) : W p l e R s m args below meth c Hp locs cells slots Q (F0 m pc ls (st.map (pm_cv (pm_rv sa base)))) := by
  obtain ⟨hx, hb, hml, hown, hts, hKs, hSt, hnm, hbl, hrt, hlk⟩ := id hC
  obtain rfl : len = 2 := Nat.eq_of_beq_eq_true hln
  have hs : pm_stora kk (lo, st, H) = some o := hs
  obtain ⟨v, r, rfl, hi, hr, rfl⟩ := pm_stora_inv hs
  obtain ⟨t, ht⟩ := pm_okr_ref (base := base) hSt hr
  rw [List.map_cons, pm_cvr, ht]
  refine lv_astore hx hb hdg hAt.1 (by rw [← hAt.2.1]; exact hi) rfl (fun ls' hl' => ?_)
  exact pm_Ct.ls K hAt (pm_set1_has hsa (v := .ref v) (by rw [pm_cvr, ht]; exact hl')) (pm_set1_len _ _ _)
theorem pm_S_iadd (hC : pm_Ctx p s m args meth c k sa base D cs L xs) (hsa : pm_rvok sa) (h0 : sa 0 = .null) (hR : 1 ≤ R.frames ∧ 64 ≤ R.locals) {pc len a b : Nat} {cc : Int}  {lo st : List Value} {H : pm_H} {o : pm_out} {Hp : Heap} {locs : List Loc} {ls : Array Slot} {cells slots : Nat}
    (hdg : decode (pm_by k) pc = .ok (.iadd, len)) (hln : pm_lnc (pc, .iadd, len, a, b, cc) = true) (hok : pm_okI k (pc, .iadd, len, a, b, cc) = true) (hs : pm_step (pc, .iadd, len, a, b, cc) (lo, st, H) = some o) (hAt : pm_At s k sa base D cs L xs (lo, st, H) Hp locs ls)
    (hct : s.heap.size + cells ≤ base + (H.1.2.2.1 - 8)) (hrm : cells + ((pm_oH o).1.2.2.1 - H.1.2.2.1) ≤ R.cells ∧ slots + ((pm_oH o).1.2.2.2 - H.1.2.2.2) ≤ R.slots)
    (K : pm_K p l e R s m args below meth c Q k sa base D cs L xs (lo, st, H) cells slots (pc + len) o) : W p l e R s m args below meth c Hp locs cells slots Q (F0 m pc ls (st.map (pm_cv (pm_rv sa base)))) := by
  obtain ⟨hx, hb, hml, hown, hts, hKs, hSt, hnm, hbl, hrt, hlk⟩ := id hC
  obtain rfl : len = 1 := Nat.eq_of_beq_eq_true hln
  obtain ⟨v, u, r, rfl, rfl⟩ := pm_i2_inv hs
  exact lv_iadd hx hb hdg (pm_Ct.st K hAt)
theorem pm_S_isub (hC : pm_Ctx p s m args meth c k sa base D cs L xs) (hsa : pm_rvok sa) (h0 : sa 0 = .null) (hR : 1 ≤ R.frames ∧ 64 ≤ R.locals) {pc len a b : Nat} {cc : Int}  {lo st : List Value} {H : pm_H} {o : pm_out} {Hp : Heap} {locs : List Loc} {ls : Array Slot} {cells slots : Nat}
    (hdg : decode (pm_by k) pc = .ok (.isub, len)) (hln : pm_lnc (pc, .isub, len, a, b, cc) = true) (hok : pm_okI k (pc, .isub, len, a, b, cc) = true) (hs : pm_step (pc, .isub, len, a, b, cc) (lo, st, H) = some o) (hAt : pm_At s k sa base D cs L xs (lo, st, H) Hp locs ls)
    (hct : s.heap.size + cells ≤ base + (H.1.2.2.1 - 8)) (hrm : cells + ((pm_oH o).1.2.2.1 - H.1.2.2.1) ≤ R.cells ∧ slots + ((pm_oH o).1.2.2.2 - H.1.2.2.2) ≤ R.slots)
    (K : pm_K p l e R s m args below meth c Q k sa base D cs L xs (lo, st, H) cells slots (pc + len) o) : W p l e R s m args below meth c Hp locs cells slots Q (F0 m pc ls (st.map (pm_cv (pm_rv sa base)))) := by
  obtain ⟨hx, hb, hml, hown, hts, hKs, hSt, hnm, hbl, hrt, hlk⟩ := id hC
  obtain rfl : len = 1 := Nat.eq_of_beq_eq_true hln
  obtain ⟨v, u, r, rfl, rfl⟩ := pm_i2_inv hs
  exact lv_isub hx hb hdg (pm_Ct.st K hAt)
theorem pm_S_imul (hC : pm_Ctx p s m args meth c k sa base D cs L xs) (hsa : pm_rvok sa) (h0 : sa 0 = .null) (hR : 1 ≤ R.frames ∧ 64 ≤ R.locals) {pc len a b : Nat} {cc : Int}  {lo st : List Value} {H : pm_H} {o : pm_out} {Hp : Heap} {locs : List Loc} {ls : Array Slot} {cells slots : Nat}
    (hdg : decode (pm_by k) pc = .ok (.imul, len)) (hln : pm_lnc (pc, .imul, len, a, b, cc) = true) (hok : pm_okI k (pc, .imul, len, a, b, cc) = true) (hs : pm_step (pc, .imul, len, a, b, cc) (lo, st, H) = some o) (hAt : pm_At s k sa base D cs L xs (lo, st, H) Hp locs ls)
    (hct : s.heap.size + cells ≤ base + (H.1.2.2.1 - 8)) (hrm : cells + ((pm_oH o).1.2.2.1 - H.1.2.2.1) ≤ R.cells ∧ slots + ((pm_oH o).1.2.2.2 - H.1.2.2.2) ≤ R.slots)
    (K : pm_K p l e R s m args below meth c Q k sa base D cs L xs (lo, st, H) cells slots (pc + len) o) : W p l e R s m args below meth c Hp locs cells slots Q (F0 m pc ls (st.map (pm_cv (pm_rv sa base)))) := by
  obtain ⟨hx, hb, hml, hown, hts, hKs, hSt, hnm, hbl, hrt, hlk⟩ := id hC
  obtain rfl : len = 1 := Nat.eq_of_beq_eq_true hln
  obtain ⟨v, u, r, rfl, rfl⟩ := pm_i2_inv hs
  exact lv_imul hx hb hdg (pm_Ct.st K hAt)
theorem pm_S_iand (hC : pm_Ctx p s m args meth c k sa base D cs L xs) (hsa : pm_rvok sa) (h0 : sa 0 = .null) (hR : 1 ≤ R.frames ∧ 64 ≤ R.locals) {pc len a b : Nat} {cc : Int}  {lo st : List Value} {H : pm_H} {o : pm_out} {Hp : Heap} {locs : List Loc} {ls : Array Slot} {cells slots : Nat}
    (hdg : decode (pm_by k) pc = .ok (.iand, len)) (hln : pm_lnc (pc, .iand, len, a, b, cc) = true) (hok : pm_okI k (pc, .iand, len, a, b, cc) = true) (hs : pm_step (pc, .iand, len, a, b, cc) (lo, st, H) = some o) (hAt : pm_At s k sa base D cs L xs (lo, st, H) Hp locs ls)
    (hct : s.heap.size + cells ≤ base + (H.1.2.2.1 - 8)) (hrm : cells + ((pm_oH o).1.2.2.1 - H.1.2.2.1) ≤ R.cells ∧ slots + ((pm_oH o).1.2.2.2 - H.1.2.2.2) ≤ R.slots)
    (K : pm_K p l e R s m args below meth c Q k sa base D cs L xs (lo, st, H) cells slots (pc + len) o) : W p l e R s m args below meth c Hp locs cells slots Q (F0 m pc ls (st.map (pm_cv (pm_rv sa base)))) := by
  obtain ⟨hx, hb, hml, hown, hts, hKs, hSt, hnm, hbl, hrt, hlk⟩ := id hC
  obtain rfl : len = 1 := Nat.eq_of_beq_eq_true hln
  obtain ⟨v, u, r, rfl, rfl⟩ := pm_i2_inv hs
  exact lv_iand hx hb hdg (pm_Ct.st K hAt)
theorem pm_S_ior (hC : pm_Ctx p s m args meth c k sa base D cs L xs) (hsa : pm_rvok sa) (h0 : sa 0 = .null) (hR : 1 ≤ R.frames ∧ 64 ≤ R.locals) {pc len a b : Nat} {cc : Int}  {lo st : List Value} {H : pm_H} {o : pm_out} {Hp : Heap} {locs : List Loc} {ls : Array Slot} {cells slots : Nat}
    (hdg : decode (pm_by k) pc = .ok (.ior, len)) (hln : pm_lnc (pc, .ior, len, a, b, cc) = true) (hok : pm_okI k (pc, .ior, len, a, b, cc) = true) (hs : pm_step (pc, .ior, len, a, b, cc) (lo, st, H) = some o) (hAt : pm_At s k sa base D cs L xs (lo, st, H) Hp locs ls)
    (hct : s.heap.size + cells ≤ base + (H.1.2.2.1 - 8)) (hrm : cells + ((pm_oH o).1.2.2.1 - H.1.2.2.1) ≤ R.cells ∧ slots + ((pm_oH o).1.2.2.2 - H.1.2.2.2) ≤ R.slots)
    (K : pm_K p l e R s m args below meth c Q k sa base D cs L xs (lo, st, H) cells slots (pc + len) o) : W p l e R s m args below meth c Hp locs cells slots Q (F0 m pc ls (st.map (pm_cv (pm_rv sa base)))) := by
  obtain ⟨hx, hb, hml, hown, hts, hKs, hSt, hnm, hbl, hrt, hlk⟩ := id hC
  obtain rfl : len = 1 := Nat.eq_of_beq_eq_true hln
  obtain ⟨v, u, r, rfl, rfl⟩ := pm_i2_inv hs
  exact lv_ior hx hb hdg (pm_Ct.st K hAt)
theorem pm_S_ixor (hC : pm_Ctx p s m args meth c k sa base D cs L xs) (hsa : pm_rvok sa) (h0 : sa 0 = .null) (hR : 1 ≤ R.frames ∧ 64 ≤ R.locals) {pc len a b : Nat} {cc : Int}  {lo st : List Value} {H : pm_H} {o : pm_out} {Hp : Heap} {locs : List Loc} {ls : Array Slot} {cells slots : Nat}
    (hdg : decode (pm_by k) pc = .ok (.ixor, len)) (hln : pm_lnc (pc, .ixor, len, a, b, cc) = true) (hok : pm_okI k (pc, .ixor, len, a, b, cc) = true) (hs : pm_step (pc, .ixor, len, a, b, cc) (lo, st, H) = some o) (hAt : pm_At s k sa base D cs L xs (lo, st, H) Hp locs ls)
    (hct : s.heap.size + cells ≤ base + (H.1.2.2.1 - 8)) (hrm : cells + ((pm_oH o).1.2.2.1 - H.1.2.2.1) ≤ R.cells ∧ slots + ((pm_oH o).1.2.2.2 - H.1.2.2.2) ≤ R.slots)
    (K : pm_K p l e R s m args below meth c Q k sa base D cs L xs (lo, st, H) cells slots (pc + len) o) : W p l e R s m args below meth c Hp locs cells slots Q (F0 m pc ls (st.map (pm_cv (pm_rv sa base)))) := by
  obtain ⟨hx, hb, hml, hown, hts, hKs, hSt, hnm, hbl, hrt, hlk⟩ := id hC
  obtain rfl : len = 1 := Nat.eq_of_beq_eq_true hln
  obtain ⟨v, u, r, rfl, rfl⟩ := pm_i2_inv hs
  exact lv_ixor hx hb hdg (pm_Ct.st K hAt)
theorem pm_S_ishl (hC : pm_Ctx p s m args meth c k sa base D cs L xs) (hsa : pm_rvok sa) (h0 : sa 0 = .null) (hR : 1 ≤ R.frames ∧ 64 ≤ R.locals) {pc len a b : Nat} {cc : Int}  {lo st : List Value} {H : pm_H} {o : pm_out} {Hp : Heap} {locs : List Loc} {ls : Array Slot} {cells slots : Nat}
    (hdg : decode (pm_by k) pc = .ok (.ishl, len)) (hln : pm_lnc (pc, .ishl, len, a, b, cc) = true) (hok : pm_okI k (pc, .ishl, len, a, b, cc) = true) (hs : pm_step (pc, .ishl, len, a, b, cc) (lo, st, H) = some o) (hAt : pm_At s k sa base D cs L xs (lo, st, H) Hp locs ls)
    (hct : s.heap.size + cells ≤ base + (H.1.2.2.1 - 8)) (hrm : cells + ((pm_oH o).1.2.2.1 - H.1.2.2.1) ≤ R.cells ∧ slots + ((pm_oH o).1.2.2.2 - H.1.2.2.2) ≤ R.slots)
    (K : pm_K p l e R s m args below meth c Q k sa base D cs L xs (lo, st, H) cells slots (pc + len) o) : W p l e R s m args below meth c Hp locs cells slots Q (F0 m pc ls (st.map (pm_cv (pm_rv sa base)))) := by
  obtain ⟨hx, hb, hml, hown, hts, hKs, hSt, hnm, hbl, hrt, hlk⟩ := id hC
  obtain rfl : len = 1 := Nat.eq_of_beq_eq_true hln
  obtain ⟨v, u, r, rfl, rfl⟩ := pm_i2_inv hs
  exact lv_ishl hx hb hdg (pm_Ct.st K hAt)
theorem pm_S_ishr (hC : pm_Ctx p s m args meth c k sa base D cs L xs) (hsa : pm_rvok sa) (h0 : sa 0 = .null) (hR : 1 ≤ R.frames ∧ 64 ≤ R.locals) {pc len a b : Nat} {cc : Int}  {lo st : List Value} {H : pm_H} {o : pm_out} {Hp : Heap} {locs : List Loc} {ls : Array Slot} {cells slots : Nat}
    (hdg : decode (pm_by k) pc = .ok (.ishr, len)) (hln : pm_lnc (pc, .ishr, len, a, b, cc) = true) (hok : pm_okI k (pc, .ishr, len, a, b, cc) = true) (hs : pm_step (pc, .ishr, len, a, b, cc) (lo, st, H) = some o) (hAt : pm_At s k sa base D cs L xs (lo, st, H) Hp locs ls)
    (hct : s.heap.size + cells ≤ base + (H.1.2.2.1 - 8)) (hrm : cells + ((pm_oH o).1.2.2.1 - H.1.2.2.1) ≤ R.cells ∧ slots + ((pm_oH o).1.2.2.2 - H.1.2.2.2) ≤ R.slots)
    (K : pm_K p l e R s m args below meth c Q k sa base D cs L xs (lo, st, H) cells slots (pc + len) o) : W p l e R s m args below meth c Hp locs cells slots Q (F0 m pc ls (st.map (pm_cv (pm_rv sa base)))) := by
  obtain ⟨hx, hb, hml, hown, hts, hKs, hSt, hnm, hbl, hrt, hlk⟩ := id hC
  obtain rfl : len = 1 := Nat.eq_of_beq_eq_true hln
  obtain ⟨v, u, r, rfl, rfl⟩ := pm_i2_inv hs
  exact lv_ishr hx hb hdg (pm_Ct.st K hAt)
theorem pm_S_iushr (hC : pm_Ctx p s m args meth c k sa base D cs L xs) (hsa : pm_rvok sa) (h0 : sa 0 = .null) (hR : 1 ≤ R.frames ∧ 64 ≤ R.locals) {pc len a b : Nat} {cc : Int}  {lo st : List Value} {H : pm_H} {o : pm_out} {Hp : Heap} {locs : List Loc} {ls : Array Slot} {cells slots : Nat}
    (hdg : decode (pm_by k) pc = .ok (.iushr, len)) (hln : pm_lnc (pc, .iushr, len, a, b, cc) = true) (hok : pm_okI k (pc, .iushr, len, a, b, cc) = true) (hs : pm_step (pc, .iushr, len, a, b, cc) (lo, st, H) = some o) (hAt : pm_At s k sa base D cs L xs (lo, st, H) Hp locs ls)
    (hct : s.heap.size + cells ≤ base + (H.1.2.2.1 - 8)) (hrm : cells + ((pm_oH o).1.2.2.1 - H.1.2.2.1) ≤ R.cells ∧ slots + ((pm_oH o).1.2.2.2 - H.1.2.2.2) ≤ R.slots)
    (K : pm_K p l e R s m args below meth c Q k sa base D cs L xs (lo, st, H) cells slots (pc + len) o) : W p l e R s m args below meth c Hp locs cells slots Q (F0 m pc ls (st.map (pm_cv (pm_rv sa base)))) := by
  obtain ⟨hx, hb, hml, hown, hts, hKs, hSt, hnm, hbl, hrt, hlk⟩ := id hC
  obtain rfl : len = 1 := Nat.eq_of_beq_eq_true hln
  obtain ⟨v, u, r, rfl, rfl⟩ := pm_i2_inv hs
  exact lv_iushr hx hb hdg rfl (pm_Ct.st K hAt)
theorem pm_S_ladd (hC : pm_Ctx p s m args meth c k sa base D cs L xs) (hsa : pm_rvok sa) (h0 : sa 0 = .null) (hR : 1 ≤ R.frames ∧ 64 ≤ R.locals) {pc len a b : Nat} {cc : Int}  {lo st : List Value} {H : pm_H} {o : pm_out} {Hp : Heap} {locs : List Loc} {ls : Array Slot} {cells slots : Nat}
    (hdg : decode (pm_by k) pc = .ok (.ladd, len)) (hln : pm_lnc (pc, .ladd, len, a, b, cc) = true) (hok : pm_okI k (pc, .ladd, len, a, b, cc) = true) (hs : pm_step (pc, .ladd, len, a, b, cc) (lo, st, H) = some o) (hAt : pm_At s k sa base D cs L xs (lo, st, H) Hp locs ls)
    (hct : s.heap.size + cells ≤ base + (H.1.2.2.1 - 8)) (hrm : cells + ((pm_oH o).1.2.2.1 - H.1.2.2.1) ≤ R.cells ∧ slots + ((pm_oH o).1.2.2.2 - H.1.2.2.2) ≤ R.slots)
    (K : pm_K p l e R s m args below meth c Q k sa base D cs L xs (lo, st, H) cells slots (pc + len) o) : W p l e R s m args below meth c Hp locs cells slots Q (F0 m pc ls (st.map (pm_cv (pm_rv sa base)))) := by
  obtain ⟨hx, hb, hml, hown, hts, hKs, hSt, hnm, hbl, hrt, hlk⟩ := id hC
  obtain rfl : len = 1 := Nat.eq_of_beq_eq_true hln
  obtain ⟨v, u, r, rfl, rfl⟩ := pm_l2_inv hs
  exact lv_ladd hx hb hdg (pm_Ct.st K hAt)
theorem pm_S_lsub (hC : pm_Ctx p s m args meth c k sa base D cs L xs) (hsa : pm_rvok sa) (h0 : sa 0 = .null) (hR : 1 ≤ R.frames ∧ 64 ≤ R.locals) {pc len a b : Nat} {cc : Int}  {lo st : List Value} {H : pm_H} {o : pm_out} {Hp : Heap} {locs : List Loc} {ls : Array Slot} {cells slots : Nat}
    (hdg : decode (pm_by k) pc = .ok (.lsub, len)) (hln : pm_lnc (pc, .lsub, len, a, b, cc) = true) (hok : pm_okI k (pc, .lsub, len, a, b, cc) = true) (hs : pm_step (pc, .lsub, len, a, b, cc) (lo, st, H) = some o) (hAt : pm_At s k sa base D cs L xs (lo, st, H) Hp locs ls)
    (hct : s.heap.size + cells ≤ base + (H.1.2.2.1 - 8)) (hrm : cells + ((pm_oH o).1.2.2.1 - H.1.2.2.1) ≤ R.cells ∧ slots + ((pm_oH o).1.2.2.2 - H.1.2.2.2) ≤ R.slots)
    (K : pm_K p l e R s m args below meth c Q k sa base D cs L xs (lo, st, H) cells slots (pc + len) o) : W p l e R s m args below meth c Hp locs cells slots Q (F0 m pc ls (st.map (pm_cv (pm_rv sa base)))) := by
  obtain ⟨hx, hb, hml, hown, hts, hKs, hSt, hnm, hbl, hrt, hlk⟩ := id hC
  obtain rfl : len = 1 := Nat.eq_of_beq_eq_true hln
  obtain ⟨v, u, r, rfl, rfl⟩ := pm_l2_inv hs
  exact lv_lsub hx hb hdg (pm_Ct.st K hAt)
theorem pm_S_lmul (hC : pm_Ctx p s m args meth c k sa base D cs L xs) (hsa : pm_rvok sa) (h0 : sa 0 = .null) (hR : 1 ≤ R.frames ∧ 64 ≤ R.locals) {pc len a b : Nat} {cc : Int}  {lo st : List Value} {H : pm_H} {o : pm_out} {Hp : Heap} {locs : List Loc} {ls : Array Slot} {cells slots : Nat}
    (hdg : decode (pm_by k) pc = .ok (.lmul, len)) (hln : pm_lnc (pc, .lmul, len, a, b, cc) = true) (hok : pm_okI k (pc, .lmul, len, a, b, cc) = true) (hs : pm_step (pc, .lmul, len, a, b, cc) (lo, st, H) = some o) (hAt : pm_At s k sa base D cs L xs (lo, st, H) Hp locs ls)
    (hct : s.heap.size + cells ≤ base + (H.1.2.2.1 - 8)) (hrm : cells + ((pm_oH o).1.2.2.1 - H.1.2.2.1) ≤ R.cells ∧ slots + ((pm_oH o).1.2.2.2 - H.1.2.2.2) ≤ R.slots)
    (K : pm_K p l e R s m args below meth c Q k sa base D cs L xs (lo, st, H) cells slots (pc + len) o) : W p l e R s m args below meth c Hp locs cells slots Q (F0 m pc ls (st.map (pm_cv (pm_rv sa base)))) := by
  obtain ⟨hx, hb, hml, hown, hts, hKs, hSt, hnm, hbl, hrt, hlk⟩ := id hC
  obtain rfl : len = 1 := Nat.eq_of_beq_eq_true hln
  obtain ⟨v, u, r, rfl, rfl⟩ := pm_l2_inv hs
  exact lv_lmul hx hb hdg (pm_Ct.st K hAt)
theorem pm_S_land (hC : pm_Ctx p s m args meth c k sa base D cs L xs) (hsa : pm_rvok sa) (h0 : sa 0 = .null) (hR : 1 ≤ R.frames ∧ 64 ≤ R.locals) {pc len a b : Nat} {cc : Int}  {lo st : List Value} {H : pm_H} {o : pm_out} {Hp : Heap} {locs : List Loc} {ls : Array Slot} {cells slots : Nat}
    (hdg : decode (pm_by k) pc = .ok (.land, len)) (hln : pm_lnc (pc, .land, len, a, b, cc) = true) (hok : pm_okI k (pc, .land, len, a, b, cc) = true) (hs : pm_step (pc, .land, len, a, b, cc) (lo, st, H) = some o) (hAt : pm_At s k sa base D cs L xs (lo, st, H) Hp locs ls)
    (hct : s.heap.size + cells ≤ base + (H.1.2.2.1 - 8)) (hrm : cells + ((pm_oH o).1.2.2.1 - H.1.2.2.1) ≤ R.cells ∧ slots + ((pm_oH o).1.2.2.2 - H.1.2.2.2) ≤ R.slots)
    (K : pm_K p l e R s m args below meth c Q k sa base D cs L xs (lo, st, H) cells slots (pc + len) o) : W p l e R s m args below meth c Hp locs cells slots Q (F0 m pc ls (st.map (pm_cv (pm_rv sa base)))) := by
  obtain ⟨hx, hb, hml, hown, hts, hKs, hSt, hnm, hbl, hrt, hlk⟩ := id hC
  obtain rfl : len = 1 := Nat.eq_of_beq_eq_true hln
  obtain ⟨v, u, r, rfl, rfl⟩ := pm_l2_inv hs
  exact lv_land hx hb hdg (pm_Ct.st K hAt)
theorem pm_S_lor (hC : pm_Ctx p s m args meth c k sa base D cs L xs) (hsa : pm_rvok sa) (h0 : sa 0 = .null) (hR : 1 ≤ R.frames ∧ 64 ≤ R.locals) {pc len a b : Nat} {cc : Int}  {lo st : List Value} {H : pm_H} {o : pm_out} {Hp : Heap} {locs : List Loc} {ls : Array Slot} {cells slots : Nat}
    (hdg : decode (pm_by k) pc = .ok (.lor, len)) (hln : pm_lnc (pc, .lor, len, a, b, cc) = true) (hok : pm_okI k (pc, .lor, len, a, b, cc) = true) (hs : pm_step (pc, .lor, len, a, b, cc) (lo, st, H) = some o) (hAt : pm_At s k sa base D cs L xs (lo, st, H) Hp locs ls)
    (hct : s.heap.size + cells ≤ base + (H.1.2.2.1 - 8)) (hrm : cells + ((pm_oH o).1.2.2.1 - H.1.2.2.1) ≤ R.cells ∧ slots + ((pm_oH o).1.2.2.2 - H.1.2.2.2) ≤ R.slots)
    (K : pm_K p l e R s m args below meth c Q k sa base D cs L xs (lo, st, H) cells slots (pc + len) o) : W p l e R s m args below meth c Hp locs cells slots Q (F0 m pc ls (st.map (pm_cv (pm_rv sa base)))) := by
  obtain ⟨hx, hb, hml, hown, hts, hKs, hSt, hnm, hbl, hrt, hlk⟩ := id hC
  obtain rfl : len = 1 := Nat.eq_of_beq_eq_true hln
  obtain ⟨v, u, r, rfl, rfl⟩ := pm_l2_inv hs
  exact lv_lor hx hb hdg (pm_Ct.st K hAt)
theorem pm_S_lxor (hC : pm_Ctx p s m args meth c k sa base D cs L xs) (hsa : pm_rvok sa) (h0 : sa 0 = .null) (hR : 1 ≤ R.frames ∧ 64 ≤ R.locals) {pc len a b : Nat} {cc : Int}  {lo st : List Value} {H : pm_H} {o : pm_out} {Hp : Heap} {locs : List Loc} {ls : Array Slot} {cells slots : Nat}
    (hdg : decode (pm_by k) pc = .ok (.lxor, len)) (hln : pm_lnc (pc, .lxor, len, a, b, cc) = true) (hok : pm_okI k (pc, .lxor, len, a, b, cc) = true) (hs : pm_step (pc, .lxor, len, a, b, cc) (lo, st, H) = some o) (hAt : pm_At s k sa base D cs L xs (lo, st, H) Hp locs ls)
    (hct : s.heap.size + cells ≤ base + (H.1.2.2.1 - 8)) (hrm : cells + ((pm_oH o).1.2.2.1 - H.1.2.2.1) ≤ R.cells ∧ slots + ((pm_oH o).1.2.2.2 - H.1.2.2.2) ≤ R.slots)
    (K : pm_K p l e R s m args below meth c Q k sa base D cs L xs (lo, st, H) cells slots (pc + len) o) : W p l e R s m args below meth c Hp locs cells slots Q (F0 m pc ls (st.map (pm_cv (pm_rv sa base)))) := by
  obtain ⟨hx, hb, hml, hown, hts, hKs, hSt, hnm, hbl, hrt, hlk⟩ := id hC
  obtain rfl : len = 1 := Nat.eq_of_beq_eq_true hln
  obtain ⟨v, u, r, rfl, rfl⟩ := pm_l2_inv hs
  exact lv_lxor hx hb hdg (pm_Ct.st K hAt)
theorem pm_S_lshl (hC : pm_Ctx p s m args meth c k sa base D cs L xs) (hsa : pm_rvok sa) (h0 : sa 0 = .null) (hR : 1 ≤ R.frames ∧ 64 ≤ R.locals) {pc len a b : Nat} {cc : Int}  {lo st : List Value} {H : pm_H} {o : pm_out} {Hp : Heap} {locs : List Loc} {ls : Array Slot} {cells slots : Nat}
    (hdg : decode (pm_by k) pc = .ok (.lshl, len)) (hln : pm_lnc (pc, .lshl, len, a, b, cc) = true) (hok : pm_okI k (pc, .lshl, len, a, b, cc) = true) (hs : pm_step (pc, .lshl, len, a, b, cc) (lo, st, H) = some o) (hAt : pm_At s k sa base D cs L xs (lo, st, H) Hp locs ls)
    (hct : s.heap.size + cells ≤ base + (H.1.2.2.1 - 8)) (hrm : cells + ((pm_oH o).1.2.2.1 - H.1.2.2.1) ≤ R.cells ∧ slots + ((pm_oH o).1.2.2.2 - H.1.2.2.2) ≤ R.slots)
    (K : pm_K p l e R s m args below meth c Q k sa base D cs L xs (lo, st, H) cells slots (pc + len) o) : W p l e R s m args below meth c Hp locs cells slots Q (F0 m pc ls (st.map (pm_cv (pm_rv sa base)))) := by
  obtain ⟨hx, hb, hml, hown, hts, hKs, hSt, hnm, hbl, hrt, hlk⟩ := id hC
  obtain rfl : len = 1 := Nat.eq_of_beq_eq_true hln
  obtain ⟨v, u, r, rfl, rfl⟩ := pm_ls_inv hs
  exact lv_lshl hx hb hdg rfl (pm_Ct.st K hAt)
theorem pm_S_lshr (hC : pm_Ctx p s m args meth c k sa base D cs L xs) (hsa : pm_rvok sa) (h0 : sa 0 = .null) (hR : 1 ≤ R.frames ∧ 64 ≤ R.locals) {pc len a b : Nat} {cc : Int}  {lo st : List Value} {H : pm_H} {o : pm_out} {Hp : Heap} {locs : List Loc} {ls : Array Slot} {cells slots : Nat}
    (hdg : decode (pm_by k) pc = .ok (.lshr, len)) (hln : pm_lnc (pc, .lshr, len, a, b, cc) = true) (hok : pm_okI k (pc, .lshr, len, a, b, cc) = true) (hs : pm_step (pc, .lshr, len, a, b, cc) (lo, st, H) = some o) (hAt : pm_At s k sa base D cs L xs (lo, st, H) Hp locs ls)
    (hct : s.heap.size + cells ≤ base + (H.1.2.2.1 - 8)) (hrm : cells + ((pm_oH o).1.2.2.1 - H.1.2.2.1) ≤ R.cells ∧ slots + ((pm_oH o).1.2.2.2 - H.1.2.2.2) ≤ R.slots)
    (K : pm_K p l e R s m args below meth c Q k sa base D cs L xs (lo, st, H) cells slots (pc + len) o) : W p l e R s m args below meth c Hp locs cells slots Q (F0 m pc ls (st.map (pm_cv (pm_rv sa base)))) := by
  obtain ⟨hx, hb, hml, hown, hts, hKs, hSt, hnm, hbl, hrt, hlk⟩ := id hC
  obtain rfl : len = 1 := Nat.eq_of_beq_eq_true hln
  obtain ⟨v, u, r, rfl, rfl⟩ := pm_ls_inv hs
  exact lv_lshr hx hb hdg rfl (pm_Ct.st K hAt)
theorem pm_S_i2b (hC : pm_Ctx p s m args meth c k sa base D cs L xs) (hsa : pm_rvok sa) (h0 : sa 0 = .null) (hR : 1 ≤ R.frames ∧ 64 ≤ R.locals) {pc len a b : Nat} {cc : Int}  {lo st : List Value} {H : pm_H} {o : pm_out} {Hp : Heap} {locs : List Loc} {ls : Array Slot} {cells slots : Nat}
    (hdg : decode (pm_by k) pc = .ok (.i2b, len)) (hln : pm_lnc (pc, .i2b, len, a, b, cc) = true) (hok : pm_okI k (pc, .i2b, len, a, b, cc) = true) (hs : pm_step (pc, .i2b, len, a, b, cc) (lo, st, H) = some o) (hAt : pm_At s k sa base D cs L xs (lo, st, H) Hp locs ls)
    (hct : s.heap.size + cells ≤ base + (H.1.2.2.1 - 8)) (hrm : cells + ((pm_oH o).1.2.2.1 - H.1.2.2.1) ≤ R.cells ∧ slots + ((pm_oH o).1.2.2.2 - H.1.2.2.2) ≤ R.slots)
    (K : pm_K p l e R s m args below meth c Q k sa base D cs L xs (lo, st, H) cells slots (pc + len) o) : W p l e R s m args below meth c Hp locs cells slots Q (F0 m pc ls (st.map (pm_cv (pm_rv sa base)))) := by
  obtain ⟨hx, hb, hml, hown, hts, hKs, hSt, hnm, hbl, hrt, hlk⟩ := id hC
  obtain rfl : len = 1 := Nat.eq_of_beq_eq_true hln
  obtain ⟨u, r, rfl, rfl⟩ := pm_i1_inv hs
  exact lv_i2b hx hb hdg rfl (pm_Ct.st K hAt)
theorem pm_S_i2s (hC : pm_Ctx p s m args meth c k sa base D cs L xs) (hsa : pm_rvok sa) (h0 : sa 0 = .null) (hR : 1 ≤ R.frames ∧ 64 ≤ R.locals) {pc len a b : Nat} {cc : Int}  {lo st : List Value} {H : pm_H} {o : pm_out} {Hp : Heap} {locs : List Loc} {ls : Array Slot} {cells slots : Nat}
    (hdg : decode (pm_by k) pc = .ok (.i2s, len)) (hln : pm_lnc (pc, .i2s, len, a, b, cc) = true) (hok : pm_okI k (pc, .i2s, len, a, b, cc) = true) (hs : pm_step (pc, .i2s, len, a, b, cc) (lo, st, H) = some o) (hAt : pm_At s k sa base D cs L xs (lo, st, H) Hp locs ls)
    (hct : s.heap.size + cells ≤ base + (H.1.2.2.1 - 8)) (hrm : cells + ((pm_oH o).1.2.2.1 - H.1.2.2.1) ≤ R.cells ∧ slots + ((pm_oH o).1.2.2.2 - H.1.2.2.2) ≤ R.slots)
    (K : pm_K p l e R s m args below meth c Q k sa base D cs L xs (lo, st, H) cells slots (pc + len) o) : W p l e R s m args below meth c Hp locs cells slots Q (F0 m pc ls (st.map (pm_cv (pm_rv sa base)))) := by
  obtain ⟨hx, hb, hml, hown, hts, hKs, hSt, hnm, hbl, hrt, hlk⟩ := id hC
  obtain rfl : len = 1 := Nat.eq_of_beq_eq_true hln
  obtain ⟨u, r, rfl, rfl⟩ := pm_i1_inv hs
  exact lv_i2s hx hb hdg rfl (pm_Ct.st K hAt)
theorem pm_S_i2c (hC : pm_Ctx p s m args meth c k sa base D cs L xs) (hsa : pm_rvok sa) (h0 : sa 0 = .null) (hR : 1 ≤ R.frames ∧ 64 ≤ R.locals) {pc len a b : Nat} {cc : Int}  {lo st : List Value} {H : pm_H} {o : pm_out} {Hp : Heap} {locs : List Loc} {ls : Array Slot} {cells slots : Nat}
    (hdg : decode (pm_by k) pc = .ok (.i2c, len)) (hln : pm_lnc (pc, .i2c, len, a, b, cc) = true) (hok : pm_okI k (pc, .i2c, len, a, b, cc) = true) (hs : pm_step (pc, .i2c, len, a, b, cc) (lo, st, H) = some o) (hAt : pm_At s k sa base D cs L xs (lo, st, H) Hp locs ls)
    (hct : s.heap.size + cells ≤ base + (H.1.2.2.1 - 8)) (hrm : cells + ((pm_oH o).1.2.2.1 - H.1.2.2.1) ≤ R.cells ∧ slots + ((pm_oH o).1.2.2.2 - H.1.2.2.2) ≤ R.slots)
    (K : pm_K p l e R s m args below meth c Q k sa base D cs L xs (lo, st, H) cells slots (pc + len) o) : W p l e R s m args below meth c Hp locs cells slots Q (F0 m pc ls (st.map (pm_cv (pm_rv sa base)))) := by
  obtain ⟨hx, hb, hml, hown, hts, hKs, hSt, hnm, hbl, hrt, hlk⟩ := id hC
  obtain rfl : len = 1 := Nat.eq_of_beq_eq_true hln
  obtain ⟨u, r, rfl, rfl⟩ := pm_i1_inv hs
  exact lv_i2c hx hb hdg rfl (pm_Ct.st K hAt)
theorem pm_S_ineg (hC : pm_Ctx p s m args meth c k sa base D cs L xs) (hsa : pm_rvok sa) (h0 : sa 0 = .null) (hR : 1 ≤ R.frames ∧ 64 ≤ R.locals) {pc len a b : Nat} {cc : Int}  {lo st : List Value} {H : pm_H} {o : pm_out} {Hp : Heap} {locs : List Loc} {ls : Array Slot} {cells slots : Nat}
    (hdg : decode (pm_by k) pc = .ok (.ineg, len)) (hln : pm_lnc (pc, .ineg, len, a, b, cc) = true) (hok : pm_okI k (pc, .ineg, len, a, b, cc) = true) (hs : pm_step (pc, .ineg, len, a, b, cc) (lo, st, H) = some o) (hAt : pm_At s k sa base D cs L xs (lo, st, H) Hp locs ls)
    (hct : s.heap.size + cells ≤ base + (H.1.2.2.1 - 8)) (hrm : cells + ((pm_oH o).1.2.2.1 - H.1.2.2.1) ≤ R.cells ∧ slots + ((pm_oH o).1.2.2.2 - H.1.2.2.2) ≤ R.slots)
    (K : pm_K p l e R s m args below meth c Q k sa base D cs L xs (lo, st, H) cells slots (pc + len) o) : W p l e R s m args below meth c Hp locs cells slots Q (F0 m pc ls (st.map (pm_cv (pm_rv sa base)))) := by
  obtain ⟨hx, hb, hml, hown, hts, hKs, hSt, hnm, hbl, hrt, hlk⟩ := id hC
  obtain rfl : len = 1 := Nat.eq_of_beq_eq_true hln
  obtain ⟨u, r, rfl, rfl⟩ := pm_i1_inv hs
  exact lv_ineg hx hb hdg (pm_Ct.st K hAt)
theorem pm_S_iconst (hC : pm_Ctx p s m args meth c k sa base D cs L xs) (hsa : pm_rvok sa) (h0 : sa 0 = .null) (hR : 1 ≤ R.frames ∧ 64 ≤ R.locals) {pc len a b : Nat} {cc : Int} {n : Int} {lo st : List Value} {H : pm_H} {o : pm_out} {Hp : Heap} {locs : List Loc} {ls : Array Slot} {cells slots : Nat}
    (hdg : decode (pm_by k) pc = .ok (.iconst n, len)) (hln : pm_lnc (pc, .iconst n, len, a, b, cc) = true) (hok : pm_okI k (pc, .iconst n, len, a, b, cc) = true) (hs : pm_step (pc, .iconst n, len, a, b, cc) (lo, st, H) = some o) (hAt : pm_At s k sa base D cs L xs (lo, st, H) Hp locs ls)
    (hct : s.heap.size + cells ≤ base + (H.1.2.2.1 - 8)) (hrm : cells + ((pm_oH o).1.2.2.1 - H.1.2.2.1) ≤ R.cells ∧ slots + ((pm_oH o).1.2.2.2 - H.1.2.2.2) ≤ R.slots)
    (K : pm_K p l e R s m args below meth c Q k sa base D cs L xs (lo, st, H) cells slots (pc + len) o) : W p l e R s m args below meth c Hp locs cells slots Q (F0 m pc ls (st.map (pm_cv (pm_rv sa base)))) := by
  obtain ⟨hx, hb, hml, hown, hts, hKs, hSt, hnm, hbl, hrt, hlk⟩ := id hC
  obtain rfl : len = 1 := Nat.eq_of_beq_eq_true hln
  obtain rfl := Option.some.inj hs
  exact lv_iconst hx hb hdg rfl (pm_Ct.st K hAt)
theorem pm_S_bipush (hC : pm_Ctx p s m args meth c k sa base D cs L xs) (hsa : pm_rvok sa) (h0 : sa 0 = .null) (hR : 1 ≤ R.frames ∧ 64 ≤ R.locals) {pc len a b : Nat} {cc : Int} {n : Int} {lo st : List Value} {H : pm_H} {o : pm_out} {Hp : Heap} {locs : List Loc} {ls : Array Slot} {cells slots : Nat}
    (hdg : decode (pm_by k) pc = .ok (.bipush n, len)) (hln : pm_lnc (pc, .bipush n, len, a, b, cc) = true) (hok : pm_okI k (pc, .bipush n, len, a, b, cc) = true) (hs : pm_step (pc, .bipush n, len, a, b, cc) (lo, st, H) = some o) (hAt : pm_At s k sa base D cs L xs (lo, st, H) Hp locs ls)
    (hct : s.heap.size + cells ≤ base + (H.1.2.2.1 - 8)) (hrm : cells + ((pm_oH o).1.2.2.1 - H.1.2.2.1) ≤ R.cells ∧ slots + ((pm_oH o).1.2.2.2 - H.1.2.2.2) ≤ R.slots)
    (K : pm_K p l e R s m args below meth c Q k sa base D cs L xs (lo, st, H) cells slots (pc + len) o) : W p l e R s m args below meth c Hp locs cells slots Q (F0 m pc ls (st.map (pm_cv (pm_rv sa base)))) := by
  obtain ⟨hx, hb, hml, hown, hts, hKs, hSt, hnm, hbl, hrt, hlk⟩ := id hC
  obtain rfl : len = 2 := Nat.eq_of_beq_eq_true hln
  obtain rfl := Option.some.inj hs
  exact lv_bipush hx hb hdg rfl (pm_Ct.st K hAt)
theorem pm_S_sipush (hC : pm_Ctx p s m args meth c k sa base D cs L xs) (hsa : pm_rvok sa) (h0 : sa 0 = .null) (hR : 1 ≤ R.frames ∧ 64 ≤ R.locals) {pc len a b : Nat} {cc : Int} {n : Int} {lo st : List Value} {H : pm_H} {o : pm_out} {Hp : Heap} {locs : List Loc} {ls : Array Slot} {cells slots : Nat}
    (hdg : decode (pm_by k) pc = .ok (.sipush n, len)) (hln : pm_lnc (pc, .sipush n, len, a, b, cc) = true) (hok : pm_okI k (pc, .sipush n, len, a, b, cc) = true) (hs : pm_step (pc, .sipush n, len, a, b, cc) (lo, st, H) = some o) (hAt : pm_At s k sa base D cs L xs (lo, st, H) Hp locs ls)
    (hct : s.heap.size + cells ≤ base + (H.1.2.2.1 - 8)) (hrm : cells + ((pm_oH o).1.2.2.1 - H.1.2.2.1) ≤ R.cells ∧ slots + ((pm_oH o).1.2.2.2 - H.1.2.2.2) ≤ R.slots)
    (K : pm_K p l e R s m args below meth c Q k sa base D cs L xs (lo, st, H) cells slots (pc + len) o) : W p l e R s m args below meth c Hp locs cells slots Q (F0 m pc ls (st.map (pm_cv (pm_rv sa base)))) := by
  obtain ⟨hx, hb, hml, hown, hts, hKs, hSt, hnm, hbl, hrt, hlk⟩ := id hC
  obtain rfl : len = 3 := Nat.eq_of_beq_eq_true hln
  obtain rfl := Option.some.inj hs
  exact lv_sipush hx hb hdg rfl (pm_Ct.st K hAt)
theorem pm_S_lconst (hC : pm_Ctx p s m args meth c k sa base D cs L xs) (hsa : pm_rvok sa) (h0 : sa 0 = .null) (hR : 1 ≤ R.frames ∧ 64 ≤ R.locals) {pc len a b : Nat} {cc : Int} {n : Fin 2} {lo st : List Value} {H : pm_H} {o : pm_out} {Hp : Heap} {locs : List Loc} {ls : Array Slot} {cells slots : Nat}
    (hdg : decode (pm_by k) pc = .ok (.lconst n, len)) (hln : pm_lnc (pc, .lconst n, len, a, b, cc) = true) (hok : pm_okI k (pc, .lconst n, len, a, b, cc) = true) (hs : pm_step (pc, .lconst n, len, a, b, cc) (lo, st, H) = some o) (hAt : pm_At s k sa base D cs L xs (lo, st, H) Hp locs ls)
    (hct : s.heap.size + cells ≤ base + (H.1.2.2.1 - 8)) (hrm : cells + ((pm_oH o).1.2.2.1 - H.1.2.2.1) ≤ R.cells ∧ slots + ((pm_oH o).1.2.2.2 - H.1.2.2.2) ≤ R.slots)
    (K : pm_K p l e R s m args below meth c Q k sa base D cs L xs (lo, st, H) cells slots (pc + len) o) : W p l e R s m args below meth c Hp locs cells slots Q (F0 m pc ls (st.map (pm_cv (pm_rv sa base)))) := by
  obtain ⟨hx, hb, hml, hown, hts, hKs, hSt, hnm, hbl, hrt, hlk⟩ := id hC
  obtain rfl : len = 1 := Nat.eq_of_beq_eq_true hln
  obtain rfl := Option.some.inj hs
  exact lv_lconst hx hb hdg rfl (pm_Ct.st K hAt)
theorem pm_S_if_eq (hC : pm_Ctx p s m args meth c k sa base D cs L xs) (hsa : pm_rvok sa) (h0 : sa 0 = .null) (hR : 1 ≤ R.frames ∧ 64 ≤ R.locals) {pc len a b : Nat} {cc : Int} {off : Int} {lo st : List Value} {H : pm_H} {o : pm_out} {Hp : Heap} {locs : List Loc} {ls : Array Slot} {cells slots : Nat}
    (hdg : decode (pm_by k) pc = .ok (.ifCond .eq off, len)) (hln : pm_lnc (pc, .ifCond .eq off, len, a, b, cc) = true) (hok : pm_okI k (pc, .ifCond .eq off, len, a, b, cc) = true) (hs : pm_step (pc, .ifCond .eq off, len, a, b, cc) (lo, st, H) = some o) (hAt : pm_At s k sa base D cs L xs (lo, st, H) Hp locs ls)
    (hct : s.heap.size + cells ≤ base + (H.1.2.2.1 - 8)) (hrm : cells + ((pm_oH o).1.2.2.1 - H.1.2.2.1) ≤ R.cells ∧ slots + ((pm_oH o).1.2.2.2 - H.1.2.2.2) ≤ R.slots)
    (K : pm_K p l e R s m args below meth c Q k sa base D cs L xs (lo, st, H) cells slots (pc + len) o) : W p l e R s m args below meth c Hp locs cells slots Q (F0 m pc ls (st.map (pm_cv (pm_rv sa base)))) := by
  obtain ⟨hx, hb, hml, hown, hts, hKs, hSt, hnm, hbl, hrt, hlk⟩ := id hC
  obtain rfl : len = 3 := Nat.eq_of_beq_eq_true hln
  have ht : (pc : Int) + off = (a : Int) := of_decide_eq_true hok
  cases st with
  | nil => cases hs
  | cons v0 r =>
    cases v0 with
    | int v =>
      obtain rfl := Option.some.inj hs
      refine lv_if_eq hx hb hdg ht (fun h => ?_) (fun h => ?_)
      · have K := pm_Ct.st K hAt
        simpa only [decide_eq_true h, if_true] using K
      · have K := pm_Ct.st K hAt
        simpa only [decide_eq_false h, Bool.false_eq_true, if_false] using K
    | _ => cases hs
theorem pm_S_icmp_eq (hC : pm_Ctx p s m args meth c k sa base D cs L xs) (hsa : pm_rvok sa) (h0 : sa 0 = .null) (hR : 1 ≤ R.frames ∧ 64 ≤ R.locals) {pc len a b : Nat} {cc : Int} {off : Int} {lo st : List Value} {H : pm_H} {o : pm_out} {Hp : Heap} {locs : List Loc} {ls : Array Slot} {cells slots : Nat}
    (hdg : decode (pm_by k) pc = .ok (.if_icmp .eq off, len)) (hln : pm_lnc (pc, .if_icmp .eq off, len, a, b, cc) = true) (hok : pm_okI k (pc, .if_icmp .eq off, len, a, b, cc) = true) (hs : pm_step (pc, .if_icmp .eq off, len, a, b, cc) (lo, st, H) = some o) (hAt : pm_At s k sa base D cs L xs (lo, st, H) Hp locs ls)
    (hct : s.heap.size + cells ≤ base + (H.1.2.2.1 - 8)) (hrm : cells + ((pm_oH o).1.2.2.1 - H.1.2.2.1) ≤ R.cells ∧ slots + ((pm_oH o).1.2.2.2 - H.1.2.2.2) ≤ R.slots)
    (K : pm_K p l e R s m args below meth c Q k sa base D cs L xs (lo, st, H) cells slots (pc + len) o) : W p l e R s m args below meth c Hp locs cells slots Q (F0 m pc ls (st.map (pm_cv (pm_rv sa base)))) := by
  obtain ⟨hx, hb, hml, hown, hts, hKs, hSt, hnm, hbl, hrt, hlk⟩ := id hC
  obtain rfl : len = 3 := Nat.eq_of_beq_eq_true hln
  have ht : (pc : Int) + off = (a : Int) := of_decide_eq_true hok
  cases st with
  | nil => cases hs
  | cons v0 r =>
    cases v0 with
    | int v =>
      cases r with
      | nil => cases hs
      | cons v1 r =>
        cases v1 with
        | int u =>
          obtain rfl := Option.some.inj hs
          refine lv_icmp_eq hx hb hdg ht (fun h => ?_) (fun h => ?_)
          · have K := pm_Ct.st K hAt
            simpa only [decide_eq_true h, if_true] using K
          · have K := pm_Ct.st K hAt
            simpa only [decide_eq_false h, Bool.false_eq_true, if_false] using K
        | _ => cases hs
    | _ => cases hs
theorem pm_S_if_ne (hC : pm_Ctx p s m args meth c k sa base D cs L xs) (hsa : pm_rvok sa) (h0 : sa 0 = .null) (hR : 1 ≤ R.frames ∧ 64 ≤ R.locals) {pc len a b : Nat} {cc : Int} {off : Int} {lo st : List Value} {H : pm_H} {o : pm_out} {Hp : Heap} {locs : List Loc} {ls : Array Slot} {cells slots : Nat}
    (hdg : decode (pm_by k) pc = .ok (.ifCond .ne off, len)) (hln : pm_lnc (pc, .ifCond .ne off, len, a, b, cc) = true) (hok : pm_okI k (pc, .ifCond .ne off, len, a, b, cc) = true) (hs : pm_step (pc, .ifCond .ne off, len, a, b, cc) (lo, st, H) = some o) (hAt : pm_At s k sa base D cs L xs (lo, st, H) Hp locs ls)
    (hct : s.heap.size + cells ≤ base + (H.1.2.2.1 - 8)) (hrm : cells + ((pm_oH o).1.2.2.1 - H.1.2.2.1) ≤ R.cells ∧ slots + ((pm_oH o).1.2.2.2 - H.1.2.2.2) ≤ R.slots)
    (K : pm_K p l e R s m args below meth c Q k sa base D cs L xs (lo, st, H) cells slots (pc + len) o) : W p l e R s m args below meth c Hp locs cells slots Q (F0 m pc ls (st.map (pm_cv (pm_rv sa base)))) := by
  obtain ⟨hx, hb, hml, hown, hts, hKs, hSt, hnm, hbl, hrt, hlk⟩ := id hC
  obtain rfl : len = 3 := Nat.eq_of_beq_eq_true hln
  have ht : (pc : Int) + off = (a : Int) := of_decide_eq_true hok
  cases st with
  | nil => cases hs
  | cons v0 r =>
    cases v0 with
    | int v =>
      obtain rfl := Option.some.inj hs
      refine lv_if_ne hx hb hdg ht (fun h => ?_) (fun h => ?_)
      · have K := pm_Ct.st K hAt
        simpa only [decide_eq_true h, if_true] using K
      · have K := pm_Ct.st K hAt
        simpa [h] using K
    | _ => cases hs
theorem pm_S_icmp_ne (hC : pm_Ctx p s m args meth c k sa base D cs L xs) (hsa : pm_rvok sa) (h0 : sa 0 = .null) (hR : 1 ≤ R.frames ∧ 64 ≤ R.locals) {pc len a b : Nat} {cc : Int} {off : Int} {lo st : List Value} {H : pm_H} {o : pm_out} {Hp : Heap} {locs : List Loc} {ls : Array Slot} {cells slots : Nat}
    (hdg : decode (pm_by k) pc = .ok (.if_icmp .ne off, len)) (hln : pm_lnc (pc, .if_icmp .ne off, len, a, b, cc) = true) (hok : pm_okI k (pc, .if_icmp .ne off, len, a, b, cc) = true) (hs : pm_step (pc, .if_icmp .ne off, len, a, b, cc) (lo, st, H) = some o) (hAt : pm_At s k sa base D cs L xs (lo, st, H) Hp locs ls)
    (hct : s.heap.size + cells ≤ base + (H.1.2.2.1 - 8)) (hrm : cells + ((pm_oH o).1.2.2.1 - H.1.2.2.1) ≤ R.cells ∧ slots + ((pm_oH o).1.2.2.2 - H.1.2.2.2) ≤ R.slots)
    (K : pm_K p l e R s m args below meth c Q k sa base D cs L xs (lo, st, H) cells slots (pc + len) o) : W p l e R s m args below meth c Hp locs cells slots Q (F0 m pc ls (st.map (pm_cv (pm_rv sa base)))) := by
  obtain ⟨hx, hb, hml, hown, hts, hKs, hSt, hnm, hbl, hrt, hlk⟩ := id hC
  obtain rfl : len = 3 := Nat.eq_of_beq_eq_true hln
  have ht : (pc : Int) + off = (a : Int) := of_decide_eq_true hok
  cases st with
  | nil => cases hs
  | cons v0 r =>
    cases v0 with
    | int v =>
      cases r with
      | nil => cases hs
      | cons v1 r =>
        cases v1 with
        | int u =>
          obtain rfl := Option.some.inj hs
          refine lv_icmp_ne hx hb hdg ht (fun h => ?_) (fun h => ?_)
          · have K := pm_Ct.st K hAt
            simpa only [decide_eq_true h, if_true] using K
          · have K := pm_Ct.st K hAt
            simpa [h] using K
        | _ => cases hs
    | _ => cases hs
theorem pm_S_if_lt (hC : pm_Ctx p s m args meth c k sa base D cs L xs) (hsa : pm_rvok sa) (h0 : sa 0 = .null) (hR : 1 ≤ R.frames ∧ 64 ≤ R.locals) {pc len a b : Nat} {cc : Int} {off : Int} {lo st : List Value} {H : pm_H} {o : pm_out} {Hp : Heap} {locs : List Loc} {ls : Array Slot} {cells slots : Nat}
    (hdg : decode (pm_by k) pc = .ok (.ifCond .lt off, len)) (hln : pm_lnc (pc, .ifCond .lt off, len, a, b, cc) = true) (hok : pm_okI k (pc, .ifCond .lt off, len, a, b, cc) = true) (hs : pm_step (pc, .ifCond .lt off, len, a, b, cc) (lo, st, H) = some o) (hAt : pm_At s k sa base D cs L xs (lo, st, H) Hp locs ls)
    (hct : s.heap.size + cells ≤ base + (H.1.2.2.1 - 8)) (hrm : cells + ((pm_oH o).1.2.2.1 - H.1.2.2.1) ≤ R.cells ∧ slots + ((pm_oH o).1.2.2.2 - H.1.2.2.2) ≤ R.slots)
    (K : pm_K p l e R s m args below meth c Q k sa base D cs L xs (lo, st, H) cells slots (pc + len) o) : W p l e R s m args below meth c Hp locs cells slots Q (F0 m pc ls (st.map (pm_cv (pm_rv sa base)))) := by
  obtain ⟨hx, hb, hml, hown, hts, hKs, hSt, hnm, hbl, hrt, hlk⟩ := id hC
  obtain rfl : len = 3 := Nat.eq_of_beq_eq_true hln
  have ht : (pc : Int) + off = (a : Int) := of_decide_eq_true hok
  cases st with
  | nil => cases hs
  | cons v0 r =>
    cases v0 with
    | int v =>
      obtain rfl := Option.some.inj hs
      refine lv_if_lt hx hb hdg ht (fun h => ?_) (fun h => ?_)
      · have K := pm_Ct.st K hAt
        simpa only [decide_eq_true h, if_true] using K
      · have K := pm_Ct.st K hAt
        simpa only [decide_eq_false h, Bool.false_eq_true, if_false] using K
    | _ => cases hs
theorem pm_S_icmp_lt (hC : pm_Ctx p s m args meth c k sa base D cs L xs) (hsa : pm_rvok sa) (h0 : sa 0 = .null) (hR : 1 ≤ R.frames ∧ 64 ≤ R.locals) {pc len a b : Nat} {cc : Int} {off : Int} {lo st : List Value} {H : pm_H} {o : pm_out} {Hp : Heap} {locs : List Loc} {ls : Array Slot} {cells slots : Nat}
    (hdg : decode (pm_by k) pc = .ok (.if_icmp .lt off, len)) (hln : pm_lnc (pc, .if_icmp .lt off, len, a, b, cc) = true) (hok : pm_okI k (pc, .if_icmp .lt off, len, a, b, cc) = true) (hs : pm_step (pc, .if_icmp .lt off, len, a, b, cc) (lo, st, H) = some o) (hAt : pm_At s k sa base D cs L xs (lo, st, H) Hp locs ls)
    (hct : s.heap.size + cells ≤ base + (H.1.2.2.1 - 8)) (hrm : cells + ((pm_oH o).1.2.2.1 - H.1.2.2.1) ≤ R.cells ∧ slots + ((pm_oH o).1.2.2.2 - H.1.2.2.2) ≤ R.slots)
    (K : pm_K p l e R s m args below meth c Q k sa base D cs L xs (lo, st, H) cells slots (pc + len) o) : W p l e R s m args below meth c Hp locs cells slots Q (F0 m pc ls (st.map (pm_cv (pm_rv sa base)))) := by
  obtain ⟨hx, hb, hml, hown, hts, hKs, hSt, hnm, hbl, hrt, hlk⟩ := id hC
  obtain rfl : len = 3 := Nat.eq_of_beq_eq_true hln
  have ht : (pc : Int) + off = (a : Int) := of_decide_eq_true hok
  cases st with
  | nil => cases hs
  | cons v0 r =>
    cases v0 with
    | int v =>
      cases r with
      | nil => cases hs
      | cons v1 r =>
        cases v1 with
        | int u =>
          obtain rfl := Option.some.inj hs
          refine lv_icmp_lt hx hb hdg ht (fun h => ?_) (fun h => ?_)
          · have K := pm_Ct.st K hAt
            simpa only [decide_eq_true h, if_true] using K
          · have K := pm_Ct.st K hAt
            simpa only [decide_eq_false h, Bool.false_eq_true, if_false] using K
        | _ => cases hs
    | _ => cases hs
theorem pm_S_if_ge (hC : pm_Ctx p s m args meth c k sa base D cs L xs) (hsa : pm_rvok sa) (h0 : sa 0 = .null) (hR : 1 ≤ R.frames ∧ 64 ≤ R.locals) {pc len a b : Nat} {cc : Int} {off : Int} {lo st : List Value} {H : pm_H} {o : pm_out} {Hp : Heap} {locs : List Loc} {ls : Array Slot} {cells slots : Nat}
    (hdg : decode (pm_by k) pc = .ok (.ifCond .ge off, len)) (hln : pm_lnc (pc, .ifCond .ge off, len, a, b, cc) = true) (hok : pm_okI k (pc, .ifCond .ge off, len, a, b, cc) = true) (hs : pm_step (pc, .ifCond .ge off, len, a, b, cc) (lo, st, H) = some o) (hAt : pm_At s k sa base D cs L xs (lo, st, H) Hp locs ls)
    (hct : s.heap.size + cells ≤ base + (H.1.2.2.1 - 8)) (hrm : cells + ((pm_oH o).1.2.2.1 - H.1.2.2.1) ≤ R.cells ∧ slots + ((pm_oH o).1.2.2.2 - H.1.2.2.2) ≤ R.slots)
    (K : pm_K p l e R s m args below meth c Q k sa base D cs L xs (lo, st, H) cells slots (pc + len) o) : W p l e R s m args below meth c Hp locs cells slots Q (F0 m pc ls (st.map (pm_cv (pm_rv sa base)))) := by
  obtain ⟨hx, hb, hml, hown, hts, hKs, hSt, hnm, hbl, hrt, hlk⟩ := id hC
  obtain rfl : len = 3 := Nat.eq_of_beq_eq_true hln
  have ht : (pc : Int) + off = (a : Int) := of_decide_eq_true hok
  cases st with
  | nil => cases hs
  | cons v0 r =>
    cases v0 with
    | int v =>
      obtain rfl := Option.some.inj hs
      refine lv_if_ge hx hb hdg ht (fun h => ?_) (fun h => ?_)
      · have K := pm_Ct.st K hAt
        simpa only [decide_eq_true h, if_true] using K
      · have K := pm_Ct.st K hAt
        simpa only [decide_eq_false h, Bool.false_eq_true, if_false] using K
    | _ => cases hs
theorem pm_S_icmp_ge (hC : pm_Ctx p s m args meth c k sa base D cs L xs) (hsa : pm_rvok sa) (h0 : sa 0 = .null) (hR : 1 ≤ R.frames ∧ 64 ≤ R.locals) {pc len a b : Nat} {cc : Int} {off : Int} {lo st : List Value} {H : pm_H} {o : pm_out} {Hp : Heap} {locs : List Loc} {ls : Array Slot} {cells slots : Nat}
    (hdg : decode (pm_by k) pc = .ok (.if_icmp .ge off, len)) (hln : pm_lnc (pc, .if_icmp .ge off, len, a, b, cc) = true) (hok : pm_okI k (pc, .if_icmp .ge off, len, a, b, cc) = true) (hs : pm_step (pc, .if_icmp .ge off, len, a, b, cc) (lo, st, H) = some o) (hAt : pm_At s k sa base D cs L xs (lo, st, H) Hp locs ls)
    (hct : s.heap.size + cells ≤ base + (H.1.2.2.1 - 8)) (hrm : cells + ((pm_oH o).1.2.2.1 - H.1.2.2.1) ≤ R.cells ∧ slots + ((pm_oH o).1.2.2.2 - H.1.2.2.2) ≤ R.slots)
    (K : pm_K p l e R s m args below meth c Q k sa base D cs L xs (lo, st, H) cells slots (pc + len) o) : W p l e R s m args below meth c Hp locs cells slots Q (F0 m pc ls (st.map (pm_cv (pm_rv sa base)))) := by
  obtain ⟨hx, hb, hml, hown, hts, hKs, hSt, hnm, hbl, hrt, hlk⟩ := id hC
  obtain rfl : len = 3 := Nat.eq_of_beq_eq_true hln
  have ht : (pc : Int) + off = (a : Int) := of_decide_eq_true hok
  cases st with
  | nil => cases hs
  | cons v0 r =>
    cases v0 with
    | int v =>
      cases r with
      | nil => cases hs
      | cons v1 r =>
        cases v1 with
        | int u =>
          obtain rfl := Option.some.inj hs
          refine lv_icmp_ge hx hb hdg ht (fun h => ?_) (fun h => ?_)
          · have K := pm_Ct.st K hAt
            simpa only [decide_eq_true h, if_true] using K
          · have K := pm_Ct.st K hAt
            simpa only [decide_eq_false h, Bool.false_eq_true, if_false] using K
        | _ => cases hs
    | _ => cases hs
theorem pm_S_if_gt (hC : pm_Ctx p s m args meth c k sa base D cs L xs) (hsa : pm_rvok sa) (h0 : sa 0 = .null) (hR : 1 ≤ R.frames ∧ 64 ≤ R.locals) {pc len a b : Nat} {cc : Int} {off : Int} {lo st : List Value} {H : pm_H} {o : pm_out} {Hp : Heap} {locs : List Loc} {ls : Array Slot} {cells slots : Nat}
    (hdg : decode (pm_by k) pc = .ok (.ifCond .gt off, len)) (hln : pm_lnc (pc, .ifCond .gt off, len, a, b, cc) = true) (hok : pm_okI k (pc, .ifCond .gt off, len, a, b, cc) = true) (hs : pm_step (pc, .ifCond .gt off, len, a, b, cc) (lo, st, H) = some o) (hAt : pm_At s k sa base D cs L xs (lo, st, H) Hp locs ls)
    (hct : s.heap.size + cells ≤ base + (H.1.2.2.1 - 8)) (hrm : cells + ((pm_oH o).1.2.2.1 - H.1.2.2.1) ≤ R.cells ∧ slots + ((pm_oH o).1.2.2.2 - H.1.2.2.2) ≤ R.slots)
    (K : pm_K p l e R s m args below meth c Q k sa base D cs L xs (lo, st, H) cells slots (pc + len) o) : W p l e R s m args below meth c Hp locs cells slots Q (F0 m pc ls (st.map (pm_cv (pm_rv sa base)))) := by
  obtain ⟨hx, hb, hml, hown, hts, hKs, hSt, hnm, hbl, hrt, hlk⟩ := id hC
  obtain rfl : len = 3 := Nat.eq_of_beq_eq_true hln
  have ht : (pc : Int) + off = (a : Int) := of_decide_eq_true hok
  cases st with
  | nil => cases hs
  | cons v0 r =>
    cases v0 with
    | int v =>
      obtain rfl := Option.some.inj hs
      refine lv_if_gt hx hb hdg ht (fun h => ?_) (fun h => ?_)
      · have K := pm_Ct.st K hAt
        simpa only [decide_eq_true h, if_true] using K
      · have K := pm_Ct.st K hAt
        simpa only [decide_eq_false h, Bool.false_eq_true, if_false] using K
    | _ => cases hs
theorem pm_S_icmp_gt (hC : pm_Ctx p s m args meth c k sa base D cs L xs) (hsa : pm_rvok sa) (h0 : sa 0 = .null) (hR : 1 ≤ R.frames ∧ 64 ≤ R.locals) {pc len a b : Nat} {cc : Int} {off : Int} {lo st : List Value} {H : pm_H} {o : pm_out} {Hp : Heap} {locs : List Loc} {ls : Array Slot} {cells slots : Nat}
    (hdg : decode (pm_by k) pc = .ok (.if_icmp .gt off, len)) (hln : pm_lnc (pc, .if_icmp .gt off, len, a, b, cc) = true) (hok : pm_okI k (pc, .if_icmp .gt off, len, a, b, cc) = true) (hs : pm_step (pc, .if_icmp .gt off, len, a, b, cc) (lo, st, H) = some o) (hAt : pm_At s k sa base D cs L xs (lo, st, H) Hp locs ls)
    (hct : s.heap.size + cells ≤ base + (H.1.2.2.1 - 8)) (hrm : cells + ((pm_oH o).1.2.2.1 - H.1.2.2.1) ≤ R.cells ∧ slots + ((pm_oH o).1.2.2.2 - H.1.2.2.2) ≤ R.slots)
    (K : pm_K p l e R s m args below meth c Q k sa base D cs L xs (lo, st, H) cells slots (pc + len) o) : W p l e R s m args below meth c Hp locs cells slots Q (F0 m pc ls (st.map (pm_cv (pm_rv sa base)))) := by
  obtain ⟨hx, hb, hml, hown, hts, hKs, hSt, hnm, hbl, hrt, hlk⟩ := id hC
  obtain rfl : len = 3 := Nat.eq_of_beq_eq_true hln
  have ht : (pc : Int) + off = (a : Int) := of_decide_eq_true hok
  cases st with
  | nil => cases hs
  | cons v0 r =>
    cases v0 with
    | int v =>
      cases r with
      | nil => cases hs
      | cons v1 r =>
        cases v1 with
        | int u =>
          obtain rfl := Option.some.inj hs
          refine lv_icmp_gt hx hb hdg ht (fun h => ?_) (fun h => ?_)
          · have K := pm_Ct.st K hAt
            simpa only [decide_eq_true h, if_true] using K
          · have K := pm_Ct.st K hAt
            simpa only [decide_eq_false h, Bool.false_eq_true, if_false] using K
        | _ => cases hs
    | _ => cases hs
theorem pm_S_if_le (hC : pm_Ctx p s m args meth c k sa base D cs L xs) (hsa : pm_rvok sa) (h0 : sa 0 = .null) (hR : 1 ≤ R.frames ∧ 64 ≤ R.locals) {pc len a b : Nat} {cc : Int} {off : Int} {lo st : List Value} {H : pm_H} {o : pm_out} {Hp : Heap} {locs : List Loc} {ls : Array Slot} {cells slots : Nat}
    (hdg : decode (pm_by k) pc = .ok (.ifCond .le off, len)) (hln : pm_lnc (pc, .ifCond .le off, len, a, b, cc) = true) (hok : pm_okI k (pc, .ifCond .le off, len, a, b, cc) = true) (hs : pm_step (pc, .ifCond .le off, len, a, b, cc) (lo, st, H) = some o) (hAt : pm_At s k sa base D cs L xs (lo, st, H) Hp locs ls)
    (hct : s.heap.size + cells ≤ base + (H.1.2.2.1 - 8)) (hrm : cells + ((pm_oH o).1.2.2.1 - H.1.2.2.1) ≤ R.cells ∧ slots + ((pm_oH o).1.2.2.2 - H.1.2.2.2) ≤ R.slots)
    (K : pm_K p l e R s m args below meth c Q k sa base D cs L xs (lo, st, H) cells slots (pc + len) o) : W p l e R s m args below meth c Hp locs cells slots Q (F0 m pc ls (st.map (pm_cv (pm_rv sa base)))) := by
  obtain ⟨hx, hb, hml, hown, hts, hKs, hSt, hnm, hbl, hrt, hlk⟩ := id hC
  obtain rfl : len = 3 := Nat.eq_of_beq_eq_true hln
  have ht : (pc : Int) + off = (a : Int) := of_decide_eq_true hok
  cases st with
  | nil => cases hs
  | cons v0 r =>
    cases v0 with
    | int v =>
      obtain rfl := Option.some.inj hs
      refine lv_if_le hx hb hdg ht (fun h => ?_) (fun h => ?_)
      · have K := pm_Ct.st K hAt
        simpa only [decide_eq_true h, if_true] using K
      · have K := pm_Ct.st K hAt
        simpa only [decide_eq_false h, Bool.false_eq_true, if_false] using K
    | _ => cases hs
theorem pm_S_icmp_le (hC : pm_Ctx p s m args meth c k sa base D cs L xs) (hsa : pm_rvok sa) (h0 : sa 0 = .null) (hR : 1 ≤ R.frames ∧ 64 ≤ R.locals) {pc len a b : Nat} {cc : Int} {off : Int} {lo st : List Value} {H : pm_H} {o : pm_out} {Hp : Heap} {locs : List Loc} {ls : Array Slot} {cells slots : Nat}
    (hdg : decode (pm_by k) pc = .ok (.if_icmp .le off, len)) (hln : pm_lnc (pc, .if_icmp .le off, len, a, b, cc) = true) (hok : pm_okI k (pc, .if_icmp .le off, len, a, b, cc) = true) (hs : pm_step (pc, .if_icmp .le off, len, a, b, cc) (lo, st, H) = some o) (hAt : pm_At s k sa base D cs L xs (lo, st, H) Hp locs ls)
    (hct : s.heap.size + cells ≤ base + (H.1.2.2.1 - 8)) (hrm : cells + ((pm_oH o).1.2.2.1 - H.1.2.2.1) ≤ R.cells ∧ slots + ((pm_oH o).1.2.2.2 - H.1.2.2.2) ≤ R.slots)
    (K : pm_K p l e R s m args below meth c Q k sa base D cs L xs (lo, st, H) cells slots (pc + len) o) : W p l e R s m args below meth c Hp locs cells slots Q (F0 m pc ls (st.map (pm_cv (pm_rv sa base)))) := by
  obtain ⟨hx, hb, hml, hown, hts, hKs, hSt, hnm, hbl, hrt, hlk⟩ := id hC
  obtain rfl : len = 3 := Nat.eq_of_beq_eq_true hln
  have ht : (pc : Int) + off = (a : Int) := of_decide_eq_true hok
  cases st with
  | nil => cases hs
  | cons v0 r =>
    cases v0 with
    | int v =>
      cases r with
      | nil => cases hs
      | cons v1 r =>
        cases v1 with
        | int u =>
          obtain rfl := Option.some.inj hs
          refine lv_icmp_le hx hb hdg ht (fun h => ?_) (fun h => ?_)
          · have K := pm_Ct.st K hAt
            simpa only [decide_eq_true h, if_true] using K
          · have K := pm_Ct.st K hAt
            simpa only [decide_eq_false h, Bool.false_eq_true, if_false] using K
        | _ => cases hs
    | _ => cases hs
theorem pm_S_goto (hC : pm_Ctx p s m args meth c k sa base D cs L xs) (hsa : pm_rvok sa) (h0 : sa 0 = .null) (hR : 1 ≤ R.frames ∧ 64 ≤ R.locals) {pc len a b : Nat} {cc : Int} {off : Int} {lo st : List Value} {H : pm_H} {o : pm_out} {Hp : Heap} {locs : List Loc} {ls : Array Slot} {cells slots : Nat}
    (hdg : decode (pm_by k) pc = .ok (.goto off, len)) (hln : pm_lnc (pc, .goto off, len, a, b, cc) = true) (hok : pm_okI k (pc, .goto off, len, a, b, cc) = true) (hs : pm_step (pc, .goto off, len, a, b, cc) (lo, st, H) = some o) (hAt : pm_At s k sa base D cs L xs (lo, st, H) Hp locs ls)
    (hct : s.heap.size + cells ≤ base + (H.1.2.2.1 - 8)) (hrm : cells + ((pm_oH o).1.2.2.1 - H.1.2.2.1) ≤ R.cells ∧ slots + ((pm_oH o).1.2.2.2 - H.1.2.2.2) ≤ R.slots)
    (K : pm_K p l e R s m args below meth c Q k sa base D cs L xs (lo, st, H) cells slots (pc + len) o) : W p l e R s m args below meth c Hp locs cells slots Q (F0 m pc ls (st.map (pm_cv (pm_rv sa base)))) := by
  obtain ⟨hx, hb, hml, hown, hts, hKs, hSt, hnm, hbl, hrt, hlk⟩ := id hC
  obtain rfl : len = 3 := Nat.eq_of_beq_eq_true hln
  have ht : (pc : Int) + off = (a : Int) := of_decide_eq_true hok
  obtain rfl := Option.some.inj hs
  exact lv_goto hx hb hdg ht (pm_Ct.st K hAt)
theorem pm_S_ifnonnull (hC : pm_Ctx p s m args meth c k sa base D cs L xs) (hsa : pm_rvok sa) (h0 : sa 0 = .null) (hR : 1 ≤ R.frames ∧ 64 ≤ R.locals) {pc len a b : Nat} {cc : Int} {off : Int} {lo st : List Value} {H : pm_H} {o : pm_out} {Hp : Heap} {locs : List Loc} {ls : Array Slot} {cells slots : Nat}
    (hdg : decode (pm_by k) pc = .ok (.ifnonnull off, len)) (hln : pm_lnc (pc, .ifnonnull off, len, a, b, cc) = true) (hok : pm_okI k (pc, .ifnonnull off, len, a, b, cc) = true) (hs : pm_step (pc, .ifnonnull off, len, a, b, cc) (lo, st, H) = some o) (hAt : pm_At s k sa base D cs L xs (lo, st, H) Hp locs ls)
    (hct : s.heap.size + cells ≤ base + (H.1.2.2.1 - 8)) (hrm : cells + ((pm_oH o).1.2.2.1 - H.1.2.2.1) ≤ R.cells ∧ slots + ((pm_oH o).1.2.2.2 - H.1.2.2.2) ≤ R.slots)
    (K : pm_K p l e R s m args below meth c Q k sa base D cs L xs (lo, st, H) cells slots (pc + len) o) : W p l e R s m args below meth c Hp locs cells slots Q (F0 m pc ls (st.map (pm_cv (pm_rv sa base)))) := by
  obtain ⟨hx, hb, hml, hown, hts, hKs, hSt, hnm, hbl, hrt, hlk⟩ := id hC
  obtain rfl : len = 3 := Nat.eq_of_beq_eq_true hln
  have ht : (pc : Int) + off = (a : Int) := of_decide_eq_true hok
  cases st with
  | nil => cases hs
  | cons v0 r =>
    cases v0 with
    | ref v =>
      simp only [pm_step] at hs
      split at hs
      next hv =>
        obtain rfl := Option.some.inj hs
        have K := pm_Ct.st K hAt
        rw [List.map_cons, pm_cvr]
        by_cases hv0 : v = 0
        · subst hv0
          rw [pm_rv_lo (by decide), h0]
          refine lv_ifnonnullN hx hb hdg ?_
          simpa using K
        · have hr : pm_okr v = true := by
            simp only [Bool.or_eq_true] at hv
            rcases hv with hv | hv
            · exact absurd (Nat.eq_of_beq_eq_true hv) hv0
            · exact hv
          obtain ⟨t, htt⟩ := pm_okr_ref (base := base) hSt hr
          rw [htt]
          refine lv_ifnonnull hx hb hdg ht ?_
          simpa [hv0] using K
      next => cases hs
    | _ => cases hs
theorem pm_S_ifnull (hC : pm_Ctx p s m args meth c k sa base D cs L xs) (hsa : pm_rvok sa) (h0 : sa 0 = .null) (hR : 1 ≤ R.frames ∧ 64 ≤ R.locals) {pc len a b : Nat} {cc : Int} {off : Int} {lo st : List Value} {H : pm_H} {o : pm_out} {Hp : Heap} {locs : List Loc} {ls : Array Slot} {cells slots : Nat}
    (hdg : decode (pm_by k) pc = .ok (.ifnull off, len)) (hln : pm_lnc (pc, .ifnull off, len, a, b, cc) = true) (hok : pm_okI k (pc, .ifnull off, len, a, b, cc) = true) (hs : pm_step (pc, .ifnull off, len, a, b, cc) (lo, st, H) = some o) (hAt : pm_At s k sa base D cs L xs (lo, st, H) Hp locs ls)
    (hct : s.heap.size + cells ≤ base + (H.1.2.2.1 - 8)) (hrm : cells + ((pm_oH o).1.2.2.1 - H.1.2.2.1) ≤ R.cells ∧ slots + ((pm_oH o).1.2.2.2 - H.1.2.2.2) ≤ R.slots)
    (K : pm_K p l e R s m args below meth c Q k sa base D cs L xs (lo, st, H) cells slots (pc + len) o) : W p l e R s m args below meth c Hp locs cells slots Q (F0 m pc ls (st.map (pm_cv (pm_rv sa base)))) := by
  obtain ⟨hx, hb, hml, hown, hts, hKs, hSt, hnm, hbl, hrt, hlk⟩ := id hC
  obtain rfl : len = 3 := Nat.eq_of_beq_eq_true hln
  have ht : (pc : Int) + off = (a : Int) := of_decide_eq_true hok
  cases st with
  | nil => cases hs
  | cons v0 r =>
    cases v0 with
    | ref v =>
      simp only [pm_step] at hs
      split at hs
      next hv =>
        obtain rfl := Option.some.inj hs
        have K := pm_Ct.st K hAt
        rw [List.map_cons, pm_cvr]
        by_cases hv0 : v = 0
        · subst hv0
          rw [pm_rv_lo (by decide), h0]
          refine lv_ifnullN hx hb hdg ht ?_
          simpa using K
        · have hr : pm_okr v = true := by
            simp only [Bool.or_eq_true] at hv
            rcases hv with hv | hv
            · exact absurd (Nat.eq_of_beq_eq_true hv) hv0
            · exact hv
          obtain ⟨t, htt⟩ := pm_okr_ref (base := base) hSt hr
          rw [htt]
          refine lv_ifnull hx hb hdg ?_
          simpa [hv0] using K
      next => cases hs
    | _ => cases hs
theorem pm_S_lcmp (hC : pm_Ctx p s m args meth c k sa base D cs L xs) (hsa : pm_rvok sa) (h0 : sa 0 = .null) (hR : 1 ≤ R.frames ∧ 64 ≤ R.locals) {pc len a b : Nat} {cc : Int}  {lo st : List Value} {H : pm_H} {o : pm_out} {Hp : Heap} {locs : List Loc} {ls : Array Slot} {cells slots : Nat}
    (hdg : decode (pm_by k) pc = .ok (.lcmp, len)) (hln : pm_lnc (pc, .lcmp, len, a, b, cc) = true) (hok : pm_okI k (pc, .lcmp, len, a, b, cc) = true) (hs : pm_step (pc, .lcmp, len, a, b, cc) (lo, st, H) = some o) (hAt : pm_At s k sa base D cs L xs (lo, st, H) Hp locs ls)
    (hct : s.heap.size + cells ≤ base + (H.1.2.2.1 - 8)) (hrm : cells + ((pm_oH o).1.2.2.1 - H.1.2.2.1) ≤ R.cells ∧ slots + ((pm_oH o).1.2.2.2 - H.1.2.2.2) ≤ R.slots)
    (K : pm_K p l e R s m args below meth c Q k sa base D cs L xs (lo, st, H) cells slots (pc + len) o) : W p l e R s m args below meth c Hp locs cells slots Q (F0 m pc ls (st.map (pm_cv (pm_rv sa base)))) := by
  obtain ⟨hx, hb, hml, hown, hts, hKs, hSt, hnm, hbl, hrt, hlk⟩ := id hC
  obtain rfl : len = 1 := Nat.eq_of_beq_eq_true hln
  cases st with
  | nil => cases hs
  | cons w0 r0 =>
    cases w0 with
    | long v0 =>
      cases r0 with
      | nil => cases hs
      | cons w1 r1 =>
        cases w1 with
        | long v1 =>
          obtain rfl := Option.some.inj hs
          exact W.lcmp hx hb hdg (pm_Ct.st K hAt)
        | _ => cases hs
    | _ => cases hs
theorem pm_S_i2l (hC : pm_Ctx p s m args meth c k sa base D cs L xs) (hsa : pm_rvok sa) (h0 : sa 0 = .null) (hR : 1 ≤ R.frames ∧ 64 ≤ R.locals) {pc len a b : Nat} {cc : Int}  {lo st : List Value} {H : pm_H} {o : pm_out} {Hp : Heap} {locs : List Loc} {ls : Array Slot} {cells slots : Nat}
    (hdg : decode (pm_by k) pc = .ok (.i2l, len)) (hln : pm_lnc (pc, .i2l, len, a, b, cc) = true) (hok : pm_okI k (pc, .i2l, len, a, b, cc) = true) (hs : pm_step (pc, .i2l, len, a, b, cc) (lo, st, H) = some o) (hAt : pm_At s k sa base D cs L xs (lo, st, H) Hp locs ls)
    (hct : s.heap.size + cells ≤ base + (H.1.2.2.1 - 8)) (hrm : cells + ((pm_oH o).1.2.2.1 - H.1.2.2.1) ≤ R.cells ∧ slots + ((pm_oH o).1.2.2.2 - H.1.2.2.2) ≤ R.slots)
    (K : pm_K p l e R s m args below meth c Q k sa base D cs L xs (lo, st, H) cells slots (pc + len) o) : W p l e R s m args below meth c Hp locs cells slots Q (F0 m pc ls (st.map (pm_cv (pm_rv sa base)))) := by
  obtain ⟨hx, hb, hml, hown, hts, hKs, hSt, hnm, hbl, hrt, hlk⟩ := id hC
  obtain rfl : len = 1 := Nat.eq_of_beq_eq_true hln
  cases st with
  | nil => cases hs
  | cons w0 r0 =>
    cases w0 with
    | int v0 =>
      obtain rfl := Option.some.inj hs
      exact lv_i2l hx hb hdg rfl (pm_Ct.st K hAt)
    | _ => cases hs
theorem pm_S_l2i (hC : pm_Ctx p s m args meth c k sa base D cs L xs) (hsa : pm_rvok sa) (h0 : sa 0 = .null) (hR : 1 ≤ R.frames ∧ 64 ≤ R.locals) {pc len a b : Nat} {cc : Int}  {lo st : List Value} {H : pm_H} {o : pm_out} {Hp : Heap} {locs : List Loc} {ls : Array Slot} {cells slots : Nat}
    (hdg : decode (pm_by k) pc = .ok (.l2i, len)) (hln : pm_lnc (pc, .l2i, len, a, b, cc) = true) (hok : pm_okI k (pc, .l2i, len, a, b, cc) = true) (hs : pm_step (pc, .l2i, len, a, b, cc) (lo, st, H) = some o) (hAt : pm_At s k sa base D cs L xs (lo, st, H) Hp locs ls)
    (hct : s.heap.size + cells ≤ base + (H.1.2.2.1 - 8)) (hrm : cells + ((pm_oH o).1.2.2.1 - H.1.2.2.1) ≤ R.cells ∧ slots + ((pm_oH o).1.2.2.2 - H.1.2.2.2) ≤ R.slots)
    (K : pm_K p l e R s m args below meth c Q k sa base D cs L xs (lo, st, H) cells slots (pc + len) o) : W p l e R s m args below meth c Hp locs cells slots Q (F0 m pc ls (st.map (pm_cv (pm_rv sa base)))) := by
  obtain ⟨hx, hb, hml, hown, hts, hKs, hSt, hnm, hbl, hrt, hlk⟩ := id hC
  obtain rfl : len = 1 := Nat.eq_of_beq_eq_true hln
  cases st with
  | nil => cases hs
  | cons w0 r0 =>
    cases w0 with
    | long v0 =>
      obtain rfl := Option.some.inj hs
      exact lv_l2i hx hb hdg rfl (pm_Ct.st K hAt)
    | _ => cases hs
theorem pm_S_idiv (hC : pm_Ctx p s m args meth c k sa base D cs L xs) (hsa : pm_rvok sa) (h0 : sa 0 = .null) (hR : 1 ≤ R.frames ∧ 64 ≤ R.locals) {pc len a b : Nat} {cc : Int}  {lo st : List Value} {H : pm_H} {o : pm_out} {Hp : Heap} {locs : List Loc} {ls : Array Slot} {cells slots : Nat}
    (hdg : decode (pm_by k) pc = .ok (.idiv, len)) (hln : pm_lnc (pc, .idiv, len, a, b, cc) = true) (hok : pm_okI k (pc, .idiv, len, a, b, cc) = true) (hs : pm_step (pc, .idiv, len, a, b, cc) (lo, st, H) = some o) (hAt : pm_At s k sa base D cs L xs (lo, st, H) Hp locs ls)
    (hct : s.heap.size + cells ≤ base + (H.1.2.2.1 - 8)) (hrm : cells + ((pm_oH o).1.2.2.1 - H.1.2.2.1) ≤ R.cells ∧ slots + ((pm_oH o).1.2.2.2 - H.1.2.2.2) ≤ R.slots)
    (K : pm_K p l e R s m args below meth c Q k sa base D cs L xs (lo, st, H) cells slots (pc + len) o) : W p l e R s m args below meth c Hp locs cells slots Q (F0 m pc ls (st.map (pm_cv (pm_rv sa base)))) := by
  obtain ⟨hx, hb, hml, hown, hts, hKs, hSt, hnm, hbl, hrt, hlk⟩ := id hC
  obtain rfl : len = 1 := Nat.eq_of_beq_eq_true hln
  cases st with
  | nil => cases hs
  | cons w0 r0 =>
    cases w0 with
    | int v0 =>
      cases r0 with
      | nil => cases hs
      | cons w1 r1 =>
        cases w1 with
        | int v1 =>
          obtain rfl := Option.some.inj hs
          exact lv_idiv hx hb hdg (of_decide_eq_true K.1) (pm_Ct.st K.2 hAt)
        | _ => cases hs
    | _ => cases hs
theorem pm_S_irem (hC : pm_Ctx p s m args meth c k sa base D cs L xs) (hsa : pm_rvok sa) (h0 : sa 0 = .null) (hR : 1 ≤ R.frames ∧ 64 ≤ R.locals) {pc len a b : Nat} {cc : Int}  {lo st : List Value} {H : pm_H} {o : pm_out} {Hp : Heap} {locs : List Loc} {ls : Array Slot} {cells slots : Nat}
    (hdg : decode (pm_by k) pc = .ok (.irem, len)) (hln : pm_lnc (pc, .irem, len, a, b, cc) = true) (hok : pm_okI k (pc, .irem, len, a, b, cc) = true) (hs : pm_step (pc, .irem, len, a, b, cc) (lo, st, H) = some o) (hAt : pm_At s k sa base D cs L xs (lo, st, H) Hp locs ls)
    (hct : s.heap.size + cells ≤ base + (H.1.2.2.1 - 8)) (hrm : cells + ((pm_oH o).1.2.2.1 - H.1.2.2.1) ≤ R.cells ∧ slots + ((pm_oH o).1.2.2.2 - H.1.2.2.2) ≤ R.slots)
    (K : pm_K p l e R s m args below meth c Q k sa base D cs L xs (lo, st, H) cells slots (pc + len) o) : W p l e R s m args below meth c Hp locs cells slots Q (F0 m pc ls (st.map (pm_cv (pm_rv sa base)))) := by
  obtain ⟨hx, hb, hml, hown, hts, hKs, hSt, hnm, hbl, hrt, hlk⟩ := id hC
  obtain rfl : len = 1 := Nat.eq_of_beq_eq_true hln
  cases st with
  | nil => cases hs
  | cons w0 r0 =>
    cases w0 with
    | int v0 =>
      cases r0 with
      | nil => cases hs
      | cons w1 r1 =>
        cases w1 with
        | int v1 =>
          obtain rfl := Option.some.inj hs
          exact lv_irem hx hb hdg (of_decide_eq_true K.1) (pm_Ct.st K.2 hAt)
        | _ => cases hs
    | _ => cases hs
theorem pm_S_pop (hC : pm_Ctx p s m args meth c k sa base D cs L xs) (hsa : pm_rvok sa) (h0 : sa 0 = .null) (hR : 1 ≤ R.frames ∧ 64 ≤ R.locals) {pc len a b : Nat} {cc : Int}  {lo st : List Value} {H : pm_H} {o : pm_out} {Hp : Heap} {locs : List Loc} {ls : Array Slot} {cells slots : Nat}
    (hdg : decode (pm_by k) pc = .ok (.pop, len)) (hln : pm_lnc (pc, .pop, len, a, b, cc) = true) (hok : pm_okI k (pc, .pop, len, a, b, cc) = true) (hs : pm_step (pc, .pop, len, a, b, cc) (lo, st, H) = some o) (hAt : pm_At s k sa base D cs L xs (lo, st, H) Hp locs ls)
    (hct : s.heap.size + cells ≤ base + (H.1.2.2.1 - 8)) (hrm : cells + ((pm_oH o).1.2.2.1 - H.1.2.2.1) ≤ R.cells ∧ slots + ((pm_oH o).1.2.2.2 - H.1.2.2.2) ≤ R.slots)
    (K : pm_K p l e R s m args below meth c Q k sa base D cs L xs (lo, st, H) cells slots (pc + len) o) : W p l e R s m args below meth c Hp locs cells slots Q (F0 m pc ls (st.map (pm_cv (pm_rv sa base)))) := by
  obtain ⟨hx, hb, hml, hown, hts, hKs, hSt, hnm, hbl, hrt, hlk⟩ := id hC
  obtain rfl : len = 1 := Nat.eq_of_beq_eq_true hln
  cases st with
  | nil => cases hs
  | cons w0 r0 =>
    simp only [pm_step] at hs
    split at hs
    next hv =>
      obtain rfl := Option.some.inj hs
      exact lv_pop hx hb hdg (by rw [pm_cv_cat hsa]; exact Nat.eq_of_beq_eq_true hv) (pm_Ct.st K hAt)
    next => cases hs
theorem pm_S_dup (hC : pm_Ctx p s m args meth c k sa base D cs L xs) (hsa : pm_rvok sa) (h0 : sa 0 = .null) (hR : 1 ≤ R.frames ∧ 64 ≤ R.locals) {pc len a b : Nat} {cc : Int}  {lo st : List Value} {H : pm_H} {o : pm_out} {Hp : Heap} {locs : List Loc} {ls : Array Slot} {cells slots : Nat}
    (hdg : decode (pm_by k) pc = .ok (.dup, len)) (hln : pm_lnc (pc, .dup, len, a, b, cc) = true) (hok : pm_okI k (pc, .dup, len, a, b, cc) = true) (hs : pm_step (pc, .dup, len, a, b, cc) (lo, st, H) = some o) (hAt : pm_At s k sa base D cs L xs (lo, st, H) Hp locs ls)
    (hct : s.heap.size + cells ≤ base + (H.1.2.2.1 - 8)) (hrm : cells + ((pm_oH o).1.2.2.1 - H.1.2.2.1) ≤ R.cells ∧ slots + ((pm_oH o).1.2.2.2 - H.1.2.2.2) ≤ R.slots)
    (K : pm_K p l e R s m args below meth c Q k sa base D cs L xs (lo, st, H) cells slots (pc + len) o) : W p l e R s m args below meth c Hp locs cells slots Q (F0 m pc ls (st.map (pm_cv (pm_rv sa base)))) := by
  obtain ⟨hx, hb, hml, hown, hts, hKs, hSt, hnm, hbl, hrt, hlk⟩ := id hC
  obtain rfl : len = 1 := Nat.eq_of_beq_eq_true hln
  cases st with
  | nil => cases hs
  | cons w0 r0 =>
    simp only [pm_step] at hs
    split at hs
    next hv =>
      obtain rfl := Option.some.inj hs
      exact lv_dup hx hb hdg (by rw [pm_cv_cat hsa]; exact Nat.eq_of_beq_eq_true hv) (pm_Ct.st K hAt)
    next => cases hs
theorem pm_S_dup2 (hC : pm_Ctx p s m args meth c k sa base D cs L xs) (hsa : pm_rvok sa) (h0 : sa 0 = .null) (hR : 1 ≤ R.frames ∧ 64 ≤ R.locals) {pc len a b : Nat} {cc : Int}  {lo st : List Value} {H : pm_H} {o : pm_out} {Hp : Heap} {locs : List Loc} {ls : Array Slot} {cells slots : Nat}
    (hdg : decode (pm_by k) pc = .ok (.dup2, len)) (hln : pm_lnc (pc, .dup2, len, a, b, cc) = true) (hok : pm_okI k (pc, .dup2, len, a, b, cc) = true) (hs : pm_step (pc, .dup2, len, a, b, cc) (lo, st, H) = some o) (hAt : pm_At s k sa base D cs L xs (lo, st, H) Hp locs ls)
    (hct : s.heap.size + cells ≤ base + (H.1.2.2.1 - 8)) (hrm : cells + ((pm_oH o).1.2.2.1 - H.1.2.2.1) ≤ R.cells ∧ slots + ((pm_oH o).1.2.2.2 - H.1.2.2.2) ≤ R.slots)
    (K : pm_K p l e R s m args below meth c Q k sa base D cs L xs (lo, st, H) cells slots (pc + len) o) : W p l e R s m args below meth c Hp locs cells slots Q (F0 m pc ls (st.map (pm_cv (pm_rv sa base)))) := by
  obtain ⟨hx, hb, hml, hown, hts, hKs, hSt, hnm, hbl, hrt, hlk⟩ := id hC
  obtain rfl : len = 1 := Nat.eq_of_beq_eq_true hln
  cases st with
  | nil => cases hs
  | cons w0 r0 =>
    cases r0 with
    | nil => cases hs
    | cons w1 r1 =>
      simp only [pm_step] at hs
      split at hs
      next hv =>
        obtain rfl := Option.some.inj hs
        simp only [Bool.and_eq_true] at hv
        exact lv_dup2_11 hx hb hdg (by rw [pm_cv_cat hsa]; exact Nat.eq_of_beq_eq_true hv.1) (by rw [pm_cv_cat hsa]; exact Nat.eq_of_beq_eq_true hv.2) (pm_Ct.st K hAt)
      next => cases hs
theorem pm_S_iinc (hC : pm_Ctx p s m args meth c k sa base D cs L xs) (hsa : pm_rvok sa) (h0 : sa 0 = .null) (hR : 1 ≤ R.frames ∧ 64 ≤ R.locals) {pc len a b : Nat} {cc : Int} {i : Nat} {n : Int} {lo st : List Value} {H : pm_H} {o : pm_out} {Hp : Heap} {locs : List Loc} {ls : Array Slot} {cells slots : Nat}
    (hdg : decode (pm_by k) pc = .ok (.iinc i n, len)) (hln : pm_lnc (pc, .iinc i n, len, a, b, cc) = true) (hok : pm_okI k (pc, .iinc i n, len, a, b, cc) = true) (hs : pm_step (pc, .iinc i n, len, a, b, cc) (lo, st, H) = some o) (hAt : pm_At s k sa base D cs L xs (lo, st, H) Hp locs ls)
    (hct : s.heap.size + cells ≤ base + (H.1.2.2.1 - 8)) (hrm : cells + ((pm_oH o).1.2.2.1 - H.1.2.2.1) ≤ R.cells ∧ slots + ((pm_oH o).1.2.2.2 - H.1.2.2.2) ≤ R.slots)
    (K : pm_K p l e R s m args below meth c Q k sa base D cs L xs (lo, st, H) cells slots (pc + len) o) : W p l e R s m args below meth c Hp locs cells slots Q (F0 m pc ls (st.map (pm_cv (pm_rv sa base)))) := by
  obtain ⟨hx, hb, hml, hown, hts, hKs, hSt, hnm, hbl, hrt, hlk⟩ := id hC
  obtain rfl : len = 3 := Nat.eq_of_beq_eq_true hln
  simp only [pm_step] at hs
  split at hs
  next v hv =>
    split at hs
    next hi =>
      obtain rfl := Option.some.inj hs
      obtain ⟨j, hj⟩ := List.getElem?_of_mem (pm_ll_mem.mpr ⟨i, .int v, hv, rfl, rfl⟩ : (0 + i, pm_cv (pm_rv sa base) (.int v)) ∈ pm_ll (pm_rv sa base) 0 lo)
      rw [Nat.zero_add] at hj
      refine lv_iinc (k := j) hx hb hdg hAt.1 hj rfl (by rw [← hAt.2.1]; exact hi) rfl (fun ls' hl' => ?_)
      exact pm_Ct.ls K hAt (pm_set1_has hsa (v := .int (v + Int32.ofInt n)) hl') (pm_set1_len _ _ _)
    next => cases hs
  next => cases hs
theorem pm_S_ldc (hC : pm_Ctx p s m args meth c k sa base D cs L xs) (hsa : pm_rvok sa) (h0 : sa 0 = .null) (hR : 1 ≤ R.frames ∧ 64 ≤ R.locals) {pc len a b : Nat} {cc : Int} {i : Nat} {lo st : List Value} {H : pm_H} {o : pm_out} {Hp : Heap} {locs : List Loc} {ls : Array Slot} {cells slots : Nat}
    (hdg : decode (pm_by k) pc = .ok (.ldc i, len)) (hln : pm_lnc (pc, .ldc i, len, a, b, cc) = true) (hok : pm_okI k (pc, .ldc i, len, a, b, cc) = true) (hs : pm_step (pc, .ldc i, len, a, b, cc) (lo, st, H) = some o) (hAt : pm_At s k sa base D cs L xs (lo, st, H) Hp locs ls)
    (hct : s.heap.size + cells ≤ base + (H.1.2.2.1 - 8)) (hrm : cells + ((pm_oH o).1.2.2.1 - H.1.2.2.1) ≤ R.cells ∧ slots + ((pm_oH o).1.2.2.2 - H.1.2.2.2) ≤ R.slots)
    (K : pm_K p l e R s m args below meth c Q k sa base D cs L xs (lo, st, H) cells slots (pc + len) o) : W p l e R s m args below meth c Hp locs cells slots Q (F0 m pc ls (st.map (pm_cv (pm_rv sa base)))) := by
  obtain ⟨hx, hb, hml, hown, hts, hKs, hSt, hnm, hbl, hrt, hlk⟩ := id hC
  obtain rfl : len = 2 := Nat.eq_of_beq_eq_true hln
  simp only [pm_step] at hs
  split at hs
  next hbb =>
    obtain rfl := Option.some.inj hs
    have hb1 := Nat.eq_of_beq_eq_true hbb
    subst hb1
    simp only [pm_okI, Bool.or_eq_true, Bool.and_eq_true, Bool.not_eq_true'] at hok
    rcases hok with hok | hok
    · obtain ⟨⟨⟨-, h1⟩, h2⟩, h3⟩ := hok
      obtain rfl := Nat.eq_of_beq_eq_true h1
      have h2 := Nat.eq_of_beq_eq_true h2
      obtain rfl := Nat.eq_of_beq_eq_true h3
      obtain ⟨q, v, g1, g2, g3, g4, g5, g6, g7⟩ := hSt.2.1
      have K := pm_Ct.st K hAt
      rw [List.map_cons, pm_cvr, pm_rv_lo (by decide), g1] at K
      rw [h2] at hown
      exact va_ldcS hx hb hown g7 hdg K
    · exact absurd hok.1 (by decide)
  next hbb =>
    obtain rfl := Option.some.inj hs
    simp only [pm_okI, Bool.or_eq_true, Bool.and_eq_true, Bool.not_eq_true'] at hok
    rcases hok with hok | hok
    · exact absurd hok.1.1.1 hbb
    · obtain ⟨u, hu, h2⟩ := List.any_eq_true.mp hok.2
      simp only [Bool.and_eq_true, decide_eq_true_eq] at h2
      have hw := pm_uK_ok u hu
      obtain ⟨u1, u2, u3, u4⟩ := u
      simp only [pm_wK] at hw h2
      obtain rfl := Nat.eq_of_beq_eq_true h2.1.1
      obtain rfl := Nat.eq_of_beq_eq_true h2.1.2
      obtain rfl := h2.2
      exact lv_ldc hx hb hown (hts _ (pm_gwi hw rfl)) hdg (pm_Ct.st K hAt)
theorem pm_S_ldc_w (hC : pm_Ctx p s m args meth c k sa base D cs L xs) (hsa : pm_rvok sa) (h0 : sa 0 = .null) (hR : 1 ≤ R.frames ∧ 64 ≤ R.locals) {pc len a b : Nat} {cc : Int} {i : Nat} {lo st : List Value} {H : pm_H} {o : pm_out} {Hp : Heap} {locs : List Loc} {ls : Array Slot} {cells slots : Nat}
    (hdg : decode (pm_by k) pc = .ok (.ldc_w i, len)) (hln : pm_lnc (pc, .ldc_w i, len, a, b, cc) = true) (hok : pm_okI k (pc, .ldc_w i, len, a, b, cc) = true) (hs : pm_step (pc, .ldc_w i, len, a, b, cc) (lo, st, H) = some o) (hAt : pm_At s k sa base D cs L xs (lo, st, H) Hp locs ls)
    (hct : s.heap.size + cells ≤ base + (H.1.2.2.1 - 8)) (hrm : cells + ((pm_oH o).1.2.2.1 - H.1.2.2.1) ≤ R.cells ∧ slots + ((pm_oH o).1.2.2.2 - H.1.2.2.2) ≤ R.slots)
    (K : pm_K p l e R s m args below meth c Q k sa base D cs L xs (lo, st, H) cells slots (pc + len) o) : W p l e R s m args below meth c Hp locs cells slots Q (F0 m pc ls (st.map (pm_cv (pm_rv sa base)))) := by
  obtain ⟨hx, hb, hml, hown, hts, hKs, hSt, hnm, hbl, hrt, hlk⟩ := id hC
  obtain rfl : len = 3 := Nat.eq_of_beq_eq_true hln
  obtain rfl := Option.some.inj hs
  obtain ⟨u, hu, h2⟩ := List.any_eq_true.mp (show pm_lkK pm_uK (pm_ow k) i cc = true from hok)
  simp only [Bool.and_eq_true, decide_eq_true_eq] at h2
  have hw := pm_uK_ok u hu
  obtain ⟨u1, u2, u3, u4⟩ := u
  simp only [pm_wK] at hw h2
  obtain rfl := Nat.eq_of_beq_eq_true h2.1.1
  obtain rfl := Nat.eq_of_beq_eq_true h2.1.2
  obtain rfl := h2.2
  exact lv_ldcw hx hb hown (hts _ (pm_gwi hw rfl)) hdg (pm_Ct.st K hAt)
theorem pm_S_ldc2_w (hC : pm_Ctx p s m args meth c k sa base D cs L xs) (hsa : pm_rvok sa) (h0 : sa 0 = .null) (hR : 1 ≤ R.frames ∧ 64 ≤ R.locals) {pc len a b : Nat} {cc : Int} {i : Nat} {lo st : List Value} {H : pm_H} {o : pm_out} {Hp : Heap} {locs : List Loc} {ls : Array Slot} {cells slots : Nat}
    (hdg : decode (pm_by k) pc = .ok (.ldc2_w i, len)) (hln : pm_lnc (pc, .ldc2_w i, len, a, b, cc) = true) (hok : pm_okI k (pc, .ldc2_w i, len, a, b, cc) = true) (hs : pm_step (pc, .ldc2_w i, len, a, b, cc) (lo, st, H) = some o) (hAt : pm_At s k sa base D cs L xs (lo, st, H) Hp locs ls)
    (hct : s.heap.size + cells ≤ base + (H.1.2.2.1 - 8)) (hrm : cells + ((pm_oH o).1.2.2.1 - H.1.2.2.1) ≤ R.cells ∧ slots + ((pm_oH o).1.2.2.2 - H.1.2.2.2) ≤ R.slots)
    (K : pm_K p l e R s m args below meth c Q k sa base D cs L xs (lo, st, H) cells slots (pc + len) o) : W p l e R s m args below meth c Hp locs cells slots Q (F0 m pc ls (st.map (pm_cv (pm_rv sa base)))) := by
  obtain ⟨hx, hb, hml, hown, hts, hKs, hSt, hnm, hbl, hrt, hlk⟩ := id hC
  obtain rfl : len = 3 := Nat.eq_of_beq_eq_true hln
  obtain rfl := Option.some.inj hs
  obtain ⟨u, hu, h2⟩ := List.any_eq_true.mp (show pm_lkK pm_uL (pm_ow k) i cc = true from hok)
  simp only [Bool.and_eq_true, decide_eq_true_eq] at h2
  have hw := pm_uL_ok u hu
  obtain ⟨u1, u2, u3, u4⟩ := u
  simp only [pm_wL] at hw h2
  obtain rfl := Nat.eq_of_beq_eq_true h2.1.1
  obtain rfl := Nat.eq_of_beq_eq_true h2.1.2
  obtain rfl := h2.2
  exact lv_ldc2 hx hb hown (hts _ (pm_gwi hw rfl)) hdg (pm_Ct.st K hAt)
end PMX
