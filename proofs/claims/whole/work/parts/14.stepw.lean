/-! EACH STEP, over the claim's machine. -/
section PMT
variable {p : Program} {l : Launch} {e : Env} {R : Room} {s : State} {m : MethodId} {args : Array Value} {below : List Frame} {meth : Method} {c : Code} {Q : State → Prop}
variable {k : Nat} {sa : Nat → Value} {base : Nat} {D : va_G} {cs : pm_cs3} {L : Nat} {xs : Nat → Int32}
theorem pm_u_ne {α : Type} {f : Nat → Nat → α} {a k b : Nat} {v : α} (h : b ≠ a) : pm_u f a k v b = f b := by funext j; simp [pm_u, h]
theorem pm_u_arr {f : Nat → Nat → Int32} {a i : Nat} {v : Int32} : pm_u f a i v a = upd (f a) i v := by funext j; simp [pm_u, upd]
theorem pm_u_arrL {f : Nat → Nat → Int64} {a i : Nat} {v : Int64} : pm_u f a i v a = vp_updL (f a) i v := by funext j; simp [pm_u, vp_updL]
theorem pm_z_ne {α : Type} {f : Nat → Nat → α} {a b : Nat} {v : α} (h : b ≠ a) : pm_z f a v b = f b := by funext j; simp [pm_z, h]
theorem pm_z_eq {α : Type} {f : Nat → Nat → α} {a : Nat} {v : α} : pm_z f a v a = fun _ => v := by funext j; simp [pm_z]
theorem pm_t_ne {T : Nat → Nat × Nat} {a b : Nat} {v : Nat × Nat} (h : b ≠ a) : pm_t T a v b = T b := by simp [pm_t, h]
theorem pm_t_eq {T : Nat → Nat × Nat} {a : Nat} {v : Nat × Nat} : pm_t T a v a = v := by simp [pm_t]
theorem pm_cp_ne {I : Nat → Nat → Int32} {a p b q n c : Nat} (h : c ≠ b) : pm_cp I a p b q n c = I c := by funext j; simp [pm_cp, h]
theorem pm_cp_eq {I : Nat → Nat → Int32} {a p b q n : Nat} : pm_cp I a p b q n b = va_cpy (I a) (I b) p q n := by funext j; simp [pm_cp, va_cpy]
theorem pm_cell_congr {rv : Nat → Value} {H H' : pm_H} {i : Nat} (hT : H'.1.1 i = H.1.1 i) (hI : H'.2.1 i = H.2.1 i) (hJ : H'.2.2 i = H.2.2 i) (hO : H'.1.2.1 i = H.1.2.1 i) : pm_cell rv cs H' i = pm_cell rv cs H i := by
  have hf : ∀ ty j, pm_fv H' ty i j = pm_fv H ty i j := by
    intro ty j
    unfold pm_fv
    rw [hI, hJ, hO]
  unfold pm_cell pm_fs
  rw [hT, hI, hJ]
  simp only [hf]
theorem pm_fs_get {rv : Nat → Value} {H : pm_H} {i ci j : Nat} (hj : j < pm_nf ci) : (pm_fs rv H i ci)[j]? = some (pm_cv rv (pm_fv H (pm_ft ci j) i j)) := by
  unfold pm_fs
  rw [List.getElem?_map, List.getElem?_range hj]
  rfl
theorem pm_fs_len {rv : Nat → Value} {H : pm_H} {i ci : Nat} : (pm_fs rv H i ci).length = pm_nf ci := by unfold pm_fs; simp
theorem pm_fs_set {rv : Nat → Value} {H H' : pm_H} {i ci b : Nat} {v : Value} (hb : b < pm_nf ci) (hv : pm_cv rv (pm_fv H' (pm_ft ci b) i b) = v) (ho : ∀ j, j ≠ b → pm_fv H' (pm_ft ci j) i j = pm_fv H (pm_ft ci j) i j) : pm_fs rv H' i ci = (pm_fs rv H i ci).set b v := by
  apply List.ext_getElem?
  intro j
  rw [List.getElem?_set, pm_fs_len]
  by_cases hj : j < pm_nf ci
  · rw [pm_fs_get hj]
    by_cases hjb : b = j
    · subst hjb
      rw [if_pos rfl, if_pos hj, hv]
    · rw [if_neg hjb, pm_fs_get hj, ho j (fun q => hjb q.symm)]
  · rw [List.getElem?_eq_none (by rw [pm_fs_len]; omega)]
    by_cases hjb : b = j
    · omega
    · rw [if_neg hjb, List.getElem?_eq_none (by rw [pm_fs_len]; omega)]
theorem pm_in_vp {i : Int32} {n : Nat} (h : pm_in i n = true) : vp_in i n := by
  simp only [pm_in, Bool.and_eq_true, decide_eq_true_eq] at h
  rintro (q | q)
  · exact absurd q (Int32.not_lt.mpr h.1)
  · omega
theorem pm_sldI {A : Nat → Prop} {cc : ByteArray} (hexec : p.tables.exec = Jvm.exec) (hb : c.code = cc) {t N : Nat} {f : Nat → Int32} {Hp : Heap} {locs : List Loc} {cells slots pc : Nat} {ls : Array Slot} {rest : List Value} (hT : va_T .int t N (fun j => .int (f j)) A s s.heap) (hS : va_S A s.heap Hp locs) {i : Int32} (hin : vp_in i N) (hdg : decode cc pc = .ok (.iaload, 1))
    (kk : W p l e R s m args below meth c Hp locs cells slots Q (F0 m (pc + 1) ls (.int (f i.toNatClampNeg) :: rest))) : W p l e R s m args below meth c Hp locs cells slots Q (F0 m pc ls (.int i :: .ref t :: rest)) := by
  obtain ⟨cell, h1, h2, h3, h4, h5, h6, h7⟩ := hT
  have hlt : i.toNatClampNeg < N := Nat.not_le.mp fun q => hin (Or.inr q)
  exact W.iald (v := .int (f i.toNatClampNeg)) hexec hb (by rw [hS.2.1 t (Array.getElem?_eq_some_iff.mp h1).1 h7]; exact h1) h2 h3 (fun q => hin (q.imp id fun z => by omega)) (h6 _ hlt) rfl rfl hdg kk
theorem pm_sldB {A : Nat → Prop} {cc : ByteArray} (hexec : p.tables.exec = Jvm.exec) (hb : c.code = cc) {t N : Nat} {f : Nat → Int32} {Hp : Heap} {locs : List Loc} {cells slots pc : Nat} {ls : Array Slot} {rest : List Value} (hT : va_T .byte t N (fun j => .int (f j)) A s s.heap) (hS : va_S A s.heap Hp locs) {i : Int32} (hin : vp_in i N) (hdg : decode cc pc = .ok (.baload, 1))
    (kk : W p l e R s m args below meth c Hp locs cells slots Q (F0 m (pc + 1) ls (.int (f i.toNatClampNeg) :: rest))) : W p l e R s m args below meth c Hp locs cells slots Q (F0 m pc ls (.int i :: .ref t :: rest)) := by
  obtain ⟨cell, h1, h2, h3, h4, h5, h6, h7⟩ := hT
  have hlt : i.toNatClampNeg < N := Nat.not_le.mp fun q => hin (Or.inr q)
  exact W.bald (v := .int (f i.toNatClampNeg)) hexec hb (by rw [hS.2.1 t (Array.getElem?_eq_some_iff.mp h1).1 h7]; exact h1) h2 h3 (fun q => hin (q.imp id fun z => by omega)) (h6 _ hlt) rfl rfl hdg kk
theorem pm_slen {A : Nat → Prop} {cc : ByteArray} (hexec : p.tables.exec = Jvm.exec) (hb : c.code = cc) {ty : FieldType} {t N : Nat} {f : Nat → Value} {Hp : Heap} {locs : List Loc} {cells slots pc : Nat} {ls : Array Slot} {rest : List Value} (hT : va_T ty t N f A s s.heap) (hS : va_S A s.heap Hp locs) (hdg : decode cc pc = .ok (.arraylength, 1))
    (kk : W p l e R s m args below meth c Hp locs cells slots Q (F0 m (pc + 1) ls (.int (Int32.ofNat N) :: rest))) : W p l e R s m args below meth c Hp locs cells slots Q (F0 m pc ls (.ref t :: rest)) := by
  obtain ⟨cell, h1, h2, h3, h4, h5, h6, h7⟩ := hT
  exact W.alen (n := Int32.ofNat N) hexec hb (by rw [hS.2.1 t (Array.getElem?_eq_some_iff.mp h1).1 h7]; exact h1) h2 h5 rfl rfl hdg kk
theorem pm_tab {l : List pm_tup} {o i a b : Nat} (h : pm_lk l o i a b = true) : ∃ u ∈ l, u.1 = o ∧ u.2.1 = i ∧ u.2.2.1 = a ∧ u.2.2.2.1 = b := by
  obtain ⟨u, hu, h⟩ := List.any_eq_true.mp h
  simp only [Bool.and_eq_true] at h
  exact ⟨u, hu, Nat.eq_of_beq_eq_true h.1.1.1, Nat.eq_of_beq_eq_true h.1.1.2, Nat.eq_of_beq_eq_true h.1.2, Nat.eq_of_beq_eq_true h.2⟩
/-- the word of a field's use -/
theorem pm_fword {o i a b : Nat} (h : pm_lk pm_uF o i a b = true) : (Cond.fieldLink (pm_on o) i (pm_fd a b).1 (pm_fd a b).2.1 (pm_fd a b).2.2.1 : Cond) ∈ lw_tbl ∨ (Cond.fieldLinkNest (pm_on o) i (pm_fd a b).1 (pm_fd a b).2.1 (pm_fd a b).2.2.1 "FallenHouses" : Cond) ∈ lw_tbl := by
  obtain ⟨u, hu, rfl, rfl, rfl, rfl⟩ := pm_tab h
  have := pm_uF_ok u hu
  obtain ⟨u1, u2, u3, u4, u5, u6⟩ := u
  simp only [pm_wF] at this
  cases hb : Nat.beq u5 0
  · rw [hb] at this; exact Or.inr this
  · rw [hb] at this; exact Or.inl this
theorem pm_uF_nn : pm_uF.all (fun u => Nat.beq u.2.2.2.2.1 0 || decide (¬ pm_on u.1 = (pm_fd u.2.2.1 u.2.2.2.1).1)) = true := by decide +kernel
theorem pm_fwordO {o i a b : Nat} (h : pm_lk pm_uF o i a b = true) (hd : (pm_fd a b).1 = pm_on o) : (Cond.fieldLink (pm_on o) i (pm_fd a b).1 (pm_fd a b).2.1 (pm_fd a b).2.2.1 : Cond) ∈ lw_tbl := by
  obtain ⟨u, hu, rfl, rfl, rfl, rfl⟩ := pm_tab h
  have h1 := pm_uF_ok u hu
  have h2 := List.all_eq_true.mp pm_uF_nn u hu
  obtain ⟨u1, u2, u3, u4, u5, u6⟩ := u
  simp only [Bool.or_eq_true, decide_eq_true_eq] at h2
  rcases h2 with h2 | h2
  · simp only [pm_wF, h2] at h1
    exact h1
  · exact absurd hd.symm h2
/-- a class's fields: types, names apart -/
theorem pm_cfacts {ci : Nat} (h : ci < 12) : (∀ j, j < pm_nf ci → parseFieldDescriptor (pm_Tf ci j).2.2.1 = some (pm_fty ci j)) ∧ (∀ j, j < pm_nf ci → pm_ftk (pm_fty ci j) (pm_ft ci j) = true) ∧ (∀ a, a < pm_nf ci → ∀ b, b < pm_nf ci → a ≠ b → (pm_Tf ci a).2.1 ≠ (pm_Tf ci b).2.1) ∧ (∀ w ∈ u_ws (pm_on ci) (pm_Tf ci) (pm_nf ci), w ∈ pm_gw) := by
  have hk := pm_cokall ci h
  simp only [pm_cok, Bool.and_eq_true, List.all_eq_true, List.mem_range, Bool.or_eq_true, decide_eq_true_eq] at hk
  refine ⟨fun j hj => (hk.1 j hj).1, fun j hj => (hk.1 j hj).2, fun a ha b hb hab => ?_, fun w hw => pm_gwi ((pm_cwall ci h).1 w hw) ?_⟩
  · rcases hk.2 a ha b hb with q | q
    · exact absurd q hab
    · exact q
  · obtain ⟨j, -, rfl⟩ := List.mem_map.mp hw
    unfold u_lay
    split <;> rfl
theorem pm_lo5 {H : pm_H} (hf : pm_fix L xs H) {a ci : Nat} (h : H.1.1 a = (0, ci)) : (8 ≤ a ∧ ci < 12) ∨ (a = 5 ∧ ci = 12) := by
  by_cases h8 : 8 ≤ a
  · refine Or.inl ⟨h8, ?_⟩
    have := hf.2.2.2.2.2 a h8 (by rw [h])
    rw [h] at this
    exact this
  · rw [hf.1 a (by omega)] at h
    match a, h8, h with
    | 0, _, h => cases h
    | 1, _, h => cases h
    | 2, _, h => cases h
    | 3, _, h => cases h
    | 4, _, h => cases h
    | 5, _, h => cases h; exact Or.inr ⟨rfl, rfl⟩
    | 6, _, h => cases h
    | 7, _, h => cases h
    | a + 8, h8, _ => exact absurd (Nat.le_add_left 8 a) h8
/-- a field is written: the world behind it -/
theorem pm_putW (hC : pm_Ctx p s m args meth c k sa base D cs L xs) {pc b i : Nat} {a ci : Nat} {lo : List Value} {st r : List Value} {H H' : pm_H} {v : Value} {Hp : Heap} {locs : List Loc} {ls : Array Slot} {cells slots : Nat} (hdg : decode (pm_by k) pc = .ok (.putfield i, 3)) (hAt : pm_At s k sa base D cs L xs (lo, st, H) Hp locs ls)
    (hT : H.1.1 a = (0, ci)) (h8 : 8 ≤ a) (hci : ci < 12) (hbn : b < pm_nf ci) (hw : pm_lk pm_uF (pm_ow k) i ci b = true) (hfin : (pm_fd ci b).2.2.2 = true → (pm_y k).name = "<init>" ∧ (pm_fd ci b).1 = pm_on (pm_ow k))
    (hv : pm_cv (pm_rv sa base) (pm_fv H' (pm_ft ci b) a b) = v) (ho : ∀ j, j ≠ b → pm_fv H' (pm_ft ci j) a j = pm_fv H (pm_ft ci j) a j) (hT' : H'.1.1 = H.1.1) (hn : H'.1.2.2 = H.1.2.2) (hoth : ∀ j, j ≠ a → pm_cell (pm_rv sa base) cs H' j = pm_cell (pm_rv sa base) cs H j)
    (hnar : narrow (pm_fty ci b) v = v) (hfit : fits (pm_fty ci b) v = true)
    (kk : ∀ (Hp' : Heap) (locs' : List Loc), va_P D pm_cl (pm_ws (pm_rv sa base) cs base H') Hp' → va_S (fun q => base ≤ q) s.heap Hp' locs' → W p l e R s m args below meth c Hp' locs' cells slots Q (F0 m (pc + 3) ls r)) :
    W p l e R s m args below meth c Hp locs cells slots Q (F0 m pc ls (v :: .ref (base + (a - 8)) :: r)) := by
  obtain ⟨hx, hb, hml, hown, hts, hKs, hSt, hnm, hbl, hrt, hlk⟩ := hC
  obtain ⟨hl, hlen, hP, hS, hf⟩ := hAt
  simp only at hP hf
  have hlt : a < H.1.2.2.1 := hf.lt (by rw [hT]; exact (by decide : (0 : Nat) ≠ 9))
  have hget := pm_ws_get (pm_rv sa base) cs base H h8 hlt
  have hcell : pm_cell (pm_rv sa base) cs H a = .inr (ci, pm_fs (pm_rv sa base) H a ci) := by unfold pm_cell; rw [hT]; rfl
  have hcell' : pm_cell (pm_rv sa base) cs H' a = .inr (ci, (pm_fs (pm_rv sa base) H a ci).set b v) := by
    unfold pm_cell
    rw [hT', hT]
    show Sum.inr (ci, pm_fs (pm_rv sa base) H' a ci) = _
    rw [pm_fs_set hbn hv ho]
  rw [hcell] at hget
  obtain ⟨hty, -, hnmA, hin⟩ := pm_cfacts hci
  have hD := pm_ws_D (pm_rv sa base) cs base H
  have hset : (pm_ws (pm_rv sa base) cs base H).set (a - 8) (base + (a - 8), .inr (ci, (pm_fs (pm_rv sa base) H a ci).set b v)) = pm_ws (pm_rv sa base) cs base H' := pm_ws_set h8 (by rw [hn]) hcell' hoth
  have he : (pm_ws (pm_rv sa base) cs base H)[a - 8]? = some (base + (a - 8), .inr (ci, pm_fs (pm_rv sa base) H a ci)) := hget
  have hlenf : b < (pm_fs (pm_rv sa base) H a ci).length := by rw [pm_fs_len]; exact hbn
  have kk' : ∀ (H1 : Heap) (locs1 : List Loc), va_P D pm_cl ((pm_ws (pm_rv sa base) cs base H).set (a - 8) (base + (a - 8), .inr (ci, (pm_fs (pm_rv sa base) H a ci).set b v))) H1 → va_D (fun q => base ≤ q) ((pm_ws (pm_rv sa base) cs base H).set (a - 8) (base + (a - 8), .inr (ci, (pm_fs (pm_rv sa base) H a ci).set b v))) → va_S (fun q => base ≤ q) s.heap H1 locs1 → W p l e R s m args below meth c H1 locs1 cells slots Q (F0 m (pc + 3) ls r) :=
    fun H1 locs1 hP1 _ hS1 => kk H1 locs1 (by rw [← hset]; exact hP1) hS1
  have hc12 := pm_clk ci hci
  cases hff : (pm_fd ci b).2.2.2 with
  | true =>
    obtain ⟨hin2, hdecl⟩ := hfin hff
    have hw := pm_fwordO hw hdecl
    exact va_putF (D := D) (ci := ci) (v := v) (ty := pm_fty ci b) (C := pm_on ci) (T := pm_Tf ci) (N := pm_nf ci) hx hb hts hin (pm_fty ci) hty hnmA hown hKs hP hD hS (a - 8) he hc12 b hbn (hts _ (pm_gwi hw rfl)) (fun _ h9 => h9) hff (hnm.trans hin2) hdecl (hty b hbn) hnar hfit hlenf hdg kk'
  | false =>
    rcases pm_fword hw with hw | hw
    · exact va_put (D := D) (ci := ci) (v := v) (ty := pm_fty ci b) (C := pm_on ci) (T := pm_Tf ci) (N := pm_nf ci) hx hb hts hin (pm_fty ci) hty hnmA hown hKs hP hD hS (a - 8) he hc12 b hbn (hts _ (pm_gwi hw rfl)) (fun _ h9 => h9) hff (hty b hbn) hnar hfit hlenf hdg kk'
    · exact va_putN (D := D) (ci := ci) (v := v) (ty := pm_fty ci b) (C := pm_on ci) (T := pm_Tf ci) (N := pm_nf ci) hx hb hts hin (pm_fty ci) hty hnmA hown hKs hP hD hS (a - 8) he hc12 b hbn (va_Nw.use rfl (hSt.2.2.2 _ hw rfl)) (fun _ h9 => h9) hff (hty b hbn) hnar hfit hlenf hdg kk'
end PMT
