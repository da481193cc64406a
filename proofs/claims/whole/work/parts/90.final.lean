/-! THE CLAIM OUT OF ONE WALK OF THE LAW'S BODY. Your part is whole_start (and what it stands on); all else here is the same for every law, but numbers. -/
def R_law : String := "FallenHousesLaw"
def lw_P (b : Addr) (xs : List Int32) (args : Array Value) (s : State) : Prop := args = #[.ref b] ∧ s.IntsAt b xs ∧ xs.length ≤ 576 ∧ (Jvm.Cond.and given_1 narrow_1).before args s = true
def lw_Q (_ : Array Value) (s : State) (o : Outcome) (t : State) : Prop := o = .returned (some (.int 1)) ∧ Framed s o t [] 600000 7302250
def lw_Z (below : List Frame) (a : Array Value) (s : State) : State → Prop := fun t => ∃ o, t.status = .running ∧ Ended t below o ∧ lw_Q a s o t
/-- the law's own end, with 1 on the stack, nothing written that was there before, its room as the claim has it -/
theorem lw_ret {p : Program} {l : Launch} {e : Env} {s : State} {m : MethodId} {below : List Frame} {meth : Method} {c : Code} {b : Nat} (hx : p.tables.exec = Jvm.exec) (hb : c.code = code) (hr : meth.sig.returnType = ret) (hlocks : meth.locks = false) {pc : Nat} {H : Heap} {ls : Array Slot} (hdg : decode code pc = .ok (.ireturn, 1)) : W p l e room_1 s m #[Value.ref b] below meth c H [] 600000 7302250 (lw_Z below #[Value.ref b] s) (F0 m pc ls [.int 1]) := by
  intro T hT X
  obtain ⟨fs, hret, hrun, hended, hW, hframe⟩ := X.leave (v := some (.int 1)) (hlocks := hlocks) (fun h => by rw [hr] at h; cases h)
  have hmeth' : T.vm.method? m = some meth := X.method'
  refine ⟨T.setFrames fs, ?_, .returned (some (.int 1)), hrun, hended, rfl, ⟨_, rfl⟩, hW, hframe⟩
  jvm_step X.here [X.here.top, hx, hb, hdg, hmeth', hr, ret, narrow_b1]
  (try refine ⟨rfl, ?_⟩); (try refine ⟨rfl, ?_⟩)
  first | (intro acts; rw [hret _ acts rfl rfl rfl]) | rw [hret _ _ rfl rfl rfl]
  exact Steps.refl _
/-- what holds at the law's entry: the machine, the code, the tables' words (any of lw_tbl by 'hts w (by decide +kernel)'), the script of L ints xs at the cell b, what the Statement gives of the start (any of its parts by flat_of_before) -/
def lw_At (p : Program) (s : State) (m : MethodId) (meth : Method) (c : Code) (b L : Nat) (xs : Nat → Int32) : Prop :=
  p.tables.exec = Jvm.exec ∧ c.code = code ∧ meth.sig.returnType = ret ∧ c.maxLocals = 4 ∧ s.vm.findClass R_law = some m.cls ∧ (∀ w ∈ lw_tbl, w.before #[Value.ref b] s = true) ∧ va_X b L xs s s.heap ∧ b < s.heap.size ∧ meth.locks = false ∧ (Jvm.Cond.and given_1 narrow_1).before #[Value.ref b] s = true

/-- the small heap at the law's start -/
def pm_H0 (L : Nat) (xs : Nat → Int32) : pm_H := ((pm_TS L, pm_OS, 8, 0), pm_IS xs, fun _ _ => 0)
theorem pm_H0_fix (L : Nat) (xs : Nat → Int32) : pm_fix L xs (pm_H0 L xs) := by
  refine ⟨fun _ _ => rfl, fun _ _ _ => rfl, fun _ _ _ => rfl, Nat.le_refl _, fun i hi => ?_, fun i hi h => ?_⟩
  · have hi : 8 ≤ i := hi
    obtain ⟨j, rfl⟩ : ∃ j, i = j + 8 := ⟨i - 8, by omega⟩
    rfl
  · obtain ⟨j, rfl⟩ : ∃ j, i = j + 8 := ⟨i - 8, by omega⟩
    cases h
theorem pm_kinds {s : State} {args : Array Value} (hts : ∀ w ∈ pm_gw, w.before args s = true) : ∃ (D : va_G) (cs : pm_cs3), va_K D pm_cl (pm_tys cs) s := by
  have h1 : ∀ c : Nat, ∃ q : ClassId × (Nat → Nat), c < 12 → u_Kn s (pm_on c) (pm_Tf c) (pm_nf c) q.1 q.2 := by
    intro c
    by_cases hc : c < 12
    · obtain ⟨-, hi, -⟩ := pm_cwall c hc
      obtain ⟨-, -, -, hin⟩ := pm_cfacts hc
      obtain ⟨cC, iS, h⟩ := u_known (C := pm_on c) (T := pm_Tf c) (N := pm_nf c) hts hin (hts _ (pm_gwi hi rfl))
      exact ⟨(cC, iS), fun _ => h⟩
    · exact ⟨(0, fun _ => 0), fun h => absurd h hc⟩
  obtain ⟨f, hf⟩ := Classical.axiomOfChoice h1
  have arr : ∀ ty : FieldType, (Cond.arrayClass ty : Cond) ∈ lw_tbl → (∀ C : String, ty ≠ .object C) → ty.isReference = false → ∃ cA, ArrOfT s cA ty ∧ va_RA s cA ty := by
    intro ty hw hno href
    obtain ⟨cA, kA, comp, g1, g2, g3⟩ := Cond.arrayClass_spec (hts _ (pm_gwi hw rfl))
    refine ⟨cA, fun n z => ⟨fun k h => (by cases h), kA, g2, comp, g3⟩, ?_⟩
    · cases ty with
      | object C => exact absurd rfl (hno C)
      | _ => exact g1
  obtain ⟨cI, i1, i2⟩ := arr .int pm_arc_int (fun C h => by cases h) rfl
  obtain ⟨cB, j1, j2⟩ := arr .byte pm_arc_byte (fun C h => by cases h) rfl
  obtain ⟨cL, l1, l2⟩ := arr .long pm_arc_long (fun C h => by cases h) rfl
  refine ⟨(fun c => (f c).1, fun c => (f c).2), (cI, cB, cL), fun c q hq => ?_, fun k q hq => ?_⟩
  · have hc : c < 12 := (List.getElem?_eq_some_iff.mp hq).1
    rw [pm_clk c hc] at hq
    cases hq
    exact hf c hc
  · match k, hq with
    | 0, hq => cases hq; exact ⟨i1, i2⟩
    | 1, hq => cases hq; exact ⟨j1, j2⟩
    | 2, hq => cases hq; exact ⟨l1, l2⟩
    | k + 3, hq => simp [pm_tys] at hq
theorem pm_law_wp (L : Nat) (xs : Nat → Int32) (hL : L ≤ 576) : pm_wc pm_code pm_meta 1000 317 [.ref 1] (pm_H0 L xs) (fun v _ H' => v = 1 ∧ H'.1.2.2.1 ≤ 600008 ∧ H'.1.2.2.2 ≤ 7302250) := by
  refine law_start (d := 996) (fun I J hI => ?_)
  refine law_loop (d := 958) hL (fun h => po_read h) (fun b I J => ?_) (L + 1) 0 false I J (by omega) (by omega) hI
  cases b
  · exact ⟨rfl, (by decide : 158 ≤ 600008), (by decide : 15475 ≤ 7302250)⟩
  · exact ⟨rfl, (by decide : 185 ≤ 600008), (by decide : 19547 ≤ 7302250)⟩
set_option maxHeartbeats 4000000 in
theorem whole_start {p : Program} {e : Env} {s : State} {m : MethodId} {below : List Frame} {meth : Method} {c : Code} (l : Launch) (hflags : l.flags = flags0) {b L : Nat} {xs : Nat → Int32} (hL : L ≤ 576) (C0 : lw_At p s m meth c b L xs) (hnm : meth.name = (pm_y 317).name) : W p l e room_1 s m #[Value.ref b] below meth c s.heap [] 0 0 (lw_Z below #[Value.ref b] s) (entryFrame m ([Value.ref b] : List Value).toArray 4) := by
  obtain ⟨hx, hb, hr, hml, hown, hts, hX, hbl, hlocks, hgv⟩ := C0
  have htg : ∀ w ∈ pm_gw, w.before #[Value.ref b] s = true := fun w hw => hts w (List.mem_filter.mp hw).1
  have hA : ∀ a : Nat, a < s.heap.size → ¬ (fun q : Nat => s.heap.size ≤ q) a := fun a h => Nat.not_le.mpr h
  obtain ⟨D, cs, hK⟩ := pm_kinds htg
  have hg : pm_fl #[Value.ref b] s := hgv
  obtain ⟨t2, e2, T2⟩ := pm_st_2 hg hA L xs
  obtain ⟨t3, e3, T3⟩ := pm_st_3 hg hA L xs
  obtain ⟨t4, e4, T4⟩ := pm_st_4 hg hA L xs
  obtain ⟨q5, v6, s1, s2, s3, s4, s5⟩ := pm_st_5 hg (hts _ pm_ustr) hA xs
  have z1 := va_Zof (A := fun q : Nat => s.heap.size ≤ q) (hts _ pm_ls_ITSELF_AND_ABOVE) (hts (.initialized "FallenHouses") (pm_cwall 10 (by decide)).2.2) e2 hA
  have z2 := va_Zof (A := fun q : Nat => s.heap.size ≤ q) (hts _ pm_ls_HOURS) (hts (.initialized "FallenHouses$Land") (pm_cwall 3 (by decide)).2.2) e3 hA
  have z3 := va_Zof (A := fun q : Nat => s.heap.size ≤ q) (hts _ pm_ls_BODIES) (hts (.initialized "FallenHouses$Host") (pm_cwall 2 (by decide)).2.2) e4 hA
  have z4 := va_Zof (A := fun q : Nat => s.heap.size ≤ q) (hts _ pm_ls_COMPACT_STRINGS) (hts (.initialized "java/lang/String") (pm_mw_all 310 (by decide)).2.1) (va_eqi (pm_fm_15 hg)) hA
  have z5 := va_Zqof (A := fun q : Nat => s.heap.size ≤ q) (hts _ pm_ls_SIOOBE_FORMATTER) (hts (.initialized "jdk/internal/util/Preconditions") (pm_mw_all 316 (by decide)).2.1) (pm_fm_16 hg) hA
  obtain ⟨fz, hfz, z5⟩ : ∃ fz : Value, (fz = .null ∨ ∃ t, fz = .ref t) ∧ va_Z "jdk/internal/util/Preconditions" "SIOOBE_FORMATTER" "Ljava/util/function/BiFunction;" fz (fun q : Nat => s.heap.size ≤ q) s s.heap := by
    rcases z5 with z | ⟨t, z⟩
    · exact ⟨_, Or.inl rfl, z⟩
    · exact ⟨_, Or.inr ⟨t, rfl⟩, z⟩
  obtain ⟨sa, hsaE⟩ : ∃ sa : Nat → Value, sa = fun i => match i with
    | 1 => .ref b
    | 2 => .ref t2
    | 3 => .ref t3
    | 4 => .ref t4
    | 5 => .ref q5
    | 6 => .ref v6
    | 7 => fz
    | _ => .null := ⟨_, rfl⟩
  have hsa : pm_rvok sa := by
    intro i
    rw [hsaE]
    match i with
    | 0 => exact Or.inl rfl
    | 1 => exact Or.inr ⟨_, rfl⟩
    | 2 => exact Or.inr ⟨_, rfl⟩
    | 3 => exact Or.inr ⟨_, rfl⟩
    | 4 => exact Or.inr ⟨_, rfl⟩
    | 5 => exact Or.inr ⟨_, rfl⟩
    | 6 => exact Or.inr ⟨_, rfl⟩
    | 7 => exact hfz
    | i + 8 => exact Or.inl rfl
  have T1 : va_T .int b L (fun j => .int (xs j)) (fun q : Nat => s.heap.size ≤ q) s s.heap := by
    obtain ⟨scr, h1, h2, h3, h4, h5⟩ := hX
    exact ⟨scr, h1, h2, h3, by omega, by rw [h4], h5, hA b hbl⟩
  have hSt : pm_Stat (fun q : Nat => s.heap.size ≤ q) sa L xs s s.heap := by
    rw [hsaE]
    refine ⟨fun i h1 h4 => ?_, ⟨q5, v6, rfl, rfl, s1, s2, s3, s4, s5⟩, ⟨z1, z2, z3, z4, z5⟩, fun w hw hn => ?_⟩
    · match i, h1, h4 with
      | 1, _, _ => exact ⟨b, rfl, T1⟩
      | 2, _, _ => exact ⟨t2, rfl, T2⟩
      | 3, _, _ => exact ⟨t3, rfl, T3⟩
      | 4, _, _ => exact ⟨t4, rfl, T4⟩
    · have := hts w hw
      cases w <;> first | exact va_Nw.of rfl this | (simp [pm_isN] at hn)
  have hC : pm_Ctx p s m #[Value.ref b] meth c 317 sa s.heap.size D cs L xs := ⟨hx, hb, hml, hown, htg, hK, hSt, hnm, Nat.le_refl _, hr, hlocks⟩
  obtain ⟨n, v, w, H', hrun, rfl, hb1, hb2⟩ := pm_law_wp L xs hL
  have hl := lv_entry ([.ref b]) (n := 4) (Nat.le_of_ble_eq_true rfl)
  rw [lg_entry_eq]
  have h1b : pm_rv sa s.heap.size 1 = .ref b := by
    rw [pm_rv_lo (by decide), hsaE]
    rfl
  have hAt : pm_At s 317 sa s.heap.size D cs L xs (pm_ent (pm_meta 317).1 [.ref 1], [], pm_H0 L xs) s.heap [] ((lg_sl ([.ref b]) ++ List.replicate (4 - (lg_sl ([.ref b])).length) Slot.unset).toArray) := by
    refine ⟨pm_lsub hl (fun q hq => ?_), rfl, fun k q hq => by simp [pm_ws, pm_H0] at hq, va_S.rf, pm_H0_fix L xs⟩
    have := pm_ll_args hsa [.ref 1] 0 q hq
    simp only [List.map_cons, List.map_nil, pm_cvr, h1b] at this
    exact this
  refine pm_main hsa (by rw [hsaE]; rfl) l n 1000 317 0 _ 1 w H' hrun (pm_H0_fix L xs) hC ⟨by decide, by decide⟩ hAt (by show s.heap.size + 0 ≤ s.heap.size + (8 - 8); omega) ⟨by show 0 + (H'.1.2.2.1 - 8) ≤ 600000; omega, by show 0 + (H'.1.2.2.2 - 0) ≤ 7302250; omega⟩ ?_
  intro pc ins Hp locs ls hdg hret hP hS
  rcases hret with ⟨hq, -⟩ | ⟨hq, -⟩ | ⟨ty, hq, -, rfl, -⟩
  · exact absurd hq (by decide)
  · exact absurd hq (by decide)
  · refine va_forget (fun q hq => hS.2.2 q hq) ?_
    refine W.widen (k := 600000) (n := 7302250) (by show 0 + (H'.1.2.2.1 - 8) ≤ 600000; omega) (by show 0 + (H'.1.2.2.2 - 0) ≤ 7302250; omega) ?_
    exact lw_ret hx hb hr hlocks hdg
-- ===== YOUR PART ENDS =====
set_option maxHeartbeats 4000000 in
theorem lw_walk (l : Launch) (hflags : l.flags = flags0) (b : Addr) (xs : List Int32) : MetFree l x (headSpec (Jvm.Cond.code x code maxLocals ret :: tables_1) room_1) (lw_P b xs) (fun _ _ _ _ _ => True) lw_Q := by
  refine MetFree.of_bodyS (code := code) (maxLocals := maxLocals) (ret := ret) (by decide) ?_ ?_
  · intro args s m h hn
    obtain ⟨meth, c, h1, h2, h3, h4, h5, h6, -, -⟩ := Cond.code_spec hn (atoms_spec (ws := Jvm.Cond.code x code maxLocals ret :: tables_1) h _ List.mem_cons_self)
    exact ⟨meth, c, h1, h2, h3, h4, h5, h6⟩
  · intro p e s m args below meth c s₁ B hml0 hP _
    obtain ⟨rfl, hx, hbd, hgv⟩ := hP
    obtain ⟨scr, harrAt, hlist, hof, hsmall⟩ := hx
    obtain ⟨hcb, hkn, -, -⟩ := State.arrayAt?_spec harrAt
    have hown : s.vm.findClass R_law = some m.cls := findClass_of_methodNamed B.named
    have hts0 : ∀ c ∈ (Jvm.Cond.code x code maxLocals ret :: tables_1), c.before #[Value.ref b] s = true := atoms_spec (ws := Jvm.Cond.code x code maxLocals ret :: tables_1) B.pre
    have hts : ∀ w ∈ lw_tbl, w.before #[Value.ref b] s = true := k2_hts_sels lw_privs (fun w hw => hts0 w (List.mem_cons_of_mem _ hw)) lw_privs_ok
    have hml : c.maxLocals = 4 := B.maxLocals_eq (hts0 _ List.mem_cons_self)
    have X₀ : Stand p l e room_1 s m #[Value.ref b] below meth c s₁ [] 0 0 := Stand.of_body B
    have hh0 : s₁.heap = s.heap := by rw [B.state]; rfl
    have hsz : scr.slots.size = xs.length := by rw [← Array.length_toList, hlist, List.length_map]
    have hval : ∀ j : Nat, j < xs.length → scr.slots[j]? = some (.int (xs.getD j 0)) := fun j hj => by
      rw [← Array.getElem?_toList, hlist]
      simp [hj]
    have hbl : b < s.heap.size := (Array.getElem?_eq_some_iff.mp hcb).1
    have hX : va_X b xs.length (fun j => xs.getD j 0) s s.heap := ⟨scr, hcb, hof, hkn, hsz, hval⟩
    have K : W p l e room_1 s m #[Value.ref b] below meth c s₁.heap [] 0 0 (lw_Z below #[Value.ref b] s) (entryFrame m ([Value.ref b] : List Value).toArray 4) := by
      rw [hh0]
      exact whole_start l hflags hbd ⟨B.exec, B.bytes, B.returns, hml, hown, hts, hX, hbl, B.notSynchronized, hgv⟩ ((name_of_methodNamed B.named B.method).1.trans rfl)
    obtain ⟨t, a1, o, b1, b2, b3⟩ := K s₁ rfl X₀
    exact ⟨t, o, a1, b1, b2, b3⟩
theorem lw_pre_spec {args : Array Value} {s : State} (h : (Jvm.Cond.and given_1 narrow_1).before args s = true) (hr : rest_1_c.before args s = true) : ∃ (b : Addr) (xs : List Int32), lw_P b xs args s := by
  have hs := flat_of_before _ h
  have hq := flat_of_before _ hr
  have hc : (Cond.count 1).before args s = true := hs _ (by decide +kernel)
  have harr : (Cond.arrayOf (.arg 0) .int).before args s = true := hs _ (by decide +kernel)
  have hle : (Cond.le (.length (.arg 0)) (.int 576)).before args s = true := hs _ (by decide +kernel)
  have hlen : (Cond.isInt (.length (.arg 0))).before args s = true := hq _ (by decide +kernel)
  have hall : (Cond.all (.arg 0) (.isInt (.elem (.arg 0) (.index 0)))).before args s = true := hq _ (by decide +kernel)
  obtain ⟨b, xs, hb, hx⟩ := State.ints_of_pre rfl harr hlen hall
  have hsm : xs.length < 2 ^ 31 := hx.choose_spec.2.2.2
  have hev : (Term.length (.arg 0)).eval args s none [] s = some (.int xs.length.toInt32) := hx.length_eval hb
  have hv := Cond.le_ints hev (show (Term.int 576).eval args s none [] s = some (.int 576) from rfl)
  have hd : xs.length.toInt32 ≤ 576 := by
    simpa [Cond.before, Cond.holds, hv] using hle
  have hN : xs.length ≤ 576 := (Int32.ofNat_le_ofNat hsm (by decide)).mp (show Int32.ofNat xs.length ≤ Int32.ofNat 576 from hd)
  exact ⟨b, xs, Cond.one_arg hc (show args[0]? = some (.ref b) from hb), hx, hN, h⟩
theorem lw_comes (l : Launch) (hflags : l.flags = flags0) : Comes l x (Jvm.Cond.code x code maxLocals ret :: tables_1) room_1 (fun tb e args s => Calls_1 tb e args s ∧ rest_1 tb e args s ∧ Pre_1 tb e args s)
    (fun _ _ args s o t => lw_Q args s o t) := by
  intro p e ha hc hk s m args below hf hfit hheap happ hpre
  obtain ⟨b, xs, hP⟩ := lw_pre_spec hpre.2.2 hpre.2.1
  obtain ⟨k, o, h1, h2, h3, hQ⟩ := lw_walk l hflags b xs p e ha hc hk s m args below hf ((Spec.applies_iff_loose hf).mp happ).1 hP trivial
  exact ⟨k, o, h1, h2, h3, hQ⟩
theorem lw_frame {s t : State} {o : Outcome} {args : Array Value} (h : Framed s o t [] 600000 7302250) :
    Framed s o t (fieldLocs frame_1_writes args s ++ arrayLocs frame_1_arrays args s ++ staticLocs frame_1_statics s) 600000 7302250 := h
theorem lw_limb (L : Cond) (hL : ∀ (args : Array Value) (s t : State), L.after args s (.returned (some (.int 1))) t = true) :
    ArmFor flags0 classFile x code maxLocals ret World_1 tables_1 room_1 Calls_1 rest_1 Pre_1
      (fun tb e a s o t => postC L tb e a s o t ∧ Framed s o t (fieldLocs frame_1_writes a s ++ arrayLocs frame_1_arrays a s ++ staticLocs frame_1_statics s) 600000 7302250) := by
  intro l hflags _ _ p e ha hc hk s m args below hf hfit hheap happ hpre
  obtain ⟨k, o, h1, h2, h3, rfl, hF⟩ := lw_comes l hflags p e ha hc hk s m args below hf hfit hheap happ hpre
  exact ⟨k, _, h1, h2, h3, hL args s _, lw_frame hF⟩
theorem i_vc : Claimed_1_1 ∧ Claimed_1_2 := ⟨lw_limb limb_1_1 (fun args s t => by simp [limb_1_1, Cond.after, Cond.holds, Cond.value]), lw_limb limb_1_2 (fun args s t => Cond.after_iff.mpr (by
  first | (rw [show limb_1_2 = Cond.eq .result (.int 1) from rfl, Cond.eq_ints (x := 1) (y := 1) rfl rfl]; simp; done) | (simp [limb_1_2, Cond.value, Term.eval]; done)))⟩
