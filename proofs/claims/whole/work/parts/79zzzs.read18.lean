/-! THE CALL read: one version more. -/
theorem dep_dp {f : Nat → Int32} {l : List (Nat × Nat)} {a : Nat} (hl : rd_in l) (h : ∀ m x, l[m]? = some x → f (a + m) = Int32.ofNat x.1) : ∀ m, m ≤ l.length → pm_dep f a m = rd_dp (l.take m) := by
  intro m
  induction m with
  | zero => intro _; rw [List.take_zero]; rfl
  | succ m ih =>
    intro hm
    have hx : l[m]? = some (l[m]'(by omega)) := List.getElem?_eq_getElem (by omega)
    generalize l[m]'(by omega) = x at hx
    have b := hl x (List.mem_of_getElem? hx)
    rw [List.take_add_one, hx, dp_app, ← ih (by omega)]
    show pm_dep f a m + _ = pm_dep f a m + (rd_e x.1 + 0)
    have k1 : (Int32.ofNat x.1 = 1) ↔ x.1 = 1 := by rw [show (1 : Int32) = Int32.ofNat 1 from rfl, on_eq (by omega) (by omega)]
    have k2 : (Int32.ofNat x.1 = 2) ↔ x.1 = 2 := by rw [show (2 : Int32) = Int32.ofNat 2 from rfl, on_eq (by omega) (by omega)]
    have k3 : (Int32.ofNat x.1 = 3) ↔ x.1 = 3 := by rw [show (3 : Int32) = Int32.ofNat 3 from rfl, on_eq (by omega) (by omega)]
    rw [h m x hx]
    simp only [k1, k2, k3]
    unfold rd_e
    omega
def rd_vp (c cr cs : Nat → Int32) (nr ns today : Int32) (act rules fr till sort kinds rank rops rend opis opof : Nat → Int32) (v : Nat) : Prop :=
  (c (5 * v + 0) = act v ∧ c (5 * v + 1) = rules v ∧ c (5 * v + 2) = fr v ∧ c (5 * v + 3) = pm_no (till v)) ∧ 0 ≤ act v ∧ act v ≤ 3 ∧ 0 ≤ rules v ∧ rules v ≤ 10 ∧ 0 ≤ fr v ∧ fr v ≤ today ∧ -1 ≤ till v ∧ till v ≤ today ∧
    0 ≤ c (5 * v + 4) ∧ (c (5 * v + 4)).toNatClampNeg + (rules v).toNatClampNeg ≤ nr.toNatClampNeg ∧
    ∀ i : Nat, i < (rules v).toNatClampNeg → pg_rul cr cs ((c (5 * v + 4)).toNatClampNeg + i) (10 * v + i) v ns sort kinds rank rops rend opis opof
theorem vp_cg {c cr cs c' cr' cs' : Nat → Int32} {nr ns nr' ns' today : Int32} {act rules fr till sort kinds rank rops rend opis opof rules' act' fr' till' sort' kinds' rank' rops' rend' opis' opof' : Nat → Int32} {v : Nat}
    (h : rd_vp c cr cs nr ns today act rules fr till sort kinds rank rops rend opis opof v) (lr : nr.toNatClampNeg ≤ nr'.toNatClampNeg) (ls : ns.toNatClampNeg ≤ ns'.toNatClampNeg)
    (e_c : ∀ j, j < 5 → c' (5 * v + j) = c (5 * v + j)) (e_cr : ∀ j, j < 5 * nr.toNatClampNeg → cr' j = cr j) (e_cs : ∀ j, j < 2 * ns.toNatClampNeg → cs' j = cs j)
    (e_act : act' v = act v) (e_rules : rules' v = rules v) (e_fr : fr' v = fr v) (e_till : till' v = till v)
    (e_r : ∀ j, j < 10 * v + 10 → sort' j = sort j ∧ kinds' j = kinds j ∧ rank' j = rank j ∧ rops' j = rops j ∧ rend' j = rend j) (e_o : ∀ j, j < 80 * v + 80 → opis' j = opis j ∧ opof' j = opof j) : rd_vp c' cr' cs' nr' ns' today act' rules' fr' till' sort' kinds' rank' rops' rend' opis' opof' v := by
  obtain ⟨z1, z2, z3, z4, z5, z6, z7, z8, z9, z10, z11, z12⟩ := h
  have b10 := pc_b (m := 10) z4 z5 rfl
  unfold rd_vp
  rw [e_c 0 (by decide), e_c 1 (by decide), e_c 2 (by decide), e_c 3 (by decide), e_c 4 (by decide), e_act, e_rules, e_fr, e_till]
  refine ⟨z1, z2, z3, z4, z5, z6, z7, z8, z9, z10, by omega, fun i hi => ?_⟩
  obtain ⟨y1, y2, y3, y4, y5, y6, y7, y8, y9, y10, y11, y12, y13, y14, y15⟩ := z12 i hi
  have b80 := pc_b (m := 80) (Int32.le_trans y7 y8) y9 rfl
  have bop := pi_tni y7
  have bre := pi_tni (Int32.le_trans y7 y8)
  have ble := pi_le.mp y8
  have fl : (c (5 * v + 4)).toNatClampNeg + i < nr.toNatClampNeg := by omega
  have jl : 10 * v + i < 10 * v + 10 := by omega
  obtain ⟨k1, k2, k3, k4, k5⟩ := e_r _ jl
  unfold pg_rul
  rw [e_cr (5 * ((c (5 * v + 4)).toNatClampNeg + i) + 0) (by omega), e_cr (5 * ((c (5 * v + 4)).toNatClampNeg + i) + 1) (by omega), e_cr (5 * ((c (5 * v + 4)).toNatClampNeg + i) + 2) (by omega), e_cr (5 * ((c (5 * v + 4)).toNatClampNeg + i) + 3) (by omega), e_cr (5 * ((c (5 * v + 4)).toNatClampNeg + i) + 4) (by omega), k1, k2, k3, k4, k5]
  refine ⟨y1, y2, y3, y4, y5, y6, y7, y8, y9, y10, y11, y12, by omega, fun m hm => ?_, fun m hm => ?_⟩
  · rw [dep_cg (f := opis) (g := opis') m (fun k hk => (e_o _ (by omega)).1)]
    exact y14 m hm
  · rw [e_cs _ (by omega), e_cs _ (by omega), (e_o _ (by omega)).1, (e_o _ (by omega)).2]
    exact y15 m hm
/-- what a version that is not added leaves -/
theorem ver_fr {t c tr cr ts cs : Nat → Int32} {n today : Int32} {act rules fr till ops sort kinds rank rops rend opis opof rules' ops' sort' kinds' rank' rops' rend' opis' opof' : Nat → Int32}
    (h : pg_ver t c tr cr ts cs n today act rules fr till ops sort kinds rank rops rend opis opof) (e_rules : ∀ v, v < n.toNatClampNeg → rules' v = rules v)
    (e_r : ∀ j, j < 10 * n.toNatClampNeg → sort' j = sort j ∧ kinds' j = kinds j ∧ rank' j = rank j ∧ rops' j = rops j ∧ rend' j = rend j) (e_o : ∀ j, j < 80 * n.toNatClampNeg → opis' j = opis j ∧ opof' j = opof j) : pg_ver t c tr cr ts cs n today act rules' fr till ops' sort' kinds' rank' rops' rend' opis' opof' := by
  obtain ⟨g0, g1, g2, g3, g4⟩ := h
  exact ⟨g0, g1, g2, fun v hv => vp_cg (g3 v hv) (Nat.le_refl _) (Nat.le_refl _) (fun _ _ => rfl) (fun _ _ => rfl) (fun _ _ => rfl) rfl (e_rules v hv) rfl rfl (fun j hj => e_r j (by omega)) (fun j hj => e_o j (by omega)), g4⟩
/-- one more -/
theorem ver_new {t c tr cr ts cs t' c' tr' cr' ts' cs' : Nat → Int32} {n today a : Int32} {act rules fr till ops sort kinds rank rops rend opis opof act' rules' fr' till' ops' sort' kinds' rank' rops' rend' opis' opof' : Nat → Int32} {sl r0 s0 : Nat} {lo : List (Nat × Nat)} {lr : List (Nat × Nat × Nat × Nat × Nat)} {cn : Nat → Nat} {nn NN : Nat}
    (h : pg_ver t c tr cr ts cs n today act rules fr till ops sort kinds rank rops rend opis opof) (hn : n = Int32.ofNat sl) (sl12 : sl < 12) (ht : 0 ≤ today) (ha : 0 ≤ a ∧ a ≤ 3) (hr0 : tr 3 = Int32.ofNat r0) (hs0 : ts 3 = Int32.ofNat s0) (r0l : r0 ≤ 10 * sl) (s0l : s0 ≤ 100 * sl)
    (iv : rd_iv cn nn NN lo lr) (lo100 : lo.length ≤ 100) (hall : ∀ v, v < sl → act v = a → 0 ≤ till v)
    (t1 : pm_ti t' 5 12) (t2 : t' 3 = Int32.ofNat (sl + 1)) (t3 : pm_ti tr' 5 120) (t4 : pm_ti ts' 2 1200) (t5 : tr' 3 = Int32.ofNat (r0 + lr.length)) (t6 : ts' 3 = Int32.ofNat (s0 + lo.length))
    (e_c : ∀ j, j < 5 * sl → c' j = c j) (e_cr : ∀ j, j < 5 * r0 → cr' j = cr j) (e_cs : ∀ j, j < 2 * s0 → cs' j = cs j)
    (e_act : ∀ v, v < sl → act' v = act v) (e_rules : ∀ v, v < sl → rules' v = rules v) (e_fr : ∀ v, v < sl → fr' v = fr v) (e_till : ∀ v, v < sl → till' v = till v)
    (e_r : ∀ j, j < 10 * sl → sort' j = sort j ∧ kinds' j = kinds j ∧ rank' j = rank j ∧ rops' j = rops j ∧ rend' j = rend j) (e_o : ∀ j, j < 80 * sl → opis' j = opis j ∧ opof' j = opof j)
    (n_act : act' sl = a) (n_rules : rules' sl = Int32.ofNat lr.length) (n_fr : fr' sl = today) (n_till : till' sl = -1)
    (n_c : c' (5 * sl + 0) = a ∧ c' (5 * sl + 1) = Int32.ofNat lr.length ∧ c' (5 * sl + 2) = today ∧ c' (5 * sl + 3) = -3 ∧ c' (5 * sl + 4) = Int32.ofNat r0)
    (n_cr : ∀ m x, lr[m]? = some x → cr' (5 * (r0 + m) + 0) = Int32.ofNat x.1 ∧ cr' (5 * (r0 + m) + 1) = Int32.ofNat x.2.1 ∧ cr' (5 * (r0 + m) + 2) = (if x.1 = 2 then Int32.ofNat x.2.2.1 else -3) ∧ cr' (5 * (r0 + m) + 3) = Int32.ofNat s0 + Int32.ofNat x.2.2.2.1 ∧ cr' (5 * (r0 + m) + 4) = Int32.ofNat s0 + Int32.ofNat x.2.2.2.2)
    (n_cs : ∀ m x, lo[m]? = some x → cs' (2 * (s0 + m) + 0) = pm_opw (Int32.ofNat x.1) ∧ cs' (2 * (s0 + m) + 1) = Int32.ofNat x.2)
    (n_r : ∀ m x, lr[m]? = some x → sort' (10 * sl + m) = Int32.ofNat x.1 ∧ kinds' (10 * sl + m) = Int32.ofNat x.2.1 ∧ rank' (10 * sl + m) = (if x.1 = 2 then Int32.ofNat x.2.2.1 else -1) ∧ rops' (10 * sl + m) = Int32.ofNat x.2.2.2.1 ∧ rend' (10 * sl + m) = Int32.ofNat x.2.2.2.2)
    (n_o : ∀ m x, lo[m]? = some x → opis' (80 * sl + m) = Int32.ofNat x.1 ∧ opof' (80 * sl + m) = Int32.ofNat x.2) (lo80 : lo.length ≤ 80) :
    pg_ver t' c' tr' cr' ts' cs' (Int32.ofNat (sl + 1)) today act' rules' fr' till' ops' sort' kinds' rank' rops' rend' opis' opof' := by
  obtain ⟨g0, g1, g2, g3, g4⟩ := h
  obtain ⟨v1, v2, v3, v4⟩ := iv
  have gn := on_n (a := sl) (by omega)
  have gn1 := on_n (a := sl + 1) (by omega)
  have gr := on_n (a := r0 + lr.length) (by omega)
  have gs := on_n (a := s0 + lo.length) (by omega)
  have gr0 := on_n (a := r0) (by omega)
  have gs0 := on_n (a := s0) (by omega)
  have gl := on_n (a := lr.length) (by omega)
  subst hn
  rw [gn.2.1] at g3 g4
  refine ⟨⟨t1, t2, t3, t4⟩, by rw [t5, gr.2.1, gn1.2.1]; omega, by rw [t6, gs.2.1, gn1.2.1]; omega, fun v hv => ?_, fun v w hvw hw => ?_⟩
  · rw [gn1.2.1] at hv
    show rd_vp c' cr' cs' (tr' 3) (ts' 3) today act' rules' fr' till' sort' kinds' rank' rops' rend' opis' opof' v
    by_cases e : v = sl
    · subst e
      obtain ⟨c0, c1, c2, c3, c4⟩ := n_c
      unfold rd_vp
      rw [c0, c1, c2, c3, c4, n_act, n_rules, n_fr, n_till, t5, t6, gr.2.1, gl.2.1, gr0.2.1]
      refine ⟨⟨rfl, rfl, rfl, rfl⟩, ha.1, ha.2, gl.1, by rw [show (10 : Int32) = Int32.ofNat 10 from rfl, on_le (by omega) (by omega)]; omega, ht, Int32.le_refl _, by decide, Int32.le_trans (by decide) ht, gr0.1, Nat.le_refl _, fun i hi => ?_⟩
      have hx : lr[i]? = some (lr[i]'hi) := List.getElem?_eq_getElem hi
      generalize lr[i]'hi = x at hx
      obtain ⟨p1, p2, p3, p4, p5⟩ := n_cr i x hx
      obtain ⟨q1, q2, q3, q4, q5⟩ := n_r i x hx
      obtain ⟨w1, w2, w3, w4, w5, w6⟩ := v4 i x hx
      have gf := on_n (a := x.2.2.2.1) (by omega)
      have gt := on_n (a := x.2.2.2.2) (by omega)
      have gsf := on_n (a := s0 + x.2.2.2.1) (by omega)
      have gst := on_n (a := s0 + x.2.2.2.2) (by omega)
      have lnd : ((lo.drop x.2.2.2.1).take (x.2.2.2.2 - x.2.2.2.1)).length = x.2.2.2.2 - x.2.2.2.1 := by rw [List.length_take, List.length_drop]; omega
      have ind : rd_in ((lo.drop x.2.2.2.1).take (x.2.2.2.2 - x.2.2.2.1)) := fun y hy => v3 y (List.mem_of_mem_drop (List.mem_of_mem_take hy))
      have two : (Int32.ofNat x.1 = 2) ↔ (x.1 = 2) := by rw [show (2 : Int32) = Int32.ofNat 2 from rfl, on_eq (by omega) (by omega)]
      unfold pg_rul
      rw [p1, p2, p3, p4, p5, q1, q2, q3, q4, q5, hb_add _ _ (by omega) (by omega), hb_add _ _ (by omega) (by omega), gsf.2.1, gst.2.1, gf.2.1, gt.2.1, gs.2.1]
      refine ⟨⟨rfl, rfl, ?_⟩, (on_n (by omega)).1, ?_, fun e2 => ?_, (on_n (by omega)).1, ?_, gf.1, ?_, ?_, gsf.1, gst.1, by omega, by omega, fun m hm => ?_, fun m hm => ?_⟩
      · by_cases e2 : x.1 = 2
        · rw [if_pos e2, if_pos (two.mpr e2), if_pos e2]
        · rw [if_neg e2, if_neg (fun q => e2 (two.mp q))]
      · rw [show (2 : Int32) = Int32.ofNat 2 from rfl, on_le (by omega) (by omega)]; omega
      · rw [if_pos (two.mp e2)]
        exact ⟨(on_n (by omega)).1, by rw [show (9 : Int32) = Int32.ofNat 9 from rfl, on_le (by omega) (by omega)]; omega⟩
      · rw [show (255 : Int32) = Int32.ofNat 255 from rfl, on_le (by omega) (by omega)]; omega
      · rw [on_le (by omega) (by omega)]; omega
      · rw [show (80 : Int32) = Int32.ofNat 80 from rfl, on_le (by omega) (by omega)]; omega
      · rw [dep_dp ind (fun m x' hx' => ?_) m (by omega)]
        · exact w6 m (by omega)
        · have lt := (List.getElem?_eq_some_iff.mp hx').1
          rw [List.getElem?_take_of_lt (by omega), List.getElem?_drop] at hx'
          rw [show 80 * v + x.2.2.2.1 + m = 80 * v + (x.2.2.2.1 + m) by omega]
          exact (n_o _ x' hx').1
      · have hy : lo[x.2.2.2.1 + m]? = some (lo[x.2.2.2.1 + m]'(by omega)) := List.getElem?_eq_getElem (by omega)
        generalize lo[x.2.2.2.1 + m]'(by omega) = y at hy
        obtain ⟨o1, o2⟩ := n_o _ y hy
        obtain ⟨u1, u2⟩ := n_cs _ y hy
        have b := v3 y (List.mem_of_getElem? hy)
        rw [o1, o2, show s0 + x.2.2.2.1 + m = s0 + (x.2.2.2.1 + m) by omega, u1, u2]
        refine ⟨rfl, rfl, ?_, ?_⟩
        · rw [show (1 : Int32) = Int32.ofNat 1 from rfl, on_le (by omega) (by omega)]; omega
        · rw [show (7 : Int32) = Int32.ofNat 7 from rfl, on_le (by omega) (by omega)]; omega
    · have l : v < sl := by omega
      refine vp_cg (g3 v l) (by rw [hr0, t5, gr0.2.1, gr.2.1]; omega) (by rw [hs0, t6, gs0.2.1, gs.2.1]; omega) (fun j hj => e_c _ (by omega)) (fun j hj => e_cr j (by rw [hr0, gr0.2.1] at hj; exact hj)) (fun j hj => e_cs j (by rw [hs0, gs0.2.1] at hj; exact hj)) (e_act v l) (e_rules v l) (e_fr v l) (e_till v l) (fun j hj => e_r j (by omega)) (fun j hj => e_o j (by omega))
  · rw [gn1.2.1] at hw
    by_cases e : w = sl
    · subst e
      intro hA
      rw [e_act v hvw, n_act] at hA
      rw [e_till v hvw, n_fr]
      exact ⟨hall v hvw hA, (g3 v hvw).2.2.2.2.2.2.2.2.1⟩
    · rw [e_act v (by omega), e_act w (by omega), e_till v (by omega), e_fr w (by omega)]
      exact g4 v w hvw (by omega)
/-- once the versions of an act have ended, none is left -/
theorem ends_ge {act : Nat → Int32} {a today n : Int32} (hn0 : 0 ≤ n) (hn : n < 2147483647) (ht : 0 ≤ today) : ∀ (m : Nat) (i : Int32) (r : Nat → Int32), 0 ≤ i → i.toNatClampNeg + m = n.toNatClampNeg → ∀ k : Nat, k < n.toNatClampNeg → act k = a → (k < i.toNatClampNeg → 0 ≤ r k) → 0 ≤ pm_fo (fun (r : Nat → Int32) (k : Int32) => if act k.toNatClampNeg = a ∧ ¬ 0 ≤ r k.toNatClampNeg then pm_w r k.toNatClampNeg today else r) m i r k
  | 0, i, r, h0, hm, k, hk, ha, h => h (by omega)
  | m + 1, i, r, h0, hm, k, hk, ha, h => by
    have a1 := pi_tni hn0
    have a2 := pi_tni h0
    have l : i < n := by rw [pi_lt]; omega
    have e3 : (i + 1).toNatClampNeg = i.toNatClampNeg + 1 := pi_tn1 h0 (by grind)
    have e4 : 0 ≤ i + 1 := by grind
    unfold pm_fo
    refine ends_ge hn0 hn ht m (i + 1) _ e4 (by omega) k hk ha (fun hk2 => ?_)
    by_cases c : act i.toNatClampNeg = a ∧ ¬ 0 ≤ r i.toNatClampNeg
    · rw [if_pos c]
      by_cases e : k = i.toNatClampNeg
      · rw [e, pm_w_at, if_pos rfl]; exact ht
      · rw [pm_w_ne e]; exact h (by omega)
    · rw [if_neg c]
      by_cases e : k = i.toNatClampNeg
      · rw [e]
        rw [e] at ha
        exact Decidable.byContradiction (fun q => c ⟨ha, q⟩)
      · exact h (by omega)

