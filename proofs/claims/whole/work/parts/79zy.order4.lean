/-! THE CALL order: the reference's sets, one by one. -/
def pf_mbr1 (br mo : Nat → Int32) (U t : Nat) (best h : Int32) : Int32 := if U.testBit h.toNatClampNeg = true ∧ t.testBit h.toNatClampNeg = false then (if br (t ||| 2 ^ h.toNatClampNeg) + mo (t ||| 2 ^ h.toNatClampNeg) ≤ best then best else br (t ||| 2 ^ h.toNatClampNeg) + mo (t ||| 2 ^ h.toNatClampNeg)) else best
def pf_mbr (br mo : Nat → Int32) (U t : Nat) : Int32 := pm_fo (pf_mbr1 br mo U t) 8 0 (-1)
def pf_m0 (x : Int32) : Int32 := if 0 ≤ x then x else 0
/-- the sets from m on tell what is brought, and behind them -/
def pf_rok (brr : Nat → Int32) (U m : Nat) (br mo : Nat → Int32) : Prop := ∀ t, m ≤ t → t < 256 → pf_in t U → br t = brr t ∧ mo t = pf_m0 (pf_mbr br mo U t)
theorem mbr_cg {br br' mo mo' : Nat → Int32} {U t : Nat} (h : ∀ k, k < 8 → t.testBit k = false → br (t ||| 2 ^ k) = br' (t ||| 2 ^ k) ∧ mo (t ||| 2 ^ k) = mo' (t ||| 2 ^ k)) : pf_mbr br mo U t = pf_mbr br' mo' U t := by
  unfold pf_mbr
  have e := fo_cg0 (f := pf_mbr1 br mo U t) (g := pf_mbr1 br' mo' U t) (n := 8) (s := -1) (by decide) (by decide) (fun s i i0 i1 => by
    unfold pf_mbr1
    by_cases c : U.testBit i.toNatClampNeg = true ∧ t.testBit i.toNatClampNeg = false
    · have z := h i.toNatClampNeg (pi_tnlt (b := 8) i0 i1) c.2
      rw [if_pos c, if_pos c, z.1, z.2]
    · rw [if_neg c, if_neg c])
  exact e
theorem pr_orderSets {d L : Nat} {b : Bool} {J : Nat → Nat → Int64} {I0 : Nat → Nat → Int32} {x1 : Int32} {U : Nat} {nP nT : Int32} {tt cc th ch : Nat → Int32} {frr to is proved seals told wit witOf : Nat → Int32} {today : Int32} {place order coin fear stripped due roll rollday had : Nat → Int32} {Q : Int32 → Int64 → pm_H → Prop} (hr : pg_rig tt cc (I0 80 4) nP (I0 80 2) nT (I0 99) (I0 100) (I0 101) (I0 102) frr to is (I0 106) proved seals told wit witOf) (hh : pg_hou th ch (I0 80 2) today place order coin fear (I0 88) stripped due roll rollday had) (hU : U < 256)
    (hQ : ∀ br mo (D : Option (Int32 × Int32 × Option Int32)), pf_rok (pf_brr (I0 99) (I0 100) (I0 102) (I0 106) (I0 88) (I0 137) (I0 80 4)) U 0 br mo → pm_wp pm_code pm_meta (d + 2) 283 201 ([.ref 79, .int x1, .int (Int32.ofNat U), .int (-1), pm_vl (D.map (·.1)), pm_vl (D.map (·.2.1)), pm_vl (D.bind (·.2.2))], [], (pm_Gb L b, pm_r (pm_r I0 149 br) 150 mo, J)) Q) :
    ∀ (m : Nat) (br mo : Nat → Int32) (D : Option (Int32 × Int32 × Option Int32)), m ≤ 256 → pf_rok (pf_brr (I0 99) (I0 100) (I0 102) (I0 106) (I0 88) (I0 137) (I0 80 4)) U m br mo → pm_wp pm_code pm_meta (d + 2) 283 60 ([.ref 79, .int x1, .int (Int32.ofNat U), .int (Int32.ofNat m - 1), pm_vl (D.map (·.1)), pm_vl (D.map (·.2.1)), pm_vl (D.bind (·.2.2))], [], (pm_Gb L b, pm_r (pm_r I0 149 br) 150 mo, J)) Q := by
  have r : ∀ br mo k, ¬ k = 149 → ¬ k = 150 → pm_r (pm_r I0 149 br) 150 mo k = I0 k := fun br mo k h1 h2 => by rw [pm_r_row, if_neg h2, pm_r_row, if_neg h1]
  have r149 : ∀ br mo, pm_r (pm_r I0 149 br) 150 mo 149 = br := fun br mo => by rw [pm_r_row, if_neg (by decide), pm_r_row, if_pos rfl]
  have r150 : ∀ br mo, pm_r (pm_r I0 149 br) 150 mo 150 = mo := fun br mo => by rw [pm_r_row, if_pos rfl]
  intro m
  induction m with
  | zero =>
    intro br mo D _ hok
    have q := hQ br mo D hok
    have e1 : Int32.ofNat 0 - 1 = -1 := by decide
    have e2 : (-1 : Int32) < 0 := by decide
    rw [e1]
    rcases D with _ | ⟨a, c, _ | e⟩ <;> simp only [Option.map, Option.bind, pm_vl_n, pm_vl_s] at q ⊢ <;> first | (rw [pb_283_60, if_pos e2]; exact q) | (rw [pb_283_60b, if_pos e2]; exact q) | (rw [pb_283_60c, if_pos e2]; exact q)
  | succ t ih =>
    intro br mo D ht hok
    have p := pi_on (j := t) (by omega)
    have e1 : Int32.ofNat (t + 1) - 1 = Int32.ofNat t := by rw [← pi_onadd (by omega)]; grind
    have em : Int32.ofNat t + -1 = Int32.ofNat t - 1 := by rw [Int32.sub_eq_add_neg]
    have n0 : ¬ Int32.ofNat t < 0 := Int32.not_lt.mpr p.1
    have i256 : pm_in (Int32.ofNat t) 256 = true := pi_in p.1 (by rw [p.2.2]; omega)
    rw [e1]
    by_cases c : pf_in t U
    · have c' := (not_in (t := t) (U := U) (by omega) (by omega)).mpr c
      -- the inner loop: from h on, with what is the best so far
      have r1 := fun br mo k (h1 : ¬ k = 149) (h2 : ¬ k = 150) => r br mo k h1 h2
      have inner : ∀ (mm : Nat) (br mo : Nat → Int32) (best : Int32) (E : Option Int32), mm ≤ 8 → (∀ E', pm_wp pm_code pm_meta (d + 2) 283 178 ([.ref 79, .int x1, .int (Int32.ofNat U), .int (Int32.ofNat t), .int (pm_fo (pf_mbr1 br mo U t) mm (Int32.ofNat (8 - mm)) best), .int 8, pm_vl E'], [], (pm_Gb L b, pm_r (pm_r I0 149 br) 150 mo, J)) Q) → pm_wp pm_code pm_meta (d + 2) 283 96 ([.ref 79, .int x1, .int (Int32.ofNat U), .int (Int32.ofNat t), .int best, .int (Int32.ofNat (8 - mm)), pm_vl E], [], (pm_Gb L b, pm_r (pm_r I0 149 br) 150 mo, J)) Q := by
        intro mm
        induction mm with
        | zero =>
          intro br mo best E _ h
          have q := h E
          have h8 : (8 : Int32) ≤ Int32.ofNat (8 - 0) := by decide
          have e8 : Int32.ofNat (8 - 0) = 8 := by decide
          cases E <;> simp only [pm_vl_n, pm_vl_s] at q ⊢ <;> first | (rw [pb_283_96, if_pos h8, e8]; exact q) | (rw [pb_283_96b, if_pos h8, e8]; exact q)
        | succ mm ihm =>
          intro br mo best E hm h
          obtain ⟨k, hk⟩ : ∃ k, k = 8 - (mm + 1) := ⟨_, rfl⟩
          rw [← hk] at h ⊢
          have k8 : k < 8 := by omega
          have pk := pi_on (j := k) (by omega)
          have ek : Int32.ofNat k + 1 = Int32.ofNat (8 - mm) := by rw [pi_onadd (by omega)]; congr 1; omega
          have nk : ¬ (8 : Int32) ≤ Int32.ofNat k := by rw [pi_le, pk.2.2, show (8 : Int32).toInt = 8 from rfl]; omega
          have btU := bt_nat (S := U) (by omega) (by omega : k < 24)
          have btt := bt_nat0 (S := t) (by omega) (by omega : k < 24)
          have nx : pm_fo (pf_mbr1 br mo U t) (mm + 1) (Int32.ofNat k) best = pm_fo (pf_mbr1 br mo U t) mm (Int32.ofNat (8 - mm)) (pf_mbr1 br mo U t best (Int32.ofNat k)) := by rw [← ek]; rfl
          rw [nx] at h
          by_cases c1 : U.testBit k = true
          · have c1' : (Int32.ofNat U >>> (Int32.ofNat k &&& 31)) &&& 1 = 1 := btU.symm ▸ c1
            by_cases c2 : t.testBit k = false
            · have c2' : (Int32.ofNat t >>> (Int32.ofNat k &&& 31)) &&& 1 = 0 := btt.symm ▸ c2
              have zo := hb_or t k (by omega) (by omega)
              have l256 := or_256 (by omega : t < 256) k8
              have po := pi_on (j := t ||| 2 ^ k) (by omega)
              have io : pm_in (Int32.ofNat (t ||| 2 ^ k)) 256 = true := pi_in po.1 (by rw [po.2.2]; omega)
              have eb : pf_mbr1 br mo U t best (Int32.ofNat k) = (if br (t ||| 2 ^ k) + mo (t ||| 2 ^ k) ≤ best then best else br (t ||| 2 ^ k) + mo (t ||| 2 ^ k)) := by
                unfold pf_mbr1
                rw [pk.2.1, if_pos ⟨c1, c2⟩]
              rw [eb] at h
              have q := ihm br mo _ (some (Int32.ofNat (t ||| 2 ^ k))) (by omega) h
              simp only [pm_vl_s] at q
              by_cases c3 : br (t ||| 2 ^ k) + mo (t ||| 2 ^ k) ≤ best
              · rw [if_pos c3] at q
                cases E <;> simp only [pm_vl_n, pm_vl_s] <;> (first | rw [pb_283_96, if_neg nk, pb_283_103, if_pos c1', pb_283_113, if_pos c2', pb_283_122, zo.1, r149, r150, po.2.1, if_pos c3] | rw [pb_283_96b, if_neg nk, pb_283_103b, if_pos c1', pb_283_113b, if_pos c2', pb_283_122b, zo.1, r149, r150, po.2.1, if_pos c3]) <;> (refine ⟨io, io, ?_⟩; rw [pb_283_168, pb_283_170, pb_283_172b, ek]; exact q)
              · rw [if_neg c3] at q
                cases E <;> simp only [pm_vl_n, pm_vl_s] <;> (first | rw [pb_283_96, if_neg nk, pb_283_103, if_pos c1', pb_283_113, if_pos c2', pb_283_122, zo.1, r149, r150, po.2.1, if_neg c3] | rw [pb_283_96b, if_neg nk, pb_283_103b, if_pos c1', pb_283_113b, if_pos c2', pb_283_122b, zo.1, r149, r150, po.2.1, if_neg c3]) <;> (refine ⟨io, io, ?_⟩; rw [pb_283_150, r149, r150, po.2.1]; refine ⟨io, io, ?_⟩; rw [pb_283_170, pb_283_172b, ek]; exact q)
            · have c2' : ¬ (Int32.ofNat t >>> (Int32.ofNat k &&& 31)) &&& 1 = 0 := by rw [btt]; exact c2
              have eb : pf_mbr1 br mo U t best (Int32.ofNat k) = best := if_neg (by rw [pk.2.1]; exact fun q => c2 q.2)
              rw [eb] at h
              have q := ihm br mo _ E (by omega) h
              cases E <;> simp only [pm_vl_n, pm_vl_s] at q ⊢ <;> first | (rw [pb_283_96, if_neg nk, pb_283_103, if_pos c1', pb_283_113, if_neg c2', pb_283_172, ek]; exact q) | (rw [pb_283_96b, if_neg nk, pb_283_103b, if_pos c1', pb_283_113b, if_neg c2', pb_283_172b, ek]; exact q)
          · have c1' : ¬ (Int32.ofNat U >>> (Int32.ofNat k &&& 31)) &&& 1 = 1 := by rw [btU]; exact c1
            have eb : pf_mbr1 br mo U t best (Int32.ofNat k) = best := if_neg (by rw [pk.2.1]; exact fun q => c1 q.1)
            rw [eb] at h
            have q := ihm br mo _ E (by omega) h
            cases E <;> simp only [pm_vl_n, pm_vl_s] at q ⊢ <;> first | (rw [pb_283_96, if_neg nk, pb_283_103, if_neg c1', pb_283_172, ek]; exact q) | (rw [pb_283_96b, if_neg nk, pb_283_103b, if_neg c1', pb_283_172b, ek]; exact q)
      -- the turn
      have hr' : ∀ br mo, pg_rig tt cc (pm_r (pm_r I0 149 br) 150 mo 80 4) nP (pm_r (pm_r I0 149 br) 150 mo 80 2) nT (pm_r (pm_r I0 149 br) 150 mo 99) (pm_r (pm_r I0 149 br) 150 mo 100) (pm_r (pm_r I0 149 br) 150 mo 101) (pm_r (pm_r I0 149 br) 150 mo 102) frr to is (pm_r (pm_r I0 149 br) 150 mo 106) proved seals told wit witOf := fun br mo => by
        rw [r br mo 80 (by decide) (by decide), r br mo 99 (by decide) (by decide), r br mo 100 (by decide) (by decide), r br mo 101 (by decide) (by decide), r br mo 102 (by decide) (by decide), r br mo 106 (by decide) (by decide)]; exact hr
      have hh' : ∀ br mo, pg_hou th ch (pm_r (pm_r I0 149 br) 150 mo 80 2) today place order coin fear (pm_r (pm_r I0 149 br) 150 mo 88) stripped due roll rollday had := fun br mo => by
        rw [r br mo 80 (by decide) (by decide), r br mo 88 (by decide) (by decide)]; exact hh
      have bb := fun (Q : Int32 → Int64 → pm_H → Prop) => pr_bringsBehind (d := d) (L := L) (b := b) (J := J) (t := t) (Q := Q) (hr' br mo) (hh' br mo) (by omega)
      simp only [r br mo 80 (by decide) (by decide), r br mo 99 (by decide) (by decide), r br mo 100 (by decide) (by decide), r br mo 102 (by decide) (by decide), r br mo 106 (by decide) (by decide), r br mo 88 (by decide) (by decide), r br mo 137 (by decide) (by decide)] at bb
      have hpp : pm_u (pm_u (pm_r (pm_r I0 149 br) 150 mo) 149 t (pf_brr (I0 99) (I0 100) (I0 102) (I0 106) (I0 88) (I0 137) (I0 80 4) t)) 150 t 0 = pm_r (pm_r I0 149 (pm_w br t (pf_brr (I0 99) (I0 100) (I0 102) (I0 106) (I0 88) (I0 137) (I0 80 4) t))) 150 (pm_w mo t 0) := by
        funext k j
        simp only [pm_u_row, pm_r_row]
        by_cases k1 : k = 150
        · subst k1; simp
        · by_cases k2 : k = 149
          · subst k2; simp
          · simp only [k1, k2, if_false]
      have hend : ∀ v br mo, pm_u (pm_r (pm_r I0 149 br) 150 mo) 150 t v = pm_r (pm_r I0 149 br) 150 (pm_w mo t v) := fun v br mo => pm_u_r _ _ _ _ _
      have at82 : pm_wp pm_code pm_meta (d + 2) 283 96 ([.ref 79, .int x1, .int (Int32.ofNat U), .int (Int32.ofNat t), .int (-1), .int 0, pm_vl (D.bind (·.2.2))], [], (pm_Gb L b, pm_r (pm_r I0 149 (pm_w br t (pf_brr (I0 99) (I0 100) (I0 102) (I0 106) (I0 88) (I0 137) (I0 80 4) t))) 150 (pm_w mo t 0), J)) Q := by
        refine inner 8 _ _ (-1) (D.bind (·.2.2)) (Nat.le_refl 8) (fun E' => ?_)
        have efo : pm_fo (pf_mbr1 (pm_w br t (pf_brr (I0 99) (I0 100) (I0 102) (I0 106) (I0 88) (I0 137) (I0 80 4) t)) (pm_w mo t 0) U t) 8 (Int32.ofNat (8 - 8)) (-1) = pf_mbr (pm_w br t (pf_brr (I0 99) (I0 100) (I0 102) (I0 106) (I0 88) (I0 137) (I0 80 4) t)) (pm_w mo t 0) U t := rfl
        rw [efo]
        have ecg : ∀ v, pf_mbr (pm_w br t (pf_brr (I0 99) (I0 100) (I0 102) (I0 106) (I0 88) (I0 137) (I0 80 4) t)) (pm_w mo t 0) U t = pf_mbr (pm_w br t (pf_brr (I0 99) (I0 100) (I0 102) (I0 106) (I0 88) (I0 137) (I0 80 4) t)) (pm_w mo t v) U t := fun v => mbr_cg (fun k _ hb => by
          have := or_gt hb
          exact ⟨rfl, by rw [pm_w_ne (by omega), pm_w_ne (by omega)]⟩)
        have eww : ∀ v, pm_w (pm_w mo t 0) t v = pm_w mo t v := fun v => by
          funext j
          simp only [pm_w_at]
          split <;> rfl
        have q : ∀ E', pm_wp pm_code pm_meta (d + 2) 283 60 ([.ref 79, .int x1, .int (Int32.ofNat U), .int (Int32.ofNat t - 1), .int (pf_mbr (pm_w br t (pf_brr (I0 99) (I0 100) (I0 102) (I0 106) (I0 88) (I0 137) (I0 80 4) t)) (pm_w mo t 0) U t), .int 8, pm_vl E'], [], (pm_Gb L b, pm_r (pm_r I0 149 (pm_w br t (pf_brr (I0 99) (I0 100) (I0 102) (I0 106) (I0 88) (I0 137) (I0 80 4) t))) 150 (pm_w mo t (pf_m0 (pf_mbr (pm_w br t (pf_brr (I0 99) (I0 100) (I0 102) (I0 106) (I0 88) (I0 137) (I0 80 4) t)) (pm_w mo t 0) U t))), J)) Q := fun E' =>
          ih _ _ (some (_, 8, E')) (by omega) (fun s hs1 hs2 hs3 => by
            by_cases e : s = t
            · subst e
              rw [pm_w_at, if_pos rfl, pm_w_at, if_pos rfl]
              exact ⟨rfl, congrArg pf_m0 (ecg _)⟩
            · have z := hok s (by omega) hs2 hs3
              rw [pm_w_ne e, pm_w_ne e]
              exact ⟨z.1, z.2.trans (congrArg pf_m0 (mbr_cg (fun k _ hb => by
                have := or_gt hb
                exact ⟨by rw [pm_w_ne (by omega)], by rw [pm_w_ne (by omega)]⟩)))⟩)
        have q' := q E'
        by_cases c0 : 0 ≤ pf_mbr (pm_w br t (pf_brr (I0 99) (I0 100) (I0 102) (I0 106) (I0 88) (I0 137) (I0 80 4) t)) (pm_w mo t 0) U t
        · have em0 : pf_m0 (pf_mbr (pm_w br t (pf_brr (I0 99) (I0 100) (I0 102) (I0 106) (I0 88) (I0 137) (I0 80 4) t)) (pm_w mo t 0) U t) = pf_mbr (pm_w br t (pf_brr (I0 99) (I0 100) (I0 102) (I0 106) (I0 88) (I0 137) (I0 80 4) t)) (pm_w mo t 0) U t := if_pos c0
          rw [em0] at q'
          cases E' <;> simp only [pm_vl_n, pm_vl_s] at q' ⊢ <;> first | (rw [pb_283_178, if_pos c0, pb_283_192, pb_283_194, p.2.1, hend, eww, pb_283_195b, em]; exact ⟨i256, q'⟩) | (rw [pb_283_178b, if_pos c0, pb_283_192b, pb_283_194b, p.2.1, hend, eww, pb_283_195c, em]; exact ⟨i256, q'⟩)
        · have em0 : pf_m0 (pf_mbr (pm_w br t (pf_brr (I0 99) (I0 100) (I0 102) (I0 106) (I0 88) (I0 137) (I0 80 4) t)) (pm_w mo t 0) U t) = 0 := if_neg c0
          rw [em0] at q'
          cases E' <;> simp only [pm_vl_n, pm_vl_s] at q' ⊢ <;> first | (rw [pb_283_178, if_neg c0, pb_283_188, pb_283_194, p.2.1, hend, eww, pb_283_195b, em]; exact ⟨i256, q'⟩) | (rw [pb_283_178b, if_neg c0, pb_283_188b, pb_283_194b, p.2.1, hend, eww, pb_283_195c, em]; exact ⟨i256, q'⟩)
      rcases D with _ | ⟨a, c, _ | e⟩ <;> simp only [Option.map, Option.bind, pm_vl_n, pm_vl_s] at at82 ⊢ <;> first | (rw [pb_283_60, if_neg n0, pb_283_64, if_pos c', pb_283_72, bb, pb_283_82, p.2.1, hpp]; exact ⟨i256, i256, at82⟩) | (rw [pb_283_60b, if_neg n0, pb_283_64b, if_pos c', pb_283_72b, bb, pb_283_82b, p.2.1, hpp]; exact ⟨i256, i256, at82⟩) | (rw [pb_283_60c, if_neg n0, pb_283_64c, if_pos c', pb_283_72c, bb, pb_283_82c, p.2.1, hpp]; exact ⟨i256, i256, at82⟩)
    · have c' : ¬ (Int32.ofNat t &&& (Int32.ofNat U ^^^ (-1)) = 0) := fun q => c ((not_in (by omega) (by omega)).mp q)
      have q := ih br mo D (by omega) (fun s hs1 hs2 hs3 => by
        by_cases e : s = t
        · subst e; exact absurd hs3 c
        · exact hok s (by omega) hs2 hs3)
      rcases D with _ | ⟨a, c, _ | e⟩ <;> simp only [Option.map, Option.bind, pm_vl_n, pm_vl_s] at q ⊢ <;> first | (rw [pb_283_60, if_neg n0, pb_283_64, if_neg c', pb_283_195, em]; exact q) | (rw [pb_283_60b, if_neg n0, pb_283_64b, if_neg c', pb_283_195b, em]; exact q) | (rw [pb_283_60c, if_neg n0, pb_283_64c, if_neg c', pb_283_195c, em]; exact q)

