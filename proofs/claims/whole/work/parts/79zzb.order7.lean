/-! THE CALL order: the houses, one by one. -/
theorem pc_or2 : ∀ (k n i : Nat), i < k → n.testBit i = false → pf_pc k (n ||| 2 ^ i) = pf_pc k n + 1
  | 0, _, _, h, _ => absurd h (Nat.not_lt_zero _)
  | k + 1, n, 0, _, h2 => by
    have e0 : n % 2 = 0 := by
      rw [Nat.testBit_zero] at h2
      simpa using h2
    have e1 : (n ||| 2 ^ 0) % 2 = 1 := by
      have := Nat.or_mod_two_pow (a := n) (b := 2 ^ 0) (n := 1)
      simp only [Nat.pow_one] at this
      rw [this, e0]; rfl
    have e2 : (n ||| 2 ^ 0) / 2 = n / 2 := by
      have := Nat.or_div_two_pow (a := n) (b := 2 ^ 0) (n := 1)
      simp only [Nat.pow_one] at this
      rw [this]; simp
    show (n ||| 2 ^ 0) % 2 + pf_pc k ((n ||| 2 ^ 0) / 2) = n % 2 + pf_pc k (n / 2) + 1
    rw [e1, e2, e0]; omega
  | k + 1, n, i + 1, h, h2 => by
    have e1 : (n ||| 2 ^ (i + 1)) % 2 = n % 2 := by
      have := Nat.or_mod_two_pow (a := n) (b := 2 ^ (i + 1)) (n := 1)
      simp only [Nat.pow_one] at this
      rw [this, show 2 ^ (i + 1) % 2 = 0 by rw [Nat.pow_succ]; omega, Nat.or_zero]
    have e2 : (n ||| 2 ^ (i + 1)) / 2 = n / 2 ||| 2 ^ i := by
      have := Nat.or_div_two_pow (a := n) (b := 2 ^ (i + 1)) (n := 1)
      simp only [Nat.pow_one] at this
      rw [this, show 2 ^ (i + 1) / 2 = 2 ^ i by rw [Nat.pow_succ]; omega]
    show (n ||| 2 ^ (i + 1)) % 2 + pf_pc k ((n ||| 2 ^ (i + 1)) / 2) = n % 2 + pf_pc k (n / 2) + 1
    rw [e1, e2, pc_or2 k (n / 2) i (by omega) (by rw [← Nat.testBit_succ]; exact h2)]
    omega
/-- a set that is not all leaves one out -/
theorem in_more {t U : Nat} (h : pf_in t U) (hp : pf_pc 24 t < pf_pc 24 U) : ∃ k, U.testBit k = true ∧ t.testBit k = false := by
  refine Classical.byContradiction (fun c => ?_)
  have e : t = U := Nat.eq_of_testBit_eq (fun k => by
    by_cases c1 : t.testBit k = true
    · rw [c1, h k c1]
    · have c1' := Bool.eq_false_iff.mpr c1
      rw [c1']
      refine (Bool.eq_false_iff.mpr (fun q => ?_)).symm
      exact c ⟨k, q, c1'⟩)
  rw [e] at hp
  omega
/-- the most is reached -/
theorem mb_at {f : Nat → Int32} {n : Int32} {S : Nat} (n0 : 0 ≤ n) (n8 : n ≤ 8) (hp : ∀ k, k < n.toNatClampNeg → S.testBit k = false → 0 ≤ f (S ||| 2 ^ k)) (he : ∃ k, k < n.toNatClampNeg ∧ S.testBit k = false) : ∃ k, k < n.toNatClampNeg ∧ S.testBit k = false ∧ f (S ||| 2 ^ k) = pf_mb f n S := by
  have t1 := pi_tni n0
  have t2 := pi_le.mp n8
  have e8 : (8 : Int32).toInt = 8 := rfl
  unfold pf_mb
  have key : ∀ (m k : Nat) (a : Int32), k + m = n.toNatClampNeg → ((∃ j, j < k ∧ S.testBit j = false ∧ f (S ||| 2 ^ j) = a) ∨ (a = 0 ∧ ∀ j, j < k → ¬ S.testBit j = false)) →
      ((∃ j, j < n.toNatClampNeg ∧ S.testBit j = false ∧ f (S ||| 2 ^ j) = pm_fo (fun (best h : Int32) => if S.testBit h.toNatClampNeg = false then (if best < f (S ||| 2 ^ h.toNatClampNeg) then f (S ||| 2 ^ h.toNatClampNeg) else best) else best) m (Int32.ofNat k) a) ∨ (∀ j, j < n.toNatClampNeg → ¬ S.testBit j = false)) := by
    intro m
    induction m with
    | zero =>
      intro k a hk h
      have : k = n.toNatClampNeg := by omega
      rw [← this]
      rcases h with h | h
      · exact Or.inl h
      · exact Or.inr h.2
    | succ m ih =>
      intro k a hk h
      have p := pi_on (j := k) (by omega)
      unfold pm_fo
      rw [pi_onadd (by omega), p.2.1]
      refine ih (k + 1) _ (by omega) ?_
      by_cases c1 : S.testBit k = false
      · rw [if_pos c1]
        have z := hp k (by omega) c1
        by_cases c2 : a < f (S ||| 2 ^ k)
        · rw [if_pos c2]
          exact Or.inl ⟨k, by omega, c1, rfl⟩
        · rw [if_neg c2]
          rcases h with ⟨j, j1, j2, j3⟩ | ⟨h1, _⟩
          · exact Or.inl ⟨j, by omega, j2, j3⟩
          · refine Or.inl ⟨k, by omega, c1, ?_⟩
            rw [h1] at c2 ⊢
            exact Int32.le_antisymm (Int32.not_lt.mp c2) z
      · rw [if_neg c1]
        rcases h with ⟨j, j1, j2, j3⟩ | ⟨h1, h2⟩
        · exact Or.inl ⟨j, by omega, j2, j3⟩
        · refine Or.inr ⟨h1, fun j hj => ?_⟩
          by_cases e : j = k
          · rw [e]; exact c1
          · exact h2 j (by omega)
  rcases key n.toNatClampNeg 0 0 (by omega) (Or.inr ⟨rfl, fun j hj => absurd hj (Nat.not_lt_zero _)⟩) with h | h
  · exact h
  · obtain ⟨k, k1, k2⟩ := he
    exact absurd k2 (h k k1)
theorem fq_tail {c : Int32 → Prop} [DecidablePred c] : ∀ (m k : Nat), k + m ≤ 8 → (∀ j, k ≤ j → j < 8 → ¬ c (Int32.ofNat j)) → pm_fq c m (Int32.ofNat k) = none
  | 0, _, _, _ => rfl
  | m + 1, k, h, hc => by
    unfold pm_fq
    rw [if_neg (hc k (Nat.le_refl _) (by omega)), pi_onadd (by omega)]
    exact fq_tail m (k + 1) (by omega) (fun j h1 h2 => hc j (by omega) h2)
theorem fq_ext {c e : Int32 → Prop} [DecidablePred c] [DecidablePred e] {N : Nat} (hN : N ≤ 8) (h1 : ∀ k, k < N → (c (Int32.ofNat k) ↔ e (Int32.ofNat k))) (h2 : ∀ k, N ≤ k → k < 8 → ¬ e (Int32.ofNat k)) : ∀ (m k : Nat), k + m = N → pm_fq c m (Int32.ofNat k) = pm_fq e (m + (8 - N)) (Int32.ofNat k)
  | 0, k, h => by
    rw [Nat.zero_add, fq_tail (8 - N) k (by omega) (fun j h3 h4 => h2 j (by omega) h4)]; rfl
  | m + 1, k, h => by
    rw [show m + 1 + (8 - N) = (m + (8 - N)) + 1 by omega]
    unfold pm_fq
    by_cases c1 : c (Int32.ofNat k)
    · rw [if_pos c1, if_pos ((h1 k (by omega)).mp c1)]
    · rw [if_neg c1, if_neg (fun q => c1 ((h1 k (by omega)).mpr q)), pi_onadd (by omega)]
      exact fq_ext hN h1 h2 m (k + 1) (by omega)
theorem pr_pick {d L : Nat} {b : Bool} {J : Nat → Nat → Int64} {I0 : Nat → Nat → Int32} {br mo : Nat → Int32} {x1 x5 : Int32} {U t : Nat} {Q : Int32 → Int64 → pm_H → Prop} (hU : U < 256) (ht : t < 256)
    (hQ : pm_wp pm_code pm_meta d 283 301 ([.ref 79, .int x1, .int (Int32.ofNat U), .int (Int32.ofNat t), .int ((pm_fq (fun h : Int32 => U.testBit h.toNatClampNeg = true ∧ t.testBit h.toNatClampNeg = false ∧ br (t ||| 2 ^ h.toNatClampNeg) + mo (t ||| 2 ^ h.toNatClampNeg) = mo t) 8 0).getD (-3)), .int x5, .int (-1)], [], (pm_Gb L b, pm_r (pm_r I0 149 br) 150 mo, J)) Q) :
    ∀ (m : Nat), m ≤ 8 → pm_wp pm_code pm_meta d 283 235 ([.ref 79, .int x1, .int (Int32.ofNat U), .int (Int32.ofNat t), .int ((pm_fq (fun h : Int32 => U.testBit h.toNatClampNeg = true ∧ t.testBit h.toNatClampNeg = false ∧ br (t ||| 2 ^ h.toNatClampNeg) + mo (t ||| 2 ^ h.toNatClampNeg) = mo t) (8 - m) (Int32.ofNat m)).getD (-3)), .int x5, .int (Int32.ofNat m - 1)], [], (pm_Gb L b, pm_r (pm_r I0 149 br) 150 mo, J)) Q := by
  have r149 : ∀ br mo, pm_r (pm_r I0 149 br) 150 mo 149 = br := fun br mo => by rw [pm_r_row, if_neg (by decide), pm_r_row, if_pos rfl]
  have r150 : ∀ br mo, pm_r (pm_r I0 149 br) 150 mo 150 = mo := fun br mo => by rw [pm_r_row, if_pos rfl]
  intro m
  induction m with
  | zero =>
    intro _
    rw [show Int32.ofNat 0 - 1 = -1 from by decide, pb_283_235, if_pos (by decide)]
    exact hQ
  | succ k ih =>
    intro hk
    have z := ih (by omega)
    have p := pi_on (j := k) (by omega)
    have e1 : Int32.ofNat (k + 1) - 1 = Int32.ofNat k := by rw [← pi_onadd (by omega)]; grind
    have em : Int32.ofNat k + -1 = Int32.ofNat k - 1 := by rw [Int32.sub_eq_add_neg]
    have n0 : ¬ Int32.ofNat k < 0 := Int32.not_lt.mpr p.1
    rw [show 8 - k = (8 - (k + 1)) + 1 by omega] at z
    unfold pm_fq at z
    rw [pi_onadd (by omega), p.2.1] at z
    have btU := bt_nat (S := U) (by omega) (by omega : k < 24)
    have btt := bt_nat0 (S := t) (by omega) (by omega : k < 24)
    rw [e1, pb_283_235, if_neg n0, pb_283_240]
    by_cases c1 : U.testBit k = true
    · have c1' : (Int32.ofNat U >>> (Int32.ofNat k &&& 31)) &&& 1 = 1 := btU.symm ▸ c1
      rw [if_pos c1', pb_283_250]
      by_cases c2 : t.testBit k = false
      · have c2' : (Int32.ofNat t >>> (Int32.ofNat k &&& 31)) &&& 1 = 0 := btt.symm ▸ c2
        have zo := hb_or t k (by omega) (by omega)
        have l256 := or_256 ht (by omega : k < 8)
        have po := pi_on (j := t ||| 2 ^ k) (by omega)
        have pt := pi_on (j := t) (by omega)
        have io : pm_in (Int32.ofNat (t ||| 2 ^ k)) 256 = true := pi_in po.1 (by rw [po.2.2]; omega)
        have it : pm_in (Int32.ofNat t) 256 = true := pi_in pt.1 (by rw [pt.2.2]; omega)
        rw [if_pos c2', pb_283_259, zo.1, r149, r150, po.2.1, pt.2.1]
        refine ⟨io, io, it, ?_⟩
        by_cases c3 : br (t ||| 2 ^ k) + mo (t ||| 2 ^ k) = mo t
        · rw [if_pos ⟨c1, c2, c3⟩] at z
          rw [if_pos c3, pb_283_291, pb_283_295, em]
          exact z
        · rw [if_neg (fun q => c3 q.2.2)] at z
          rw [if_neg c3, pb_283_295, em]
          exact z
      · have c2' : ¬ (Int32.ofNat t >>> (Int32.ofNat k &&& 31)) &&& 1 = 0 := by rw [btt]; exact c2
        rw [if_neg (fun q => c2 q.2.1)] at z
        rw [if_neg c2', pb_283_295, em]
        exact z
    · have c1' : ¬ (Int32.ofNat U >>> (Int32.ofNat k &&& 31)) &&& 1 = 1 := by rw [btU]; exact c1
      rw [if_neg (fun q => c1 q.1)] at z
      rw [if_neg c1', pb_283_295, em]
      exact z
theorem pr_steps {d L : Nat} {b : Bool} {J : Nat → Nat → Int64} {I0 : Nat → Nat → Int32} {n : Int32} {x : Nat} {f br mo fell : Nat → Int32} {Q : Int32 → Int64 → pm_H → Prop} (n0 : 0 ≤ n) (n8 : n ≤ 8) (hx : x ≤ pf_pc 24 (pf_mk (fun k => ¬ 0 ≤ fell k) n.toNatClampNeg))
    (hrel : ∀ t, t < 256 → pf_in t (pf_mk (fun k => ¬ 0 ≤ fell k) n.toNatClampNeg) → pf_mb f n ((pf_mk (fun k => 0 ≤ fell k) n.toNatClampNeg) ||| t) = mo t ∧ 0 ≤ mo t ∧ (¬ t = 0 → f ((pf_mk (fun k => 0 ≤ fell k) n.toNatClampNeg) ||| t) = br t + mo t) ∧ 0 ≤ br t + mo t) :
    ∀ (m j t : Nat) (last : Int32) (E : Option Int32), j + m = x → pf_in t (pf_mk (fun k => ¬ 0 ≤ fell k) n.toNatClampNeg) → pf_pc 24 t = j → Q (pf_hst (pf_nb f n) m ((pf_mk (fun k => 0 ≤ fell k) n.toNatClampNeg) ||| t) last) 0 (pm_Gb L b, pm_r (pm_r I0 149 br) 150 mo, J) →
      pm_wp pm_code pm_meta d 283 221 ([.ref 79, .int (Int32.ofNat x), .int (Int32.ofNat (pf_mk (fun k => ¬ 0 ≤ fell k) n.toNatClampNeg)), .int (Int32.ofNat t), .int last, .int (Int32.ofNat j), pm_vl E], [], (pm_Gb L b, pm_r (pm_r I0 149 br) 150 mo, J)) Q := by
  have t1 := pi_tni n0
  have t2 := pi_le.mp n8
  have e8 : (8 : Int32).toInt = 8 := rfl
  have l2 : 2 ^ n.toNatClampNeg ≤ 2 ^ 8 := Nat.pow_le_pow_right (by decide) (by omega)
  have lU := mk_lt (p := fun k => ¬ 0 ≤ fell k) n.toNatClampNeg
  have pcU := pc_le 24 (pf_mk (fun k => ¬ 0 ≤ fell k) n.toNatClampNeg)
  have px := pi_on (j := x) (by omega)
  intro m
  induction m with
  | zero =>
    intro j t last E hj hin hp h
    have pj := pi_on (j := j) (by omega)
    have c : Int32.ofNat x ≤ Int32.ofNat j := by rw [pi_le, px.2.2, pj.2.2]; omega
    cases E <;> simp only [pm_vl_n, pm_vl_s] <;> first | (rw [pb_283_221, if_pos c, pb_283_314]; exact h) | (rw [pb_283_221b, if_pos c, pb_283_314b]; exact h)
  | succ m ih =>
    intro j t last E hj hin hp h
    have pj := pi_on (j := j) (by omega)
    have c : ¬ Int32.ofNat x ≤ Int32.ofNat j := by rw [pi_le, px.2.2, pj.2.2]; omega
    have t256 : t < 256 := by
      refine Nat.lt_of_not_le (fun q => ?_)
      obtain ⟨k, k1, k2⟩ := Nat.exists_ge_and_testBit_of_ge_two_pow (n := 8) q
      have := (mk_bit n.toNatClampNeg |>.mp (hin k k2)).1
      omega
    obtain ⟨k0, u0, c0⟩ := in_more hin (by omega)
    have kn := (mk_bit n.toNatClampNeg |>.mp u0).1
    have gt : ∀ k, k < n.toNatClampNeg → ((pf_mk (fun k => 0 ≤ fell k) n.toNatClampNeg) ||| t).testBit k = false → pf_in (t ||| 2 ^ k) (pf_mk (fun k => ¬ 0 ≤ fell k) n.toNatClampNeg) ∧ ¬ t ||| 2 ^ k = 0 ∧ t ||| 2 ^ k < 256 := fun k hk hb => by
      have w := (fu_bit hk).mp hb
      refine ⟨fun j hj => ?_, ?_, or_256 t256 (by omega)⟩
      · rw [Nat.testBit_or, Bool.or_eq_true] at hj
        rcases hj with hj | hj
        · exact hin j hj
        · rw [Nat.testBit_two_pow] at hj
          have : k = j := by simpa using hj
          rw [← this]; exact w.1
      · have := or_gt w.2
        omega
    have rel := hrel t t256 hin
    have hf : ∀ k, k < n.toNatClampNeg → ((pf_mk (fun k => 0 ≤ fell k) n.toNatClampNeg) ||| t).testBit k = false → f (((pf_mk (fun k => 0 ≤ fell k) n.toNatClampNeg) ||| t) ||| 2 ^ k) = br (t ||| 2 ^ k) + mo (t ||| 2 ^ k) ∧ 0 ≤ f (((pf_mk (fun k => 0 ≤ fell k) n.toNatClampNeg) ||| t) ||| 2 ^ k) := fun k hk hb => by
      have w := gt k hk hb
      have z := hrel (t ||| 2 ^ k) w.2.2 w.1
      rw [Nat.or_assoc, z.2.2.1 w.2.1]
      exact ⟨rfl, z.2.2.2⟩
    -- the one that is found
    obtain ⟨k1, k1n, k1b, k1e⟩ := mb_at n0 n8 (fun k hk hb => (hf k hk hb).2) ⟨k0, kn, (fu_bit kn).mpr ⟨u0, c0⟩⟩
    have p1 := pi_on (j := k1) (by omega)
    have some1 : (pf_nb f n ((pf_mk (fun k => 0 ≤ fell k) n.toNatClampNeg) ||| t)).isSome = true := by
      unfold pf_nb
      rw [fq_ex n0 (pi_ltb (Int32.lt_of_le_of_lt n8 (by decide : (8 : Int32) < 100)) (by decide)) n.toNatClampNeg 0 (Int32.le_refl 0) (by simp)]
      exact ⟨Int32.ofNat k1, p1.1, pi_onlt (by omega) k1n, by rw [p1.2.1]; exact ⟨k1b, k1e⟩⟩
    obtain ⟨q, hq⟩ := Option.isSome_iff_exists.mp some1
    have zq := nb_k n0 (pi_ltb (Int32.lt_of_le_of_lt n8 (by decide : (8 : Int32) < 100)) (by decide)) hq
    have qn := pi_tnlt zq.2.1 zq.2.2
    have wq := gt q.toNatClampNeg qn zq.1.1
    have bq := (fu_bit qn).mp zq.1.1
    have same : pf_nb f n ((pf_mk (fun k => 0 ≤ fell k) n.toNatClampNeg) ||| t) = pm_fq (fun h : Int32 => (pf_mk (fun k => ¬ 0 ≤ fell k) n.toNatClampNeg).testBit h.toNatClampNeg = true ∧ t.testBit h.toNatClampNeg = false ∧ br (t ||| 2 ^ h.toNatClampNeg) + mo (t ||| 2 ^ h.toNatClampNeg) = mo t) 8 0 := by
      unfold pf_nb
      have e := fq_ext (c := fun h : Int32 => ((pf_mk (fun k => 0 ≤ fell k) n.toNatClampNeg) ||| t).testBit h.toNatClampNeg = false ∧ f (((pf_mk (fun k => 0 ≤ fell k) n.toNatClampNeg) ||| t) ||| 2 ^ h.toNatClampNeg) = pf_mb f n ((pf_mk (fun k => 0 ≤ fell k) n.toNatClampNeg) ||| t)) (e := (fun h : Int32 => (pf_mk (fun k => ¬ 0 ≤ fell k) n.toNatClampNeg).testBit h.toNatClampNeg = true ∧ t.testBit h.toNatClampNeg = false ∧ br (t ||| 2 ^ h.toNatClampNeg) + mo (t ||| 2 ^ h.toNatClampNeg) = mo t)) (N := n.toNatClampNeg) (by omega) (fun k hk => by
        rw [(pi_on (j := k) (by omega)).2.1]
        constructor
        · intro h
          have w := (fu_bit hk).mp h.1
          exact ⟨w.1, w.2, by rw [← (hf k hk h.1).1, h.2, rel.1]⟩
        · intro h
          have w := (fu_bit hk).mpr ⟨h.1, h.2.1⟩
          exact ⟨w, by rw [(hf k hk w).1, h.2.2, rel.1]⟩) (fun k h1 h2 h => by
        rw [(pi_on (j := k) (by omega)).2.1, fu_out h1] at h
        exact absurd h.1 (by decide)) n.toNatClampNeg 0 (by omega)
      rw [show n.toNatClampNeg + (8 - n.toNatClampNeg) = 8 by omega] at e
      exact e
    have hst : pf_hst (pf_nb f n) (m + 1) ((pf_mk (fun k => 0 ≤ fell k) n.toNatClampNeg) ||| t) last = pf_hst (pf_nb f n) m ((pf_mk (fun k => 0 ≤ fell k) n.toNatClampNeg) ||| (t ||| 2 ^ q.toNatClampNeg)) q := by
      conv => lhs; unfold pf_hst
      rw [hq, ← Nat.or_assoc]
    rw [hst] at h
    have go := ih (j + 1) (t ||| 2 ^ q.toNatClampNeg) q (some (-1)) (by omega) wq.1 (by rw [pc_or2 24 t _ (by omega) bq.2, hp]) h
    have zo := hb_or t q.toNatClampNeg (by omega) (by omega)
    rw [pi_ofNat zq.2.1] at zo
    have at235 := pr_pick (d := d) (L := L) (b := b) (J := J) (I0 := I0) (br := br) (mo := mo) (x1 := Int32.ofNat x) (x5 := Int32.ofNat j) (U := (pf_mk (fun k => ¬ 0 ≤ fell k) n.toNatClampNeg)) (t := t) (Q := Q) (by omega) t256 (by
      rw [← same, hq]
      simp only [Option.getD_some, pm_vl_s] at go ⊢
      rw [pb_283_301, zo.1, pi_onadd (by omega)]
      exact go) 8 (Nat.le_refl 8)
    have e7 : Int32.ofNat 8 - 1 = 7 := by decide
    have e0 : (pm_fq (fun h : Int32 => (pf_mk (fun k => ¬ 0 ≤ fell k) n.toNatClampNeg).testBit h.toNatClampNeg = true ∧ t.testBit h.toNatClampNeg = false ∧ br (t ||| 2 ^ h.toNatClampNeg) + mo (t ||| 2 ^ h.toNatClampNeg) = mo t) (8 - 8) (Int32.ofNat 8)).getD (-3) = -3 := rfl
    rw [e7, e0] at at235
    cases E <;> simp only [pm_vl_n, pm_vl_s] <;> first | (rw [pb_283_221, if_neg c, pb_283_227]; exact at235) | (rw [pb_283_221b, if_neg c, pb_283_227b]; exact at235)

