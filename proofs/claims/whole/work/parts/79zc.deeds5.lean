/-! What the deeds of a field tell: the reference. -/
def pf_wr (fr to day amount : Nat → Int32) (D person : Int32) : List Nat → Int32 → Int32 → Int32 → Int32 → Int32 × Int32 × Int32
  | [], _, o, q, s => (o, q, s)
  | x :: l, has, o, q, s => if ¬ has = -3 ∧ ¬ fr x = has then pf_wr fr to day amount D person l has o (q + 1) s else (if day x ≤ D then pf_wr fr to day amount D person l (to x) (to x) q (s + (if fr x = person then amount x else 0)) else pf_wr fr to day amount D person l (to x) o q s)
theorem bf_irr {day : Nat → Int32} {a : Nat} (h : pf_bf day a a) : False := by
  rcases h with h | h
  · exact Int32.lt_irrefl h
  · omega
theorem bf_asym {day : Nat → Int32} {a c : Nat} (h : pf_bf day a c) (h2 : pf_bf day c a) : False := bf_irr (bf_trans h h2)
/-- the locals of the search that are dead when it begins anew -/
def pf_d3 : Option (Int32 × Int32 × Option Int32) → Value × Value × Value
  | none => (pm_unset, pm_unset, pm_unset)
  | some (a, c, e) => (.int a, .int c, pm_vl e)
theorem pr_follows_loop {d L : Nat} {b : Bool} {J : Nat → Nat → Int64} {I0 : Nat → Nat → Int32} {x1 x2 x3 x4 : Int32} {Q : Int32 → Int64 → pm_H → Prop} (n0 : 0 ≤ I0 80 9) (n24 : I0 80 9 ≤ 24) (l : List Nat) (hl : ∀ x, x ∈ l ↔ x < (I0 80 9).toNatClampNeg ∧ (I0 130 x = x1 ∧ I0 135 x ≤ x3)) (hs : l.Pairwise (fun a c => pf_bf (I0 133) a c)) :
    ∀ (rest pre : List Nat) (last : Option Nat) (has : Int32) (D : Option (Int32 × Int32 × Option Int32)) (I : Nat → Nat → Int32), l = pre ++ rest → ((last = none ∧ pre = []) ∨ ∃ p z, pre = p ++ [z] ∧ last = some z) → (∀ k, ¬ k = 79 → I k = I0 k) → (∀ j, ¬ j = 89 → ¬ j = 90 → ¬ j = 91 → I 79 j = I0 79 j) →
    (∀ I', (∀ k, ¬ k = 79 → I' k = I0 k) → (∀ j, ¬ j = 89 → ¬ j = 90 → ¬ j = 91 → I' 79 j = I0 79 j) → (I' 79 89, I' 79 90, I' 79 91) = pf_wr (I0 131) (I0 132) (I0 133) (I0 134) x2 x4 rest has (I 79 89) (I 79 90) (I 79 91) → Q 0 0 (pm_Gb L b, I', J)) →
    pm_wp pm_code pm_meta d 278 23 ([.ref 79, .int x1, .int x2, .int x3, .int x4, .int has, .int (pf_lv last), (pf_d3 D).1, (pf_d3 D).2.1, (pf_d3 D).2.2], [], (pm_Gb L b, I, J)) Q := by
  have e24 : (24 : Int32).toInt = 24 := rfl
  have t1 := pi_tni n0
  have t2 := pi_le.mp n24
  intro rest
  induction rest with
  | nil =>
    intro pre last has D I hl0 hlast hI hI79 hQ
    have r := fun k (h : ¬ k = 79) => hI k h
    have e80 := r 80 (by decide)
    have lm : ∀ z, last = some z → z ∈ l := fun z hz => by
      rcases hlast with ⟨h1, _⟩ | ⟨p, y, h1, h2⟩
      · rw [h1] at hz; exact absurd hz (by simp)
      · rw [h2] at hz
        have : y = z := by simpa using hz
        subst this
        rw [hl0, h1]; simp
    have lz : ∀ z, last = some z → z < (I 80 9).toNatClampNeg := fun z hz => by rw [e80]; exact ((hl z).mp (lm z hz)).1
    have bh : ∀ j, j ∈ l → ((last = none ∨ ∃ z, last = some z ∧ pf_bf (I0 133) z j) ↔ j ∈ ([] : List Nat)) := fun j hj => by
      rcases hlast with ⟨h1, h2⟩ | ⟨p, y, h1, h2⟩
      · rw [hl0, h2] at hj
        rw [List.nil_append] at hj
        exact ⟨fun _ => hj, fun _ => Or.inl h1⟩
      · rw [hl0, h1] at hj hs
        rw [List.pairwise_append] at hs
        constructor
        · rintro (q | ⟨z, q1, q2⟩)
          · rw [q] at h2; exact absurd h2 (by simp)
          · rw [h2] at q1
            have : y = z := by simpa using q1
            subst this
            rcases List.mem_append.mp hj with q | q
            · exfalso
              rcases List.mem_append.mp q with q | q
              · have := (List.pairwise_append.mp hs.1).2.2 j q y (by simp)
                exact bf_asym this q2
              · have : j = y := by simpa using q
                subst this
                exact bf_irr q2
            · exact q
        · intro q
          exact Or.inr ⟨y, h2, hs.2.2 y (by simp) j q⟩
    have sel : ∀ D', pm_wp pm_code pm_meta d 278 29 ([.ref 79, .int x1, .int x2, .int x3, .int x4, .int has, .int (pf_lv last), .int (-1), .int (Int32.ofNat 0), pm_vl D'], [], (pm_Gb L b, I, J)) Q := fun D' => by
      refine pr_select (d := d) (I := I) (x1 := x1) (x2 := x2) (x3 := x3) (x4 := x4) (x5 := has) (last := last) (by rw [e80]; exact n0) (by rw [e80]; exact n24) lz (fun v D2 hv => ?_) (I 80 9).toNatClampNeg 0 (-1) D' (by omega) (Or.inl ⟨rfl, fun j hj => absurd hj (Nat.not_lt_zero _)⟩)
      rw [r 130 (by decide), r 133 (by decide), r 135 (by decide), e80] at hv
      have v1 : v = -1 := by
        rcases hv with ⟨h1, _⟩ | ⟨z, h1, h2, h3, h4⟩
        · exact h1
        · exfalso
          have hz := (hl z).mpr ⟨h2, h3.1⟩
          exact absurd ((bh z hz).mp h3.2) (by simp)
      subst v1
      have c : ¬ (0 : Int32) ≤ -1 := by decide
      have q := hQ I hI hI79 rfl
      cases D2 <;> simp only [pm_vl_n, pm_vl_s] <;> first | (rw [pb_278_153, if_neg c, pb_278_158]; exact q) | (rw [pb_278_153b, if_neg c, pb_278_158b]; exact q)
    have go : pm_wp pm_code pm_meta d 278 23 ([.ref 79, .int x1, .int x2, .int x3, .int x4, .int has, .int (pf_lv last), (pf_d3 D).1, (pf_d3 D).2.1, (pf_d3 D).2.2], [], (pm_Gb L b, I, J)) Q := by
      rcases D with _ | ⟨a, c, e⟩
      · have z := sel none
        simp only [pf_d3, pm_vl_n] at z ⊢
        rw [pb_278_23]; exact z
      · have z := sel e
        cases e <;> simp only [pf_d3, pm_vl_n, pm_vl_s] at z ⊢ <;> first | (rw [pb_278_23b]; exact z) | (rw [pb_278_23c]; exact z)
    exact go
  | cons x rest ih =>
    intro pre last has D I hl0 hlast hI hI79 hQ
    have r := fun k (h : ¬ k = 79) => hI k h
    have e80 := r 80 (by decide)
    have lm : ∀ z, last = some z → z ∈ l := fun z hz => by
      rcases hlast with ⟨h1, _⟩ | ⟨p, y, h1, h2⟩
      · rw [h1] at hz; exact absurd hz (by simp)
      · rw [h2] at hz
        have : y = z := by simpa using hz
        subst this
        rw [hl0, h1]; simp
    have lz : ∀ z, last = some z → z < (I 80 9).toNatClampNeg := fun z hz => by rw [e80]; exact ((hl z).mp (lm z hz)).1
    have bh : ∀ j, j ∈ l → ((last = none ∨ ∃ z, last = some z ∧ pf_bf (I0 133) z j) ↔ j ∈ (x :: rest)) := fun j hj => by
      rcases hlast with ⟨h1, h2⟩ | ⟨p, y, h1, h2⟩
      · rw [hl0, h2] at hj
        rw [List.nil_append] at hj
        exact ⟨fun _ => hj, fun _ => Or.inl h1⟩
      · rw [hl0, h1] at hj hs
        rw [List.pairwise_append] at hs
        constructor
        · rintro (q | ⟨z, q1, q2⟩)
          · rw [q] at h2; exact absurd h2 (by simp)
          · rw [h2] at q1
            have : y = z := by simpa using q1
            subst this
            rcases List.mem_append.mp hj with q | q
            · exfalso
              rcases List.mem_append.mp q with q | q
              · have := (List.pairwise_append.mp hs.1).2.2 j q y (by simp)
                exact bf_asym this q2
              · have : j = y := by simpa using q
                subst this
                exact bf_irr q2
            · exact q
        · intro q
          exact Or.inr ⟨y, h2, hs.2.2 y (by simp) j q⟩
    have hxl : x ∈ l := by rw [hl0]; simp
    have hxe := (hl x).mp hxl
    have px := pi_on (j := x) (by omega)
    have ix := pi_in24 n24 px.1 (pi_onlt (by omega) hxe.1)
    have next : ∀ (has' : Int32) (D' : Option (Int32 × Int32 × Option Int32)) (I1 : Nat → Nat → Int32), (∀ k, ¬ k = 79 → I1 k = I0 k) → (∀ j, ¬ j = 89 → ¬ j = 90 → ¬ j = 91 → I1 79 j = I0 79 j) → pf_wr (I0 131) (I0 132) (I0 133) (I0 134) x2 x4 rest has' (I1 79 89) (I1 79 90) (I1 79 91) = pf_wr (I0 131) (I0 132) (I0 133) (I0 134) x2 x4 (x :: rest) has (I 79 89) (I 79 90) (I 79 91) → pm_wp pm_code pm_meta d 278 23 ([.ref 79, .int x1, .int x2, .int x3, .int x4, .int has', .int (Int32.ofNat x), (pf_d3 D').1, (pf_d3 D').2.1, (pf_d3 D').2.2], [], (pm_Gb L b, I1, J)) Q := fun has' D' I1 h1 h2 h3 =>
      ih (pre ++ [x]) (some x) has' D' I1 (by rw [hl0]; simp) (Or.inr ⟨pre, x, rfl, rfl⟩) h1 h2 (fun I' g1 g2 g3 => hQ I' g1 g2 (by rw [g3, h3]))
    have sel : ∀ D', pm_wp pm_code pm_meta d 278 29 ([.ref 79, .int x1, .int x2, .int x3, .int x4, .int has, .int (pf_lv last), .int (-1), .int (Int32.ofNat 0), pm_vl D'], [], (pm_Gb L b, I, J)) Q := fun D' => by
      refine pr_select (d := d) (I := I) (x1 := x1) (x2 := x2) (x3 := x3) (x4 := x4) (x5 := has) (last := last) (by rw [e80]; exact n0) (by rw [e80]; exact n24) lz (fun v D2 hv => ?_) (I 80 9).toNatClampNeg 0 (-1) D' (by omega) (Or.inl ⟨rfl, fun j hj => absurd hj (Nat.not_lt_zero _)⟩)
      rw [r 130 (by decide), r 133 (by decide), r 135 (by decide), e80] at hv
      have v1 : v = Int32.ofNat x := by
        have sx := (bh x hxl).mpr (by simp)
        rcases hv with ⟨_, h2⟩ | ⟨z, h1, h2, h3, h4⟩
        · exact absurd ⟨hxe.2, sx⟩ (h2 x hxe.1)
        · have hz := (hl z).mpr ⟨h2, h3.1⟩
          have zr := (bh z hz).mp h3.2
          rcases h4 x hxe.1 ⟨hxe.2, sx⟩ with q | q
          · rw [h1, q]
          · rcases List.mem_cons.mp zr with q2 | q2
            · rw [h1, q2]
            · exfalso
              rw [hl0, List.pairwise_append] at hs
              exact bf_asym ((List.pairwise_cons.mp hs.2.1).1 z q2) q
      subst v1
      have c : (0 : Int32) ≤ Int32.ofNat x := px.1
      -- where the deed goes on from who has it
      have yes : (has = -3 ∨ I0 131 x = has) → pm_wp pm_code pm_meta d 278 191 ([.ref 79, .int x1, .int x2, .int x3, .int x4, .int has, .int (pf_lv last), .int (Int32.ofNat x), .int (I 80 9), pm_vl D2], [], (pm_Gb L b, I, J)) Q := fun hor => by
        have hno : ¬ (¬ has = -3 ∧ ¬ I0 131 x = has) := fun q => by
          rcases hor with e | e
          · exact q.1 e
          · exact q.2 e
        by_cases c1 : I0 133 x ≤ x2
        · have hw : pf_wr (I0 131) (I0 132) (I0 133) (I0 134) x2 x4 (x :: rest) has (I 79 89) (I 79 90) (I 79 91) = pf_wr (I0 131) (I0 132) (I0 133) (I0 134) x2 x4 rest (I0 132 x) (I0 132 x) (I 79 90) (I 79 91 + (if I0 131 x = x4 then I0 134 x else 0)) := by
            show (if ¬ has = -3 ∧ ¬ I0 131 x = has then _ else (if I0 133 x ≤ x2 then _ else _)) = _
            rw [if_neg hno, if_pos c1]
          have c2 : ¬ x2 < I0 133 x := Int32.not_lt.mpr c1
          have z := fun a D' => next (I0 132 x) D' (pm_u (pm_u I 79 89 (I0 132 x)) 79 91 (I 79 91 + a)) (fun k h => by rw [pm_u_row, if_neg h, pm_u_row, if_neg h]; exact hI k h) (fun j h1 h2 h3 => by rw [pm_u_row, if_pos rfl, pm_w_ne h3, pm_u_row, if_pos rfl, pm_w_ne h1]; exact hI79 j h1 h2 h3)
          have v : ∀ a, (pm_u (pm_u I 79 89 (I0 132 x)) 79 91 (I 79 91 + a)) 79 89 = I0 132 x ∧ (pm_u (pm_u I 79 89 (I0 132 x)) 79 91 (I 79 91 + a)) 79 90 = I 79 90 ∧ (pm_u (pm_u I 79 89 (I0 132 x)) 79 91 (I 79 91 + a)) 79 91 = I 79 91 + a := fun a => by
            refine ⟨?_, ?_, pm_u_at _ _ _ _⟩
            · rw [pm_u_row, if_pos rfl, pm_w_ne (by decide), pm_u_at]
            · rw [pm_u_row, if_pos rfl, pm_w_ne (by decide), pm_u_row, if_pos rfl, pm_w_ne (by decide)]
          have u131 : pm_u I 79 89 (I0 132 x) 131 x = I0 131 x := by rw [pm_u_row, if_neg (by decide), r 131 (by decide)]
          have u134 : pm_u I 79 89 (I0 132 x) 134 x = I0 134 x := by rw [pm_u_row, if_neg (by decide), r 134 (by decide)]
          have u91 : pm_u I 79 89 (I0 132 x) 79 91 = I 79 91 := by rw [pm_u_row, if_pos rfl, pm_w_ne (by decide)]
          by_cases c4 : I0 131 x = x4
          · have z1 := z (I0 134 x) (some (Int32.ofNat x, I 80 9, D2)) (by rw [(v _).1, (v _).2.1, (v _).2.2, hw, if_pos c4])
            cases D2 <;> simp only [pf_d3, pm_vl_n, pm_vl_s] at z1 ⊢ <;> first | (rw [pb_278_191, px.2.1, r 133 (by decide), r 132 (by decide), if_neg c2, pb_278_211, px.2.1, u131, if_pos c4, u91, pb_278_234, px.2.1, u134, pb_278_245, pb_278_249]; exact ⟨ix, ix, ix, ix, z1⟩) | (rw [pb_278_191b, px.2.1, r 133 (by decide), r 132 (by decide), if_neg c2, pb_278_211b, px.2.1, u131, if_pos c4, u91, pb_278_234b, px.2.1, u134, pb_278_245b, pb_278_249b]; exact ⟨ix, ix, ix, ix, z1⟩)
          · have z1 := z 0 (some (Int32.ofNat x, I 80 9, D2)) (by rw [(v _).1, (v _).2.1, (v _).2.2, hw, if_neg c4])
            cases D2 <;> simp only [pf_d3, pm_vl_n, pm_vl_s] at z1 ⊢ <;> first | (rw [pb_278_191, px.2.1, r 133 (by decide), r 132 (by decide), if_neg c2, pb_278_211, px.2.1, u131, if_neg c4, u91, pb_278_244, pb_278_245, pb_278_249]; exact ⟨ix, ix, ix, z1⟩) | (rw [pb_278_191b, px.2.1, r 133 (by decide), r 132 (by decide), if_neg c2, pb_278_211b, px.2.1, u131, if_neg c4, u91, pb_278_244b, pb_278_245b, pb_278_249b]; exact ⟨ix, ix, ix, z1⟩)
        · have hw : pf_wr (I0 131) (I0 132) (I0 133) (I0 134) x2 x4 (x :: rest) has (I 79 89) (I 79 90) (I 79 91) = pf_wr (I0 131) (I0 132) (I0 133) (I0 134) x2 x4 rest (I0 132 x) (I 79 89) (I 79 90) (I 79 91) := by
            show (if ¬ has = -3 ∧ ¬ I0 131 x = has then _ else (if I0 133 x ≤ x2 then _ else _)) = _
            rw [if_neg hno, if_neg c1]
          have c2 : x2 < I0 133 x := Int32.not_le.mp c1
          have z1 := next (I0 132 x) (some (Int32.ofNat x, I 80 9, D2)) I hI hI79 hw.symm
          cases D2 <;> simp only [pf_d3, pm_vl_n, pm_vl_s] at z1 ⊢ <;> first | (rw [pb_278_191, px.2.1, r 133 (by decide), r 132 (by decide), if_pos c2, pb_278_249]; exact ⟨ix, ix, z1⟩) | (rw [pb_278_191b, px.2.1, r 133 (by decide), r 132 (by decide), if_pos c2, pb_278_249b]; exact ⟨ix, ix, z1⟩)
      by_cases c1 : has = -3
      · have z := yes (Or.inl c1)
        cases D2 <;> simp only [pm_vl_n, pm_vl_s] at z ⊢ <;> first | (rw [pb_278_153, if_pos c, pb_278_159, if_pos c1]; exact z) | (rw [pb_278_153b, if_pos c, pb_278_159b, if_pos c1]; exact z)
      · by_cases c2 : I0 131 x = has
        · have z := yes (Or.inr c2)
          cases D2 <;> simp only [pm_vl_n, pm_vl_s] at z ⊢ <;> first | (rw [pb_278_153, if_pos c, pb_278_159, if_neg c1, pb_278_166, px.2.1, r 131 (by decide), if_pos c2]; exact ⟨ix, z⟩) | (rw [pb_278_153b, if_pos c, pb_278_159b, if_neg c1, pb_278_166b, px.2.1, r 131 (by decide), if_pos c2]; exact ⟨ix, z⟩)
        · have hw : pf_wr (I0 131) (I0 132) (I0 133) (I0 134) x2 x4 (x :: rest) has (I 79 89) (I 79 90) (I 79 91) = pf_wr (I0 131) (I0 132) (I0 133) (I0 134) x2 x4 rest has (I 79 89) (I 79 90 + 1) (I 79 91) := if_pos ⟨c1, c2⟩
          have z1 := next has (some (Int32.ofNat x, I 80 9, D2)) (pm_u I 79 90 (I 79 90 + 1)) (fun k h => by rw [pm_u_row, if_neg h]; exact hI k h) (fun j h1 h2 h3 => by rw [pm_u_row, if_pos rfl, pm_w_ne h2]; exact hI79 j h1 h2 h3) (by rw [hw, pm_u_at, pm_u_row, if_pos rfl, pm_w_ne (by decide), pm_w_ne (by decide)])
          cases D2 <;> simp only [pf_d3, pm_vl_n, pm_vl_s] at z1 ⊢ <;> first | (rw [pb_278_153, if_pos c, pb_278_159, if_neg c1, pb_278_166, px.2.1, r 131 (by decide), if_neg c2, pb_278_178, pb_278_249]; exact ⟨ix, z1⟩) | (rw [pb_278_153b, if_pos c, pb_278_159b, if_neg c1, pb_278_166b, px.2.1, r 131 (by decide), if_neg c2, pb_278_178b, pb_278_249b]; exact ⟨ix, z1⟩)
    have go : pm_wp pm_code pm_meta d 278 23 ([.ref 79, .int x1, .int x2, .int x3, .int x4, .int has, .int (pf_lv last), (pf_d3 D).1, (pf_d3 D).2.1, (pf_d3 D).2.2], [], (pm_Gb L b, I, J)) Q := by
      rcases D with _ | ⟨a, c, e⟩
      · have z := sel none
        simp only [pf_d3, pm_vl_n] at z ⊢
        rw [pb_278_23]; exact z
      · have z := sel e
        cases e <;> simp only [pf_d3, pm_vl_n, pm_vl_s] at z ⊢ <;> first | (rw [pb_278_23b]; exact z) | (rw [pb_278_23c]; exact z)
    exact go

