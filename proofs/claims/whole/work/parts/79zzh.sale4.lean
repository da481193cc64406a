def ps_w : Option (Nat × Nat × Nat) → Int32
  | none => -1
  | some q => Int32.ofNat q.2.2
def ps_f : Option (Nat × Nat × Nat) → Int32
  | none => 0
  | some q => Int32.ofNat q.1
def ps_c : Option (Nat × Nat × Nat) → Int32
  | none => 0
  | some q => Int32.ofNat q.2.1
def ps_bd : Option (Nat × Nat × Nat) → Prop
  | none => True
  | some q => q.1 ≤ 3 ∧ q.2.1 ≤ 900 ∧ q.2.2 < 16384
/-- the answer -/
def ps_an (B L : Nat) (x2 : Int32) : Option (Nat × Nat × Nat) → Int32
  | none => -3
  | some q => if x2 = 0 then Int32.ofNat q.1 else if x2 = 1 then Int32.ofNat q.2.1 else ps_dgo B L q.2.2 (x2 - 10).toNatClampNeg
theorem an_some {B L : Nat} {x2 : Int32} {q : Nat × Nat × Nat} : ps_an B L x2 (some q) = if x2 = 0 then Int32.ofNat q.1 else if x2 = 1 then Int32.ofNat q.2.1 else ps_dgo B L q.2.2 (x2 - 10).toNatClampNeg := rfl
theorem pr_sale {d L : Nat} {b : Bool} {I : Nat → Nat → Int32} {J : Nat → Nat → Int64} {NL NB gN : Nat} {PR CO : Nat → Nat} {x2 : Int32} (h7 : I 80 7 = Int32.ofNat NL) (h8 : I 80 8 = Int32.ofNat NB) (hL : NL ≤ 7) (hB : NB ≤ 3) (pr9 : ∀ k, PR k ≤ 99) (co9 : ∀ k, CO k ≤ 300)
    (hp : ∀ k, k < NL → I 128 k = Int32.ofNat (PR k)) (hc : ∀ k, k < NB → I 129 k = Int32.ofNat (CO k)) (g9 : gN ≤ 900) (hx : (0 ≤ x2 ∧ x2 ≤ 1) ∨ (10 ≤ x2 ∧ x2 ≤ 9 + Int32.ofNat NL)) {Q : Int32 → Int64 → pm_H → Prop}
    (hQ : ∀ I', ps_fq I I' → Q (ps_an NB NL x2 (ps_T gN (NB + 1) NB PR CO NL 0 0 none)) 0 (pm_Gb L b, I', J)) :
    pm_wc pm_code pm_meta (d + 2) 275 [.ref 79, .int (Int32.ofNat gN), .int x2] (pm_Gb L b, I, J) Q := by
  have f0 : ps_fq I I := ⟨fun _ _ _ => rfl, fun _ _ _ => rfl⟩
  have r80 : ∀ I', ps_fq I I' → I' 80 = I 80 := fun I' f => f.1 80 (by decide) (by decide)
  have KL : ∀ l, l ≤ 7 → (NB + 1) ^ l ≤ 16384 := fun l hl => Nat.le_trans (Nat.pow_le_pow_left (show NB + 1 ≤ 4 by omega) l) (Nat.le_trans (Nat.pow_le_pow_right (by decide) hl) (by decide))
  -- behind the loop
  have at162 : ∀ (st : Option (Nat × Nat × Nat)) (I' : Nat → Nat → Int32) (x7 : Int32), ps_fq I I' → ps_bd st → Q (ps_an NB NL x2 st) 0 (pm_Gb L b, I', J) → pm_wp pm_code pm_meta (d + 2) 275 162 ([.ref 79, .int (Int32.ofNat gN), .int x2, .int (Int32.ofNat ((NB + 1) ^ NL)), .int (ps_w st), .int (ps_f st), .int (ps_c st), .int x7], [], (pm_Gb L b, I', J)) Q := fun st I' x7 f hb hq => by
    rcases st with _ | ⟨f1, c1, w1⟩
    · rw [pb_275_162, if_neg (by show ¬ (0 : Int32) ≤ -1; decide), pb_275_167]
      exact hq
    · have hb3 : w1 < 16384 := hb.2.2
      have gw := on_n (a := w1) (by omega)
      have ef : ps_f (some (f1, c1, w1)) = Int32.ofNat f1 := rfl
      have ec : ps_c (some (f1, c1, w1)) = Int32.ofNat c1 := rfl
      have ew : ps_w (some (f1, c1, w1)) = Int32.ofNat w1 := rfl
      rw [ef, ec, ew, pb_275_162, if_pos gw.1, pb_275_170]
      rcases hx with q | q
      · rw [if_neg (by rw [pi_le] at q ⊢; have := pi_le.mp q.2; rw [show (2 : Int32).toInt = 2 from rfl]; rw [show (1 : Int32).toInt = 1 from rfl] at this; omega), pb_275_175]
        by_cases e : x2 = 0
        · rw [if_pos e, pb_275_179, pb_275_186]
          rw [an_some] at hq
          rw [if_pos e] at hq
          exact hq
        · have e1 : x2 = 1 := by
            have q1 := pi_le.mp q.1
            have q2 := pi_le.mp q.2
            rw [pi_0] at q1
            rw [pi_1] at q2
            have : ¬ x2.toInt = 0 := fun z => e (Int32.toInt_inj.mp z)
            exact Int32.toInt_inj.mp (by rw [pi_1]; omega)
          rw [if_neg e, pb_275_184, pb_275_186]
          rw [an_some] at hq
          rw [if_neg e, if_pos e1] at hq
          exact hq
      · have q1 := pi_le.mp q.1
        have q2 := pi_le.mp q.2
        rw [show (10 : Int32).toInt = 10 from rfl] at q1
        have e9 : (9 + Int32.ofNat NL).toInt = 9 + NL := by
          have := (on_n (a := NL) (by omega)).2.2
          rw [pi_add (by rw [this, show (9 : Int32).toInt = 9 from rfl]; omega) (by rw [this, show (9 : Int32).toInt = 9 from rfl]; omega), this]; rfl
        rw [e9] at q2
        have em : (x2 - 10).toInt = x2.toInt - 10 := by rw [pi_sub (by rw [show (10 : Int32).toInt = 10 from rfl]; omega) (by rw [show (10 : Int32).toInt = 10 from rfl]; omega)]; rfl
        have m0 : 0 ≤ x2 - 10 := by rw [pi_le, pi_0, em]; omega
        have mt := pi_tni m0
        have eo : x2 - 10 = Int32.ofNat (x2 - 10).toNatClampNeg := (pi_ofNat m0).symm
        generalize hj : (x2 - 10).toNatClampNeg = j at *
        have n0 : ¬ x2 = 0 := fun z => by rw [z, pi_0] at q1; omega
        have n1 : ¬ x2 = 1 := fun z => by rw [z, pi_1] at q1; omega
        have gd : ps_dg (NB + 1) NL w1 j < NB + 1 := Nat.mod_lt _ (by omega)
        rw [if_pos (by rw [pi_le, show (2 : Int32).toInt = 2 from rfl]; omega), pb_275_187, eo, pr_getsLot (by rw [r80 I' f]; exact h7) (by rw [r80 I' f]; exact h8) hL hB (by omega) (by omega), pb_275_197, r80 I' f, h8]
        rw [an_some] at hq
        unfold ps_dgo at hq
        rw [if_neg n0, if_neg n1, hj] at hq
        by_cases c : ps_dg (NB + 1) NL w1 j = NB
        · rw [if_pos c] at hq
          rw [if_pos (by rw [c]), pb_275_211, pb_275_218]
          exact hq
        · rw [if_neg c] at hq
          rw [if_neg (by rw [on_eq (by omega) (by omega)]; exact c), pb_275_216, pb_275_218]
          exact hq
  have loop : ∀ (k w : Nat) (st : Option (Nat × Nat × Nat)) (I' : Nat → Nat → Int32), w + k = (NB + 1) ^ NL → ps_fq I I' → ps_bd st → (∀ I'', ps_fq I I'' → Q (ps_an NB NL x2 (ps_fb (fun w st => ps_up gN st (ps_fl CO (ps_ld (NB + 1) PR NL w) NB) (ps_cm CO (ps_ld (NB + 1) PR NL w) NB) w) k w st)) 0 (pm_Gb L b, I'', J)) → pm_wp pm_code pm_meta (d + 2) 275 88 ([.ref 79, .int (Int32.ofNat gN), .int x2, .int (Int32.ofNat ((NB + 1) ^ NL)), .int (ps_w st), .int (ps_f st), .int (ps_c st), .int (Int32.ofNat w)], [], (pm_Gb L b, I', J)) Q := by
    intro k
    induction k with
    | zero =>
      intro w st I' hk f hb hq
      have kl := KL NL hL
      rw [pb_275_88, if_pos (by rw [on_le (by omega) (by omega)]; omega)]
      exact at162 st I' _ f hb (hq I' f)
    | succ k ih =>
      intro w st I' hk f hb hq
      have kl := KL NL hL
      rw [pb_275_88, if_neg (by rw [on_le (by omega) (by omega)]; omega), pb_275_94]
      refine pr_weigh (d := d) h7 h8 hL hB pr9 co9 hp hc (by omega) f (fun I2 f2 a87 a88 => ?_)
      have b3 := ps_fl_bd (co := CO) (s := ps_ld (NB + 1) PR NL w) NB
      have b4 := ps_cm_bd (s := ps_ld (NB + 1) PR NL w) co9 NB
      generalize hF : ps_fl CO (ps_ld (NB + 1) PR NL w) NB = F at a87 b3
      generalize hC : ps_cm CO (ps_ld (NB + 1) PR NL w) NB = C at a88 b4
      have at156 : ∀ st', ps_bd st' → ps_up gN st F C w = st' → pm_wp pm_code pm_meta (d + 2) 275 156 ([.ref 79, .int (Int32.ofNat gN), .int x2, .int (Int32.ofNat ((NB + 1) ^ NL)), .int (ps_w st'), .int (ps_f st'), .int (ps_c st'), .int (Int32.ofNat w)], [], (pm_Gb L b, I2, J)) Q := fun st' hb' he => by
        rw [pb_275_156, on_s]
        refine ih (w + 1) st' I2 (by omega) f2 hb' (fun I'' f'' => ?_)
        have z := hq I'' f''
        rw [ps_fb_s, hF, hC, he] at z
        exact z
      have at140 : ps_cb gN st F C = true → pm_wp pm_code pm_meta (d + 2) 275 140 ([.ref 79, .int (Int32.ofNat gN), .int x2, .int (Int32.ofNat ((NB + 1) ^ NL)), .int (ps_w st), .int (ps_f st), .int (ps_c st), .int (Int32.ofNat w)], [], (pm_Gb L b, I2, J)) Q := fun he => by
        rw [pb_275_140, a87, a88]
        exact at156 (some (F, C, w)) ⟨by show F ≤ 3; omega, by show C ≤ 900; omega, by show w < 16384; omega⟩ (by unfold ps_up; rw [he]; rfl)
      have no : ps_cb gN st F C = false → pm_wp pm_code pm_meta (d + 2) 275 156 ([.ref 79, .int (Int32.ofNat gN), .int x2, .int (Int32.ofNat ((NB + 1) ^ NL)), .int (ps_w st), .int (ps_f st), .int (ps_c st), .int (Int32.ofNat w)], [], (pm_Gb L b, I2, J)) Q := fun he => at156 st hb (by unfold ps_up; rw [he]; rfl)
      rw [pb_275_100, a88]
      by_cases c1 : C < gN
      · rw [if_pos (by rw [on_lt (by omega) (by omega)]; exact c1)]
        exact no (by unfold ps_cb; rw [decide_eq_false (by omega), Bool.false_and])
      · rw [if_neg (by rw [on_lt (by omega) (by omega)]; exact c1), pb_275_108]
        rcases st with _ | ⟨f1, c0, w1⟩
        · rw [if_pos (by show (-1 : Int32) < 0; decide)]
          exact at140 (by simp [ps_cb]; omega)
        · obtain ⟨q1, q2, q3⟩ := hb
          have q1' : f1 ≤ 3 := q1
          have q2' : c0 ≤ 900 := q2
          have q3' : w1 < 16384 := q3
          have gw := on_n (a := w1) (by omega)
          have ef : ps_f (some (f1, c0, w1)) = Int32.ofNat f1 := rfl
          have ec : ps_c (some (f1, c0, w1)) = Int32.ofNat c0 := rfl
          have ew : ps_w (some (f1, c0, w1)) = Int32.ofNat w1 := rfl
          rw [if_neg (by rw [ew]; exact Int32.not_lt.mpr gw.1), pb_275_113, a87]
          by_cases c2 : F < f1
          · rw [if_pos (by rw [ef, on_lt (by omega) (by omega)]; exact c2)]
            exact at140 (by simp [ps_cb]; omega)
          · rw [if_neg (by rw [ef, on_lt (by omega) (by omega)]; exact c2), pb_275_122, a87]
            by_cases c3 : F = f1
            · rw [if_pos (by rw [ef, c3]), pb_275_131, a88]
              by_cases c4 : C ≤ c0
              · rw [if_pos (by rw [ec, on_le (by omega) (by omega)]; exact c4)]
                exact no (by simp [ps_cb]; omega)
              · rw [if_neg (by rw [ec, on_le (by omega) (by omega)]; exact c4)]
                exact at140 (by simp [ps_cb]; omega)
            · rw [if_neg (by rw [ef, on_eq (by omega) (by omega)]; exact c3)]
              exact no (by simp [ps_cb]; omega)
  have ways : ∀ (k l : Nat), l + k = NL → pm_wp pm_code pm_meta (d + 2) 275 46 ([.ref 79, .int (Int32.ofNat gN), .int x2, .int (Int32.ofNat ((NB + 1) ^ l)), .int (Int32.ofNat l), pm_unset, pm_unset, pm_unset], [], (pm_Gb L b, I, J)) Q := by
    intro k
    induction k with
    | zero =>
      intro l hk
      have el : l = NL := by omega
      subst el
      rw [pb_275_46, h7, if_pos (Int32.le_refl _), pb_275_76]
      refine loop ((NB + 1) ^ l) 0 none I (by omega) f0 trivial (fun I'' f'' => ?_)
      have z := hQ I'' f''
      rw [ps_all] at z
      simpa only [Nat.zero_add, Nat.zero_mul] using z
    | succ k ih =>
      intro l hk
      rw [pb_275_46, h7, if_neg (by rw [on_le (by omega) (by omega)]; omega), pb_275_58, h8, on_s, on_mul, on_s, ← Nat.pow_succ]
      exact ih (l + 1) (by omega)
  have go : pm_wp pm_code pm_meta (d + 2) 275 41 ([.ref 79, .int (Int32.ofNat gN), .int x2, pm_unset, pm_unset, pm_unset, pm_unset, pm_unset], [], (pm_Gb L b, I, J)) Q := by
    rw [pb_275_41]
    exact ways NL 0 (by omega)
  have gg := on_n (a := gN) (by omega)
  rw [pb_275_0, pr_in, pb_275_8, pm_b_t' ⟨gg.1, by rw [pi_le, gg.2.2, show (900 : Int32).toInt = 900 from rfl]; omega⟩, if_neg (by decide), pb_275_11, pr_in, pb_275_17]
  by_cases c : 0 ≤ x2 ∧ x2 ≤ 1
  · rw [pm_b_t' c, if_neg (by decide)]
    exact go
  · have c' := hx.resolve_left c
    rw [pm_b_f' c, if_pos rfl, pb_275_20, pr_in, pb_275_36, h7, pm_b_t' c', if_neg (by decide)]
    exact go

