/-! Coin, worths and pledges as they change. -/
theorem pm_wn {r : Nat → Int32} {k j : Nat} {v : Int32} (h : ¬ j = k) : pm_w r k v j = r j := by rw [pm_w_at, if_neg h]
def pm_sm (f : Nat → Int) : Nat → Int
  | 0 => 0
  | n + 1 => pm_sm f n + f n
theorem sm_congr {f g : Nat → Int} : ∀ n, (∀ k, k < n → f k = g k) → pm_sm f n = pm_sm g n
  | 0, _ => rfl
  | n + 1, h => by simp only [pm_sm]; rw [sm_congr n (fun k hk => h k (by omega)), h n (by omega)]
theorem sm_add {f g : Nat → Int} : ∀ n, pm_sm (fun k => f k + g k) n = pm_sm f n + pm_sm g n
  | 0 => rfl
  | n + 1 => by simp only [pm_sm]; rw [sm_add n]; omega
theorem sm_zero : ∀ n (f : Nat → Int), (∀ k, k < n → f k = 0) → pm_sm f n = 0
  | 0, _, _ => rfl
  | n + 1, f, h => by simp only [pm_sm]; rw [sm_zero n f (fun k hk => h k (by omega)), h n (by omega)]; rfl
theorem sm_one {A : Nat → Prop} [DecidablePred A] {B : Prop} [Decidable B] {w : Int} (hw : B → 0 ≤ w) : ∀ n, (∀ p q, p < q → q < n → A p → ¬ A q) → (∀ q, q < n → A q → B) → pm_sm (fun q => if A q then w else 0) n ≤ if B then w else 0
  | 0, _, _ => by
    simp only [pm_sm]
    split
    · exact hw ‹_›
    · exact Int.le_refl 0
  | n + 1, h1, h2 => by
    simp only [pm_sm]
    by_cases a : A n
    · rw [sm_zero n _ (fun k hk => if_neg (fun g => h1 k n hk (by omega) g a)), if_pos a, if_pos (h2 n (by omega) a)]; omega
    · rw [if_neg a]
      have := sm_one (A := A) (B := B) hw n (fun p q hp hq => h1 p q hp (by omega)) (fun q hq => h2 q (by omega))
      omega
/-- what the pledged ones of the first n things of a house are worth -/
def pm_pw (worth house is : Nat → Int32) (h : Nat) (n : Nat) : Int := pm_sm (fun k => if (house k).toNatClampNeg = h ∧ is k = 2 then (worth k).toInt else 0) n
theorem pl_sm {worth kind rh ris : Nat → Int32} {h : Nat} : ∀ n, pm_pl worth kind rh ris h n = pm_sm (fun q => if kind q = 6 ∧ (rh q).toNatClampNeg = h then (worth (ris q).toNatClampNeg).toInt else 0) n
  | 0 => rfl
  | n + 1 => by simp only [pm_pl, pm_sm]; rw [pl_sm n]
theorem pl_congr {worth worth' kind kind' rh rh' ris ris' : Nat → Int32} {h n : Nat} (g : ∀ q, q < n → kind' q = kind q ∧ rh' q = rh q ∧ ris' q = ris q ∧ (kind q = 6 → worth' (ris q).toNatClampNeg = worth (ris q).toNatClampNeg)) : pm_pl worth' kind' rh' ris' h n = pm_pl worth kind rh ris h n := by
  rw [pl_sm, pl_sm]
  refine sm_congr n (fun q hq => ?_)
  obtain ⟨g1, g2, g3, g4⟩ := g q hq
  rw [g1, g2, g3]
  by_cases a : kind q = 6
  · rw [g4 a]
  · rw [if_neg (fun z => a z.1), if_neg (fun z => a z.1)]
theorem pi_tnj {a b : Int32} (ha : 0 ≤ a) (hb : 0 ≤ b) (h : a.toNatClampNeg = b.toNatClampNeg) : a = b := by
  have h1 := pi_tni ha
  have h2 := pi_tni hb
  exact Int32.toInt_inj.mp (by omega)
theorem pi_inc24 {n : Int32} (h : n < 24) : n < n + 1 := by grind
section
variable {nH nT nR : Int32} {coin fell had house worth is kind rh ris : Nat → Int32}
theorem ple_le (h : pg_ple nH nT nR coin fell had house worth is kind rh ris) (x : Nat) : pm_pl worth kind rh ris x nR.toNatClampNeg ≤ pm_pw worth house is x nT.toNatClampNeg := by
  obtain ⟨h1, h2, h3, h4⟩ := h
  have key : ∀ N, N ≤ nT.toNatClampNeg → pm_sm (fun q => if (kind q = 6 ∧ (rh q).toNatClampNeg = x) ∧ (ris q).toNatClampNeg < N then (worth (ris q).toNatClampNeg).toInt else 0) nR.toNatClampNeg ≤ pm_pw worth house is x N := by
    intro N
    induction N with
    | zero => intro _; rw [sm_zero _ _ (fun k _ => if_neg (fun g => absurd g.2 (Nat.not_lt_zero _)))]; exact Int.le_refl 0
    | succ N ih =>
      intro hN
      have i1 := ih (by omega)
      have e : pm_sm (fun q => if (kind q = 6 ∧ (rh q).toNatClampNeg = x) ∧ (ris q).toNatClampNeg < N + 1 then (worth (ris q).toNatClampNeg).toInt else 0) nR.toNatClampNeg = pm_sm (fun q => if (kind q = 6 ∧ (rh q).toNatClampNeg = x) ∧ (ris q).toNatClampNeg < N then (worth (ris q).toNatClampNeg).toInt else 0) nR.toNatClampNeg + pm_sm (fun q => if (kind q = 6 ∧ (rh q).toNatClampNeg = x) ∧ (ris q).toNatClampNeg = N then (worth N).toInt else 0) nR.toNatClampNeg := by
        rw [← sm_add]
        refine sm_congr _ (fun q _ => ?_)
        by_cases a : kind q = 6 ∧ (rh q).toNatClampNeg = x
        · by_cases b : (ris q).toNatClampNeg = N
          · rw [if_pos ⟨a, by omega⟩, if_neg (fun g => by have := g.2; omega), if_pos ⟨a, b⟩, b]; omega
          · by_cases c : (ris q).toNatClampNeg < N
            · rw [if_pos ⟨a, by omega⟩, if_pos ⟨a, c⟩, if_neg (fun g => b g.2)]; omega
            · rw [if_neg (fun g => by have := g.2; omega), if_neg (fun g => c g.2), if_neg (fun g => b g.2)]; rfl
        · rw [if_neg (fun g => a g.1), if_neg (fun g => a g.1), if_neg (fun g => a g.1)]; rfl
      rw [e]
      have w1 := h2 N (by omega)
      have i2 : pm_sm (fun q => if (kind q = 6 ∧ (rh q).toNatClampNeg = x) ∧ (ris q).toNatClampNeg = N then (worth N).toInt else 0) nR.toNatClampNeg ≤ if (house N).toNatClampNeg = x ∧ is N = 2 then (worth N).toInt else 0 := by
        refine sm_one (fun _ => ?_) _ (fun p q hp hq a1 a2 => ?_) (fun q hq a => ?_)
        · have := pi_le.mp w1.1; rw [pi_1] at this; omega
        · have p0 := (h3 p (by omega) a1.1.1).1
          have q0 := (h3 q hq a2.1.1).1
          refine h4 p q hp hq a1.1.1 a2.1.1 ?_
          exact pi_tnj p0 q0 (a1.2.trans a2.2.symm)
        · obtain ⟨_, _, g3, g4⟩ := h3 q hq a.1.1
          rw [a.2] at g3 g4
          exact ⟨by rw [g4]; exact a.1.2, g3⟩
      have e2 : pm_pw worth house is x (N + 1) = pm_pw worth house is x N + (if (house N).toNatClampNeg = x ∧ is N = 2 then (worth N).toInt else 0) := rfl
      rw [e2]; omega
  rw [pl_sm]
  refine Int.le_trans (Int.le_of_eq (sm_congr _ (fun q hq => ?_))) (key _ (Nat.le_refl _))
  by_cases a : kind q = 6 ∧ (rh q).toNatClampNeg = x
  · obtain ⟨g1, g2, _⟩ := h3 q hq a.1
    rw [if_pos a, if_pos ⟨a, pi_tnlt g1 g2⟩]
  · rw [if_neg a, if_neg (fun g => a g.1)]
theorem ple_coin {coin' : Nat → Int32} (h : pg_ple nH nT nR coin fell had house worth is kind rh ris) (hc : ∀ k, k < nH.toNatClampNeg → 0 ≤ coin' k ∧ coin' k ≤ 9999) : pg_ple nH nT nR coin' fell had house worth is kind rh ris :=
  ⟨fun k hk => ⟨(hc k hk).1, (hc k hk).2, (h.1 k hk).2.2⟩, h.2⟩
theorem ple_is {is' : Nat → Int32} (h : pg_ple nH nT nR coin fell had house worth is kind rh ris) (hs : ∀ k, is k = 2 → is' k = 2) : pg_ple nH nT nR coin fell had house worth is' kind rh ris :=
  ⟨h.1, h.2.1, fun q hq a => let g := h.2.2.1 q hq a; ⟨g.1, g.2.1, hs _ g.2.2.1, g.2.2.2⟩, h.2.2.2⟩
theorem ple_house {c z : Int32} (h : pg_ple nH nT nR coin fell had house worth is kind rh ris) (h0 : 0 ≤ nH) (h8 : nH < 8) (c0 : 0 ≤ c) (c1 : c ≤ 9999) : pg_ple (nH + 1) nT nR (pm_w coin nH.toNatClampNeg c) (pm_w fell nH.toNatClampNeg (-1)) (pm_w had nH.toNatClampNeg z) house worth is kind rh ris := by
  refine ⟨fun k hk => ?_, h.2⟩
  rw [pi_tn1 h0 (Int32.lt_trans h8 (by decide))] at hk
  by_cases e : k = nH.toNatClampNeg
  · simp only [pm_w_at, if_pos e]
    exact ⟨c0, c1, fun g => absurd g (by decide)⟩
  · simp only [pm_w_at, if_neg e]
    exact h.1 k (by omega)
theorem ple_thing {a w : Int32} (h : pg_ple nH nT nR coin fell had house worth is kind rh ris) (h0 : 0 ≤ nT) (h24 : nT < 24) (w0 : 1 ≤ w) (w1 : w ≤ 99) : pg_ple nH (nT + 1) nR coin fell had (pm_w house nT.toNatClampNeg a) (pm_w worth nT.toNatClampNeg w) (pm_w is nT.toNatClampNeg 0) kind rh ris := by
  obtain ⟨h1, h2, h3, h4⟩ := h
  have lt : ∀ q, q < nR.toNatClampNeg → kind q = 6 → ¬ (ris q).toNatClampNeg = nT.toNatClampNeg := fun q hq a => by
    obtain ⟨g1, g2, _⟩ := h3 q hq a
    have := pi_tnlt g1 g2
    omega
  refine ⟨fun k hk => ?_, fun k hk => ?_, fun q hq a => ?_, h4⟩
  · rw [pl_congr (worth := worth) (kind := kind) (rh := rh) (ris := ris) (fun q hq => ⟨rfl, rfl, rfl, fun a => pm_wn (lt q hq a)⟩)]
    exact h1 k hk
  · rw [pi_tn1 h0 (Int32.lt_trans h24 (by decide))] at hk
    by_cases e : k = nT.toNatClampNeg
    · simp only [pm_w_at, if_pos e]; exact ⟨w0, w1⟩
    · simp only [pm_w_at, if_neg e]; exact h2 k (by omega)
  · obtain ⟨g1, g2, g3, g4⟩ := h3 q hq a
    rw [pm_wn (lt q hq a), pm_wn (lt q hq a)]
    exact ⟨g1, Int32.lt_trans g2 (pi_inc24 h24), g3, g4⟩
theorem ple_fall {x t v : Int32} (h : pg_ple nH nT nR coin fell had house worth is kind rh ris) (hv : pm_pl worth kind rh ris x.toNatClampNeg nR.toNatClampNeg ≤ v.toInt) : pg_ple nH nT nR coin (pm_w fell x.toNatClampNeg t) (pm_w had x.toNatClampNeg v) house worth is kind rh ris := by
  refine ⟨fun k hk => ?_, h.2⟩
  obtain ⟨g1, g2, g3⟩ := h.1 k hk
  refine ⟨g1, g2, ?_⟩
  by_cases e : k = x.toNatClampNeg
  · simp only [pm_w_at, if_pos e]; rw [e]; exact fun _ => hv
  · simp only [pm_w_at, if_neg e]; exact g3
theorem ple_right {x y z : Int32} (h : pg_ple nH nT nR coin fell had house worth is kind rh ris) (h0 : 0 ≤ nR) (h24 : nR < 24) (hx : ¬ x = 6) : pg_ple nH nT (nR + 1) coin fell had house worth is (pm_w kind nR.toNatClampNeg x) (pm_w rh nR.toNatClampNeg y) (pm_w ris nR.toNatClampNeg z) := by
  obtain ⟨h1, h2, h3, h4⟩ := h
  have e := pi_tn1 h0 (Int32.lt_trans h24 (by decide : (24 : Int32) < 2147483647))
  refine ⟨fun k hk => ?_, h2, fun q hq a => ?_, fun p q hp hq a1 a2 => ?_⟩
  · rw [e]
    simp only [pm_pl]
    rw [pl_congr (worth := worth) (kind := kind) (rh := rh) (ris := ris) (fun q hq => ⟨pm_wn (by omega), pm_wn (by omega), pm_wn (by omega), fun _ => rfl⟩), if_neg (by rw [pm_w_at, if_pos rfl]; exact fun g => hx g.1), Int.add_zero]
    exact h1 k hk
  · rw [e] at hq
    by_cases c : q = nR.toNatClampNeg
    · simp only [pm_w_at, if_pos c] at a; exact absurd a hx
    · simp only [pm_w_at, if_neg c] at a ⊢; exact h3 q (by omega) a
  · rw [e] at hq
    by_cases c : q = nR.toNatClampNeg
    · simp only [pm_w_at, if_pos c] at a2; exact absurd a2 hx
    · simp only [pm_w_at, if_neg c, if_neg (show ¬ p = nR.toNatClampNeg by omega)] at a1 a2 ⊢; exact h4 p q hp (by omega) a1 a2
theorem ple_pledge {y z : Int32} (h : pg_ple nH nT nR coin fell had house worth is kind rh ris) (h0 : 0 ≤ nR) (h24 : nR < 24) (hf : ¬ 0 ≤ fell y.toNatClampNeg) (z0 : 0 ≤ z) (z1 : z < nT) (hz : is z.toNatClampNeg = 0) (hy : house z.toNatClampNeg = y) : pg_ple nH nT (nR + 1) coin fell had house worth (pm_w is z.toNatClampNeg 2) (pm_w kind nR.toNatClampNeg 6) (pm_w rh nR.toNatClampNeg y) (pm_w ris nR.toNatClampNeg z) := by
  obtain ⟨h1, h2, h3, h4⟩ := h
  have e := pi_tn1 h0 (Int32.lt_trans h24 (by decide : (24 : Int32) < 2147483647))
  have ne : ∀ q, q < nR.toNatClampNeg → kind q = 6 → ¬ ris q = z := fun q hq a g => by
    have := (h3 q hq a).2.2.1
    rw [g, hz] at this
    exact absurd this (by decide)
  refine ⟨fun k hk => ?_, h2, fun q hq a => ?_, fun p q hp hq a1 a2 => ?_⟩
  · rw [e]
    simp only [pm_pl]
    rw [pl_congr (worth := worth) (kind := kind) (rh := rh) (ris := ris) (fun q hq => ⟨pm_wn (by omega), pm_wn (by omega), pm_wn (by omega), fun _ => rfl⟩)]
    obtain ⟨g1, g2, g3⟩ := h1 k hk
    refine ⟨g1, g2, fun g => ?_⟩
    simp only [pm_w_at, if_true]
    rw [if_neg (fun c => hf (by rw [c.2]; exact g)), Int.add_zero]
    exact g3 g
  · rw [e] at hq
    by_cases c : q = nR.toNatClampNeg
    · simp only [pm_w_at, if_pos c, if_true]; exact ⟨z0, z1, trivial, hy⟩
    · simp only [pm_w_at, if_neg c] at a ⊢
      obtain ⟨g1, g2, g3, g4⟩ := h3 q (by omega) a
      exact ⟨g1, g2, by split <;> first | rfl | exact g3, g4⟩
  · rw [e] at hq
    by_cases c : q = nR.toNatClampNeg
    · simp only [pm_w_at, if_pos c, if_neg (show ¬ p = nR.toNatClampNeg by omega)] at a1 ⊢; exact ne p (by omega) a1
    · simp only [pm_w_at, if_neg c, if_neg (show ¬ p = nR.toNatClampNeg by omega)] at a1 a2 ⊢; exact h4 p q hp (by omega) a1 a2
end

