/-! THE CALL order: what is brought is the same; the sets. -/
theorem br_rel {tt cc : Nat → Int32} {nn nP nH nT : Int32} {kind house person amount frr to is leans proved seals told wit witOf : Nat → Int32} {g fell : Nat → Int32} {n : Int32} {t : Nat} (hr : pg_rig tt cc nn nP nH nT kind house person amount frr to is leans proved seals told wit witOf) (enH : nH = n) (n8 : n ≤ 8) (n0 : 0 ≤ n) :
    pf_br kind house amount leans fell g nn ((pf_mk (fun k => 0 ≤ fell k) n.toNatClampNeg) ||| t) = pf_brr kind house amount leans fell g nn t := by
  unfold pf_br pf_brr
  refine fo_cg0 (rig_n hr).1 (rig_l hr) (fun s q q0 q1 => ?_)
  have gr := (hr.2 _ (pi_tnlt q0 q1)).2.2
  have hh0 := gr.2.2.1
  have hh1 : house q.toNatClampNeg < n := by rw [← enH]; exact gr.2.2.2.1
  have gl := gr.2.2.2.2.2.2.2.2.2.2.2.2
  have b1 := fu_bit (fell := fell) (N := n.toNatClampNeg) (t := t) (pi_tnlt hh0 hh1)
  have b1' : ((pf_mk (fun k => 0 ≤ fell k) n.toNatClampNeg) ||| t).testBit (house q.toNatClampNeg).toNatClampNeg = false ↔ ¬ 0 ≤ fell (house q.toNatClampNeg).toNatClampNeg ∧ t.testBit (house q.toNatClampNeg).toNatClampNeg = false := by
    rw [b1, mk_bit]
    exact ⟨fun h => ⟨h.1.2, h.2⟩, fun h => ⟨⟨pi_tnlt hh0 hh1, h.1⟩, h.2⟩⟩
  have b2 : 0 ≤ leans q.toNatClampNeg → (((pf_mk (fun k => 0 ≤ fell k) n.toNatClampNeg) ||| t).testBit (house (leans q.toNatClampNeg).toNatClampNeg).toNatClampNeg = false ↔ ¬ 0 ≤ fell (house (leans q.toNatClampNeg).toNatClampNeg).toNatClampNeg ∧ t.testBit (house (leans q.toNatClampNeg).toNatClampNeg).toNatClampNeg = false) := fun c1 => by
    have l1 : leans q.toNatClampNeg < nn := by
      refine Int32.lt_trans ?_ q1
      rw [pi_lt]
      have := gl.2.1
      have := pi_tni q0
      omega
    have g2 := (hr.2 _ (pi_tnlt c1 l1)).2.2
    have h1 : house (leans q.toNatClampNeg).toNatClampNeg < n := by rw [← enH]; exact g2.2.2.2.1
    rw [fu_bit (pi_tnlt g2.2.2.1 h1), mk_bit]
    exact ⟨fun h => ⟨h.1.2, h.2⟩, fun h => ⟨⟨pi_tnlt g2.2.2.1 h1, h.1⟩, h.2⟩⟩
  have hc : ((kind q.toNatClampNeg = 1 ∨ kind q.toNatClampNeg = 2) ∧ ¬ 0 ≤ g q.toNatClampNeg ∧ ((pf_mk (fun k => 0 ≤ fell k) n.toNatClampNeg) ||| t).testBit (house q.toNatClampNeg).toNatClampNeg = false ∧ ¬ (0 ≤ leans q.toNatClampNeg ∧ ¬ 0 ≤ fell (house (leans q.toNatClampNeg).toNatClampNeg).toNatClampNeg ∧ ((pf_mk (fun k => 0 ≤ fell k) n.toNatClampNeg) ||| t).testBit (house (leans q.toNatClampNeg).toNatClampNeg).toNatClampNeg = true)) ↔ ((kind q.toNatClampNeg = 1 ∨ kind q.toNatClampNeg = 2) ∧ ¬ 0 ≤ g q.toNatClampNeg ∧ ¬ 0 ≤ fell (house q.toNatClampNeg).toNatClampNeg ∧ t.testBit (house q.toNatClampNeg).toNatClampNeg = false ∧ (¬ 0 ≤ leans q.toNatClampNeg ∨ 0 ≤ fell (house (leans q.toNatClampNeg).toNatClampNeg).toNatClampNeg ∨ t.testBit (house (leans q.toNatClampNeg).toNatClampNeg).toNatClampNeg = false)) := by
    rw [b1']
    constructor
    · rintro ⟨h1, h2, h3, h4⟩
      refine ⟨h1, h2, h3.1, h3.2, ?_⟩
      by_cases c1 : 0 ≤ leans q.toNatClampNeg
      · by_cases c2 : 0 ≤ fell (house (leans q.toNatClampNeg).toNatClampNeg).toNatClampNeg
        · exact Or.inr (Or.inl c2)
        · refine Or.inr (Or.inr ?_)
          have := (b2 c1).mp (Bool.eq_false_iff.mpr (fun h => h4 ⟨c1, c2, h⟩))
          exact this.2
      · exact Or.inl c1
    · rintro ⟨h1, h2, h3, h4, h5⟩
      refine ⟨h1, h2, ⟨h3, h4⟩, fun h6 => ?_⟩
      rcases h5 with h5 | h5 | h5
      · exact h5 h6.1
      · exact h6.2.1 h5
      · have := (b2 h6.1).mpr ⟨h6.2.1, h5⟩
        rw [this] at h6
        exact absurd h6.2.2 (by decide)
  by_cases c : ((kind q.toNatClampNeg = 1 ∨ kind q.toNatClampNeg = 2) ∧ ¬ 0 ≤ g q.toNatClampNeg ∧ ((pf_mk (fun k => 0 ≤ fell k) n.toNatClampNeg) ||| t).testBit (house q.toNatClampNeg).toNatClampNeg = false ∧ ¬ (0 ≤ leans q.toNatClampNeg ∧ ¬ 0 ≤ fell (house (leans q.toNatClampNeg).toNatClampNeg).toNatClampNeg ∧ ((pf_mk (fun k => 0 ≤ fell k) n.toNatClampNeg) ||| t).testBit (house (leans q.toNatClampNeg).toNatClampNeg).toNatClampNeg = true))
  · rw [if_pos c, if_pos (hc.mp c)]
  · rw [if_neg c, if_neg (fun q => c (hc.mpr q)), Int32.add_zero]
theorem brr_ok {tt cc : Nat → Int32} {nn nP nH nT : Int32} {kind house person amount frr to is leans proved seals told wit witOf : Nat → Int32} {g fell : Nat → Int32} {t : Nat} (hr : pg_rig tt cc nn nP nH nT kind house person amount frr to is leans proved seals told wit witOf) :
    0 ≤ pf_brr kind house amount leans fell g nn t ∧ (pf_brr kind house amount leans fell g nn t).toInt ≤ 23976 := by
  have hn0 := (rig_n hr).1
  have t1 := pi_tni hn0
  have t2 := pi_le.mp (rig_n hr).2
  have e24 : (24 : Int32).toInt = 24 := rfl
  unfold pf_brr
  have key : ∀ (m k : Nat) (s : Int32), k + m = nn.toNatClampNeg → 0 ≤ s → s.toInt ≤ 999 * k → 0 ≤ pm_fo (fun (s q : Int32) => s + (if ((kind q.toNatClampNeg = 1 ∨ kind q.toNatClampNeg = 2) ∧ ¬ 0 ≤ g q.toNatClampNeg ∧ ¬ 0 ≤ fell (house q.toNatClampNeg).toNatClampNeg ∧ t.testBit (house q.toNatClampNeg).toNatClampNeg = false ∧ (¬ 0 ≤ leans q.toNatClampNeg ∨ 0 ≤ fell (house (leans q.toNatClampNeg).toNatClampNeg).toNatClampNeg ∨ t.testBit (house (leans q.toNatClampNeg).toNatClampNeg).toNatClampNeg = false)) then amount q.toNatClampNeg else 0)) m (Int32.ofNat k) s ∧ (pm_fo (fun (s q : Int32) => s + (if ((kind q.toNatClampNeg = 1 ∨ kind q.toNatClampNeg = 2) ∧ ¬ 0 ≤ g q.toNatClampNeg ∧ ¬ 0 ≤ fell (house q.toNatClampNeg).toNatClampNeg ∧ t.testBit (house q.toNatClampNeg).toNatClampNeg = false ∧ (¬ 0 ≤ leans q.toNatClampNeg ∨ 0 ≤ fell (house (leans q.toNatClampNeg).toNatClampNeg).toNatClampNeg ∨ t.testBit (house (leans q.toNatClampNeg).toNatClampNeg).toNatClampNeg = false)) then amount q.toNatClampNeg else 0)) m (Int32.ofNat k) s).toInt ≤ 23976 := by
    intro m
    induction m with
    | zero => intro k s hk s0 sk; exact ⟨s0, by have : pm_fo (fun (s q : Int32) => s) 0 (Int32.ofNat k) s = s := rfl; show s.toInt ≤ 23976; omega⟩
    | succ m ih =>
      intro k s hk s0 sk
      have s0' := pi_le.mp s0
      rw [pi_0] at s0'
      have p := pi_on (j := k) (by omega)
      have gr := (hr.2 k (by omega)).2.2
      have a1 := pi_le.mp gr.2.2.2.2.2.2.1
      have a2 := pi_le.mp gr.2.2.2.2.2.2.2.1
      rw [pi_1] at a1
      rw [show (999 : Int32).toInt = 999 from rfl] at a2
      unfold pm_fo
      rw [pi_onadd (by omega), p.2.1]
      refine ih (k + 1) _ (by omega) ?_ ?_
      · split
        · rw [pi_le, pi_0, pi_add (by omega) (by omega)]; omega
        · rw [Int32.add_zero]; exact s0
      · split
        · rw [pi_add (by omega) (by omega)]; omega
        · rw [Int32.add_zero]; omega
  exact key nn.toNatClampNeg 0 0 (by omega) (Int32.le_refl 0) (by rw [pi_0]; omega)
/-- each set of the reference is the class's -/
theorem set_rel {tt cc : Nat → Int32} {nn nP nH nT : Int32} {kind house person amount frr to is leans proved seals told wit witOf : Nat → Int32} {g fell : Nat → Int32} {n : Int32} {f br mo : Nat → Int32} (hr : pg_rig tt cc nn nP nH nT kind house person amount frr to is leans proved seals told wit witOf) (enH : nH = n) (n8 : n ≤ 8) (n0 : 0 ≤ n)
    (hX : pf_cok (pf_br kind house amount leans fell g nn) n (pf_mk (fun k => 0 ≤ fell k) n.toNatClampNeg) (2 ^ n.toNatClampNeg - 1) (pf_mk (fun k => 0 ≤ fell k) n.toNatClampNeg) f) (hR : pf_rok (pf_brr kind house amount leans fell g nn) (pf_mk (fun k => ¬ 0 ≤ fell k) n.toNatClampNeg) 0 br mo) :
    ∀ (m t : Nat), t + m = 255 → pf_in t (pf_mk (fun k => ¬ 0 ≤ fell k) n.toNatClampNeg) → pf_mb f n ((pf_mk (fun k => 0 ≤ fell k) n.toNatClampNeg) ||| t) = mo t ∧ 0 ≤ mo t ∧ (mo t).toInt ≤ 23976 * m ∧ (¬ t = 0 → f ((pf_mk (fun k => 0 ≤ fell k) n.toNatClampNeg) ||| t) = br t + mo t) := by
  have t1 := pi_tni n0
  have t2 := pi_le.mp n8
  have e8 : (8 : Int32).toInt = 8 := rfl
  intro m
  induction m using Nat.strongRecOn with
  | ind m ih =>
  intro t ht hin
  have r := hR t (Nat.zero_le _) (by omega) hin
  have gt : ∀ k, k < n.toNatClampNeg → ((pf_mk (fun k => 0 ≤ fell k) n.toNatClampNeg) ||| t).testBit k = false → pf_in (t ||| 2 ^ k) (pf_mk (fun k => ¬ 0 ≤ fell k) n.toNatClampNeg) ∧ t < t ||| 2 ^ k ∧ t ||| 2 ^ k < 256 := fun k hk hb => by
    have w := (fu_bit hk).mp hb
    refine ⟨fun j hj => ?_, or_gt w.2, or_256 (by omega) (by omega)⟩
    rw [Nat.testBit_or, Bool.or_eq_true] at hj
    rcases hj with hj | hj
    · exact hin j hj
    · rw [Nat.testBit_two_pow] at hj
      have : k = j := by simpa using hj
      rw [← this]; exact w.1
  have hv : ∀ k, k < n.toNatClampNeg → ((pf_mk (fun k => 0 ≤ fell k) n.toNatClampNeg) ||| t).testBit k = false → f (((pf_mk (fun k => 0 ≤ fell k) n.toNatClampNeg) ||| t) ||| 2 ^ k) = br (t ||| 2 ^ k) + mo (t ||| 2 ^ k) ∧ 0 ≤ f (((pf_mk (fun k => 0 ≤ fell k) n.toNatClampNeg) ||| t) ||| 2 ^ k) ∧ (f (((pf_mk (fun k => 0 ≤ fell k) n.toNatClampNeg) ||| t) ||| 2 ^ k)).toInt ≤ 23976 * m := fun k hk hb => by
    have w := gt k hk hb
    have z := ih (255 - (t ||| 2 ^ k)) (by omega) (t ||| 2 ^ k) (by omega) w.1
    have zr := hR (t ||| 2 ^ k) (Nat.zero_le _) (by omega) w.1
    have bb := brr_ok (g := g) (fell := fell) (t := t ||| 2 ^ k) hr
    rw [← zr.1] at bb
    have e : f ((pf_mk (fun k => 0 ≤ fell k) n.toNatClampNeg) ||| (t ||| 2 ^ k)) = br (t ||| 2 ^ k) + mo (t ||| 2 ^ k) := z.2.2.2 (by omega)
    rw [Nat.or_assoc, e]
    have q1 := pi_le.mp bb.1
    have q2 := pi_le.mp z.2.1
    have q3 := z.2.2.1
    rw [pi_0] at q1 q2
    have q4 : (23976 : Int) * ((255 - (t ||| 2 ^ k) : Nat) : Int) + 23976 ≤ 23976 * m := by omega
    have hm : m ≤ 255 := by omega
    refine ⟨rfl, ?_, ?_⟩
    · rw [pi_le, pi_0, pi_add (by omega) (by omega)]; omega
    · rw [pi_add (by omega) (by omega)]; omega
  have z := mb_rel (f := f) (br := br) (mo := mo) (n := n) (S := (pf_mk (fun k => 0 ≤ fell k) n.toNatClampNeg) ||| t) (U := (pf_mk (fun k => ¬ 0 ≤ fell k) n.toNatClampNeg)) (t := t) (B := 23976 * m) n0 n8 (by omega) (fun k hk => fu_bit hk) (fun k hk => fu_out hk) hv
  rw [← r.2] at z
  refine ⟨z.1, by rw [← z.1]; exact z.2.1, by rw [← z.1]; exact z.2.2, fun h0 => ?_⟩
  have l1 := fu_lt hin h0
  have l2 := fu_le hin
  have x := hX ((pf_mk (fun k => 0 ≤ fell k) n.toNatClampNeg) ||| t) l1 (by omega) (fun k hk => by rw [Nat.testBit_or, hk, Bool.true_or])
  rw [x, z.1, br_rel hr enH n8 n0, r.1]

