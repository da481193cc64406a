/-! THE CALL order: what is brought; the class. -/
def pf_br (kind house amount leans fell g : Nat → Int32) (nn : Int32) (S : Nat) : Int32 := pm_fo (fun (s q : Int32) => if ((kind q.toNatClampNeg = 1 ∨ kind q.toNatClampNeg = 2) ∧ ¬ 0 ≤ g q.toNatClampNeg ∧ S.testBit (house q.toNatClampNeg).toNatClampNeg = false ∧ ¬ (0 ≤ leans q.toNatClampNeg ∧ ¬ 0 ≤ fell (house (leans q.toNatClampNeg).toNatClampNeg).toNatClampNeg ∧ S.testBit (house (leans q.toNatClampNeg).toNatClampNeg).toNatClampNeg = true)) then s + amount q.toNatClampNeg else s) nn.toNatClampNeg 0 0
theorem hou_k {h n : Int32} (hn : n ≤ 8) (h0 : 0 ≤ h) (h1 : h < n) : h.toNatClampNeg < 8 := by
  have := pi_tnlt h0 h1
  have t := pi_tni (a := n) (Int32.le_of_lt (Int32.lt_of_le_of_lt h0 h1))
  have := pi_le.mp hn
  rw [show (8 : Int32).toInt = 8 from rfl] at this
  omega
theorem px_isLost {d L : Nat} {b : Bool} {I : Nat → Nat → Int32} {J : Nat → Nat → Int64} {S : Nat} {q : Int32} {nn nP nH nT : Int32} {kind house person amount frr to is leans proved seals told wit witOf : Nat → Int32} {n today : Int32} {place order coin fear fell stripped due roll rollday had : Nat → Int32} {Q : Int32 → Int64 → pm_H → Prop} (hr : pg_rig (I 18) (I 19) nn nP nH nT kind house person amount frr to is leans proved seals told wit witOf) (hh : pg_hou (I 14) (I 15) n today place order coin fear fell stripped due roll rollday had) (hS : S < 16777216) (enH : nH = n) (q0 : 0 ≤ q) (q1 : q < nn) : pm_wc pm_code pm_meta (d + 2) 66 [.ref 67, .int (pm_no (leans q.toNatClampNeg)), .int (Int32.ofNat S)] (pm_Gb L b, I, J) Q ↔ Q (pm_b (0 ≤ leans q.toNatClampNeg ∧ ¬ 0 ≤ fell (house (leans q.toNatClampNeg).toNatClampNeg).toNatClampNeg ∧ S.testBit (house (leans q.toNatClampNeg).toNatClampNeg).toNatClampNeg = true)) 0 (pm_Gb L b, I, J) := by
  have g := (hr.2 _ (pi_tnlt q0 q1)).2.2
  have gl := g.2.2.2.2.2.2.2.2.2.2.2.2
  by_cases c1 : 0 ≤ leans q.toNatClampNeg
  · have e := pm_no_nn c1
    have ne : ¬ leans q.toNatClampNeg = -3 := fun z => by rw [z] at c1; exact absurd c1 (by decide)
    have l1 : leans q.toNatClampNeg < nn := by
      refine Int32.lt_trans ?_ q1
      rw [pi_lt]
      have := gl.2.1
      have := pi_tni q0
      omega
    have g2 := (hr.2 _ (pi_tnlt c1 l1)).2.2
    have h0 := g2.2.2.1
    have h1 : house (leans q.toNatClampNeg).toNatClampNeg < n := by rw [← enH]; exact g2.2.2.2.1
    have k8 := hou_k (hou_n hh).2 h0 h1
    have bt := bt_nat hS (by omega : (house (leans q.toNatClampNeg).toNatClampNeg).toNatClampNeg < 24)
    rw [pi_ofNat h0] at bt
    rw [e, pb_66_0, if_neg ne, pb_66_8, px_rig_1 hr, pm_at_in c1 l1, pb_66_20, px_fallen hh h0 h1, pb_66_29]
    by_cases c2 : 0 ≤ fell (house (leans q.toNatClampNeg).toNatClampNeg).toNatClampNeg
    · rw [pm_b_t' c2, if_neg (by decide), pb_66_45, pb_66_46, pm_b_f' (fun z => z.2.1 c2)]; simp
    · rw [pm_b_f' c2, if_pos rfl, pb_66_32]
      by_cases c3 : S.testBit (house (leans q.toNatClampNeg).toNatClampNeg).toNatClampNeg = true
      · rw [if_pos (by rw [bt]; exact c3), pb_66_41, pb_66_46, pm_b_t' ⟨c1, c2, c3⟩]; simp
      · rw [if_neg (by rw [bt]; exact c3), pb_66_45, pb_66_46, pm_b_f' (fun z => c3 z.2.2)]; simp
  · have e : pm_no (leans q.toNatClampNeg) = -3 := if_pos (Int32.not_le.mp c1)
    rw [e, pb_66_0, if_pos rfl, pb_66_6, pm_b_f' (fun z => c1 z.1)]
theorem px_broughtAt {d L : Nat} {b : Bool} {I : Nat → Nat → Int32} {J : Nat → Nat → Int64} {S : Nat} {g : Nat → Int32} {nn nP nH nT : Int32} {kind house person amount frr to is leans proved seals told wit witOf : Nat → Int32} {n today : Int32} {place order coin fear fell stripped due roll rollday had : Nat → Int32} {Q : Int32 → Int64 → pm_H → Prop} (hr : pg_rig (I 18) (I 19) nn nP nH nT kind house person amount frr to is leans proved seals told wit witOf) (hg : ∀ j, j < nn.toNatClampNeg → I 19 (16 * j + 8) = pm_no (g j)) (hh : pg_hou (I 14) (I 15) n today place order coin fear fell stripped due roll rollday had) (hS : S < 16777216) (enH : nH = n) : pm_wc pm_code pm_meta (d + 3) 65 [.ref 67, .int (Int32.ofNat S)] (pm_Gb L b, I, J) Q ↔ Q (pf_br kind house amount leans fell g nn S) 0 (pm_Gb L b, I, J) := by
  rw [pb_65_0]
  have key := pm_for (A := fun (s : Int32 × Option Int32) q => pm_wp pm_code pm_meta (d + 3) 65 4 ([.ref 67, .int (Int32.ofNat S), .int s.1, .int q, pm_vl s.2], [], (pm_Gb L b, I, J)) Q) (E := fun s => Q s.1 0 (pm_Gb L b, I, J)) (f := fun (s : Int32 × Option Int32) q => ((if ((kind q.toNatClampNeg = 1 ∨ kind q.toNatClampNeg = 2) ∧ ¬ 0 ≤ g q.toNatClampNeg ∧ S.testBit (house q.toNatClampNeg).toNatClampNeg = false ∧ ¬ (0 ≤ leans q.toNatClampNeg ∧ ¬ 0 ≤ fell (house (leans q.toNatClampNeg).toNatClampNeg).toNatClampNeg ∧ S.testBit (house (leans q.toNatClampNeg).toNatClampNeg).toNatClampNeg = true)) then s.1 + amount q.toNatClampNeg else s.1), some (kind q.toNatClampNeg))) (n := nn) (rig_n hr).1 (rig_l hr) (fun s q h0 => ?_) (0, none)
  · rw [fo_fst (f1 := fun (s q : Int32) => if ((kind q.toNatClampNeg = 1 ∨ kind q.toNatClampNeg = 2) ∧ ¬ 0 ≤ g q.toNatClampNeg ∧ S.testBit (house q.toNatClampNeg).toNatClampNeg = false ∧ ¬ (0 ≤ leans q.toNatClampNeg ∧ ¬ 0 ≤ fell (house (leans q.toNatClampNeg).toNatClampNeg).toNatClampNeg ∧ S.testBit (house (leans q.toNatClampNeg).toNatClampNeg).toNatClampNeg = true)) then s + amount q.toNatClampNeg else s) (fun _ _ _ => rfl)] at key
    exact key
  · obtain ⟨s, D⟩ := s
    by_cases hi : nn ≤ q
    · cases D <;> simp only [pm_vl_n, pm_vl_s] <;> first | (rw [pb_65_4, hr.1.2]; simp only [hi, if_true, pb_65_130]) | (rw [pb_65_4b, hr.1.2]; simp only [hi, if_true, pb_65_130b])
    · have h1 := Int32.not_le.mp hi
      have gr := (hr.2 _ (pi_tnlt h0 h1)).2.2
      have hh0 := gr.2.2.1
      have hh1 : house q.toNatClampNeg < n := by rw [← enH]; exact gr.2.2.2.1
      have k8 := hou_k (hou_n hh).2 hh0 hh1
      have bt := bt_nat hS (by omega : (house q.toNatClampNeg).toNatClampNeg < 24)
      rw [pi_ofNat hh0] at bt
      have at38 : pm_wp pm_code pm_meta (d + 3) 65 4 ([.ref 67, .int (Int32.ofNat S), .int s, .int q, pm_vl D], [], (pm_Gb L b, I, J)) Q ↔ (if kind q.toNatClampNeg = 1 ∨ kind q.toNatClampNeg = 2 then pm_wp pm_code pm_meta (d + 3) 65 44 ([.ref 67, .int (Int32.ofNat S), .int s, .int q, .int (kind q.toNatClampNeg)], [], (pm_Gb L b, I, J)) Q else pm_wp pm_code pm_meta (d + 3) 65 124 ([.ref 67, .int (Int32.ofNat S), .int s, .int q, .int (kind q.toNatClampNeg)], [], (pm_Gb L b, I, J)) Q) := by
        by_cases c1 : kind q.toNatClampNeg = 1
        · cases D <;> simp only [pm_vl_n, pm_vl_s] <;> (first | rw [pb_65_4, hr.1.2] | rw [pb_65_4b, hr.1.2]) <;> simp only [hi, if_false, pb_65_18, pb_65_18b, px_rig_0 hr, pm_at_in h0 h1, pb_65_30, pb_65_30b, c1, if_true, true_or]
        · cases D <;> simp only [pm_vl_n, pm_vl_s] <;> (first | rw [pb_65_4, hr.1.2] | rw [pb_65_4b, hr.1.2]) <;> simp only [hi, if_false, pb_65_18, pb_65_18b, px_rig_0 hr, pm_at_in h0 h1, pb_65_30, pb_65_30b, c1, pb_65_38, false_or]
      simp only [pm_vl_s] at at38 ⊢
      rw [at38, if_neg hi]
      by_cases c1 : kind q.toNatClampNeg = 1 ∨ kind q.toNatClampNeg = 2
      · rw [if_pos c1, pb_65_44, px_rig_8 hr hg, pm_at_in h0 h1, pb_65_57]
        by_cases c2 : 0 ≤ g q.toNatClampNeg
        · have e : ¬ pm_no (g q.toNatClampNeg) = -3 := by rw [pm_no_nn c2]; exact fun z => by rw [z] at c2; exact absurd c2 (by decide)
          rw [if_neg e, pb_65_62, pb_65_124, if_neg (fun z => z.2.1 c2)]
        · have e : pm_no (g q.toNatClampNeg) = -3 := if_pos (Int32.not_le.mp c2)
          rw [if_pos e, pb_65_65, px_rig_1 hr, pm_at_in h0 h1, pb_65_78]
          by_cases c3 : S.testBit (house q.toNatClampNeg).toNatClampNeg = true
          · rw [if_pos (by rw [bt]; exact c3), pb_65_85, pb_65_124, if_neg (fun z => by rw [c3] at z; exact absurd z.2.2.1 (by decide))]
          · have c3' : S.testBit (house q.toNatClampNeg).toNatClampNeg = false := Bool.eq_false_iff.mpr c3
            rw [if_neg (by rw [bt]; exact c3), pb_65_88, px_rig_6 hr, pm_at_in h0 h1, pb_65_102, px_isLost (d := d) hr hh hS enH h0 h1, pb_65_106]
            by_cases c4 : (0 ≤ leans q.toNatClampNeg ∧ ¬ 0 ≤ fell (house (leans q.toNatClampNeg).toNatClampNeg).toNatClampNeg ∧ S.testBit (house (leans q.toNatClampNeg).toNatClampNeg).toNatClampNeg = true)
            · rw [pm_b_t' c4, if_neg (by decide), pb_65_124, if_neg (fun z => z.2.2.2 c4)]
            · rw [pm_b_f' c4, if_pos rfl, pb_65_109, px_rig_3 hr, pm_at_in h0 h1, pb_65_122, pb_65_124, if_pos ⟨c1, c2, c3', c4⟩]
      · rw [if_neg c1, pb_65_124, if_neg (fun z => c1 z.1)]
/-- the most behind a set -/
def pf_mb (f : Nat → Int32) (n : Int32) (S : Nat) : Int32 := pm_fo (fun (best h : Int32) => if S.testBit h.toNatClampNeg = false then (if best < f (S ||| 2 ^ h.toNatClampNeg) then f (S ||| 2 ^ h.toNatClampNeg) else best) else best) n.toNatClampNeg 0 0
theorem or_256 {S k : Nat} (hS : S < 256) (hk : k < 8) : S ||| 2 ^ k < 256 := by
  have h2 : 2 ^ k < 2 ^ 8 := Nat.pow_lt_pow_right (by decide) hk
  exact Nat.or_lt_two_pow (n := 8) hS h2
theorem px_most_at {d L : Nat} {b : Bool} {I : Nat → Nat → Int32} {J : Nat → Nat → Int64} {S : Nat} {Q : Int32 → Int64 → pm_H → Prop} (ht : pm_ti (I 68) 1 256) (hc : I 68 3 = 256) (hS : S < 256) : pm_wc pm_code pm_meta d 83 [.ref 68, .int (Int32.ofNat S), .int 0] (pm_Gb L b, I, J) Q ↔ Q (I 69 S) 0 (pm_Gb L b, I, J) := by
  have p := pi_on (j := S) (by omega)
  rw [pt_get_68_0 ht, hc, if_pos ⟨p.1, by rw [pi_lt, p.2.2, show (256 : Int32).toInt = 256 from rfl]; omega⟩, p.2.1, Nat.one_mul, Nat.add_zero]
theorem px_mostBehind {d L : Nat} {b : Bool} {I : Nat → Nat → Int32} {J : Nat → Nat → Int64} {S : Nat} {n today : Int32} {place order coin fear fell stripped due roll rollday had : Nat → Int32} {Q : Int32 → Int64 → pm_H → Prop} (hh : pg_hou (I 14) (I 15) n today place order coin fear fell stripped due roll rollday had) (ht : pm_ti (I 68) 1 256) (hc : I 68 3 = 256) (hS : S < 256) : pm_wc pm_code pm_meta (d + 1) 64 [.ref 67, .int (Int32.ofNat S)] (pm_Gb L b, I, J) Q ↔ Q (pf_mb (I 69) n S) 0 (pm_Gb L b, I, J) := by
  rw [pb_64_0]
  refine pm_for (A := fun (s : Int32) h => pm_wp pm_code pm_meta (d + 1) 64 4 ([.ref 67, .int (Int32.ofNat S), .int s, .int h], [], (pm_Gb L b, I, J)) Q) (E := fun s => Q s 0 (pm_Gb L b, I, J)) (n := n) (hou_n hh).1 (hou_l hh) (fun s h h0 => ?_) 0
  rw [pb_64_4, hh.1.2]
  by_cases hi : n ≤ h
  · rw [if_pos hi, if_pos hi, pb_64_50]
  · have h1 := Int32.not_le.mp hi
    have k8 := hou_k (hou_n hh).2 h0 h1
    have bt := bt_nat0 (S := S) (by omega) (by omega : h.toNatClampNeg < 24)
    rw [pi_ofNat h0] at bt
    rw [if_neg hi, if_neg hi, pb_64_18]
    by_cases c : S.testBit h.toNatClampNeg = false
    · have z := hb_or S h.toNatClampNeg (by omega) (by omega)
      rw [pi_ofNat h0] at z
      rw [if_pos (by rw [bt]; exact c), if_pos c, pb_64_26, z.1, px_most_at ht hc (or_256 hS k8), pb_64_40, px_max, pb_64_43, pb_64_44]
    · rw [if_neg (by rw [bt]; exact c), if_neg c, pb_64_44]

