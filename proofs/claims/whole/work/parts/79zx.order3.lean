/-! THE CALL order: what is brought behind each set; the reference. -/
def pf_brr (kind house amount leans fell g : Nat → Int32) (nn : Int32) (t : Nat) : Int32 := pm_fo (fun (s q : Int32) => s + (if ((kind q.toNatClampNeg = 1 ∨ kind q.toNatClampNeg = 2) ∧ ¬ 0 ≤ g q.toNatClampNeg ∧ ¬ 0 ≤ fell (house q.toNatClampNeg).toNatClampNeg ∧ t.testBit (house q.toNatClampNeg).toNatClampNeg = false ∧ (¬ 0 ≤ leans q.toNatClampNeg ∨ 0 ≤ fell (house (leans q.toNatClampNeg).toNatClampNeg).toNatClampNeg ∨ t.testBit (house (leans q.toNatClampNeg).toNatClampNeg).toNatClampNeg = false)) then amount q.toNatClampNeg else 0)) nn.toNatClampNeg 0 0
theorem pr_bringsBehind {d L : Nat} {b : Bool} {I : Nat → Nat → Int32} {J : Nat → Nat → Int64} {t : Nat} {nP nT : Int32} {tt cc th ch : Nat → Int32} {frr to is proved seals told wit witOf : Nat → Int32} {today : Int32} {place order coin fear stripped due roll rollday had : Nat → Int32} {Q : Int32 → Int64 → pm_H → Prop}
    (hr : pg_rig tt cc (I 80 4) nP (I 80 2) nT (I 99) (I 100) (I 101) (I 102) frr to is (I 106) proved seals told wit witOf) (hh : pg_hou th ch (I 80 2) today place order coin fear (I 88) stripped due roll rollday had) (ht : t < 16777216) : pm_wc pm_code pm_meta (d + 1) 282 [.ref 79, .int (Int32.ofNat t)] (pm_Gb L b, I, J) Q ↔ Q (pf_brr (I 99) (I 100) (I 102) (I 106) (I 88) (I 137) (I 80 4) t) 0 (pm_Gb L b, I, J) := by
  have hn0 := (rig_n hr).1
  have hn := rig_l hr
  have n24 := (rig_n hr).2
  have key : ∀ (m : Nat) (q s : Int32) (D : Option (Int32 × Option Int32)), 0 ≤ q → q.toNatClampNeg + m = (I 80 4).toNatClampNeg → (pm_wp pm_code pm_meta (d + 1) 282 4 ([.ref 79, .int (Int32.ofNat t), .int s, .int q, pm_vl (D.map (·.1)), pm_vl (D.bind (·.2))], [], (pm_Gb L b, I, J)) Q ↔ Q (pm_fo (fun (s q : Int32) => s + (if ((I 99 q.toNatClampNeg = 1 ∨ I 99 q.toNatClampNeg = 2) ∧ ¬ 0 ≤ I 137 q.toNatClampNeg ∧ ¬ 0 ≤ I 88 (I 100 q.toNatClampNeg).toNatClampNeg ∧ t.testBit (I 100 q.toNatClampNeg).toNatClampNeg = false ∧ (¬ 0 ≤ I 106 q.toNatClampNeg ∨ 0 ≤ I 88 (I 100 (I 106 q.toNatClampNeg).toNatClampNeg).toNatClampNeg ∨ t.testBit (I 100 (I 106 q.toNatClampNeg).toNatClampNeg).toNatClampNeg = false)) then I 102 q.toNatClampNeg else 0)) m q s) 0 (pm_Gb L b, I, J)) := by
    intro m
    induction m with
    | zero =>
      intro q s D h0 hm
      have t1 := pi_tni h0
      have t2 := pi_tni hn0
      have hi : I 80 4 ≤ q := by rw [pi_le]; omega
      rcases D with _ | ⟨a, _ | c⟩ <;> simp only [Option.map, Option.bind, pm_vl_n, pm_vl_s] <;> first | (rw [pb_282_4, if_pos hi, pb_282_152]; exact Iff.rfl) | (rw [pb_282_4b, if_pos hi, pb_282_152b]; exact Iff.rfl) | (rw [pb_282_4c, if_pos hi, pb_282_152c]; exact Iff.rfl)
    | succ m ih =>
      intro q s D h0 hm
      have t1 := pi_tni h0
      have t2 := pi_tni hn0
      have e : q < I 80 4 := by rw [pi_lt]; omega
      have hi : ¬ I 80 4 ≤ q := Int32.not_le.mpr e
      have e3 : (q + 1).toNatClampNeg = q.toNatClampNeg + 1 := pi_tn1 h0 (Int32.lt_trans e hn)
      have e4 : 0 ≤ q + 1 := by have := pi_lt.mp e; have := pi_hi (I 80 4); rw [pi_le, pi_0, pi_add (by rw [pi_1]; omega) (by rw [pi_1]; omega), pi_1]; omega
      have i1 := pi_in24 n24 h0 e
      have gr := (hr.2 _ (pi_tnlt h0 e)).2.2
      have hh0 := gr.2.2.1
      have hh1 := gr.2.2.2.1
      have k8 := hou_k (hou_n hh).2 hh0 hh1
      have i8 := pi_in8 (hou_n hh).2 hh0 hh1
      have bt := bt_nat0 ht (by omega : (I 100 q.toNatClampNeg).toNatClampNeg < 24)
      rw [pi_ofNat hh0] at bt
      have gl := gr.2.2.2.2.2.2.2.2.2.2.2.2
      unfold pm_fo
      -- the end of a turn
      have fin : ∀ (x4 : Int32) (E : Option Int32), (x4 = 0 ∨ x4 = 1) → (pm_wp pm_code pm_meta (d + 1) 282 128 ([.ref 79, .int (Int32.ofNat t), .int s, .int q, .int x4, pm_vl E], [], (pm_Gb L b, I, J)) Q ↔ Q (pm_fo (fun (s q : Int32) => s + (if ((I 99 q.toNatClampNeg = 1 ∨ I 99 q.toNatClampNeg = 2) ∧ ¬ 0 ≤ I 137 q.toNatClampNeg ∧ ¬ 0 ≤ I 88 (I 100 q.toNatClampNeg).toNatClampNeg ∧ t.testBit (I 100 q.toNatClampNeg).toNatClampNeg = false ∧ (¬ 0 ≤ I 106 q.toNatClampNeg ∨ 0 ≤ I 88 (I 100 (I 106 q.toNatClampNeg).toNatClampNeg).toNatClampNeg ∨ t.testBit (I 100 (I 106 q.toNatClampNeg).toNatClampNeg).toNatClampNeg = false)) then I 102 q.toNatClampNeg else 0)) m (q + 1) (s + (if x4 = 1 then I 102 q.toNatClampNeg else 0))) 0 (pm_Gb L b, I, J)) := fun x4 E hx => by
        have z := ih (q + 1) (s + (if x4 = 1 then I 102 q.toNatClampNeg else 0)) (some (x4, E)) e4 (by omega)
        simp only [Option.map, Option.bind, pm_vl_s] at z
        rcases hx with hx | hx <;> subst hx
        · rw [if_neg (by decide)] at z ⊢
          cases E <;> simp only [pm_vl_n, pm_vl_s] at z ⊢ <;> first | (rw [pb_282_128, if_pos rfl, pb_282_143, pb_282_144]; exact z) | (rw [pb_282_128b, if_pos rfl, pb_282_143b, pb_282_144b]; exact z)
        · rw [if_pos rfl] at z ⊢
          cases E <;> simp only [pm_vl_n, pm_vl_s] at z ⊢ <;> first | (rw [pb_282_128, if_neg (by decide), pb_282_134, pb_282_144]; simp only [i1, true_and]; exact z) | (rw [pb_282_128b, if_neg (by decide), pb_282_134b, pb_282_144b]; simp only [i1, true_and]; exact z)
      have at34 : (I 99 q.toNatClampNeg = 1 ∨ I 99 q.toNatClampNeg = 2) → (pm_wp pm_code pm_meta (d + 1) 282 4 ([.ref 79, .int (Int32.ofNat t), .int s, .int q, pm_vl (D.map (·.1)), pm_vl (D.bind (·.2))], [], (pm_Gb L b, I, J)) Q ↔ pm_wp pm_code pm_meta (d + 1) 282 34 ([.ref 79, .int (Int32.ofNat t), .int s, .int q, pm_vl (D.map (·.1)), pm_vl (D.bind (·.2))], [], (pm_Gb L b, I, J)) Q) := fun c2 => by
        by_cases k1 : I 99 q.toNatClampNeg = 1
        · rcases D with _ | ⟨a, _ | c⟩ <;> simp only [Option.map, Option.bind, pm_vl_n, pm_vl_s] <;> (first | rw [pb_282_4] | rw [pb_282_4b] | rw [pb_282_4c]) <;> simp only [hi, if_false, pb_282_14, pb_282_14b, pb_282_14c, i1, true_and, k1, if_true]
        · have k2 := c2.resolve_left k1
          rcases D with _ | ⟨a, _ | c⟩ <;> simp only [Option.map, Option.bind, pm_vl_n, pm_vl_s] <;> (first | rw [pb_282_4] | rw [pb_282_4b] | rw [pb_282_4c]) <;> simp only [hi, if_false, pb_282_14, pb_282_14b, pb_282_14c, i1, true_and, k1, pb_282_24, pb_282_24b, pb_282_24c, k2, pl_2_1, if_true]
      -- the first four conditions
      by_cases c1 : (I 99 q.toNatClampNeg = 1 ∨ I 99 q.toNatClampNeg = 2) ∧ ¬ 0 ≤ I 137 q.toNatClampNeg ∧ ¬ 0 ≤ I 88 (I 100 q.toNatClampNeg).toNatClampNeg ∧ t.testBit (I 100 q.toNatClampNeg).toNatClampNeg = false
      · have at81 : ∀ (E : Option Int32), (pm_wp pm_code pm_meta (d + 1) 282 81 ([.ref 79, .int (Int32.ofNat t), .int s, .int q, .int 1, pm_vl E], [], (pm_Gb L b, I, J)) Q ↔ Q (pm_fo (fun (s q : Int32) => s + (if ((I 99 q.toNatClampNeg = 1 ∨ I 99 q.toNatClampNeg = 2) ∧ ¬ 0 ≤ I 137 q.toNatClampNeg ∧ ¬ 0 ≤ I 88 (I 100 q.toNatClampNeg).toNatClampNeg ∧ t.testBit (I 100 q.toNatClampNeg).toNatClampNeg = false ∧ (¬ 0 ≤ I 106 q.toNatClampNeg ∨ 0 ≤ I 88 (I 100 (I 106 q.toNatClampNeg).toNatClampNeg).toNatClampNeg ∨ t.testBit (I 100 (I 106 q.toNatClampNeg).toNatClampNeg).toNatClampNeg = false)) then I 102 q.toNatClampNeg else 0)) m (q + 1) (s + (if ((I 99 q.toNatClampNeg = 1 ∨ I 99 q.toNatClampNeg = 2) ∧ ¬ 0 ≤ I 137 q.toNatClampNeg ∧ ¬ 0 ≤ I 88 (I 100 q.toNatClampNeg).toNatClampNeg ∧ t.testBit (I 100 q.toNatClampNeg).toNatClampNeg = false ∧ (¬ 0 ≤ I 106 q.toNatClampNeg ∨ 0 ≤ I 88 (I 100 (I 106 q.toNatClampNeg).toNatClampNeg).toNatClampNeg ∨ t.testBit (I 100 (I 106 q.toNatClampNeg).toNatClampNeg).toNatClampNeg = false)) then I 102 q.toNatClampNeg else 0))) 0 (pm_Gb L b, I, J)) := fun E => by
          by_cases c2 : 0 ≤ I 106 q.toNatClampNeg
          · have n2 := Int32.not_lt.mpr c2
            have l1 : I 106 q.toNatClampNeg < I 80 4 := by
              refine Int32.lt_trans ?_ e
              rw [pi_lt]
              have := gl.2.1
              omega
            have gr2 := (hr.2 _ (pi_tnlt c2 l1)).2.2
            have k82 := hou_k (hou_n hh).2 gr2.2.2.1 gr2.2.2.2.1
            have i82 := pi_in8 (hou_n hh).2 gr2.2.2.1 gr2.2.2.2.1
            have i2 := pi_in24 n24 c2 l1
            have bt2 := bt_nat0 ht (by omega : (I 100 (I 106 q.toNatClampNeg).toNatClampNeg).toNatClampNeg < 24)
            rw [pi_ofNat gr2.2.2.1] at bt2
            have fn := fin
            by_cases c3 : 0 ≤ I 88 (I 100 (I 106 q.toNatClampNeg).toNatClampNeg).toNatClampNeg
            · have f1 := fin 1 (some (I 100 (I 106 q.toNatClampNeg).toNatClampNeg)) (Or.inr rfl)
              rw [if_pos rfl] at f1
              rw [if_pos ⟨c1.1, c1.2.1, c1.2.2.1, c1.2.2.2, Or.inr (Or.inl c3)⟩]
              simp only [pm_vl_s] at f1
              cases E <;> simp only [pm_vl_n, pm_vl_s] <;> (first | rw [pb_282_81] | rw [pb_282_81b]) <;> simp only [i1, true_and, n2, if_false, pb_282_90, pb_282_90b, i2, pr_hasFallen, i82, pm_b_t' c3, pb_282_109, pl_1_0, pb_282_121, pb_282_126] <;> exact f1
            · by_cases c4 : t.testBit (I 100 (I 106 q.toNatClampNeg).toNatClampNeg).toNatClampNeg = false
              · have c4' := bt2.symm ▸ c4
                have f1 := fin 1 (some (I 100 (I 106 q.toNatClampNeg).toNatClampNeg)) (Or.inr rfl)
                rw [if_pos rfl] at f1
                rw [if_pos ⟨c1.1, c1.2.1, c1.2.2.1, c1.2.2.2, Or.inr (Or.inr c4)⟩]
                simp only [pm_vl_s] at f1
                cases E <;> simp only [pm_vl_n, pm_vl_s] <;> (first | rw [pb_282_81] | rw [pb_282_81b]) <;> simp only [i1, true_and, n2, if_false, pb_282_90, pb_282_90b, i2, pr_hasFallen, i82, pm_b_f' c3, pb_282_109, if_true, pb_282_112, c4', pb_282_121, pb_282_126] <;> exact f1
              · have c4' : ¬ ((Int32.ofNat t >>> (I 100 (I 106 q.toNatClampNeg).toNatClampNeg &&& 31)) &&& 1 = 0) := by rw [bt2]; exact c4
                have f1 := fin 0 (some (I 100 (I 106 q.toNatClampNeg).toNatClampNeg)) (Or.inl rfl)
                rw [if_neg (by decide)] at f1
                rw [if_neg (fun z => by
                  rcases z.2.2.2.2 with h | h | h
                  · exact h c2
                  · exact c3 h
                  · exact c4 h)]
                simp only [pm_vl_s] at f1
                cases E <;> simp only [pm_vl_n, pm_vl_s] <;> (first | rw [pb_282_81] | rw [pb_282_81b]) <;> simp only [i1, true_and, n2, if_false, pb_282_90, pb_282_90b, i2, pr_hasFallen, i82, pm_b_f' c3, pb_282_109, if_true, pb_282_112, c4', pb_282_125, pb_282_126] <;> exact f1
          · have n2 := Int32.not_le.mp c2
            have f1 := fin 1 E (Or.inr rfl)
            rw [if_pos rfl] at f1
            rw [if_pos ⟨c1.1, c1.2.1, c1.2.2.1, c1.2.2.2, Or.inl c2⟩]
            cases E <;> simp only [pm_vl_n, pm_vl_s] at f1 ⊢ <;> (first | rw [pb_282_81] | rw [pb_282_81b]) <;> simp only [i1, true_and, n2, if_true] <;> exact f1
        have c14 : (Int32.ofNat t >>> (I 100 q.toNatClampNeg &&& 31)) &&& 1 = 0 := bt.symm ▸ c1.2.2.2
        have c12 := c1.2.1
        have z := at81 (D.bind (·.2))
        have hf' := pm_b_f' c1.2.2.1
        have step : pm_wp pm_code pm_meta (d + 1) 282 34 ([.ref 79, .int (Int32.ofNat t), .int s, .int q, pm_vl (D.map (·.1)), pm_vl (D.bind (·.2))], [], (pm_Gb L b, I, J)) Q ↔ pm_wp pm_code pm_meta (d + 1) 282 81 ([.ref 79, .int (Int32.ofNat t), .int s, .int q, .int 1, pm_vl (D.bind (·.2))], [], (pm_Gb L b, I, J)) Q := by
          rcases D with _ | ⟨a, _ | c⟩ <;> simp only [Option.map, Option.bind, pm_vl_n, pm_vl_s] <;> (first | rw [pb_282_34] | rw [pb_282_34b] | rw [pb_282_34c]) <;> simp only [i1, true_and, c12, if_false, pb_282_43, pb_282_43b, pb_282_43c, pr_hasFallen, i8, hf', pb_282_53, pb_282_53b, pb_282_53c, pb_282_56, pb_282_56b, pb_282_56c, c14, if_true, pb_282_69, pb_282_69b, pb_282_69c, pb_282_74, pb_282_74b, pb_282_74c, pl_1_0]
        rw [at34 c1.1, step]
        exact z
      · rw [if_neg (fun z => c1 ⟨z.1, z.2.1, z.2.2.1, z.2.2.2.1⟩)]
        have z := fin 0 (D.bind (·.2)) (Or.inl rfl)
        rw [if_neg (by decide)] at z
        by_cases c2 : I 99 q.toNatClampNeg = 1 ∨ I 99 q.toNatClampNeg = 2
        · have at34 := at34 c2
          rw [at34]
          by_cases c3 : 0 ≤ I 137 q.toNatClampNeg
          · rcases D with _ | ⟨a, _ | c⟩ <;> simp only [Option.map, Option.bind, pm_vl_n, pm_vl_s] at z ⊢ <;> (first | rw [pb_282_34] | rw [pb_282_34b] | rw [pb_282_34c]) <;> simp only [i1, true_and, c3, if_true, pb_282_73, pb_282_73b, pb_282_73c, pb_282_74, pb_282_74b, pb_282_74c] <;> exact z
          · by_cases c4 : 0 ≤ I 88 (I 100 q.toNatClampNeg).toNatClampNeg
            · have hf' := pm_b_t' c4
              rcases D with _ | ⟨a, _ | c⟩ <;> simp only [Option.map, Option.bind, pm_vl_n, pm_vl_s] at z ⊢ <;> (first | rw [pb_282_34] | rw [pb_282_34b] | rw [pb_282_34c]) <;> simp only [i1, true_and, c3, if_false, pb_282_43, pb_282_43b, pb_282_43c, pr_hasFallen, i8, hf', pb_282_53, pb_282_53b, pb_282_53c, pl_1_0, if_true, pb_282_73, pb_282_73b, pb_282_73c, pb_282_74, pb_282_74b, pb_282_74c] <;> exact z
            · have hf' := pm_b_f' c4
              have c5 : ¬ ((Int32.ofNat t >>> (I 100 q.toNatClampNeg &&& 31)) &&& 1 = 0) := by rw [bt]; exact fun h => c1 ⟨c2, c3, c4, h⟩
              rcases D with _ | ⟨a, _ | c⟩ <;> simp only [Option.map, Option.bind, pm_vl_n, pm_vl_s] at z ⊢ <;> (first | rw [pb_282_34] | rw [pb_282_34b] | rw [pb_282_34c]) <;> simp only [i1, true_and, c3, if_false, pb_282_43, pb_282_43b, pb_282_43c, pr_hasFallen, i8, hf', pb_282_53, pb_282_53b, pb_282_53c, if_true, pb_282_56, pb_282_56b, pb_282_56c, c5, pb_282_73, pb_282_73b, pb_282_73c, pb_282_74, pb_282_74b, pb_282_74c] <;> exact z
        · have k1 : ¬ I 99 q.toNatClampNeg = 1 := fun h => c2 (Or.inl h)
          have k2 : ¬ I 99 q.toNatClampNeg = 2 := fun h => c2 (Or.inr h)
          rcases D with _ | ⟨a, _ | c⟩ <;> simp only [Option.map, Option.bind, pm_vl_n, pm_vl_s] at z ⊢ <;> (first | rw [pb_282_4] | rw [pb_282_4b] | rw [pb_282_4c]) <;> simp only [hi, if_false, pb_282_14, pb_282_14b, pb_282_14c, i1, true_and, k1, pb_282_24, pb_282_24b, pb_282_24c, k2, pb_282_73, pb_282_73b, pb_282_73c, pb_282_74, pb_282_74b, pb_282_74c, if_true] <;> exact z
  rw [pb_282_0]
  exact key (I 80 4).toNatClampNeg 0 0 none (Int32.le_refl 0) (by simp)

