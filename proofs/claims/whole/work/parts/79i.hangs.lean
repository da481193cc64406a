/-! What hangs on a right. -/
theorem bt_one (x : BitVec 32) : (x &&& 1#32 = 1#32) ↔ x.getLsbD 0 = true := by
  constructor
  · intro h
    have := congrArg (fun y => BitVec.getLsbD y 0) h
    simpa using this
  · intro h
    apply BitVec.eq_of_getLsbD_eq
    intro i hi
    rw [BitVec.getLsbD_and, BitVec.getLsbD_one]
    by_cases e : i = 0
    · subst e; simp [h]
    · simp [e]
theorem bt_shr (x : Int32) : ∀ k : Nat, k < 24 → (((x >>> (Int32.ofNat k &&& 31)) &&& 1 = 1) ↔ x.toBitVec.getLsbD k = true) := by
  intro k hk
  have e : (Int32.ofNat k &&& 31) = Int32.ofNat k := (by decide : ∀ k : Nat, k < 24 → (Int32.ofNat k &&& 31) = Int32.ofNat k) k hk
  have e2 : ((Int32.ofNat k).toBitVec.smod 32).toNat = k := (by decide : ∀ k : Nat, k < 24 → ((Int32.ofNat k).toBitVec.smod 32).toNat = k) k hk
  rw [e, ← Int32.toBitVec_inj, Int32.toBitVec_and, Int32.toBitVec_shiftRight]
  show (BitVec.sshiftRight' x.toBitVec _ &&& 1#32 = 1#32) ↔ _
  rw [bt_one]
  unfold BitVec.sshiftRight'
  rw [e2, BitVec.getLsbD_sshiftRight]
  simp
  omega
theorem bt_shl : ∀ k : Nat, k < 24 → ∀ i : Nat, i < 32 → ((1 : Int32) <<< (Int32.ofNat k &&& 31)).toBitVec.getLsbD i = decide (i = k) := by decide
theorem bt_out (s m : Int32) (h : s &&& m = 0) : (s ||| m) &&& (m ^^^ (-1)) = s := by
  rw [← Int32.toBitVec_inj] at h ⊢
  rw [Int32.toBitVec_and] at h
  rw [Int32.toBitVec_and, Int32.toBitVec_or, Int32.toBitVec_xor]
  apply BitVec.eq_of_getLsbD_eq
  intro i hi
  have z := congrArg (fun y => BitVec.getLsbD y i) h
  have e : (-1 : Int32).toBitVec = BitVec.allOnes 32 := by decide
  simp only [BitVec.getLsbD_and] at z
  rw [BitVec.getLsbD_and, BitVec.getLsbD_or, BitVec.getLsbD_xor, e, BitVec.getLsbD_allOnes]
  have z0 : (0 : Int32).toBitVec.getLsbD i = false := by show (0#32).getLsbD i = false; simp
  rw [z0] at z
  simp only [hi, decide_true]
  revert z
  cases s.toBitVec.getLsbD i <;> cases m.toBitVec.getLsbD i <;> simp

theorem bt_or {s r l : Int32} (r0 : 0 ≤ r) (r1 : r < 24) (l0 : 0 ≤ l) (l1 : l < 24) : (((s ||| ((1 : Int32) <<< (r &&& 31))) >>> (l &&& 31)) &&& 1 = 1) ↔ (l = r ∨ (s >>> (l &&& 31)) &&& 1 = 1) := by
  have e24 : (24 : Int32).toInt = 24 := rfl
  have a1 := pi_tni r0
  have a2 := pi_tni l0
  have a3 := pi_lt.mp r1
  have a4 := pi_lt.mp l1
  have h1 := bt_shr (s ||| ((1 : Int32) <<< (r &&& 31))) l.toNatClampNeg (by omega)
  have h2 := bt_shr s l.toNatClampNeg (by omega)
  rw [pi_ofNat l0] at h1 h2
  rw [h1, h2, Int32.toBitVec_or, BitVec.getLsbD_or]
  have h3 := bt_shl r.toNatClampNeg (by omega) l.toNatClampNeg (by omega)
  rw [pi_ofNat r0] at h3
  rw [h3]
  have h4 : (l.toNatClampNeg = r.toNatClampNeg) ↔ l = r := ⟨fun g => by rw [← pi_ofNat l0, ← pi_ofNat r0, g], fun g => by rw [g]⟩
  simp only [Bool.or_eq_true, decide_eq_true_eq, h4]
  exact or_comm
theorem bt_dis {s r q : Int32} (r0 : 0 ≤ r) (r1 : r < 24) (q0 : 0 ≤ q) (q1 : q < 24) (n : ¬ q = r) (h : s &&& ((1 : Int32) <<< (r &&& 31)) = 0) : (s ||| ((1 : Int32) <<< (q &&& 31))) &&& ((1 : Int32) <<< (r &&& 31)) = 0 := by
  have e24 : (24 : Int32).toInt = 24 := rfl
  have a1 := pi_tni r0
  have a2 := pi_tni q0
  have a3 := pi_lt.mp r1
  have a4 := pi_lt.mp q1
  rw [← Int32.toBitVec_inj] at h ⊢
  rw [Int32.toBitVec_and] at h
  rw [Int32.toBitVec_and, Int32.toBitVec_or]
  apply BitVec.eq_of_getLsbD_eq
  intro i hi
  have z := congrArg (fun y => BitVec.getLsbD y i) h
  have h3 := bt_shl r.toNatClampNeg (by omega) i hi
  have h4 := bt_shl q.toNatClampNeg (by omega) i hi
  rw [pi_ofNat r0] at h3
  rw [pi_ofNat q0] at h4
  have z0 : (0 : Int32).toBitVec.getLsbD i = false := by show (0#32).getLsbD i = false; simp
  simp only [BitVec.getLsbD_and, h3, z0] at z
  simp only [BitVec.getLsbD_and, BitVec.getLsbD_or, h3, h4, z0]
  have h5 : ¬ q.toNatClampNeg = r.toNatClampNeg := fun g => n (by rw [← pi_ofNat q0, ← pi_ofNat r0, g])
  by_cases e : i = r.toNatClampNeg
  · have e2 : ¬ i = q.toNatClampNeg := by omega
    simp only [e, decide_true, Bool.and_true] at z
    simp only [e] at e2
    simp only [e, e2, z, decide_true, decide_false, Bool.or_false, Bool.and_true]
  · simp only [e, decide_false, Bool.and_false]
theorem px_hanging {d L : Nat} {b : Bool} {I : Nat → Nat → Int32} {J : Nat → Nat → Int64} {r : Int32} {nn nP nH nT : Int32} {kind house person amount frr to is leans proved seals told wit witOf : Nat → Int32} {Q : Int32 → Int64 → pm_H → Prop}
    (hr : pg_rig (I 18) (I 19) nn nP nH nT kind house person amount frr to is leans proved seals told wit witOf) (r0 : 0 ≤ r) (r1 : r < nn) :
    pm_wc pm_code pm_meta (d + 1) 55 [.ref 36, .int r] (pm_Gb L b, I, J) Q ↔ Q (pm_fo (fun (s : Int32) (q : Int32) => if leans q.toNatClampNeg = r ∨ (0 ≤ leans q.toNatClampNeg ∧ (s >>> (leans q.toNatClampNeg &&& 31)) &&& 1 = 1) then s ||| ((1 : Int32) <<< (q &&& 31)) else s) (nn.toNatClampNeg - (r.toNatClampNeg + 1)) (r + 1) 0) 0 (pm_Gb L b, I, J) := by
  have hn := rig_n hr
  have e24 : (24 : Int32).toInt = 24 := rfl
  have r24 : r < 24 := Int32.lt_of_lt_of_le r1 hn.2
  have t1 := pi_tni r0
  have t2 := pi_tni hn.1
  have t3 := pi_lt.mp r1
  have t4 := pi_le.mp hn.2
  have e3 : (r + 1).toNatClampNeg = r.toNatClampNeg + 1 := pi_tn1 r0 (by grind)
  have e4 : 0 ≤ r + 1 := by grind
  have gen : ∀ (m : Nat) (i s : Int32) (v : Option Int32), s &&& ((1 : Int32) <<< (r &&& 31)) = 0 → r < i → 0 ≤ i → i.toNatClampNeg + m = nn.toNatClampNeg → (pm_wp pm_code pm_meta (d + 1) 55 8 ([.ref 36, .int r, .int (s ||| ((1 : Int32) <<< (r &&& 31))), .int i, pm_vl v], [], (pm_Gb L b, I, J)) Q ↔ Q (pm_fo (fun (s : Int32) (q : Int32) => if leans q.toNatClampNeg = r ∨ (0 ≤ leans q.toNatClampNeg ∧ (s >>> (leans q.toNatClampNeg &&& 31)) &&& 1 = 1) then s ||| ((1 : Int32) <<< (q &&& 31)) else s) m i s) 0 (pm_Gb L b, I, J)) := by
    intro m
    induction m with
    | zero =>
      intro i s v hs hri i0 hm
      have a1 := pi_tni i0
      have hi : nn ≤ i := by rw [pi_le]; omega
      cases v <;> (simp only [pm_vl_n, pm_vl_s]; first | rw [pb_55_8] | rw [pb_55_8b]) <;> simp only [hr.1.2, hi, if_true, pb_55_66, pb_55_66b, bt_out s _ hs, pm_fo]
    | succ m ih =>
      intro i s v hs hri i0 hm
      have a1 := pi_tni i0
      have h1 : i < nn := by rw [pi_lt]; omega
      have hi : ¬ nn ≤ i := Int32.not_le.mpr h1
      have i24 : i < 24 := Int32.lt_of_lt_of_le h1 hn.2
      have e5 : (i + 1).toNatClampNeg = i.toNatClampNeg + 1 := pi_tn1 i0 (by grind)
      have e6 : 0 ≤ i + 1 := by grind
      have e7 : r < i + 1 := by grind
      have ne : ¬ i = r := fun g => by rw [g] at hri; exact absurd hri (by rw [pi_lt]; omega)
      obtain ⟨_, _, g⟩ := hr.2 _ (pi_tnlt i0 h1)
      have l0 := g.2.2.2.2.2.2.2.2.2.2.2.2.1
      have l1 := g.2.2.2.2.2.2.2.2.2.2.2.2.2.1
      have q1 := ih (i + 1) s (some (pm_no (leans i.toNatClampNeg))) hs e7 e6 (by omega)
      have q2 := ih (i + 1) (s ||| ((1 : Int32) <<< (i &&& 31))) (some (pm_no (leans i.toNatClampNeg))) (bt_dis r0 r24 i0 i24 ne hs) e7 e6 (by omega)
      have sw : (s ||| ((1 : Int32) <<< (i &&& 31))) ||| ((1 : Int32) <<< (r &&& 31)) = (s ||| ((1 : Int32) <<< (r &&& 31))) ||| ((1 : Int32) <<< (i &&& 31)) := by rw [Int32.or_assoc, Int32.or_assoc, Int32.or_comm ((1 : Int32) <<< (i &&& 31))]
      rw [sw] at q2
      simp only [pm_vl_s] at q1 q2
      unfold pm_fo
      by_cases hl : 0 ≤ leans i.toNatClampNeg
      · have l24 : leans i.toNatClampNeg < 24 := by rw [pi_lt]; have := pi_lt.mp i24; omega
        have nn0 : pm_no (leans i.toNatClampNeg) = leans i.toNatClampNeg := pm_no_nn hl
        have n3 : ¬ leans i.toNatClampNeg = -3 := no_n3 (Int32.not_lt.mpr hl)
        rw [nn0] at q1 q2
        by_cases hb : leans i.toNatClampNeg = r ∨ (s >>> (leans i.toNatClampNeg &&& 31)) &&& 1 = 1
        · have hb' : leans i.toNatClampNeg = r ∨ (0 ≤ leans i.toNatClampNeg ∧ (s >>> (leans i.toNatClampNeg &&& 31)) &&& 1 = 1) := hb.elim Or.inl (fun g => Or.inr ⟨hl, g⟩)
          rw [if_pos hb', ← q2]
          cases v <;> (simp only [pm_vl_n, pm_vl_s]; first | rw [pb_55_8] | rw [pb_55_8b]) <;> simp only [hr.1.2, hi, if_false, pb_55_22, pb_55_22b, px_rig_6 hr, pm_at_in i0 h1, nn0, pb_55_35, pb_55_35b, n3, pb_55_44, (bt_or r0 r24 hl l24).mpr hb, if_true, pb_55_54, pb_55_60]
        · have hb' : ¬ (leans i.toNatClampNeg = r ∨ (0 ≤ leans i.toNatClampNeg ∧ (s >>> (leans i.toNatClampNeg &&& 31)) &&& 1 = 1)) := fun g => hb (g.elim Or.inl (fun g => Or.inr g.2))
          have hb2 := eq_false (fun g => hb ((bt_or (s := s) r0 r24 hl l24).mp g))
          rw [if_neg hb', ← q1]
          cases v <;> (simp only [pm_vl_n, pm_vl_s]; first | rw [pb_55_8] | rw [pb_55_8b]) <;> simp only [hr.1.2, hi, if_false, pb_55_22, pb_55_22b, px_rig_6 hr, pm_at_in i0 h1, nn0, pb_55_35, pb_55_35b, n3, pb_55_44, hb2, pb_55_60]
      · have lt : leans i.toNatClampNeg < 0 := Int32.not_le.mp hl
        have hb' : ¬ (leans i.toNatClampNeg = r ∨ (0 ≤ leans i.toNatClampNeg ∧ (s >>> (leans i.toNatClampNeg &&& 31)) &&& 1 = 1)) := fun g => g.elim (fun g => hl (by rw [g]; exact r0)) (fun g => hl g.1)
        rw [no_neg lt] at q1
        rw [if_neg hb', ← q1]
        cases v <;> (simp only [pm_vl_n, pm_vl_s]; first | rw [pb_55_8] | rw [pb_55_8b]) <;> simp only [hr.1.2, hi, if_false, pb_55_22, pb_55_22b, px_rig_6 hr, pm_at_in i0 h1, no_neg lt, pb_55_35, pb_55_35b, if_true, pb_55_60]
  have key := gen (nn.toNatClampNeg - (r.toNatClampNeg + 1)) (r + 1) 0 none (by rw [Int32.zero_and]) (by grind) e4 (by omega)
  rw [Int32.zero_or] at key
  rw [pb_55_0]
  exact key
theorem pr_hangsOn {d L : Nat} {b : Bool} {I : Nat → Nat → Int32} {J : Nat → Nat → Int64} {r : Int32} {Q : Int32 → Int64 → pm_H → Prop} (n0 : 0 ≤ I 80 4) (n24 : I 80 4 ≤ 24) (r0 : 0 ≤ r) (r1 : r < I 80 4) :
    pm_wc pm_code pm_meta d 208 [.ref 79, .int r] (pm_Gb L b, I, J) Q ↔ Q (pm_fo (fun (s : Int32) (q : Int32) => if I 106 q.toNatClampNeg = r ∨ (0 ≤ I 106 q.toNatClampNeg ∧ (s >>> (I 106 q.toNatClampNeg &&& 31)) &&& 1 = 1) then s ||| ((1 : Int32) <<< (q &&& 31)) else s) ((I 80 4).toNatClampNeg - (r.toNatClampNeg + 1)) (r + 1) 0) 0 (pm_Gb L b, I, J) := by
  have e24 : (24 : Int32).toInt = 24 := rfl
  have t1 := pi_tni r0
  have t2 := pi_tni n0
  have t3 := pi_lt.mp r1
  have t4 := pi_le.mp n24
  have e3 : (r + 1).toNatClampNeg = r.toNatClampNeg + 1 := pi_tn1 r0 (by grind)
  have e4 : 0 ≤ r + 1 := by grind
  have gen : ∀ (m : Nat) (i s : Int32) (v : Option Int32), 0 ≤ i → i.toNatClampNeg + m = (I 80 4).toNatClampNeg → (pm_wp pm_code pm_meta d 208 6 ([.ref 79, .int r, .int s, .int i, pm_vl v], [], (pm_Gb L b, I, J)) Q ↔ Q (pm_fo (fun (s : Int32) (q : Int32) => if I 106 q.toNatClampNeg = r ∨ (0 ≤ I 106 q.toNatClampNeg ∧ (s >>> (I 106 q.toNatClampNeg &&& 31)) &&& 1 = 1) then s ||| ((1 : Int32) <<< (q &&& 31)) else s) m i s) 0 (pm_Gb L b, I, J)) := by
    intro m
    induction m with
    | zero =>
      intro i s v i0 hm
      have a1 := pi_tni i0
      have hi : I 80 4 ≤ i := by rw [pi_le]; omega
      cases v <;> (simp only [pm_vl_n, pm_vl_s]; first | rw [pb_208_6] | rw [pb_208_6b]) <;> simp only [hi, if_true, pb_208_61, pb_208_61b, pm_fo]
    | succ m ih =>
      intro i s v i0 hm
      have a1 := pi_tni i0
      have h1 : i < I 80 4 := by rw [pi_lt]; omega
      have hi : ¬ I 80 4 ≤ i := Int32.not_le.mpr h1
      have ii : pm_in i 24 = true := pi_in i0 (by omega)
      have e5 : (i + 1).toNatClampNeg = i.toNatClampNeg + 1 := pi_tn1 i0 (by grind)
      have e6 : 0 ≤ i + 1 := by grind
      have q := fun s => ih (i + 1) s (some (I 106 i.toNatClampNeg)) e6 (by omega)
      simp only [pm_vl_s] at q
      unfold pm_fo
      by_cases c1 : I 106 i.toNatClampNeg = r
      · rw [if_pos (Or.inl c1), ← q]
        cases v <;> (simp only [pm_vl_n, pm_vl_s]; first | rw [pb_208_6] | rw [pb_208_6b]) <;> simp only [hi, if_false, pb_208_16, pb_208_16b, ii, true_and, c1, if_true, pb_208_46, pb_208_53]
      · by_cases c2 : I 106 i.toNatClampNeg < 0
        · have hb : ¬ (I 106 i.toNatClampNeg = r ∨ (0 ≤ I 106 i.toNatClampNeg ∧ (s >>> (I 106 i.toNatClampNeg &&& 31)) &&& 1 = 1)) := fun g => g.elim c1 (fun g => Int32.not_lt.mpr g.1 c2)
          rw [if_neg hb, ← q]
          cases v <;> (simp only [pm_vl_n, pm_vl_s]; first | rw [pb_208_6] | rw [pb_208_6b]) <;> simp only [hi, if_false, pb_208_16, pb_208_16b, ii, true_and, c1, pb_208_31, c2, if_true, pb_208_52, pb_208_53, Int32.or_zero]
        · by_cases c3 : (s >>> (I 106 i.toNatClampNeg &&& 31)) &&& 1 = 1
          · rw [if_pos (Or.inr ⟨Int32.not_lt.mp c2, c3⟩), ← q]
            cases v <;> (simp only [pm_vl_n, pm_vl_s]; first | rw [pb_208_6] | rw [pb_208_6b]) <;> simp only [hi, if_false, pb_208_16, pb_208_16b, ii, true_and, c1, pb_208_31, c2, pb_208_36, c3, if_true, pb_208_46, pb_208_53]
          · have hb : ¬ (I 106 i.toNatClampNeg = r ∨ (0 ≤ I 106 i.toNatClampNeg ∧ (s >>> (I 106 i.toNatClampNeg &&& 31)) &&& 1 = 1)) := fun g => g.elim c1 (fun g => c3 g.2)
            rw [if_neg hb, ← q]
            cases v <;> (simp only [pm_vl_n, pm_vl_s]; first | rw [pb_208_6] | rw [pb_208_6b]) <;> simp only [hi, if_false, pb_208_16, pb_208_16b, ii, true_and, c1, pb_208_31, c2, pb_208_36, c3, pb_208_52, pb_208_53, Int32.or_zero]
  have key := gen ((I 80 4).toNatClampNeg - (r.toNatClampNeg + 1)) (r + 1) 0 none e4 (by omega)
  rw [pb_208_0]
  exact key
theorem po_hangs {d L : Nat} {b : Bool} {I : Nat → Nat → Int32} {J : Nat → Nat → Int64} {X : Nat → Int32} {x1 : Int32} (hI : pm_inv X b I J) : pm_wc pm_code pm_meta (d + 20) 130 [.ref 8, .int x1] (pm_Gb L b, I, J) (fun v _ H => pm_wc pm_code pm_meta (d + 20) 211 [.ref 79, .int x1] H (pm_ok X L b v)) := by
  have hI0 := hI
  obtain ⟨⟨htod, hroa, hper, hhou, hthi, hrig, hver, hsea, hsta, hlot, hbuy, hdee, hple⟩, htxt, hrid, htmp, hshe, hshf, htra, hk, hkept, hcon⟩ := hI
  have hn1 := (per_n hper).1
  have hn2 := (hou_n hhou).1
  have hn3 := (thi_n hthi).1
  have hn4 := (rig_n hrig).1
  rw [pb_130_0, pt_has_18, hrig.1.2, pb_130_11]
  by_cases h1 : 0 ≤ x1 ∧ x1 < I 80 4
  · obtain ⟨a1, a2⟩ := h1
    simp only [a1, a2, and_self, pm_b_t, show ¬ (1 : Int32) = 0 from by decide, if_false, pb_130_14, px_hanging (d := d + 18) hrig a1 a2, pb_130_22, pb_130_26, pb_211_0, pr_isRight hn4, pb_211_5, pb_211_8, pr_hangsOn hn4 (rig_n hrig).2 a1 a2, pb_211_13, pb_211_17]
    with_reducible exact pm_okJ hI0
  · simp only [h1, pm_b, if_false, if_true, pb_130_25, pb_130_26, pb_211_0, pr_isRight hn4, pb_211_5, pb_211_16, pb_211_17]
    with_reducible exact pm_okJ hI0

