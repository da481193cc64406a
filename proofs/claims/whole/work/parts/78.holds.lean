/-! holds. -/
theorem pk_12_16 : ((12 : Int32) = 16) = False := by decide
theorem pk_12_17 : ((12 : Int32) = 17) = False := by decide
theorem pk_12_18 : ((12 : Int32) = 18) = False := by decide
theorem pk_13_16 : ((13 : Int32) = 16) = False := by decide
theorem pk_13_17 : ((13 : Int32) = 17) = False := by decide
theorem pk_13_18 : ((13 : Int32) = 18) = False := by decide
theorem pk_14_16 : ((14 : Int32) = 16) = False := by decide
theorem pk_14_17 : ((14 : Int32) = 17) = False := by decide
theorem pk_14_18 : ((14 : Int32) = 18) = False := by decide
theorem pk_15_16 : ((15 : Int32) = 16) = False := by decide
theorem pk_15_17 : ((15 : Int32) = 17) = False := by decide
theorem pk_15_18 : ((15 : Int32) = 18) = False := by decide
theorem pk_16_12 : ((16 : Int32) = 12) = False := by decide
theorem pk_16_13 : ((16 : Int32) = 13) = False := by decide
theorem pk_16_14 : ((16 : Int32) = 14) = False := by decide
theorem pk_16_15 : ((16 : Int32) = 15) = False := by decide
theorem pk_16_17 : ((16 : Int32) = 17) = False := by decide
theorem pk_16_18 : ((16 : Int32) = 18) = False := by decide
theorem pk_18_12 : ((18 : Int32) = 12) = False := by decide
theorem pk_18_13 : ((18 : Int32) = 13) = False := by decide
theorem pk_18_14 : ((18 : Int32) = 14) = False := by decide
theorem pk_18_15 : ((18 : Int32) = 15) = False := by decide
theorem pk_18_16 : ((18 : Int32) = 16) = False := by decide
theorem pk_18_17 : ((18 : Int32) = 17) = False := by decide
def pf_hf (A : Nat → Nat → Nat) : Nat → Nat → Nat → Nat
  | 0, _, k => k
  | m + 1, p, k => pf_hf A m (p + 1) (A p k)
def pf_ans (order house amount kind is fell person born died : Nat → Int32) (q o n : Int32) : Bool :=
  if o = 4 then decide (order (house q.toNatClampNeg).toNatClampNeg = n)
  else if o = 5 then decide (n < amount q.toNatClampNeg)
  else if o = 6 then decide (kind q.toNatClampNeg = 2 ∧ fell (house q.toNatClampNeg).toNatClampNeg - is q.toNatClampNeg ≤ n)
  else decide (born (person q.toNatClampNeg).toNatClampNeg ≤ fell (house q.toNatClampNeg).toNatClampNeg ∧ (¬ 0 ≤ died (person q.toNatClampNeg).toNatClampNeg ∨ fell (house q.toNatClampNeg).toNatClampNeg ≤ died (person q.toNatClampNeg).toNatClampNeg))
theorem evs_cg {o : Int32} {a c : Prop} [Decidable a] [Decidable c] {k : Nat} (h : a ↔ c) : pm_evs o a k = pm_evs o c k := by
  unfold pm_evs
  by_cases ha : a
  · have hc := h.mp ha; simp only [ha, hc]
  · have hc : ¬ c := fun g => ha (h.mpr g)
    simp only [ha, hc]
theorem px_wa1 {d L : Nat} {b : Bool} {I : Nat → Nat → Int32} {J : Nat → Nat → Int64} {k : Nat} {o : Int32} {ans : Prop} [Decidable ans] {Q : Int32 → Int64 → pm_H → Prop} (hA : ans) (h : k < 33554432) (h1 : ¬ o = 1) (h2 : ¬ o = 2) (h3 : ¬ o = 3) : pm_wc pm_code pm_meta d 47 [.int (Int32.ofNat k), .int 1] (pm_Gb L b, I, J) Q ↔ Q (Int32.ofNat (pm_evs o ans k)) 0 (pm_Gb L b, I, J) := by
  have := px_withAnswer (d := d) (L := L) (b := b) (I := I) (J := J) (Q := Q) (ans := ans) h h1 h2 h3
  rw [pm_b_t hA] at this
  exact this
theorem px_wa0 {d L : Nat} {b : Bool} {I : Nat → Nat → Int32} {J : Nat → Nat → Int64} {k : Nat} {o : Int32} {ans : Prop} [Decidable ans] {Q : Int32 → Int64 → pm_H → Prop} (hA : ¬ ans) (h : k < 33554432) (h1 : ¬ o = 1) (h2 : ¬ o = 2) (h3 : ¬ o = 3) : pm_wc pm_code pm_meta d 47 [.int (Int32.ofNat k), .int 0] (pm_Gb L b, I, J) Q ↔ Q (Int32.ofNat (pm_evs o ans k)) 0 (pm_Gb L b, I, J) := by
  have := px_withAnswer (d := d) (L := L) (b := b) (I := I) (J := J) (Q := Q) (ans := ans) h h1 h2 h3
  rw [pm_b_f hA] at this
  exact this
theorem pi_cs7 {x : Int32} (h0 : 1 ≤ x) (h1 : x ≤ 7) : x = 1 ∨ x = 2 ∨ x = 3 ∨ x = 4 ∨ x = 5 ∨ x = 6 ∨ x = 7 := by grind
theorem px_holds_step {d L : Nat} {b : Bool} {I : Nat → Nat → Int32} {J : Nat → Nat → Int64} {f q S T w i : Int32} {k : Nat} {v : Option Int32} {n nP nH nT : Int32} {kind house person amount fr to is leans proved seals told wit witOf : Nat → Int32} {today : Int32} {place order coin fear fell stripped due roll rollday had : Nat → Int32} {born died : Nat → Int32} {op nn : Int32} {Q : Int32 → Int64 → pm_H → Prop}
    (hr : pg_rig (I 18) (I 19) n nP nH nT kind house person amount fr to is leans proved seals told wit witOf)
    (hh : pg_hou (I 14) (I 15) nH today place order coin fear fell stripped due roll rollday had)
    (hp : pg_per (I 12) (I 13) nP born died)
    (ts : pm_ti (I 24) 2 1200) (q0 : 0 ≤ q) (q1 : q < n) (i0 : 0 ≤ i) (i1 : i < I 24 3) (hi : ¬ T ≤ i)
    (e0 : I 25 (2 * i.toNatClampNeg + 0) = pm_opw op) (e1 : I 25 (2 * i.toNatClampNeg + 1) = nn) (o0 : 1 ≤ op) (o1 : op ≤ 7) (hk : k < 33554432) :
    pm_wp pm_code pm_meta (d + 3) 46 85 ([.ref 36, .int f, .int q, .int (fell (house q.toNatClampNeg).toNatClampNeg), .int S, .int T, .int (order (house q.toNatClampNeg).toNatClampNeg), .int (pm_b (kind q.toNatClampNeg = 2)), .int (is q.toNatClampNeg), .int (Int32.ofNat k), .int i, pm_vl v], [], (pm_Gb L b, I, J)) Q ↔
    pm_wp pm_code pm_meta (d + 3) 46 85 ([.ref 36, .int f, .int q, .int (fell (house q.toNatClampNeg).toNatClampNeg), .int S, .int T, .int (order (house q.toNatClampNeg).toNatClampNeg), .int (pm_b (kind q.toNatClampNeg = 2)), .int (is q.toNatClampNeg), .int (Int32.ofNat (pm_evs op (pf_ans order house amount kind is fell person born died q op nn = true) k)), .int (i + 1), pm_vl (some nn)], [], (pm_Gb L b, I, J)) Q := by
  have hk2 : k < 67108864 := by omega
  have start : pm_wp pm_code pm_meta (d + 3) 46 85 ([.ref 36, .int f, .int q, .int (fell (house q.toNatClampNeg).toNatClampNeg), .int S, .int T, .int (order (house q.toNatClampNeg).toNatClampNeg), .int (pm_b (kind q.toNatClampNeg = 2)), .int (is q.toNatClampNeg), .int (Int32.ofNat k), .int i, pm_vl v], [], (pm_Gb L b, I, J)) Q ↔ pm_wp pm_code pm_meta (d + 3) 46 120 ([.ref 36, .int f, .int q, .int (fell (house q.toNatClampNeg).toNatClampNeg), .int S, .int T, .int (order (house q.toNatClampNeg).toNatClampNeg), .int (pm_b (kind q.toNatClampNeg = 2)), .int (is q.toNatClampNeg), .int (Int32.ofNat k), .int i, .int nn], [.int (pm_opw op)], (pm_Gb L b, I, J)) Q := by
    cases v <;> (simp only [pm_vl_n, pm_vl_s]; first | rw [pb_46_85] | rw [pb_46_85b]) <;> simp only [hi, if_false, pb_46_92, pb_46_92b, pb_46_105, pb_46_105b, pt_get_24_1 ts, pt_get_24_0 ts, i0, i1, and_self, if_true, e0, e1]
  rw [start, pm_vl_s]
  rcases pi_cs7 o0 o1 with rfl | rfl | rfl | rfl | rfl | rfl | rfl
  · rw [show pm_opw 1 = 13 from by decide]
    simp only [pb_46_120, pl_13_12, pl_13_14, pl_13_15, pk_13_16, pk_13_17, pk_13_18, if_true, if_false, pb_46_188, pb_46_312, ev_or k hk2 (ans := (pf_ans order house amount kind is fell person born died q 1 nn = true))]
  · rw [show pm_opw 2 = 12 from by decide]
    simp only [pb_46_120, pl_12_13, pl_12_14, pl_12_15, pk_12_16, pk_12_17, pk_12_18, if_true, if_false, pb_46_173, pb_46_312, ev_and k hk2 (ans := (pf_ans order house amount kind is fell person born died q 2 nn = true))]
  · rw [show pm_opw 3 = 14 from by decide]
    simp only [pb_46_120, pl_14_12, pl_14_13, pl_14_15, pk_14_16, pk_14_17, pk_14_18, if_true, if_false, pb_46_164, pb_46_312, ev_not k hk2 (ans := (pf_ans order house amount kind is fell person born died q 3 nn = true))]
  · rw [show pm_opw 4 = 15 from by decide]
    have a41 : ¬ (4 : Int32) = 1 := by decide
    have a42 : ¬ (4 : Int32) = 2 := by decide
    have a43 : ¬ (4 : Int32) = 3 := by decide
    by_cases c : order (house q.toNatClampNeg).toNatClampNeg = nn
    · have ha : pf_ans order house amount kind is fell person born died q 4 nn = true := by unfold pf_ans; rw [if_pos rfl]; exact decide_eq_true c
      simp only [pb_46_120, pl_15_12, pl_15_13, pl_15_14, pk_15_16, pk_15_17, pk_15_18, if_true, if_false, pb_46_202, eq_true c, pb_46_211, pb_46_216, px_wa1 ha hk a41 a42 a43, pb_46_219, pb_46_312]
    · have ha : ¬ pf_ans order house amount kind is fell person born died q 4 nn = true := by unfold pf_ans; rw [if_pos rfl, decide_eq_false c]; decide
      simp only [pb_46_120, pl_15_12, pl_15_13, pl_15_14, pk_15_16, pk_15_17, pk_15_18, if_true, if_false, pb_46_202, eq_false c, pb_46_215, pb_46_216, px_wa0 ha hk a41 a42 a43, pb_46_219, pb_46_312]
  · rw [show pm_opw 5 = 16 from by decide]
    have a41 : ¬ (5 : Int32) = 1 := by decide
    have a42 : ¬ (5 : Int32) = 2 := by decide
    have a43 : ¬ (5 : Int32) = 3 := by decide
    have a54 : ¬ (5 : Int32) = 4 := by decide
    by_cases c : nn < amount q.toNatClampNeg
    · have c' := Int32.not_le.mpr c
      have ha : pf_ans order house amount kind is fell person born died q 5 nn = true := by unfold pf_ans; rw [if_neg a54, if_pos rfl]; exact decide_eq_true c
      simp only [pb_46_120, pk_16_12, pk_16_13, pk_16_14, pk_16_15, pk_16_17, pk_16_18, if_true, if_false, pb_46_224, px_rig_3 hr, pm_at_in, q0, q1, pb_46_238, c', pb_46_243, pb_46_248, px_wa1 ha hk a41 a42 a43, pb_46_251, pb_46_312]
    · have c' := Int32.not_lt.mp c
      have ha : ¬ pf_ans order house amount kind is fell person born died q 5 nn = true := by unfold pf_ans; rw [if_neg a54, if_pos rfl, decide_eq_false c]; decide
      simp only [pb_46_120, pk_16_12, pk_16_13, pk_16_14, pk_16_15, pk_16_17, pk_16_18, if_true, if_false, pb_46_224, px_rig_3 hr, pm_at_in, q0, q1, pb_46_238, c', pb_46_247, pb_46_248, px_wa0 ha hk a41 a42 a43, pb_46_251, pb_46_312]
  · rw [show pm_opw 6 = 18 from by decide]
    have a41 : ¬ (6 : Int32) = 1 := by decide
    have a42 : ¬ (6 : Int32) = 2 := by decide
    have a43 : ¬ (6 : Int32) = 3 := by decide
    have a54 : ¬ (6 : Int32) = 4 := by decide
    have a55 : ¬ (6 : Int32) = 5 := by decide
    by_cases c1 : kind q.toNatClampNeg = 2
    · by_cases c : fell (house q.toNatClampNeg).toNatClampNeg - is q.toNatClampNeg ≤ nn
      · have c' := Int32.not_lt.mpr c
        have ha : pf_ans order house amount kind is fell person born died q 6 nn = true := by unfold pf_ans; rw [if_neg a54, if_neg a55, if_pos rfl]; exact decide_eq_true ⟨c1, c⟩
        simp only [pb_46_120, pk_18_12, pk_18_13, pk_18_14, pk_18_15, pk_18_16, pk_18_17, if_true, if_false, pb_46_256, pm_b_eq0, c1, not_true_eq_false, pb_46_263, c', pb_46_272, pb_46_277, px_wa1 ha hk a41 a42 a43, pb_46_280, pb_46_312]
      · have c' := Int32.not_le.mp c
        have ha : ¬ pf_ans order house amount kind is fell person born died q 6 nn = true := by unfold pf_ans; rw [if_neg a54, if_neg a55, if_pos rfl, decide_eq_false (fun g => c g.2)]; decide
        simp only [pb_46_120, pk_18_12, pk_18_13, pk_18_14, pk_18_15, pk_18_16, pk_18_17, if_true, if_false, pb_46_256, pm_b_eq0, c1, not_true_eq_false, pb_46_263, c', pb_46_276, pb_46_277, px_wa0 ha hk a41 a42 a43, pb_46_280, pb_46_312]
    · have ha : ¬ pf_ans order house amount kind is fell person born died q 6 nn = true := by unfold pf_ans; rw [if_neg a54, if_neg a55, if_pos rfl, decide_eq_false (fun g => c1 g.1)]; decide
      simp only [pb_46_120, pk_18_12, pk_18_13, pk_18_14, pk_18_15, pk_18_16, pk_18_17, if_true, if_false, pb_46_256, pm_b_eq0, c1, not_false_eq_true, pb_46_276, pb_46_277, px_wa0 ha hk a41 a42 a43, pb_46_280, pb_46_312]
  · rw [show pm_opw 7 = 20 from by decide]
    have a41 : ¬ (7 : Int32) = 1 := by decide
    have a42 : ¬ (7 : Int32) = 2 := by decide
    have a43 : ¬ (7 : Int32) = 3 := by decide
    have a54 : ¬ (7 : Int32) = 4 := by decide
    have a55 : ¬ (7 : Int32) = 5 := by decide
    have a56 : ¬ (7 : Int32) = 6 := by decide
    obtain ⟨_, _, g⟩ := hr.2 _ (pi_tnlt q0 q1)
    have p0 := g.2.2.2.2.1
    have p1 := g.2.2.2.2.2.1
    have al : (born (person q.toNatClampNeg).toNatClampNeg ≤ fell (house q.toNatClampNeg).toNatClampNeg ∧ (pm_no (died (person q.toNatClampNeg).toNatClampNeg) = -3 ∨ fell (house q.toNatClampNeg).toNatClampNeg ≤ pm_no (died (person q.toNatClampNeg).toNatClampNeg))) ↔ pf_ans order house amount kind is fell person born died q 7 nn = true := by
      unfold pf_ans
      rw [if_neg a54, if_neg a55, if_neg a56, decide_eq_true_iff, pm_no_eq, pm_no_le]
    simp only [pb_46_120, pl_20_12, pl_20_13, pl_20_14, pl_20_15, pl_20_16, pl_20_17, pl_20_18, if_true, if_false, pb_46_285, px_rig_2 hr, pm_at_in, q0, q1, pb_46_303, px_isAlive hp, p0, p1, pb_46_307, px_withAnswer (o := 7) hk a41 a42 a43, evs_cg al, pb_46_310, pb_46_312]

