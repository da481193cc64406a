/-! holds, the whole of it. -/
/-- what waits when a rule's COND is answered for a right -/
def pf_hld (A : Int32 → Int32 → Bool) (opis opof : Nat → Int32) (a len : Nat) : Nat := pf_hf (fun p k => pm_evs (opis (a + p)) (A (opis (a + p)) (opof (a + p)) = true) k) len 0 1
theorem k25 {D : Int} {k : Nat} (h : k < 2 ^ (D.toNat + 1)) (hD : D ≤ 24) : k < 33554432 := by
  have : 2 ^ (D.toNat + 1) ≤ 2 ^ 25 := Nat.pow_le_pow_right (by decide) (by omega)
  have e : 2 ^ 25 = 33554432 := by decide
  omega
theorem px_holds {d L : Nat} {b : Bool} {I : Nat → Nat → Int32} {J : Nat → Nat → Int64} {f q : Int32} {jj vv : Nat} {n nP nH nT : Int32} {kind house person amount fr to is leans proved seals told wit witOf : Nat → Int32} {today : Int32} {place order coin fear fell stripped due roll rollday had : Nat → Int32} {born died : Nat → Int32} {sort kinds rank rops rend opis opof : Nat → Int32} {Q : Int32 → Int64 → pm_H → Prop}
    (hru : pg_rul (I 23) (I 25) f.toNatClampNeg jj vv (I 24 3) sort kinds rank rops rend opis opof)
    (hr : pg_rig (I 18) (I 19) n nP nH nT kind house person amount fr to is leans proved seals told wit witOf)
    (hh : pg_hou (I 14) (I 15) nH today place order coin fear fell stripped due roll rollday had)
    (hp : pg_per (I 12) (I 13) nP born died)
    (v7 : pm_ti (I 22) 5 120) (ts : pm_ti (I 24) 2 1200) (q0 : 0 ≤ q) (q1 : q < n) (f0 : 0 ≤ f) (f1 : f < I 22 3) :
    pm_wc pm_code pm_meta (d + 3) 46 [.ref 36, .int f, .int q, .int (fell (house q.toNatClampNeg).toNatClampNeg)] (pm_Gb L b, I, J) Q ↔ Q (pm_b (pf_hld (pf_ans order house amount kind is fell person born died q) opis opof (80 * vv + (rops jj).toNatClampNeg) ((rend jj).toNatClampNeg - (rops jj).toNatClampNeg) % 2 = 1)) 0 (pm_Gb L b, I, J) := by
  obtain ⟨r0, r1, r2, r3, r4, r5, r6, r7, r8, rS, rT, rST, rTn, rdep, rops'⟩ := hru
  obtain ⟨_, _, g⟩ := hr.2 _ (pi_tnlt q0 q1)
  have h0 := g.2.2.1
  have h1 := g.2.2.2.1
  generalize hS : I 23 (5 * f.toNatClampNeg + 3) = S at *
  generalize hT : I 23 (5 * f.toNatClampNeg + 4) = T at *
  generalize hlen : (rend jj).toNatClampNeg - (rops jj).toNatClampNeg = len at *
  have ts0 : 0 ≤ I 24 3 := ts.2.2.1
  have gen : ∀ (m p k : Nat) (i : Int32) (v : Option Int32), p + m = len → 0 ≤ i → i.toNatClampNeg = S.toNatClampNeg + p → k < 2 ^ ((pm_dep opis (80 * vv + (rops jj).toNatClampNeg) p).toNat + 1) →
      (pm_wp pm_code pm_meta (d + 3) 46 85 ([.ref 36, .int f, .int q, .int (fell (house q.toNatClampNeg).toNatClampNeg), .int S, .int T, .int (order (house q.toNatClampNeg).toNatClampNeg), .int (pm_b (kind q.toNatClampNeg = 2)), .int (is q.toNatClampNeg), .int (Int32.ofNat k), .int i, pm_vl v], [], (pm_Gb L b, I, J)) Q ↔ Q (pm_b (pf_hf (fun p k => pm_evs (opis (80 * vv + (rops jj).toNatClampNeg + p)) (pf_ans order house amount kind is fell person born died q (opis (80 * vv + (rops jj).toNatClampNeg + p)) (opof (80 * vv + (rops jj).toNatClampNeg + p)) = true) k) m p k % 2 = 1)) 0 (pm_Gb L b, I, J)) := by
    intro m
    induction m with
    | zero =>
      intro p k i v hpm i0 hi hk
      have kk := k25 hk (rdep p (by omega)).2
      have c1 := pi_tni rT
      have c2 := pi_tni i0
      have hTi : T ≤ i := by rw [pi_le]; omega
      have lo := ev_low k (by omega)
      by_cases hb : k % 2 = 1
      · cases v <;> (simp only [pm_vl_n, pm_vl_s]; first | rw [pb_46_85] | rw [pb_46_85b]) <;> simp only [hTi, if_true, pb_46_318, pb_46_318b, lo, eq_true hb, pb_46_326, pb_46_326b, pb_46_331, pb_46_331b, pm_k1, true_and, pf_hf, pm_b_t]
      · cases v <;> (simp only [pm_vl_n, pm_vl_s]; first | rw [pb_46_85] | rw [pb_46_85b]) <;> simp only [hTi, if_true, if_false, pb_46_318, pb_46_318b, lo, eq_false hb, pb_46_330, pb_46_330b, pb_46_331, pb_46_331b, pm_k0, true_and, pf_hf, pm_b]
    | succ m ih =>
      intro p k i v hpm i0 hi hk
      have kk := k25 hk (rdep p (by omega)).2
      have c1 := pi_tni rT
      have c2 := pi_tni i0
      have c3 := pi_tni ts0
      have hTi : ¬ T ≤ i := by rw [pi_le]; omega
      have i1 : i < I 24 3 := by rw [pi_lt]; omega
      obtain ⟨s0, s1, s2, s3⟩ := rops' p (by omega)
      rw [← hi] at s0 s1
      rw [← Nat.add_assoc] at s0 s1 s2 s3
      have e3 : (i + 1).toNatClampNeg = i.toNatClampNeg + 1 := pi_tn1 i0 (by rw [pi_lt]; have e : (2147483647 : Int32).toInt = 2147483647 := rfl; have := pi_hi (I 24 3); omega)
      have e4 : 0 ≤ i + 1 := by
        have := pi_hi (I 24 3)
        rw [pi_le, pi_0, pi_add (by rw [pi_1]; omega) (by rw [pi_1]; omega), pi_1]; omega
      have st := px_holds_step (d := d) (L := L) (b := b) (I := I) (J := J) (Q := Q) (f := f) (S := S) (T := T) (w := T) (v := v) hr hh hp ts q0 q1 i0 i1 hTi s0 s1 s2 s3 kk
      refine st.trans ?_
      have dp := rdep p (by omega)
      have dp1 := rdep (p + 1) (by omega)
      have hb := evs_lt (o := opis (80 * vv + (rops jj).toNatClampNeg + p)) (ans := (pf_ans order house amount kind is fell person born died q (opis (80 * vv + (rops jj).toNatClampNeg + p)) (opof (80 * vv + (rops jj).toNatClampNeg + p)) = true)) dp.1 dp1.1 hk
      exact ih (p + 1) _ (i + 1) (some _) (by omega) e4 (by omega) hb
  have key := gen len 0 1 S none (by omega) rS (by omega) (by show 1 < 2 ^ ((0 : Int).toNat + 1); decide)
  rw [pb_46_0, pt_get_22_3 v7, if_pos ⟨f0, f1⟩, hS, pb_46_12, pt_get_22_4 v7, if_pos ⟨f0, f1⟩, hT, pb_46_26, px_rig_1 hr, pm_at_in q0 q1, pb_46_47, px_hou_1 hh, pm_at_in h0 h1, pb_46_51, px_isLease hr, pm_at_in q0 q1, pb_46_61, px_rig_7 hr, pm_at_in q0 q1, pb_46_76]
  simp only [pm_vl_n] at key
  exact key
theorem pr_holds {d L : Nat} {b : Bool} {I : Nat → Nat → Int32} {J : Nat → Nat → Int64} {v r q : Int32} {Q : Int32 → Int64 → pm_H → Prop} (v0 : 0 ≤ v) (v1 : v < 12) (ir : pm_in r 130 = true) (i24 : pm_in q 24 = true) (i8 : pm_in (I 100 q.toNatClampNeg) 8 = true) (i16 : pm_in (I 101 q.toNatClampNeg) 16 = true)
    (a0 : 0 ≤ I 120 r.toNatClampNeg) (a1 : I 120 r.toNatClampNeg ≤ I 121 r.toNatClampNeg) (a2 : I 121 r.toNatClampNeg ≤ 80)
    (rdep : ∀ m : Nat, m ≤ (I 121 r.toNatClampNeg).toNatClampNeg - (I 120 r.toNatClampNeg).toNatClampNeg → 0 ≤ pm_dep (I 122) (80 * v.toNatClampNeg + (I 120 r.toNatClampNeg).toNatClampNeg) m ∧ pm_dep (I 122) (80 * v.toNatClampNeg + (I 120 r.toNatClampNeg).toNatClampNeg) m ≤ 24)
    (rop : ∀ m : Nat, m < (I 121 r.toNatClampNeg).toNatClampNeg - (I 120 r.toNatClampNeg).toNatClampNeg → 1 ≤ I 122 (80 * v.toNatClampNeg + (I 120 r.toNatClampNeg).toNatClampNeg + m) ∧ I 122 (80 * v.toNatClampNeg + (I 120 r.toNatClampNeg).toNatClampNeg + m) ≤ 7) :
    pm_wc pm_code pm_meta (d + 2) 239 [.ref 79, .int v, .int r, .int q] (pm_Gb L b, I, J) Q ↔ Q (pm_b (pf_hld (pf_ans (I 85) (I 100) (I 102) (I 99) (I 105) (I 88) (I 101) (I 82) (I 83) q) (I 122) (I 123) (80 * v.toNatClampNeg + (I 120 r.toNatClampNeg).toNatClampNeg) ((I 121 r.toNatClampNeg).toNatClampNeg - (I 120 r.toNatClampNeg).toNatClampNeg) % 2 = 1)) 0 (pm_Gb L b, I, J) := by
  have e80 : (80 : Int32).toInt = 80 := rfl
  have e12 : (12 : Int32).toInt = 12 := rfl
  have b0 := pi_tni v0
  have b1 := pi_tni a0
  have b2 := pi_tni (Int32.le_trans a0 a1)
  have v1' := pi_lt.mp v1
  have a1' := pi_le.mp a1
  have a2' := pi_le.mp a2
  have s80 : (80 * v).toInt = 80 * v.toInt := by rw [pi_mul (by rw [e80]; omega) (by rw [e80]; omega), e80]
  have sE : (80 * v + I 121 r.toNatClampNeg).toInt = 80 * v.toInt + (I 121 r.toNatClampNeg).toInt := by rw [pi_add (by omega) (by omega), s80]
  have sS : (80 * v + I 120 r.toNatClampNeg).toInt = 80 * v.toInt + (I 120 r.toNatClampNeg).toInt := by rw [pi_add (by omega) (by omega), s80]
  generalize hlen : (I 121 r.toNatClampNeg).toNatClampNeg - (I 120 r.toNatClampNeg).toNatClampNeg = len at *
  have gen : ∀ (m p k : Nat) (j fl : Int32) (u : Option Int64), p + m = len → 0 ≤ j → j.toNatClampNeg = 80 * v.toNatClampNeg + (I 120 r.toNatClampNeg).toNatClampNeg + p → k < 2 ^ ((pm_dep (I 122) (80 * v.toNatClampNeg + (I 120 r.toNatClampNeg).toNatClampNeg) p).toNat + 1) → (fl = 0 → len = 0 ∧ k = 1) →
      (pm_wp pm_code pm_meta (d + 2) 239 38 ([.ref 79, .int v, .int r, .int q, .long (Int64.ofNat k), pm_unset, .int fl, .int j, pm_vq u, pm_unset], [], (pm_Gb L b, I, J)) Q ↔ Q (pm_b (pf_hf (fun p k => pm_evs (I 122 (80 * v.toNatClampNeg + (I 120 r.toNatClampNeg).toNatClampNeg + p)) (pf_ans (I 85) (I 100) (I 102) (I 99) (I 105) (I 88) (I 101) (I 82) (I 83) q (I 122 (80 * v.toNatClampNeg + (I 120 r.toNatClampNeg).toNatClampNeg + p)) (I 123 (80 * v.toNatClampNeg + (I 120 r.toNatClampNeg).toNatClampNeg + p)) = true) k) m p k % 2 = 1)) 0 (pm_Gb L b, I, J)) := by
    intro m
    induction m with
    | zero =>
      intro p k j fl u hpm j0 hj hk hfl
      have kk := k25 hk (rdep p (by omega)).2
      have c2 := pi_tni j0
      have hTi : 80 * v + I 121 r.toNatClampNeg ≤ j := by rw [pi_le, sE]; omega
      have lo := er_low k (by omega)
      by_cases hb : k % 2 = 1
      · by_cases hf : fl = 0
        · cases u <;> (simp only [pm_vq_n, pm_vq_s]; first | rw [pb_239_38] | rw [pb_239_38b]) <;> simp only [ir, hTi, true_and, if_true, pb_239_178, pb_239_178b, eq_true hf, pb_239_192, pb_239_192b, pb_239_197, pb_239_197b, pm_k1, pf_hf, eq_true hb, pm_b_t]
        · cases u <;> (simp only [pm_vq_n, pm_vq_s]; first | rw [pb_239_38] | rw [pb_239_38b]) <;> simp only [ir, hTi, true_and, if_true, if_false, pb_239_178, pb_239_178b, eq_false hf, pb_239_183, pb_239_183b, lo, eq_true hb, pb_239_192, pb_239_192b, pb_239_197, pb_239_197b, pm_k1, pf_hf, pm_b_t]
      · have hf : ¬ fl = 0 := fun g => by have := (hfl g).2; subst this; exact hb rfl
        cases u <;> (simp only [pm_vq_n, pm_vq_s]; first | rw [pb_239_38] | rw [pb_239_38b]) <;> simp only [ir, hTi, true_and, if_true, if_false, pb_239_178, pb_239_178b, eq_false hf, pb_239_183, pb_239_183b, lo, eq_false hb, pb_239_196, pb_239_196b, pb_239_197, pb_239_197b, pm_k0, pf_hf, pm_b]
    | succ m ih =>
      intro p k j fl u hpm j0 hj hk hfl
      have kk := k25 hk (rdep p (by omega)).2
      have c2 := pi_tni j0
      have hTi : ¬ 80 * v + I 121 r.toNatClampNeg ≤ j := by rw [pi_le, sE]; omega
      have ij : pm_in j 1040 = true := pi_in j0 (by omega)
      obtain ⟨s2, s3⟩ := rop p (by omega)
      rw [← hj] at s2 s3
      have e3 : (j + 1).toNatClampNeg = j.toNatClampNeg + 1 := pi_tn1 j0 (by rw [pi_lt]; have e : (2147483647 : Int32).toInt = 2147483647 := rfl; omega)
      have e4 : 0 ≤ j + 1 := by
        rw [pi_le, pi_0, pi_add (by rw [pi_1]; omega) (by rw [pi_1]; omega), pi_1]; omega
      have st := pr_holds_step (d := d) (L := L) (b := b) (I := I) (J := J) (Q := Q) (v := v) (f := fl) (u := u) ir ij hTi i24 i8 i16 kk s2 s3
      refine st.trans ?_
      rw [hj] at s2 s3 ⊢
      have dp := rdep p (by omega)
      have dp1 := rdep (p + 1) (by omega)
      have hb := evs_lt (o := I 122 (80 * v.toNatClampNeg + (I 120 r.toNatClampNeg).toNatClampNeg + p)) (ans := (pf_ans (I 85) (I 100) (I 102) (I 99) (I 105) (I 88) (I 101) (I 82) (I 83) q (I 122 (80 * v.toNatClampNeg + (I 120 r.toNatClampNeg).toNatClampNeg + p)) (I 123 (80 * v.toNatClampNeg + (I 120 r.toNatClampNeg).toNatClampNeg + p)) = true)) dp.1 dp1.1 hk
      exact ih (p + 1) _ (j + 1) fl (some _) (by omega) e4 (by omega) hb (fun g => absurd (hfl g).1 (by omega))
  have jS : (80 * v + I 120 r.toNatClampNeg).toNatClampNeg = 80 * v.toNatClampNeg + (I 120 r.toNatClampNeg).toNatClampNeg + 0 := by rw [pi_tn, sS]; omega
  have j0 : 0 ≤ 80 * v + I 120 r.toNatClampNeg := by rw [pi_le, pi_0, sS]; omega
  by_cases hle : I 121 r.toNatClampNeg ≤ I 120 r.toNatClampNeg
  · have hle' := pi_le.mp hle
    have key := gen len 0 1 (80 * v + I 120 r.toNatClampNeg) 0 none (by omega) j0 jS (by show 1 < 2 ^ ((0 : Int).toNat + 1); decide) (fun _ => ⟨by omega, rfl⟩)
    rw [pb_239_0]
    simp only [ir, true_and, hle, if_true, pb_239_22, pb_239_23]
    simp only [pm_vq_n] at key
    exact key
  · have key := gen len 0 1 (80 * v + I 120 r.toNatClampNeg) 1 none (by omega) j0 jS (by show 1 < 2 ^ ((0 : Int).toNat + 1); decide) (fun g => absurd g (by decide))
    rw [pb_239_0]
    simp only [ir, true_and, hle, if_false, pb_239_18, pb_239_23]
    simp only [pm_vq_n] at key
    exact key

