/-! THE CALL order: what is brought behind each set; the class. -/
theorem or_gt {S k : Nat} (h : S.testBit k = false) : S < S ||| 2 ^ k := by
  have l : S ≤ S ||| 2 ^ k := Nat.left_le_or
  have ne : ¬ S = S ||| 2 ^ k := fun e => by
    have : (S ||| 2 ^ k).testBit k = true := by rw [Nat.testBit_or, Nat.testBit_two_pow_self, Bool.or_true]
    rw [← e, h] at this
    exact absurd this (by decide)
  omega
theorem mb_cg {f f' : Nat → Int32} {n : Int32} {S : Nat} (n0 : 0 ≤ n) (nl : n < 2147483647) (h : ∀ k, k < n.toNatClampNeg → S.testBit k = false → f (S ||| 2 ^ k) = f' (S ||| 2 ^ k)) : pf_mb f n S = pf_mb f' n S := by
  unfold pf_mb
  refine fo_cg0 n0 nl (fun s i i0 i1 => ?_)
  by_cases c : S.testBit i.toNatClampNeg = false
  · rw [if_pos c, if_pos c, h _ (pi_tnlt i0 i1) c]
  · rw [if_neg c, if_neg c]
theorem px_fallenSet {d L : Nat} {b : Bool} {I : Nat → Nat → Int32} {J : Nat → Nat → Int64} {n today : Int32} {place order coin fear fell stripped due roll rollday had : Nat → Int32} {Q : Int32 → Int64 → pm_H → Prop} (hh : pg_hou (I 14) (I 15) n today place order coin fear fell stripped due roll rollday had) : pm_wc pm_code pm_meta (d + 2) 62 [.ref 67] (pm_Gb L b, I, J) Q ↔ Q (Int32.ofNat (pf_mk (fun k => 0 ≤ fell k) n.toNatClampNeg)) 0 (pm_Gb L b, I, J) := by
  have hn := hou_n hh
  have t1 := pi_tni hn.1
  have t2 := pi_le.mp hn.2
  have e8 : (8 : Int32).toInt = 8 := rfl
  have key : ∀ (m k : Nat), k + m = n.toNatClampNeg → (pm_wp pm_code pm_meta (d + 2) 62 4 ([.ref 67, .int (Int32.ofNat (pf_mk (fun k => 0 ≤ fell k) k)), .int (Int32.ofNat k)], [], (pm_Gb L b, I, J)) Q ↔ Q (Int32.ofNat (pf_mk (fun k => 0 ≤ fell k) n.toNatClampNeg)) 0 (pm_Gb L b, I, J)) := by
    intro m
    induction m with
    | zero =>
      intro k hk
      have : k = n.toNatClampNeg := by omega
      have p := pi_on (j := k) (by omega)
      have hi : n ≤ Int32.ofNat k := by rw [pi_le, p.2.2]; omega
      rw [pb_62_4, hh.1.2, if_pos hi, pb_62_41, this]
    | succ m ih =>
      intro k hk
      have p := pi_on (j := k) (by omega)
      have lk : Int32.ofNat k < n := pi_onlt (by omega) (by omega)
      have ek := pi_onadd (j := k) (by omega)
      have lt := mk_lt (p := fun k => 0 ≤ fell k) k
      have l2 : 2 ^ k ≤ 2 ^ 8 := Nat.pow_le_pow_right (by decide) (by omega)
      have z := hb_or (pf_mk (fun k => 0 ≤ fell k) k) k (by omega) (by omega)
      rw [pb_62_4, hh.1.2, if_neg (Int32.not_le.mpr lk), pb_62_18, px_fallen hh p.1 lk, p.2.1, pb_62_26]
      by_cases c : 0 ≤ fell k
      · have em : pf_mk (fun k => 0 ≤ fell k) (k + 1) = pf_mk (fun k => 0 ≤ fell k) k ||| 2 ^ k := if_pos c
        rw [pm_b_t' c, if_neg (by decide), pb_62_29, pb_62_35, z.1, ← em, ek]
        exact ih (k + 1) (by omega)
      · have em : pf_mk (fun k => 0 ≤ fell k) (k + 1) = pf_mk (fun k => 0 ≤ fell k) k := if_neg c
        rw [pm_b_f' c, if_pos rfl, pb_62_35, ← em, ek]
        exact ih (k + 1) (by omega)
  rw [pb_62_0]
  exact key n.toNatClampNeg 0 (by omega)
/-- the cells above lo tell what is brought -/
def pf_cok (br : Nat → Int32) (n : Int32) (F all lo : Nat) (f : Nat → Int32) : Prop := ∀ t, lo < t → t ≤ all → pf_in F t → f t = br t + pf_mb f n t
theorem px_orderReckon {d L : Nat} {b : Bool} {J : Nat → Nat → Int64} {I0 : Nat → Nat → Int32} {g : Nat → Int32} {nn nP nH nT : Int32} {kind house person amount frr to is leans proved seals told wit witOf : Nat → Int32} {n today : Int32} {place order coin fear fell stripped due roll rollday had : Nat → Int32} {Q : Int32 → Int64 → pm_H → Prop} (hr : pg_rig (I0 18) (I0 19) nn nP nH nT kind house person amount frr to is leans proved seals told wit witOf) (hg : ∀ j, j < nn.toNatClampNeg → I0 19 (16 * j + 8) = pm_no (g j)) (hh : pg_hou (I0 14) (I0 15) n today place order coin fear fell stripped due roll rollday had) (enH : nH = n) (ht : pm_ti (I0 68) 1 256) (hc : I0 68 3 = 256) {f : Nat → Int32}
    (hQ : ∀ f', pf_cok (pf_br kind house amount leans fell g nn) n (pf_mk (fun k => 0 ≤ fell k) n.toNatClampNeg) (2 ^ n.toNatClampNeg - 1) (pf_mk (fun k => 0 ≤ fell k) n.toNatClampNeg) f' → Q (pf_mb f' n (pf_mk (fun k => 0 ≤ fell k) n.toNatClampNeg)) 0 (pm_Gb L b, pm_r I0 69 f', J)) : pm_wc pm_code pm_meta (d + 4) 63 [.ref 67] (pm_Gb L b, pm_r I0 69 f, J) Q := by
  have hn := hou_n hh
  have nl := hou_l hh
  have t1 := pi_tni hn.1
  have t2 := pi_le.mp hn.2
  have e8 : (8 : Int32).toInt = 8 := rfl
  have r : ∀ f k, ¬ k = 69 → pm_r I0 69 f k = I0 k := fun f k h => by rw [pm_r_row, if_neg h]
  have r69 : ∀ f, pm_r I0 69 f 69 = f := fun f => by rw [pm_r_row, if_pos rfl]
  have hh' : ∀ f, pg_hou (pm_r I0 69 f 14) (pm_r I0 69 f 15) n today place order coin fear fell stripped due roll rollday had := fun f => by rw [r f 14 (by decide), r f 15 (by decide)]; exact hh
  have hr' : ∀ f, pg_rig (pm_r I0 69 f 18) (pm_r I0 69 f 19) nn nP nH nT kind house person amount frr to is leans proved seals told wit witOf := fun f => by rw [r f 18 (by decide), r f 19 (by decide)]; exact hr
  have hg' : ∀ f, ∀ j, j < nn.toNatClampNeg → pm_r I0 69 f 19 (16 * j + 8) = pm_no (g j) := fun f => by rw [r f 19 (by decide)]; exact hg
  have ht' : ∀ f, pm_ti (pm_r I0 69 f 68) 1 256 := fun f => by rw [r f 68 (by decide)]; exact ht
  have hc' : ∀ f, pm_r I0 69 f 68 3 = 256 := fun f => by rw [r f 68 (by decide)]; exact hc
  have l2 : 2 ^ n.toNatClampNeg ≤ 2 ^ 8 := Nat.pow_le_pow_right (by decide) (by omega)
  have p2 : 0 < 2 ^ n.toNatClampNeg := Nat.pow_pos (by decide)
  have lF := mk_lt (p := fun k => 0 ≤ fell k) n.toNatClampNeg
  have eall : ((1 : Int32) <<< (n &&& 31)) - 1 = Int32.ofNat (2 ^ n.toNatClampNeg - 1) := by
    have z := hb_bit n.toNatClampNeg (by omega)
    rw [pi_ofNat hn.1] at z
    rw [z, show (1 : Int32) = Int32.ofNat 1 from rfl, hb_sub _ _ (by omega) (by omega)]
  have key : ∀ (m s : Nat) (f : Nat → Int32), s = (pf_mk (fun k => 0 ≤ fell k) n.toNatClampNeg) + m → s ≤ 2 ^ n.toNatClampNeg - 1 → pf_cok (pf_br kind house amount leans fell g nn) n (pf_mk (fun k => 0 ≤ fell k) n.toNatClampNeg) (2 ^ n.toNatClampNeg - 1) s f → pm_wp pm_code pm_meta (d + 4) 63 22 ([.ref 67, .int (Int32.ofNat (pf_mk (fun k => 0 ≤ fell k) n.toNatClampNeg)), .int (Int32.ofNat (2 ^ n.toNatClampNeg - 1)), .int (Int32.ofNat s)], [], (pm_Gb L b, pm_r I0 69 f, J)) Q := by
    intro m
    induction m with
    | zero =>
      intro s f hs hle hok
      have hs : s = (pf_mk (fun k => 0 ≤ fell k) n.toNatClampNeg) := by omega
      rw [pb_63_22, if_pos (by rw [hs]; exact Int32.le_refl _), pb_63_60, px_mostBehind (d := d + 2) (hh' f) (ht' f) (hc' f) (by omega), pb_63_65, r69]
      rw [hs] at hok
      exact hQ f hok
    | succ m ih =>
      intro s f hs hle hok
      have ps := pi_on (j := s) (by omega)
      have pF := pi_on (j := (pf_mk (fun k => 0 ≤ fell k) n.toNatClampNeg)) (by omega)
      have ns : ¬ Int32.ofNat s ≤ Int32.ofNat (pf_mk (fun k => 0 ≤ fell k) n.toNatClampNeg) := by rw [pi_le, ps.2.2, pF.2.2]; omega
      have em : Int32.ofNat s + -1 = Int32.ofNat (s - 1) := by
        have := hb_sub s 1 (by omega) (by omega)
        rw [← this, Int32.sub_eq_add_neg, show -(Int32.ofNat 1) = -1 from rfl]
      rw [pb_63_22, if_neg ns, pb_63_27]
      by_cases c : pf_in (pf_mk (fun k => 0 ≤ fell k) n.toNatClampNeg) s
      · have c' := (and_in (s := s) (F := (pf_mk (fun k => 0 ≤ fell k) n.toNatClampNeg)) (by omega) (by omega)).mpr c
        rw [if_pos c', pb_63_34, px_broughtAt (d := d) (hr' f) (hg' f) (hh' f) (by omega) enH, pb_63_45, px_mostBehind (d := d + 2) (hh' f) (ht' f) (hc' f) (by omega), r69, pb_63_50, pt_set_68_0 (ht' f), hc' f, if_pos ⟨ps.1, by rw [pi_lt, ps.2.2, show (256 : Int32).toInt = 256 from rfl]; omega⟩, pb_63_54, em, ps.2.1]
        simp only [Nat.one_mul, Nat.add_zero, pm_u_r]
        refine ih (s - 1) _ (by omega) (by omega) (fun t h1 h2 h3 => ?_)
        have cg : ∀ t, s ≤ t → pf_mb (pm_w f s (pf_br kind house amount leans fell g nn s + pf_mb f n s)) n t = pf_mb f n t := fun t ht => mb_cg hn.1 nl (fun k _ hb => by
          have := or_gt hb
          rw [pm_w_ne (by omega)])
        rw [cg t (by omega)]
        by_cases e : t = s
        · subst e; rw [pm_w_at, if_pos rfl]
        · rw [pm_w_ne e]; exact hok t (by omega) h2 h3
      · have c' : ¬ (Int32.ofNat s &&& Int32.ofNat (pf_mk (fun k => 0 ≤ fell k) n.toNatClampNeg) = Int32.ofNat (pf_mk (fun k => 0 ≤ fell k) n.toNatClampNeg)) := fun q => c ((and_in (by omega) (by omega)).mp q)
        rw [if_neg c', pb_63_54, em]
        refine ih (s - 1) f (by omega) (by omega) (fun t h1 h2 h3 => ?_)
        by_cases e : t = s
        · subst e; exact absurd h3 c
        · exact hok t (by omega) h2 h3
  rw [pb_63_0, px_fallenSet (d := d + 1) (hh' f), pb_63_4, r f 14 (by decide), hh.1.2, eall]
  exact key (2 ^ n.toNatClampNeg - 1 - (pf_mk (fun k => 0 ≤ fell k) n.toNatClampNeg)) (2 ^ n.toNatClampNeg - 1) f (by omega) (Nat.le_refl _) (fun t h1 h2 _ => by omega)
/-- the next house behind a set -/
def pf_nb (f : Nat → Int32) (n : Int32) (S : Nat) : Option Int32 := pm_fq (fun h => S.testBit h.toNatClampNeg = false ∧ f (S ||| 2 ^ h.toNatClampNeg) = pf_mb f n S) n.toNatClampNeg 0
def pf_hst (nb : Nat → Option Int32) : Nat → Nat → Int32 → Int32
  | 0, _, last => last
  | m + 1, S, _ => match nb S with
    | none => -3
    | some h => pf_hst nb m (S ||| 2 ^ h.toNatClampNeg) h
theorem nb_k {f : Nat → Int32} {n : Int32} {S : Nat} {h : Int32} (n0 : 0 ≤ n) (nl : n < 2147483647) (e : pf_nb f n S = some h) : (S.testBit h.toNatClampNeg = false ∧ f (S ||| 2 ^ h.toNatClampNeg) = pf_mb f n S) ∧ 0 ≤ h ∧ h < n := by
  have z := pm_fq_some n0 nl n.toNatClampNeg 0 h (Int32.le_refl 0) (by simp) e
  exact z
theorem px_nextBehind {d L : Nat} {b : Bool} {I : Nat → Nat → Int32} {J : Nat → Nat → Int64} {S : Nat} {n today : Int32} {place order coin fear fell stripped due roll rollday had : Nat → Int32} {Q : Int32 → Int64 → pm_H → Prop} (hh : pg_hou (I 14) (I 15) n today place order coin fear fell stripped due roll rollday had) (ht : pm_ti (I 68) 1 256) (hc : I 68 3 = 256) (hS : S < 256) : pm_wc pm_code pm_meta (d + 2) 68 [.ref 67, .int (Int32.ofNat S)] (pm_Gb L b, I, J) Q ↔ Q ((pf_nb (I 69) n S).getD (-3)) 0 (pm_Gb L b, I, J) := by
  rw [pb_68_0, px_mostBehind (d := d) hh ht hc hS, pb_68_5]
  refine Iff.trans ?_ (pm_oe_getD (Q := fun v => Q v 0 (pm_Gb L b, I, J)) _)
  refine pm_for_s (A := fun h => pm_wp pm_code pm_meta (d + 2) 68 8 ([.ref 67, .int (Int32.ofNat S), .int (pf_mb (I 69) n S), .int h], [], (pm_Gb L b, I, J)) Q) (hou_n hh).1 (hou_l hh) (fun h h0 hin => ?_)
  rw [pb_68_8, hh.1.2]
  by_cases hi : n ≤ h
  · rw [if_pos hi, if_pos hi, pb_68_55]
  · have h1 := Int32.not_le.mp hi
    have k8 := hou_k (hou_n hh).2 h0 h1
    have bt := bt_nat0 (S := S) (by omega) (by omega : h.toNatClampNeg < 24)
    rw [pi_ofNat h0] at bt
    rw [if_neg hi, if_neg hi, pb_68_22]
    by_cases c : S.testBit h.toNatClampNeg = false
    · have z := hb_or S h.toNatClampNeg (by omega) (by omega)
      rw [pi_ofNat h0] at z
      rw [if_pos (by rw [bt]; exact c), pb_68_30, z.1, px_most_at ht hc (or_256 hS k8), pb_68_43]
      by_cases c2 : I 69 (S ||| 2 ^ h.toNatClampNeg) = pf_mb (I 69) n S
      · rw [if_pos c2, pb_68_47, if_pos ⟨c, c2⟩]
      · rw [if_neg c2, pb_68_49, if_neg (fun q => c2 q.2)]
    · rw [if_neg (by rw [bt]; exact c), pb_68_49, if_neg (fun q => c q.1)]
theorem px_houseAt {d L : Nat} {b : Bool} {I : Nat → Nat → Int32} {J : Nat → Nat → Int64} {x : Nat} {n today : Int32} {place order coin fear fell stripped due roll rollday had : Nat → Int32} {Q : Int32 → Int64 → pm_H → Prop} (hh : pg_hou (I 14) (I 15) n today place order coin fear fell stripped due roll rollday had) (ht : pm_ti (I 68) 1 256) (hc : I 68 3 = 256) (x0 : 0 < x) (x8 : x ≤ 8) (hQ : Q (pf_hst (pf_nb (I 69) n) x (pf_mk (fun k => 0 ≤ fell k) n.toNatClampNeg) (-3)) 0 (pm_Gb L b, I, J)) : pm_wc pm_code pm_meta (d + 3) 67 [.ref 67, .int (Int32.ofNat (x - 1))] (pm_Gb L b, I, J) Q := by
  have hn := hou_n hh
  have t1 := pi_tni hn.1
  have t2 := pi_le.mp hn.2
  have e8 : (8 : Int32).toInt = 8 := rfl
  have l2 : 2 ^ n.toNatClampNeg ≤ 2 ^ 8 := Nat.pow_le_pow_right (by decide) (by omega)
  have lF := mk_lt (p := fun k => 0 ≤ fell k) n.toNatClampNeg
  have px := pi_on (j := x - 1) (by omega)
  have key : ∀ (m i S : Nat) (last : Int32), i + m = x → S < 256 → Q (pf_hst (pf_nb (I 69) n) m S last) 0 (pm_Gb L b, I, J) → pm_wp pm_code pm_meta (d + 3) 67 11 ([.ref 67, .int (Int32.ofNat (x - 1)), .int (Int32.ofNat S), .int last, .int (Int32.ofNat i)], [], (pm_Gb L b, I, J)) Q := by
    intro m
    induction m with
    | zero =>
      intro i S last hi hS h
      have p := pi_on (j := i) (by omega)
      rw [pb_67_11, if_pos (by rw [pi_lt, px.2.2, p.2.2]; omega), pb_67_51]
      exact h
    | succ m ih =>
      intro i S last hi hS h
      have p := pi_on (j := i) (by omega)
      have ek := pi_onadd (j := i) (by omega)
      rw [pb_67_11, if_neg (by rw [pi_lt, px.2.2, p.2.2]; omega), pb_67_17, if_neg (by rw [pi_le, p.2.2, e8]; omega), pb_67_24, px_nextBehind (d := d) hh ht hc hS, pb_67_29]
      cases e : pf_nb (I 69) n S with
      | none =>
        have es : pf_hst (pf_nb (I 69) n) (m + 1) S last = -3 := by show (match pf_nb (I 69) n S with | none => -3 | some h => pf_hst (pf_nb (I 69) n) m (S ||| 2 ^ h.toNatClampNeg) h) = -3; rw [e]
        rw [es] at h
        rw [show (none : Option Int32).getD (-3) = -3 from rfl, if_pos rfl, pb_67_36]
        exact h
      | some v =>
        have es : pf_hst (pf_nb (I 69) n) (m + 1) S last = pf_hst (pf_nb (I 69) n) m (S ||| 2 ^ v.toNatClampNeg) v := by show (match pf_nb (I 69) n S with | none => -3 | some h => pf_hst (pf_nb (I 69) n) m (S ||| 2 ^ h.toNatClampNeg) h) = _; rw [e]
        rw [es] at h
        have kk := nb_k hn.1 (hou_l hh) e
        have k8 := hou_k hn.2 kk.2.1 kk.2.2
        have ne : ¬ v = -3 := fun q => by have := kk.2.1; rw [q] at this; exact absurd this (by decide)
        have z := hb_or S v.toNatClampNeg (by omega) (by omega)
        rw [pi_ofNat kk.2.1] at z
        rw [show (some v : Option Int32).getD (-3) = v from rfl, if_neg ne, pb_67_39, z.1, ek]
        exact ih (i + 1) _ v (by omega) (or_256 hS k8) h
  rw [pb_67_0, px_fallenSet (d := d) hh, pb_67_4]
  exact key x 0 (pf_mk (fun k => 0 ≤ fell k) n.toNatClampNeg) (-3) (by omega) (by omega) hQ

