/-! THE CALL sale: the reference. -/
theorem on_n {a : Nat} (h : a < 67108864) : 0 ≤ Int32.ofNat a ∧ (Int32.ofNat a).toNatClampNeg = a ∧ (Int32.ofNat a).toInt = a := by
  have e : (Int32.ofNat a).toInt = a := Int32.toInt_ofNat_of_lt (by omega)
  have h0 : 0 ≤ Int32.ofNat a := by rw [pi_le, pi_0, e]; omega
  have := pi_tni h0
  exact ⟨h0, by omega, e⟩
theorem on_s {a : Nat} : Int32.ofNat a + 1 = Int32.ofNat (a + 1) := by
  rw [Int32.ofNat_add]; rfl
theorem on_p {a : Nat} (h : a < 67108864) : Int32.ofNat (a + 1) + (-1) = Int32.ofNat a := by
  rw [Int32.ofNat_add, Int32.add_assoc, show Int32.ofNat 1 + (-1) = 0 from rfl, Int32.add_zero]
theorem on_p' {a : Nat} (h : a < 67108863) : Int32.ofNat (a + 1) - 1 = Int32.ofNat a := hb_sub (a + 1) 1 (by omega) (by omega)
theorem on_mul {a c : Nat} : Int32.ofNat a * Int32.ofNat c = Int32.ofNat (a * c) := by
  rw [Int32.ofNat_mul]
theorem on_div {a c : Nat} (ha : a < 67108864) (hc : c < 67108864) (h0 : 0 < c) : Int32.ofNat a / Int32.ofNat c = Int32.ofNat (a / c) := by
  have e1 := (on_n ha).2.2
  have e2 := (on_n hc).2.2
  have l : a / c ≤ a := Nat.div_le_self _ _
  refine Int32.toInt_inj.mp ?_
  rw [pi_divb (by omega) (by omega), e1, e2, (on_n (by omega)).2.2]
  exact (Int.natCast_ediv a c).symm
theorem on_mod {a c : Nat} (ha : a < 67108864) (hc : c < 67108864) (h0 : 0 < c) : Int32.ofNat a - Int32.ofNat a / Int32.ofNat c * Int32.ofNat c = Int32.ofNat (a % c) := by
  have l : a / c * c ≤ a := Nat.div_mul_le_self _ _
  rw [on_div ha hc h0, on_mul, hb_sub _ _ ha l]
  congr 1
  have := Nat.div_add_mod' a c
  omega
theorem on_z {a : Nat} (ha : a < 67108864) (h0 : 0 < a) : ¬ Int32.ofNat a = 0 := by
  intro h
  have e := (on_n ha).2.2
  rw [h, pi_0] at e
  omega
theorem pr_getsLot {d L : Nat} {b : Bool} {I : Nat → Nat → Int32} {J : Nat → Nat → Int64} {Q : Int32 → Int64 → pm_H → Prop} {NL NB W l : Nat} (h7 : I 80 7 = Int32.ofNat NL) (h8 : I 80 8 = Int32.ofNat NB) (hL : NL ≤ 7) (hB : NB ≤ 3) (hW : W < 67108864) (hl : l < NL) :
    pm_wc pm_code pm_meta d 273 [.ref 79, .int (Int32.ofNat W), .int (Int32.ofNat l)] (pm_Gb L b, I, J) Q ↔ Q (Int32.ofNat (ps_dg (NB + 1) NL W l)) 0 (pm_Gb L b, I, J) := by
  have e8 : I 80 8 + 1 = Int32.ofNat (NB + 1) := by rw [h8, on_s]
  have nz : ¬ Int32.ofNat (NB + 1) = 0 := on_z (by omega) (by omega)
  have key : ∀ (k v : Nat), l + k ≤ 7 → v < 67108864 → (pm_wp pm_code pm_meta d 273 13 ([.ref 79, .int (Int32.ofNat W), .int (Int32.ofNat l), .int (Int32.ofNat v), .int (Int32.ofNat (l + k))], [], (pm_Gb L b, I, J)) Q ↔ Q (Int32.ofNat (v / (NB + 1) ^ k % (NB + 1))) 0 (pm_Gb L b, I, J)) := by
    intro k
    induction k with
    | zero =>
      intro v hk hv
      rw [pb_273_13, Nat.add_zero, if_pos (Int32.le_refl _), pb_273_37, e8, on_mod hv (by omega) (by omega), Nat.pow_zero, Nat.div_one]
      exact ⟨fun h => h.2, fun h => ⟨nz, h⟩⟩
    | succ k ih =>
      intro v hk hv
      have l2 : v / (NB + 1) ≤ v := Nat.div_le_self _ _
      rw [pb_273_13, if_neg (by rw [on_le (by omega) (by omega)]; omega), pb_273_19, e8, on_div hv (by omega) (by omega), show l + (k + 1) = (l + k) + 1 by omega, on_p (by omega), ih _ (by omega) (by omega), Nat.pow_succ, Nat.mul_comm ((NB + 1) ^ k), ← Nat.div_div_eq_div_mul]
      exact ⟨fun h => h.2, fun h => ⟨nz, h⟩⟩
  obtain ⟨N, rfl⟩ : ∃ N, NL = N + 1 := ⟨NL - 1, by omega⟩
  rw [pb_273_0, h7, on_p' (by omega)]
  have z := key (N - l) W (by omega) hW
  rw [show l + (N - l) = N by omega] at z
  rw [z]
  unfold ps_dg
  rw [show N + 1 - 1 - l = N - l by omega]
def ps_fq (I0 I : Nat → Nat → Int32) : Prop := (∀ k, ¬ k = 148 → ¬ k = 79 → I k = I0 k) ∧ ∀ j, ¬ j = 87 → ¬ j = 88 → I 79 j = I0 79 j
theorem pr_weigh {d L : Nat} {b : Bool} {I0 : Nat → Nat → Int32} {J : Nat → Nat → Int64} {NL NB : Nat} {PR CO : Nat → Nat} (h7 : I0 80 7 = Int32.ofNat NL) (h8 : I0 80 8 = Int32.ofNat NB) (hL : NL ≤ 7) (hB : NB ≤ 3) (pr9 : ∀ k, PR k ≤ 99) (co9 : ∀ k, CO k ≤ 300)
    (hp : ∀ k, k < NL → I0 128 k = Int32.ofNat (PR k)) (hc : ∀ k, k < NB → I0 129 k = Int32.ofNat (CO k)) {W : Nat} (hW : W < 67108864) {I : Nat → Nat → Int32} {Q : Int32 → Int64 → pm_H → Prop} (fr : ps_fq I0 I)
    (hQ : ∀ I', ps_fq I0 I' → I' 79 87 = Int32.ofNat (ps_fl CO (ps_ld (NB + 1) PR NL W) NB) → I' 79 88 = Int32.ofNat (ps_cm CO (ps_ld (NB + 1) PR NL W) NB) → Q 0 0 (pm_Gb L b, I', J)) :
    pm_wc pm_code pm_meta (d + 1) 274 [.ref 79, .int (Int32.ofNat W)] (pm_Gb L b, I, J) Q := by
  have r80 : ∀ I', ps_fq I0 I' → I' 80 = I0 80 := fun I' f => f.1 80 (by decide) (by decide)
  have i4 : ∀ a, a < 4 → pm_in (Int32.ofNat a) 4 = true := fun a h => pi_in (on_n (by omega)).1 (by rw [(on_n (by omega)).2.2]; omega)
  have loop3 : ∀ (k c : Nat) (I' : Nat → Nat → Int32), c + k = NB → ps_fq I0 I' → (∀ j, j < 4 → I' 148 j = Int32.ofNat (ps_ld (NB + 1) PR NL W j)) → I' 79 87 = Int32.ofNat (ps_fl CO (ps_ld (NB + 1) PR NL W) c) → I' 79 88 = Int32.ofNat (ps_cm CO (ps_ld (NB + 1) PR NL W) c) → pm_wp pm_code pm_meta (d + 1) 274 71 ([.ref 79, .int (Int32.ofNat W), .int (Int32.ofNat c)], [], (pm_Gb L b, I', J)) Q := by
    intro k
    induction k with
    | zero =>
      intro c I' hk f hld a87 a88
      rw [pb_274_71, r80 I' f, h8, if_pos (by rw [on_le (by omega) (by omega)]; omega), pb_274_141]
      exact hQ I' f (by rw [a87, show c = NB by omega]) (by rw [a88, show c = NB by omega])
    | succ k ih =>
      intro c I' hk f hld a87 a88
      have g := on_n (a := c) (by omega)
      have j4 := i4 c (by omega)
      have j3 : pm_in (Int32.ofNat c) 3 = true := pi_in g.1 (by rw [g.2.2]; omega)
      have e129 : I' 129 c = Int32.ofNat (CO c) := by rw [f.1 129 (by decide) (by decide)]; exact hc c (by omega)
      have b1 := ps_ld_bd (K := NB + 1) pr9 NL W c
      have b2 := co9 c
      have b3 := ps_fl_bd (co := CO) (s := ps_ld (NB + 1) PR NL W) c
      have b4 := ps_cm_bd (s := ps_ld (NB + 1) PR NL W) co9 c
      have at107 : ∀ (v : Nat), ps_fl CO (ps_ld (NB + 1) PR NL W) c + v = ps_fl CO (ps_ld (NB + 1) PR NL W) (c + 1) → pm_wp pm_code pm_meta (d + 1) 274 107 ([.ref 79, .int (Int32.ofNat W), .int (Int32.ofNat c)], [.int (Int32.ofNat v), .int (Int32.ofNat (ps_fl CO (ps_ld (NB + 1) PR NL W) c)), .ref 79], (pm_Gb L b, I', J)) Q := fun v hv => by
        have b5 := ps_fl_bd (co := CO) (s := ps_ld (NB + 1) PR NL W) (c + 1)
        have n148 : ∀ z, pm_u I' 79 87 z 148 = I' 148 := fun z => by rw [pm_u_row, if_neg (by decide)]
        have n129 : ∀ z, pm_u I' 79 87 z 129 = I' 129 := fun z => by rw [pm_u_row, if_neg (by decide)]
        have n88 : ∀ z, pm_u I' 79 87 z 79 88 = I' 79 88 := fun z => by rw [pm_u_row, if_pos rfl, pm_w_ne (by decide)]
        rw [pb_274_107, hb_add _ _ (by omega) (by omega), hv, g.2.1, n148, n129, n88, hld c (by omega), e129, a88]
        refine ⟨j4, j3, ?_⟩
        have fin : pm_wp pm_code pm_meta (d + 1) 274 131 ([.ref 79, .int (Int32.ofNat W), .int (Int32.ofNat c)], [.int (Int32.ofNat (min (ps_ld (NB + 1) PR NL W c) (CO c))), .int (Int32.ofNat (ps_cm CO (ps_ld (NB + 1) PR NL W) c)), .ref 79], (pm_Gb L b, pm_u I' 79 87 (Int32.ofNat (ps_fl CO (ps_ld (NB + 1) PR NL W) (c + 1))), J)) Q := by
          rw [pb_274_131, hb_add _ _ (by omega) (by omega), on_s]
          refine ih (c + 1) _ (by omega) ⟨fun k a e => ?_, fun j a e => ?_⟩ (fun j hj => ?_) ?_ ?_
          · rw [pm_u_row, if_neg e, pm_u_row, if_neg e]; exact f.1 k a e
          · rw [pm_u_row, if_pos rfl, pm_w_ne e, pm_u_row, if_pos rfl, pm_w_ne a]; exact f.2 j a e
          · rw [pm_u_row, if_neg (by decide), pm_u_row, if_neg (by decide)]; exact hld j hj
          · rw [pm_u_row, if_pos rfl, pm_w_ne (by decide), pm_u_at]
          · rw [pm_u_at]; rfl
        rw [pr_lesser, on_min (by omega) (by omega)]
        exact fin
      rw [pb_274_71, r80 I' f, h8, if_neg (by rw [on_le (by omega) (by omega)]; omega), pb_274_82, g.2.1, hld c (by omega), e129, a87]
      refine ⟨j4, j3, ?_⟩
      by_cases q : ps_ld (NB + 1) PR NL W c ≤ CO c
      · rw [if_pos (by rw [on_le (by omega) (by omega)]; exact q), pb_274_106]
        exact at107 0 (by show _ = _ + _; rw [if_pos q])
      · rw [if_neg (by rw [on_le (by omega) (by omega)]; exact q), pb_274_102]
        exact at107 1 (by show _ = _ + _; rw [if_neg q])
  have loop2 : ∀ (k l : Nat) (I' : Nat → Nat → Int32), l + k = NL → ps_fq I0 I' → (∀ j, j < 4 → I' 148 j = Int32.ofNat (ps_ld (NB + 1) PR l (W / (NB + 1) ^ k) j)) → pm_wp pm_code pm_meta (d + 1) 274 22 ([.ref 79, .int (Int32.ofNat W), .int (Int32.ofNat l)], [], (pm_Gb L b, I', J)) Q := by
    intro k
    induction k with
    | zero =>
      intro l I' hk f hld
      rw [pb_274_22, r80 I' f, h7, if_pos (by rw [on_le (by omega) (by omega)]; omega), pb_274_59]
      refine loop3 NB 0 _ (by omega) ⟨fun k a e => ?_, fun j a e => ?_⟩ (fun j hj => ?_) ?_ ?_
      · rw [pm_u_row, if_neg e, pm_u_row, if_neg e]; exact f.1 k a e
      · rw [pm_u_row, if_pos rfl, pm_w_ne e, pm_u_row, if_pos rfl, pm_w_ne a]; exact f.2 j a e
      · rw [pm_u_row, if_neg (by decide), pm_u_row, if_neg (by decide), hld j hj, Nat.pow_zero, Nat.div_one, show l = NL by omega]
      · rw [pm_u_row, if_pos rfl, pm_w_ne (by decide), pm_u_at]; rfl
      · rw [pm_u_at]; rfl
    | succ k ih =>
      intro l I' hk f hld
      have g := on_n (a := l) (by omega)
      have j7 : pm_in (Int32.ofNat l) 7 = true := pi_in g.1 (by rw [g.2.2]; omega)
      have e128 : I' 128 l = Int32.ofNat (PR l) := by rw [f.1 128 (by decide) (by decide)]; exact hp l (by omega)
      have edg : ps_dg (NB + 1) NL W l = W / (NB + 1) ^ k % (NB + 1) := by unfold ps_dg; rw [show NL - 1 - l = k by omega]
      have dlt : W / (NB + 1) ^ k % (NB + 1) < NB + 1 := Nat.mod_lt _ (by omega)
      have ep : W / (NB + 1) ^ (k + 1) = W / (NB + 1) ^ k / (NB + 1) := by rw [Nat.pow_succ, ← Nat.div_div_eq_div_mul]
      have gd := on_n (a := W / (NB + 1) ^ k % (NB + 1)) (by omega)
      have j4 := i4 (W / (NB + 1) ^ k % (NB + 1)) (by omega)
      have b1 := ps_ld_bd (K := NB + 1) pr9 l (W / (NB + 1) ^ (k + 1)) (W / (NB + 1) ^ k % (NB + 1))
      have b2 := pr9 l
      rw [pb_274_22, r80 I' f, h7, if_neg (by rw [on_le (by omega) (by omega)]; omega), pb_274_33, pr_getsLot (by rw [r80 I' f]; exact h7) (by rw [r80 I' f]; exact h8) hL hB hW (by omega), edg, pb_274_43, gd.2.1, g.2.1, e128, hld _ (by omega), hb_add _ _ (by omega) (by omega), on_s]
      refine ⟨j4, j7, j4, ih (l + 1) _ (by omega) ⟨fun k a e => ?_, fun j a e => ?_⟩ (fun j hj => ?_)⟩
      · rw [pm_u_row, if_neg a]; exact f.1 k a e
      · rw [pm_u_row, if_neg (by decide)]; exact f.2 j a e
      · rw [pm_u_row, if_pos rfl, pm_w_at]
        show _ = Int32.ofNat (ps_ld (NB + 1) PR l (W / (NB + 1) ^ k / (NB + 1)) j + (if W / (NB + 1) ^ k % (NB + 1) = j then PR l else 0))
        rw [← ep]
        by_cases q : j = W / (NB + 1) ^ k % (NB + 1)
        · rw [if_pos q, if_pos q.symm, q]
        · rw [if_neg q, if_neg (fun z => q z.symm), hld j hj]; rfl
  rw [pb_274_0, pb_274_2, if_neg (by decide), pb_274_7, pb_274_2, if_neg (by decide), pb_274_7, pb_274_2, if_neg (by decide), pb_274_7, pb_274_2, if_neg (by decide), pb_274_7, pb_274_2, if_pos (by decide), pb_274_20]
  refine ⟨by decide, by decide, by decide, by decide, loop2 NL 0 _ (by omega) ⟨fun k a e => ?_, fun j a e => ?_⟩ (fun j hj => ?_)⟩
  · simp only [pm_u_row, a, if_false]; exact fr.1 k a e
  · simp only [pm_u_row, show ¬ (79 : Nat) = 148 by decide, if_false]; exact fr.2 j a e
  · simp only [pm_u_row, if_true, pm_w_at]
    have : j = 0 ∨ j = 1 ∨ j = 2 ∨ j = 3 := by omega
    rcases this with q | q | q | q <;> subst q <;> rfl

