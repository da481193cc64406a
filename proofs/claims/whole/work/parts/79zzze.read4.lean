/-! THE CALL read: the reference's tokens. -/
theorem ol_add {a c : Int} : Int64.ofInt a + Int64.ofInt c = Int64.ofInt (a + c) := (Int64.ofInt_add _ _).symm
theorem ol_mul {a c : Int} : Int64.ofInt a * Int64.ofInt c = Int64.ofInt (a * c) := (Int64.ofInt_mul _ _).symm
theorem ol_sub {a c : Int} : Int64.ofInt a - Int64.ofInt c = Int64.ofInt (a - c) := (Int64.ofInt_sub _ _).symm
theorem ol_n {a : Int} (h : -4611686018427387904 ≤ a) (h2 : a < 4611686018427387904) : (Int64.ofInt a).toInt = a := Int64.toInt_ofInt_of_le (by simp; omega) (by simp; omega)
theorem ol_i {x : Int32} : Int32.toInt64 x = Int64.ofInt x.toInt := by
  apply Int64.toInt_inj.mp
  rw [Int32.toInt_toInt64]
  have := Int32.le_toInt x
  have := Int32.toInt_lt x
  rw [ol_n (by omega) (by omega)]
theorem ol_on {a : Nat} (h : a < 67108864) : Int32.toInt64 (Int32.ofNat a) = Int64.ofInt a := by rw [ol_i, (on_n h).2.2]
theorem ol_eq {a c : Int} (h : -4611686018427387904 ≤ a) (h2 : a < 4611686018427387904) (h3 : -4611686018427387904 ≤ c) (h4 : c < 4611686018427387904) : (Int64.ofInt a = Int64.ofInt c) = (a = c) := propext ⟨fun e => by
  have := congrArg Int64.toInt e
  rwa [ol_n h h2, ol_n h3 h4] at this, fun e => by rw [e]⟩
theorem lg_eq {x y : Int64} : (lg_cmp x y = 0) = (x = y) := propext ⟨fun h => by
  unfold lg_cmp at h
  by_cases c : x > y
  · rw [if_pos c] at h; exact absurd h (by decide)
  · rw [if_neg c] at h
    by_cases e : x = y
    · exact e
    · rw [if_neg e] at h; exact absurd h (by decide), fun h => by
  unfold lg_cmp
  rw [h, if_neg (fun q => Int64.lt_irrefl q), if_pos rfl]⟩
theorem lg_le {a c : Int} (h : -4611686018427387904 ≤ a) (h2 : a < 4611686018427387904) (h3 : -4611686018427387904 ≤ c) (h4 : c < 4611686018427387904) : (lg_cmp (Int64.ofInt a) (Int64.ofInt c) ≤ 0) = (a ≤ c) := propext ⟨fun q => by
  unfold lg_cmp at q
  by_cases k : Int64.ofInt a > Int64.ofInt c
  · rw [if_pos k] at q; exact absurd q (by decide)
  · have k' : ¬ Int64.ofInt c < Int64.ofInt a := k
    rw [Int64.lt_iff_toInt_lt, ol_n h h2, ol_n h3 h4] at k'
    omega, fun q => by
  have k : ¬ Int64.ofInt a > Int64.ofInt c := fun z => by
    have z' : Int64.ofInt c < Int64.ofInt a := z
    rw [Int64.lt_iff_toInt_lt, ol_n h h2, ol_n h3 h4] at z'
    omega
  unfold lg_cmp
  rw [if_neg k]
  split <;> decide⟩
/-- the worth of a token, for the reference -/
def rd_jw (c : Nat → Nat) (n i : Nat) : Int := if rd_s c n i < n then (if rd_L (c (rd_s c n i)) = true then rd_wt (rd_tl c (rd_s c n i) (rd_pt c n (i + 1))) else if rd_D (c (rd_s c n i)) = true then (if rd_pt c n (i + 1) ≤ rd_s c n i + 3 then (rd_v (rd_tl c (rd_s c n i) (rd_pt c n (i + 1))) : Int) else 1000000000) else (c (rd_s c n i) : Int)) else 0
def rd_kd (c : Nat → Nat) (n i : Nat) : Int32 := if rd_s c n i < n then (if rd_L (c (rd_s c n i)) = true then 1 else if rd_D (c (rd_s c n i)) = true then 2 else 3) else 0
def rd_rt (c : Nat → Nat) (n i : Nat) (I : Nat → Nat → Int32) (J : Nat → Nat → Int64) : Prop := I 79 62 = rd_kd c n i ∧ I 79 63 = Int32.ofNat (rd_s c n i) ∧ I 79 66 = Int32.ofNat (rd_pt c n (i + 1)) ∧ J 79 65 = Int64.ofInt (rd_jw c n i)
/-- what the tokens leave alone -/
def rd_nf (I I' : Nat → Nat → Int32) (J J' : Nat → Nat → Int64) : Prop := (∀ r, ¬ r = 79 → I' r = I r) ∧ (∀ j, ¬ j = 62 → ¬ j = 63 → ¬ j = 64 → ¬ j = 66 → I' 79 j = I 79 j) ∧ ∀ r, ¬ r = 79 → J' r = J r
theorem nf_refl {I : Nat → Nat → Int32} {J : Nat → Nat → Int64} : rd_nf I I J J := ⟨fun _ _ => rfl, fun _ _ _ _ _ => rfl, fun _ _ => rfl⟩
section
variable {d L : Nat} {b : Bool} {I : Nat → Nat → Int32} {J : Nat → Nat → Int64} {Q : Int32 → Int64 → pm_H → Prop} {c : Nat → Nat} {n : Nat}
theorem pr_byteAt {p : Nat} (h61 : I 79 61 = Int32.ofNat n) (hc : ∀ p, p < n → I 138 p = Int32.ofNat (c p)) (n3 : n ≤ 300) (hp : p ≤ n) : pm_wc pm_code pm_meta d 215 [.ref 79, .int (Int32.ofNat p)] (pm_Gb L b, I, J) Q ↔ Q (if p < n then Int32.ofNat (c p) else -1) 0 (pm_Gb L b, I, J) := by
  have g := on_n (a := p) (by omega)
  by_cases h : p < n
  · rw [pb_215_0, h61, if_neg (by rw [on_le (by omega) (by omega)]; omega), pb_215_8, g.2.1, hc p h, pb_215_18, if_pos h]
    exact ⟨fun z => z.2, fun z => ⟨pi_in g.1 (by rw [g.2.2]; omega), z⟩⟩
  · rw [pb_215_0, h61, if_pos (by rw [on_le (by omega) (by omega)]; omega), pb_215_17, pb_215_18, if_neg h]
theorem pr_inL {x : Nat} (hx : x ≤ 255) : pm_wc pm_code pm_meta d 175 [.int (Int32.ofNat x), .int 97, .int 122] (pm_Gb L b, I, J) Q ↔ Q (bif rd_L x then 1 else 0) 0 (pm_Gb L b, I, J) := by
  have k : ((97 : Int32) ≤ Int32.ofNat x ∧ Int32.ofNat x ≤ 122) ↔ (97 ≤ x ∧ x ≤ 122) := by
    rw [show (97 : Int32) = Int32.ofNat 97 from rfl, show (122 : Int32) = Int32.ofNat 122 from rfl, on_le (by omega) (by omega), on_le (by omega) (by omega)]
  rw [pr_in]
  cases e : rd_L x with
  | true => rw [pm_b_t' (k.mpr (L_iff.mp e))]; exact Iff.rfl
  | false => rw [pm_b_f' (fun q => by rw [L_iff.mpr (k.mp q)] at e; exact absurd e (by decide))]; exact Iff.rfl
theorem pr_inD {x : Nat} (hx : x ≤ 255) : pm_wc pm_code pm_meta d 175 [.int (Int32.ofNat x), .int 48, .int 57] (pm_Gb L b, I, J) Q ↔ Q (bif rd_D x then 1 else 0) 0 (pm_Gb L b, I, J) := by
  have k : ((48 : Int32) ≤ Int32.ofNat x ∧ Int32.ofNat x ≤ 57) ↔ (48 ≤ x ∧ x ≤ 57) := by
    rw [show (48 : Int32) = Int32.ofNat 48 from rfl, show (57 : Int32) = Int32.ofNat 57 from rfl, on_le (by omega) (by omega), on_le (by omega) (by omega)]
  rw [pr_in]
  cases e : rd_D x with
  | true => rw [pm_b_t' (k.mpr (D_iff.mp e))]; exact Iff.rfl
  | false => rw [pm_b_f' (fun q => by rw [D_iff.mpr (k.mp q)] at e; exact absurd e (by decide))]; exact Iff.rfl
theorem pr_next {i : Nat} (h61 : I 79 61 = Int32.ofNat n) (hc : ∀ p, p < n → I 138 p = Int32.ofNat (c p)) (cb : ∀ p, p < n → c p ≤ 255) (n3 : n ≤ 300) (h66 : I 79 66 = Int32.ofNat (rd_pt c n i)) (hQ : ∀ I' J', rd_nf I I' J J' → rd_rt c n i I' J' → Q 0 0 (pm_Gb L b, I', J')) :
    pm_wc pm_code pm_meta (d + 1) 216 [.ref 79] (pm_Gb L b, I, J) Q := by
  have sle := (pt_le (c := c) (n := n) i)
  generalize hq : rd_s c n i = q at *
  -- behind the spaces
  have at26 : ∀ I', (∀ r, ¬ r = 79 → I' r = I r) → (∀ j, ¬ j = 66 → I' 79 j = I 79 j) → I' 79 66 = Int32.ofNat q → pm_wp pm_code pm_meta (d + 1) 216 26 ([.ref 79, pm_unset], [], (pm_Gb L b, I', J)) Q := fun I' r1 r2 r3 => by
    have e66 : (pm_u (pm_u I' 79 63 (I' 79 66)) 79 64 0) 79 66 = Int32.ofNat q := by rw [pm_u_row, if_pos rfl, pm_w_ne (by decide), pm_u_row, if_pos rfl, pm_w_ne (by decide)]; exact r3
    rw [pb_216_26, e66]
    generalize hI1 : pm_u (pm_u I' 79 63 (I' 79 66)) 79 64 0 = I1 at e66
    have k1 : ∀ r, ¬ r = 79 → I1 r = I r := fun r h => by rw [← hI1, pm_u_row, if_neg h, pm_u_row, if_neg h]; exact r1 r h
    have j1 : ∀ j, ¬ j = 63 → ¬ j = 64 → ¬ j = 66 → I1 79 j = I 79 j := fun j a e f => by rw [← hI1, pm_u_row, if_pos rfl, pm_w_ne e, pm_u_row, if_pos rfl, pm_w_ne a]; exact r2 j f
    have a63 : I1 79 63 = Int32.ofNat q := by rw [← hI1, pm_u_row, if_pos rfl, pm_w_ne (by decide), pm_u_at]; exact r3
    have a64 : I1 79 64 = 0 := by rw [← hI1, pm_u_at]
    have a61 : I1 79 61 = Int32.ofNat n := by rw [j1 61 (by decide) (by decide) (by decide)]; exact h61
    have a138 : ∀ p, p < n → I1 138 p = Int32.ofNat (c p) := fun p hp => by rw [k1 138 (by decide)]; exact hc p hp
    rw [pr_byteAt a61 a138 n3 (by omega), pb_216_52]
    -- all that holds in the loops
    have fin : ∀ (I2 : Nat → Nat → Int32) (J2 : Nat → Nat → Int64) (x1 : Int32), (∀ r, ¬ r = 79 → I2 r = I r) → (∀ j, ¬ j = 62 → ¬ j = 63 → ¬ j = 64 → ¬ j = 66 → I2 79 j = I 79 j) → (∀ r, ¬ r = 79 → J2 r = J r) → I2 79 62 = rd_kd c n i → I2 79 63 = Int32.ofNat q → I2 79 66 = Int32.ofNat (rd_pt c n (i + 1)) → J2 79 65 = Int64.ofInt (rd_jw c n i) → pm_wp pm_code pm_meta (d + 1) 216 299 ([.ref 79, .int x1], [], (pm_Gb L b, I2, J2)) Q := fun I2 J2 x1 g1 g2 g3 g4 g5 g6 g7 => by
      rw [pb_216_299]
      exact hQ I2 J2 ⟨g1, g2, g3⟩ ⟨g4, by rw [hq]; exact g5, g6, g7⟩
    have j0 : ∀ v : Int64, ∀ r, ¬ r = 79 → pm_u J 79 65 v r = J r := fun v r h => by rw [pm_u_row, if_neg h]
    by_cases c1 : q < n
    · have cq := cb q c1
      have gc := on_n (a := c q) (by omega)
      rw [if_pos c1, if_pos gc.1, pb_216_62, pr_inL cq, pb_216_70]
      have kd0 : rd_kd c n i = if rd_L (c q) = true then 1 else if rd_D (c q) = true then 2 else 3 := by unfold rd_kd; rw [hq, if_pos c1]
      have en0 : rd_pt c n (i + 1) = rd_en c n q := by rw [pt_s, hq]
      cases hl : rd_L (c q) with
      | true =>
        have kd : rd_kd c n i = 1 := by rw [kd0, if_pos hl]
        have een : rd_pt c n (i + 1) = rd_go rd_L c n q := by rw [en0]; unfold rd_en; rw [if_pos c1, if_pos hl]
        have jw : rd_jw c n i = rd_wt (rd_tl c q (rd_go rd_L c n q)) := by unfold rd_jw; rw [hq, if_pos c1, if_pos hl, een]
        rw [cond_true, if_neg (by decide), pb_216_73, pb_216_93, pm_u_at, if_neg (by decide)]
        have loop : ∀ p, q ≤ p → p ≤ n → (∀ j, q ≤ j → j < p → rd_L (c j) = true) → rd_go rd_L c n q = rd_go rd_L c n p → ∀ (I2 : Nat → Nat → Int32) (J2 : Nat → Nat → Int64), (∀ r, ¬ r = 79 → I2 r = I r) → (∀ j, ¬ j = 62 → ¬ j = 63 → ¬ j = 64 → ¬ j = 66 → I2 79 j = I 79 j) → (∀ r, ¬ r = 79 → J2 r = J r) → I2 79 62 = 1 → I2 79 63 = Int32.ofNat q → I2 79 66 = Int32.ofNat p → I2 79 64 = Int32.ofNat (p - q) → J2 79 65 = Int64.ofInt (rd_wt (rd_tl c q p)) → pm_wp pm_code pm_meta (d + 1) 216 120 ([.ref 79, .int (Int32.ofNat (c q))], [], (pm_Gb L b, I2, J2)) Q := by
          refine go_ind (P := rd_L) (c := c) (n := n) (fun p h => ?_) (fun p h hp ih => ?_)
          · intro hqp hpn hall hgo I2 J2 g1 g2 g3 g4 g5 g6 g7 g8
            have b61 : I2 79 61 = Int32.ofNat n := by rw [g2 61 (by decide) (by decide) (by decide) (by decide)]; exact h61
            have b138 : ∀ p, p < n → I2 138 p = Int32.ofNat (c p) := fun p hp => by rw [g1 138 (by decide)]; exact hc p hp
            rw [go_stop h] at hgo
            have out : pm_wp pm_code pm_meta (d + 1) 216 210 ([.ref 79, .int (Int32.ofNat (c q))], [], (pm_Gb L b, I2, J2)) Q := by
              rw [pb_216_210, g4, if_neg (by decide)]
              exact fin I2 J2 _ g1 g2 g3 (by rw [kd]; exact g4) g5 (by rw [een, hgo]; exact g6) (by rw [jw, hgo]; exact g8)
            rw [pb_216_120, g4, if_pos rfl, pb_216_128, g6, pr_byteAt b61 b138 n3 hpn, pb_216_136]
            by_cases pn : p < n
            · have e2 : rd_L (c p) = false := Bool.eq_false_iff.mpr (fun z => h ⟨pn, z⟩)
              rw [if_pos pn, pr_inL (cb p pn), e2, pb_216_143, cond_false, if_pos rfl]
              exact out
            · rw [if_neg pn, pr_in, pm_b_f' (by decide), pb_216_143, if_pos rfl]
              exact out
          · intro hqp hpn hall hgo I2 J2 g1 g2 g3 g4 g5 g6 g7 g8
            have b61 : I2 79 61 = Int32.ofNat n := by rw [g2 61 (by decide) (by decide) (by decide) (by decide)]; exact h61
            have b138 : ∀ p, p < n → I2 138 p = Int32.ofNat (c p) := fun p hp => by rw [g1 138 (by decide)]; exact hc p hp
            have lp := L_iff.mp hp
            have nxt : ∀ v : Int64, v = Int64.ofInt (rd_wt (rd_tl c q (p + 1))) → pm_wp pm_code pm_meta (d + 1) 216 184 ([.ref 79, .int (Int32.ofNat (c q))], [.long v, .ref 79], (pm_Gb L b, I2, J2)) Q := fun v hv => by
              have e1 : (pm_u I2 79 64 ((I2 79 64) + 1)) 79 66 = Int32.ofNat p := by rw [pm_u_row, if_pos rfl, pm_w_ne (by decide)]; exact g6
              rw [pb_216_184, e1, g7, on_s, on_s]
              refine ih (by omega) (by omega) (fun j j1 j2 => ?_) (by rw [hgo, go_step h hp]) _ _ (fun r a => ?_) (fun j a1 a2 a3 a4 => ?_) (fun r a => ?_) ?_ ?_ ?_ ?_ ?_
              · by_cases e : j = p
                · rw [e]; exact hp
                · exact hall j j1 (by omega)
              · rw [pm_u_row, if_neg a, pm_u_row, if_neg a]; exact g1 r a
              · rw [pm_u_row, if_pos rfl, pm_w_ne a4, pm_u_row, if_pos rfl, pm_w_ne a3]; exact g2 j a1 a2 a3 a4
              · rw [pm_u_row, if_neg a]; exact g3 r a
              · rw [pm_u_row, if_pos rfl, pm_w_ne (by decide), pm_u_row, if_pos rfl, pm_w_ne (by decide)]; exact g4
              · rw [pm_u_row, if_pos rfl, pm_w_ne (by decide), pm_u_row, if_pos rfl, pm_w_ne (by decide)]; exact g5
              · rw [pm_u_at]
              · rw [pm_u_row, if_pos rfl, pm_w_ne (by decide), pm_u_at, show p + 1 - q = p - q + 1 by omega]
              · rw [pm_u_at]; exact hv
            rw [pb_216_120, g4, if_pos rfl, pb_216_128, g6, pr_byteAt b61 b138 n3 hpn, pb_216_136, if_pos h, pr_inL (cb p h), hp, pb_216_143, cond_true, if_neg (by decide), pb_216_146, g7]
            by_cases c8 : 8 ≤ p - q
            · rw [if_pos (by rw [show (8 : Int32) = Int32.ofNat 8 from rfl, on_le (by omega) (by omega)]; exact c8), pb_216_181]
              refine nxt _ ?_
              unfold rd_wt
              rw [if_neg (by rw [tl_len]; omega)]; rfl
            · have l8 : (rd_tl c q p).length ≤ 8 := by rw [tl_len]; omega
              have hb := h_bd (p - q) (rd_tl c q p) tl_len (fun x hx => by
                obtain ⟨j, j1, j2, rfl⟩ := tl_mem hx
                exact L_iff.mp (hall j j1 j2))
              rw [if_neg (by rw [show (8 : Int32) = Int32.ofNat 8 from rfl, on_le (by omega) (by omega)]; exact c8), pb_216_156, g6, pr_byteAt b61 b138 n3 hpn, pb_216_172, if_pos h, g8]
              refine nxt _ ?_
              have ew : rd_wt (rd_tl c q p) = (rd_h (rd_tl c q p) : Int) := by unfold rd_wt; rw [if_pos l8]
              have ew2 : rd_wt (rd_tl c q (p + 1)) = ((27 * rd_h (rd_tl c q p) + (c p - 96) : Nat) : Int) := by
                unfold rd_wt
                rw [if_pos (by rw [tl_len]; omega), tl_app hqp, wh_app]
              rw [ew, ew2, show (27 : Int64) = Int64.ofInt 27 from rfl, ol_mul, ol_on (by have := cb p h; omega), ol_add, show (96 : Int64) = Int64.ofInt 96 from rfl, ol_sub]
              congr 1
              omega
        refine loop q (Nat.le_refl _) (by omega) (fun j a e => by omega) rfl _ _ (fun r a => ?_) (fun j a1 a2 a3 a4 => ?_) (fun r a => j0 0 r a) ?_ ?_ ?_ ?_ ?_
        · rw [pm_u_row, if_neg a]; exact k1 r a
        · rw [pm_u_row, if_pos rfl, pm_w_ne a1]; exact j1 j a2 a3 a4
        · rw [pm_u_at]
        · rw [pm_u_row, if_pos rfl, pm_w_ne (by decide)]; exact a63
        · rw [pm_u_row, if_pos rfl, pm_w_ne (by decide)]; exact e66
        · rw [pm_u_row, if_pos rfl, pm_w_ne (by decide), a64, Nat.sub_self]; rfl
        · rw [pm_u_at, tl_nil]; rfl
      | false =>
        rw [cond_false, if_pos rfl, pb_216_77, pr_inD cq, pb_216_85]
        cases hd : rd_D (c q) with
        | true =>
          have kd : rd_kd c n i = 2 := by rw [kd0, if_neg (by rw [hl]; decide), if_pos hd]
          have een : rd_pt c n (i + 1) = rd_go rd_D c n q := by rw [en0]; unfold rd_en; rw [if_pos c1, if_neg (by rw [hl]; decide), if_pos hd]
          have jw : rd_jw c n i = (if rd_go rd_D c n q ≤ q + 3 then (rd_v (rd_tl c q (rd_go rd_D c n q)) : Int) else 1000000000) := by unfold rd_jw; rw [hq, if_pos c1, if_neg (by rw [hl]; decide), if_pos hd, een]
          rw [cond_true, if_neg (by decide), pb_216_88, pb_216_93, pm_u_at, if_neg (by decide), pb_216_120, pm_u_at, if_neg (by decide)]
          have loop : ∀ p, q ≤ p → p ≤ n → (∀ j, q ≤ j → j < p → rd_D (c j) = true) → rd_go rd_D c n q = rd_go rd_D c n p → ∀ (I2 : Nat → Nat → Int32) (J2 : Nat → Nat → Int64), (∀ r, ¬ r = 79 → I2 r = I r) → (∀ j, ¬ j = 62 → ¬ j = 63 → ¬ j = 64 → ¬ j = 66 → I2 79 j = I 79 j) → (∀ r, ¬ r = 79 → J2 r = J r) → I2 79 62 = 2 → I2 79 63 = Int32.ofNat q → I2 79 66 = Int32.ofNat p → I2 79 64 = Int32.ofNat (p - q) → J2 79 65 = Int64.ofInt (if p ≤ q + 3 then (rd_v (rd_tl c q p) : Int) else 1000000000) → pm_wp pm_code pm_meta (d + 1) 216 210 ([.ref 79, .int (Int32.ofNat (c q))], [], (pm_Gb L b, I2, J2)) Q := by
            refine go_ind (P := rd_D) (c := c) (n := n) (fun p h => ?_) (fun p h hp ih => ?_)
            · intro hqp hpn hall hgo I2 J2 g1 g2 g3 g4 g5 g6 g7 g8
              have b61 : I2 79 61 = Int32.ofNat n := by rw [g2 61 (by decide) (by decide) (by decide) (by decide)]; exact h61
              have b138 : ∀ p, p < n → I2 138 p = Int32.ofNat (c p) := fun p hp => by rw [g1 138 (by decide)]; exact hc p hp
              rw [go_stop h] at hgo
              have out : pm_wp pm_code pm_meta (d + 1) 216 299 ([.ref 79, .int (Int32.ofNat (c q))], [], (pm_Gb L b, I2, J2)) Q :=
                fin I2 J2 _ g1 g2 g3 (by rw [kd]; exact g4) g5 (by rw [een, hgo]; exact g6) (by rw [jw, hgo]; exact g8)
              rw [pb_216_210, g4, if_pos rfl, pb_216_218, g6, pr_byteAt b61 b138 n3 hpn, pb_216_226]
              by_cases pn : p < n
              · have e2 : rd_D (c p) = false := Bool.eq_false_iff.mpr (fun z => h ⟨pn, z⟩)
                rw [if_pos pn, pr_inD (cb p pn), e2, pb_216_233, cond_false, if_pos rfl]
                exact out
              · rw [if_neg pn, pr_in, pm_b_f' (by decide), pb_216_233, if_pos rfl]
                exact out
            · intro hqp hpn hall hgo I2 J2 g1 g2 g3 g4 g5 g6 g7 g8
              have b61 : I2 79 61 = Int32.ofNat n := by rw [g2 61 (by decide) (by decide) (by decide) (by decide)]; exact h61
              have b138 : ∀ p, p < n → I2 138 p = Int32.ofNat (c p) := fun p hp => by rw [g1 138 (by decide)]; exact hc p hp
              have lp := D_iff.mp hp
              have nxt : ∀ v : Int64, v = Int64.ofInt (if p + 1 ≤ q + 3 then (rd_v (rd_tl c q (p + 1)) : Int) else 1000000000) → pm_wp pm_code pm_meta (d + 1) 216 273 ([.ref 79, .int (Int32.ofNat (c q))], [.long v, .ref 79], (pm_Gb L b, I2, J2)) Q := fun v hv => by
                have e1 : (pm_u I2 79 64 ((I2 79 64) + 1)) 79 66 = Int32.ofNat p := by rw [pm_u_row, if_pos rfl, pm_w_ne (by decide)]; exact g6
                rw [pb_216_273, e1, g7, on_s, on_s]
                refine ih (by omega) (by omega) (fun j j1 j2 => ?_) (by rw [hgo, go_step h hp]) _ _ (fun r a => ?_) (fun j a1 a2 a3 a4 => ?_) (fun r a => ?_) ?_ ?_ ?_ ?_ ?_
                · by_cases e : j = p
                  · rw [e]; exact hp
                  · exact hall j j1 (by omega)
                · rw [pm_u_row, if_neg a, pm_u_row, if_neg a]; exact g1 r a
                · rw [pm_u_row, if_pos rfl, pm_w_ne a4, pm_u_row, if_pos rfl, pm_w_ne a3]; exact g2 j a1 a2 a3 a4
                · rw [pm_u_row, if_neg a]; exact g3 r a
                · rw [pm_u_row, if_pos rfl, pm_w_ne (by decide), pm_u_row, if_pos rfl, pm_w_ne (by decide)]; exact g4
                · rw [pm_u_row, if_pos rfl, pm_w_ne (by decide), pm_u_row, if_pos rfl, pm_w_ne (by decide)]; exact g5
                · rw [pm_u_at]
                · rw [pm_u_row, if_pos rfl, pm_w_ne (by decide), pm_u_at, show p + 1 - q = p - q + 1 by omega]
                · rw [pm_u_at]; exact hv
              rw [pb_216_210, g4, if_pos rfl, pb_216_218, g6, pr_byteAt b61 b138 n3 hpn, pb_216_226, if_pos h, pr_inD (cb p h), hp, pb_216_233, cond_true, if_neg (by decide), pb_216_236, g7]
              by_cases c8 : 3 ≤ p - q
              · rw [if_pos (by rw [show (3 : Int32) = Int32.ofNat 3 from rfl, on_le (by omega) (by omega)]; exact c8), pb_216_270]
                refine nxt _ ?_
                rw [if_neg (by omega)]; rfl
              · rw [if_neg (by rw [show (3 : Int32) = Int32.ofNat 3 from rfl, on_le (by omega) (by omega)]; exact c8), pb_216_245, g6, pr_byteAt b61 b138 n3 hpn, pb_216_261, if_pos h, g8, if_pos (by omega)]
                refine nxt _ ?_
                rw [if_pos (by omega), tl_app hqp, v_app, show (10 : Int64) = Int64.ofInt 10 from rfl, ol_mul, ol_on (by have := cb p h; omega), ol_add, show (48 : Int64) = Int64.ofInt 48 from rfl, ol_sub]
                congr 1
                omega
          refine loop q (Nat.le_refl _) (by omega) (fun j a e => by omega) rfl _ _ (fun r a => ?_) (fun j a1 a2 a3 a4 => ?_) (fun r a => j0 0 r a) ?_ ?_ ?_ ?_ ?_
          · rw [pm_u_row, if_neg a]; exact k1 r a
          · rw [pm_u_row, if_pos rfl, pm_w_ne a1]; exact j1 j a2 a3 a4
          · rw [pm_u_at]
          · rw [pm_u_row, if_pos rfl, pm_w_ne (by decide)]; exact a63
          · rw [pm_u_row, if_pos rfl, pm_w_ne (by decide)]; exact e66
          · rw [pm_u_row, if_pos rfl, pm_w_ne (by decide), a64, Nat.sub_self]; rfl
          · rw [pm_u_at, if_pos (by omega), tl_nil]; rfl
        | false =>
          have kd : rd_kd c n i = 3 := by rw [kd0, if_neg (by rw [hl]; decide), if_neg (by rw [hd]; decide)]
          have een : rd_pt c n (i + 1) = q + 1 := by rw [en0]; unfold rd_en; rw [if_pos c1, if_neg (by rw [hl]; decide), if_neg (by rw [hd]; decide)]
          have jw : rd_jw c n i = (c q : Int) := by unfold rd_jw; rw [hq, if_pos c1, if_neg (by rw [hl]; decide), if_neg (by rw [hd]; decide)]
          have e1 : (pm_u I1 79 62 3) 79 66 = Int32.ofNat q := by rw [pm_u_row, if_pos rfl, pm_w_ne (by decide)]; exact e66
          have e2 : ∀ v, (pm_u (pm_u I1 79 62 3) 79 66 v) 79 62 = 3 := fun v => by rw [pm_u_row, if_pos rfl, pm_w_ne (by decide), pm_u_at]
          rw [cond_false, if_pos rfl, pb_216_92, pb_216_93, pm_u_at, if_pos rfl, pb_216_104, e1, on_s, pb_216_120, e2, if_neg (by decide), pb_216_210, e2, if_neg (by decide)]
          refine fin _ _ _ (fun r a => ?_) (fun j a1 a2 a3 a4 => ?_) (fun r a => ?_) ?_ ?_ ?_ ?_
          · rw [pm_u_row, if_neg a, pm_u_row, if_neg a]; exact k1 r a
          · rw [pm_u_row, if_pos rfl, pm_w_ne a4, pm_u_row, if_pos rfl, pm_w_ne a1]; exact j1 j a2 a3 a4
          · rw [pm_u_row, if_neg a]; exact j0 0 r a
          · rw [kd]; exact e2 _
          · rw [pm_u_row, if_pos rfl, pm_w_ne (by decide), pm_u_row, if_pos rfl, pm_w_ne (by decide)]; exact a63
          · rw [pm_u_at, een]
          · rw [pm_u_at, jw, ol_on (by omega)]
    · have eqn : q = n := by omega
      have kd : rd_kd c n i = 0 := by unfold rd_kd; rw [hq, if_neg c1]
      have jw : rd_jw c n i = 0 := by unfold rd_jw; rw [hq, if_neg c1]
      have een : rd_pt c n (i + 1) = q := by rw [pt_s, hq]; unfold rd_en; rw [if_neg c1]
      rw [if_neg c1, if_neg (by decide), pb_216_58, pb_216_93, pm_u_at, if_neg (by decide), pb_216_120, pm_u_at, if_neg (by decide), pb_216_210, pm_u_at, if_neg (by decide)]
      refine fin _ _ _ (fun r a => ?_) (fun j a1 a2 a3 a4 => ?_) (fun r a => j0 0 r a) ?_ ?_ ?_ ?_
      · rw [pm_u_row, if_neg a]; exact k1 r a
      · rw [pm_u_row, if_pos rfl, pm_w_ne a1]; exact j1 j a2 a3 a4
      · rw [kd, pm_u_at]
      · rw [pm_u_row, if_pos rfl, pm_w_ne (by decide)]; exact a63
      · rw [pm_u_row, if_pos rfl, pm_w_ne (by decide), een]; exact e66
      · rw [pm_u_at, jw]; rfl
  have spaces : ∀ p, p ≤ n → rd_st c n p = q → ∀ I', (∀ r, ¬ r = 79 → I' r = I r) → (∀ j, ¬ j = 66 → I' 79 j = I 79 j) → I' 79 66 = Int32.ofNat p → pm_wc pm_code pm_meta (d + 1) 216 [.ref 79] (pm_Gb L b, I', J) Q := by
    refine go_ind (P := rd_S) (c := c) (n := n) (fun p h => ?_) (fun p h hp ih => ?_)
    · intro hpn hst I' r1 r2 r3
      have b61 : I' 79 61 = Int32.ofNat n := by rw [r2 61 (by decide)]; exact h61
      have b138 : ∀ p, p < n → I' 138 p = Int32.ofNat (c p) := fun p hp => by rw [r1 138 (by decide)]; exact hc p hp
      have e : p = q := by rw [← hst]; exact (go_stop h).symm
      rw [pb_216_0, r3, pr_byteAt b61 b138 n3 hpn, pb_216_8]
      by_cases pn : p < n
      · rw [if_pos pn, if_neg (by rw [show (32 : Int32) = Int32.ofNat 32 from rfl, on_eq (by have := cb p pn; omega) (by omega)]; exact fun z => h ⟨pn, S_iff.mpr z⟩)]
        exact at26 I' r1 r2 (by rw [← e]; exact r3)
      · rw [if_neg pn, if_neg (by decide)]
        exact at26 I' r1 r2 (by rw [← e]; exact r3)
    · intro hpn hst I' r1 r2 r3
      have b61 : I' 79 61 = Int32.ofNat n := by rw [r2 61 (by decide)]; exact h61
      have b138 : ∀ p, p < n → I' 138 p = Int32.ofNat (c p) := fun p hp => by rw [r1 138 (by decide)]; exact hc p hp
      rw [pb_216_0, r3, pr_byteAt b61 b138 n3 hpn, pb_216_8, if_pos h, if_pos (by rw [S_iff.mp hp]; rfl), pb_216_13, r3, on_s]
      show pm_wc pm_code pm_meta (d + 1) 216 [.ref 79] (pm_Gb L b, pm_u I' 79 66 (Int32.ofNat (p + 1)), J) Q
      refine ih (by omega) (by rw [← hst]; unfold rd_st; rw [go_step h hp]) _ (fun r a => ?_) (fun j a => ?_) ?_
      · rw [pm_u_row, if_neg a]; exact r1 r a
      · rw [pm_u_row, if_pos rfl, pm_w_ne a]; exact r2 j a
      · rw [pm_u_at]
  exact spaces (rd_pt c n i) sle.1 hq I (fun _ _ => rfl) (fun _ _ => rfl) h66
end

