/-! THE CALL read: the class's table of tokens. -/
def rd_tv (c : Nat → Nat) (n i : Nat) : Int32 := if rd_sg c n i = 256 then rd_fv (rd_cd c n i) else if rd_sg c n i = 257 then (if rd_nm c n i < 1000 then Int32.ofNat (rd_nm c n i) else -1) else 0
def rd_tk (c : Nat → Nat) (n m : Nat) (I : Nat → Nat → Int32) : Prop := pm_ti (I 42) 3 301 ∧ I 42 3 = Int32.ofNat m ∧ ∀ i, i < m → I 43 (3 * i + 0) = Int32.ofNat (rd_sg c n i) ∧ I 43 (3 * i + 1) = Int32.ofNat (rd_s c n i) ∧ I 43 (3 * i + 2) = rd_tv c n i
section
variable {d L : Nat} {b : Bool} {I : Nat → Nat → Int32} {J : Nat → Nat → Int64} {Q : Int32 → Int64 → pm_H → Prop} {c : Nat → Nat} {n : Nat}
theorem px_addToken {m : Nat} {x1 x2 x3 : Int32} (hT : pm_ti (I 42) 3 301) (c42 : I 42 3 = Int32.ofNat m) (hm : m < 301) (hQ : ∀ I', (∀ r, ¬ r = 42 → ¬ r = 43 → I' r = I r) → pm_ti (I' 42) 3 301 → I' 42 3 = Int32.ofNat (m + 1) → (∀ j, j < 3 * m → I' 43 j = I 43 j) → I' 43 (3 * m + 0) = x1 → I' 43 (3 * m + 1) = x2 → I' 43 (3 * m + 2) = x3 → Q 0 0 (pm_Gb L b, I', J)) :
    pm_wc pm_code pm_meta (d + 1) 97 [.ref 40, .int x1, .int x2, .int x3] (pm_Gb L b, I, J) Q := by
  have g := on_n (a := m) (by omega)
  have e301 : (301 : Int32).toInt = 301 := rfl
  have lt : I 42 3 < 301 := by rw [c42, pi_lt, g.2.2, e301]; omega
  rw [pb_97_0, pt_add_42 hT lt, pb_97_7, c42, on_s, g.2.1]
  generalize hI1 : pm_u (pm_zr I 43 (3 * m) (3 * m + 3)) 42 3 (Int32.ofNat (m + 1)) = I1
  have k1 : ∀ r, ¬ r = 42 → ¬ r = 43 → I1 r = I r := fun r q1 q2 => by rw [← hI1, pm_u_row, if_neg q1, pm_zr_row, if_neg q2]
  have c1 : I1 42 3 = Int32.ofNat (m + 1) := by rw [← hI1, pm_u_at]
  have g2 := on_n (a := m + 1) (by omega)
  have t1 : pm_ti (I1 42) 3 301 := by
    rw [← hI1, pm_u_row, if_pos rfl, pm_zr_row, if_neg (by decide)]
    exact pm_ti_w hT g2.1 (by rw [pi_le, g2.2.2, e301]; omega)
  have r1 : ∀ j, j < 3 * m → I1 43 j = I 43 j := fun j hj => by
    rw [← hI1, pm_u_row, if_neg (by decide), pm_zr_row, if_pos rfl]
    exact pm_zw_out (by omega)
  have i1 : ∀ X1 : Nat → Nat → Int32, X1 42 = I1 42 → 0 ≤ Int32.ofNat m ∧ Int32.ofNat m < X1 42 3 := fun X1 hX => ⟨g.1, by rw [hX, c1, on_lt (by omega) (by omega)]; omega⟩
  rw [pt_set_42_0 t1, if_pos (i1 I1 rfl), g.2.1, pb_97_20]
  have e2 : ∀ v, pm_u I1 43 (3 * m + 0) v 42 = I1 42 := fun v => by rw [pm_u_row, if_neg (by decide)]
  rw [pt_set_42_1 (by rw [e2]; exact t1), if_pos (i1 _ (e2 _)), g.2.1, pb_97_31]
  have e3 : ∀ v w, pm_u (pm_u I1 43 (3 * m + 0) v) 43 (3 * m + 1) w 42 = I1 42 := fun v w => by rw [pm_u_row, if_neg (by decide)]; exact e2 v
  rw [pt_set_42_2 (by rw [e3]; exact t1), if_pos (i1 _ (e3 _ _)), g.2.1, pb_97_42]
  have e4 : ∀ u v w, pm_u (pm_u (pm_u I1 43 (3 * m + 0) u) 43 (3 * m + 1) v) 43 (3 * m + 2) w 42 = I1 42 := fun u v w => by rw [pm_u_row, if_neg (by decide)]; exact e3 u v
  refine hQ _ (fun r q1 q2 => ?_) (by rw [e4]; exact t1) (by rw [e4]; exact c1) (fun j hj => ?_) ?_ ?_ ?_
  · rw [pm_u_row, if_neg q2, pm_u_row, if_neg q2, pm_u_row, if_neg q2]; exact k1 r q1 q2
  · rw [pm_u_row, if_pos rfl, pm_w_ne (by omega), pm_u_row, if_pos rfl, pm_w_ne (by omega), pm_u_row, if_pos rfl, pm_w_ne (by omega)]; exact r1 j hj
  · rw [pm_u_row, if_pos rfl, pm_w_ne (by omega), pm_u_row, if_pos rfl, pm_w_ne (by omega), pm_u_at]
  · rw [pm_u_row, if_pos rfl, pm_w_ne (by omega), pm_u_at]
  · rw [pm_u_at]
theorem tk_add {m : Nat} {I' : Nat → Nat → Int32} (h : rd_tk c n m I) (t : pm_ti (I' 42) 3 301) (c1 : I' 42 3 = Int32.ofNat (m + 1)) (r : ∀ j, j < 3 * m → I' 43 j = I 43 j) (h0 : I' 43 (3 * m + 0) = Int32.ofNat (rd_sg c n m)) (h1 : I' 43 (3 * m + 1) = Int32.ofNat (rd_s c n m)) (h2 : I' 43 (3 * m + 2) = rd_tv c n m) : rd_tk c n (m + 1) I' := by
  refine ⟨t, c1, fun i hi => ?_⟩
  by_cases e : i = m
  · subst e; exact ⟨h0, h1, h2⟩
  · rw [r _ (by omega), r _ (by omega), r _ (by omega)]
    exact h.2.2 i (by omega)
theorem px_split {N : Nat} (h5 : I 5 1 = 0) (h6 : ∀ j, I 6 j = pm_a6.getD j 0) (h40 : I 40 1 = Int32.ofNat n) (h41 : ∀ p, p < n → I 41 p &&& 255 = Int32.ofNat (c p)) (cb : ∀ p, p < n → c p ≤ 255) (n3 : n ≤ 300) (hT : pm_ti (I 42) 3 301) (hN : N ≤ n) (sN : rd_s c n N = n) (lN : ∀ i, i < N → rd_s c n i < n)
    (hQ : ∀ I', (∀ r, ¬ r = 42 → ¬ r = 43 → I' r = I r) → rd_tk c n (N + 1) I' → Q 0 0 (pm_Gb L b, I', J)) : pm_wc pm_code pm_meta (d + 6) 93 [.ref 40] (pm_Gb L b, I, J) Q := by
  have loop : ∀ (k p t m : Nat) (I' : Nat → Nat → Int32) (D : Option (Int32 × Int32)), p + k = n → t ≤ p → m ≤ N → rd_st c n p = rd_s c n m → (∀ r, ¬ r = 42 → ¬ r = 43 → I' r = I r) → rd_tk c n m I' →
      pm_wp pm_code pm_meta (d + 6) 93 12 ([.ref 40, .int (Int32.ofNat p), .int (Int32.ofNat t), pm_vl (D.map (·.1)), pm_vl (D.map (·.2))], [], (pm_Gb L b, I', J)) Q := by
    intro k
    induction k using Nat.strongRecOn with
    | ind k ih =>
      intro p t m I' D hp ht hm hst fr tk
      have f40 : I' 40 1 = Int32.ofNat n := by rw [fr 40 (by decide) (by decide)]; exact h40
      have f41 : ∀ p, p < n → I' 41 p &&& 255 = Int32.ofNat (c p) := fun p hp => by rw [fr 41 (by decide) (by decide)]; exact h41 p hp
      have f5 : I' 5 1 = 0 := by rw [fr 5 (by decide) (by decide)]; exact h5
      have f6 : ∀ j, I' 6 j = pm_a6.getD j 0 := fun j => by rw [fr 6 (by decide) (by decide)]; exact h6 j
      by_cases c1 : n ≤ p
      · -- the end
        have mN : m = N := by
          have z : rd_st c n p = p := go_stop (fun q => by omega)
          rw [z] at hst
          by_cases q : m = N
          · exact q
          · have := lN m (by omega); omega
        subst mN
        have sg : rd_sg c n m = 258 := by unfold rd_sg; rw [sN, if_neg (by omega)]
        have tv : rd_tv c n m = 0 := by unfold rd_tv; rw [sg, if_neg (by decide), if_neg (by decide)]
        have fin : ∀ Q', (∀ I'', Q' 0 0 (pm_Gb L b, I'', J) ↔ Q 0 0 (pm_Gb L b, I'', J)) → pm_wc pm_code pm_meta (d + 5) 97 [.ref 40, .int 258, .int (Int32.ofNat n), .int 0] (pm_Gb L b, I', J) Q' := fun Q' hQ' => by
          refine px_addToken (d := d + 4) tk.1 tk.2.1 (by omega) (fun I'' g1 g2 g3 g4 g5 g6 g7 => ?_)
          rw [hQ']
          exact hQ I'' (fun r a e => (g1 r a e).trans (fr r a e)) (tk_add tk g2 g3 g4 (by rw [g5, sg]; rfl) (by rw [g6, sN]) (by rw [g7, tv]))
        rcases D with _ | ⟨a1, a2⟩ <;> simp only [Option.map, pm_vl_n, pm_vl_s]
        · have g : pm_wp pm_code pm_meta (d + 6) 93 112 ([.ref 40, .int (Int32.ofNat p), .int (Int32.ofNat t), pm_unset, pm_unset], [], (pm_Gb L b, I', J)) Q := by
            rw [pb_93_112, f40]
            exact fin _ (fun I'' => pb_93_124)
          rw [pb_93_12]
          split
          · exact g
          · rw [pb_93_19, f40, if_pos (by rw [on_le (by omega) (by omega)]; omega)]
            exact g
        · have g : pm_wp pm_code pm_meta (d + 6) 93 112 ([.ref 40, .int (Int32.ofNat p), .int (Int32.ofNat t), .int a1, .int a2], [], (pm_Gb L b, I', J)) Q := by
            rw [pb_93_112b, f40]
            exact fin _ (fun I'' => pb_93_124b)
          rw [pb_93_12b]
          split
          · exact g
          · rw [pb_93_19b, f40, if_pos (by rw [on_le (by omega) (by omega)]; omega)]
            exact g
      · have hp' : p < n := by omega
        have en := en_gt (c := c) hp'
        have cp := cb p hp'
        have ncl : ¬ Int32.ofNat n ≤ Int32.ofNat p := by rw [on_le (by omega) (by omega)]; omega
        have nct : ¬ (300 : Int32) ≤ Int32.ofNat t := by rw [show (300 : Int32) = Int32.ofNat 300 from rfl, on_le (by omega) (by omega)]; omega
        -- behind the row
        have at103 : ∀ (x2 : Int32) (m' : Nat) (I'' : Nat → Nat → Int32), m' ≤ N → rd_st c n (rd_en c n p) = rd_s c n m' → (∀ r, ¬ r = 42 → ¬ r = 43 → I'' r = I r) → rd_tk c n m' I'' → pm_wp pm_code pm_meta (d + 6) 93 103 ([.ref 40, .int (Int32.ofNat p), .int (Int32.ofNat t), .int x2, .int (Int32.ofNat (rd_en c n p))], [], (pm_Gb L b, I'', J)) Q := fun x2 m' I'' h1 h2 h3 h4 => by
          rw [pb_93_103, on_s]
          have z := ih (n - rd_en c n p) (by omega) (rd_en c n p) (t + 1) m' I'' (some (x2, Int32.ofNat (rd_en c n p))) (by omega) (by omega) h1 h2 h3 h4
          simp only [Option.map, pm_vl_s] at z
          exact z
        -- no space: it is the token m
        have tok : ¬ c p = 32 → p = rd_s c n m ∧ m < N := fun ns => by
          have z : rd_st c n p = p := go_stop (fun q => ns (S_iff.mp q.2))
          rw [z] at hst
          refine ⟨hst, ?_⟩
          by_cases q : m = N
          · rw [q, sN] at hst; omega
          · omega
        have nextT : ¬ c p = 32 → rd_st c n (rd_en c n p) = rd_s c n (m + 1) := fun ns => by
          have e := (tok ns).1
          unfold rd_s
          rw [pt_s, ← e]
        have at38 : pm_wp pm_code pm_meta (d + 6) 93 38 ([.ref 40, .int (Int32.ofNat p), .int (Int32.ofNat t), .int (Int32.ofNat (c p)), pm_vl (D.map (·.2))], [.int (Int32.ofNat (rd_en c n p))], (pm_Gb L b, I', J)) Q := by
          have go : pm_wp pm_code pm_meta (d + 6) 93 44 ([.ref 40, .int (Int32.ofNat p), .int (Int32.ofNat t), .int (Int32.ofNat (c p)), .int (Int32.ofNat (rd_en c n p))], [.int (bif rd_L (c p) then 1 else 0)], (pm_Gb L b, I', J)) Q := by
            rw [pb_93_44]
            cases hl : rd_L (c p) with
            | true =>
              have l1 := L_iff.mp hl
              have ns : ¬ c p = 32 := by omega
              obtain ⟨e1, e2⟩ := tok ns
              have sg : rd_sg c n m = 256 := by unfold rd_sg; rw [← e1, if_pos hp', if_pos hl]
              have cd : rd_cd c n m = rd_find (rd_tl c p (rd_en c n p)) rd_W 0 := by unfold rd_cd; rw [pt_s, ← e1, if_pos ⟨hp', hl⟩]
              have tv : rd_tv c n m = rd_fv (rd_find (rd_tl c p (rd_en c n p)) rd_W 0) := by unfold rd_tv; rw [sg, if_pos rfl, cd]
              rw [cond_true, if_neg (by decide), pb_93_47, px_wordOf (d := d) f5 f6 f41 cb n3 (by omega) en.2, pb_93_59]
              refine px_addToken (d := d + 4) tk.1 tk.2.1 (by omega) (fun I'' g1 g2 g3 g4 g5 g6 g7 => ?_)
              rw [pb_93_62]
              exact at103 _ (m + 1) I'' (by omega) (nextT ns) (fun r a e => (g1 r a e).trans (fr r a e)) (tk_add tk g2 g3 g4 (by rw [g5, sg]; rfl) (by rw [g6, ← e1]) (by rw [g7, tv]))
            | false =>
              rw [cond_false, if_pos rfl, pb_93_65, px_isDigit cp, pb_93_69]
              cases hd : rd_D (c p) with
              | true =>
                have l1 := D_iff.mp hd
                have ns : ¬ c p = 32 := by omega
                obtain ⟨e1, e2⟩ := tok ns
                have sg : rd_sg c n m = 257 := by unfold rd_sg; rw [← e1, if_pos hp', if_neg (by rw [hl]; decide), if_pos hd]
                have alld : ∀ j, p ≤ j → j < rd_en c n p → rd_D (c j) = true := fun j j1 j2 => by
                  have z := (go_le (P := rd_D) (c := c) (n := n) p).2.2.1 j j1
                  have ee : rd_en c n p = rd_go rd_D c n p := by unfold rd_en; rw [if_pos hp', if_neg (by rw [hl]; decide), if_pos hd]
                  rw [ee] at j2
                  exact (z j2).2
                have vb : rd_en c n p ≤ p + 3 → rd_v (rd_tl c p (rd_en c n p)) < 1000 := fun h3 => by
                  have z := v_bd (rd_en c n p - p) (rd_tl c p (rd_en c n p)) tl_len (fun x hx => by
                    obtain ⟨j, j1, j2, rfl⟩ := tl_mem hx
                    exact D_iff.mp (alld j j1 j2))
                  have pw : 10 ^ (rd_en c n p - p) ≤ 10 ^ 3 := Nat.pow_le_pow_right (by decide) (by omega)
                  have p3 : (10 : Nat) ^ 3 = 1000 := by decide
                  omega
                have tv : rd_tv c n m = if rd_en c n p ≤ p + 3 then Int32.ofNat (rd_v (rd_tl c p (rd_en c n p))) else -1 := by
                  have nmv : rd_nm c n m = (if rd_en c n p ≤ p + 3 then rd_v (rd_tl c p (rd_en c n p)) else 1000) := by
                    unfold rd_nm
                    rw [pt_s, ← e1]
                    by_cases h3 : rd_en c n p ≤ p + 3
                    · rw [if_pos (show p < n ∧ rd_D (c p) = true ∧ rd_en c n p ≤ p + 3 from ⟨hp', hd, h3⟩), if_pos h3]
                    · rw [if_neg (show ¬ (p < n ∧ rd_D (c p) = true ∧ rd_en c n p ≤ p + 3) from fun q => h3 q.2.2), if_neg h3]
                  unfold rd_tv
                  rw [sg, if_neg (by decide), if_pos rfl, nmv]
                  by_cases h3 : rd_en c n p ≤ p + 3
                  · simp only [if_pos h3]; rw [if_pos (vb h3)]
                  · simp only [if_neg h3]; rw [if_neg (by decide)]
                rw [cond_true, if_neg (by decide), pb_93_72, px_numberOf (d := d + 4) f41 cb n3 (by omega) en.2 alld, pb_93_84]
                refine px_addToken (d := d + 4) tk.1 tk.2.1 (by omega) (fun I'' g1 g2 g3 g4 g5 g6 g7 => ?_)
                rw [pb_93_87]
                exact at103 _ (m + 1) I'' (by omega) (nextT ns) (fun r a e => (g1 r a e).trans (fr r a e)) (tk_add tk g2 g3 g4 (by rw [g5, sg]; rfl) (by rw [g6, ← e1]) (by rw [g7, tv]))
              | false =>
                rw [cond_false, if_pos rfl, pb_93_90]
                by_cases h32 : c p = 32
                · have ee : rd_en c n p = p + 1 := by unfold rd_en; rw [if_pos hp', if_neg (by rw [hl]; decide), if_neg (by rw [hd]; decide)]
                  rw [if_pos (by rw [h32]; rfl)]
                  refine at103 _ m I' hm ?_ fr tk
                  rw [ee, ← hst]
                  unfold rd_st
                  rw [go_step hp' (S_iff.mpr h32)]
                · obtain ⟨e1, e2⟩ := tok h32
                  have sg : rd_sg c n m = c p := by unfold rd_sg; rw [← e1, if_pos hp', if_neg (by rw [hl]; decide), if_neg (by rw [hd]; decide)]
                  have tv : rd_tv c n m = 0 := by unfold rd_tv; rw [sg, if_neg (by omega), if_neg (by omega)]
                  rw [if_neg (by rw [show (32 : Int32) = Int32.ofNat 32 from rfl, on_eq (by omega) (by omega)]; exact h32), pb_93_96]
                  refine px_addToken (d := d + 4) tk.1 tk.2.1 (by omega) (fun I'' g1 g2 g3 g4 g5 g6 g7 => ?_)
                  exact at103 _ (m + 1) I'' (by omega) (nextT h32) (fun r a e => (g1 r a e).trans (fr r a e)) (tk_add tk g2 g3 g4 (by rw [g5, sg]) (by rw [g6, ← e1]) (by rw [g7, tv]))
          rcases D with _ | ⟨a1, a2⟩ <;> simp only [Option.map, pm_vl_n, pm_vl_s]
          · rw [pb_93_38, px_isLetter cp]; exact go
          · rw [pb_93_38b, px_isLetter cp]; exact go
        rcases D with _ | ⟨a1, a2⟩ <;> simp only [Option.map, pm_vl_n, pm_vl_s] at at38 ⊢
        · rw [pb_93_12, if_neg nct, pb_93_19, f40, if_neg ncl, pb_93_27, px_signAt f41 n3 hp', pb_93_32, px_endOfRow (d := d + 4) f40 f41 cb n3 hp']
          exact at38
        · rw [pb_93_12b, if_neg nct, pb_93_19b, f40, if_neg ncl, pb_93_27b, px_signAt f41 n3 hp', pb_93_32b, px_endOfRow (d := d + 4) f40 f41 cb n3 hp']
          exact at38
  have q0 := pi_le.mp hT.2.2.1
  rw [pi_0] at q0
  rw [pb_93_0, pt_cut_42, pb_93_8]
  have start : ∀ I0 : Nat → Nat → Int32, (∀ r, ¬ r = 42 → I0 r = I r) → pm_ti (I0 42) 3 301 → I0 42 3 = 0 → pm_wp pm_code pm_meta (d + 6) 93 12 ([.ref 40, .int 0, .int 0, pm_unset, pm_unset], [], (pm_Gb L b, I0, J)) Q := fun I0 k0 t0 c0 => by
    have z := loop n 0 0 0 I0 none (by omega) (Nat.le_refl _) (Nat.zero_le _) rfl (fun r a _ => k0 r a) ⟨t0, c0, fun i hi => absurd hi (Nat.not_lt_zero _)⟩
    simp only [Option.map, pm_vl_n] at z
    exact z
  by_cases cc : (0 : Int32) ≤ 0 ∧ 0 < I 42 3
  · rw [if_pos cc]
    exact start _ (fun r a => by rw [pm_u_row, if_neg a]) (by rw [pm_u_row, if_pos rfl]; exact pm_ti_w hT (by decide) (by decide)) (by rw [pm_u_at])
  · rw [if_neg cc]
    have q2 : ¬ (0 : Int32) < I 42 3 := fun q => cc ⟨Int32.le_refl _, q⟩
    rw [pi_lt, pi_0] at q2
    exact start I (fun _ _ => rfl) hT (Int32.toInt_inj.mp (by rw [pi_0]; omega))
/-- the token that comes next -/
theorem px_sortI {N i : Nat} (tk : rd_tk c n (N + 1) I) (h3 : I 40 3 = Int32.ofNat i) (hi : i ≤ N) (hN : N ≤ 300) : pm_wc pm_code pm_meta (d + 1) 101 [.ref 40] (pm_Gb L b, I, J) Q ↔ Q (Int32.ofNat (rd_sg c n i)) 0 (pm_Gb L b, I, J) := by
  have g := on_n (a := i) (by omega)
  rw [pb_101_0, h3, pt_get_42_0 tk.1, if_pos ⟨g.1, by rw [tk.2.1, on_lt (by omega) (by omega)]; omega⟩, g.2.1, (tk.2.2 i (by omega)).1, pb_101_12]
theorem px_wordI {N i : Nat} (tk : rd_tk c n (N + 1) I) (h3 : I 40 3 = Int32.ofNat i) (hi : i ≤ N) (hN : N ≤ 300) (cb : ∀ p, p < n → c p ≤ 255) : pm_wc pm_code pm_meta (d + 1) 102 [.ref 40] (pm_Gb L b, I, J) Q ↔ Q (rd_fv (rd_cd c n i)) 0 (pm_Gb L b, I, J) := by
  have g := on_n (a := i) (by omega)
  have ii : 0 ≤ Int32.ofNat i ∧ Int32.ofNat i < I 42 3 := ⟨g.1, by rw [tk.2.1, on_lt (by omega) (by omega)]; omega⟩
  rw [pb_102_0, h3, pt_get_42_0 tk.1, if_pos ii, g.2.1, (tk.2.2 i (by omega)).1, pb_102_12]
  have sgb : rd_sg c n i ≤ 258 := by
    unfold rd_sg
    split
    · rename_i h
      have := cb _ h
      split
      · decide
      · split
        · decide
        · omega
    · decide
  by_cases s : rd_sg c n i = 256
  · rw [if_pos (by rw [s]; rfl), pb_102_18, h3, pt_get_42_2 tk.1, if_pos ii, g.2.1, (tk.2.2 i (by omega)).2.2, pb_102_30, pb_102_34]
    unfold rd_tv
    rw [if_pos s]
  · rw [if_neg (by rw [show (256 : Int32) = Int32.ofNat 256 from rfl, on_eq (by omega) (by omega)]; exact s), pb_102_33, pb_102_34]
    have e : rd_cd c n i = 99 := by
      unfold rd_cd
      rw [if_neg (fun q => s (by unfold rd_sg; rw [if_pos q.1, if_pos q.2]))]
    rw [e]
    exact Iff.rfl
end

