/-! THE CALL read: a rule's right, on both sides. -/
def rd_cv (k so ki : Nat) (v : Int32) (I : Nat → Nat → Int32) : Prop := I 117 k = Int32.ofNat so ∧ I 118 k = Int32.ofNat ki ∧ I 119 k = v
theorem fv_out : ∀ w : Nat, w < 1000 → ¬ w = 8 → ¬ w = 9 → ¬ w = 10 → ¬ (0 ≤ rd_fv w - 8 ∧ rd_fv w - 8 ≤ 2) := by
  intro w hw a8 a9 a10 q
  unfold rd_fv at q
  by_cases e : w = 99
  · rw [if_pos e] at q; exact absurd q (by decide)
  · rw [if_neg e] at q
    by_cases l : w < 8
    · have z : ∀ w, w < 8 → ¬ (0 ≤ Int32.ofNat w - 8) := by decide
      exact z w l q.1
    · rw [show (8 : Int32) = Int32.ofNat 8 from rfl, hb_sub w 8 (by omega) (by omega), show (2 : Int32) = Int32.ofNat 2 from rfl, on_le (by omega) (by omega)] at q
      omega
section
variable {d L : Nat} {b : Bool} {I I' : Nat → Nat → Int32} {J J' : Nat → Nat → Int64} {Q : Int32 → Int64 → pm_H → Prop} {c : Nat → Nat} {n sl i i' N : Nat} {I0 : Nat → Nat → Int32} {J0 : Nat → Nat → Int64} {ops ops' : List (Nat × Nat)} {rs : List (Nat × Nat × Nat × Nat × Nat)}
theorem cv_q {k so ki : Nat} {v : Int32} (h : rd_cv k so ki v I) (q : rd_rq c n sl I J i ops' 0 I' J') : rd_cv k so ki v I' := by
  unfold rd_cv at h ⊢
  rw [q.1 117 (by decide) (by decide) (by decide) (by decide), q.1 118 (by decide) (by decide) (by decide) (by decide), q.1 119 (by decide) (by decide) (by decide) (by decide)]
  exact h
theorem cv_117 {k so so' ki : Nat} {v : Int32} {I : Nat → Nat → Int32} (h : I 118 k = Int32.ofNat ki ∧ I 119 k = v) (x : Int32) (hx : x = Int32.ofNat so) : rd_cv k so ki v (pm_u I 117 k x) := by
  unfold rd_cv
  rw [pm_u_at, pm_u_row, if_neg (by decide), pm_u_row, if_neg (by decide)]
  exact ⟨hx, h⟩
theorem pr_ruleB {ki : Nat} {x2 : Int32} (hx2 : x2 = Int32.ofNat ki) (fx : rd_fx c n sl I0) (h : rd_rr c n sl I0 J0 i ops rs I J) (hr : rs.length < 10) (hl : ops.length ≤ 80)
    (hA : ∀ so, so < 2 → rd_cd c n i = 8 + so → ∀ I' J', rd_rr c n sl I0 J0 (i + 1) ops rs I' J' → rd_cv (10 * sl + rs.length) so ki (-1) I' → pm_wp pm_code pm_meta (d + 5) 230 142 ([.ref 79, .int (Int32.ofNat (10 * sl + rs.length)), .int x2], [], (pm_Gb L b, I', J')) Q)
    (hB : rd_cd c n i = 10 → (rd_sg c n (i + 1) = 257 ∧ rd_nm c n (i + 1) ≤ 9) → ∀ I' J', rd_rr c n sl I0 J0 (i + 2) ops rs I' J' → rd_cv (10 * sl + rs.length) 2 ki (Int32.ofNat (rd_nm c n (i + 1))) I' → pm_wp pm_code pm_meta (d + 5) 230 142 ([.ref 79, .int (Int32.ofNat (10 * sl + rs.length)), .int x2], [], (pm_Gb L b, I', J')) Q)
    (hC : rd_cd c n i = 10 → ¬ (rd_sg c n (i + 1) = 257 ∧ rd_nm c n (i + 1) ≤ 9) → ∀ I' J', rd_zf c n sl I0 J0 (i + 1) I' J' → pm_wp pm_code pm_meta (d + 5) 230 142 ([.ref 79, .int (Int32.ofNat (10 * sl + rs.length)), .int x2], [], (pm_Gb L b, I', J')) Q)
    (hD : ¬ rd_cd c n i = 8 → ¬ rd_cd c n i = 9 → ¬ rd_cd c n i = 10 → ∀ I' J', rd_zf c n sl I0 J0 i I' J' → pm_wp pm_code pm_meta (d + 5) 230 142 ([.ref 79, .int (Int32.ofNat (10 * sl + rs.length)), .int x2], [], (pm_Gb L b, I', J')) Q) :
    pm_wp pm_code pm_meta (d + 5) 230 62 ([.ref 79, .int (Int32.ofNat (10 * sl + rs.length)), .int x2], [], (pm_Gb L b, I, J)) Q := by
  have sl12 := fx.2.2.2.2.2
  have n3 := fx.2.2.2.1
  have gk := on_n (a := 10 * sl + rs.length) (by omega)
  have pk : pm_in (Int32.ofNat (10 * sl + rs.length)) 130 = true := pi_in gk.1 (by rw [gk.2.2]; omega)
  rw [pb_230_62, gk.2.1]
  refine ⟨pk, pk, ?_⟩
  have r1 := rr_w (r := 119) (k := 10 * sl + rs.length) (v := -1) (by omega) (Nat.le_refl _) (rr_w (r := 118) (k := 10 * sl + rs.length) (v := x2) (by omega) (Nat.le_refl _) h)
  have c1 : (pm_u (pm_u I 118 (10 * sl + rs.length) x2) 119 (10 * sl + rs.length) (-1)) 118 (10 * sl + rs.length) = Int32.ofNat ki ∧ (pm_u (pm_u I 118 (10 * sl + rs.length) x2) 119 (10 * sl + rs.length) (-1)) 119 (10 * sl + rs.length) = -1 := by
    refine ⟨?_, pm_u_at _ _ _ _⟩
    rw [pm_u_row, if_neg (by decide), pm_u_at]; exact hx2
  generalize pm_u (pm_u I 118 (10 * sl + rs.length) x2) 119 (10 * sl + rs.length) (-1) = I1 at r1 c1 ⊢
  have cc : ∀ {j : Nat} {I2 : Nat → Nat → Int32} {J2 : Nat → Nat → Int64}, rd_rq c n sl I1 J j ops 0 I2 J2 → I2 118 (10 * sl + rs.length) = Int32.ofNat ki ∧ I2 119 (10 * sl + rs.length) = -1 := fun {j I2 J2} q => by
    rw [q.1 118 (by decide) (by decide) (by decide) (by decide), q.1 119 (by decide) (by decide) (by decide) (by decide)]; exact c1
  refine pr_may (d := d + 2) (fx_rr fx r1) (m := 8) (w := rd_W.getD 8 []) rfl rfl r1.2.2.2 (fun e I2 J2 h2 => ?_) (fun e8 => ?_)
  · rw [pb_230_83, if_neg (by decide), pb_230_86, gk.2.1]
    exact ⟨pk, hA 0 (by decide) e _ J2 (rr_w (by omega) (Nat.le_refl _) (rr_q r1 h2)) (cv_117 (so' := 0) (cc h2) _ rfl)⟩
  · rw [pb_230_83, if_pos rfl, pb_230_96]
    refine pr_may (d := d + 2) (fx_rr fx r1) (m := 9) (w := rd_W.getD 9 []) rfl rfl r1.2.2.2 (fun e I2 J2 h2 => ?_) (fun e9 => ?_)
    · rw [pb_230_103, if_neg (by decide), pb_230_106, gk.2.1]
      exact ⟨pk, hA 1 (by decide) e _ J2 (rr_w (by omega) (Nat.le_refl _) (rr_q r1 h2)) (cv_117 (so' := 0) (cc h2) _ rfl)⟩
    · rw [pb_230_103, if_pos rfl, pb_230_116]
      refine pr_must (d := d + 1) (fx_rr fx r1) (m := 10) (w := rd_W.getD 10 []) rfl rfl r1.2.2.2 hl (fun e I2 J2 h2 => ?_) (fun e10 I2 h2 => ?_)
      · have r2 := rr_q r1 h2
        have c2 := cc h2
        rw [pb_230_123, gk.2.1]
        refine ⟨pk, ?_⟩
        have r3 := rr_w (r := 117) (k := 10 * sl + rs.length) (v := 2) (by omega) (Nat.le_refl _) r2
        have c3 := cv_117 (k := 10 * sl + rs.length) (so := 2) (so' := 0) c2 2 rfl
        generalize pm_u I2 117 (10 * sl + rs.length) 2 = I3 at r3 c3 ⊢
        refine pr_number (d := d + 2) (fx_rr fx r3) (most := 9) (by decide) r3.2.2.2 hl (fun nmh I4 J4 h4 => ?_) (fun nmh I4 h4 => ?_)
        · rw [pb_230_141, gk.2.1]
          refine ⟨pk, hB e nmh _ J4 (rr_w (by omega) (Nat.le_refl _) (rr_q r3 h4)) ?_⟩
          have c4 := cv_q c3 h4
          unfold rd_cv at c4 ⊢
          rw [pm_u_at, pm_u_row, if_neg (by decide), pm_u_row, if_neg (by decide)]
          exact ⟨c4.1, c4.2.1, rfl⟩
        · have z := rr_f r3 (by omega) h4
          rw [pb_230_141, gk.2.1]
          exact ⟨pk, hC e nmh _ _ (zf_w (by omega) (by omega) z)⟩
      · have z := rr_f r1 (by omega) h2
        rw [pb_230_123, gk.2.1]
        refine ⟨pk, ?_⟩
        have z2 := zf_w (r := 117) (k := 10 * sl + rs.length) (v := 2) (by omega) (by omega) z
        generalize pm_u I2 117 (10 * sl + rs.length) 2 = I3 at z2 ⊢
        rw [pr_number_f (zf_fl n3 z2), pb_230_141, gk.2.1]
        exact ⟨pk, hD e8 e9 e10 _ _ (zf_w (by omega) (by omega) z2)⟩
theorem pr_ruleBf {f k : Nat} {x2 : Int32} (fx : rd_fx c n sl I0) (hk : 10 * sl ≤ k) (hk2 : k < 130) (h : rd_zf c n sl I0 J0 f I J) (hN : ∀ I' J', rd_zf c n sl I0 J0 f I' J' → Q 0 0 (pm_Gb L b, I', J')) : pm_wp pm_code pm_meta (d + 5) 230 62 ([.ref 79, .int (Int32.ofNat k), .int x2], [], (pm_Gb L b, I, J)) Q := by
  have n3 := fx.2.2.2.1
  have gk := on_n (a := k) (by omega)
  have pk : pm_in (Int32.ofNat k) 130 = true := pi_in gk.1 (by rw [gk.2.2]; omega)
  rw [pb_230_62, gk.2.1]
  refine ⟨pk, pk, ?_⟩
  have z1 := zf_w (r := 119) (k := k) (v := -1) (by omega) hk (zf_w (r := 118) (k := k) (v := x2) (by omega) hk h)
  generalize pm_u (pm_u I 118 k x2) 119 k (-1) = I1 at z1 ⊢
  rw [pr_may_f (zf_fl n3 z1), pb_230_83, if_pos rfl, pb_230_96, pr_may_f (zf_fl n3 z1), pb_230_103, if_pos rfl, pb_230_116, pr_must_f (zf_fl n3 z1), pb_230_123, gk.2.1]
  refine ⟨pk, ?_⟩
  have z2 := zf_w (r := 117) (k := k) (v := 2) (by omega) hk z1
  generalize pm_u I1 117 k 2 = I2 at z2 ⊢
  rw [pr_number_f (zf_fl n3 z2), pb_230_141, gk.2.1]
  exact ⟨pk, pr_ruleCf (d := d + 1) fx hk hk2 (zf_w (r := 119) (by omega) hk z2) hN⟩
theorem px_ruleB {ki : Nat} (T : rd_tape c n N) (hi : i ≤ N) (tk : rd_tk c n (N + 1) I0) (h : rd_xr c n N I0 i ops rs I) (e5 : I 40 5 = Int32.ofNat ki)
    (hA : ∀ so, so < 2 → rd_cd c n i = 8 + so → ∀ I', rd_xr c n N I0 (i + 1) ops rs I' → I' 40 5 = Int32.ofNat ki → pm_wp pm_code pm_meta (d + 2) 105 66 ([.ref 40, .int (Int32.ofNat so), .int (-3), pm_unset, pm_unset], [], (pm_Gb L b, I', J)) Q)
    (hB : rd_cd c n i = 10 → (rd_sg c n (i + 1) = 257 ∧ rd_nm c n (i + 1) ≤ 9) → ∀ I', rd_xr c n N I0 (i + 2) ops rs I' → I' 40 5 = Int32.ofNat ki → pm_wp pm_code pm_meta (d + 2) 105 66 ([.ref 40, .int (Int32.ofNat 2), .int (Int32.ofNat (rd_nm c n (i + 1))), pm_unset, pm_unset], [], (pm_Gb L b, I', J)) Q)
    (hC : rd_cd c n i = 10 → ¬ (rd_sg c n (i + 1) = 257 ∧ rd_nm c n (i + 1) ≤ 9) → ∀ I', rd_yf I0 (i + 1) I' → Q 0 0 (pm_Gb L b, I', J))
    (hD : ¬ rd_cd c n i = 8 → ¬ rd_cd c n i = 9 → ¬ rd_cd c n i = 10 → ∀ I', rd_yf I0 i I' → Q 0 0 (pm_Gb L b, I', J)) :
    pm_wp pm_code pm_meta (d + 2) 105 19 ([.ref 40, pm_unset, pm_unset, pm_unset, pm_unset], [], (pm_Gb L b, I, J)) Q := by
  have n3 := T.2.1
  have Nn := T.2.2.1
  have cb := T.1
  have r1 := xr_q h (xq_pass h.2.2.2.2.2)
  have c5 : (pm_u I 40 3 (I 40 3 + 1)) 40 5 = Int32.ofNat ki := by rw [pm_u_row, if_pos rfl, pm_w_ne (by decide)]; exact e5
  rw [pb_105_19, px_wordI (xr_tk tk h) h.2.2.2.2.2.2.2.1 hi (by omega) cb, pb_105_23, px_isWithin]
  by_cases e8 : rd_cd c n i = 8
  · rw [e8, show rd_fv 8 - 8 = Int32.ofNat 0 from rfl, pm_b_t' (by decide), pb_105_34, px_pass1, pb_105_37, if_neg (by decide), pb_105_42, if_neg (by decide)]
    exact hA 0 (by decide) e8 _ r1 c5
  · by_cases e9 : rd_cd c n i = 9
    · rw [e9, show rd_fv 9 - 8 = Int32.ofNat 1 from rfl, pm_b_t' (by decide), pb_105_34, px_pass1, pb_105_37, if_neg (by decide), pb_105_42, if_neg (by decide)]
      exact hA 1 (by decide) e9 _ r1 c5
    · by_cases e10 : rd_cd c n i = 10
      · have iN : i < N := by
          by_cases q : i = N
          · rw [q, cd_N T] at e10; omega
          · omega
        rw [e10, show rd_fv 10 - 8 = Int32.ofNat 2 from rfl, pm_b_t' (by decide), pb_105_34, px_pass1, pb_105_37, if_neg (by decide), pb_105_42, if_pos (by decide), pb_105_50]
        generalize pm_u I 40 3 (I 40 3 + 1) = I1 at r1 c5 ⊢
        refine px_passNumber (d := d) (most := 9) (xr_tk tk r1) cb (by omega) (show i + 1 ≤ N by omega) (by decide) (xq_self r1.2.2.2.2.2) (fun nmh I2 q2 e4 => ?_) (fun nmh I2 q2 => ?_)
        · rw [pb_105_56, if_neg (by decide), pb_105_61, e4]
          exact hB e10 nmh I2 (xr_q r1 q2) (by rw [q2.2.1 5 (by decide) (by decide)]; exact c5)
        · rw [pb_105_56, if_pos rfl, pb_105_59]
          exact hC e10 nmh I2 (xr_f r1 q2)
      · have bd : rd_cd c n i < 1000 := by unfold rd_cd; split; exact find_lt; decide
        rw [pm_b_f' (fv_out _ bd e8 e9 e10), pb_105_34, px_pass0, pb_105_37, if_pos rfl, pb_105_40]
        exact hD e8 e9 e10 I (xr_yf h)
end

