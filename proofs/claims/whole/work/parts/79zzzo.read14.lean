/-! THE CALL read: one rule, on both sides. -/
theorem s_mono {c : Nat → Nat} {n N : Nat} (T : rd_tape c n N) (i : Nat) : ∀ k, i + k ≤ N → rd_s c n i + k ≤ rd_s c n (i + k) := by
  intro k
  induction k with
  | zero => intro _; exact Nat.le_refl _
  | succ k ih =>
    intro h
    have a := ih (by omega)
    have e := s_e (T.2.2.2.2 (i + k) (by omega))
    have p := (pt_le (c := c) (n := n) (i + k + 1)).2.1
    rw [show i + (k + 1) = i + k + 1 from rfl]
    omega
def rd_RX (c : Nat → Nat) (n N i : Nat) (fin : (Nat → Nat → Int32) → List (Nat × Nat) → List (Nat × Nat × Nat × Nat × Nat) → (Int32 → Int64 → pm_H → Prop) → (Nat → Nat → Int64) → Nat → Bool → Prop) : Prop :=
  ∀ (d L : Nat) (b : Bool) (I0 I : Nat → Nat → Int32) (J : Nat → Nat → Int64) (Q : Int32 → Int64 → pm_H → Prop) (ops : List (Nat × Nat)) (rs : List (Nat × Nat × Nat × Nat × Nat)), rd_tk c n (N + 1) I0 → rd_xr c n N I0 i ops rs I → rs.length < 10 → 4 * ops.length ≤ rd_s c n i → fin I0 ops rs Q J L b → pm_wc pm_code pm_meta (d + 26) 105 [.ref 40] (pm_Gb L b, I, J) Q
def rd_RR (c : Nat → Nat) (n sl i : Nat) (fin : (Nat → Nat → Int32) → (Nat → Nat → Int64) → List (Nat × Nat) → List (Nat × Nat × Nat × Nat × Nat) → (Int32 → Int64 → pm_H → Prop) → Nat → Bool → Prop) : Prop :=
  ∀ (d L : Nat) (b : Bool) (I0 : Nat → Nat → Int32) (J0 : Nat → Nat → Int64) (I : Nat → Nat → Int32) (J : Nat → Nat → Int64) (Q : Int32 → Int64 → pm_H → Prop) (ops : List (Nat × Nat)) (rs : List (Nat × Nat × Nat × Nat × Nat)), rd_fx c n sl I0 → rd_rr c n sl I0 J0 i ops rs I J → rs.length < 10 → 4 * ops.length ≤ rd_s c n i → fin I0 J0 ops rs Q L b → pm_wc pm_code pm_meta (d + 21) 230 [.ref 79] (pm_Gb L b, I, J) Q
def rd_RL (c : Nat → Nat) (n N sl i : Nat) : Prop :=
  (∃ i' opsC so ki rk, i < i' ∧ i' ≤ N ∧ so ≤ 2 ∧ ki < 256 ∧ rk ≤ 9 ∧ rd_in opsC ∧ rd_dk opsC ∧ 4 * opsC.length + rd_s c n i ≤ rd_pt c n i' ∧
    rd_RX c n N i (fun I0 ops rs Q J L b => ∀ I', rd_xr c n N I0 i' (ops ++ opsC) (rs ++ [(so, ki, rk, ops.length, (ops ++ opsC).length)]) I' → Q 1 0 (pm_Gb L b, I', J)) ∧
    rd_RR c n sl i (fun I0 J0 ops rs Q L b => ∀ I' J', rd_rr c n sl I0 J0 i' (ops ++ opsC) (rs ++ [(so, ki, rk, ops.length, (ops ++ opsC).length)]) I' J' → Q 0 0 (pm_Gb L b, I', J'))) ∨
  (∃ f, i ≤ f ∧ f ≤ N ∧ rd_RX c n N i (fun I0 _ _ Q J L b => ∀ I', rd_yf I0 f I' → Q 0 0 (pm_Gb L b, I', J)) ∧ rd_RR c n sl i (fun I0 J0 _ _ Q L b => ∀ I' J', rd_zf c n sl I0 J0 f I' J' → Q 0 0 (pm_Gb L b, I', J')))
theorem rd_rule {c : Nat → Nat} {n N sl i : Nat} (T : rd_tape c n N) (hi : i ≤ N) : rd_RL c n N sl i := by
  have n3 := T.2.1
  have Nn := T.2.2.1
  have cb := T.1
  have s300 : ∀ j, rd_s c n j ≤ 300 := fun j => by have := (pt_le (c := c) (n := n) j).2.2; omega
  have z0 : ∀ v : Nat, (0 : Nat) ||| v = v := fun v => Nat.zero_or v
  -- the reference's start
  have stR : ∀ (d L : Nat) (b : Bool) (I0 : Nat → Nat → Int32) (J0 : Nat → Nat → Int64) (I : Nat → Nat → Int32) (J : Nat → Nat → Int64) (Q : Int32 → Int64 → pm_H → Prop) (ops : List (Nat × Nat)) (rs : List (Nat × Nat × Nat × Nat × Nat)), rd_fx c n sl I0 → rd_rr c n sl I0 J0 i ops rs I J → rs.length < 10 → ((∀ Qk : Int32 → Int64 → pm_H → Prop, (∀ (v : Nat) I' J', v < 256 → pm_wp pm_code pm_meta (d + 21) 230 42 ([.ref 79, .int (Int32.ofNat (10 * sl + rs.length)), .int (Int32.ofNat (0 ||| v))], [], (pm_Gb L b, I', J')) Q → Qk (Int32.ofNat v) 0 (pm_Gb L b, I', J')) → pm_wc pm_code pm_meta (d + 20) 225 [.ref 79] (pm_Gb L b, I, J) Qk)) → pm_wc pm_code pm_meta (d + 21) 230 [.ref 79] (pm_Gb L b, I, J) Q := fun d L b I0 J0 I J Q ops rs fx h hr k => by
    have sl12 := fx.2.2.2.2.2
    have g := on_n (a := sl) (by omega)
    have gr := on_n (a := rs.length) (by omega)
    have p13 : pm_in (Int32.ofNat sl) 13 = true := pi_in g.1 (by rw [g.2.2]; omega)
    have e69 : I 79 69 = Int32.ofNat sl := (fx_rr fx h).2.2.2.2.1
    have ne : ¬ Int32.ofNat rs.length = 10 := by rw [show (10 : Int32) = Int32.ofNat 10 from rfl, on_eq (by omega) (by omega)]; omega
    have ek : (10 : Int32) * Int32.ofNat sl + Int32.ofNat rs.length = Int32.ofNat (10 * sl + rs.length) := by
      rw [show (10 : Int32) = Int32.ofNat 10 from rfl, on_mul, hb_add _ _ (by omega) (by omega)]
    rw [pb_230_0, e69, g.2.1, h.2.1]
    refine ⟨p13, ?_⟩
    rw [if_neg ne, pb_230_19, e69, g.2.1, h.2.1, ek]
    refine ⟨p13, k _ (fun v I1 J1 hv hh => ?_)⟩
    rw [z0] at hh
    rw [pb_230_41]
    exact hh
  -- the class's start
  have stX : ∀ (d L : Nat) (b : Bool) (I0 I : Nat → Nat → Int32) (J : Nat → Nat → Int64) (Q : Int32 → Int64 → pm_H → Prop) (ops : List (Nat × Nat)) (rs : List (Nat × Nat × Nat × Nat × Nat)), rd_xr c n N I0 i ops rs I → rs.length < 10 → (∀ I1, rd_xr c n N I0 i ops rs I1 → I1 40 5 = Int32.ofNat 0 → pm_wp pm_code pm_meta (d + 25) 106 7 ([.ref 40, .int (Int32.ofNat 0), pm_vl none], [], (pm_Gb L b, I1, J)) (fun v w H => pm_wp pm_code pm_meta (d + 26) 105 14 ([.ref 40, pm_unset, pm_unset, pm_unset, pm_unset], [.int v], H) Q)) → pm_wc pm_code pm_meta (d + 26) 105 [.ref 40] (pm_Gb L b, I, J) Q := fun d L b I0 I J Q ops rs h hr k => by
    have ne : ¬ 10 ≤ I 44 3 := by rw [h.2.2.2.1, show (10 : Int32) = Int32.ofNat 10 from rfl, on_le (by omega) (by omega)]; omega
    rw [pb_105_0, pt_full_44 h.2.2.1, pb_105_7, pm_b_f' ne, if_pos rfl, pb_105_10, pb_106_0]
    exact k _ (xr_5 h) (pm_u_at _ _ _ _)
  rcases rd_kinds (sl := sl) T (N - i) i 0 (Nat.le_refl _) hi (by decide) with ⟨i1, K, f1, f2, f3, kX, kR⟩ | ⟨f, f1, f2, kX, kR⟩
  · have si1 : rd_s c n i ≤ rd_s c n i1 := by
      have z := s_mono T i (i1 - i) (by omega)
      rw [show i + (i1 - i) = i1 by omega] at z; omega
    -- what follows a right, with the COND
    have tail : ∀ i2 so rk, i < i2 → i2 ≤ N → so ≤ 2 → rk ≤ 9 →
        (∀ (d L : Nat) (b : Bool) (I0 I : Nat → Nat → Int32) (J : Nat → Nat → Int64) (Q : Int32 → Int64 → pm_H → Prop) (ops : List (Nat × Nat)) (rs : List (Nat × Nat × Nat × Nat × Nat)), rd_tk c n (N + 1) I0 → rd_xr c n N I0 i1 ops rs I → I 40 5 = Int32.ofNat K → (∀ I1 (x1 x2 : Int32), rd_xr c n N I0 i2 ops rs I1 → I1 40 5 = Int32.ofNat K → x1 = Int32.ofNat so → x2 = (if so = 2 then Int32.ofNat rk else -3) → pm_wp pm_code pm_meta (d + 26) 105 66 ([.ref 40, .int x1, .int x2, pm_unset, pm_unset], [], (pm_Gb L b, I1, J)) Q) → pm_wp pm_code pm_meta (d + 26) 105 19 ([.ref 40, pm_unset, pm_unset, pm_unset, pm_unset], [], (pm_Gb L b, I, J)) Q) →
        (∀ (d L : Nat) (b : Bool) (I0 : Nat → Nat → Int32) (J0 : Nat → Nat → Int64) (I : Nat → Nat → Int32) (J : Nat → Nat → Int64) (Q : Int32 → Int64 → pm_H → Prop) (ops : List (Nat × Nat)) (rs : List (Nat × Nat × Nat × Nat × Nat)), rd_fx c n sl I0 → rd_rr c n sl I0 J0 i1 ops rs I J → rs.length < 10 → ops.length ≤ 80 → (∀ I1 J1, rd_rr c n sl I0 J0 i2 ops rs I1 J1 → rd_cv (10 * sl + rs.length) so K (if so = 2 then Int32.ofNat rk else -1) I1 → pm_wp pm_code pm_meta (d + 21) 230 142 ([.ref 79, .int (Int32.ofNat (10 * sl + rs.length)), .int (Int32.ofNat K)], [], (pm_Gb L b, I1, J1)) Q) → pm_wp pm_code pm_meta (d + 21) 230 62 ([.ref 79, .int (Int32.ofNat (10 * sl + rs.length)), .int (Int32.ofNat K)], [], (pm_Gb L b, I, J)) Q) →
        rd_RL c n N sl i := fun i2 so rk g1 g2 g3 g4 tX tR => by
      have si2 : rd_s c n i + 1 ≤ rd_s c n i2 := by
        have z := s_mono T i (i2 - i) (by omega)
        rw [show i + (i2 - i) = i2 by omega] at z; omega
      rcases rd_cd_all (sl := sl) T g2 with ⟨i3, opsC, a1, a2, a3, a4, a5, sX, sR⟩ | ⟨f, a1, a2, sX, sR⟩
      · refine Or.inl ⟨i3, opsC, so, K, rk, by omega, a2, g3, f3, g4, a3, a4, by omega, fun d L b I0 I J Q ops rs tk h hr pre hQ => ?_, fun d L b I0 J0 I J Q ops rs fx h hr pre hQ => ?_⟩
        · refine stX d L b I0 I J Q ops rs h hr (fun I1 h1 c1 => kX (d + 23) L b I0 I1 J _ ops rs 0 none tk h1 c1 (Nat.zero_le _) (fun I2 h2 c2 => ?_))
          rw [pb_105_14, if_neg (by decide)]
          exact tX d L b I0 I2 J Q ops rs tk h2 c2 (fun I3 x1 x2 h3 c3 e1 e2 => sX d L b I0 I3 J Q ops rs so K rk x1 x2 tk h3 hr (by omega) e1 e2 c3 hQ)
        · have l80 : ops.length ≤ 80 := by have := s300 i; omega
          refine stR d L b I0 J0 I J Q ops rs fx h hr (kR (d + 18) L b I0 J0 I J Q ops rs _ fx h l80 (by omega) (fun I2 J2 h2 => ?_))
          exact tR d L b I0 J0 I2 J2 Q ops rs fx h2 hr l80 (fun I3 J3 h3 c3 => sR d L b I0 J0 I3 J3 Q ops rs so K rk _ fx h3 hr (by omega) c3 hQ)
      · refine Or.inr ⟨f, by omega, a2, fun d L b I0 I J Q ops rs tk h hr pre hQ => ?_, fun d L b I0 J0 I J Q ops rs fx h hr pre hQ => ?_⟩
        · refine stX d L b I0 I J Q ops rs h hr (fun I1 h1 c1 => kX (d + 23) L b I0 I1 J _ ops rs 0 none tk h1 c1 (Nat.zero_le _) (fun I2 h2 c2 => ?_))
          rw [pb_105_14, if_neg (by decide)]
          exact tX d L b I0 I2 J Q ops rs tk h2 c2 (fun I3 x1 x2 h3 c3 e1 e2 => sX d L b I0 I3 J Q ops rs so K rk x1 x2 tk h3 hr (by omega) e1 e2 c3 hQ)
        · have l80 : ops.length ≤ 80 := by have := s300 i; omega
          refine stR d L b I0 J0 I J Q ops rs fx h hr (kR (d + 18) L b I0 J0 I J Q ops rs _ fx h l80 (by omega) (fun I2 J2 h2 => ?_))
          exact tR d L b I0 J0 I2 J2 Q ops rs fx h2 hr l80 (fun I3 J3 h3 c3 => sR d L b I0 J0 I3 J3 Q ops rs so K rk _ fx h3 hr (by omega) c3 hQ)
    have iN : ∀ m, m < 21 → rd_cd c n i1 = m → i1 < N := fun m hm e => by
      by_cases q : i1 = N
      · rw [q, cd_N T] at e; omega
      · omega
    have low : ∀ so, so < 2 → rd_cd c n i1 = 8 + so → rd_RL c n N sl i := fun so hs e =>
      tail (i1 + 1) so 0 (by omega) (by have := iN (8 + so) (by omega) e; omega) (by omega) (by omega)
        (fun d L b I0 I J Q ops rs tk h c5 k => px_ruleB (d := d + 24) (ki := K) T f2 tk h c5
          (fun s q1 q2 I1 h1 c1 => k I1 _ _ h1 c1 (by rw [show s = so by omega]) (by rw [if_neg (by omega)]))
          (fun q => absurd q (by omega)) (fun q => absurd q (by omega)) (fun q1 q2 q3 => absurd e (by omega)))
        (fun d L b I0 J0 I J Q ops rs fx h hr hl k => pr_ruleB (d := d + 16) (ki := K) rfl fx h hr hl
          (fun s q1 q2 I1 J1 h1 c1 => k I1 J1 h1 (by rw [if_neg (by omega), show so = s by omega]; exact c1))
          (fun q => absurd q (by omega)) (fun q => absurd q (by omega)) (fun q1 q2 q3 => absurd e (by omega)))
    by_cases e8 : rd_cd c n i1 = 8
    · exact low 0 (by decide) e8
    · by_cases e9 : rd_cd c n i1 = 9
      · exact low 1 (by decide) e9
      · by_cases e10 : rd_cd c n i1 = 10
        · have iN1 := iN 10 (by decide) e10
          by_cases nmh : rd_sg c n (i1 + 1) = 257 ∧ rd_nm c n (i1 + 1) ≤ 9
          · have iN2 : i1 + 1 < N := by
              by_cases q : i1 + 1 = N
              · rw [q, sg_N T] at nmh; omega
              · omega
            exact tail (i1 + 2) 2 (rd_nm c n (i1 + 1)) (by omega) (by omega) (by omega) nmh.2
              (fun d L b I0 I J Q ops rs tk h c5 k => px_ruleB (d := d + 24) (ki := K) T f2 tk h c5
                (fun s q1 q2 => absurd q2 (by omega))
                (fun _ _ I1 h1 c1 => k I1 _ _ h1 c1 rfl (by rw [if_pos rfl])) (fun _ q => absurd nmh q) (fun _ _ q => absurd e10 q))
              (fun d L b I0 J0 I J Q ops rs fx h hr hl k => pr_ruleB (d := d + 16) (ki := K) rfl fx h hr hl
                (fun s q1 q2 => absurd q2 (by omega))
                (fun _ _ I1 J1 h1 c1 => k I1 J1 h1 (by rw [if_pos rfl]; exact c1)) (fun _ q => absurd nmh q) (fun _ _ q => absurd e10 q))
          · refine Or.inr ⟨i1 + 1, by omega, by omega, fun d L b I0 I J Q ops rs tk h hr pre hQ => ?_, fun d L b I0 J0 I J Q ops rs fx h hr pre hQ => ?_⟩
            · refine stX d L b I0 I J Q ops rs h hr (fun I1 h1 c1 => kX (d + 23) L b I0 I1 J _ ops rs 0 none tk h1 c1 (Nat.zero_le _) (fun I2 h2 c2 => ?_))
              rw [pb_105_14, if_neg (by decide)]
              exact px_ruleB (d := d + 24) (ki := K) T f2 tk h2 c2 (fun s q1 q2 => absurd q2 (by omega)) (fun _ q => absurd q nmh) (fun _ _ I3 h3 => hQ I3 h3) (fun _ _ q => absurd e10 q)
            · have l80 : ops.length ≤ 80 := by have := s300 i; omega
              have sl12 := fx.2.2.2.2.2
              refine stR d L b I0 J0 I J Q ops rs fx h hr (kR (d + 18) L b I0 J0 I J Q ops rs _ fx h l80 (by omega) (fun I2 J2 h2 => ?_))
              exact pr_ruleB (d := d + 16) (ki := K) rfl fx h2 hr l80 (fun s q1 q2 => absurd q2 (by omega)) (fun _ q => absurd q nmh) (fun _ _ I3 J3 h3 => pr_ruleCf (d := d + 17) fx (by omega) (by omega) h3 hQ) (fun _ _ q => absurd e10 q)
        · refine Or.inr ⟨i1, by omega, f2, fun d L b I0 I J Q ops rs tk h hr pre hQ => ?_, fun d L b I0 J0 I J Q ops rs fx h hr pre hQ => ?_⟩
          · refine stX d L b I0 I J Q ops rs h hr (fun I1 h1 c1 => kX (d + 23) L b I0 I1 J _ ops rs 0 none tk h1 c1 (Nat.zero_le _) (fun I2 h2 c2 => ?_))
            rw [pb_105_14, if_neg (by decide)]
            exact px_ruleB (d := d + 24) (ki := K) T f2 tk h2 c2 (fun s q1 q2 => absurd q2 (by omega)) (fun q => absurd q e10) (fun q => absurd q e10) (fun _ _ _ I3 h3 => hQ I3 h3)
          · have l80 : ops.length ≤ 80 := by have := s300 i; omega
            have sl12 := fx.2.2.2.2.2
            refine stR d L b I0 J0 I J Q ops rs fx h hr (kR (d + 18) L b I0 J0 I J Q ops rs _ fx h l80 (by omega) (fun I2 J2 h2 => ?_))
            exact pr_ruleB (d := d + 16) (ki := K) rfl fx h2 hr l80 (fun s q1 q2 => absurd q2 (by omega)) (fun q => absurd q e10) (fun q => absurd q e10) (fun _ _ _ I3 J3 h3 => pr_ruleCf (d := d + 17) fx (by omega) (by omega) h3 hQ)
  · refine Or.inr ⟨f, f1, f2, fun d L b I0 I J Q ops rs tk h hr pre hQ => ?_, fun d L b I0 J0 I J Q ops rs fx h hr pre hQ => ?_⟩
    · refine stX d L b I0 I J Q ops rs h hr (fun I1 h1 c1 => kX (d + 23) L b I0 I1 J _ ops rs 0 none tk h1 c1 (Nat.zero_le _) (fun I2 h2 => ?_))
      rw [pb_105_14, if_pos rfl, pb_105_17]
      exact hQ I2 h2
    · have l80 : ops.length ≤ 80 := by have := s300 i; omega
      have sl12 := fx.2.2.2.2.2
      refine stR d L b I0 J0 I J Q ops rs fx h hr (kR (d + 18) L b I0 J0 I J Q ops rs _ fx h l80 (by omega) (fun I2 J2 x2 h2 => ?_))
      exact pr_ruleBf (d := d + 16) fx (by omega) (by omega) h2 hQ

