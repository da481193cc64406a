/-! THE CALL ride: the reference's search. -/
def pw_rs (E : List Nat → Nat × Nat) (M nH : Nat) (r79 r143 : Nat → Int32) : Option (List Nat) → Prop
  | none => r79 77 = -1 ∧ r79 78 = 0
  | some v => r79 77 = Int32.ofNat (E v).2 ∧ r79 78 = Int32.ofNat (E v).1 ∧ pw_h r143 v ∧ v.length = M ∧ ∀ x ∈ v, x < nH
def pw_fq (M : Nat) (I0 I : Nat → Nat → Int32) : Prop := (∀ k, ¬ k = 79 → ¬ k = 142 → ¬ k = 143 → I k = I0 k) ∧ (∀ j, ¬ j = 76 → ¬ j = 77 → ¬ j = 78 → I 79 j = I0 79 j) ∧ I 79 76 = Int32.ofNat M
section
variable {d L : Nat} {b : Bool} {J : Nat → Nat → Int64} {I0 : Nat → Nat → Int32} {p0 t0 M NH : Nat} {pl rd : Nat → Nat} {due : Nat → Int32} {tm : Nat → Nat → Bool} {x2 : Int32} {Q : Int32 → Int64 → pm_H → Prop}
theorem pr_weighRide (hN : NH ≤ 8) (hM : M ≤ 7) (p9 : p0 ≤ 9) (h0 : t0 ≤ 3599) (pl9 : ∀ h, pl h ≤ 9) (rd20 : ∀ k, rd k ≤ 20) (htm : ∀ h c, tm h c = pw_tm due t0 h c) (e0 : I0 80 0 = Int32.ofNat t0) (ep : ∀ h, h < NH → I0 84 h = Int32.ofNat (pl h)) (er : ∀ k, k < 100 → I0 81 k = Int32.ofNat (rd k)) (ed : ∀ h, h < NH → I0 90 h = due h)
    {W : List Nat} {I : Nat → Nat → Int32} {st : Option (List Nat)} (lW : W.length = M) (wn : ∀ x ∈ W, x < NH) (fr : pw_fq M I0 I) (hw : pw_h (I 142) W) (hst : pw_rs (pw_E pl rd tm p0) M NH (I 79) (I 143) st)
    (hQ : ∀ (I' : Nat → Nat → Int32) (x4 x5 x6 x7 : Int32), pw_fq M I0 I' → I' 142 = I 142 → pw_rs (pw_E pl rd tm p0) M NH (I' 79) (I' 143) (pw_up (pw_E pl rd tm p0) st W) → pm_wp pm_code pm_meta d 263 245 ([.ref 79, .int (Int32.ofNat p0), .int x2, .int 1, .int x4, .int x5, .int x6, .int x7], [], (pm_Gb L b, I', J)) Q) :
    pm_wp pm_code pm_meta d 263 80 ([.ref 79, .int (Int32.ofNat p0), .int x2, .int 1, .int (Int32.ofNat p0), .int 0, .int 0, .int 0], [], (pm_Gb L b, I, J)) Q := by
  have bd := fun w => ev_bd (tm := tm) pl9 rd20 w p0 0 0 p9
  obtain ⟨b1, b2, b3⟩ := bd W
  have i8 : ∀ a, a < 8 → pm_in (Int32.ofNat a) 8 = true := fun a h => pi_in (on_n (by omega)).1 (by rw [(on_n (by omega)).2.2]; omega)
  have tn : ∀ a, a < 8 → (Int32.ofNat a).toNatClampNeg = a := fun a h => (on_n (by omega)).2.1
  -- the way is copied
  have copy : ∀ (k j : Nat) (x4 x5 x6 : Int32) (I' : Nat → Nat → Int32), j + k = M → pw_fq M I0 I' → I' 142 = I 142 → (∀ i, i < j → I' 143 i = I 142 i) → I' 79 77 = Int32.ofNat (pw_ev pl rd tm p0 0 0 W).2.2 → I' 79 78 = Int32.ofNat (pw_ev pl rd tm p0 0 0 W).2.1 → pw_up (pw_E pl rd tm p0) st W = some W → pm_wp pm_code pm_meta d 263 216 ([.ref 79, .int (Int32.ofNat p0), .int x2, .int 1, .int x4, .int x5, .int x6, .int (Int32.ofNat j)], [], (pm_Gb L b, I', J)) Q := by
    intro k
    induction k with
    | zero =>
      intro j x4 x5 x6 I' hj f e142 h143 a77 a78 hu
      rw [pb_263_216, f.2.2, if_pos (by rw [on_le (by omega) (by omega)]; omega)]
      refine hQ I' _ _ _ _ f e142 ?_
      rw [hu]
      exact ⟨a77, a78, fun i x hx => by
        have l := (List.getElem?_eq_some_iff.mp hx).1
        rw [h143 i (by omega)]; exact hw i x hx, lW, wn⟩
    | succ k ih =>
      intro j x4 x5 x6 I' hj f e142 h143 a77 a78 hu
      rw [pb_263_216, f.2.2, if_neg (by rw [on_le (by omega) (by omega)]; omega), pb_263_225, on_s, tn j (by omega), e142]
      refine ⟨i8 _ (by omega), i8 _ (by omega), ih (j + 1) _ _ _ _ (by omega) ⟨fun k q1 q2 q3 => ?_, fun i q1 q2 q3 => ?_, ?_⟩ ?_ (fun i hi => ?_) ?_ ?_ hu⟩
      · rw [pm_u_row, if_neg q3]; exact f.1 k q1 q2 q3
      · rw [pm_u_row, if_neg (by decide)]; exact f.2.1 i q1 q2 q3
      · rw [pm_u_row, if_neg (by decide)]; exact f.2.2
      · rw [pm_u_row, if_neg (by decide)]; exact e142
      · rw [pm_u_row, if_pos rfl, pm_w_at]
        by_cases e : i = j
        · rw [if_pos e, e]
        · rw [if_neg e]; exact h143 i (by omega)
      · rw [pm_u_row, if_neg (by decide)]; exact a77
      · rw [pm_u_row, if_neg (by decide)]; exact a78
  have at201 : ∀ (x4 x7 : Int32), pw_up (pw_E pl rd tm p0) st W = some W → pm_wp pm_code pm_meta d 263 201 ([.ref 79, .int (Int32.ofNat p0), .int x2, .int 1, .int x4, .int (Int32.ofNat (pw_ev pl rd tm p0 0 0 W).2.1), .int (Int32.ofNat (pw_ev pl rd tm p0 0 0 W).2.2), .int x7], [], (pm_Gb L b, I, J)) Q := fun x4 x7 hu => by
    rw [pb_263_201]
    refine copy M 0 _ _ _ _ (by omega) ⟨fun k q1 q2 q3 => ?_, fun i q1 q2 q3 => ?_, ?_⟩ ?_ (fun i hi => absurd hi (Nat.not_lt_zero _)) ?_ ?_ hu
    · rw [pm_u_row, if_neg q1, pm_u_row, if_neg q1]; exact fr.1 k q1 q2 q3
    · rw [pm_u_row, if_pos rfl, pm_w_ne q3, pm_u_row, if_pos rfl, pm_w_ne q2]; exact fr.2.1 i q1 q2 q3
    · rw [pm_u_row, if_pos rfl, pm_w_ne (by decide), pm_u_row, if_pos rfl, pm_w_ne (by decide)]; exact fr.2.2
    · rw [pm_u_row, if_neg (by decide), pm_u_row, if_neg (by decide)]
    · rw [pm_u_row, if_pos rfl, pm_w_ne (by decide), pm_u_at]
    · rw [pm_u_at]
  have eval : ∀ (t w : List Nat), W = w ++ t → pm_wp pm_code pm_meta d 263 80 ([.ref 79, .int (Int32.ofNat p0), .int x2, .int 1, .int (Int32.ofNat (pw_ev pl rd tm p0 0 0 w).1), .int (Int32.ofNat (pw_ev pl rd tm p0 0 0 w).2.1), .int (Int32.ofNat (pw_ev pl rd tm p0 0 0 w).2.2), .int (Int32.ofNat w.length)], [], (pm_Gb L b, I, J)) Q := by
    intro t
    induction t with
    | nil =>
      intro w e
      rw [List.append_nil] at e
      subst e
      rw [pb_263_80, fr.2.2, lW, if_pos (Int32.le_refl _), pb_263_174]
      have F1 : ((pw_E pl rd tm p0) W).1 = (pw_ev pl rd tm p0 0 0 W).2.1 := rfl
      have F2 : ((pw_E pl rd tm p0) W).2 = (pw_ev pl rd tm p0 0 0 W).2.2 := rfl
      rcases st with _ | v
      · have gn := on_n (a := (pw_ev pl rd tm p0 0 0 W).2.2) (by omega)
        have l0 := pi_le.mp gn.1
        rw [pi_0] at l0
        have h77 : I 79 77 = -1 := hst.1
        rw [h77, if_pos (by rw [pi_lt, show (-1 : Int32).toInt = -1 from rfl]; omega)]
        exact at201 _ _ rfl
      · obtain ⟨h5, h6, h7, h8, h9⟩ := hst
        obtain ⟨v1, v2, v3⟩ := bd v
        have E1 : ((pw_E pl rd tm p0) v).1 = (pw_ev pl rd tm p0 0 0 v).2.1 := rfl
        have E2 : ((pw_E pl rd tm p0) v).2 = (pw_ev pl rd tm p0 0 0 v).2.2 := rfl
        have up : pw_up (pw_E pl rd tm p0) (some v) W = if ((pw_E pl rd tm p0) v).2 < ((pw_E pl rd tm p0) W).2 ∨ (((pw_E pl rd tm p0) v).2 = ((pw_E pl rd tm p0) W).2 ∧ ((pw_E pl rd tm p0) W).1 < ((pw_E pl rd tm p0) v).1) then some W else some v := rfl
        rw [E1, E2, F1, F2] at up
        have h5' : I 79 77 = Int32.ofNat (pw_ev pl rd tm p0 0 0 v).2.2 := h5
        have h6' : I 79 78 = Int32.ofNat (pw_ev pl rd tm p0 0 0 v).2.1 := h6
        have stay : pw_up (pw_E pl rd tm p0) (some v) W = some v → ∀ x4 x5 x6 x7 : Int32, pm_wp pm_code pm_meta d 263 245 ([.ref 79, .int (Int32.ofNat p0), .int x2, .int 1, .int x4, .int x5, .int x6, .int x7], [], (pm_Gb L b, I, J)) Q := fun hu x4 x5 x6 x7 => hQ I x4 x5 x6 x7 fr rfl (by rw [hu]; exact ⟨h5, h6, h7, h8, h9⟩)
        rw [h5']
        by_cases c1 : (pw_ev pl rd tm p0 0 0 v).2.2 < (pw_ev pl rd tm p0 0 0 W).2.2
        · rw [if_pos (by rw [on_lt (by omega) (by omega)]; exact c1)]
          exact at201 _ _ (by rw [up, if_pos (by omega)])
        · rw [if_neg (by rw [on_lt (by omega) (by omega)]; exact c1), pb_263_183, h5']
          by_cases c2 : (pw_ev pl rd tm p0 0 0 W).2.2 = (pw_ev pl rd tm p0 0 0 v).2.2
          · rw [if_pos (by rw [c2]), pb_263_192, h6']
            by_cases c3 : (pw_ev pl rd tm p0 0 0 v).2.1 ≤ (pw_ev pl rd tm p0 0 0 W).2.1
            · rw [if_pos (by rw [on_le (by omega) (by omega)]; exact c3)]
              exact stay (by rw [up, if_neg (by omega)]) _ _ _ _
            · rw [if_neg (by rw [on_le (by omega) (by omega)]; exact c3)]
              exact at201 _ _ (by rw [up, if_pos (by omega)])
          · rw [if_neg (by rw [on_eq (by omega) (by omega)]; exact c2)]
            exact stay (by rw [up, if_neg (by omega)]) _ _ _ _
    | cons h t ih =>
      intro w e
      have ll : w.length + (t.length + 1) = M := by rw [← lW, e, List.length_append, List.length_cons]
      have hn : h < NH := wn h (by rw [e]; simp)
      have e142 : I 142 w.length = Int32.ofNat h := hw _ _ (by rw [e]; exact ls_at)
      obtain ⟨c1, c2, c3⟩ := bd w
      have pp := pl9 h
      have rr := rd20 (10 * (pw_ev pl rd tm p0 0 0 w).1 + pl h)
      have g84 : I 84 h = Int32.ofNat (pl h) := by rw [fr.1 84 (by decide) (by decide) (by decide)]; exact ep h hn
      have ei : 10 * Int32.ofNat (pw_ev pl rd tm p0 0 0 w).1 + Int32.ofNat (pl h) = Int32.ofNat (10 * (pw_ev pl rd tm p0 0 0 w).1 + pl h) := by rw [show (10 : Int32) = Int32.ofNat 10 from rfl, on_mul, hb_add _ _ (by omega) (by omega)]
      have gi := on_n (a := 10 * (pw_ev pl rd tm p0 0 0 w).1 + pl h) (by omega)
      have i100 : pm_in (Int32.ofNat (10 * (pw_ev pl rd tm p0 0 0 w).1 + pl h)) 100 = true := pi_in gi.1 (by rw [gi.2.2]; omega)
      have g81 : I 81 (10 * (pw_ev pl rd tm p0 0 0 w).1 + pl h) = Int32.ofNat (rd (10 * (pw_ev pl rd tm p0 0 0 w).1 + pl h)) := by rw [fr.1 81 (by decide) (by decide) (by decide)]; exact er _ (by omega)
      have g90 : I 90 h = due h := by rw [fr.1 90 (by decide) (by decide) (by decide)]; exact ed h hn
      have g80 : I 80 0 = Int32.ofNat t0 := by rw [fr.1 80 (by decide) (by decide) (by decide)]; exact e0
      have evs : (pw_ev pl rd tm p0 0 0 (w ++ [h])) = (pl h, (pw_ev pl rd tm p0 0 0 w).2.1 + rd (10 * (pw_ev pl rd tm p0 0 0 w).1 + pl h) + 1, (pw_ev pl rd tm p0 0 0 w).2.2 + (bif tm h ((pw_ev pl rd tm p0 0 0 w).2.1 + rd (10 * (pw_ev pl rd tm p0 0 0 w).1 + pl h)) then 1 else 0)) := by rw [ev_app]; rfl
      have el : (w ++ [h]).length = w.length + 1 := by rw [List.length_append]; rfl
      have z := ih (w ++ [h]) (by rw [e, List.append_assoc]; rfl)
      rw [evs, el] at z
      have at148 : ∀ v : Nat, v = (bif tm h ((pw_ev pl rd tm p0 0 0 w).2.1 + rd (10 * (pw_ev pl rd tm p0 0 0 w).1 + pl h)) then 1 else 0) → pm_wp pm_code pm_meta d 263 148 ([.ref 79, .int (Int32.ofNat p0), .int x2, .int 1, .int (Int32.ofNat (pw_ev pl rd tm p0 0 0 w).1), .int (Int32.ofNat ((pw_ev pl rd tm p0 0 0 w).2.1 + rd (10 * (pw_ev pl rd tm p0 0 0 w).1 + pl h))), .int (Int32.ofNat (pw_ev pl rd tm p0 0 0 w).2.2), .int (Int32.ofNat w.length)], [.int (Int32.ofNat v), .int (Int32.ofNat (pw_ev pl rd tm p0 0 0 w).2.2)], (pm_Gb L b, I, J)) Q := fun v hv => by
        have v1 : v ≤ 1 := by rw [hv]; cases tm h ((pw_ev pl rd tm p0 0 0 w).2.1 + rd (10 * (pw_ev pl rd tm p0 0 0 w).1 + pl h)) <;> decide
        rw [pb_263_148, tn _ (by omega), e142, tn h (by omega), g84, on_s, on_s, hb_add _ _ (by omega) (by omega)]
        refine ⟨i8 _ (by omega), i8 _ (by omega), ?_⟩
        rw [← hv] at z
        exact z
      rw [pb_263_80, fr.2.2, if_neg (by rw [on_le (by omega) (by omega)]; omega), pb_263_89, tn _ (by omega), e142, tn h (by omega), g84, ei, gi.2.1, g81, g90, g80, hb_add _ _ (by omega) (by omega), hb_add _ _ (by omega) (by omega)]
      refine ⟨i8 _ (by omega), i8 _ (by omega), i100, i8 _ (by omega), i8 _ (by omega), ?_⟩
      by_cases q : due h < Int32.ofNat (t0 + ((pw_ev pl rd tm p0 0 0 w).2.1 + rd (10 * (pw_ev pl rd tm p0 0 0 w).1 + pl h)))
      · rw [if_pos q, pb_263_147]
        refine at148 0 ?_
        have : tm h ((pw_ev pl rd tm p0 0 0 w).2.1 + rd (10 * (pw_ev pl rd tm p0 0 0 w).1 + pl h)) = false := by rw [htm]; exact decide_eq_false (fun z => z q)
        rw [this]; rfl
      · rw [if_neg q, pb_263_143]
        refine at148 1 ?_
        have : tm h ((pw_ev pl rd tm p0 0 0 w).2.1 + rd (10 * (pw_ev pl rd tm p0 0 0 w).1 + pl h)) = true := by rw [htm]; exact decide_eq_true q
        rw [this]; rfl
  exact eval W [] rfl
theorem pr_chain (hN : NH ≤ 8) (hM : M ≤ 7) (p9 : p0 ≤ 9) (h0 : t0 ≤ 3599) (pl9 : ∀ h, pl h ≤ 9) (rd20 : ∀ k, rd k ≤ 20) (htm : ∀ h c, tm h c = pw_tm due t0 h c) (e0 : I0 80 0 = Int32.ofNat t0) (ep : ∀ h, h < NH → I0 84 h = Int32.ofNat (pl h)) (er : ∀ k, k < 100 → I0 81 k = Int32.ofNat (rd k)) (ed : ∀ h, h < NH → I0 90 h = due h) :
    ∀ (m S : Nat) (w : List Nat) (I : Nat → Nat → Int32) (st : Option (List Nat)), w.length + m = M → S < 2 ^ NH → pf_pc 24 S = m → (∀ x ∈ w, x < NH) → pw_fq M I0 I → pw_h (I 142) (w ++ pw_as (fun i => S.testBit i) 0 NH) → pw_rs (pw_E pl rd tm p0) M NH (I 79) (I 143) st →
    (∀ (I' : Nat → Nat → Int32) (x4 x5 x6 x7 : Int32), pw_fq M I0 I' → pw_h (I' 142) (w ++ (pw_as (fun i => S.testBit i) 0 NH).reverse) → pw_rs (pw_E pl rd tm p0) M NH (I' 79) (I' 143) (pw_T (pw_E pl rd tm p0) NH m (fun i => S.testBit i) w st) → pm_wp pm_code pm_meta (d + 1) 263 245 ([.ref 79, .int (Int32.ofNat p0), .int x2, .int 1, .int x4, .int x5, .int x6, .int x7], [], (pm_Gb L b, I', J)) Q) →
    pm_wp pm_code pm_meta (d + 1) 263 80 ([.ref 79, .int (Int32.ofNat p0), .int x2, .int 1, .int (Int32.ofNat p0), .int 0, .int 0, .int 0], [], (pm_Gb L b, I, J)) Q := by
  intro m
  induction m with
  | zero =>
    intro S w I st hw hS hp wn fr h142 hst hQ
    have lz := as_pcn (S := S) (n := NH) (by omega) hS
    rw [hp] at lz
    have nil := List.eq_nil_of_length_eq_zero lz
    rw [nil, List.append_nil] at h142
    rw [nil] at hQ
    refine pr_weighRide (st := st) hN hM p9 h0 pl9 rd20 htm e0 ep er ed (W := w) (by omega) wn fr h142 hst (fun I' x4 x5 x6 x7 f' e' s' => hQ I' x4 x5 x6 x7 f' ?_ s')
    rw [e', List.reverse_nil, List.append_nil]; exact h142
  | succ m ih =>
    intro S w I st hw hS hp wn fr h142 hst hQ
    have lz := as_pcn (S := S) (n := NH) (by omega) hS
    rw [hp] at lz
    -- one house's ways
    have sub : ∀ (j : Nat) (I : Nat → Nat → Int32) (st : Option (List Nat)), j < NH → S.testBit j = true → pw_fq M I0 I → pw_h (I 142) (w ++ j :: pw_as (pw_cl (fun i => S.testBit i) j) 0 NH) → pw_rs (pw_E pl rd tm p0) M NH (I 79) (I 143) st →
        (∀ (I' : Nat → Nat → Int32) (x4 x5 x6 x7 : Int32), pw_fq M I0 I' → pw_h (I' 142) (w ++ j :: (pw_as (pw_cl (fun i => S.testBit i) j) 0 NH).reverse) → pw_rs (pw_E pl rd tm p0) M NH (I' 79) (I' 143) (pw_T (pw_E pl rd tm p0) NH m (pw_cl (fun i => S.testBit i) j) (w ++ [j]) st) → pm_wp pm_code pm_meta (d + 1) 263 245 ([.ref 79, .int (Int32.ofNat p0), .int x2, .int 1, .int x4, .int x5, .int x6, .int x7], [], (pm_Gb L b, I', J)) Q) →
        pm_wp pm_code pm_meta (d + 1) 263 80 ([.ref 79, .int (Int32.ofNat p0), .int x2, .int 1, .int (Int32.ofNat p0), .int 0, .int 0, .int 0], [], (pm_Gb L b, I, J)) Q := fun j I st hj hb fr hh hst hQ => by
      have pcl := pc_cl (S := S) (h := j) (by omega) hb
      have h2lt : 2 ^ j < 2 ^ NH := Nat.pow_lt_pow_right (by decide) (by omega)
      refine ih (S ^^^ 2 ^ j) (w ++ [j]) I st (by rw [List.length_append]; show w.length + 1 + m = M; omega) (Nat.xor_lt_two_pow hS h2lt) (by omega) (fun x hx => by
        rcases List.mem_append.mp hx with q | q
        · exact wn x q
        · rw [List.mem_singleton.mp q]; omega) fr (by rw [cl_bit hb, List.append_assoc]; exact hh) hst (fun I' x4 x5 x6 x7 f' h' s' => hQ I' x4 x5 x6 x7 f' ?_ ?_)
      · rw [cl_bit hb, List.append_assoc] at h'; exact h'
      · rw [cl_bit hb] at s'; exact s'
    have step : ∀ (k j h : Nat) (I : Nat → Nat → Int32) (x4 x5 x6 x7 : Int32) (st : Option (List Nat)), j + k = NH → h < j → S.testBit h = true → (∀ i, h < i → i < j → S.testBit i = false) → pw_fq M I0 I → pw_h (I 142) (w ++ h :: (pw_as (pw_cl (fun i => S.testBit i) h) 0 NH).reverse) → pw_rs (pw_E pl rd tm p0) M NH (I 79) (I 143) st →
        (∀ (I' : Nat → Nat → Int32) (x4 x5 x6 x7 : Int32), pw_fq M I0 I' → pw_h (I' 142) (w ++ (pw_as (fun i => S.testBit i) 0 NH).reverse) → pw_rs (pw_E pl rd tm p0) M NH (I' 79) (I' 143) (ps_fb (fun h st => bif S.testBit h then (pw_T (pw_E pl rd tm p0) NH m (pw_cl (fun i => S.testBit i) h) (w ++ [h]) st) else st) k j st) → pm_wp pm_code pm_meta (d + 1) 263 245 ([.ref 79, .int (Int32.ofNat p0), .int x2, .int 1, .int x4, .int x5, .int x6, .int x7], [], (pm_Gb L b, I', J)) Q) →
        pm_wp pm_code pm_meta (d + 1) 263 245 ([.ref 79, .int (Int32.ofNat p0), .int x2, .int 1, .int x4, .int x5, .int x6, .int x7], [], (pm_Gb L b, I, J)) Q := by
      intro k
      induction k with
      | zero =>
        intro j h I x4 x5 x6 x7 st hj hhj hb gap fr hh hst hQ
        refine hQ I x4 x5 x6 x7 fr ?_ hst
        have ej : j = NH := by omega
        subst ej
        rw [as_low (P := (fun i => S.testBit i)) hhj hb gap]
        rw [as_cl hhj, as_nil (P := (fun i => S.testBit i)) (j - h - 1) (h + 1) (fun i h1 h2 => gap i (by omega) (by omega)), List.append_nil] at hh
        rw [List.reverse_append]; exact hh
      | succ k ihk =>
        intro j h I x4 x5 x6 x7 st hj hhj hb gap fr hh hst hQ
        cases hbj : S.testBit j with
        | false =>
          refine ihk (j + 1) h I x4 x5 x6 x7 st (by omega) (by omega) hb (fun i h1 h2 => ?_) fr hh hst (fun I' y4 y5 y6 y7 f' h' s' => hQ I' y4 y5 y6 y7 f' h' (by rw [ps_fb_s, hbj, cond_false]; exact s'))
          by_cases e : i = j
          · rw [e]; exact hbj
          · exact gap i h1 (by omega)
        | true =>
          have ecl : pw_as (pw_cl (fun i => S.testBit i) h) 0 NH = pw_as (fun i => S.testBit i) 0 h ++ j :: pw_as (fun i => S.testBit i) (j + 1) (NH - j - 1) := by
            rw [as_cl (by omega), as_gap hhj (by omega) hbj gap]
          have ecj : pw_as (pw_cl (fun i => S.testBit i) j) 0 NH = pw_as (fun i => S.testBit i) 0 h ++ h :: pw_as (fun i => S.testBit i) (j + 1) (NH - j - 1) := by
            rw [as_cl (by omega), as_low (P := (fun i => S.testBit i)) hhj hb gap, List.append_assoc]; rfl
          have lc := as_len (P := (fun i => S.testBit i)) (h := h) (n := NH) (by omega) hb
          rw [ecl, List.length_append, List.length_cons] at lc
          rw [ecl] at hh
          obtain ⟨u1, u2, u3, u4, u5⟩ := up_ls (f := I 142) (w := w) (A := pw_as (fun i => S.testBit i) 0 h) (B := pw_as (fun i => S.testBit i) (j + 1) (NH - j - 1)) (h := h) (j := j) (p := w.length) (q := w.length + 1 + (pw_as (fun i => S.testBit i) (j + 1) (NH - j - 1)).length) (M := M) (N := (pw_as (fun i => S.testBit i) 0 h).length + 1 + (pw_as (fun i => S.testBit i) (j + 1) (NH - j - 1)).length) hh (by rw [← ecl]; exact as_pw NH 0) (fun x hx => by have := as_mem h 0 hx; omega) hhj (fun x hx => by rw [← ecl] at hx; have := as_mem NH 0 hx; omega) rfl rfl (by omega) rfl
          rw [pb_263_245]
          refine pr_goesUp1 (d := d) (p := w.length) (q := w.length + 1 + (pw_as (fun i => S.testBit i) (j + 1) (NH - j - 1)).length) hM fr.2.2 (by omega) (by omega) u1 u2 u3 u4 (fun I' g1 g2 g3 g4 => ?_)
          have hh' := u5 (I' 142) g2 g3 g4
          rw [← ecj] at hh'
          have f' : pw_fq M I0 I' := ⟨fun k q1 q2 q3 => (g1 k q2).trans (fr.1 k q1 q2 q3), fun i q1 q2 q3 => by rw [g1 79 (by decide)]; exact fr.2.1 i q1 q2 q3, by rw [g1 79 (by decide)]; exact fr.2.2⟩
          rw [pb_263_249, pb_263_64b, if_neg (by decide), pb_263_68b]
          refine sub j I' st (by omega) hbj f' hh' (by rw [g1 79 (by decide), g1 143 (by decide)]; exact hst) (fun I2 y4 y5 y6 y7 f2 h2 s2 => ?_)
          refine ihk (j + 1) j I2 y4 y5 y6 y7 _ (by omega) (by omega) hbj (fun i h1 h2 => by omega) f2 h2 s2 (fun I3 z4 z5 z6 z7 f3 h3 s3 => hQ I3 z4 z5 z6 z7 f3 h3 (by rw [ps_fb_s, hbj, cond_true]; exact s3))
    have first : ∀ (k j : Nat), j + k = NH → (∀ i, i < j → S.testBit i = false) → (∀ (I' : Nat → Nat → Int32) (x4 x5 x6 x7 : Int32), pw_fq M I0 I' → pw_h (I' 142) (w ++ (pw_as (fun i => S.testBit i) 0 NH).reverse) → pw_rs (pw_E pl rd tm p0) M NH (I' 79) (I' 143) (ps_fb (fun h st => bif S.testBit h then (pw_T (pw_E pl rd tm p0) NH m (pw_cl (fun i => S.testBit i) h) (w ++ [h]) st) else st) k j st) → pm_wp pm_code pm_meta (d + 1) 263 245 ([.ref 79, .int (Int32.ofNat p0), .int x2, .int 1, .int x4, .int x5, .int x6, .int x7], [], (pm_Gb L b, I', J)) Q) →
        pm_wp pm_code pm_meta (d + 1) 263 80 ([.ref 79, .int (Int32.ofNat p0), .int x2, .int 1, .int (Int32.ofNat p0), .int 0, .int 0, .int 0], [], (pm_Gb L b, I, J)) Q := by
      intro k
      induction k with
      | zero =>
        intro j hj none_ _
        exfalso
        rw [as_nil (P := (fun i => S.testBit i)) NH 0 (fun i _ h2 => none_ i (by omega))] at lz
        exact absurd lz (by simp)
      | succ k ihk =>
        intro j hj none_ hQ
        cases hbj : S.testBit j with
        | false =>
          refine ihk (j + 1) (by omega) (fun i hi => ?_) (fun I' y4 y5 y6 y7 f' h' s' => hQ I' y4 y5 y6 y7 f' h' (by rw [ps_fb_s, hbj, cond_false]; exact s'))
          by_cases e : i = j
          · rw [e]; exact hbj
          · exact none_ i (by omega)
        | true =>
          have ecj : pw_as (fun i => S.testBit i) 0 NH = j :: pw_as (pw_cl (fun i => S.testBit i) j) 0 NH := by
            rw [as_split (P := (fun i => S.testBit i)) (h := j) (by omega) hbj, as_cl (by omega), as_nil (P := (fun i => S.testBit i)) j 0 (fun i _ h2 => none_ i (by omega))]; rfl
          rw [ecj] at h142
          refine sub j I st (by omega) hbj fr h142 hst (fun I2 y4 y5 y6 y7 f2 h2 s2 => ?_)
          exact step k (j + 1) j I2 y4 y5 y6 y7 _ (by omega) (by omega) hbj (fun i h1 h2 => by omega) f2 h2 s2 (fun I3 z4 z5 z6 z7 f3 h3 s3 => hQ I3 z4 z5 z6 z7 f3 h3 (by rw [ps_fb_s, hbj, cond_true]; exact s3))
    exact first NH 0 (by omega) (fun i hi => absurd hi (Nat.not_lt_zero _)) hQ
end

