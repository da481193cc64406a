/-! THE CALL ride: the rows. -/
theorem T_keep {α : Type} {g : Nat → Option α → Option α} (hk : ∀ h st, ¬ st = none → ¬ g h st = none) : ∀ (k b : Nat) (st : Option α), ¬ st = none → ¬ ps_fb g k b st = none
  | 0, _, _, h => h
  | k + 1, b, st, h => T_keep hk k (b + 1) (g b st) (hk b st h)
theorem T_hit {α : Type} {g : Nat → Option α → Option α} (hk : ∀ h st, ¬ st = none → ¬ g h st = none) {x : Nat} (hx : ∀ st, ¬ g x st = none) : ∀ (k b : Nat) (st : Option α), b ≤ x → x < b + k → ¬ ps_fb g k b st = none
  | 0, b, st, h1, h2 => by omega
  | k + 1, b, st, h1, h2 => by
    rw [ps_fb_s]
    by_cases e : b = x
    · subst e; exact T_keep hk k _ _ (hx st)
    · exact T_hit hk hx k (b + 1) _ (by omega) (by omega)
theorem pw_some {E : List Nat → Nat × Nat} {n : Nat} : ∀ (m : Nat) (P : Nat → Bool) (w : List Nat) (st : Option (List Nat)), (pw_as P 0 n).length = m → ¬ pw_T E n m P w st = none
  | 0, P, w, st, _ => by
    unfold pw_T pw_up
    rcases st with _ | v
    · simp
    · show ¬ (if _ then _ else _) = none
      split <;> simp
  | m + 1, P, w, st, hl => by
    have sub : ∀ h, P h = true → h < n → ∀ st, ¬ pw_T E n m (pw_cl P h) (w ++ [h]) st = none := fun h hp hn st => pw_some m _ _ _ (by have := as_len hn hp; omega)
    have hm : ∃ x, x ∈ pw_as P 0 n := List.exists_mem_of_length_pos (by omega)
    obtain ⟨x, hx⟩ := hm
    have hx' := as_mem n 0 hx
    -- those behind n don't come
    have cg : ∀ (k b : Nat) (st : Option (List Nat)), b + k = n → ps_fb (fun h st => bif P h then pw_T E n m (pw_cl P h) (w ++ [h]) st else st) k b st = ps_fb (fun h st => bif P h && decide (h < n) then pw_T E n m (pw_cl P h) (w ++ [h]) st else st) k b st := by
      intro k
      induction k with
      | zero => intro b st _; rfl
      | succ k ih =>
        intro b st hb
        rw [ps_fb_s, ps_fb_s, ih (b + 1) _ (by omega), decide_eq_true (show b < n by omega), Bool.and_true]
    unfold pw_T
    rw [cg n 0 st (by omega)]
    refine T_hit (fun h st hst => ?_) (x := x) (fun st => ?_) n 0 st (by omega) (by omega)
    · by_cases c : P h = true ∧ h < n
      · rw [c.1, decide_eq_true c.2]; exact sub h c.1 c.2 st
      · have : (P h && decide (h < n)) = false := by
          cases e : P h with
          | false => rfl
          | true => rw [decide_eq_false (fun q => c ⟨e, q⟩)]; rfl
        rw [this]; exact hst
    · rw [hx'.2.2, decide_eq_true (show x < n by omega)]
      exact sub x hx'.2.2 (by omega) st
/-- the day of a row -/
def pw_day (pl rd : Nat → Nat) (tm : Nat → Nat → Bool) (p0 t0 : Nat) (v : List Nat) (i : Nat) : Nat := t0 + (pw_ev pl rd tm p0 0 0 (v.take (i + 1))).2.1 - 1
def pw_dg (w : List Nat) : Nat := w.foldl (fun a h => 10 * a + h) 0
theorem dg_app {w : List Nat} {h : Nat} : pw_dg (w ++ [h]) = 10 * pw_dg w + h := by unfold pw_dg; rw [List.foldl_append]; rfl
theorem dg_bd : ∀ (k : Nat) (w : List Nat), w.length = k → (∀ x ∈ w, x < 10) → pw_dg w < 10 ^ k
  | 0, w, h, _ => by rw [List.eq_nil_of_length_eq_zero h]; decide
  | k + 1, w, h, hx => by
    obtain ⟨u, x, rfl⟩ : ∃ u x, w = u ++ [x] := ⟨w.dropLast, w.getLast (by intro e; rw [e] at h; simp at h), (List.dropLast_concat_getLast _).symm⟩
    rw [List.length_append] at h
    have h' : u.length + 1 = k + 1 := h
    have ih := dg_bd k u (by omega) (fun y hy => hx y (List.mem_append_left _ hy))
    have := hx x (List.mem_append_right _ (List.mem_singleton.mpr rfl))
    rw [dg_app, Nat.pow_succ]; omega
theorem day_at {pl rd : Nat → Nat} {tm : Nat → Nat → Bool} {p0 t0 : Nat} {w t : List Nat} {h : Nat} : pw_day pl rd tm p0 t0 (w ++ h :: t) w.length = t0 + ((pw_ev pl rd tm p0 0 0 w).2.1 + rd (10 * (pw_ev pl rd tm p0 0 0 w).1 + pl h)) := by
  have e : (w ++ h :: t).take (w.length + 1) = w ++ [h] := by
    rw [List.take_append, List.take_of_length_le (by omega), show w.length + 1 - w.length = 1 by omega]; rfl
  unfold pw_day
  rw [e, ev_app]
  show t0 + ((pw_ev pl rd tm p0 0 0 w).2.1 + rd (10 * (pw_ev pl rd tm p0 0 0 w).1 + pl h) + 1) - 1 = _
  omega
/-- rows that hold a way -/
def pw_row (f g : Nat → Int32) (pl rd : Nat → Nat) (tm : Nat → Nat → Bool) (p0 t0 n : Nat) (v : List Nat) : Prop := ∀ i x, i < n → v[i]? = some x → f i = Int32.ofNat x ∧ g i = Int32.ofNat (pw_day pl rd tm p0 t0 v i)
section
variable {d L : Nat} {b : Bool} {J : Nat → Nat → Int64} {I0 : Nat → Nat → Int32} {p0 t0 M NH : Nat} {pl rd : Nat → Nat} {due : Nat → Int32} {tm : Nat → Nat → Bool} {x2 x3 : Int32} {Q : Int32 → Int64 → pm_H → Prop}
/-- the reference's rows -/
theorem pr_rows (hN : NH ≤ 8) (hM : M ≤ 7) (p9 : p0 ≤ 9) (h0 : t0 ≤ 3599) (pl9 : ∀ h, pl h ≤ 9) (rd20 : ∀ k, rd k ≤ 20) (ep : ∀ h, h < NH → I0 84 h = Int32.ofNat (pl h)) (er : ∀ k, k < 100 → I0 81 k = Int32.ofNat (rd k)) {v : List Nat} (lv : v.length = M) (vn : ∀ x ∈ v, x < NH)
    (e76 : I0 79 76 = Int32.ofNat M) (e143 : pw_h (I0 143) v)
    (hQ : ∀ (I : Nat → Nat → Int32) (x4 x5 x7 : Int32) (x8 : Option Int32), (∀ r, ¬ r = 144 → ¬ r = 145 → ¬ r = 146 → ¬ r = 147 → I r = I0 r) → pw_row (I 144) (I 145) pl rd tm p0 t0 M v → pw_row (I 146) (I 147) pl rd tm p0 t0 M v → pm_wp pm_code pm_meta d 264 178 ([.ref 79, .int (Int32.ofNat p0), .int x2, .int x3, .int x4, .int x5, .int (Int32.ofNat (pw_dg v)), .int x7, pm_vl x8], [], (pm_Gb L b, I, J)) Q) :
    pm_wp pm_code pm_meta d 264 73 ([.ref 79, .int (Int32.ofNat p0), .int x2, .int x3, .int (Int32.ofNat p0), .int (Int32.ofNat t0), .int 0, .int 0, pm_unset], [], (pm_Gb L b, I0, J)) Q := by
  have bd := fun w => ev_bd (tm := tm) pl9 rd20 w p0 0 0 p9
  have i8 : ∀ a, a < 8 → pm_in (Int32.ofNat a) 8 = true := fun a h => pi_in (on_n (by omega)).1 (by rw [(on_n (by omega)).2.2]; omega)
  have tn : ∀ a, a < 8 → (Int32.ofNat a).toNatClampNeg = a := fun a h => (on_n (by omega)).2.1
  have key : ∀ (t w : List Nat) (I : Nat → Nat → Int32) (x8 : Option Int32), v = w ++ t → (∀ r, ¬ r = 144 → ¬ r = 145 → ¬ r = 146 → ¬ r = 147 → I r = I0 r) → pw_row (I 144) (I 145) pl rd tm p0 t0 w.length v → pw_row (I 146) (I 147) pl rd tm p0 t0 w.length v →
      pm_wp pm_code pm_meta d 264 73 ([.ref 79, .int (Int32.ofNat p0), .int x2, .int x3, .int (Int32.ofNat (pw_ev pl rd tm p0 0 0 w).1), .int (Int32.ofNat (t0 + (pw_ev pl rd tm p0 0 0 w).2.1)), .int (Int32.ofNat (pw_dg w)), .int (Int32.ofNat w.length), pm_vl x8], [], (pm_Gb L b, I, J)) Q := by
    intro t
    induction t with
    | nil =>
      intro w I x8 e fr r1 r2
      rw [List.append_nil] at e
      subst e
      have c : I 79 76 ≤ Int32.ofNat v.length := by rw [fr 79 (by decide) (by decide) (by decide) (by decide), e76, lv]; exact Int32.le_refl _
      rw [lv] at r1 r2
      have z := hQ I (Int32.ofNat (pw_ev pl rd tm p0 0 0 v).1) (Int32.ofNat (t0 + (pw_ev pl rd tm p0 0 0 v).2.1)) (Int32.ofNat v.length) x8 fr r1 r2
      rcases x8 with _ | x8
      · rw [pm_vl_n] at z ⊢
        rw [pb_264_73, if_pos c]; exact z
      · rw [pm_vl_s] at z ⊢
        rw [pb_264_73b, if_pos c]; exact z
    | cons h t ih =>
      intro w I x8 e fr r1 r2
      have ll : w.length + (t.length + 1) = M := by rw [← lv, e, List.length_append, List.length_cons]
      have hn : h < NH := vn h (by rw [e]; simp)
      have c : ¬ I 79 76 ≤ Int32.ofNat w.length := by rw [fr 79 (by decide) (by decide) (by decide) (by decide), e76, on_le (by omega) (by omega)]; omega
      have g143 : I 143 w.length = Int32.ofNat h := by rw [fr 143 (by decide) (by decide) (by decide) (by decide)]; exact e143 _ _ (by rw [e]; exact ls_at)
      obtain ⟨c1, c2, c3⟩ := bd w
      have pp := pl9 h
      have rr := rd20 (10 * (pw_ev pl rd tm p0 0 0 w).1 + pl h)
      have dgb := dg_bd w.length w rfl (fun x hx => by have := vn x (by rw [e]; exact List.mem_append_left _ hx); omega)
      have dgc : 10 ^ w.length ≤ 10 ^ 6 := Nat.pow_le_pow_right (by decide) (by omega)
      have dgd : (10 : Nat) ^ 6 = 1000000 := by decide
      have n84 : ∀ (a1 a2 a3 a4 : Nat → Nat → Int32) , True := fun _ _ _ _ => trivial
      have g84 : I 84 h = Int32.ofNat (pl h) := by rw [fr 84 (by decide) (by decide) (by decide) (by decide)]; exact ep h hn
      have ei : 10 * Int32.ofNat (pw_ev pl rd tm p0 0 0 w).1 + Int32.ofNat (pl h) = Int32.ofNat (10 * (pw_ev pl rd tm p0 0 0 w).1 + pl h) := by rw [show (10 : Int32) = Int32.ofNat 10 from rfl, on_mul, hb_add _ _ (by omega) (by omega)]
      have eg : 10 * Int32.ofNat (pw_dg w) + Int32.ofNat h = Int32.ofNat (pw_dg (w ++ [h])) := by rw [dg_app, show (10 : Int32) = Int32.ofNat 10 from rfl, on_mul, hb_add _ _ (by omega) (by omega)]
      have gi := on_n (a := 10 * (pw_ev pl rd tm p0 0 0 w).1 + pl h) (by omega)
      have i100 : pm_in (Int32.ofNat (10 * (pw_ev pl rd tm p0 0 0 w).1 + pl h)) 100 = true := pi_in gi.1 (by rw [gi.2.2]; omega)
      have g81 : I 81 (10 * (pw_ev pl rd tm p0 0 0 w).1 + pl h) = Int32.ofNat (rd (10 * (pw_ev pl rd tm p0 0 0 w).1 + pl h)) := by rw [fr 81 (by decide) (by decide) (by decide) (by decide)]; exact er _ (by omega)
      have ed : Int32.ofNat (t0 + (pw_ev pl rd tm p0 0 0 w).2.1) + Int32.ofNat (rd (10 * (pw_ev pl rd tm p0 0 0 w).1 + pl h)) = Int32.ofNat (t0 + ((pw_ev pl rd tm p0 0 0 w).2.1 + rd (10 * (pw_ev pl rd tm p0 0 0 w).1 + pl h))) := by rw [hb_add _ _ (by omega) (by omega), Nat.add_assoc]
      have evs : (pw_ev pl rd tm p0 0 0 (w ++ [h])) = (pl h, (pw_ev pl rd tm p0 0 0 w).2.1 + rd (10 * (pw_ev pl rd tm p0 0 0 w).1 + pl h) + 1, (pw_ev pl rd tm p0 0 0 w).2.2 + (bif tm h ((pw_ev pl rd tm p0 0 0 w).2.1 + rd (10 * (pw_ev pl rd tm p0 0 0 w).1 + pl h)) then 1 else 0)) := by rw [ev_app]; rfl
      have el : (w ++ [h]).length = w.length + 1 := by rw [List.length_append]; rfl
      have hI : ∀ y : Int32, pm_wp pm_code pm_meta d 264 73 ([.ref 79, .int (Int32.ofNat p0), .int x2, .int x3, .int (Int32.ofNat (pl h)), .int (Int32.ofNat (t0 + ((pw_ev pl rd tm p0 0 0 w).2.1 + rd (10 * (pw_ev pl rd tm p0 0 0 w).1 + pl h)) + 1)), .int (Int32.ofNat (pw_dg (w ++ [h]))), .int (Int32.ofNat (w.length + 1)), .int y], [], (pm_Gb L b, pm_u (pm_u (pm_u (pm_u I 144 w.length (Int32.ofNat h)) 145 w.length (Int32.ofNat (t0 + ((pw_ev pl rd tm p0 0 0 w).2.1 + rd (10 * (pw_ev pl rd tm p0 0 0 w).1 + pl h))))) 146 w.length (Int32.ofNat h)) 147 w.length (Int32.ofNat (t0 + ((pw_ev pl rd tm p0 0 0 w).2.1 + rd (10 * (pw_ev pl rd tm p0 0 0 w).1 + pl h)))), J)) Q := fun y => by
        have z := ih (w ++ [h]) (pm_u (pm_u (pm_u (pm_u I 144 w.length (Int32.ofNat h)) 145 w.length (Int32.ofNat (t0 + ((pw_ev pl rd tm p0 0 0 w).2.1 + rd (10 * (pw_ev pl rd tm p0 0 0 w).1 + pl h))))) 146 w.length (Int32.ofNat h)) 147 w.length (Int32.ofNat (t0 + ((pw_ev pl rd tm p0 0 0 w).2.1 + rd (10 * (pw_ev pl rd tm p0 0 0 w).1 + pl h))))) (some y) (by rw [e, List.append_assoc]; rfl) (fun r q1 q2 q3 q4 => by rw [pm_u_row, if_neg q4, pm_u_row, if_neg q3, pm_u_row, if_neg q2, pm_u_row, if_neg q1]; exact fr r q1 q2 q3 q4) (fun i x hi hx => ?_) (fun i x hi hx => ?_)
        · rw [evs, el, pm_vl_s] at z
          exact z
        · simp only [pm_u_row, show ¬ (144 : Nat) = 147 by decide, show ¬ (144 : Nat) = 146 by decide, show ¬ (144 : Nat) = 145 by decide, show ¬ (145 : Nat) = 147 by decide, show ¬ (145 : Nat) = 146 by decide, show ¬ (145 : Nat) = 144 by decide, if_false, if_true, pm_w_at]
          by_cases ei : i = w.length
          · subst ei
            rw [if_pos rfl, if_pos rfl]
            rw [e, ls_at] at hx
            have hx' := Option.some.inj hx
            rw [e, day_at, hx']
            exact ⟨rfl, rfl⟩
          · rw [if_neg ei, if_neg ei]
            exact r1 i x (by omega) hx
        · simp only [pm_u_row, show ¬ (146 : Nat) = 147 by decide, show ¬ (146 : Nat) = 145 by decide, show ¬ (146 : Nat) = 144 by decide, show ¬ (147 : Nat) = 146 by decide, show ¬ (147 : Nat) = 145 by decide, show ¬ (147 : Nat) = 144 by decide, if_false, if_true, pm_w_at]
          by_cases ei : i = w.length
          · subst ei
            rw [if_pos rfl, if_pos rfl]
            rw [e, ls_at] at hx
            have hx' := Option.some.inj hx
            rw [e, day_at, hx']
            exact ⟨rfl, rfl⟩
          · rw [if_neg ei, if_neg ei]
            exact r2 i x (by omega) hx
      have r84 : ∀ u1 u2 u3 u4 : Int32, pm_u (pm_u (pm_u (pm_u I 144 w.length u1) 145 w.length u2) 146 w.length u3) 147 w.length u4 84 = I 84 := fun u1 u2 u3 u4 => by
        rw [pm_u_row, if_neg (by decide), pm_u_row, if_neg (by decide), pm_u_row, if_neg (by decide), pm_u_row, if_neg (by decide)]
      rcases x8 with _ | x8
      · rw [pm_vl_n, pb_264_73, if_neg c, pb_264_82, tn _ (by omega), g143, tn h (by omega), r84, g84, ei, gi.2.1, g81, ed, eg, on_s, on_s]
        exact ⟨i8 _ (by omega), i8 _ (by omega), i100, i8 _ (by omega), i8 _ (by omega), i8 _ (by omega), i8 _ (by omega), i8 _ (by omega), hI _⟩
      · rw [pm_vl_s, pb_264_73b, if_neg c, pb_264_82b, tn _ (by omega), g143, tn h (by omega), r84, g84, ei, gi.2.1, g81, ed, eg, on_s, on_s]
        exact ⟨i8 _ (by omega), i8 _ (by omega), i100, i8 _ (by omega), i8 _ (by omega), i8 _ (by omega), i8 _ (by omega), i8 _ (by omega), hI _⟩
  have z := key v [] I0 none rfl (fun _ _ _ _ _ => rfl) (fun i x hi _ => absurd hi (Nat.not_lt_zero _)) (fun i x hi _ => absurd hi (Nat.not_lt_zero _))
  exact z
/-- the reference finds the ride -/
theorem pr_findRide (hN : NH ≤ 8) (h1 : 1 ≤ M) (hM : M ≤ 7) (p9 : p0 ≤ 9) (h0 : t0 ≤ 3599) (pl9 : ∀ h, pl h ≤ 9) (rd20 : ∀ k, rd k ≤ 20) (htm : ∀ h c, tm h c = pw_tm due t0 h c) (e0 : I0 80 0 = Int32.ofNat t0) (e2 : I0 80 2 = Int32.ofNat NH) (ep : ∀ h, h < NH → I0 84 h = Int32.ofNat (pl h)) (er : ∀ k, k < 100 → I0 81 k = Int32.ofNat (rd k)) (ed : ∀ h, h < NH → I0 90 h = due h)
    {S : Nat} (hS : S < 2 ^ NH) (hp : pf_pc 24 S = M)
    (hQ : ∀ I, pw_fq M I0 I → pw_rs (pw_E pl rd tm p0) M NH (I 79) (I 143) (pw_T (pw_E pl rd tm p0) NH M (fun i => S.testBit i) [] none) → Q 0 0 (pm_Gb L b, I, J)) :
    pm_wc pm_code pm_meta (d + 1) 263 [.ref 79, .int (Int32.ofNat p0), .int (Int32.ofNat S)] (pm_Gb L b, I0, J) Q := by
  have i8 : ∀ a, a < 8 → pm_in (Int32.ofNat a) 8 = true := fun a h => pi_in (on_n (by omega)).1 (by rw [(on_n (by omega)).2.2]; omega)
  have s24 : S < 16777216 := Nat.lt_of_lt_of_le hS (Nat.le_trans (Nat.pow_le_pow_right (by decide) (show NH ≤ 24 by omega)) (by decide))
  have lz := as_pcn (S := S) (n := NH) (by omega) hS
  rw [hp] at lz
  have coll : ∀ (k j : Nat) (I : Nat → Nat → Int32), j + k = NH → (∀ r, ¬ r = 79 → ¬ r = 142 → I r = I0 r) → (∀ i, ¬ i = 76 → I 79 i = I0 79 i) → I 79 76 = Int32.ofNat (pw_as (fun i => S.testBit i) 0 j).length → pw_h (I 142) (pw_as (fun i => S.testBit i) 0 j) →
      pm_wp pm_code pm_meta (d + 1) 263 7 ([.ref 79, .int (Int32.ofNat p0), .int (Int32.ofNat S), .int (Int32.ofNat j), pm_unset, pm_unset, pm_unset, pm_unset], [], (pm_Gb L b, I, J)) Q := by
    intro k
    induction k with
    | zero =>
      intro j I hj fr f2 a76 hh
      have ej : j = NH := by omega
      subst ej
      rw [lz] at a76
      rw [pb_263_7, fr 80 (by decide) (by decide), e2, if_pos (Int32.le_refl _), pb_263_52, pb_263_64, if_neg (by decide), pb_263_68]
      have bits_pw : ∀ x, x ∈ pw_as (fun i => S.testBit i) 0 j → x < 1000 := fun x hx => by have := as_mem j 0 hx; omega
      refine pr_chain (d := d) (st := none) (S := S) (w := []) hN hM p9 h0 pl9 rd20 htm e0 ep er ed M _ ?_ hS hp (fun x hx => absurd hx (by simp)) ⟨fun k q1 q2 q3 => ?_, fun i q1 q2 q3 => ?_, ?_⟩ ?_ ⟨?_, ?_⟩ (fun I' x4 x5 x6 x7 f' h' s' => ?_)
      · show 0 + M = M; omega
      · rw [pm_u_row, if_neg q1, pm_u_row, if_neg q1]; exact fr k q1 q2
      · rw [pm_u_row, if_pos rfl, pm_w_ne q3, pm_u_row, if_pos rfl, pm_w_ne q2]; exact f2 i q1
      · rw [pm_u_row, if_pos rfl, pm_w_ne (by decide), pm_u_row, if_pos rfl, pm_w_ne (by decide)]; exact a76
      · rw [pm_u_row, if_neg (by decide), pm_u_row, if_neg (by decide)]; exact hh
      · rw [pm_u_row, if_pos rfl, pm_w_ne (by decide), pm_u_at]
      · rw [pm_u_at]
      · rw [pb_263_245]
        refine pr_goesUp0 (d := d) h1 hM f'.2.2 (dn_ls (D := pw_as (fun i => S.testBit i) 0 j) h' (as_pw j 0) bits_pw lz.symm) ?_
        rw [pb_263_249, pb_263_64b, if_pos rfl, pb_263_253b]
        exact hQ I' f' s'
    | succ k ih =>
      intro j I hj fr f2 a76 hh
      have sn : pw_as (fun i => S.testBit i) 0 (j + 1) = pw_as (fun i => S.testBit i) 0 j ++ pw_as (fun i => S.testBit i) j 1 := by
        have z := as_add (P := fun i => S.testBit i) j 0 1
        rw [Nat.zero_add] at z; exact z
      have all := as_add (P := fun i => S.testBit i) (j + 1) 0 (NH - (j + 1))
      rw [show j + 1 + (NH - (j + 1)) = NH by omega] at all
      have lall := congrArg List.length all
      rw [lz, List.length_append] at lall
      rw [pb_263_7, fr 80 (by decide) (by decide), e2, if_neg (by rw [on_le (by omega) (by omega)]; omega), pb_263_17]
      cases hb : S.testBit j with
      | false =>
        rw [if_neg (by rw [bt_nat (S := S) (k := j) s24 (by omega), hb]; decide), pb_263_46, on_s]
        have e1 : pw_as (fun i => S.testBit i) j 1 = [] := as_0 (P := fun i => S.testBit i) (k := 0) hb
        rw [e1, List.append_nil] at sn
        exact ih (j + 1) I (by omega) fr f2 (by rw [sn]; exact a76) (by rw [sn]; exact hh)
      | true =>
        have e1 : pw_as (fun i => S.testBit i) j 1 = [j] := as_1 (P := fun i => S.testBit i) (k := 0) hb
        rw [e1] at sn
        rw [sn, List.length_append] at lall
        have l1 : [j].length = 1 := rfl
        have gl := on_n (a := (pw_as (fun i => S.testBit i) 0 j).length) (by omega)
        rw [if_pos (by rw [bt_nat (S := S) (k := j) s24 (by omega), hb]), pb_263_26, a76, gl.2.1]
        refine ⟨i8 _ (by omega), ?_⟩
        rw [show pm_u I 142 (pw_as (fun i => S.testBit i) 0 j).length (Int32.ofNat j) 79 76 = Int32.ofNat (pw_as (fun i => S.testBit i) 0 j).length by rw [pm_u_row, if_neg (by decide)]; exact a76, on_s, pb_263_46, on_s]
        refine ih (j + 1) _ (by omega) (fun r q1 q2 => ?_) (fun i q1 => ?_) ?_ ?_
        · rw [pm_u_row, if_neg q1, pm_u_row, if_neg q2]; exact fr r q1 q2
        · rw [pm_u_row, if_pos rfl, pm_w_ne q1, pm_u_row, if_neg (by decide)]; exact f2 i q1
        · rw [pm_u_at, sn, List.length_append]; rfl
        · rw [pm_u_row, if_neg (by decide), pm_u_row, if_pos rfl, sn]; exact h_snoc hh
  rw [pb_263_0]
  exact coll NH 0 _ (by omega) (fun r q1 q2 => by rw [pm_u_row, if_neg q1]) (fun i q1 => by rw [pm_u_row, if_pos rfl, pm_w_ne q1]) (by rw [pm_u_at]; rfl) (fun i x hx => absurd hx (by simp [pw_as]))
end

