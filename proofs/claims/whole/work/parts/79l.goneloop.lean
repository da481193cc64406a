/-! From which day the rights are gone: the class's loop. -/
/-- the days behind the rights below q -/
def pf_gr (B : Int32 → Int32) (leans : Nat → Int32) : Nat → (Nat → Int32)
  | 0 => fun _ => -1
  | q + 1 => pm_w (pf_gr B leans q) q (pf_e (B (Int32.ofNat q)) (if 0 ≤ leans q then pf_gr B leans q (leans q).toNatClampNeg else -1))
theorem gr_succ (B : Int32 → Int32) (leans : Nat → Int32) (q : Nat) : pf_gr B leans (q + 1) = pm_w (pf_gr B leans q) q (pf_e (B (Int32.ofNat q)) (if 0 ≤ leans q then pf_gr B leans q (leans q).toNatClampNeg else -1)) := rfl
/-- the column of the class behind m rights from q on -/
def pf_cr (g : Nat → Nat → Int32) : Nat → Nat → (Nat → Int32) → (Nat → Int32)
  | 0, _, c => c
  | m + 1, q, c => pf_cr g m (q + 1) (pm_w c (16 * q + 8) (pm_no (g (q + 1) q)))
/-- how many are gone -/
def pf_gm (g : Nat → Nat → Int32) : Nat → Nat → Int32 → Int32
  | 0, _, x => x
  | m + 1, q, x => pf_gm g m (q + 1) (x + (if g (q + 1) q < 0 then 0 else 1))
theorem px_goneL {d L : Nat} {b : Bool} {J : Nat → Nat → Int64} {nn nP nH nT : Int32} {kind house person amount frr to is leans proved seals told wit witOf : Nat → Int32} {todayh : Int32} {place order coin fear fell stripped due roll rollday had : Nat → Int32} {born died : Nat → Int32} {n today : Int32} {act rules fr till ops sort kinds rank rops rend opis opof : Nat → Int32} {Q : Int32 → Int64 → pm_H → Prop} : ∀ (m : Nat) (q many : Int32) (D : Option (Int32 × Int32 × Int32)) (I : Nat → Nat → Int32)
    (h : pg_ver (I 20) (I 21) (I 22) (I 23) (I 24) (I 25) n today act rules fr till ops sort kinds rank rops rend opis opof)
    (hr : pg_rig (I 18) (I 19) nn nP nH nT kind house person amount frr to is leans proved seals told wit witOf)
    (hh : pg_hou (I 14) (I 15) nH todayh place order coin fear fell stripped due roll rollday had)
    (hp : pg_per (I 12) (I 13) nP born died) (hc : ∀ j, I 2 j = pm_a2.getD j 0) (hg : ∀ j : Nat, j < q.toNatClampNeg → I 19 (16 * j + 8) = pm_no (pf_gr (fun q : Int32 => (pf_own (fell (house q.toNatClampNeg).toNatClampNeg) (pf_rf sort rank 0 (pf_tl (pf_ans order house amount kind is fell person born died q) act rules fr till sort kinds rops rend opis opof n (fell (house q.toNatClampNeg).toNatClampNeg) (kind q.toNatClampNeg) 0 4)) (pf_dis kind is proved nn q))) leans q.toNatClampNeg j)) (q0 : 0 ≤ q) (hm : q.toNatClampNeg + m = nn.toNatClampNeg),
    (pm_wp pm_code pm_meta (d + 6) 52 4 ([.ref 36, .int many, .int q, pm_vl (D.map (·.1)), pm_vl (D.map (·.2.1)), pm_vl (D.map (·.2.2))], [], (pm_Gb L b, I, J)) Q ↔
      Q (pf_gm (pf_gr (fun q : Int32 => (pf_own (fell (house q.toNatClampNeg).toNatClampNeg) (pf_rf sort rank 0 (pf_tl (pf_ans order house amount kind is fell person born died q) act rules fr till sort kinds rops rend opis opof n (fell (house q.toNatClampNeg).toNatClampNeg) (kind q.toNatClampNeg) 0 4)) (pf_dis kind is proved nn q))) leans) m q.toNatClampNeg many) 0 (pm_Gb L b, pm_r I 19 (pf_cr (pf_gr (fun q : Int32 => (pf_own (fell (house q.toNatClampNeg).toNatClampNeg) (pf_rf sort rank 0 (pf_tl (pf_ans order house amount kind is fell person born died q) act rules fr till sort kinds rops rend opis opof n (fell (house q.toNatClampNeg).toNatClampNeg) (kind q.toNatClampNeg) 0 4)) (pf_dis kind is proved nn q))) leans) m q.toNatClampNeg (I 19)), J)) := by
  intro m
  induction m with
  | zero =>
    intro q many D I h hr hh hp hc hg q0 hm
    have t1 := pi_tni q0
    have t2 := pi_tni (rig_n hr).1
    have hi : nn ≤ q := by rw [pi_le]; omega
    cases D with
    | none => simp only [Option.map, pm_vl_n]; rw [pb_52_4, hr.1.2, if_pos hi, pb_52_154]; simp only [pf_gm, pf_cr, pm_r_self]
    | some D => simp only [Option.map, pm_vl_s]; rw [pb_52_4b, hr.1.2, if_pos hi, pb_52_154b]; simp only [pf_gm, pf_cr, pm_r_self]
  | succ m ih =>
    intro q many D I h hr hh hp hc hg q0 hm
    have hn := rig_n hr
    have e24 : (24 : Int32).toInt = 24 := rfl
    have t1 := pi_tni q0
    have t2 := pi_tni hn.1
    have t3 := pi_le.mp hn.2
    have q1 : q < nn := by rw [pi_lt]; omega
    have e5 : (q + 1).toNatClampNeg = q.toNatClampNeg + 1 := pi_tn1 q0 (by rw [pi_lt]; have e : (2147483647 : Int32).toInt = 2147483647 := rfl; omega)
    have e6 : 0 ≤ q + 1 := by rw [pi_le, pi_0, pi_add (by rw [pi_1]; omega) (by rw [pi_1]; omega), pi_1]; omega
    refine (px_gone1 (D := D) (many := many) h hr hh hp hc q0 q1 hg).trans ?_
    have ev : pf_gr (fun q : Int32 => (pf_own (fell (house q.toNatClampNeg).toNatClampNeg) (pf_rf sort rank 0 (pf_tl (pf_ans order house amount kind is fell person born died q) act rules fr till sort kinds rops rend opis opof n (fell (house q.toNatClampNeg).toNatClampNeg) (kind q.toNatClampNeg) 0 4)) (pf_dis kind is proved nn q))) leans (q.toNatClampNeg + 1) q.toNatClampNeg = pf_e (pf_own (fell (house q.toNatClampNeg).toNatClampNeg) (pf_rf sort rank 0 (pf_tl (pf_ans order house amount kind is fell person born died q) act rules fr till sort kinds rops rend opis opof n (fell (house q.toNatClampNeg).toNatClampNeg) (kind q.toNatClampNeg) 0 4)) (pf_dis kind is proved nn q)) (if 0 ≤ leans q.toNatClampNeg then pf_gr (fun q : Int32 => (pf_own (fell (house q.toNatClampNeg).toNatClampNeg) (pf_rf sort rank 0 (pf_tl (pf_ans order house amount kind is fell person born died q) act rules fr till sort kinds rops rend opis opof n (fell (house q.toNatClampNeg).toNatClampNeg) (kind q.toNatClampNeg) 0 4)) (pf_dis kind is proved nn q))) leans q.toNatClampNeg (leans q.toNatClampNeg).toNatClampNeg else -1) := by
      rw [gr_succ, pm_w_at, if_pos rfl, pi_ofNat q0]
    rw [← ev]
    have o : ∀ k, ¬ k = 19 → pm_u I 19 (16 * q.toNatClampNeg + 8) (pm_no (pf_gr (fun q : Int32 => (pf_own (fell (house q.toNatClampNeg).toNatClampNeg) (pf_rf sort rank 0 (pf_tl (pf_ans order house amount kind is fell person born died q) act rules fr till sort kinds rops rend opis opof n (fell (house q.toNatClampNeg).toNatClampNeg) (kind q.toNatClampNeg) 0 4)) (pf_dis kind is proved nn q))) leans (q.toNatClampNeg + 1) q.toNatClampNeg)) k = I k := fun k hk => pm_u_off hk
    have o19 : pm_u I 19 (16 * q.toNatClampNeg + 8) (pm_no (pf_gr (fun q : Int32 => (pf_own (fell (house q.toNatClampNeg).toNatClampNeg) (pf_rf sort rank 0 (pf_tl (pf_ans order house amount kind is fell person born died q) act rules fr till sort kinds rops rend opis opof n (fell (house q.toNatClampNeg).toNatClampNeg) (kind q.toNatClampNeg) 0 4)) (pf_dis kind is proved nn q))) leans (q.toNatClampNeg + 1) q.toNatClampNeg)) 19 = pm_w (I 19) (16 * q.toNatClampNeg + 8) (pm_no (pf_gr (fun q : Int32 => (pf_own (fell (house q.toNatClampNeg).toNatClampNeg) (pf_rf sort rank 0 (pf_tl (pf_ans order house amount kind is fell person born died q) act rules fr till sort kinds rops rend opis opof n (fell (house q.toNatClampNeg).toNatClampNeg) (kind q.toNatClampNeg) 0 4)) (pf_dis kind is proved nn q))) leans (q.toNatClampNeg + 1) q.toNatClampNeg)) := by rw [pm_u_row, if_pos rfl]
    have z := ih (q + 1) (many + (if pf_gr (fun q : Int32 => (pf_own (fell (house q.toNatClampNeg).toNatClampNeg) (pf_rf sort rank 0 (pf_tl (pf_ans order house amount kind is fell person born died q) act rules fr till sort kinds rops rend opis opof n (fell (house q.toNatClampNeg).toNatClampNeg) (kind q.toNatClampNeg) 0 4)) (pf_dis kind is proved nn q))) leans (q.toNatClampNeg + 1) q.toNatClampNeg < 0 then 0 else 1)) (some (house q.toNatClampNeg, pm_no (pf_gr (fun q : Int32 => (pf_own (fell (house q.toNatClampNeg).toNatClampNeg) (pf_rf sort rank 0 (pf_tl (pf_ans order house amount kind is fell person born died q) act rules fr till sort kinds rops rend opis opof n (fell (house q.toNatClampNeg).toNatClampNeg) (kind q.toNatClampNeg) 0 4)) (pf_dis kind is proved nn q))) leans (q.toNatClampNeg + 1) q.toNatClampNeg), pm_no (leans q.toNatClampNeg))) (pm_u I 19 (16 * q.toNatClampNeg + 8) (pm_no (pf_gr (fun q : Int32 => (pf_own (fell (house q.toNatClampNeg).toNatClampNeg) (pf_rf sort rank 0 (pf_tl (pf_ans order house amount kind is fell person born died q) act rules fr till sort kinds rops rend opis opof n (fell (house q.toNatClampNeg).toNatClampNeg) (kind q.toNatClampNeg) 0 4)) (pf_dis kind is proved nn q))) leans (q.toNatClampNeg + 1) q.toNatClampNeg)))
      (by rw [o 20 (by decide), o 21 (by decide), o 22 (by decide), o 23 (by decide), o 24 (by decide), o 25 (by decide)]; exact h)
      (by rw [o 18 (by decide), o19]; exact rig_col8 hr)
      (by rw [o 14 (by decide), o 15 (by decide)]; exact hh)
      (by rw [o 12 (by decide), o 13 (by decide)]; exact hp)
      (by rw [o 2 (by decide)]; exact hc)
      (by
        intro j hj
        rw [e5] at hj ⊢
        rw [o19]
        by_cases hjq : j = q.toNatClampNeg
        · subst hjq; rw [pm_w_at, if_pos rfl]
        · rw [pm_w_ne (by omega), hg j (by omega)]
          rw [gr_succ, pm_w_ne hjq])
      e6 (by omega)
    simp only [Option.map, pm_vl_s, o19] at z
    refine z.trans ?_
    rw [e5]
    have er : ∀ c, pm_r (pm_u I 19 (16 * q.toNatClampNeg + 8) (pm_no (pf_gr (fun q : Int32 => (pf_own (fell (house q.toNatClampNeg).toNatClampNeg) (pf_rf sort rank 0 (pf_tl (pf_ans order house amount kind is fell person born died q) act rules fr till sort kinds rops rend opis opof n (fell (house q.toNatClampNeg).toNatClampNeg) (kind q.toNatClampNeg) 0 4)) (pf_dis kind is proved nn q))) leans (q.toNatClampNeg + 1) q.toNatClampNeg))) 19 c = pm_r I 19 c := fun c => by
      funext x j
      unfold pm_r pm_u
      by_cases hx : x = 19
      · simp only [hx, if_true]
      · simp only [hx, if_false, false_and]
    rw [er]
    exact Iff.rfl

