/-! THE CALL read: a whole text, on both sides. -/
theorem cut0 {I S : Nat → Nat → Int32} {r : Nat} {w k : Int32} (ht : pm_ti (I r) w k) (hS : (if 0 ≤ (0 : Int32) ∧ 0 < I r 3 then pm_u I r 3 0 else I) = S) : (∀ s, ¬ s = r → S s = I s) ∧ pm_ti (S r) w k ∧ S r 3 = 0 := by
  have h0 : 0 ≤ I r 3 := ht.2.2.1
  by_cases h : 0 ≤ (0 : Int32) ∧ 0 < I r 3
  · rw [if_pos h] at hS
    subst hS
    refine ⟨fun s hs => by rw [pm_u_row, if_neg hs], ?_, pm_u_at _ _ _ _⟩
    rw [pm_u_row, if_pos rfl]
    exact pm_ti_w ht (Int32.le_refl 0) (Int32.le_trans h0 ht.2.2.2)
  · rw [if_neg h] at hS
    subst hS
    refine ⟨fun _ _ => rfl, ht, ?_⟩
    have : ¬ 0 < I r 3 := fun q => h ⟨Int32.le_refl 0, q⟩
    grind
set_option maxRecDepth 30000 in
theorem byte_and : ∀ v : Nat, v < 256 → (Int32.ofNat v).toInt8.toInt32 &&& 255 = Int32.ofNat v := by decide
def rd_XX (c : Nat → Nat) (n : Nat) (I : Nat → Nat → Int32) : Prop := I 5 1 = 0 ∧ (∀ j, I 6 j = pm_a6.getD j 0) ∧ I 40 1 = Int32.ofNat n ∧ (∀ p, p < n → I 41 p &&& 255 = Int32.ofNat (c p)) ∧ pm_ti (I 42) 3 301 ∧ pm_ti (I 44) 5 10 ∧ pm_ti (I 46) 2 100
def rd_YY (c : Nat → Nat) (n sl : Nat) (I : Nat → Nat → Int32) : Prop := I 79 61 = Int32.ofNat n ∧ (∀ p, p < n → I 138 p = Int32.ofNat (c p)) ∧ I 80 5 = Int32.ofNat sl ∧ sl ≤ 12
def rd_TX (c : Nat → Nat) (n sl : Nat) : Prop :=
  (∃ N ops rs, rd_iv c n N ops rs ∧
    (∀ (d L : Nat) (b : Bool) (I : Nat → Nat → Int32) (J : Nat → Nat → Int64) (Q : Int32 → Int64 → pm_H → Prop), rd_XX c n I → (∀ I0 I', (∀ r, ¬ r = 42 → ¬ r = 43 → I0 r = I r) → rd_tk c n (N + 1) I0 → rd_xr c n N I0 N ops rs I' → Q (-3) 0 (pm_Gb L b, I', J)) → pm_wc pm_code pm_meta (d + 28) 92 [.ref 40] (pm_Gb L b, I, J) Q) ∧
    (∀ (d L : Nat) (b : Bool) (I : Nat → Nat → Int32) (J : Nat → Nat → Int64) (Q : Int32 → Int64 → pm_H → Prop) (x1 : Int32), rd_YY c n sl I → (∀ I' J', rd_rr c n sl (pm_u I 79 69 (Int32.ofNat sl)) J N ops rs I' J' → pm_wp pm_code pm_meta (d + 22) 233 86 ([.ref 79, .int x1], [], (pm_Gb L b, I', J')) Q) → pm_wp pm_code pm_meta (d + 22) 233 16 ([.ref 79, .int x1], [], (pm_Gb L b, I, J)) Q)) ∨
  (∃ N f,
    (∀ (d L : Nat) (b : Bool) (I : Nat → Nat → Int32) (J : Nat → Nat → Int64) (Q : Int32 → Int64 → pm_H → Prop), rd_XX c n I → (∀ I0 I', (∀ r, ¬ r = 42 → ¬ r = 43 → I0 r = I r) → rd_tk c n (N + 1) I0 → rd_yf I0 f I' → Q (Int32.ofNat (rd_s c n f)) 0 (pm_Gb L b, I', J)) → pm_wc pm_code pm_meta (d + 28) 92 [.ref 40] (pm_Gb L b, I, J) Q) ∧
    (∀ (d L : Nat) (b : Bool) (I : Nat → Nat → Int32) (J : Nat → Nat → Int64) (Q : Int32 → Int64 → pm_H → Prop) (x1 : Int32), rd_YY c n sl I → (∀ I' J', rd_zf c n sl (pm_u I 79 69 (Int32.ofNat sl)) J f I' J' → pm_wp pm_code pm_meta (d + 22) 233 86 ([.ref 79, .int x1], [], (pm_Gb L b, I', J')) Q) → pm_wp pm_code pm_meta (d + 22) 233 16 ([.ref 79, .int x1], [], (pm_Gb L b, I, J)) Q))
theorem rd_text {c : Nat → Nat} {n : Nat} (cb : ∀ p, p < n → c p ≤ 255) (n3 : n ≤ 300) (sl : Nat) : rd_TX c n sl := by
  obtain ⟨N, Nn, sN, lN⟩ := rd_N (c := c) (n := n)
  have T : rd_tape c n N := ⟨cb, n3, Nn, sN, lN⟩
  have stX : ∀ (d L : Nat) (b : Bool) (I : Nat → Nat → Int32) (J : Nat → Nat → Int64) (Q : Int32 → Int64 → pm_H → Prop), rd_XX c n I → (∀ I0 I', (∀ r, ¬ r = 42 → ¬ r = 43 → I0 r = I r) → rd_tk c n (N + 1) I0 → rd_xr c n N I0 0 [] [] I' → pm_wp pm_code pm_meta (d + 28) 92 29 ([.ref 40, .int 1, .int (Int32.ofNat 0)], [], (pm_Gb L b, I', J)) Q) → pm_wc pm_code pm_meta (d + 28) 92 [.ref 40] (pm_Gb L b, I, J) Q := fun d L b I J Q ⟨x1, x2, x3, x4, x5, x6, x7⟩ k => by
    rw [pb_92_0]
    refine px_split (d := d + 21) x1 x2 x3 x4 cb n3 x5 Nn sN lN (fun I0 f0 tk => ?_)
    rw [pb_92_4, pt_cut_44]
    generalize hS : (if 0 ≤ (0 : Int32) ∧ 0 < (pm_u I0 40 3 0) 44 3 then pm_u (pm_u I0 40 3 0) 44 3 0 else pm_u I0 40 3 0) = S
    have z44 : pm_ti ((pm_u I0 40 3 0) 44) 5 10 := by rw [pm_u_row, if_neg (by decide), f0 44 (by decide) (by decide)]; exact x6
    obtain ⟨c1, c2, c3⟩ := cut0 z44 hS
    rw [pb_92_17, pt_cut_46]
    generalize hS2 : (if 0 ≤ (0 : Int32) ∧ 0 < S 46 3 then pm_u S 46 3 0 else S) = S2
    have z46 : pm_ti (S 46) 2 100 := by rw [c1 46 (by decide), pm_u_row, if_neg (by decide), f0 46 (by decide) (by decide)]; exact x7
    obtain ⟨e1, e2, e3⟩ := cut0 z46 hS2
    rw [pb_92_25]
    have e40 : S2 40 = pm_w (I0 40) 3 0 := by rw [e1 40 (by decide), c1 40 (by decide), pm_u_row, if_pos rfl]
    have e44 : S2 44 = S 44 := e1 44 (by decide)
    refine k I0 S2 f0 tk ⟨fun r a e f g h => ?_, fun j a e f => ?_, ?_, ?_, fun m x hx => ?_, fun _ _ _ _ => rfl, fun _ _ _ => rfl, ?_, e2, e3, fun m x hx => ?_⟩
    · rw [e1 r g, c1 r e, pm_u_row, if_neg a]
    · rw [e40, pm_w_ne a]
    · rw [e44]; exact c2
    · rw [e44]; exact c3
    · rw [List.getElem?_nil] at hx; exact absurd hx (by simp)
    · rw [e40, pm_w_at]; rfl
    · rw [List.getElem?_nil] at hx; exact absurd hx (by simp)
  have stR : ∀ (d L : Nat) (b : Bool) (I : Nat → Nat → Int32) (J : Nat → Nat → Int64) (Q : Int32 → Int64 → pm_H → Prop) (x1 : Int32), rd_YY c n sl I → (∀ I' J', rd_rr c n sl (pm_u I 79 69 (Int32.ofNat sl)) J 0 [] [] I' J' → rd_fx c n sl (pm_u I 79 69 (Int32.ofNat sl)) → pm_wp pm_code pm_meta (d + 22) 233 65 ([.ref 79, .int x1], [], (pm_Gb L b, I', J')) Q) → pm_wp pm_code pm_meta (d + 22) 233 16 ([.ref 79, .int x1], [], (pm_Gb L b, I, J)) Q := fun d L b I J Q x1 ⟨y1, y2, y3, y4⟩ k => by
    have g := on_n (a := sl) (by omega)
    have p13 : pm_in (Int32.ofNat sl) 13 = true := pi_in g.1 (by rw [g.2.2]; omega)
    have fx : rd_fx c n sl (pm_u I 79 69 (Int32.ofNat sl)) := by
      refine ⟨?_, fun p hp => ?_, cb, n3, pm_u_at _ _ _ _, y4⟩
      · rw [pm_u_row, if_pos rfl, pm_w_ne (by decide)]; exact y1
      · rw [pm_u_row, if_neg (by decide)]; exact y2 p hp
    rw [pb_233_16, y3]
    generalize hI0 : pm_u I 79 69 (Int32.ofNat sl) = I0 at fx ⊢ k
    have a69 : I0 79 69 = Int32.ofNat sl := fx.2.2.2.2.1
    rw [a69, g.2.1]
    have b69 : (pm_u I0 113 sl 0) 79 69 = Int32.ofNat sl := by rw [pm_u_row, if_neg (by decide)]; exact a69
    rw [b69, g.2.1]
    refine ⟨p13, p13, ?_⟩
    generalize hS : pm_u (pm_u (pm_u (pm_u (pm_u I0 113 sl 0) 116 sl 0) 79 66 0) 79 67 0) 79 68 (-1) = S
    have r79 : ∀ j, S 79 j = if j = 68 then -1 else if j = 67 then 0 else if j = 66 then 0 else I0 79 j := fun j => by
      rw [← hS]
      by_cases j1 : j = 68
      · rw [if_pos j1, j1, pm_u_at]
      · rw [if_neg j1, pm_u_row, if_pos rfl, pm_w_ne j1]
        by_cases j2 : j = 67
        · rw [if_pos j2, j2, pm_u_at]
        · rw [if_neg j2, pm_u_row, if_pos rfl, pm_w_ne j2]
          by_cases j3 : j = 66
          · rw [if_pos j3, j3, pm_u_at]
          · rw [if_neg j3, pm_u_row, if_pos rfl, pm_w_ne j3, pm_u_row, if_neg (by decide), pm_u_row, if_neg (by decide)]
    have ro : ∀ r, ¬ r = 79 → ¬ r = 113 → ¬ r = 116 → S r = I0 r := fun r a e f => by
      rw [← hS, pm_u_row, if_neg a, pm_u_row, if_neg a, pm_u_row, if_neg a, pm_u_row, if_neg f, pm_u_row, if_neg e]
    have r113 : S 113 = pm_w (I0 113) sl 0 := by rw [← hS, pm_u_row, if_neg (by decide), pm_u_row, if_neg (by decide), pm_u_row, if_neg (by decide), pm_u_row, if_neg (by decide), pm_u_row, if_pos rfl]
    have r116 : S 116 = pm_w (I0 116) sl 0 := by rw [← hS, pm_u_row, if_neg (by decide), pm_u_row, if_neg (by decide), pm_u_row, if_neg (by decide), pm_u_row, if_pos rfl, pm_u_row, if_neg (by decide)]
    refine pr_next (i := 0) (by rw [r79]; exact fx.1) (fun p hp => by rw [ro 138 (by decide) (by decide) (by decide)]; exact fx.2.1 p hp) cb n3 (by rw [r79]; rfl) (fun I' J' nf rt => ?_)
    have q79 : ∀ j, ¬ j = 62 → ¬ j = 63 → ¬ j = 64 → ¬ j = 66 → I' 79 j = S 79 j := nf.2.1
    have qr : ∀ r, ¬ r = 79 → I' r = S r := nf.1
    refine k I' J' ⟨⟨fun r a e f => ?_, fun j j1 j2 j3 j4 j5 j6 => ?_, nf.2.2, fun j hj => ⟨?_, ?_⟩, fun j hj => ⟨?_, ?_⟩, fun r a e j hj => ?_⟩, ?_, fun m x hx => ?_, fun _ _ _ _ _ => rfl, fun _ _ _ _ _ _ _ => rfl, fun _ _ => rfl, ?_, ?_, fun _ _ => rfl, ?_, fun _ _ => ⟨rfl, rfl⟩, fun m x hx => ?_, rt⟩ fx
    · rw [qr r a, ro r a e (by omega)]
    · rw [q79 j j1 j2 j3 j4, r79, if_neg j6, if_neg j5, if_neg j4]
    · rw [qr 113 (by decide), r113, pm_w_ne hj]
    · rw [qr 116 (by decide), r116, pm_w_ne hj]
    · rw [qr 122 (by decide), ro 122 (by decide) (by decide) (by decide)]
    · rw [qr 123 (by decide), ro 123 (by decide) (by decide) (by decide)]
    · rw [qr r (by omega), ro r (by omega) (by omega) (by omega)]
    · rw [qr 113 (by decide), r113, pm_w_at, if_pos rfl]; rfl
    · rw [List.getElem?_nil] at hx; exact absurd hx (by simp)
    · rw [q79 67 (by decide) (by decide) (by decide) (by decide), r79]; rfl
    · rw [q79 68 (by decide) (by decide) (by decide) (by decide), r79]; rfl
    · rw [qr 116 (by decide), r116, pm_w_at, if_pos rfl]; rfl
    · rw [List.getElem?_nil] at hx; exact absurd hx (by simp)
  have iv0 : rd_iv c n 0 [] [] := ⟨Nat.zero_le _, by decide, fun x hx => absurd hx (by simp), fun m x hx => by rw [List.getElem?_nil] at hx; exact absurd hx (by simp)⟩
  rcases rd_loop (sl := sl) T N 0 [] [] (by omega) (Nat.zero_le _) iv0 with ⟨ops, rs, jv, uX, uR⟩ | ⟨f, jf, uX, uR⟩
  · exact Or.inl ⟨N, ops, rs, jv, fun d L b I J Q hx hQ => stX d L b I J Q hx (fun I0 I' f0 tk h => uX (d + 1) L b I0 I' J Q 0 tk h (Nat.le_refl _) (fun I'' h'' => hQ I0 I'' f0 tk h'')), fun d L b I J Q x1 hy hQ => stR d L b I J Q x1 hy (fun I' J' h fx => uR d L b _ J I' J' Q x1 fx h hQ)⟩
  · exact Or.inr ⟨N, f, fun d L b I J Q hx hQ => stX d L b I J Q hx (fun I0 I' f0 tk h => uX (d + 1) L b I0 I' J Q 0 tk h (Nat.le_refl _) (fun I'' h'' => hQ I0 I'' f0 tk h'')), fun d L b I J Q x1 hy hQ => stR d L b I J Q x1 hy (fun I' J' h fx => uR d L b _ J I' J' Q x1 fx h hQ)⟩

