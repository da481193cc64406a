/-! THE CALLS keep and again. -/
theorem pc_ch_174 : pm_chain (pm_code 174) = true := by decide +kernel
theorem pb_173t_0 {d L : Nat} {I : Nat → Nat → Int32} {J : Nat → Nat → Int64} {Q : Int32 → Int64 → pm_H → Prop} : pm_wc pm_code pm_meta d 173 [.ref 8] (pm_Gb L true, I, J) Q ↔ pm_wp pm_code pm_meta d 173 18 ([.ref 8], [], (pm_Gb L true, I, J)) Q := (pm_bk_iff pc_ch_173 3 0 _).trans ⟨fun h => h.1 rfl, fun h => ⟨fun _ => h, fun q => absurd (show (true : Bool) = false from q) (by decide)⟩⟩
theorem pb_173t_18 {d L : Nat} {I : Nat → Nat → Int32} {J : Nat → Nat → Int64} {Q : Int32 → Int64 → pm_H → Prop} : pm_wp pm_code pm_meta (d + 1) 173 18 ([.ref 8], [], (pm_Gb L true, I, J)) Q ↔ pm_wc pm_code pm_meta d 26 [.ref 158, .ref 9] (pm_Gb L true, I, J) (fun v w H => pm_wp pm_code pm_meta (d + 1) 173 29 ([.ref 8], [], H) Q) := (pm_bk_iff pc_ch_173 5 18 _).trans Iff.rfl
theorem pb_173t_29 {d L : Nat} {I : Nat → Nat → Int32} {J : Nat → Nat → Int64} {Q : Int32 → Int64 → pm_H → Prop} : pm_wp pm_code pm_meta d 173 29 ([.ref 8], [], (pm_Gb L true, I, J)) Q ↔ Q 1 0 (pm_Gb L true, I, J) := (pm_bk_iff pc_ch_173 2 29 _).trans pm_tt
theorem pb_174t_0 {d L : Nat} {I : Nat → Nat → Int32} {J : Nat → Nat → Int64} {Q : Int32 → Int64 → pm_H → Prop} : pm_wc pm_code pm_meta d 174 [.ref 8] (pm_Gb L true, I, J) Q ↔ pm_wp pm_code pm_meta d 174 10 ([.ref 8], [], (pm_Gb L true, I, J)) Q := (pm_bk_iff pc_ch_174 3 0 _).trans ⟨fun h => h.1 rfl, fun h => ⟨fun _ => h, fun q => absurd (show (true : Bool) = false from q) (by decide)⟩⟩
theorem pb_174t_10 {d L : Nat} {I : Nat → Nat → Int32} {J : Nat → Nat → Int64} {Q : Int32 → Int64 → pm_H → Prop} : pm_wp pm_code pm_meta (d + 1) 174 10 ([.ref 8], [], (pm_Gb L true, I, J)) Q ↔ pm_wc pm_code pm_meta d 26 [.ref 9, .ref 158] (pm_Gb L true, I, J) (fun v w H => pm_wp pm_code pm_meta (d + 1) 174 21 ([.ref 8], [], H) Q) := (pm_bk_iff pc_ch_174 5 10 _).trans Iff.rfl
theorem pb_174t_21 {d L : Nat} {I : Nat → Nat → Int32} {J : Nat → Nat → Int64} {Q : Int32 → Int64 → pm_H → Prop} : pm_wp pm_code pm_meta d 174 21 ([.ref 8], [], (pm_Gb L true, I, J)) Q ↔ Q 1 0 (pm_Gb L true, I, J) := (pm_bk_iff pc_ch_174 2 21 _).trans pm_tt
theorem pb_174f_0 {d L : Nat} {I : Nat → Nat → Int32} {J : Nat → Nat → Int64} {Q : Int32 → Int64 → pm_H → Prop} : pm_wc pm_code pm_meta d 174 [.ref 8] (pm_Gb L false, I, J) Q ↔ pm_wp pm_code pm_meta d 174 7 ([.ref 8], [], (pm_Gb L false, I, J)) Q := (pm_bk_iff pc_ch_174 3 0 _).trans ⟨fun h => h.2 rfl, fun h => ⟨fun q => absurd (show (false : Bool) = true from q) (by decide), fun _ => h⟩⟩
theorem pb_174f_7 {d L : Nat} {I : Nat → Nat → Int32} {J : Nat → Nat → Int64} {Q : Int32 → Int64 → pm_H → Prop} : pm_wp pm_code pm_meta d 174 7 ([.ref 8], [], (pm_Gb L false, I, J)) Q ↔ Q (-3) 0 (pm_Gb L false, I, J) := (pm_bk_iff pc_ch_174 2 7 _).trans pm_tt
theorem land_ti {x r : Nat → Nat → Int32} (h : pm_land x r) : ∀ i, i < 13 → pm_ti (x (10 + 2 * i)) (Int32.ofNat (pc_W i)) (Int32.ofNat (pc_L i)) := fun i hi => by
  obtain ⟨htod, hroa, hper, hhou, hthi, hrig, hver, hsea, hsta, hlot, hbuy, hdee, hple⟩ := h
  match i, hi with
  | 0, _ => exact hroa.1.1
  | 1, _ => exact hper.1.1
  | 2, _ => exact hhou.1.1
  | 3, _ => exact hthi.1.1
  | 4, _ => exact hrig.1.1
  | 5, _ => exact hver.1.1
  | 6, _ => exact hver.1.2.2.1
  | 7, _ => exact hver.1.2.2.2
  | 8, _ => exact hsea.1.1
  | 9, _ => exact hsta.1.1
  | 10, _ => exact hlot.1.1
  | 11, _ => exact hbuy.1.1
  | 12, _ => exact hdee.1.1
  | n + 13, hi => exact absurd hi (by omega)
/-- what a copy of all tables gives -/
theorem land_P {x x' r r' : Nat → Nat → Int32} (h : pm_land x r) (h9 : x' 9 0 = x 9 0) (hc : ∀ i, i < 13 → pc_cp (pc_W i) (pc_L i) (x (10 + 2 * i)) (x (10 + 2 * i + 1)) (x' (10 + 2 * i)) (x' (10 + 2 * i + 1))) (e : ∀ i, 80 ≤ i → i < 136 → ∀ j, j < pc_len i → r' i j = r i j) : pm_land x' r' :=
  land_bd h h9 (hc 0 (by decide)) (hc 1 (by decide)) (hc 2 (by decide)) (hc 3 (by decide)) (hc 4 (by decide)) (hc 5 (by decide)) (hc 6 (by decide)) (hc 7 (by decide)) (hc 8 (by decide)) (hc 9 (by decide)) (hc 10 (by decide)) (hc 11 (by decide)) (hc 12 (by decide)) e
/-- what keep and again leave -/
theorem inv_keep {X : Nat → Int32} {b b' : Bool} {I I' : Nat → Nat → Int32} {J J' : Nat → Nat → Int64} (hI : pm_inv X b I J) (h : ∀ k, (k < 9 ∨ (36 ≤ k ∧ k < 79) ∨ (137 ≤ k ∧ k < 158)) → I' k = I k) (h79 : ∀ j, ¬ j = 57 → ¬ j = 58 → I' 79 j = I 79 j) (h57 : I' 79 57 = (bif b' then 1 else 0)) (hJ : J' 153 = J 153) (hl : pm_land I' I') (hk : pm_kept b' I') : pm_inv X b' I' J' := by
  obtain ⟨hland, htxt, hrid, htmp, hshe, hshf, htra, _, hkept, hcon⟩ := hI
  refine ⟨hl, ?_, ?_, ?_, ?_, ?_, ?_, h57, hk, ?_⟩
  · rw [h 42 (by omega), h 44 (by omega), h 46 (by omega), h 40 (by omega), h 41 (by omega), h 138 (by omega), h79 61 (by decide) (by decide)]; exact htxt
  · rw [h 49 (by omega), h 50 (by omega), h 51 (by omega), h 52 (by omega), h 53 (by omega), h 55 (by omega), h79 83 (by decide) (by decide), h79 84 (by decide) (by decide), h79 85 (by decide) (by decide), h 144 (by omega), h 145 (by omega), h 146 (by omega), h 147 (by omega)]; exact hrid
  · rw [h 38 (by omega), h 58 (by omega), h 60 (by omega), h 62 (by omega), h 65 (by omega), h 68 (by omega)]; exact htmp
  · rw [h 71 (by omega), h 72 (by omega), h 73 (by omega), h 74 (by omega), h 151 (by omega), h 152 (by omega), hJ]; exact hshe
  · rw [h 75 (by omega), h 76 (by omega), h 154 (by omega), h 155 (by omega), h 156 (by omega)]; exact hshf
  · rw [h 77 (by omega), h 78 (by omega), h 157 (by omega), h79 101 (by decide) (by decide)]; exact htra
  · rw [h 1 (by omega), h 2 (by omega), h 3 (by omega), h 4 (by omega), h 5 (by omega), h 6 (by omega)]; exact hcon
theorem po_keep {d L : Nat} {b : Bool} {I : Nat → Nat → Int32} {J : Nat → Nat → Int64} {X : Nat → Int32} (hI : pm_inv X b I J) : pm_wc pm_code pm_meta (d + 20) 173 [.ref 8] (pm_Gb L b, I, J) (fun v _ H => pm_wc pm_code pm_meta (d + 20) 180 [.ref 79] H (pm_ok X L true v)) := by
  have land := hI.1
  have go : ∀ (I1 : Nat → Nat → Int32) (J1 : Nat → Nat → Int64), (∀ k, k < 158 → I1 k = I k) → (∀ k, k < 158 → J1 k = J k) → (∀ i, i < 13 → pm_ti (I1 (159 + 2 * i)) (Int32.ofNat (pc_W i)) (Int32.ofNat (pc_L i))) → pm_wp pm_code pm_meta (d + 20) 173 18 ([.ref 8], [], (pm_Gb L true, I1, J1)) (fun v _ H => pm_wc pm_code pm_meta (d + 20) 180 [.ref 79] H (pm_ok X L true v)) := fun I1 J1 k1 j1 ti1 => by
    rw [pb_173t_18]
    refine px_land_kx (d := d + 18) (fun i hi => by rw [k1 _ (by omega)]; exact land_ti land i hi) ti1 (fun I2 p2 => ?_)
    rw [pb_173t_29, pb_180_0]
    refine copAll_k (d := d + 18) (fun I3 p3 => ?_)
    rw [pb_180_5]
    have k2 : ∀ k, k < 158 → I2 k = I k := fun k hk => by rw [p2.1 k (by omega), pm_u_row, if_neg (by omega)]; exact k1 k hk
    have k3 : ∀ k, ¬ k = 79 → ¬ k = 136 → I3 k = I2 k := fun k a c => by rw [p3.1 k a c, pm_u_row, if_neg a]
    generalize hI4 : pm_u I3 79 57 1 = I4
    have k4 : ∀ k, ¬ k = 79 → I4 k = I3 k := fun k a => by rw [← hI4, pm_u_row, if_neg a]
    have kept : pm_kept true I4 := fun _ => by
      refine land_P (x := I) (r := I) land ?_ (fun i hi => ?_) (fun i a c j hj => ?_)
      · show I4 158 0 = I 9 0
        rw [k4 158 (by decide), k3 158 (by decide) (by decide), p2.1 158 (by omega), pm_u_at, k1 9 (by decide)]
      · have z := p2.2 i hi
        rw [pm_u_row, if_neg (by omega), pm_u_row, if_neg (by omega), k1 _ (by omega), k1 _ (by omega)] at z
        show pc_cp (pc_W i) (pc_L i) (I (10 + 2 * i)) (I (10 + 2 * i + 1)) (I4 (10 + 2 * i + 149)) (I4 (10 + 2 * i + 1 + 149))
        rw [show 10 + 2 * i + 149 = 159 + 2 * i by omega, show 10 + 2 * i + 1 + 149 = 159 + 2 * i + 1 by omega, k4 _ (by omega), k4 _ (by omega), k3 _ (by omega) (by omega), k3 _ (by omega) (by omega)]
        exact z
      · show I4 136 (pm_off i + j) = I i j
        obtain ⟨q, rfl⟩ : ∃ q, i = 80 + q := ⟨i - 80, by omega⟩
        rw [k4 136 (by decide), p3.2.2.2 q (by omega) j hj, pm_u_row, if_neg (by omega), k2 _ (by omega)]
    have l4 : pm_land I4 I4 := by
      refine pm_land_cg (fun i a c => ?_) (fun i a c => ?_) land
      · rw [k4 i (by omega), k3 i (by omega) (by omega), k2 i (by omega)]
      · rw [k4 i (by omega), k3 i (by omega) (by omega), k2 i (by omega)]
    refine pm_okJ (inv_keep hI (fun k hk => ?_) (fun j a c => ?_) ?_ (j1 153 (by decide)) l4 kept)
    · rw [k4 k (by omega), k3 k (by omega) (by omega), k2 k (by omega)]
    · rw [← hI4, pm_u_row, if_pos rfl, pm_w_ne a, p3.2.1 j c, pm_u_row, if_pos rfl, pm_w_ne c, k2 79 (by decide)]
    · rw [← hI4, pm_u_at]; rfl
  cases b with
  | false =>
    rw [px_keep0 (d := d + 17)]
    exact go _ _ (fun k hk => kp_I hk) (fun k hk => kp_J hk) (kp_ti I)
  | true =>
    rw [pb_173t_0]
    refine go I J (fun _ _ => rfl) (fun _ _ => rfl) (fun i hi => ?_)
    have z := land_ti (hI.2.2.2.2.2.2.2.2.1 rfl) i hi
    have e : 10 + 2 * i + 149 = 159 + 2 * i := by omega
    have z' : pm_ti (I (10 + 2 * i + 149)) (Int32.ofNat (pc_W i)) (Int32.ofNat (pc_L i)) := z
    rw [e] at z'
    exact z'
theorem po_again {d L : Nat} {b : Bool} {I : Nat → Nat → Int32} {J : Nat → Nat → Int64} {X : Nat → Int32} (hI : pm_inv X b I J) : pm_wc pm_code pm_meta (d + 20) 174 [.ref 8] (pm_Gb L b, I, J) (fun v _ H => pm_wc pm_code pm_meta (d + 20) 181 [.ref 79] H (pm_ok X L b v)) := by
  have land := hI.1
  have h57 := hI.2.2.2.2.2.2.2.1
  cases b with
  | false =>
    have n57 : I 79 57 = 0 := h57
    rw [pb_174f_0, pb_174f_7, pb_181_0, if_pos n57, pb_181_7]
    exact pm_okJ hI
  | true =>
    have keptL : pm_land (fun i => I (i + 149)) (pm_im (I 136)) := hI.2.2.2.2.2.2.2.2.1 rfl
    have n57 : I 79 57 = 1 := h57
    rw [pb_174t_0, pb_174t_10]
    refine px_land_ax (d := d + 18) (fun i hi => ?_) (fun i hi => land_ti land i hi) (fun I2 p2 => ?_)
    · have z : pm_ti (I (10 + 2 * i + 149)) (Int32.ofNat (pc_W i)) (Int32.ofNat (pc_L i)) := land_ti keptL i hi
      rw [show 10 + 2 * i + 149 = 159 + 2 * i by omega] at z
      exact z
    · have k2 : ∀ k, ¬ k = 9 → (k < 10 ∨ 36 ≤ k) → I2 k = I k := fun k a c => by rw [p2.1 k (by omega), pm_u_row, if_neg a]
      rw [pb_174t_21, pb_181_0, k2 79 (by decide) (by decide), n57, if_neg (by decide), pb_181_10]
      refine copAll_a (d := d + 18) (fun I3 p3 => ?_)
      rw [pb_181_15]
      have k3 : ∀ k, ¬ k = 79 → (k < 80 ∨ 136 ≤ k) → I3 k = I2 k := fun k a c => by rw [p3.1 k a (by omega), pm_u_row, if_neg a]
      have l3 : pm_land I3 I3 := by
        refine land_P (x := fun i => I (i + 149)) (r := pm_im (I 136)) keptL ?_ (fun i hi => ?_) (fun i a c j hj => ?_)
        · show I3 9 0 = I 158 0
          rw [k3 9 (by decide) (by decide), p2.1 9 (by omega), pm_u_at]
        · have z := p2.2 i hi
          rw [pm_u_row, if_neg (by omega), pm_u_row, if_neg (by omega)] at z
          show pc_cp (pc_W i) (pc_L i) (I (10 + 2 * i + 149)) (I (10 + 2 * i + 1 + 149)) (I3 (10 + 2 * i)) (I3 (10 + 2 * i + 1))
          rw [show 10 + 2 * i + 149 = 159 + 2 * i by omega, show 10 + 2 * i + 1 + 149 = 159 + 2 * i + 1 by omega, k3 _ (by omega) (by omega), k3 _ (by omega) (by omega)]
          exact z
        · obtain ⟨q, rfl⟩ : ∃ q, i = 80 + q := ⟨i - 80, by omega⟩
          rw [p3.2.2.2 q (by omega) j hj, pm_u_row, if_neg (by decide), k2 136 (by decide) (by decide)]
          rfl
      refine pm_okJ (inv_keep hI (fun k hk => ?_) (fun j a c => ?_) ?_ rfl l3 (pm_kept_cg (fun i hi => ?_) ?_ hI.2.2.2.2.2.2.2.2.1))
      · rw [k3 k (by omega) (by omega), p2.1 k (by omega), pm_u_row]
        by_cases e : k = 9
        · omega
        · rw [if_neg e]
      · rw [p3.2.1 j c, pm_u_row, if_pos rfl, pm_w_ne c, k2 79 (by decide) (by decide)]
      · rw [p3.2.1 57 (by decide), pm_u_row, if_pos rfl, pm_w_ne (by decide), k2 79 (by decide) (by decide), n57]; rfl
      · rw [k3 i (by omega) (by omega), k2 i (by omega) (by omega)]
      · rw [k3 136 (by decide) (by decide), k2 136 (by decide) (by decide)]

