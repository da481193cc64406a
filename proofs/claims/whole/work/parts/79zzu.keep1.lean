/-! COPIES: what holds of the rows holds of their copies. -/
def pc_cp (w l : Nat) (t c t' c' : Nat → Int32) : Prop := pm_ti t' (Int32.ofNat w) (Int32.ofNat l) ∧ t' 3 = t 3 ∧ ∀ j, j < w * (t 3).toNatClampNeg → c' j = c j
theorem pc_b {n : Int32} {m : Nat} {M : Int32} (h0 : 0 ≤ n) (h : n ≤ M) (e : M.toInt = m) : n.toNatClampNeg ≤ m := by
  have a := pi_tni h0
  have b := pi_le.mp h
  omega
theorem per_bd {t c t' c' : Nat → Int32} {n : Int32} {born died born' died' : Nat → Int32} (h : pg_per t c n born died) (hc : pc_cp 2 16 t c t' c') (e_born : ∀ j, j < 16 → born' j = born j) (e_died : ∀ j, j < 16 → died' j = died j) : pg_per t' c' n born' died' := by
  obtain ⟨⟨hti, hn⟩, hh⟩ := h
  obtain ⟨c1, c2, c3⟩ := hc
  have b := pc_b (m := 16) (hn ▸ hti.2.2.1) (hn ▸ hti.2.2.2) rfl
  rw [hn] at c3
  refine ⟨⟨c1, c2.trans hn⟩, fun k hk => ?_⟩
  have z := hh k hk
  rw [c3 (2 * k + 0) (by omega), c3 (2 * k + 1) (by omega), e_born k (by omega), e_died k (by omega)]
  exact z
theorem hou_bd {t c t' c' : Nat → Int32} {n today : Int32} {place order coin fear fell stripped due roll rollday had place' order' coin' fear' fell' stripped' due' roll' rollday' had' : Nat → Int32} (h : pg_hou t c n today place order coin fear fell stripped due roll rollday had) (hc : pc_cp 10 8 t c t' c') (e_place : ∀ j, j < 8 → place' j = place j) (e_order : ∀ j, j < 8 → order' j = order j) (e_coin : ∀ j, j < 8 → coin' j = coin j) (e_fear : ∀ j, j < 8 → fear' j = fear j) (e_fell : ∀ j, j < 8 → fell' j = fell j) (e_stripped : ∀ j, j < 8 → stripped' j = stripped j) (e_due : ∀ j, j < 8 → due' j = due j) (e_roll : ∀ j, j < 8 → roll' j = roll j) (e_rollday : ∀ j, j < 8 → rollday' j = rollday j) (e_had : ∀ j, j < 8 → had' j = had j) : pg_hou t' c' n today place' order' coin' fear' fell' stripped' due' roll' rollday' had' := by
  obtain ⟨⟨hti, hn⟩, hh⟩ := h
  obtain ⟨c1, c2, c3⟩ := hc
  have b := pc_b (m := 8) (hn ▸ hti.2.2.1) (hn ▸ hti.2.2.2) rfl
  rw [hn] at c3
  refine ⟨⟨c1, c2.trans hn⟩, fun k hk => ?_⟩
  have z := hh k hk
  rw [c3 (10 * k + 0) (by omega), c3 (10 * k + 1) (by omega), c3 (10 * k + 2) (by omega), c3 (10 * k + 3) (by omega), c3 (10 * k + 4) (by omega), c3 (10 * k + 5) (by omega), c3 (10 * k + 6) (by omega), c3 (10 * k + 7) (by omega), c3 (10 * k + 8) (by omega), c3 (10 * k + 9) (by omega), e_place k (by omega), e_order k (by omega), e_coin k (by omega), e_fear k (by omega), e_fell k (by omega), e_stripped k (by omega), e_due k (by omega), e_roll k (by omega), e_rollday k (by omega), e_had k (by omega)]
  exact z
theorem thi_bd {t c t' c' : Nat → Int32} {n nH : Int32} {house kind worth is shown house' kind' worth' is' shown' : Nat → Int32} (h : pg_thi t c n nH house kind worth is shown) (hc : pc_cp 5 24 t c t' c') (e_house : ∀ j, j < 24 → house' j = house j) (e_kind : ∀ j, j < 24 → kind' j = kind j) (e_worth : ∀ j, j < 24 → worth' j = worth j) (e_is : ∀ j, j < 24 → is' j = is j) (e_shown : ∀ j, j < 24 → shown' j = shown j) : pg_thi t' c' n nH house' kind' worth' is' shown' := by
  obtain ⟨⟨hti, hn⟩, hh⟩ := h
  obtain ⟨c1, c2, c3⟩ := hc
  have b := pc_b (m := 24) (hn ▸ hti.2.2.1) (hn ▸ hti.2.2.2) rfl
  rw [hn] at c3
  refine ⟨⟨c1, c2.trans hn⟩, fun k hk => ?_⟩
  have z := hh k hk
  rw [c3 (5 * k + 0) (by omega), c3 (5 * k + 1) (by omega), c3 (5 * k + 2) (by omega), c3 (5 * k + 3) (by omega), c3 (5 * k + 4) (by omega), e_house k (by omega), e_kind k (by omega), e_worth k (by omega), e_is k (by omega), e_shown k (by omega)]
  exact z
theorem sta_bd {t c t' c' : Nat → Int32} {n nP : Int32} {person place day person' place' day' : Nat → Int32} (h : pg_sta t c n nP person place day) (hc : pc_cp 3 24 t c t' c') (e_person : ∀ j, j < 24 → person' j = person j) (e_place : ∀ j, j < 24 → place' j = place j) (e_day : ∀ j, j < 24 → day' j = day j) : pg_sta t' c' n nP person' place' day' := by
  obtain ⟨⟨hti, hn⟩, hh⟩ := h
  obtain ⟨c1, c2, c3⟩ := hc
  have b := pc_b (m := 24) (hn ▸ hti.2.2.1) (hn ▸ hti.2.2.2) rfl
  rw [hn] at c3
  refine ⟨⟨c1, c2.trans hn⟩, fun k hk => ?_⟩
  have z := hh k hk
  rw [c3 (3 * k + 0) (by omega), c3 (3 * k + 1) (by omega), c3 (3 * k + 2) (by omega), e_person k (by omega), e_place k (by omega), e_day k (by omega)]
  exact z
theorem lot_bd {t c t' c' : Nat → Int32} {n : Int32} {price price' : Nat → Int32} (h : pg_lot t c n price) (hc : pc_cp 1 7 t c t' c') (e_price : ∀ j, j < 7 → price' j = price j) : pg_lot t' c' n price' := by
  obtain ⟨⟨hti, hn⟩, hh⟩ := h
  obtain ⟨c1, c2, c3⟩ := hc
  have b := pc_b (m := 7) (hn ▸ hti.2.2.1) (hn ▸ hti.2.2.2) rfl
  rw [hn] at c3
  refine ⟨⟨c1, c2.trans hn⟩, fun k hk => ?_⟩
  have z := hh k hk
  rw [c3 (1 * k + 0) (by omega), e_price k (by omega)]
  exact z
theorem buy_bd {t c t' c' : Nat → Int32} {n : Int32} {coin coin' : Nat → Int32} (h : pg_buy t c n coin) (hc : pc_cp 1 3 t c t' c') (e_coin : ∀ j, j < 3 → coin' j = coin j) : pg_buy t' c' n coin' := by
  obtain ⟨⟨hti, hn⟩, hh⟩ := h
  obtain ⟨c1, c2, c3⟩ := hc
  have b := pc_b (m := 3) (hn ▸ hti.2.2.1) (hn ▸ hti.2.2.2) rfl
  rw [hn] at c3
  refine ⟨⟨c1, c2.trans hn⟩, fun k hk => ?_⟩
  have z := hh k hk
  rw [c3 (1 * k + 0) (by omega), e_coin k (by omega)]
  exact z
theorem dee_bd {t c t' c' : Nat → Int32} {n : Int32} {field fr to day amount known field' fr' to' day' amount' known' : Nat → Int32} (h : pg_dee t c n field fr to day amount known) (hc : pc_cp 6 24 t c t' c') (e_field : ∀ j, j < 24 → field' j = field j) (e_fr : ∀ j, j < 24 → fr' j = fr j) (e_to : ∀ j, j < 24 → to' j = to j) (e_day : ∀ j, j < 24 → day' j = day j) (e_amount : ∀ j, j < 24 → amount' j = amount j) (e_known : ∀ j, j < 24 → known' j = known j) : pg_dee t' c' n field' fr' to' day' amount' known' := by
  obtain ⟨⟨hti, hn⟩, hh⟩ := h
  obtain ⟨c1, c2, c3⟩ := hc
  have b := pc_b (m := 24) (hn ▸ hti.2.2.1) (hn ▸ hti.2.2.2) rfl
  rw [hn] at c3
  refine ⟨⟨c1, c2.trans hn⟩, fun k hk => ?_⟩
  have z := hh k hk
  rw [c3 (6 * k + 0) (by omega), c3 (6 * k + 1) (by omega), c3 (6 * k + 2) (by omega), c3 (6 * k + 3) (by omega), c3 (6 * k + 4) (by omega), c3 (6 * k + 5) (by omega), e_field k (by omega), e_fr k (by omega), e_to k (by omega), e_day k (by omega), e_amount k (by omega), e_known k (by omega)]
  exact z
theorem rig_bd {t c t' c' : Nat → Int32} {n nP nH nT : Int32} {kind house person amount fr to is leans proved seals told wit witOf kind' house' person' amount' fr' to' is' leans' proved' seals' told' wit' witOf' : Nat → Int32} (h : pg_rig t c n nP nH nT kind house person amount fr to is leans proved seals told wit witOf) (hc : pc_cp 16 24 t c t' c') (e_kind : ∀ j, j < 24 → kind' j = kind j) (e_house : ∀ j, j < 24 → house' j = house j) (e_person : ∀ j, j < 24 → person' j = person j) (e_amount : ∀ j, j < 24 → amount' j = amount j) (e_fr : ∀ j, j < 24 → fr' j = fr j) (e_to : ∀ j, j < 24 → to' j = to j) (e_is : ∀ j, j < 24 → is' j = is j) (e_leans : ∀ j, j < 24 → leans' j = leans j) (e_proved : ∀ j, j < 24 → proved' j = proved j) (e_seals : ∀ j, j < 24 → seals' j = seals j) (e_told : ∀ j, j < 24 → told' j = told j) (e_wit : ∀ j, j < 24 → wit' j = wit j) (e_witOf : ∀ j, j < 72 → witOf' j = witOf j) : pg_rig t' c' n nP nH nT kind' house' person' amount' fr' to' is' leans' proved' seals' told' wit' witOf' := by
  obtain ⟨⟨hti, hn⟩, hh⟩ := h
  obtain ⟨c1, c2, c3⟩ := hc
  have b := pc_b (m := 24) (hn ▸ hti.2.2.1) (hn ▸ hti.2.2.2) rfl
  rw [hn] at c3
  refine ⟨⟨c1, c2.trans hn⟩, fun k hk => ?_⟩
  obtain ⟨z1, z2, z3⟩ := hh k hk
  have w3 : (wit k).toNatClampNeg ≤ 3 := by
    obtain ⟨_, _, _, _, _, _, _, _, _, _, _, _, _, _, _, _, _, _, q1, q2, _⟩ := z3
    exact pc_b q1 q2 rfl
  rw [c3 (16 * k + 0) (by omega), c3 (16 * k + 1) (by omega), c3 (16 * k + 2) (by omega), c3 (16 * k + 3) (by omega), c3 (16 * k + 4) (by omega), c3 (16 * k + 5) (by omega), c3 (16 * k + 6) (by omega), c3 (16 * k + 7) (by omega), c3 (16 * k + 9) (by omega), c3 (16 * k + 10) (by omega), c3 (16 * k + 11) (by omega), c3 (16 * k + 12) (by omega), e_kind k (by omega), e_house k (by omega), e_person k (by omega), e_amount k (by omega), e_fr k (by omega), e_to k (by omega), e_is k (by omega), e_leans k (by omega), e_proved k (by omega), e_seals k (by omega), e_told k (by omega), e_wit k (by omega)]
  refine ⟨z1, fun i hi => ?_, z3⟩
  rw [c3 (16 * k + (13 + i)) (by omega), e_witOf (3 * k + i) (by omega)]
  exact z2 i hi
theorem roa_bd {t c t' c' roads roads' : Nat → Int32} (h : pg_roa t c roads) (hc : pc_cp 10 10 t c t' c') (e : ∀ j, j < 100 → roads' j = roads j) : pg_roa t' c' roads' := by
  obtain ⟨⟨hti, hn⟩, hh⟩ := h
  obtain ⟨c1, c2, c3⟩ := hc
  rw [hn] at c3
  refine ⟨⟨c1, c2.trans hn⟩, fun j hj => ?_⟩
  rw [c3 j (by show j < 10 * 10; omega), e j hj]
  exact hh j hj
theorem sea_bd {t c t' c' from_ from_' : Nat → Int32} (h : pg_sea t c from_) (hc : pc_cp 1 4 t c t' c') (e : ∀ j, j < 4 → from_' j = from_ j) : pg_sea t' c' from_' := by
  obtain ⟨⟨hti, hn⟩, hh⟩ := h
  obtain ⟨c1, c2, c3⟩ := hc
  rw [hn] at c3
  refine ⟨⟨c1, c2.trans hn⟩, fun j hj => ?_⟩
  rw [c3 (1 * j + 0) (by show 1 * j + 0 < 1 * 4; omega), e j hj]
  exact hh j hj
theorem dep_cg {f g : Nat → Int32} {a : Nat} : ∀ m, (∀ k, k < m → g (a + k) = f (a + k)) → pm_dep g a m = pm_dep f a m
  | 0, _ => rfl
  | m + 1, h => by
    unfold pm_dep
    rw [dep_cg m (fun k hk => h k (by omega)), h m (by omega)]
theorem ver_bd {t c tr cr ts cs t' c' tr' cr' ts' cs' : Nat → Int32} {n today : Int32} {act rules fr till ops sort kinds rank rops rend opis opof act' rules' fr' till' ops' sort' kinds' rank' rops' rend' opis' opof' : Nat → Int32}
    (h : pg_ver t c tr cr ts cs n today act rules fr till ops sort kinds rank rops rend opis opof) (hc : pc_cp 5 12 t c t' c') (hr : pc_cp 5 120 tr cr tr' cr') (hs : pc_cp 2 1200 ts cs ts' cs')
    (e_act : ∀ j, j < 12 → act' j = act j) (e_rules : ∀ j, j < 12 → rules' j = rules j) (e_fr : ∀ j, j < 12 → fr' j = fr j) (e_till : ∀ j, j < 12 → till' j = till j)
    (e_sort : ∀ j, j < 120 → sort' j = sort j) (e_kinds : ∀ j, j < 120 → kinds' j = kinds j) (e_rank : ∀ j, j < 120 → rank' j = rank j) (e_rops : ∀ j, j < 120 → rops' j = rops j) (e_rend : ∀ j, j < 120 → rend' j = rend j) (e_opis : ∀ j, j < 960 → opis' j = opis j) (e_opof : ∀ j, j < 960 → opof' j = opof j) : pg_ver t' c' tr' cr' ts' cs' n today act' rules' fr' till' ops' sort' kinds' rank' rops' rend' opis' opof' := by
  obtain ⟨⟨hti, hn, htr, hts⟩, g1, g2, g3, g4⟩ := h
  obtain ⟨c1, c2, c3⟩ := hc
  obtain ⟨r1, r2, r3⟩ := hr
  obtain ⟨s1, s2, s3⟩ := hs
  have b := pc_b (m := 12) (hn ▸ hti.2.2.1) (hn ▸ hti.2.2.2) rfl
  rw [hn] at c3
  refine ⟨⟨c1, c2.trans hn, r1, s1⟩, by rw [r2]; exact g1, by rw [s2]; exact g2, fun v hv => ?_, fun v w hvw hw => ?_⟩
  · obtain ⟨z1, z2, z3, z4, z5, z6, z7, z8, z9, z10, z11, z12⟩ := g3 v hv
    have b10 := pc_b (m := 10) z4 z5 rfl
    rw [c3 (5 * v + 0) (by omega), c3 (5 * v + 1) (by omega), c3 (5 * v + 2) (by omega), c3 (5 * v + 3) (by omega), c3 (5 * v + 4) (by omega), e_act v (by omega), e_rules v (by omega), e_fr v (by omega), e_till v (by omega), r2, s2]
    refine ⟨z1, z2, z3, z4, z5, z6, z7, z8, z9, z10, z11, fun i hi => ?_⟩
    obtain ⟨y1, y2, y3, y4, y5, y6, y7, y8, y9, y10, y11, y12, y13, y14, y15⟩ := z12 i hi
    have b80 := pc_b (m := 80) (Int32.le_trans y7 y8) y9 rfl
    have bop := pi_tni y7
    have bre := pi_tni (Int32.le_trans y7 y8)
    have ble := pi_le.mp y8
    have fl : (c (5 * v + 4)).toNatClampNeg + i < (tr 3).toNatClampNeg := by omega
    have jl : 10 * v + i < 120 := by omega
    unfold pg_rul
    rw [r3 (5 * ((c (5 * v + 4)).toNatClampNeg + i) + 0) (by omega), r3 (5 * ((c (5 * v + 4)).toNatClampNeg + i) + 1) (by omega), r3 (5 * ((c (5 * v + 4)).toNatClampNeg + i) + 2) (by omega), r3 (5 * ((c (5 * v + 4)).toNatClampNeg + i) + 3) (by omega), r3 (5 * ((c (5 * v + 4)).toNatClampNeg + i) + 4) (by omega), e_sort _ jl, e_kinds _ jl, e_rank _ jl, e_rops _ jl, e_rend _ jl]
    refine ⟨y1, y2, y3, y4, y5, y6, y7, y8, y9, y10, y11, y12, y13, fun m hm => ?_, fun m hm => ?_⟩
    · rw [dep_cg (f := opis) (g := opis') m (fun k hk => e_opis _ (by omega))]
      exact y14 m hm
    · rw [s3 _ (by omega), s3 _ (by omega), e_opis _ (by omega), e_opof _ (by omega)]
      exact y15 m hm
  · rw [e_act v (by omega), e_act w (by omega), e_till v (by omega), e_fr w (by omega)]
    exact g4 v w hvw hw
theorem pl_bd {worth kind rh ris worth' kind' rh' ris' : Nat → Int32} {h : Nat} : ∀ q : Nat, (∀ k, k < q → kind' k = kind k ∧ rh' k = rh k ∧ ris' k = ris k ∧ (kind k = 6 → worth' (ris k).toNatClampNeg = worth (ris k).toNatClampNeg)) → pm_pl worth' kind' rh' ris' h q = pm_pl worth kind rh ris h q
  | 0, _ => rfl
  | q + 1, e => by
    unfold pm_pl
    obtain ⟨a, b, c, d⟩ := e q (by omega)
    rw [pl_bd q (fun k hk => e k (by omega)), a, b, c]
    by_cases k6 : kind q = 6
    · rw [d k6]
    · rw [if_neg (fun z => k6 z.1), if_neg (fun z => k6 z.1)]
theorem ple_bd {nH nT nR : Int32} {coin fell had house worth is kind rh ris coin' fell' had' house' worth' is' kind' rh' ris' : Nat → Int32} (h : pg_ple nH nT nR coin fell had house worth is kind rh ris) (b1 : nH.toNatClampNeg ≤ 8) (b2 : 0 ≤ nT ∧ nT.toNatClampNeg ≤ 24) (b3 : nR.toNatClampNeg ≤ 24)
    (e_coin : ∀ j, j < 8 → coin' j = coin j) (e_fell : ∀ j, j < 8 → fell' j = fell j) (e_had : ∀ j, j < 8 → had' j = had j) (e_house : ∀ j, j < 24 → house' j = house j) (e_worth : ∀ j, j < 24 → worth' j = worth j) (e_is : ∀ j, j < 24 → is' j = is j) (e_kind : ∀ j, j < 24 → kind' j = kind j) (e_rh : ∀ j, j < 24 → rh' j = rh j) (e_ris : ∀ j, j < 24 → ris' j = ris j) : pg_ple nH nT nR coin' fell' had' house' worth' is' kind' rh' ris' := by
  obtain ⟨g1, g2, g3, g4⟩ := h
  have at_ : ∀ q : Nat, q < nR.toNatClampNeg → kind q = 6 → (ris q).toNatClampNeg < 24 := fun q hq k6 => by
    obtain ⟨a1, a2, _⟩ := g3 q hq k6
    have := pi_tni a1
    have := pi_tni b2.1
    have := pi_lt.mp a2
    omega
  refine ⟨fun h hh => ?_, fun k hk => ?_, fun q hq => ?_, fun p q hpq hq => ?_⟩
  · rw [e_coin h (by omega), e_fell h (by omega), e_had h (by omega), pl_bd (worth := worth) (kind := kind) (rh := rh) (ris := ris) nR.toNatClampNeg (fun k hk => ⟨e_kind k (by omega), e_rh k (by omega), e_ris k (by omega), fun k6 => e_worth _ (at_ k hk k6)⟩)]
    exact g1 h hh
  · rw [e_worth k (by omega)]; exact g2 k hk
  · rw [e_kind q (by omega)]
    intro k6
    have a := at_ q hq k6
    rw [e_ris q (by omega), e_is _ a, e_house _ a, e_rh q (by omega)]
    exact g3 q hq k6
  · rw [e_kind p (by omega), e_kind q (by omega), e_ris p (by omega), e_ris q (by omega)]
    exact g4 p q hpq hq
/-- how many of a row's cells are kept -/
def pc_len (i : Nat) : Nat := ([16, 100, 16, 16, 8, 8, 8, 8, 8, 8, 8, 8, 8, 8, 24, 24, 24, 24, 24, 24, 24, 24, 24, 24, 24, 24, 24, 24, 24, 24, 24, 72, 12, 12, 12, 12, 12, 120, 120, 120, 120, 120, 960, 960, 4, 24, 24, 24, 7, 3, 24, 24, 24, 24, 24, 24].getD (i - 80) 0)
theorem land_bd {x r x' r' : Nat → Nat → Int32} (h : pm_land x r) (h9 : x' 9 0 = x 9 0) (c10 : pc_cp 10 10 (x 10) (x 11) (x' 10) (x' 11)) (c12 : pc_cp 2 16 (x 12) (x 13) (x' 12) (x' 13)) (c14 : pc_cp 10 8 (x 14) (x 15) (x' 14) (x' 15)) (c16 : pc_cp 5 24 (x 16) (x 17) (x' 16) (x' 17)) (c18 : pc_cp 16 24 (x 18) (x 19) (x' 18) (x' 19)) (c20 : pc_cp 5 12 (x 20) (x 21) (x' 20) (x' 21)) (c22 : pc_cp 5 120 (x 22) (x 23) (x' 22) (x' 23)) (c24 : pc_cp 2 1200 (x 24) (x 25) (x' 24) (x' 25)) (c26 : pc_cp 1 4 (x 26) (x 27) (x' 26) (x' 27)) (c28 : pc_cp 3 24 (x 28) (x 29) (x' 28) (x' 29)) (c30 : pc_cp 1 7 (x 30) (x 31) (x' 30) (x' 31)) (c32 : pc_cp 1 3 (x 32) (x 33) (x' 32) (x' 33)) (c34 : pc_cp 6 24 (x 34) (x 35) (x' 34) (x' 35)) (e : ∀ i, 80 ≤ i → i < 136 → ∀ j, j < pc_len i → r' i j = r i j) : pm_land x' r' := by
  obtain ⟨htod, hroa, hper, hhou, hthi, hrig, hver, hsea, hsta, hlot, hbuy, hdee, hple⟩ := h
  have n80 : ∀ k, k < 16 → r' 80 k = r 80 k := fun k hk => e 80 (by decide) (by decide) k hk
  unfold pm_land
  rw [h9, n80 0 (by decide), n80 1 (by decide), n80 2 (by decide), n80 3 (by decide), n80 4 (by decide), n80 5 (by decide), n80 6 (by decide), n80 7 (by decide), n80 8 (by decide), n80 9 (by decide)]
  refine ⟨htod, roa_bd hroa c10 (fun j hj => e 81 (by decide) (by decide) j hj), per_bd hper c12 (fun j hj => e 82 (by decide) (by decide) j hj) (fun j hj => e 83 (by decide) (by decide) j hj), hou_bd hhou c14 (fun j hj => e 84 (by decide) (by decide) j hj) (fun j hj => e 85 (by decide) (by decide) j hj) (fun j hj => e 86 (by decide) (by decide) j hj) (fun j hj => e 87 (by decide) (by decide) j hj) (fun j hj => e 88 (by decide) (by decide) j hj) (fun j hj => e 89 (by decide) (by decide) j hj) (fun j hj => e 90 (by decide) (by decide) j hj) (fun j hj => e 91 (by decide) (by decide) j hj) (fun j hj => e 92 (by decide) (by decide) j hj) (fun j hj => e 93 (by decide) (by decide) j hj), thi_bd hthi c16 (fun j hj => e 94 (by decide) (by decide) j hj) (fun j hj => e 95 (by decide) (by decide) j hj) (fun j hj => e 96 (by decide) (by decide) j hj) (fun j hj => e 97 (by decide) (by decide) j hj) (fun j hj => e 98 (by decide) (by decide) j hj), rig_bd hrig c18 (fun j hj => e 99 (by decide) (by decide) j hj) (fun j hj => e 100 (by decide) (by decide) j hj) (fun j hj => e 101 (by decide) (by decide) j hj) (fun j hj => e 102 (by decide) (by decide) j hj) (fun j hj => e 103 (by decide) (by decide) j hj) (fun j hj => e 104 (by decide) (by decide) j hj) (fun j hj => e 105 (by decide) (by decide) j hj) (fun j hj => e 106 (by decide) (by decide) j hj) (fun j hj => e 107 (by decide) (by decide) j hj) (fun j hj => e 108 (by decide) (by decide) j hj) (fun j hj => e 109 (by decide) (by decide) j hj) (fun j hj => e 110 (by decide) (by decide) j hj) (fun j hj => e 111 (by decide) (by decide) j hj), ver_bd hver c20 c22 c24 (fun j hj => e 112 (by decide) (by decide) j hj) (fun j hj => e 113 (by decide) (by decide) j hj) (fun j hj => e 114 (by decide) (by decide) j hj) (fun j hj => e 115 (by decide) (by decide) j hj) (fun j hj => e 117 (by decide) (by decide) j hj) (fun j hj => e 118 (by decide) (by decide) j hj) (fun j hj => e 119 (by decide) (by decide) j hj) (fun j hj => e 120 (by decide) (by decide) j hj) (fun j hj => e 121 (by decide) (by decide) j hj) (fun j hj => e 122 (by decide) (by decide) j hj) (fun j hj => e 123 (by decide) (by decide) j hj), sea_bd hsea c26 (fun j hj => e 124 (by decide) (by decide) j hj), sta_bd hsta c28 (fun j hj => e 125 (by decide) (by decide) j hj) (fun j hj => e 126 (by decide) (by decide) j hj) (fun j hj => e 127 (by decide) (by decide) j hj), lot_bd hlot c30 (fun j hj => e 128 (by decide) (by decide) j hj), buy_bd hbuy c32 (fun j hj => e 129 (by decide) (by decide) j hj), dee_bd hdee c34 (fun j hj => e 130 (by decide) (by decide) j hj) (fun j hj => e 131 (by decide) (by decide) j hj) (fun j hj => e 132 (by decide) (by decide) j hj) (fun j hj => e 133 (by decide) (by decide) j hj) (fun j hj => e 134 (by decide) (by decide) j hj) (fun j hj => e 135 (by decide) (by decide) j hj), ple_bd hple ?_ ⟨?_, ?_⟩ ?_ (fun j hj => e 86 (by decide) (by decide) j hj) (fun j hj => e 88 (by decide) (by decide) j hj) (fun j hj => e 93 (by decide) (by decide) j hj) (fun j hj => e 94 (by decide) (by decide) j hj) (fun j hj => e 96 (by decide) (by decide) j hj) (fun j hj => e 97 (by decide) (by decide) j hj) (fun j hj => e 99 (by decide) (by decide) j hj) (fun j hj => e 100 (by decide) (by decide) j hj) (fun j hj => e 105 (by decide) (by decide) j hj)⟩
  · exact pc_b (hou_n hhou).1 (hou_n hhou).2 rfl
  · have := hthi.1.2 ▸ hthi.1.1.2.2.1; exact this
  · have a := hthi.1.2 ▸ hthi.1.1.2.2.1
    have b := hthi.1.2 ▸ hthi.1.1.2.2.2
    exact pc_b a b rfl
  · have a := hrig.1.2 ▸ hrig.1.1.2.2.1
    have b := hrig.1.2 ▸ hrig.1.1.2.2.2
    exact pc_b a b rfl

