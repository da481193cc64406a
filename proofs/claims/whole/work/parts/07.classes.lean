/-! THE CLASSES' WORDS, printed by program out of the claim. -/
def pm_gw : List Cond := lw_tbl.filter goodWord
theorem pm_gwi {w : Cond} (h : w ∈ lw_tbl) (g : goodWord w = true) : w ∈ pm_gw := List.mem_filter.mpr ⟨h, g⟩
theorem pm_gw_good : GoodIn pm_gw pm_gw := fun w h => ⟨h, good_of_word (List.mem_filter.mp h).2⟩
def pm_cl : List vw_C := [(pm_on 0, pm_Tf 0, pm_nf 0), (pm_on 1, pm_Tf 1, pm_nf 1), (pm_on 2, pm_Tf 2, pm_nf 2), (pm_on 3, pm_Tf 3, pm_nf 3), (pm_on 4, pm_Tf 4, pm_nf 4), (pm_on 5, pm_Tf 5, pm_nf 5), (pm_on 6, pm_Tf 6, pm_nf 6), (pm_on 7, pm_Tf 7, pm_nf 7), (pm_on 8, pm_Tf 8, pm_nf 8), (pm_on 9, pm_Tf 9, pm_nf 9), (pm_on 10, pm_Tf 10, pm_nf 10), (pm_on 11, pm_Tf 11, pm_nf 11)]
def pm_fty (c k : Nat) : FieldType := (parseFieldDescriptor (pm_fd c k).2.2.1).getD .int
def pm_ftk (t : FieldType) (n : Nat) : Bool :=
  match t, n with
  | .int, 0 => true
  | .boolean, 1 => true
  | .long, 2 => true
  | .object _, 3 => true
  | .array _, 3 => true
  | _, _ => false
def pm_cok (c : Nat) : Bool := (List.range (pm_nf c)).all (fun k => decide (parseFieldDescriptor (pm_fd c k).2.2.1 = some (pm_fty c k)) && pm_ftk (pm_fty c k) (pm_ft c k)) && (List.range (pm_nf c)).all (fun a => (List.range (pm_nf c)).all (fun b => decide (a = b) || decide ((pm_fd c a).2.1 ≠ (pm_fd c b).2.1)))
theorem pm_cok_0 : pm_cok 0 = true := by decide +kernel
theorem pm_cok_1 : pm_cok 1 = true := by decide +kernel
theorem pm_cok_2 : pm_cok 2 = true := by decide +kernel
theorem pm_cok_3 : pm_cok 3 = true := by decide +kernel
theorem pm_cok_4 : pm_cok 4 = true := by decide +kernel
theorem pm_cok_5 : pm_cok 5 = true := by decide +kernel
theorem pm_cok_6 : pm_cok 6 = true := by decide +kernel
theorem pm_cok_7 : pm_cok 7 = true := by decide +kernel
theorem pm_cok_8 : pm_cok 8 = true := by decide +kernel
theorem pm_cok_9 : pm_cok 9 = true := by decide +kernel
theorem pm_cok_10 : pm_cok 10 = true := by decide +kernel
theorem pm_cok_11 : pm_cok 11 = true := by decide +kernel
theorem pm_cokall : ∀ c, c < 12 → pm_cok c = true := by
  intro c hc
  match c, hc with
  | 0, _ => exact pm_cok_0
  | 1, _ => exact pm_cok_1
  | 2, _ => exact pm_cok_2
  | 3, _ => exact pm_cok_3
  | 4, _ => exact pm_cok_4
  | 5, _ => exact pm_cok_5
  | 6, _ => exact pm_cok_6
  | 7, _ => exact pm_cok_7
  | 8, _ => exact pm_cok_8
  | 9, _ => exact pm_cok_9
  | 10, _ => exact pm_cok_10
  | 11, _ => exact pm_cok_11
  | c + 12, h => exact absurd h (by omega)
def pm_cw (c : Nat) : Prop := (∀ w ∈ u_ws (pm_on c) (pm_Tf c) (pm_nf c), w ∈ lw_tbl) ∧ (.instantiable (pm_on c) (pm_nf c) : Cond) ∈ lw_tbl ∧ (.initialized (pm_on c) : Cond) ∈ lw_tbl
theorem pm_lay_0_0 : u_lay (pm_on 0) (pm_Tf 0) 0 ∈ lw_tbl := pm_in_1 (List.mem_of_getElem? (i := 176) rfl)
theorem pm_lay_0_1 : u_lay (pm_on 0) (pm_Tf 0) 1 ∈ lw_tbl := pm_in_1 (List.mem_of_getElem? (i := 178) rfl)
theorem pm_lay_0_2 : u_lay (pm_on 0) (pm_Tf 0) 2 ∈ lw_tbl := pm_in_1 (List.mem_of_getElem? (i := 180) rfl)
theorem pm_cw_0 : pm_cw 0 := by
  refine And.intro ?_ (And.intro (pm_in_1 (List.mem_of_getElem? (i := 166) rfl)) (pm_in_1 (List.mem_of_getElem? (i := 5) rfl)))
  intro w hw
  obtain ⟨k, hk, rfl⟩ := List.mem_map.mp hw
  have hk : k < 3 := List.mem_range.mp hk
  match k, hk with
  | 0, _ => exact pm_lay_0_0
  | 1, _ => exact pm_lay_0_1
  | 2, _ => exact pm_lay_0_2
  | k + 3, h => exact absurd h (by omega)
theorem pm_lay_1_0 : u_lay (pm_on 1) (pm_Tf 1) 0 ∈ lw_tbl := pm_in_2 (List.mem_of_getElem? (i := 68) rfl)
theorem pm_lay_1_1 : u_lay (pm_on 1) (pm_Tf 1) 1 ∈ lw_tbl := pm_in_2 (List.mem_of_getElem? (i := 70) rfl)
theorem pm_lay_1_2 : u_lay (pm_on 1) (pm_Tf 1) 2 ∈ lw_tbl := pm_in_2 (List.mem_of_getElem? (i := 72) rfl)
theorem pm_lay_1_3 : u_lay (pm_on 1) (pm_Tf 1) 3 ∈ lw_tbl := pm_in_2 (List.mem_of_getElem? (i := 74) rfl)
theorem pm_lay_1_4 : u_lay (pm_on 1) (pm_Tf 1) 4 ∈ lw_tbl := pm_in_2 (List.mem_of_getElem? (i := 76) rfl)
theorem pm_cw_1 : pm_cw 1 := by
  refine And.intro ?_ (And.intro (pm_in_2 (List.mem_of_getElem? (i := 53) rfl)) (pm_in_1 (List.mem_of_getElem? (i := 9) rfl)))
  intro w hw
  obtain ⟨k, hk, rfl⟩ := List.mem_map.mp hw
  have hk : k < 5 := List.mem_range.mp hk
  match k, hk with
  | 0, _ => exact pm_lay_1_0
  | 1, _ => exact pm_lay_1_1
  | 2, _ => exact pm_lay_1_2
  | 3, _ => exact pm_lay_1_3
  | 4, _ => exact pm_lay_1_4
  | k + 5, h => exact absurd h (by omega)
theorem pm_lay_2_0 : u_lay (pm_on 2) (pm_Tf 2) 0 ∈ lw_tbl := pm_in_2 (List.mem_of_getElem? (i := 116) rfl)
theorem pm_lay_2_1 : u_lay (pm_on 2) (pm_Tf 2) 1 ∈ lw_tbl := pm_in_2 (List.mem_of_getElem? (i := 118) rfl)
theorem pm_lay_2_2 : u_lay (pm_on 2) (pm_Tf 2) 2 ∈ lw_tbl := pm_in_2 (List.mem_of_getElem? (i := 120) rfl)
theorem pm_lay_2_3 : u_lay (pm_on 2) (pm_Tf 2) 3 ∈ lw_tbl := pm_in_2 (List.mem_of_getElem? (i := 122) rfl)
theorem pm_lay_2_4 : u_lay (pm_on 2) (pm_Tf 2) 4 ∈ lw_tbl := pm_in_2 (List.mem_of_getElem? (i := 124) rfl)
theorem pm_lay_2_5 : u_lay (pm_on 2) (pm_Tf 2) 5 ∈ lw_tbl := pm_in_2 (List.mem_of_getElem? (i := 126) rfl)
theorem pm_lay_2_6 : u_lay (pm_on 2) (pm_Tf 2) 6 ∈ lw_tbl := pm_in_2 (List.mem_of_getElem? (i := 128) rfl)
theorem pm_cw_2 : pm_cw 2 := by
  refine And.intro ?_ (And.intro (pm_in_2 (List.mem_of_getElem? (i := 96) rfl)) (pm_in_1 (List.mem_of_getElem? (i := 11) rfl)))
  intro w hw
  obtain ⟨k, hk, rfl⟩ := List.mem_map.mp hw
  have hk : k < 7 := List.mem_range.mp hk
  match k, hk with
  | 0, _ => exact pm_lay_2_0
  | 1, _ => exact pm_lay_2_1
  | 2, _ => exact pm_lay_2_2
  | 3, _ => exact pm_lay_2_3
  | 4, _ => exact pm_lay_2_4
  | 5, _ => exact pm_lay_2_5
  | 6, _ => exact pm_lay_2_6
  | k + 7, h => exact absurd h (by omega)
theorem pm_lay_3_0 : u_lay (pm_on 3) (pm_Tf 3) 0 ∈ lw_tbl := pm_in_1 (List.mem_of_getElem? (i := 126) rfl)
theorem pm_lay_3_1 : u_lay (pm_on 3) (pm_Tf 3) 1 ∈ lw_tbl := pm_in_1 (List.mem_of_getElem? (i := 128) rfl)
theorem pm_lay_3_2 : u_lay (pm_on 3) (pm_Tf 3) 2 ∈ lw_tbl := pm_in_1 (List.mem_of_getElem? (i := 130) rfl)
theorem pm_lay_3_3 : u_lay (pm_on 3) (pm_Tf 3) 3 ∈ lw_tbl := pm_in_1 (List.mem_of_getElem? (i := 132) rfl)
theorem pm_lay_3_4 : u_lay (pm_on 3) (pm_Tf 3) 4 ∈ lw_tbl := pm_in_1 (List.mem_of_getElem? (i := 134) rfl)
theorem pm_lay_3_5 : u_lay (pm_on 3) (pm_Tf 3) 5 ∈ lw_tbl := pm_in_1 (List.mem_of_getElem? (i := 136) rfl)
theorem pm_lay_3_6 : u_lay (pm_on 3) (pm_Tf 3) 6 ∈ lw_tbl := pm_in_1 (List.mem_of_getElem? (i := 138) rfl)
theorem pm_lay_3_7 : u_lay (pm_on 3) (pm_Tf 3) 7 ∈ lw_tbl := pm_in_1 (List.mem_of_getElem? (i := 140) rfl)
theorem pm_lay_3_8 : u_lay (pm_on 3) (pm_Tf 3) 8 ∈ lw_tbl := pm_in_1 (List.mem_of_getElem? (i := 142) rfl)
theorem pm_lay_3_9 : u_lay (pm_on 3) (pm_Tf 3) 9 ∈ lw_tbl := pm_in_1 (List.mem_of_getElem? (i := 144) rfl)
theorem pm_lay_3_10 : u_lay (pm_on 3) (pm_Tf 3) 10 ∈ lw_tbl := pm_in_1 (List.mem_of_getElem? (i := 146) rfl)
theorem pm_lay_3_11 : u_lay (pm_on 3) (pm_Tf 3) 11 ∈ lw_tbl := pm_in_1 (List.mem_of_getElem? (i := 148) rfl)
theorem pm_lay_3_12 : u_lay (pm_on 3) (pm_Tf 3) 12 ∈ lw_tbl := pm_in_1 (List.mem_of_getElem? (i := 150) rfl)
theorem pm_lay_3_13 : u_lay (pm_on 3) (pm_Tf 3) 13 ∈ lw_tbl := pm_in_1 (List.mem_of_getElem? (i := 152) rfl)
theorem pm_cw_3 : pm_cw 3 := by
  refine And.intro ?_ (And.intro (pm_in_1 (List.mem_of_getElem? (i := 30) rfl)) (pm_in_1 (List.mem_of_getElem? (i := 2) rfl)))
  intro w hw
  obtain ⟨k, hk, rfl⟩ := List.mem_map.mp hw
  have hk : k < 14 := List.mem_range.mp hk
  match k, hk with
  | 0, _ => exact pm_lay_3_0
  | 1, _ => exact pm_lay_3_1
  | 2, _ => exact pm_lay_3_2
  | 3, _ => exact pm_lay_3_3
  | 4, _ => exact pm_lay_3_4
  | 5, _ => exact pm_lay_3_5
  | 6, _ => exact pm_lay_3_6
  | 7, _ => exact pm_lay_3_7
  | 8, _ => exact pm_lay_3_8
  | 9, _ => exact pm_lay_3_9
  | 10, _ => exact pm_lay_3_10
  | 11, _ => exact pm_lay_3_11
  | 12, _ => exact pm_lay_3_12
  | 13, _ => exact pm_lay_3_13
  | k + 14, h => exact absurd h (by omega)
theorem pm_lay_4_0 : u_lay (pm_on 4) (pm_Tf 4) 0 ∈ lw_tbl := pm_in_1 (List.mem_of_getElem? (i := 162) rfl)
theorem pm_cw_4 : pm_cw 4 := by
  refine And.intro ?_ (And.intro (pm_in_1 (List.mem_of_getElem? (i := 156) rfl)) (pm_in_1 (List.mem_of_getElem? (i := 4) rfl)))
  intro w hw
  obtain ⟨k, hk, rfl⟩ := List.mem_map.mp hw
  have hk : k < 1 := List.mem_range.mp hk
  match k, hk with
  | 0, _ => exact pm_lay_4_0
  | k + 1, h => exact absurd h (by omega)
theorem pm_lay_5_0 : u_lay (pm_on 5) (pm_Tf 5) 0 ∈ lw_tbl := pm_in_2 (List.mem_of_getElem? (i := 90) rfl)
theorem pm_lay_5_1 : u_lay (pm_on 5) (pm_Tf 5) 1 ∈ lw_tbl := pm_in_2 (List.mem_of_getElem? (i := 92) rfl)
theorem pm_cw_5 : pm_cw 5 := by
  refine And.intro ?_ (And.intro (pm_in_2 (List.mem_of_getElem? (i := 80) rfl)) (pm_in_1 (List.mem_of_getElem? (i := 10) rfl)))
  intro w hw
  obtain ⟨k, hk, rfl⟩ := List.mem_map.mp hw
  have hk : k < 2 := List.mem_range.mp hk
  match k, hk with
  | 0, _ => exact pm_lay_5_0
  | 1, _ => exact pm_lay_5_1
  | k + 2, h => exact absurd h (by omega)
theorem pm_lay_6_0 : u_lay (pm_on 6) (pm_Tf 6) 0 ∈ lw_tbl := pm_in_2 (List.mem_of_getElem? (i := 1) rfl)
theorem pm_lay_6_1 : u_lay (pm_on 6) (pm_Tf 6) 1 ∈ lw_tbl := pm_in_2 (List.mem_of_getElem? (i := 3) rfl)
theorem pm_lay_6_2 : u_lay (pm_on 6) (pm_Tf 6) 2 ∈ lw_tbl := pm_in_2 (List.mem_of_getElem? (i := 5) rfl)
theorem pm_lay_6_3 : u_lay (pm_on 6) (pm_Tf 6) 3 ∈ lw_tbl := pm_in_2 (List.mem_of_getElem? (i := 7) rfl)
theorem pm_lay_6_4 : u_lay (pm_on 6) (pm_Tf 6) 4 ∈ lw_tbl := pm_in_2 (List.mem_of_getElem? (i := 9) rfl)
theorem pm_lay_6_5 : u_lay (pm_on 6) (pm_Tf 6) 5 ∈ lw_tbl := pm_in_2 (List.mem_of_getElem? (i := 11) rfl)
theorem pm_lay_6_6 : u_lay (pm_on 6) (pm_Tf 6) 6 ∈ lw_tbl := pm_in_2 (List.mem_of_getElem? (i := 13) rfl)
theorem pm_cw_6 : pm_cw 6 := by
  refine And.intro ?_ (And.intro (pm_in_1 (List.mem_of_getElem? (i := 222) rfl)) (pm_in_1 (List.mem_of_getElem? (i := 7) rfl)))
  intro w hw
  obtain ⟨k, hk, rfl⟩ := List.mem_map.mp hw
  have hk : k < 7 := List.mem_range.mp hk
  match k, hk with
  | 0, _ => exact pm_lay_6_0
  | 1, _ => exact pm_lay_6_1
  | 2, _ => exact pm_lay_6_2
  | 3, _ => exact pm_lay_6_3
  | 4, _ => exact pm_lay_6_4
  | 5, _ => exact pm_lay_6_5
  | 6, _ => exact pm_lay_6_6
  | k + 7, h => exact absurd h (by omega)
theorem pm_lay_7_0 : u_lay (pm_on 7) (pm_Tf 7) 0 ∈ lw_tbl := pm_in_2 (List.mem_of_getElem? (i := 35) rfl)
theorem pm_lay_7_1 : u_lay (pm_on 7) (pm_Tf 7) 1 ∈ lw_tbl := pm_in_2 (List.mem_of_getElem? (i := 37) rfl)
theorem pm_lay_7_2 : u_lay (pm_on 7) (pm_Tf 7) 2 ∈ lw_tbl := pm_in_2 (List.mem_of_getElem? (i := 39) rfl)
theorem pm_lay_7_3 : u_lay (pm_on 7) (pm_Tf 7) 3 ∈ lw_tbl := pm_in_2 (List.mem_of_getElem? (i := 41) rfl)
theorem pm_lay_7_4 : u_lay (pm_on 7) (pm_Tf 7) 4 ∈ lw_tbl := pm_in_2 (List.mem_of_getElem? (i := 43) rfl)
theorem pm_lay_7_5 : u_lay (pm_on 7) (pm_Tf 7) 5 ∈ lw_tbl := pm_in_2 (List.mem_of_getElem? (i := 45) rfl)
theorem pm_lay_7_6 : u_lay (pm_on 7) (pm_Tf 7) 6 ∈ lw_tbl := pm_in_2 (List.mem_of_getElem? (i := 47) rfl)
theorem pm_lay_7_7 : u_lay (pm_on 7) (pm_Tf 7) 7 ∈ lw_tbl := pm_in_2 (List.mem_of_getElem? (i := 49) rfl)
theorem pm_cw_7 : pm_cw 7 := by
  refine And.intro ?_ (And.intro (pm_in_2 (List.mem_of_getElem? (i := 17) rfl)) (pm_in_1 (List.mem_of_getElem? (i := 8) rfl)))
  intro w hw
  obtain ⟨k, hk, rfl⟩ := List.mem_map.mp hw
  have hk : k < 8 := List.mem_range.mp hk
  match k, hk with
  | 0, _ => exact pm_lay_7_0
  | 1, _ => exact pm_lay_7_1
  | 2, _ => exact pm_lay_7_2
  | 3, _ => exact pm_lay_7_3
  | 4, _ => exact pm_lay_7_4
  | 5, _ => exact pm_lay_7_5
  | 6, _ => exact pm_lay_7_6
  | 7, _ => exact pm_lay_7_7
  | k + 8, h => exact absurd h (by omega)
theorem pm_lay_8_0 : u_lay (pm_on 8) (pm_Tf 8) 0 ∈ lw_tbl := pm_in_1 (List.mem_of_getElem? (i := 55) rfl)
theorem pm_lay_8_1 : u_lay (pm_on 8) (pm_Tf 8) 1 ∈ lw_tbl := pm_in_1 (List.mem_of_getElem? (i := 57) rfl)
theorem pm_lay_8_2 : u_lay (pm_on 8) (pm_Tf 8) 2 ∈ lw_tbl := pm_in_1 (List.mem_of_getElem? (i := 59) rfl)
theorem pm_lay_8_3 : u_lay (pm_on 8) (pm_Tf 8) 3 ∈ lw_tbl := pm_in_1 (List.mem_of_getElem? (i := 61) rfl)
theorem pm_cw_8 : pm_cw 8 := by
  refine And.intro ?_ (And.intro (pm_in_1 (List.mem_of_getElem? (i := 36) rfl)) (pm_in_1 (List.mem_of_getElem? (i := 3) rfl)))
  intro w hw
  obtain ⟨k, hk, rfl⟩ := List.mem_map.mp hw
  have hk : k < 4 := List.mem_range.mp hk
  match k, hk with
  | 0, _ => exact pm_lay_8_0
  | 1, _ => exact pm_lay_8_1
  | 2, _ => exact pm_lay_8_2
  | 3, _ => exact pm_lay_8_3
  | k + 4, h => exact absurd h (by omega)
theorem pm_lay_9_0 : u_lay (pm_on 9) (pm_Tf 9) 0 ∈ lw_tbl := pm_in_1 (List.mem_of_getElem? (i := 203) rfl)
theorem pm_lay_9_1 : u_lay (pm_on 9) (pm_Tf 9) 1 ∈ lw_tbl := pm_in_1 (List.mem_of_getElem? (i := 205) rfl)
theorem pm_lay_9_2 : u_lay (pm_on 9) (pm_Tf 9) 2 ∈ lw_tbl := pm_in_1 (List.mem_of_getElem? (i := 207) rfl)
theorem pm_lay_9_3 : u_lay (pm_on 9) (pm_Tf 9) 3 ∈ lw_tbl := pm_in_1 (List.mem_of_getElem? (i := 209) rfl)
theorem pm_lay_9_4 : u_lay (pm_on 9) (pm_Tf 9) 4 ∈ lw_tbl := pm_in_1 (List.mem_of_getElem? (i := 211) rfl)
theorem pm_lay_9_5 : u_lay (pm_on 9) (pm_Tf 9) 5 ∈ lw_tbl := pm_in_1 (List.mem_of_getElem? (i := 213) rfl)
theorem pm_lay_9_6 : u_lay (pm_on 9) (pm_Tf 9) 6 ∈ lw_tbl := pm_in_1 (List.mem_of_getElem? (i := 215) rfl)
theorem pm_lay_9_7 : u_lay (pm_on 9) (pm_Tf 9) 7 ∈ lw_tbl := pm_in_1 (List.mem_of_getElem? (i := 217) rfl)
theorem pm_cw_9 : pm_cw 9 := by
  refine And.intro ?_ (And.intro (pm_in_1 (List.mem_of_getElem? (i := 184) rfl)) (pm_in_1 (List.mem_of_getElem? (i := 6) rfl)))
  intro w hw
  obtain ⟨k, hk, rfl⟩ := List.mem_map.mp hw
  have hk : k < 8 := List.mem_range.mp hk
  match k, hk with
  | 0, _ => exact pm_lay_9_0
  | 1, _ => exact pm_lay_9_1
  | 2, _ => exact pm_lay_9_2
  | 3, _ => exact pm_lay_9_3
  | 4, _ => exact pm_lay_9_4
  | 5, _ => exact pm_lay_9_5
  | 6, _ => exact pm_lay_9_6
  | 7, _ => exact pm_lay_9_7
  | k + 8, h => exact absurd h (by omega)
theorem pm_lay_10_0 : u_lay (pm_on 10) (pm_Tf 10) 0 ∈ lw_tbl := pm_in_2 (List.mem_of_getElem? (i := 141) rfl)
theorem pm_lay_10_1 : u_lay (pm_on 10) (pm_Tf 10) 1 ∈ lw_tbl := pm_in_2 (List.mem_of_getElem? (i := 143) rfl)
theorem pm_lay_10_2 : u_lay (pm_on 10) (pm_Tf 10) 2 ∈ lw_tbl := pm_in_2 (List.mem_of_getElem? (i := 145) rfl)
theorem pm_lay_10_3 : u_lay (pm_on 10) (pm_Tf 10) 3 ∈ lw_tbl := pm_in_2 (List.mem_of_getElem? (i := 147) rfl)
theorem pm_lay_10_4 : u_lay (pm_on 10) (pm_Tf 10) 4 ∈ lw_tbl := pm_in_2 (List.mem_of_getElem? (i := 149) rfl)
theorem pm_lay_10_5 : u_lay (pm_on 10) (pm_Tf 10) 5 ∈ lw_tbl := pm_in_2 (List.mem_of_getElem? (i := 151) rfl)
theorem pm_lay_10_6 : u_lay (pm_on 10) (pm_Tf 10) 6 ∈ lw_tbl := pm_in_2 (List.mem_of_getElem? (i := 153) rfl)
theorem pm_lay_10_7 : u_lay (pm_on 10) (pm_Tf 10) 7 ∈ lw_tbl := pm_in_2 (List.mem_of_getElem? (i := 155) rfl)
theorem pm_lay_10_8 : u_lay (pm_on 10) (pm_Tf 10) 8 ∈ lw_tbl := pm_in_2 (List.mem_of_getElem? (i := 157) rfl)
theorem pm_lay_10_9 : u_lay (pm_on 10) (pm_Tf 10) 9 ∈ lw_tbl := pm_in_2 (List.mem_of_getElem? (i := 159) rfl)
theorem pm_cw_10 : pm_cw 10 := by
  refine And.intro ?_ (And.intro (pm_in_1 (List.mem_of_getElem? (i := 22) rfl)) (pm_in_1 (List.mem_of_getElem? (i := 1) rfl)))
  intro w hw
  obtain ⟨k, hk, rfl⟩ := List.mem_map.mp hw
  have hk : k < 10 := List.mem_range.mp hk
  match k, hk with
  | 0, _ => exact pm_lay_10_0
  | 1, _ => exact pm_lay_10_1
  | 2, _ => exact pm_lay_10_2
  | 3, _ => exact pm_lay_10_3
  | 4, _ => exact pm_lay_10_4
  | 5, _ => exact pm_lay_10_5
  | 6, _ => exact pm_lay_10_6
  | 7, _ => exact pm_lay_10_7
  | 8, _ => exact pm_lay_10_8
  | 9, _ => exact pm_lay_10_9
  | k + 10, h => exact absurd h (by omega)
theorem pm_lay_11_0 : u_lay (pm_on 11) (pm_Tf 11) 0 ∈ lw_tbl := pm_in_6 (List.mem_of_getElem? (i := 73) rfl)
theorem pm_lay_11_1 : u_lay (pm_on 11) (pm_Tf 11) 1 ∈ lw_tbl := pm_in_6 (List.mem_of_getElem? (i := 75) rfl)
theorem pm_lay_11_2 : u_lay (pm_on 11) (pm_Tf 11) 2 ∈ lw_tbl := pm_in_6 (List.mem_of_getElem? (i := 77) rfl)
theorem pm_lay_11_3 : u_lay (pm_on 11) (pm_Tf 11) 3 ∈ lw_tbl := pm_in_6 (List.mem_of_getElem? (i := 79) rfl)
theorem pm_lay_11_4 : u_lay (pm_on 11) (pm_Tf 11) 4 ∈ lw_tbl := pm_in_6 (List.mem_of_getElem? (i := 81) rfl)
theorem pm_lay_11_5 : u_lay (pm_on 11) (pm_Tf 11) 5 ∈ lw_tbl := pm_in_6 (List.mem_of_getElem? (i := 83) rfl)
theorem pm_lay_11_6 : u_lay (pm_on 11) (pm_Tf 11) 6 ∈ lw_tbl := pm_in_6 (List.mem_of_getElem? (i := 85) rfl)
theorem pm_lay_11_7 : u_lay (pm_on 11) (pm_Tf 11) 7 ∈ lw_tbl := pm_in_6 (List.mem_of_getElem? (i := 87) rfl)
theorem pm_lay_11_8 : u_lay (pm_on 11) (pm_Tf 11) 8 ∈ lw_tbl := pm_in_6 (List.mem_of_getElem? (i := 89) rfl)
theorem pm_lay_11_9 : u_lay (pm_on 11) (pm_Tf 11) 9 ∈ lw_tbl := pm_in_6 (List.mem_of_getElem? (i := 91) rfl)
theorem pm_lay_11_10 : u_lay (pm_on 11) (pm_Tf 11) 10 ∈ lw_tbl := pm_in_6 (List.mem_of_getElem? (i := 93) rfl)
theorem pm_lay_11_11 : u_lay (pm_on 11) (pm_Tf 11) 11 ∈ lw_tbl := pm_in_6 (List.mem_of_getElem? (i := 95) rfl)
theorem pm_lay_11_12 : u_lay (pm_on 11) (pm_Tf 11) 12 ∈ lw_tbl := pm_in_6 (List.mem_of_getElem? (i := 97) rfl)
theorem pm_lay_11_13 : u_lay (pm_on 11) (pm_Tf 11) 13 ∈ lw_tbl := pm_in_6 (List.mem_of_getElem? (i := 99) rfl)
theorem pm_lay_11_14 : u_lay (pm_on 11) (pm_Tf 11) 14 ∈ lw_tbl := pm_in_6 (List.mem_of_getElem? (i := 101) rfl)
theorem pm_lay_11_15 : u_lay (pm_on 11) (pm_Tf 11) 15 ∈ lw_tbl := pm_in_6 (List.mem_of_getElem? (i := 103) rfl)
theorem pm_lay_11_16 : u_lay (pm_on 11) (pm_Tf 11) 16 ∈ lw_tbl := pm_in_6 (List.mem_of_getElem? (i := 105) rfl)
theorem pm_lay_11_17 : u_lay (pm_on 11) (pm_Tf 11) 17 ∈ lw_tbl := pm_in_6 (List.mem_of_getElem? (i := 107) rfl)
theorem pm_lay_11_18 : u_lay (pm_on 11) (pm_Tf 11) 18 ∈ lw_tbl := pm_in_6 (List.mem_of_getElem? (i := 109) rfl)
theorem pm_lay_11_19 : u_lay (pm_on 11) (pm_Tf 11) 19 ∈ lw_tbl := pm_in_6 (List.mem_of_getElem? (i := 111) rfl)
theorem pm_lay_11_20 : u_lay (pm_on 11) (pm_Tf 11) 20 ∈ lw_tbl := pm_in_6 (List.mem_of_getElem? (i := 113) rfl)
theorem pm_lay_11_21 : u_lay (pm_on 11) (pm_Tf 11) 21 ∈ lw_tbl := pm_in_6 (List.mem_of_getElem? (i := 115) rfl)
theorem pm_lay_11_22 : u_lay (pm_on 11) (pm_Tf 11) 22 ∈ lw_tbl := pm_in_6 (List.mem_of_getElem? (i := 117) rfl)
theorem pm_lay_11_23 : u_lay (pm_on 11) (pm_Tf 11) 23 ∈ lw_tbl := pm_in_6 (List.mem_of_getElem? (i := 119) rfl)
theorem pm_lay_11_24 : u_lay (pm_on 11) (pm_Tf 11) 24 ∈ lw_tbl := pm_in_6 (List.mem_of_getElem? (i := 121) rfl)
theorem pm_lay_11_25 : u_lay (pm_on 11) (pm_Tf 11) 25 ∈ lw_tbl := pm_in_6 (List.mem_of_getElem? (i := 123) rfl)
theorem pm_lay_11_26 : u_lay (pm_on 11) (pm_Tf 11) 26 ∈ lw_tbl := pm_in_6 (List.mem_of_getElem? (i := 125) rfl)
theorem pm_lay_11_27 : u_lay (pm_on 11) (pm_Tf 11) 27 ∈ lw_tbl := pm_in_6 (List.mem_of_getElem? (i := 127) rfl)
theorem pm_lay_11_28 : u_lay (pm_on 11) (pm_Tf 11) 28 ∈ lw_tbl := pm_in_6 (List.mem_of_getElem? (i := 129) rfl)
theorem pm_lay_11_29 : u_lay (pm_on 11) (pm_Tf 11) 29 ∈ lw_tbl := pm_in_6 (List.mem_of_getElem? (i := 131) rfl)
theorem pm_lay_11_30 : u_lay (pm_on 11) (pm_Tf 11) 30 ∈ lw_tbl := pm_in_6 (List.mem_of_getElem? (i := 133) rfl)
theorem pm_lay_11_31 : u_lay (pm_on 11) (pm_Tf 11) 31 ∈ lw_tbl := pm_in_6 (List.mem_of_getElem? (i := 135) rfl)
theorem pm_lay_11_32 : u_lay (pm_on 11) (pm_Tf 11) 32 ∈ lw_tbl := pm_in_6 (List.mem_of_getElem? (i := 137) rfl)
theorem pm_lay_11_33 : u_lay (pm_on 11) (pm_Tf 11) 33 ∈ lw_tbl := pm_in_6 (List.mem_of_getElem? (i := 139) rfl)
theorem pm_lay_11_34 : u_lay (pm_on 11) (pm_Tf 11) 34 ∈ lw_tbl := pm_in_6 (List.mem_of_getElem? (i := 141) rfl)
theorem pm_lay_11_35 : u_lay (pm_on 11) (pm_Tf 11) 35 ∈ lw_tbl := pm_in_6 (List.mem_of_getElem? (i := 143) rfl)
theorem pm_lay_11_36 : u_lay (pm_on 11) (pm_Tf 11) 36 ∈ lw_tbl := pm_in_6 (List.mem_of_getElem? (i := 145) rfl)
theorem pm_lay_11_37 : u_lay (pm_on 11) (pm_Tf 11) 37 ∈ lw_tbl := pm_in_6 (List.mem_of_getElem? (i := 147) rfl)
theorem pm_lay_11_38 : u_lay (pm_on 11) (pm_Tf 11) 38 ∈ lw_tbl := pm_in_6 (List.mem_of_getElem? (i := 149) rfl)
theorem pm_lay_11_39 : u_lay (pm_on 11) (pm_Tf 11) 39 ∈ lw_tbl := pm_in_6 (List.mem_of_getElem? (i := 151) rfl)
theorem pm_lay_11_40 : u_lay (pm_on 11) (pm_Tf 11) 40 ∈ lw_tbl := pm_in_6 (List.mem_of_getElem? (i := 153) rfl)
theorem pm_lay_11_41 : u_lay (pm_on 11) (pm_Tf 11) 41 ∈ lw_tbl := pm_in_6 (List.mem_of_getElem? (i := 155) rfl)
theorem pm_lay_11_42 : u_lay (pm_on 11) (pm_Tf 11) 42 ∈ lw_tbl := pm_in_6 (List.mem_of_getElem? (i := 157) rfl)
theorem pm_lay_11_43 : u_lay (pm_on 11) (pm_Tf 11) 43 ∈ lw_tbl := pm_in_6 (List.mem_of_getElem? (i := 159) rfl)
theorem pm_lay_11_44 : u_lay (pm_on 11) (pm_Tf 11) 44 ∈ lw_tbl := pm_in_6 (List.mem_of_getElem? (i := 161) rfl)
theorem pm_lay_11_45 : u_lay (pm_on 11) (pm_Tf 11) 45 ∈ lw_tbl := pm_in_6 (List.mem_of_getElem? (i := 163) rfl)
theorem pm_lay_11_46 : u_lay (pm_on 11) (pm_Tf 11) 46 ∈ lw_tbl := pm_in_6 (List.mem_of_getElem? (i := 165) rfl)
theorem pm_lay_11_47 : u_lay (pm_on 11) (pm_Tf 11) 47 ∈ lw_tbl := pm_in_6 (List.mem_of_getElem? (i := 167) rfl)
theorem pm_lay_11_48 : u_lay (pm_on 11) (pm_Tf 11) 48 ∈ lw_tbl := pm_in_6 (List.mem_of_getElem? (i := 169) rfl)
theorem pm_lay_11_49 : u_lay (pm_on 11) (pm_Tf 11) 49 ∈ lw_tbl := pm_in_6 (List.mem_of_getElem? (i := 171) rfl)
theorem pm_lay_11_50 : u_lay (pm_on 11) (pm_Tf 11) 50 ∈ lw_tbl := pm_in_6 (List.mem_of_getElem? (i := 173) rfl)
theorem pm_lay_11_51 : u_lay (pm_on 11) (pm_Tf 11) 51 ∈ lw_tbl := pm_in_6 (List.mem_of_getElem? (i := 175) rfl)
theorem pm_lay_11_52 : u_lay (pm_on 11) (pm_Tf 11) 52 ∈ lw_tbl := pm_in_6 (List.mem_of_getElem? (i := 177) rfl)
theorem pm_lay_11_53 : u_lay (pm_on 11) (pm_Tf 11) 53 ∈ lw_tbl := pm_in_6 (List.mem_of_getElem? (i := 179) rfl)
theorem pm_lay_11_54 : u_lay (pm_on 11) (pm_Tf 11) 54 ∈ lw_tbl := pm_in_6 (List.mem_of_getElem? (i := 181) rfl)
theorem pm_lay_11_55 : u_lay (pm_on 11) (pm_Tf 11) 55 ∈ lw_tbl := pm_in_6 (List.mem_of_getElem? (i := 183) rfl)
theorem pm_lay_11_56 : u_lay (pm_on 11) (pm_Tf 11) 56 ∈ lw_tbl := pm_in_6 (List.mem_of_getElem? (i := 185) rfl)
theorem pm_lay_11_57 : u_lay (pm_on 11) (pm_Tf 11) 57 ∈ lw_tbl := pm_in_6 (List.mem_of_getElem? (i := 187) rfl)
theorem pm_lay_11_58 : u_lay (pm_on 11) (pm_Tf 11) 58 ∈ lw_tbl := pm_in_6 (List.mem_of_getElem? (i := 189) rfl)
theorem pm_lay_11_59 : u_lay (pm_on 11) (pm_Tf 11) 59 ∈ lw_tbl := pm_in_6 (List.mem_of_getElem? (i := 191) rfl)
theorem pm_lay_11_60 : u_lay (pm_on 11) (pm_Tf 11) 60 ∈ lw_tbl := pm_in_6 (List.mem_of_getElem? (i := 193) rfl)
theorem pm_lay_11_61 : u_lay (pm_on 11) (pm_Tf 11) 61 ∈ lw_tbl := pm_in_6 (List.mem_of_getElem? (i := 195) rfl)
theorem pm_lay_11_62 : u_lay (pm_on 11) (pm_Tf 11) 62 ∈ lw_tbl := pm_in_6 (List.mem_of_getElem? (i := 197) rfl)
theorem pm_lay_11_63 : u_lay (pm_on 11) (pm_Tf 11) 63 ∈ lw_tbl := pm_in_6 (List.mem_of_getElem? (i := 199) rfl)
theorem pm_lay_11_64 : u_lay (pm_on 11) (pm_Tf 11) 64 ∈ lw_tbl := pm_in_6 (List.mem_of_getElem? (i := 201) rfl)
theorem pm_lay_11_65 : u_lay (pm_on 11) (pm_Tf 11) 65 ∈ lw_tbl := pm_in_6 (List.mem_of_getElem? (i := 203) rfl)
theorem pm_lay_11_66 : u_lay (pm_on 11) (pm_Tf 11) 66 ∈ lw_tbl := pm_in_6 (List.mem_of_getElem? (i := 205) rfl)
theorem pm_lay_11_67 : u_lay (pm_on 11) (pm_Tf 11) 67 ∈ lw_tbl := pm_in_6 (List.mem_of_getElem? (i := 207) rfl)
theorem pm_lay_11_68 : u_lay (pm_on 11) (pm_Tf 11) 68 ∈ lw_tbl := pm_in_6 (List.mem_of_getElem? (i := 209) rfl)
theorem pm_lay_11_69 : u_lay (pm_on 11) (pm_Tf 11) 69 ∈ lw_tbl := pm_in_6 (List.mem_of_getElem? (i := 211) rfl)
theorem pm_lay_11_70 : u_lay (pm_on 11) (pm_Tf 11) 70 ∈ lw_tbl := pm_in_6 (List.mem_of_getElem? (i := 213) rfl)
theorem pm_lay_11_71 : u_lay (pm_on 11) (pm_Tf 11) 71 ∈ lw_tbl := pm_in_6 (List.mem_of_getElem? (i := 215) rfl)
theorem pm_lay_11_72 : u_lay (pm_on 11) (pm_Tf 11) 72 ∈ lw_tbl := pm_in_6 (List.mem_of_getElem? (i := 217) rfl)
theorem pm_lay_11_73 : u_lay (pm_on 11) (pm_Tf 11) 73 ∈ lw_tbl := pm_in_6 (List.mem_of_getElem? (i := 219) rfl)
theorem pm_lay_11_74 : u_lay (pm_on 11) (pm_Tf 11) 74 ∈ lw_tbl := pm_in_6 (List.mem_of_getElem? (i := 221) rfl)
theorem pm_lay_11_75 : u_lay (pm_on 11) (pm_Tf 11) 75 ∈ lw_tbl := pm_in_6 (List.mem_of_getElem? (i := 223) rfl)
theorem pm_lay_11_76 : u_lay (pm_on 11) (pm_Tf 11) 76 ∈ lw_tbl := pm_in_6 (List.mem_of_getElem? (i := 225) rfl)
theorem pm_lay_11_77 : u_lay (pm_on 11) (pm_Tf 11) 77 ∈ lw_tbl := pm_in_6 (List.mem_of_getElem? (i := 227) rfl)
theorem pm_lay_11_78 : u_lay (pm_on 11) (pm_Tf 11) 78 ∈ lw_tbl := pm_in_6 (List.mem_of_getElem? (i := 229) rfl)
theorem pm_lay_11_79 : u_lay (pm_on 11) (pm_Tf 11) 79 ∈ lw_tbl := pm_in_6 (List.mem_of_getElem? (i := 231) rfl)
theorem pm_lay_11_80 : u_lay (pm_on 11) (pm_Tf 11) 80 ∈ lw_tbl := pm_in_6 (List.mem_of_getElem? (i := 233) rfl)
theorem pm_lay_11_81 : u_lay (pm_on 11) (pm_Tf 11) 81 ∈ lw_tbl := pm_in_6 (List.mem_of_getElem? (i := 235) rfl)
theorem pm_lay_11_82 : u_lay (pm_on 11) (pm_Tf 11) 82 ∈ lw_tbl := pm_in_6 (List.mem_of_getElem? (i := 237) rfl)
theorem pm_lay_11_83 : u_lay (pm_on 11) (pm_Tf 11) 83 ∈ lw_tbl := pm_in_6 (List.mem_of_getElem? (i := 239) rfl)
theorem pm_lay_11_84 : u_lay (pm_on 11) (pm_Tf 11) 84 ∈ lw_tbl := pm_in_7 (List.mem_of_getElem? (i := 1) rfl)
theorem pm_lay_11_85 : u_lay (pm_on 11) (pm_Tf 11) 85 ∈ lw_tbl := pm_in_7 (List.mem_of_getElem? (i := 3) rfl)
theorem pm_lay_11_86 : u_lay (pm_on 11) (pm_Tf 11) 86 ∈ lw_tbl := pm_in_7 (List.mem_of_getElem? (i := 5) rfl)
theorem pm_lay_11_87 : u_lay (pm_on 11) (pm_Tf 11) 87 ∈ lw_tbl := pm_in_7 (List.mem_of_getElem? (i := 7) rfl)
theorem pm_lay_11_88 : u_lay (pm_on 11) (pm_Tf 11) 88 ∈ lw_tbl := pm_in_7 (List.mem_of_getElem? (i := 9) rfl)
theorem pm_lay_11_89 : u_lay (pm_on 11) (pm_Tf 11) 89 ∈ lw_tbl := pm_in_7 (List.mem_of_getElem? (i := 11) rfl)
theorem pm_lay_11_90 : u_lay (pm_on 11) (pm_Tf 11) 90 ∈ lw_tbl := pm_in_7 (List.mem_of_getElem? (i := 13) rfl)
theorem pm_lay_11_91 : u_lay (pm_on 11) (pm_Tf 11) 91 ∈ lw_tbl := pm_in_7 (List.mem_of_getElem? (i := 15) rfl)
theorem pm_lay_11_92 : u_lay (pm_on 11) (pm_Tf 11) 92 ∈ lw_tbl := pm_in_7 (List.mem_of_getElem? (i := 17) rfl)
theorem pm_lay_11_93 : u_lay (pm_on 11) (pm_Tf 11) 93 ∈ lw_tbl := pm_in_7 (List.mem_of_getElem? (i := 19) rfl)
theorem pm_lay_11_94 : u_lay (pm_on 11) (pm_Tf 11) 94 ∈ lw_tbl := pm_in_7 (List.mem_of_getElem? (i := 21) rfl)
theorem pm_lay_11_95 : u_lay (pm_on 11) (pm_Tf 11) 95 ∈ lw_tbl := pm_in_7 (List.mem_of_getElem? (i := 23) rfl)
theorem pm_lay_11_96 : u_lay (pm_on 11) (pm_Tf 11) 96 ∈ lw_tbl := pm_in_7 (List.mem_of_getElem? (i := 25) rfl)
theorem pm_lay_11_97 : u_lay (pm_on 11) (pm_Tf 11) 97 ∈ lw_tbl := pm_in_7 (List.mem_of_getElem? (i := 27) rfl)
theorem pm_lay_11_98 : u_lay (pm_on 11) (pm_Tf 11) 98 ∈ lw_tbl := pm_in_7 (List.mem_of_getElem? (i := 29) rfl)
theorem pm_lay_11_99 : u_lay (pm_on 11) (pm_Tf 11) 99 ∈ lw_tbl := pm_in_7 (List.mem_of_getElem? (i := 31) rfl)
theorem pm_lay_11_100 : u_lay (pm_on 11) (pm_Tf 11) 100 ∈ lw_tbl := pm_in_7 (List.mem_of_getElem? (i := 33) rfl)
theorem pm_lay_11_101 : u_lay (pm_on 11) (pm_Tf 11) 101 ∈ lw_tbl := pm_in_7 (List.mem_of_getElem? (i := 35) rfl)
theorem pm_lay_11_102 : u_lay (pm_on 11) (pm_Tf 11) 102 ∈ lw_tbl := pm_in_7 (List.mem_of_getElem? (i := 37) rfl)
theorem pm_lay_11_103 : u_lay (pm_on 11) (pm_Tf 11) 103 ∈ lw_tbl := pm_in_7 (List.mem_of_getElem? (i := 39) rfl)
theorem pm_lay_11_104 : u_lay (pm_on 11) (pm_Tf 11) 104 ∈ lw_tbl := pm_in_7 (List.mem_of_getElem? (i := 41) rfl)
theorem pm_lay_11_105 : u_lay (pm_on 11) (pm_Tf 11) 105 ∈ lw_tbl := pm_in_7 (List.mem_of_getElem? (i := 43) rfl)
theorem pm_lay_11_106 : u_lay (pm_on 11) (pm_Tf 11) 106 ∈ lw_tbl := pm_in_7 (List.mem_of_getElem? (i := 45) rfl)
theorem pm_cw_11 : pm_cw 11 := by
  refine And.intro ?_ (And.intro (pm_in_5 (List.mem_of_getElem? (i := 201) rfl)) (pm_in_1 (List.mem_of_getElem? (i := 12) rfl)))
  intro w hw
  obtain ⟨k, hk, rfl⟩ := List.mem_map.mp hw
  have hk : k < 107 := List.mem_range.mp hk
  match k, hk with
  | 0, _ => exact pm_lay_11_0
  | 1, _ => exact pm_lay_11_1
  | 2, _ => exact pm_lay_11_2
  | 3, _ => exact pm_lay_11_3
  | 4, _ => exact pm_lay_11_4
  | 5, _ => exact pm_lay_11_5
  | 6, _ => exact pm_lay_11_6
  | 7, _ => exact pm_lay_11_7
  | 8, _ => exact pm_lay_11_8
  | 9, _ => exact pm_lay_11_9
  | 10, _ => exact pm_lay_11_10
  | 11, _ => exact pm_lay_11_11
  | 12, _ => exact pm_lay_11_12
  | 13, _ => exact pm_lay_11_13
  | 14, _ => exact pm_lay_11_14
  | 15, _ => exact pm_lay_11_15
  | 16, _ => exact pm_lay_11_16
  | 17, _ => exact pm_lay_11_17
  | 18, _ => exact pm_lay_11_18
  | 19, _ => exact pm_lay_11_19
  | 20, _ => exact pm_lay_11_20
  | 21, _ => exact pm_lay_11_21
  | 22, _ => exact pm_lay_11_22
  | 23, _ => exact pm_lay_11_23
  | 24, _ => exact pm_lay_11_24
  | 25, _ => exact pm_lay_11_25
  | 26, _ => exact pm_lay_11_26
  | 27, _ => exact pm_lay_11_27
  | 28, _ => exact pm_lay_11_28
  | 29, _ => exact pm_lay_11_29
  | 30, _ => exact pm_lay_11_30
  | 31, _ => exact pm_lay_11_31
  | 32, _ => exact pm_lay_11_32
  | 33, _ => exact pm_lay_11_33
  | 34, _ => exact pm_lay_11_34
  | 35, _ => exact pm_lay_11_35
  | 36, _ => exact pm_lay_11_36
  | 37, _ => exact pm_lay_11_37
  | 38, _ => exact pm_lay_11_38
  | 39, _ => exact pm_lay_11_39
  | 40, _ => exact pm_lay_11_40
  | 41, _ => exact pm_lay_11_41
  | 42, _ => exact pm_lay_11_42
  | 43, _ => exact pm_lay_11_43
  | 44, _ => exact pm_lay_11_44
  | 45, _ => exact pm_lay_11_45
  | 46, _ => exact pm_lay_11_46
  | 47, _ => exact pm_lay_11_47
  | 48, _ => exact pm_lay_11_48
  | 49, _ => exact pm_lay_11_49
  | 50, _ => exact pm_lay_11_50
  | 51, _ => exact pm_lay_11_51
  | 52, _ => exact pm_lay_11_52
  | 53, _ => exact pm_lay_11_53
  | 54, _ => exact pm_lay_11_54
  | 55, _ => exact pm_lay_11_55
  | 56, _ => exact pm_lay_11_56
  | 57, _ => exact pm_lay_11_57
  | 58, _ => exact pm_lay_11_58
  | 59, _ => exact pm_lay_11_59
  | 60, _ => exact pm_lay_11_60
  | 61, _ => exact pm_lay_11_61
  | 62, _ => exact pm_lay_11_62
  | 63, _ => exact pm_lay_11_63
  | 64, _ => exact pm_lay_11_64
  | 65, _ => exact pm_lay_11_65
  | 66, _ => exact pm_lay_11_66
  | 67, _ => exact pm_lay_11_67
  | 68, _ => exact pm_lay_11_68
  | 69, _ => exact pm_lay_11_69
  | 70, _ => exact pm_lay_11_70
  | 71, _ => exact pm_lay_11_71
  | 72, _ => exact pm_lay_11_72
  | 73, _ => exact pm_lay_11_73
  | 74, _ => exact pm_lay_11_74
  | 75, _ => exact pm_lay_11_75
  | 76, _ => exact pm_lay_11_76
  | 77, _ => exact pm_lay_11_77
  | 78, _ => exact pm_lay_11_78
  | 79, _ => exact pm_lay_11_79
  | 80, _ => exact pm_lay_11_80
  | 81, _ => exact pm_lay_11_81
  | 82, _ => exact pm_lay_11_82
  | 83, _ => exact pm_lay_11_83
  | 84, _ => exact pm_lay_11_84
  | 85, _ => exact pm_lay_11_85
  | 86, _ => exact pm_lay_11_86
  | 87, _ => exact pm_lay_11_87
  | 88, _ => exact pm_lay_11_88
  | 89, _ => exact pm_lay_11_89
  | 90, _ => exact pm_lay_11_90
  | 91, _ => exact pm_lay_11_91
  | 92, _ => exact pm_lay_11_92
  | 93, _ => exact pm_lay_11_93
  | 94, _ => exact pm_lay_11_94
  | 95, _ => exact pm_lay_11_95
  | 96, _ => exact pm_lay_11_96
  | 97, _ => exact pm_lay_11_97
  | 98, _ => exact pm_lay_11_98
  | 99, _ => exact pm_lay_11_99
  | 100, _ => exact pm_lay_11_100
  | 101, _ => exact pm_lay_11_101
  | 102, _ => exact pm_lay_11_102
  | 103, _ => exact pm_lay_11_103
  | 104, _ => exact pm_lay_11_104
  | 105, _ => exact pm_lay_11_105
  | 106, _ => exact pm_lay_11_106
  | k + 107, h => exact absurd h (by omega)
theorem pm_cwall : ∀ c, c < 12 → pm_cw c := by
  intro c hc
  match c, hc with
  | 0, _ => exact pm_cw_0
  | 1, _ => exact pm_cw_1
  | 2, _ => exact pm_cw_2
  | 3, _ => exact pm_cw_3
  | 4, _ => exact pm_cw_4
  | 5, _ => exact pm_cw_5
  | 6, _ => exact pm_cw_6
  | 7, _ => exact pm_cw_7
  | 8, _ => exact pm_cw_8
  | 9, _ => exact pm_cw_9
  | 10, _ => exact pm_cw_10
  | 11, _ => exact pm_cw_11
  | c + 12, h => exact absurd h (by omega)
theorem pm_clk : ∀ c, c < 12 → pm_cl[c]? = some (pm_on c, pm_Tf c, pm_nf c) := by
  intro c hc
  match c, hc with
  | 0, _ => rfl
  | 1, _ => rfl
  | 2, _ => rfl
  | 3, _ => rfl
  | 4, _ => rfl
  | 5, _ => rfl
  | 6, _ => rfl
  | 7, _ => rfl
  | 8, _ => rfl
  | 9, _ => rfl
  | 10, _ => rfl
  | 11, _ => rfl
  | c + 12, h => exact absurd h (by omega)
theorem pm_us_0 : (.fieldLinkNest (pm_on 2) 68 "FallenHouses" "ITSELF_AND_ABOVE" "[I" "FallenHouses" : Cond) ∈ lw_tbl := pm_in_5 (List.mem_of_getElem? (i := 155) rfl)
theorem pm_us_1 : (.fieldLink (pm_on 2) 87 "FallenHouses$Host" "BODIES" "[I" : Cond) ∈ lw_tbl := pm_in_5 (List.mem_of_getElem? (i := 169) rfl)
theorem pm_us_2 : (.fieldLink (pm_on 3) 97 "FallenHouses$Land" "HOURS" "[I" : Cond) ∈ lw_tbl := pm_in_4 (List.mem_of_getElem? (i := 163) rfl)
theorem pm_us_3 : (.fieldLinkNest (pm_on 4) 58 "FallenHouses" "ITSELF_AND_ABOVE" "[I" "FallenHouses" : Cond) ∈ lw_tbl := pm_in_3 (List.mem_of_getElem? (i := 53) rfl)
theorem pm_us_4 : (.fieldLink (pm_on 12) 38 "java/lang/String" "COMPACT_STRINGS" "Z" : Cond) ∈ lw_tbl := pm_in_3 (List.mem_of_getElem? (i := 173) rfl)
theorem pm_us_5 : (.fieldLink (pm_on 12) 1053 "jdk/internal/util/Preconditions" "SIOOBE_FORMATTER" "Ljava/util/function/BiFunction;" : Cond) ∈ lw_tbl := pm_in_3 (List.mem_of_getElem? (i := 189) rfl)
theorem pm_uq_0 : (.fieldLink (pm_on 12) 9 "java/lang/String" "value" "[B" : Cond) ∈ lw_tbl := pm_in_9 (List.mem_of_getElem? (i := 113) rfl)
theorem pm_uq_1 : (.fieldLink (pm_on 12) 15 "java/lang/String" "coder" "B" : Cond) ∈ lw_tbl := pm_in_9 (List.mem_of_getElem? (i := 114) rfl)
theorem pm_arc_int : (.arrayClass .int : Cond) ∈ lw_tbl := pm_in_1 (List.mem_of_getElem? (i := 64) rfl)
theorem pm_arc_byte : (.arrayClass .byte : Cond) ∈ lw_tbl := pm_in_1 (List.mem_of_getElem? (i := 220) rfl)
theorem pm_arc_long : (.arrayClass .long : Cond) ∈ lw_tbl := pm_in_7 (List.mem_of_getElem? (i := 48) rfl)
theorem pm_sys_st : (.static arraycopyName : Cond) ∈ lw_tbl := pm_in_4 (List.mem_of_getElem? (i := 189) rfl)
theorem pm_sys_nat : (.native arraycopyName : Cond) ∈ lw_tbl := pm_in_4 (List.mem_of_getElem? (i := 190) rfl)
theorem pm_sys_ini : (.initialized "java/lang/System" : Cond) ∈ lw_tbl := pm_in_1 (List.mem_of_getElem? (i := 20) rfl)
theorem pm_obj_in : (.instanceMethod Lib.objectInit : Cond) ∈ lw_tbl := pm_in_1 (List.mem_of_getElem? (i := 27) rfl)
theorem pm_obj_code : (.code Lib.objectInit ⟨#[0xb1]⟩ 1 none : Cond) ∈ lw_tbl := pm_in_1 (List.mem_of_getElem? (i := 28) rfl)
def pm_a2 : List Int32 := [1, 3, 7, 9, 17, 33, 97, 129]
def pm_a3 : List Int32 := [3, 2, 1, 4]
def pm_a4 : List Int32 := [10, 10, 30, 10, 50, 10, 70, 10, 11, 20, 20, 11, 11, 11, 11, 80, 12, 12, 12, 40, 12, 60, 71, 12, 13, 13, 31, 13, 13, 61, 61, 13]
def pm_a6 : List Int32 := [114, 105, 103, 104, 116, 32, 114, 101, 110, 116, 32, 108, 101, 97, 115, 101, 32, 97, 108, 109, 115, 32, 112, 101, 110, 115, 105, 111, 110, 32, 100, 101, 98, 116, 32, 112, 108, 101, 100, 103, 101, 32, 99, 108, 97, 105, 109, 32, 115, 116, 97, 110, 100, 32, 102, 97, 108, 108, 32, 114, 97, 110, 107, 32, 105, 102, 32, 97, 110, 100, 32, 111, 114, 32, 110, 111, 116, 32, 111, 114, 100, 101, 114, 32, 97, 109, 111, 117, 110, 116, 32, 97, 98, 111, 118, 101, 32, 100, 97, 116, 101, 100, 32, 119, 105, 116, 104, 105, 110, 32, 104, 101, 108, 100, 32]
def pm_text : String := "right rent lease alms pension debt pledge claim stand fall rank if and or not order amount above dated within held "
theorem pm_ustr : (.stringRef "FallenHouses$Text" 86 pm_text : Cond) ∈ lw_tbl := pm_in_3 (List.mem_of_getElem? (i := 164) rfl)
theorem pm_ls_ITSELF_AND_ABOVE : (.laysStatic "FallenHouses" "ITSELF_AND_ABOVE" "[I" : Cond) ∈ lw_tbl := pm_in_3 (List.mem_of_getElem? (i := 54) rfl)
theorem pm_ls_HOURS : (.laysStatic "FallenHouses$Land" "HOURS" "[I" : Cond) ∈ lw_tbl := pm_in_4 (List.mem_of_getElem? (i := 164) rfl)
theorem pm_ls_BODIES : (.laysStatic "FallenHouses$Host" "BODIES" "[I" : Cond) ∈ lw_tbl := pm_in_5 (List.mem_of_getElem? (i := 170) rfl)
theorem pm_ls_COMPACT_STRINGS : (.laysStatic "java/lang/String" "COMPACT_STRINGS" "Z" : Cond) ∈ lw_tbl := pm_in_3 (List.mem_of_getElem? (i := 174) rfl)
theorem pm_ls_SIOOBE_FORMATTER : (.laysStatic "jdk/internal/util/Preconditions" "SIOOBE_FORMATTER" "Ljava/util/function/BiFunction;" : Cond) ∈ lw_tbl := pm_in_3 (List.mem_of_getElem? (i := 190) rfl)
