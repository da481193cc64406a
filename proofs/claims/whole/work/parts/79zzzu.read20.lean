/-! THE CALL read: the whole of it. -/
theorem inv_fin {I I' : Nat → Nat → Int32} {J J' : Nat → Nat → Int64} {X : Nat → Int32} {b : Bool} (hI : pm_inv X b I J) (e : ∀ r, (¬ (20 ≤ r ∧ r ≤ 25) ∧ ¬ r = 40 ∧ ¬ (42 ≤ r ∧ r ≤ 47) ∧ ¬ (79 ≤ r ∧ r ≤ 80) ∧ ¬ (112 ≤ r ∧ r ≤ 123)) → I' r = I r) (e80 : ∀ j, ¬ j = 5 → I' 80 j = I 80 j) (e79 : ∀ j, (j < 61 ∨ 69 < j) → I' 79 j = I 79 j) (eJ : J' 153 = J 153)
    (txt : pm_ti (I' 42) 3 301 ∧ pm_ti (I' 44) 5 10 ∧ pm_ti (I' 46) 2 100 ∧ I' 40 1 = 0 ∧ I' 79 61 = 0)
    (ver : pg_ver (I' 20) (I' 21) (I' 22) (I' 23) (I' 24) (I' 25) (I' 80 5) (I' 80 0) (I' 112) (I' 113) (I' 114) (I' 115) (I' 116) (I' 117) (I' 118) (I' 119) (I' 120) (I' 121) (I' 122) (I' 123)) : pm_inv X b I' J' := by
  obtain ⟨⟨htod, hroa, hper, hhou, hthi, hrig, hver, hsea, hsta, hlot, hbuy, hdee, hple⟩, htxt, hrid, htmp, hshe, hshf, htra, hk, hkept, hcon⟩ := hI
  obtain ⟨x1, x2, x3, x4, x5⟩ := txt
  refine ⟨⟨by rw [e 9 (by decide), e80 0 (by decide)]; exact htod, by rw [e 10 (by decide), e 11 (by decide), e 81 (by decide)]; exact hroa, by rw [e 12 (by decide), e 13 (by decide), e 82 (by decide), e 83 (by decide), e80 1 (by decide)]; exact hper, by rw [e 14 (by decide), e 15 (by decide), e 84 (by decide), e 85 (by decide), e 86 (by decide), e 87 (by decide), e 88 (by decide), e 89 (by decide), e 90 (by decide), e 91 (by decide), e 92 (by decide), e 93 (by decide), e80 2 (by decide), e80 0 (by decide)]; exact hhou, by rw [e 16 (by decide), e 17 (by decide), e 94 (by decide), e 95 (by decide), e 96 (by decide), e 97 (by decide), e 98 (by decide), e80 3 (by decide), e80 2 (by decide)]; exact hthi, by rw [e 18 (by decide), e 19 (by decide), e 99 (by decide), e 100 (by decide), e 101 (by decide), e 102 (by decide), e 103 (by decide), e 104 (by decide), e 105 (by decide), e 106 (by decide), e 107 (by decide), e 108 (by decide), e 109 (by decide), e 110 (by decide), e 111 (by decide), e80 4 (by decide), e80 1 (by decide), e80 2 (by decide), e80 3 (by decide)]; exact hrig, ver, by rw [e 26 (by decide), e 27 (by decide), e 124 (by decide)]; exact hsea, by rw [e 28 (by decide), e 29 (by decide), e 125 (by decide), e 126 (by decide), e 127 (by decide), e80 6 (by decide), e80 1 (by decide)]; exact hsta, by rw [e 30 (by decide), e 31 (by decide), e 128 (by decide), e80 7 (by decide)]; exact hlot, by rw [e 32 (by decide), e 33 (by decide), e 129 (by decide), e80 8 (by decide)]; exact hbuy, by rw [e 34 (by decide), e 35 (by decide), e 130 (by decide), e 131 (by decide), e 132 (by decide), e 133 (by decide), e 134 (by decide), e 135 (by decide), e80 9 (by decide)]; exact hdee, by rw [e 86 (by decide), e 88 (by decide), e 93 (by decide), e 94 (by decide), e 96 (by decide), e 97 (by decide), e 99 (by decide), e 100 (by decide), e 105 (by decide), e80 2 (by decide), e80 3 (by decide), e80 4 (by decide)]; exact hple⟩, ⟨⟨x1, x2, x3⟩, by rw [x4, x5], by rw [x5]; decide, by rw [x5]; decide, fun i hi => absurd hi (by rw [x5]; exact Nat.not_lt_zero i)⟩, by rw [e 49 (by decide), e 50 (by decide), e 51 (by decide), e 52 (by decide), e 53 (by decide), e 55 (by decide), e 144 (by decide), e 145 (by decide), e 146 (by decide), e 147 (by decide), e79 83 (by decide), e79 84 (by decide), e79 85 (by decide)]; exact hrid, by rw [e 38 (by decide), e 58 (by decide), e 60 (by decide), e 62 (by decide), e 65 (by decide), e 68 (by decide)]; exact htmp, by rw [e 71 (by decide), e 72 (by decide), e 73 (by decide), e 74 (by decide), e 151 (by decide), e 152 (by decide), eJ]; exact hshe, by rw [e 75 (by decide), e 76 (by decide), e 154 (by decide), e 155 (by decide), e 156 (by decide)]; exact hshf, by rw [e 77 (by decide), e 78 (by decide), e 157 (by decide), e79 101 (by decide)]; exact htra, ?_, pm_kept_cg (fun i hi => e i (by omega)) (e 136 (by decide)) hkept, by rw [e 1 (by decide), e 2 (by decide), e 3 (by decide), e 4 (by decide), e 5 (by decide), e 6 (by decide)]; exact hcon⟩
  rw [e79 57 (by decide)]; exact hk
/-- what the class's reader leaves, the text gone -/
def rd_XE (I I2 : Nat → Nat → Int32) : Prop := (∀ r, ¬ r = 40 → ¬ (42 ≤ r ∧ r ≤ 47) → I2 r = I r) ∧ pm_ti (I2 42) 3 301 ∧ pm_ti (I2 44) 5 10 ∧ pm_ti (I2 46) 2 100 ∧ I2 40 1 = 0
theorem xe_of {c : Nat → Nat} {n M f : Nat} {I I0 I1 : Nat → Nat → Int32} (f0 : ∀ r, ¬ r = 42 → ¬ r = 43 → I0 r = I r) (tk : rd_tk c n M I0) (h : rd_yf I0 f I1) : rd_XE I (pm_u I1 40 1 0) := by
  have z : ∀ r, ¬ r = 40 → pm_u I1 40 1 0 r = I1 r := fun r hr => by rw [pm_u_row, if_neg hr]
  obtain ⟨h1, h2, h3, h4, h5⟩ := h
  refine ⟨fun r a e => ?_, ?_, ?_, ?_, pm_u_at _ _ _ _⟩
  · rw [z r a, h1 r a (by omega) (by omega) (by omega) (by omega), f0 r (by omega) (by omega)]
  · rw [z 42 (by decide), h1 42 (by decide) (by decide) (by decide) (by decide) (by decide)]; exact tk.1
  · rw [z 44 (by decide)]; exact h3
  · rw [z 46 (by decide)]; exact h4
/-- what the reference's reader leaves -/
def rd_RE (sl : Nat) (I I3 : Nat → Nat → Int32) : Prop := (∀ r, ¬ r = 79 → ¬ r = 113 → ¬ (116 ≤ r ∧ r ≤ 123) → I3 r = I r) ∧ (∀ j, (j < 61 ∨ 69 < j) → I3 79 j = I 79 j) ∧ I3 79 69 = Int32.ofNat sl ∧ (∀ j, ¬ j = sl → I3 113 j = I 113 j) ∧ (∀ j, j < 80 * sl → I3 122 j = I 122 j ∧ I3 123 j = I 123 j) ∧ ∀ r, 117 ≤ r → r ≤ 121 → ∀ j, j < 10 * sl → I3 r j = I r j
theorem re_of {sl : Nat} {I I3 : Nat → Nat → Int32} {J J3 : Nat → Nat → Int64} (h : (∀ r, ¬ r = 79 → ¬ r = 113 → ¬ (116 ≤ r ∧ r ≤ 123) → I3 r = (pm_u I 79 69 (Int32.ofNat sl)) r) ∧ (∀ j, ¬ j = 62 → ¬ j = 63 → ¬ j = 64 → ¬ j = 66 → ¬ j = 67 → ¬ j = 68 → I3 79 j = (pm_u I 79 69 (Int32.ofNat sl)) 79 j) ∧ (∀ r, ¬ r = 79 → J3 r = J r) ∧ (∀ j, ¬ j = sl → I3 113 j = (pm_u I 79 69 (Int32.ofNat sl)) 113 j ∧ I3 116 j = (pm_u I 79 69 (Int32.ofNat sl)) 116 j) ∧ (∀ j, j < 80 * sl → I3 122 j = (pm_u I 79 69 (Int32.ofNat sl)) 122 j ∧ I3 123 j = (pm_u I 79 69 (Int32.ofNat sl)) 123 j) ∧ ∀ r, 117 ≤ r → r ≤ 121 → ∀ j, j < 10 * sl → I3 r j = (pm_u I 79 69 (Int32.ofNat sl)) r j) : rd_RE sl I I3 ∧ J3 153 = J 153 := by
  have z : ∀ r, ¬ r = 79 → pm_u I 79 69 (Int32.ofNat sl) r = I r := fun r hr => by rw [pm_u_row, if_neg hr]
  obtain ⟨h1, h2, h3, h4, h5, h6⟩ := h
  refine ⟨⟨fun r a e f => ?_, fun j hj => ?_, ?_, fun j hj => ?_, fun j hj => ?_, fun r a e j hj => ?_⟩, h3 153 (by decide)⟩
  · rw [h1 r a e f, z r a]
  · rw [h2 j (by omega) (by omega) (by omega) (by omega) (by omega) (by omega), pm_u_row, if_pos rfl, pm_w_ne (by omega)]
  · rw [h2 69 (by decide) (by decide) (by decide) (by decide) (by decide) (by decide), pm_u_at]
  · rw [(h4 j hj).1, z 113 (by decide)]
  · rw [(h5 j hj).1, (h5 j hj).2, z 122 (by decide), z 123 (by decide)]; exact ⟨rfl, rfl⟩
  · rw [h6 r a e j hj, z r (by omega)]
/-- nothing was added -/
theorem inv_no {I I2 I3 : Nat → Nat → Int32} {J J3 : Nat → Nat → Int64} {X : Nat → Int32} {b : Bool} {sl : Nat} (hI : pm_inv X b I J) (h80 : I 80 5 = Int32.ofNat sl) (sl12 : sl ≤ 12) (xe : rd_XE I I2) (re : rd_RE sl I2 I3) (eJ : J3 153 = J 153) : pm_inv X b (pm_u I3 79 61 0) J3 := by
  obtain ⟨a1, a2, a3, a4, a5⟩ := xe
  obtain ⟨b1, b2, b3, b4, b5, b6⟩ := re
  have hver := hI.1.2.2.2.2.2.2.1
  have z : ∀ r, ¬ r = 79 → pm_u I3 79 61 0 r = I3 r := fun r hr => by rw [pm_u_row, if_neg hr]
  have zz : ∀ r, ¬ r = 40 → ¬ (42 ≤ r ∧ r ≤ 47) → ¬ r = 79 → ¬ r = 113 → ¬ (116 ≤ r ∧ r ≤ 123) → pm_u I3 79 61 0 r = I r := fun r c1 c2 c3 c4 c5 => by rw [z r c3, b1 r c3 c4 c5, a1 r c1 c2]
  have g := on_n (a := sl) (by omega)
  refine inv_fin hI (fun r hr => zz r (by omega) (by omega) (by omega) (by omega) (by omega)) (fun j _ => by rw [zz 80 (by decide) (by decide) (by decide) (by decide) (by decide)]) (fun j hj => ?_) eJ ⟨?_, ?_, ?_, ?_, pm_u_at _ _ _ _⟩ ?_
  · rw [pm_u_row, if_pos rfl, pm_w_ne (by omega), b2 j hj, a1 79 (by decide) (by decide)]
  · rw [z 42 (by decide), b1 42 (by decide) (by decide) (by decide)]; exact a2
  · rw [z 44 (by decide), b1 44 (by decide) (by decide) (by decide)]; exact a3
  · rw [z 46 (by decide), b1 46 (by decide) (by decide) (by decide)]; exact a4
  · rw [z 40 (by decide), b1 40 (by decide) (by decide) (by decide)]; exact a5
  · rw [zz 20 (by decide) (by decide) (by decide) (by decide) (by decide), zz 21 (by decide) (by decide) (by decide) (by decide) (by decide), zz 22 (by decide) (by decide) (by decide) (by decide) (by decide), zz 23 (by decide) (by decide) (by decide) (by decide) (by decide), zz 24 (by decide) (by decide) (by decide) (by decide) (by decide), zz 25 (by decide) (by decide) (by decide) (by decide) (by decide), zz 80 (by decide) (by decide) (by decide) (by decide) (by decide), zz 112 (by decide) (by decide) (by decide) (by decide) (by decide), zz 114 (by decide) (by decide) (by decide) (by decide) (by decide), zz 115 (by decide) (by decide) (by decide) (by decide) (by decide)]
    refine ver_fr hver (fun v hv => ?_) (fun j hj => ?_) (fun j hj => ?_)
    · rw [h80, g.2.1] at hv
      rw [z 113 (by decide), b4 v (by omega), a1 113 (by decide) (by decide)]
    · rw [h80, g.2.1] at hj
      rw [z 117 (by decide), z 118 (by decide), z 119 (by decide), z 120 (by decide), z 121 (by decide), b6 117 (by decide) (by decide) j hj, b6 118 (by decide) (by decide) j hj, b6 119 (by decide) (by decide) j hj, b6 120 (by decide) (by decide) j hj, b6 121 (by decide) (by decide) j hj, a1 117 (by decide) (by decide), a1 118 (by decide) (by decide), a1 119 (by decide) (by decide), a1 120 (by decide) (by decide), a1 121 (by decide) (by decide)]
      exact ⟨rfl, rfl, rfl, rfl, rfl⟩
    · rw [h80, g.2.1] at hj
      rw [z 122 (by decide), z 123 (by decide), (b5 j hj).1, (b5 j hj).2, a1 122 (by decide) (by decide), a1 123 (by decide) (by decide)]
      exact ⟨rfl, rfl⟩

