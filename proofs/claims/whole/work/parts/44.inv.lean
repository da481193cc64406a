/-! WHAT HOLDS BETWEEN THE CALLS: the class's tables (x: rows by the numbers of cells) hold what the reference's rows (r) hold. -/
theorem pr_isPersons {n p : Int32} (h : 0 ≤ n) : (0 ≤ p ∧ p ≤ n - 1) ↔ (0 ≤ p ∧ p < n) := by
  rw [pi_le, pi_0] at h
  have := pi_hi n
  have e : (n - 1).toInt = n.toInt - 1 := by rw [pi_sub (by rw [pi_1]; omega) (by rw [pi_1]; omega), pi_1]
  rw [pi_le (a := p), pi_lt (a := p), e]
  constructor <;> intro g <;> exact ⟨g.1, by omega⟩
def pm_no (x : Int32) : Int32 := if x < 0 then -3 else x
theorem pm_no_eq' {x : Int32} : (pm_no x = -3) = (x < 0) := by
  unfold pm_no
  by_cases h : x < 0
  · simp [h]
  · simp only [h, ite_false, eq_iff_iff, iff_false]
    intro g; rw [g] at h; exact h (by decide)
def pg_per (t c : Nat → Int32) (n : Int32) (born died : Nat → Int32) : Prop :=
  (pm_ti t 2 16 ∧ t 3 = n) ∧ ∀ p : Nat, p < n.toNatClampNeg → c (2 * p + 0) = born p ∧ c (2 * p + 1) = pm_no (died p)
def pg_hou (t c : Nat → Int32) (n today : Int32) (place order coin fear fell stripped due roll rollday had : Nat → Int32) : Prop :=
  (pm_ti t 10 8 ∧ t 3 = n) ∧ ∀ h : Nat, h < n.toNatClampNeg →
    (c (10 * h + 0) = place h ∧ c (10 * h + 1) = order h ∧ c (10 * h + 2) = coin h ∧ c (10 * h + 3) = fear h ∧ c (10 * h + 4) = pm_no (fell h) ∧ c (10 * h + 5) = pm_no (stripped h) ∧ c (10 * h + 6) = due h ∧ c (10 * h + 7) = (if fell h < 0 then -3 else had h) ∧ c (10 * h + 8) = roll h ∧ c (10 * h + 9) = pm_no (rollday h)) ∧
    0 ≤ place h ∧ place h ≤ 9 ∧ -1 ≤ fell h ∧ fell h ≤ today ∧ -1 ≤ stripped h ∧ stripped h ≤ today
def pg_thi (t c : Nat → Int32) (n nH : Int32) (house kind worth is shown : Nat → Int32) : Prop :=
  (pm_ti t 5 24 ∧ t 3 = n) ∧ ∀ k : Nat, k < n.toNatClampNeg →
    (c (5 * k + 0) = house k ∧ c (5 * k + 1) = kind k ∧ c (5 * k + 2) = worth k ∧ c (5 * k + 3) = is k ∧ c (5 * k + 4) = shown k) ∧
    0 ≤ house k ∧ house k < nH ∧ 0 ≤ kind k ∧ kind k ≤ 3
def pg_rig (t c : Nat → Int32) (n nP nH nT : Int32) (kind house person amount fr to is leans proved seals told wit witOf : Nat → Int32) : Prop :=
  (pm_ti t 16 24 ∧ t 3 = n) ∧ ∀ q : Nat, q < n.toNatClampNeg →
    (c (16 * q + 0) = kind q ∧ c (16 * q + 1) = house q ∧ c (16 * q + 2) = person q ∧ c (16 * q + 3) = amount q ∧ c (16 * q + 4) = fr q ∧ c (16 * q + 5) = to q ∧ c (16 * q + 6) = pm_no (leans q) ∧ c (16 * q + 7) = is q ∧ c (16 * q + 9) = pm_no (proved q) ∧ c (16 * q + 10) = pm_no (seals q) ∧ c (16 * q + 11) = pm_no (told q) ∧ c (16 * q + 12) = wit q) ∧
    (∀ i : Nat, i < (wit q).toNatClampNeg → c (16 * q + (13 + i)) = witOf (3 * q + i) ∧ 0 ≤ witOf (3 * q + i) ∧ witOf (3 * q + i) < nP) ∧
    0 ≤ kind q ∧ kind q ≤ 7 ∧ 0 ≤ house q ∧ house q < nH ∧ 0 ≤ person q ∧ person q < nP ∧ 1 ≤ amount q ∧ amount q ≤ 999 ∧ 0 ≤ fr q ∧ fr q ≤ 3599 ∧ 0 ≤ to q ∧ to q ≤ 3599 ∧ -1 ≤ leans q ∧ (leans q).toInt < q ∧
    (kind q = 2 → 0 ≤ is q ∧ is q ≤ 3599) ∧ (kind q = 6 → 0 ≤ is q ∧ is q < nT) ∧ -1 ≤ seals q ∧ seals q ≤ 3 ∧ 0 ≤ wit q ∧ wit q ≤ 3 ∧ -1 ≤ proved q ∧ proved q ≤ 3599 ∧ -1 ≤ told q ∧ told q ≤ 3599
/-- an op of the reference as the class's word -/
def pm_opw (o : Int32) : Int32 := if o = 1 then 13 else if o = 2 then 12 else if o = 3 then 14 else if o = 4 then 15 else if o = 5 then 16 else if o = 6 then 18 else 20
/-- how many answers wait behind m signs of a COND, beside the first one -/
def pm_dep (opis : Nat → Int32) (a : Nat) : Nat → Int
  | 0 => 0
  | m + 1 => pm_dep opis a m + (if opis (a + m) = 1 ∨ opis (a + m) = 2 then -1 else if opis (a + m) = 3 then 0 else 1)
def pg_rul (cr cs : Nat → Int32) (f j v : Nat) (ns : Int32) (sort kinds rank rops rend opis opof : Nat → Int32) : Prop :=
  (cr (5 * f + 0) = sort j ∧ cr (5 * f + 1) = kinds j ∧ cr (5 * f + 2) = (if sort j = 2 then rank j else -3)) ∧
  0 ≤ sort j ∧ sort j ≤ 2 ∧ (sort j = 2 → 0 ≤ rank j ∧ rank j ≤ 9) ∧ 0 ≤ kinds j ∧ kinds j ≤ 255 ∧ 0 ≤ rops j ∧ rops j ≤ rend j ∧ rend j ≤ 80 ∧ 0 ≤ cr (5 * f + 3) ∧ 0 ≤ cr (5 * f + 4) ∧ (cr (5 * f + 3)).toNatClampNeg + ((rend j).toNatClampNeg - (rops j).toNatClampNeg) = (cr (5 * f + 4)).toNatClampNeg ∧ (cr (5 * f + 4)).toNatClampNeg ≤ ns.toNatClampNeg ∧
  (∀ m : Nat, m ≤ (rend j).toNatClampNeg - (rops j).toNatClampNeg → 0 ≤ pm_dep opis (80 * v + (rops j).toNatClampNeg) m ∧ pm_dep opis (80 * v + (rops j).toNatClampNeg) m ≤ 24) ∧
  ∀ m : Nat, m < (rend j).toNatClampNeg - (rops j).toNatClampNeg → cs (2 * ((cr (5 * f + 3)).toNatClampNeg + m) + 0) = pm_opw (opis (80 * v + ((rops j).toNatClampNeg + m))) ∧ cs (2 * ((cr (5 * f + 3)).toNatClampNeg + m) + 1) = opof (80 * v + ((rops j).toNatClampNeg + m)) ∧ 1 ≤ opis (80 * v + ((rops j).toNatClampNeg + m)) ∧ opis (80 * v + ((rops j).toNatClampNeg + m)) ≤ 7
def pg_ver (t c tr cr ts cs : Nat → Int32) (n today : Int32) (act rules fr till ops sort kinds rank rops rend opis opof : Nat → Int32) : Prop :=
  (pm_ti t 5 12 ∧ t 3 = n ∧ pm_ti tr 5 120 ∧ pm_ti ts 2 1200) ∧ (tr 3).toNatClampNeg ≤ 10 * n.toNatClampNeg ∧ (ts 3).toNatClampNeg ≤ 100 * n.toNatClampNeg ∧
  (∀ v : Nat, v < n.toNatClampNeg →
    (c (5 * v + 0) = act v ∧ c (5 * v + 1) = rules v ∧ c (5 * v + 2) = fr v ∧ c (5 * v + 3) = pm_no (till v)) ∧ 0 ≤ act v ∧ act v ≤ 3 ∧ 0 ≤ rules v ∧ rules v ≤ 10 ∧ 0 ≤ fr v ∧ fr v ≤ today ∧ -1 ≤ till v ∧ till v ≤ today ∧
    0 ≤ c (5 * v + 4) ∧ (c (5 * v + 4)).toNatClampNeg + (rules v).toNatClampNeg ≤ (tr 3).toNatClampNeg ∧
    ∀ i : Nat, i < (rules v).toNatClampNeg → pg_rul cr cs ((c (5 * v + 4)).toNatClampNeg + i) (10 * v + i) v (ts 3) sort kinds rank rops rend opis opof) ∧
  ∀ v w : Nat, v < w → w < n.toNatClampNeg → act v = act w → 0 ≤ till v ∧ till v ≤ fr w
def pg_roa (t c : Nat → Int32) (roads : Nat → Int32) : Prop := (pm_ti t 10 10 ∧ t 3 = 10) ∧ ∀ j : Nat, j < 100 → c j = roads j ∧ 0 ≤ roads j ∧ roads j ≤ 20
def pg_sea (t c : Nat → Int32) (from_ : Nat → Int32) : Prop := (pm_ti t 1 4 ∧ t 3 = 4) ∧ ∀ j : Nat, j < 4 → c (1 * j + 0) = from_ j
def pg_sta (t c : Nat → Int32) (n nP : Int32) (person place day : Nat → Int32) : Prop :=
  (pm_ti t 3 24 ∧ t 3 = n) ∧ ∀ k : Nat, k < n.toNatClampNeg → (c (3 * k + 0) = person k ∧ c (3 * k + 1) = place k ∧ c (3 * k + 2) = day k) ∧ 0 ≤ place k ∧ place k ≤ 9 ∧ 0 ≤ day k ∧ day k ≤ 3599
def pg_lot (t c : Nat → Int32) (n : Int32) (price : Nat → Int32) : Prop :=
  (pm_ti t 1 7 ∧ t 3 = n) ∧ ∀ k : Nat, k < n.toNatClampNeg → c (1 * k + 0) = price k ∧ 1 ≤ price k ∧ price k ≤ 99
def pg_buy (t c : Nat → Int32) (n : Int32) (coin : Nat → Int32) : Prop :=
  (pm_ti t 1 3 ∧ t 3 = n) ∧ ∀ k : Nat, k < n.toNatClampNeg → c (1 * k + 0) = coin k ∧ 0 ≤ coin k ∧ coin k ≤ 300
def pg_dee (t c : Nat → Int32) (n : Int32) (field fr to day amount known : Nat → Int32) : Prop :=
  (pm_ti t 6 24 ∧ t 3 = n) ∧ ∀ k : Nat, k < n.toNatClampNeg → (c (6 * k + 0) = field k ∧ c (6 * k + 1) = fr k ∧ c (6 * k + 2) = to k ∧ c (6 * k + 3) = day k ∧ c (6 * k + 4) = amount k ∧ c (6 * k + 5) = known k) ∧ 0 ≤ fr k ∧ 0 ≤ to k ∧ 0 ≤ day k ∧ day k ≤ 3599
def pg_tod (x t : Int32) : Prop := x = t ∧ 0 ≤ t ∧ t ≤ 3599
/-- what the pledges of a house take of its things, at the most: those of the first q rights -/
def pm_pl (worth kind rh ris : Nat → Int32) (h : Nat) : Nat → Int
  | 0 => 0
  | q + 1 => pm_pl worth kind rh ris h q + (if kind q = 6 ∧ (rh q).toNatClampNeg = h then (worth (ris q).toNatClampNeg).toInt else 0)
/-- coin and worths, and the things that are pledged -/
def pg_ple (nH nT nR : Int32) (coin fell had house worth is kind rh ris : Nat → Int32) : Prop :=
  (∀ h : Nat, h < nH.toNatClampNeg → 0 ≤ coin h ∧ coin h ≤ 9999 ∧ (0 ≤ fell h → pm_pl worth kind rh ris h nR.toNatClampNeg ≤ (had h).toInt)) ∧
  (∀ k : Nat, k < nT.toNatClampNeg → 1 ≤ worth k ∧ worth k ≤ 99) ∧
  (∀ q : Nat, q < nR.toNatClampNeg → kind q = 6 → 0 ≤ ris q ∧ ris q < nT ∧ is (ris q).toNatClampNeg = 2 ∧ house (ris q).toNatClampNeg = rh q) ∧
  ∀ p q : Nat, p < q → q < nR.toNatClampNeg → kind p = 6 → kind q = 6 → ris p ≠ ris q
def pm_land (x r : Nat → Nat → Int32) : Prop :=
  pg_tod (x 9 0) (r 80 0) ∧ pg_roa (x 10) (x 11) (r 81) ∧ pg_per (x 12) (x 13) (r 80 1) (r 82) (r 83) ∧
  pg_hou (x 14) (x 15) (r 80 2) (r 80 0) (r 84) (r 85) (r 86) (r 87) (r 88) (r 89) (r 90) (r 91) (r 92) (r 93) ∧
  pg_thi (x 16) (x 17) (r 80 3) (r 80 2) (r 94) (r 95) (r 96) (r 97) (r 98) ∧
  pg_rig (x 18) (x 19) (r 80 4) (r 80 1) (r 80 2) (r 80 3) (r 99) (r 100) (r 101) (r 102) (r 103) (r 104) (r 105) (r 106) (r 107) (r 108) (r 109) (r 110) (r 111) ∧
  pg_ver (x 20) (x 21) (x 22) (x 23) (x 24) (x 25) (r 80 5) (r 80 0) (r 112) (r 113) (r 114) (r 115) (r 116) (r 117) (r 118) (r 119) (r 120) (r 121) (r 122) (r 123) ∧
  pg_sea (x 26) (x 27) (r 124) ∧ pg_sta (x 28) (x 29) (r 80 6) (r 80 1) (r 125) (r 126) (r 127) ∧
  pg_lot (x 30) (x 31) (r 80 7) (r 128) ∧ pg_buy (x 32) (x 33) (r 80 8) (r 129) ∧
  pg_dee (x 34) (x 35) (r 80 9) (r 130) (r 131) (r 132) (r 133) (r 134) (r 135) ∧
  pg_ple (r 80 2) (r 80 3) (r 80 4) (r 86) (r 88) (r 93) (r 94) (r 96) (r 97) (r 99) (r 100) (r 105)
def pg_txt (t42 t44 t46 : Nat → Int32) (len taped : Int32) (c tape : Nat → Int32) : Prop :=
  (pm_ti t42 3 301 ∧ pm_ti t44 5 10 ∧ pm_ti t46 2 100) ∧ len = taped ∧ 0 ≤ taped ∧ taped ≤ 300 ∧ ∀ i : Nat, i < taped.toNatClampNeg → 0 ≤ tape i ∧ tape i ≤ 255 ∧ c i = (tape i).toInt8.toInt32
def pg_rid (t49 c50 t51 c52 t53 t55 : Nat → Int32) (has rode rows : Int32) (rodeH rodeD rowH rowD : Nat → Int32) : Prop :=
  (pm_ti t49 2 7 ∧ pm_ti t51 2 7 ∧ pm_ti t53 1 7 ∧ t53 3 = 7 ∧ pm_ti t55 1 7) ∧ t49 3 = rows ∧ t51 3 = rode ∧ rows ≤ rode ∧ has = (if rode = 0 then 0 else 1) ∧
  (∀ i : Nat, i < rows.toNatClampNeg → c50 (2 * i + 0) = rowH i ∧ c50 (2 * i + 1) = rowD i) ∧
  ∀ i : Nat, i < rode.toNatClampNeg → c52 (2 * i + 0) = rodeH i ∧ c52 (2 * i + 1) = rodeD i
def pg_tmp (t38 t58 t60 t62 t65 t68 : Nat → Int32) : Prop :=
  pm_ti t38 3 24 ∧ (pm_ti t58 1 3 ∧ t58 3 = 3) ∧ (pm_ti t60 1 7 ∧ t60 3 = 7) ∧ pm_ti t62 1 7 ∧ pm_ti t65 1 24 ∧ pm_ti t68 1 256 ∧ t68 3 = 256
def pg_she (t71 c72 t73 c74 : Nat → Int32) (sort size : Nat → Int32) (cells : Nat → Int64) : Prop :=
  (pm_ti t71 2 4 ∧ t71 3 = 4 ∧ pm_ti t73 40 4 ∧ t73 3 = 4) ∧ ∀ s : Nat, s < 4 → (c72 (2 * s + 0) = sort s ∧ c72 (2 * s + 1) = size s) ∧ -1 ≤ sort s ∧ sort s ≤ 4 ∧ 0 ≤ size s ∧ size s ≤ 40 ∧ ∀ j : Nat, j < 40 → c74 (40 * s + j) = (cells (40 * s + j)).toInt32
def pg_shf (t75 c76 : Nat → Int32) (is of size : Nat → Int32) : Prop :=
  (pm_ti t75 3 4 ∧ t75 3 = 4) ∧ ∀ s : Nat, s < 4 → (is s = 2 ∧ c76 (3 * s + 0) = 2) ∨ (is s = 0 ∧ c76 (3 * s + 0) = 0 ∧ c76 (3 * s + 1) = of s) ∨ (10 ≤ is s ∧ is s ≤ 14 ∧ c76 (3 * s + 0) = 1 ∧ is s = 10 + c76 (3 * s + 1) ∧ c76 (3 * s + 2) = size s)
def pg_tra (t77 c78 : Nat → Int32) (bodies : Int32) (traced : Nat → Int32) : Prop :=
  (pm_ti t77 1 30) ∧ 0 ≤ bodies ∧ bodies ≤ 100 ∧ t77 3 = (if bodies < 30 then bodies else 30) ∧ ∀ i : Nat, i < (t77 3).toNatClampNeg → c78 (1 * i + 0) = traced i
/-- where a row lies in the reference's image -/
def pm_off (i : Nat) : Nat := ([0, 16, 116, 132, 148, 156, 164, 172, 180, 188, 196, 204, 212, 220, 228, 252, 276, 300, 324, 348, 372, 396, 420, 444, 468, 492, 516, 540, 564, 588, 612, 636, 708, 720, 732, 744, 756, 768, 888, 1008, 1128, 1248, 1368, 2328, 3288, 3292, 3316, 3340, 3364, 3371, 3374, 3398, 3422, 3446, 3470, 3494].getD (i - 80) 0)
def pm_im (g : Nat → Int32) (i j : Nat) : Int32 := g (pm_off i + j)
def pm_kept (b : Bool) (I : Nat → Nat → Int32) : Prop := b = true → pm_land (fun i => I (i + 149)) (pm_im (I 136))
def pg_con (s1 s2 s3 s4 s5 s6 X : Nat → Int32) : Prop := s1 = X ∧ (∀ j, s2 j = pm_a2.getD j 0) ∧ (∀ j, s3 j = pm_a3.getD j 0) ∧ (∀ j, s4 j = pm_a4.getD j 0) ∧ s5 1 = 0 ∧ ∀ j, s6 j = pm_a6.getD j 0
def pm_inv (X : Nat → Int32) (b : Bool) (I : Nat → Nat → Int32) (J : Nat → Nat → Int64) : Prop :=
  pm_land I I ∧ pg_txt (I 42) (I 44) (I 46) (I 40 1) (I 79 61) (I 41) (I 138) ∧
  pg_rid (I 49) (I 50) (I 51) (I 52) (I 53) (I 55) (I 79 83) (I 79 84) (I 79 85) (I 144) (I 145) (I 146) (I 147) ∧
  pg_tmp (I 38) (I 58) (I 60) (I 62) (I 65) (I 68) ∧ pg_she (I 71) (I 72) (I 73) (I 74) (I 151) (I 152) (J 153) ∧
  pg_shf (I 75) (I 76) (I 154) (I 155) (I 156) ∧ pg_tra (I 77) (I 78) (I 79 101) (I 157) ∧
  I 79 57 = (bif b then 1 else 0) ∧ pm_kept b I ∧ pg_con (I 1) (I 2) (I 3) (I 4) (I 5) (I 6) X
theorem pm_land_cg {x x' r r' : Nat → Nat → Int32} (hx : ∀ i, 9 ≤ i → i < 36 → x i = x' i) (hr : ∀ i, 80 ≤ i → i < 136 → r i = r' i) (h : pm_land x r) : pm_land x' r' := by
  unfold pm_land at h ⊢
  simpa only [hx 9 (by decide) (by decide), hx 10 (by decide) (by decide), hx 11 (by decide) (by decide), hx 12 (by decide) (by decide), hx 13 (by decide) (by decide), hx 14 (by decide) (by decide), hx 15 (by decide) (by decide), hx 16 (by decide) (by decide), hx 17 (by decide) (by decide), hx 18 (by decide) (by decide), hx 19 (by decide) (by decide), hx 20 (by decide) (by decide), hx 21 (by decide) (by decide), hx 22 (by decide) (by decide), hx 23 (by decide) (by decide), hx 24 (by decide) (by decide), hx 25 (by decide) (by decide), hx 26 (by decide) (by decide), hx 27 (by decide) (by decide), hx 28 (by decide) (by decide), hx 29 (by decide) (by decide), hx 30 (by decide) (by decide), hx 31 (by decide) (by decide), hx 32 (by decide) (by decide), hx 33 (by decide) (by decide), hx 34 (by decide) (by decide), hx 35 (by decide) (by decide), hr 80 (by decide) (by decide), hr 81 (by decide) (by decide), hr 82 (by decide) (by decide), hr 83 (by decide) (by decide), hr 84 (by decide) (by decide), hr 85 (by decide) (by decide), hr 86 (by decide) (by decide), hr 87 (by decide) (by decide), hr 88 (by decide) (by decide), hr 89 (by decide) (by decide), hr 90 (by decide) (by decide), hr 91 (by decide) (by decide), hr 92 (by decide) (by decide), hr 93 (by decide) (by decide), hr 94 (by decide) (by decide), hr 95 (by decide) (by decide), hr 96 (by decide) (by decide), hr 97 (by decide) (by decide), hr 98 (by decide) (by decide), hr 99 (by decide) (by decide), hr 100 (by decide) (by decide), hr 101 (by decide) (by decide), hr 102 (by decide) (by decide), hr 103 (by decide) (by decide), hr 104 (by decide) (by decide), hr 105 (by decide) (by decide), hr 106 (by decide) (by decide), hr 107 (by decide) (by decide), hr 108 (by decide) (by decide), hr 109 (by decide) (by decide), hr 110 (by decide) (by decide), hr 111 (by decide) (by decide), hr 112 (by decide) (by decide), hr 113 (by decide) (by decide), hr 114 (by decide) (by decide), hr 115 (by decide) (by decide), hr 116 (by decide) (by decide), hr 117 (by decide) (by decide), hr 118 (by decide) (by decide), hr 119 (by decide) (by decide), hr 120 (by decide) (by decide), hr 121 (by decide) (by decide), hr 122 (by decide) (by decide), hr 123 (by decide) (by decide), hr 124 (by decide) (by decide), hr 125 (by decide) (by decide), hr 126 (by decide) (by decide), hr 127 (by decide) (by decide), hr 128 (by decide) (by decide), hr 129 (by decide) (by decide), hr 130 (by decide) (by decide), hr 131 (by decide) (by decide), hr 132 (by decide) (by decide), hr 133 (by decide) (by decide), hr 134 (by decide) (by decide), hr 135 (by decide) (by decide)] using h
theorem pm_kept_cg {b : Bool} {I I' : Nat → Nat → Int32} (h : ∀ i, 158 ≤ i → I' i = I i) (h2 : I' 136 = I 136) (g : pm_kept b I) : pm_kept b I' := by
  intro hb
  refine pm_land_cg (fun i _ _ => ?_) (fun i _ _ => ?_) (g hb)
  · exact (h _ (by omega)).symm
  · rw [h2]

