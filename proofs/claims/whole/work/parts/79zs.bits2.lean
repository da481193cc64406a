/-! How many bits are set. -/
def pf_pc : Nat → Nat → Nat
  | 0, _ => 0
  | k + 1, n => n % 2 + pf_pc k (n / 2)
theorem pc_le : ∀ k n, pf_pc k n ≤ k
  | 0, _ => Nat.le_refl 0
  | k + 1, n => by
    have := pc_le k (n / 2)
    show n % 2 + pf_pc k (n / 2) ≤ k + 1
    omega
theorem pc_land : ∀ k n, 0 < n → n < 2 ^ k → pf_pc k (n &&& (n - 1)) + 1 = pf_pc k n
  | 0, n, h, h2 => by simp at h2; omega
  | k + 1, n, h, h2 => by
    have hm : (n &&& (n - 1)) % 2 = (n % 2) &&& ((n - 1) % 2) := by have := Nat.and_mod_two_pow (a := n) (b := n - 1) (n := 1); simpa using this
    have hd : (n &&& (n - 1)) / 2 = (n / 2) &&& ((n - 1) / 2) := by have := Nat.and_div_two_pow (a := n) (b := n - 1) (n := 1); simpa using this
    show (n &&& (n - 1)) % 2 + pf_pc k ((n &&& (n - 1)) / 2) + 1 = n % 2 + pf_pc k (n / 2)
    rw [hm, hd]
    rcases Nat.mod_two_eq_zero_or_one n with e | e
    · have e1 : (n - 1) / 2 = n / 2 - 1 := by omega
      have ih := pc_land k (n / 2) (by omega) (by rw [Nat.pow_succ] at h2; omega)
      rw [e, e1, Nat.zero_and]
      omega
    · have e1 : (n - 1) / 2 = n / 2 := by omega
      have e2 : (n - 1) % 2 = 0 := by omega
      rw [e, e1, e2, Nat.and_zero, Nat.and_self]
      omega
theorem hb_and (a c : Nat) (ha : a < 67108864) (hc : c < 4294967296) : Int32.ofNat a &&& Int32.ofNat c = Int32.ofNat (a &&& c) := by
  apply Int32.toBitVec.inj
  rw [Int32.toBitVec_and, hb_32, hb_32, hb_32]
  apply BitVec.eq_of_toNat_eq
  rw [BitVec.toNat_and, BitVec.toNat_ofNat, BitVec.toNat_ofNat, BitVec.toNat_ofNat]
  have : a &&& c ≤ a := Nat.and_le_left
  rw [Nat.mod_eq_of_lt (by omega : a < 2 ^ 32), Nat.mod_eq_of_lt (by omega : c < 2 ^ 32), Nat.mod_eq_of_lt (by omega : a &&& c < 2 ^ 32)]
theorem hb_sub (a c : Nat) (ha : a < 67108864) (hc : c ≤ a) : Int32.ofNat a - Int32.ofNat c = Int32.ofNat (a - c) := by
  have e1 : (Int32.ofNat a).toInt = a := Int32.toInt_ofNat_of_lt (by omega)
  have e2 : (Int32.ofNat c).toInt = c := Int32.toInt_ofNat_of_lt (by omega)
  have e3 : (Int32.ofNat (a - c)).toInt = ((a - c : Nat) : Int) := Int32.toInt_ofNat_of_lt (by omega)
  refine Int32.toInt_inj.mp ?_
  rw [pi_sub (by omega) (by omega), e1, e2, e3]; omega
theorem hb_add (a c : Nat) (ha : a < 67108864) (hc : c < 67108864) : Int32.ofNat a + Int32.ofNat c = Int32.ofNat (a + c) := by
  rw [Int32.ofNat_add]
theorem hb_ushr (a s : Nat) (ha : a < 67108864) (hs : s = 1 ∨ s = 2 ∨ s = 4 ∨ s = 8 ∨ s = 16) : (Int32.toUInt32 (Int32.ofNat a) >>> (Int32.toUInt32 (Int32.ofNat s) &&& Int32.toUInt32 31)).toInt32 = Int32.ofNat (a / 2 ^ s) := by
  have e : (Int32.toUInt32 (Int32.ofNat s) &&& Int32.toUInt32 31) = UInt32.ofNat s := by
    rcases hs with h | h | h | h | h <;> subst h <;> rfl
  have hs32 : s < 32 := by omega
  rw [e]
  apply Int32.toBitVec.inj
  apply BitVec.eq_of_toNat_eq
  rw [hb_32, BitVec.toNat_ofNat]
  show ((UInt32.ofBitVec (Int32.ofNat a).toBitVec) >>> UInt32.ofNat s).toBitVec.toNat = _
  have es : ((UInt32.ofNat s).toBitVec % 32).toNat = s := by
    rcases hs with h | h | h | h | h <;> subst h <;> rfl
  rw [UInt32.toBitVec_shiftRight, BitVec.ushiftRight_eq', es, BitVec.toNat_ushiftRight]
  show (Int32.ofNat a).toBitVec.toNat >>> s = _
  have l : a / 2 ^ s ≤ a := Nat.div_le_self _ _
  rw [hb_32, BitVec.toNat_ofNat, Nat.mod_eq_of_lt (by omega : a < 2 ^ 32), Nat.shiftRight_eq_div_pow, Nat.mod_eq_of_lt (by omega : a / 2 ^ s < 2 ^ 32)]
def bc1 (n : Nat) : Nat := n - (n / 2 &&& 1431655765)
def bc2 (n : Nat) : Nat := (n &&& 858993459) + (n / 4 &&& 858993459)
def bc3 (n : Nat) : Nat := (n + n / 16) &&& 252645135
def bc5 (n : Nat) : Nat := ((n + n / 256) + (n + n / 256) / 65536) &&& 63
theorem and_lo (z M : Nat) (hz : z < 268435456) : z &&& M = z &&& (M % 268435456) := by
  have h1 : (z &&& M) % 2 ^ 28 = (z % 2 ^ 28) &&& (M % 2 ^ 28) := Nat.and_mod_two_pow
  have h2 : z &&& M ≤ z := Nat.and_le_left
  rw [Nat.mod_eq_of_lt (by omega : z &&& M < 2 ^ 28), Nat.mod_eq_of_lt (by omega : z < 2 ^ 28)] at h1
  exact h1
theorem and_16 (y M : Nat) : y &&& M = (y % 16 &&& M % 16) + 16 * (y / 16 &&& M / 16) := by
  have h1 : (y &&& M) % 2 ^ 4 = (y % 2 ^ 4) &&& (M % 2 ^ 4) := Nat.and_mod_two_pow
  have h2 : (y &&& M) / 2 ^ 4 = (y / 2 ^ 4) &&& (M / 2 ^ 4) := Nat.and_div_two_pow
  simp only [show (2 : Nat) ^ 4 = 16 from rfl] at h1 h2
  omega
theorem bc1_tab : ∀ d, d < 16 → ∀ e, e < 2 → ((d / 2 + 8 * e) &&& 5) = (d / 2 &&& 5) ∧ (d / 2 &&& 1431655765) = (d / 2 &&& 5) := by decide
theorem bc1_loc (d m : Nat) (hd : d < 16) (hm : m < 1048576) : bc1 (d + 16 * m) = bc1 d + 16 * bc1 m ∧ bc1 m ≤ m := by
  unfold bc1
  have t := bc1_tab d hd (m % 2) (by omega)
  have h := and_16 ((d + 16 * m) / 2) 1431655765
  have e1 : (d + 16 * m) / 2 % 16 = d / 2 + 8 * (m % 2) := by omega
  have e2 : (d + 16 * m) / 2 / 16 = m / 2 := by omega
  have e3 := and_lo (m / 2) 1431655765 (by omega)
  rw [e1, e2, show 1431655765 % 16 = 5 from rfl, show 1431655765 / 16 = 89478485 from rfl, t.1] at h
  rw [show 1431655765 % 268435456 = 89478485 from rfl] at e3
  rw [h, t.2, e3]
  have l1 : (d / 2 &&& 5) ≤ d / 2 := Nat.and_le_left
  have l2 : (m / 2 &&& 89478485) ≤ m / 2 := Nat.and_le_left
  omega
theorem bc2_tab : ∀ e, e < 16 → ∀ f, f < 4 → ((e / 4 + 4 * f) &&& 3) = (e / 4 &&& 3) ∧ (e / 4 &&& 858993459) = (e / 4 &&& 3) ∧ (e &&& 858993459) = (e &&& 3) := by decide
theorem bc2_loc (e m : Nat) (he : e < 16) (hm : m < 1048576) : bc2 (e + 16 * m) = bc2 e + 16 * bc2 m := by
  unfold bc2
  have t := bc2_tab e he (m % 4) (by omega)
  have h := and_16 (e + 16 * m) 858993459
  have h2 := and_16 ((e + 16 * m) / 4) 858993459
  have a1 : (e + 16 * m) % 16 = e := by omega
  have a2 : (e + 16 * m) / 16 = m := by omega
  have e1 : (e + 16 * m) / 4 % 16 = e / 4 + 4 * (m % 4) := by omega
  have e2 : (e + 16 * m) / 4 / 16 = m / 4 := by omega
  have e3 := and_lo (m / 4) 858993459 (by omega)
  have e4 := and_lo m 858993459 (by omega)
  rw [a1, a2, show 858993459 % 16 = 3 from rfl, show 858993459 / 16 = 53687091 from rfl] at h
  rw [e1, e2, show 858993459 % 16 = 3 from rfl, show 858993459 / 16 = 53687091 from rfl, t.1] at h2
  rw [show 858993459 % 268435456 = 53687091 from rfl] at e3 e4
  rw [h, h2, t.2.1, t.2.2, e3, e4]
  omega
theorem bc12_tab : ∀ d, d < 16 → bc1 d < 16 ∧ bc2 (bc1 d) = pf_pc 4 d ∧ pf_pc 4 d ≤ 4 := by decide
theorem bc12_loc (d m : Nat) (hd : d < 16) (hm : m < 1048576) : bc2 (bc1 (d + 16 * m)) = pf_pc 4 d + 16 * bc2 (bc1 m) := by
  have h1 := bc1_loc d m hd hm
  have t := bc12_tab d hd
  rw [h1.1, bc2_loc _ _ t.1 (by omega), t.2.1]
theorem pc_4 (k d m : Nat) (hd : d < 16) : pf_pc (k + 4) (d + 16 * m) = pf_pc 4 d + pf_pc k m := by
  have e1 : (d + 16 * m) % 2 = d % 2 := by omega
  have e2 : (d + 16 * m) / 2 = d / 2 + 8 * m := by omega
  have e3 : (d / 2 + 8 * m) % 2 = d / 2 % 2 := by omega
  have e4 : (d / 2 + 8 * m) / 2 = d / 2 / 2 + 4 * m := by omega
  have e5 : (d / 2 / 2 + 4 * m) % 2 = d / 2 / 2 % 2 := by omega
  have e6 : (d / 2 / 2 + 4 * m) / 2 = d / 2 / 2 / 2 + 2 * m := by omega
  have e7 : (d / 2 / 2 / 2 + 2 * m) % 2 = d / 2 / 2 / 2 % 2 := by omega
  have e8 : (d / 2 / 2 / 2 + 2 * m) / 2 = m := by omega
  simp only [pf_pc, e1, e2, e3, e4, e5, e6, e7, e8]
  omega
theorem bc_fin : ∀ a, a < 5 → ∀ b, b < 5 → ∀ c, c < 5 → ∀ d, d < 5 → ∀ e, e < 5 → ∀ f, f < 5 → bc5 (bc3 (a + 16 * (b + 16 * (c + 16 * (d + 16 * (e + 16 * f)))))) = a + b + c + d + e + f := by decide +kernel
theorem bc_eq (n : Nat) (hn : n < 16777216) : bc5 (bc3 (bc2 (bc1 n))) = pf_pc 24 n := by
  have s0 : n = n % 16 + 16 * (n / 16) := by omega
  have s1 : n / 16 = n / 16 % 16 + 16 * (n / 16 / 16) := by omega
  have s2 : n / 16 / 16 = n / 16 / 16 % 16 + 16 * (n / 16 / 16 / 16) := by omega
  have s3 : n / 16 / 16 / 16 = n / 16 / 16 / 16 % 16 + 16 * (n / 16 / 16 / 16 / 16) := by omega
  have s4 : n / 16 / 16 / 16 / 16 = n / 16 / 16 / 16 / 16 % 16 + 16 * (n / 16 / 16 / 16 / 16 / 16) := by omega
  generalize n / 16 / 16 / 16 / 16 / 16 = f at s4
  have hf : f < 16 := by omega
  generalize he0 : n / 16 / 16 / 16 / 16 % 16 = e at s4
  have he : e < 16 := by omega
  generalize n / 16 / 16 / 16 / 16 = m4 at s3 s4 he0
  generalize hd : n / 16 / 16 / 16 % 16 = d at s3
  have hd' : d < 16 := by omega
  generalize n / 16 / 16 / 16 = m3 at s2 s3 hd
  generalize hc : n / 16 / 16 % 16 = c at s2
  have hc' : c < 16 := by omega
  generalize n / 16 / 16 = m2 at s1 s2 hc
  generalize hb : n / 16 % 16 = b at s1
  have hb' : b < 16 := by omega
  generalize n / 16 = m1 at s0 s1 hb
  generalize ha : n % 16 = a at s0
  have ha' : a < 16 := by omega
  have p := fun x (h : x < 16) => (bc12_tab x h)
  have q0 : bc2 (bc1 f) = pf_pc 4 f := (p f hf).2.1
  have q4 : bc2 (bc1 m4) = pf_pc 4 e + 16 * pf_pc 4 f := by rw [s4, bc12_loc e f he (by omega), q0]
  have q3 : bc2 (bc1 m3) = pf_pc 4 d + 16 * bc2 (bc1 m4) := by rw [s3, bc12_loc d m4 hd' (by omega)]
  have q2 : bc2 (bc1 m2) = pf_pc 4 c + 16 * bc2 (bc1 m3) := by rw [s2, bc12_loc c m3 hc' (by omega)]
  have q1 : bc2 (bc1 m1) = pf_pc 4 b + 16 * bc2 (bc1 m2) := by rw [s1, bc12_loc b m2 hb' (by omega)]
  have q : bc2 (bc1 n) = pf_pc 4 a + 16 * bc2 (bc1 m1) := by rw [s0, bc12_loc a m1 ha' (by omega)]
  have r4 : pf_pc 8 m4 = pf_pc 4 e + pf_pc 4 f := by rw [s4]; exact pc_4 4 e f he
  have r3 : pf_pc 12 m3 = pf_pc 4 d + pf_pc 8 m4 := by rw [s3]; exact pc_4 8 d m4 hd'
  have r2 : pf_pc 16 m2 = pf_pc 4 c + pf_pc 12 m3 := by rw [s2]; exact pc_4 12 c m3 hc'
  have r1 : pf_pc 20 m1 = pf_pc 4 b + pf_pc 16 m2 := by rw [s1]; exact pc_4 16 b m2 hb'
  have r : pf_pc 24 n = pf_pc 4 a + pf_pc 20 m1 := by rw [s0]; exact pc_4 20 a m1 ha'
  rw [q, q1, q2, q3, q4, bc_fin _ (by have := (p a ha').2.2; omega) _ (by have := (p b hb').2.2; omega) _ (by have := (p c hc').2.2; omega) _ (by have := (p d hd').2.2; omega) _ (by have := (p e he).2.2; omega) _ (by have := (p f hf).2.2; omega), r, r1, r2, r3, r4]
  omega

