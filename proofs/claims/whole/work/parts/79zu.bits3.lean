/-! Sets of houses as bits. -/
theorem bt_nat {S k : Nat} (hS : S < 16777216) (hk : k < 24) : ((Int32.ofNat S >>> (Int32.ofNat k &&& 31)) &&& 1 = 1) = (S.testBit k = true) := by
  rw [eq_iff_iff, bt_shr _ k hk, hb_32, BitVec.getLsbD_ofNat]
  simp only [Bool.and_eq_true, decide_eq_true_eq]
  exact ⟨fun h => h.2, fun h => ⟨by omega, h⟩⟩
theorem b01 (v : Int32) : (v &&& 1 = 0) = ¬ (v &&& 1 = 1) := by
  rw [eq_iff_iff]
  constructor
  · intro h g; rw [h] at g; exact absurd g (by decide)
  · intro h
    have key : v.toBitVec &&& 1#32 = 0#32 := by
      have n : ¬ (v.toBitVec &&& 1#32 = 1#32) := fun g => h (Int32.toBitVec.inj (by rw [Int32.toBitVec_and]; exact g))
      rw [bt_one] at n
      apply BitVec.eq_of_getLsbD_eq
      intro i hi
      rw [BitVec.getLsbD_and]
      have one : ∀ i, i < 32 → ¬ i = 0 → (1#32 : BitVec 32).getLsbD i = false := by decide
      have zero : ∀ i, i < 32 → (0#32 : BitVec 32).getLsbD i = false := by decide
      rw [zero i hi]
      by_cases e : i = 0
      · subst e
        have n' : v.toBitVec.getLsbD 0 = false := Bool.eq_false_iff.mpr n
        rw [n', Bool.false_and]
      · rw [one i hi e, Bool.and_false]
    exact Int32.toBitVec.inj (by rw [Int32.toBitVec_and]; exact key)
theorem bt_nat0 {S k : Nat} (hS : S < 16777216) (hk : k < 24) : ((Int32.ofNat S >>> (Int32.ofNat k &&& 31)) &&& 1 = 0) = (S.testBit k = false) := by
  rw [b01, bt_nat hS hk]; simp
theorem hb_inj {a c : Nat} (ha : a < 67108864) (hc : c < 67108864) (h : Int32.ofNat a = Int32.ofNat c) : a = c := by
  have e1 : (Int32.ofNat a).toInt = a := Int32.toInt_ofNat_of_lt (by omega)
  have e2 : (Int32.ofNat c).toInt = c := Int32.toInt_ofNat_of_lt (by omega)
  rw [h, e2] at e1; omega
/-- whether all of one set are of another -/
def pf_in (t U : Nat) : Prop := ∀ k, t.testBit k = true → U.testBit k = true
theorem in_and {t U : Nat} : (t &&& U = t) ↔ pf_in t U := by
  constructor
  · intro h k hk
    rw [← h, Nat.testBit_and] at hk
    simp only [Bool.and_eq_true] at hk
    exact hk.2
  · intro h
    apply Nat.eq_of_testBit_eq
    intro k
    rw [Nat.testBit_and]
    cases e : t.testBit k with
    | false => rfl
    | true => rw [h k e]; rfl
theorem and_in {s F : Nat} (hs : s < 16777216) (hF : F < 16777216) : (Int32.ofNat s &&& Int32.ofNat F = Int32.ofNat F) ↔ pf_in F s := by
  rw [hb_and _ _ (by omega) (by omega), ← in_and]
  have l : s &&& F ≤ F := Nat.and_le_right
  constructor
  · intro h; have := hb_inj (by omega) (by omega) h; rw [Nat.and_comm]; exact this
  · intro h; rw [Nat.and_comm, h]
theorem not_in {t U : Nat} (ht : t < 16777216) (hU : U < 16777216) : (Int32.ofNat t &&& (Int32.ofNat U ^^^ (-1)) = 0) ↔ pf_in t U := by
  rw [← in_and]
  have key : (Int32.ofNat t &&& (Int32.ofNat U ^^^ (-1)) = 0) ↔ (Int32.ofNat t &&& Int32.ofNat U = Int32.ofNat t) := by
    have em : (-1 : Int32).toBitVec = BitVec.allOnes 32 := by decide
    constructor
    · intro h
      have h' : (Int32.ofNat t).toBitVec &&& ((Int32.ofNat U).toBitVec ^^^ BitVec.allOnes 32) = 0#32 := by
        have := congrArg Int32.toBitVec h
        rw [Int32.toBitVec_and, Int32.toBitVec_xor, em] at this
        exact this
      apply Int32.toBitVec.inj
      rw [Int32.toBitVec_and]
      apply BitVec.eq_of_getLsbD_eq
      intro i hi
      have hb : ((Int32.ofNat t).toBitVec &&& ((Int32.ofNat U).toBitVec ^^^ BitVec.allOnes 32)).getLsbD i = false := by rw [h']; simp
      rw [BitVec.getLsbD_and, BitVec.getLsbD_xor, BitVec.getLsbD_allOnes] at hb
      rw [BitVec.getLsbD_and]
      simp only [hi, decide_true] at hb
      cases a : (Int32.ofNat t).toBitVec.getLsbD i <;> cases c : (Int32.ofNat U).toBitVec.getLsbD i <;> simp_all
    · intro h
      have h' : (Int32.ofNat t).toBitVec &&& (Int32.ofNat U).toBitVec = (Int32.ofNat t).toBitVec := by
        have := congrArg Int32.toBitVec h
        rw [Int32.toBitVec_and] at this
        exact this
      apply Int32.toBitVec.inj
      rw [Int32.toBitVec_and, Int32.toBitVec_xor, em]
      apply BitVec.eq_of_getLsbD_eq
      intro i hi
      have hb : ((Int32.ofNat t).toBitVec &&& (Int32.ofNat U).toBitVec).getLsbD i = (Int32.ofNat t).toBitVec.getLsbD i := by rw [h']
      rw [BitVec.getLsbD_and] at hb
      rw [BitVec.getLsbD_and, BitVec.getLsbD_xor, BitVec.getLsbD_allOnes]
      simp only [hi, decide_true]
      cases a : (Int32.ofNat t).toBitVec.getLsbD i <;> cases c : (Int32.ofNat U).toBitVec.getLsbD i <;> simp_all
  rw [key, hb_and _ _ (by omega) (by omega)]
  have l : t &&& U ≤ t := Nat.and_le_left
  constructor
  · intro h; exact hb_inj (by omega) (by omega) h
  · intro h; rw [h]
/-- those below n of which something holds, as bits -/
def pf_mk (p : Nat → Prop) [DecidablePred p] : Nat → Nat
  | 0 => 0
  | n + 1 => if p n then pf_mk p n ||| 2 ^ n else pf_mk p n
theorem mk_bit {p : Nat → Prop} [DecidablePred p] {k : Nat} : ∀ n, (pf_mk p n).testBit k = true ↔ k < n ∧ p k
  | 0 => by simp [pf_mk]
  | n + 1 => by
    unfold pf_mk
    split
    · next h =>
      rw [Nat.testBit_or, Bool.or_eq_true, mk_bit n, Nat.testBit_two_pow]
      constructor
      · rintro (e | e)
        · exact ⟨by omega, e.2⟩
        · have e : n = k := by simpa using e
          subst e; exact ⟨by omega, h⟩
      · rintro ⟨e1, e2⟩
        by_cases e : n = k
        · right; simpa using e
        · exact Or.inl ⟨by omega, e2⟩
    · next h =>
      rw [mk_bit n]
      constructor
      · exact fun e => ⟨by omega, e.2⟩
      · rintro ⟨e1, e2⟩
        by_cases e : k = n
        · subst e; exact absurd e2 h
        · exact ⟨by omega, e2⟩
theorem mk_lt {p : Nat → Prop} [DecidablePred p] : ∀ n, pf_mk p n < 2 ^ n
  | 0 => by simp [pf_mk]
  | n + 1 => by
    have h := mk_lt (p := p) n
    have e : 2 ^ (n + 1) = 2 ^ n * 2 := Nat.pow_succ 2 n
    unfold pf_mk
    split
    · exact Nat.or_lt_two_pow (n := n + 1) (by omega) (by omega)
    · omega
theorem pc_or : ∀ (k n i : Nat), i < k → n < 2 ^ i → pf_pc k (n ||| 2 ^ i) = pf_pc k n + 1
  | 0, _, _, h, _ => absurd h (Nat.not_lt_zero _)
  | k + 1, n, 0, _, h2 => by
    have : n = 0 := by simpa using h2
    subst this
    show (0 ||| 2 ^ 0) % 2 + pf_pc k ((0 ||| 2 ^ 0) / 2) = 0 % 2 + pf_pc k (0 / 2) + 1
    simp; omega
  | k + 1, n, i + 1, h, h2 => by
    have e1 : (n ||| 2 ^ (i + 1)) % 2 = n % 2 := by
      have := Nat.or_mod_two_pow (a := n) (b := 2 ^ (i + 1)) (n := 1)
      simp only [Nat.pow_one] at this
      rw [this, show 2 ^ (i + 1) % 2 = 0 by rw [Nat.pow_succ]; omega, Nat.or_zero]
    have e2 : (n ||| 2 ^ (i + 1)) / 2 = n / 2 ||| 2 ^ i := by
      have := Nat.or_div_two_pow (a := n) (b := 2 ^ (i + 1)) (n := 1)
      simp only [Nat.pow_one] at this
      rw [this, show 2 ^ (i + 1) / 2 = 2 ^ i by rw [Nat.pow_succ]; omega]
    show (n ||| 2 ^ (i + 1)) % 2 + pf_pc k ((n ||| 2 ^ (i + 1)) / 2) = n % 2 + pf_pc k (n / 2) + 1
    rw [e1, e2, pc_or k (n / 2) i (by omega) (by rw [Nat.pow_succ] at h2; omega)]
    omega
/-- how many below n of which something holds -/
def pf_nm (p : Nat → Prop) [DecidablePred p] : Nat → Nat
  | 0 => 0
  | n + 1 => if p n then pf_nm p n + 1 else pf_nm p n
theorem mk_pc {p : Nat → Prop} [DecidablePred p] : ∀ n, n ≤ 24 → pf_pc 24 (pf_mk p n) = pf_nm p n
  | 0, _ => (by decide : pf_pc 24 0 = 0)
  | n + 1, h => by
    have ih := mk_pc (p := p) n (by omega)
    unfold pf_mk pf_nm
    split
    · rw [pc_or 24 _ n (by omega) (mk_lt n), ih]
    · exact ih
theorem nm_le {p : Nat → Prop} [DecidablePred p] : ∀ n, pf_nm p n ≤ n
  | 0 => Nat.le_refl 0
  | n + 1 => by
    have := nm_le (p := p) n
    unfold pf_nm
    split <;> omega

