/-! sets as numbers -/
theorem ofn (a : Nat) : (Int32.ofInt (a : Int)).toBitVec = BitVec.ofNat 32 a := by
  show BitVec.ofInt 32 (a : Int) = _
  exact BitVec.ofInt_natCast 32 a
theorem toi {c : BitVec 32} {n : Nat} (h : c = BitVec.ofNat 32 n) (hn : n < 2147483648) : c.toInt = (n : Int) := by
  have e : c.toNat = n := by rw [h, BitVec.toNat_ofNat]; exact Nat.mod_eq_of_lt (by omega)
  rw [BitVec.toInt_eq_toNat_of_lt (by omega), e]
theorem or_lt {a b : Nat} (ha : a < 2147483648) (hb : b < 2147483648) : a ||| b < 2147483648 := Nat.or_lt_two_pow (n := 31) ha hb
theorem and_lt {a b : Nat} (ha : a < 2147483648) : a &&& b < 2147483648 := Nat.lt_of_le_of_lt Nat.and_le_left ha
theorem jor_n {a b : Nat} (ha : a < 2147483648) (hb : b < 2147483648) : jor (a : Int) (b : Int) = ((a ||| b : Nat) : Int) := by
  unfold jor
  show ((Int32.ofInt (a : Int)).toBitVec ||| (Int32.ofInt (b : Int)).toBitVec).toInt = _
  refine toi ?_ (or_lt ha hb)
  rw [ofn, ofn]
  apply BitVec.eq_of_getLsbD_eq
  intro i hi
  rw [BitVec.getLsbD_or, BitVec.getLsbD_ofNat, BitVec.getLsbD_ofNat, BitVec.getLsbD_ofNat, Nat.testBit_or, decide_eq_true hi]
  simp
theorem jand_n {a b : Nat} (ha : a < 2147483648) (hb : b < 2147483648) : jand (a : Int) (b : Int) = ((a &&& b : Nat) : Int) := by
  unfold jand
  show ((Int32.ofInt (a : Int)).toBitVec &&& (Int32.ofInt (b : Int)).toBitVec).toInt = _
  refine toi ?_ (and_lt ha)
  rw [ofn, ofn]
  apply BitVec.eq_of_getLsbD_eq
  intro i hi
  rw [BitVec.getLsbD_and, BitVec.getLsbD_ofNat, BitVec.getLsbD_ofNat, BitVec.getLsbD_ofNat, Nat.testBit_and, decide_eq_true hi]
  simp
/-- a without b -/
def dif (a b : Nat) : Nat := a ^^^ (a &&& b)
theorem dif_bit (a b i : Nat) : (dif a b).testBit i = (a.testBit i && !b.testBit i) := by
  unfold dif
  rw [Nat.testBit_xor, Nat.testBit_and]
  cases a.testBit i <;> cases b.testBit i <;> rfl
theorem dif_lt {a b : Nat} (ha : a < 2147483648) : dif a b < 2147483648 := Nat.xor_lt_two_pow (n := 31) ha (and_lt ha)
theorem jdif_n {a b : Nat} (ha : a < 2147483648) : jand (a : Int) (jxor (b : Int) (-1)) = ((dif a b : Nat) : Int) := by
  unfold jand jxor
  rw [Int32.ofInt_toInt]
  show ((Int32.ofInt (a : Int)).toBitVec &&& ((Int32.ofInt (b : Int)).toBitVec ^^^ (Int32.ofInt (-1)).toBitVec)).toInt = _
  refine toi ?_ (dif_lt ha)
  rw [ofn, ofn]
  apply BitVec.eq_of_getLsbD_eq
  intro i hi
  have e : (Int32.ofInt (-1)).toBitVec = BitVec.allOnes 32 := by decide
  rw [e, BitVec.getLsbD_and, BitVec.getLsbD_xor, BitVec.getLsbD_allOnes, BitVec.getLsbD_ofNat, BitVec.getLsbD_ofNat, BitVec.getLsbD_ofNat, dif_bit, decide_eq_true hi]
  cases a.testBit i <;> cases b.testBit i <;> rfl
theorem bit_n {a k : Nat} (ha : a < 2147483648) (hk : k < 32) : jand (jshr (a : Int) (k : Int)) 1 = if a.testBit k = true then 1 else 0 := by
  rw [jshr_eq _ hk, wr_id (by omega) (by omega)]
  have e : (a : Int) / 2 ^ k = ((a / 2 ^ k : Nat) : Int) := by rw [Int.natCast_ediv, Int.natCast_pow]; rfl
  have l : a / 2 ^ k < 2147483648 := Nat.lt_of_le_of_lt (Nat.div_le_self _ _) ha
  rw [e, show (1 : Int) = ((1 : Nat) : Int) from rfl, jand_n l (by omega), Nat.and_one_is_mod, Nat.testBit_eq_decide_div_mod_eq]
  have : a / 2 ^ k % 2 = 0 ∨ a / 2 ^ k % 2 = 1 := by omega
  rcases this with q | q <;> rw [q] <;> rfl
theorem shl_n {k : Nat} (hk : k < 31) : jshl 1 (k : Int) = ((2 ^ k : Nat) : Int) := by
  rw [jshl_eq _ (by omega), Int.one_mul]
  have e : (2 : Int) ^ k = ((2 ^ k : Nat) : Int) := by rw [Int.natCast_pow]; rfl
  have l : 2 ^ k < 2147483648 := Nat.pow_lt_pow_right (by decide) (show k < 31 from hk)
  rw [e]
  generalize 2 ^ k = q at l ⊢
  exact wr_id (by omega) (by omega)
theorem pow_bit (k i : Nat) : (2 ^ k).testBit i = decide (k = i) := Nat.testBit_two_pow
theorem pow_lt {k : Nat} (hk : k < 31) : 2 ^ k < 2147483648 := Nat.pow_lt_pow_right (by decide) (show k < 31 from hk)
theorem ones_bit (n i : Nat) : (2 ^ n - 1).testBit i = decide (i < n) := Nat.testBit_two_pow_sub_one n i
theorem bit_lt {a n i : Nat} (h : a < 2 ^ n) (hi : a.testBit i = true) : i < n := by
  apply Classical.byContradiction
  intro c
  have := Nat.testBit_lt_two_pow (Nat.lt_of_lt_of_le h (Nat.pow_le_pow_right (by decide) (show n ≤ i by omega)))
  rw [this] at hi
  exact absurd hi (by decide)
theorem bits_ext {a b : Nat} (h : ∀ i, a.testBit i = b.testBit i) : a = b := Nat.eq_of_testBit_eq h
theorem lt_of_bits {a n : Nat} (h : ∀ i, a.testBit i = true → i < n) : a < 2 ^ n := Nat.lt_pow_two_of_testBit a (fun i hi => by
  cases e : a.testBit i
  · rfl
  · have := h i e; omega)
def pcb (n : Nat) : Nat → Nat
  | 0 => 0
  | k + 1 => pcb n k + (if n.testBit k = true then 1 else 0)
def pc (n : Nat) : Nat := pcb n 12
def bc186 (a0 : Int) : Int := (jand (((jand (((jand (a0 - (jand (jushr a0 1) 1431655765)) 858993459) + (jand (jushr (a0 - (jand (jushr a0 1) 1431655765)) 2) 858993459)) + (jushr ((jand (a0 - (jand (jushr a0 1) 1431655765)) 858993459) + (jand (jushr (a0 - (jand (jushr a0 1) 1431655765)) 2) 858993459)) 4)) 252645135) + (jushr (jand (((jand (a0 - (jand (jushr a0 1) 1431655765)) 858993459) + (jand (jushr (a0 - (jand (jushr a0 1) 1431655765)) 2) 858993459)) + (jushr ((jand (a0 - (jand (jushr a0 1) 1431655765)) 858993459) + (jand (jushr (a0 - (jand (jushr a0 1) 1431655765)) 2) 858993459)) 4)) 252645135) 8)) + (jushr ((jand (((jand (a0 - (jand (jushr a0 1) 1431655765)) 858993459) + (jand (jushr (a0 - (jand (jushr a0 1) 1431655765)) 2) 858993459)) + (jushr ((jand (a0 - (jand (jushr a0 1) 1431655765)) 858993459) + (jand (jushr (a0 - (jand (jushr a0 1) 1431655765)) 2) 858993459)) 4)) 252645135) + (jushr (jand (((jand (a0 - (jand (jushr a0 1) 1431655765)) 858993459) + (jand (jushr (a0 - (jand (jushr a0 1) 1431655765)) 2) 858993459)) + (jushr ((jand (a0 - (jand (jushr a0 1) 1431655765)) 858993459) + (jand (jushr (a0 - (jand (jushr a0 1) 1431655765)) 2) 858993459)) 4)) 252645135) 8)) 16)) 63)
theorem bc_k : ∀ a, a < 64 → ∀ b, b < 64 → bc186 ((64 * a + b : Nat) : Int) = (pc (64 * a + b) : Int) := by decide +kernel
theorem bc_n {n : Nat} (h : n < 4096) : bc186 (n : Int) = (pc n : Int) := by
  have := bc_k (n / 64) (by omega) (n % 64) (by omega)
  rw [show 64 * (n / 64) + n % 64 = n by omega] at this
  exact this
theorem low_k : ∀ a, a < 64 → ∀ b, b < 64 → 64 * a + b ≠ 0 → pc ((64 * a + b) &&& (64 * a + b - 1)) + 1 = pc (64 * a + b) ∧ (64 * a + b) &&& (64 * a + b - 1) < 64 * a + b := by decide +kernel
theorem low_n {n : Nat} (h : n < 4096) (h0 : n ≠ 0) : pc (n &&& (n - 1)) + 1 = pc n ∧ n &&& (n - 1) < n := by
  have := low_k (n / 64) (by omega) (n % 64) (by omega)
  rw [show 64 * (n / 64) + n % 64 = n by omega] at this
  exact this h0
theorem pcb_le (n : Nat) : ∀ k, pcb n k ≤ k
  | 0 => Nat.le_refl 0
  | k + 1 => by
    have := pcb_le n k
    show pcb n k + (if n.testBit k = true then 1 else 0) ≤ k + 1
    split <;> omega
theorem pc_0 : pc 0 = 0 := by decide
