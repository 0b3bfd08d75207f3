/-! numbers: ints with a sign, bits, booleans -/
def iI (z : Int) : Int32 := Int32.ofInt z
theorem iI_nat (n : Nat) : nI n = iI (n : Int) := Int32.toBitVec_inj.mp (by show BitVec.ofNat 32 n = BitVec.ofInt 32 (n : Int); simp)
theorem iI_sub (a b : Int) : iI a - iI b = iI (a - b) := (Int32.ofInt_sub a b).symm
theorem iI_add (a b : Int) : iI a + iI b = iI (a + b) := (Int32.ofInt_add a b).symm
theorem iI_toInt {z : Int} (h1 : -2147483648 ≤ z) (h2 : z < 2147483648) : (iI z).toInt = z := fb_ofI h1 h2
theorem iI_lt {a b : Int} (a1 : -2147483648 ≤ a) (a2 : a < 2147483648) (b1 : -2147483648 ≤ b) (b2 : b < 2147483648) : iI a < iI b ↔ a < b := by rw [fa_lt, iI_toInt a1 a2, iI_toInt b1 b2]
theorem iI_le {a b : Int} (a1 : -2147483648 ≤ a) (a2 : a < 2147483648) (b1 : -2147483648 ≤ b) (b2 : b < 2147483648) : iI a ≤ iI b ↔ a ≤ b := by rw [fa_le, iI_toInt a1 a2, iI_toInt b1 b2]
theorem iI_eq {a b : Int} (a1 : -2147483648 ≤ a) (a2 : a < 2147483648) (b1 : -2147483648 ≤ b) (b2 : b < 2147483648) : iI a = iI b ↔ a = b := by rw [fa_eq, iI_toInt a1 a2, iI_toInt b1 b2]
theorem nI_0' : (0 : Int32) = nI 0 := rfl
theorem nI_1' : (1 : Int32) = nI 1 := rfl
theorem bt_nI (a : Nat) {i : Nat} (hi : i < 32) : bt (nI a) i = a.testBit i := by
  unfold bt
  show (BitVec.ofNat 32 a).getLsbD i = _
  rw [BitVec.getLsbD_ofNat]
  simp [hi]
theorem tb_hi {a i : Nat} (ha : a < 2 ^ 31) (hi : 31 ≤ i) : a.testBit i = false := Nat.testBit_lt_two_pow (Nat.lt_of_lt_of_le ha (Nat.pow_le_pow_right (by decide) hi))
/-- the k-th bit by a shift -/
theorem tb_shr {a k : Nat} (ha : a < 2 ^ 31) (hk : k < 31) : (nI a >>> (nI k &&& 31)) = nI (a / 2 ^ k) := by
  apply b_ext
  intro i hi
  rw [b_sshr k (by omega) _ hi, bt_nI _ hi, Nat.testBit_div_two_pow]
  by_cases h : k + i < 32
  · rw [if_pos h, bt_nI _ h, Nat.add_comm]
  · rw [if_neg h, bt_nI _ (by decide), tb_hi ha (by decide), tb_hi ha (by omega)]
theorem tb_bit {a k : Nat} (ha : a < 2 ^ 31) (hk : k < 31) : ((nI a >>> (nI k &&& 31)) &&& 1) = if a.testBit k then 1 else 0 := by
  rw [tb_shr ha hk]
  show nI (a / 2 ^ k) &&& nI (2 ^ 1 - 1) = _
  rw [fa_mask]
  have e : a.testBit k = decide (a / 2 ^ k % 2 = 1) := by rw [Nat.testBit_eq_decide_div_mod_eq]
  rw [e]
  rcases Nat.mod_two_eq_zero_or_one (a / 2 ^ k) with h | h
  · simp [h]; rfl
  · simp [h]; rfl
theorem tb_0 {a k : Nat} (ha : a < 2 ^ 31) (hk : k < 31) : ((nI a >>> (nI k &&& 31)) &&& 1) = 0 ↔ a.testBit k = false := by
  rw [tb_bit ha hk]
  cases a.testBit k <;> simp
theorem tb_1 {a k : Nat} (ha : a < 2 ^ 31) (hk : k < 31) : ((nI a >>> (nI k &&& 31)) &&& 1) = 1 ↔ a.testBit k = true := by
  rw [tb_bit ha hk]
  cases a.testBit k <;> simp
theorem tb_shl : ∀ k, k < 31 → ((1 : Int32) <<< (nI k &&& 31)) = nI (2 ^ k) := by decide +kernel
theorem tb_or (a b : Nat) : nI a ||| nI b = nI (a ||| b) := fa_or a b
theorem tb_lt {a n : Nat} (h : ∀ i, a.testBit i = true → i < n) : a < 2 ^ n := Nat.lt_pow_two_of_testBit a (fun i hi => by
  cases e : a.testBit i
  · rfl
  · exact absurd (h i e) (by omega))
