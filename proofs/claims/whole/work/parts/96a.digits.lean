/-! longs as digits (the first rows are the kit's BITS.to-paste, family wb) -/
theorem wb_tb (n : Nat) : (lN n).toBitVec = BitVec.ofNat 64 n := rfl
theorem wb_inj {a b : Int64} (h : a.toBitVec = b.toBitVec) : a = b := Int64.toBitVec_inj.mp h
theorem wb_tn {n : Nat} (h : n < 2 ^ 64) : (lN n).toBitVec.toNat = n := by rw [wb_tb, BitVec.toNat_ofNat, Nat.mod_eq_of_lt h]
theorem wb_c : ∀ k, k < 64 → ((nI k).toInt64 &&& 63) = lN k := by decide +kernel
theorem wb_cu : ∀ k, k < 64 → ((nI k).toInt64.toUInt64 &&& Int64.toUInt64 63) = UInt64.ofNat k := by decide +kernel
theorem wb_sm : ∀ k, k < 64 → (BitVec.ofNat 64 k).smod 64 = BitVec.ofNat 64 k := by decide +kernel
theorem wb_pw {a b : Nat} (h : a ≤ b) : 2 ^ b = 2 ^ a * 2 ^ (b - a) := by rw [← Nat.pow_add]; congr 1; omega
theorem wb_lt2 {a b : Nat} (h : a < b) : 2 ^ a < 2 ^ b := Nat.pow_lt_pow_right (by decide) h
theorem wb_mod (n : Nat) : lN n = lN (n % 2 ^ 64) := wb_inj (by rw [wb_tb, wb_tb]; apply BitVec.eq_of_toNat_eq; rw [BitVec.toNat_ofNat, BitVec.toNat_ofNat, Nat.mod_mod])
theorem wb_shr {n k : Nat} (hn : n < 2 ^ 64) (hk : k < 64) : ((lN n).toUInt64 >>> ((nI k).toInt64.toUInt64 &&& Int64.toUInt64 63)).toInt64 = lN (n / 2 ^ k) := by
  rw [wb_cu k hk]
  apply wb_inj
  apply BitVec.eq_of_toNat_eq
  show ((lN n).toUInt64 >>> UInt64.ofNat k).toNat = (BitVec.ofNat 64 _).toNat
  have h1 : (UInt64.ofNat k).toNat = k := by
    show (BitVec.ofNat 64 k).toNat = k
    rw [BitVec.toNat_ofNat, Nat.mod_eq_of_lt (by omega)]
  have h2 : (lN n).toUInt64.toNat = n := wb_tn hn
  rw [UInt64.toNat_shiftRight, h1, h2, Nat.mod_eq_of_lt hk, Nat.shiftRight_eq_div_pow, BitVec.toNat_ofNat, Nat.mod_eq_of_lt (Nat.lt_of_le_of_lt (Nat.div_le_self _ _) hn)]
theorem wb_shl (n : Nat) {k : Nat} (hk : k < 64) : lN n <<< ((nI k).toInt64 &&& 63) = lN (n * 2 ^ k) := by
  rw [wb_c k hk]
  apply wb_inj
  rw [Int64.toBitVec_shiftLeft, wb_tb, wb_tb, wb_tb, wb_sm k hk]
  apply BitVec.eq_of_toNat_eq
  rw [BitVec.shiftLeft_eq', BitVec.toNat_shiftLeft, BitVec.toNat_ofNat, BitVec.toNat_ofNat, BitVec.toNat_ofNat, Nat.mod_eq_of_lt (show k < 2 ^ 64 by omega), Nat.shiftLeft_eq, Nat.mul_mod, Nat.mod_mod, ← Nat.mul_mod]
theorem wb_and {a b : Nat} (ha : a < 2 ^ 64) (hb : b < 2 ^ 64) : lN a &&& lN b = lN (a &&& b) := by
  apply wb_inj
  rw [Int64.toBitVec_and, wb_tb, wb_tb, wb_tb]
  apply BitVec.eq_of_toNat_eq
  rw [BitVec.toNat_and, BitVec.toNat_ofNat, BitVec.toNat_ofNat, BitVec.toNat_ofNat, Nat.mod_eq_of_lt ha, Nat.mod_eq_of_lt hb, Nat.mod_eq_of_lt (Nat.and_lt_two_pow _ hb)]
theorem wb_or {a b : Nat} (ha : a < 2 ^ 64) (hb : b < 2 ^ 64) : lN a ||| lN b = lN (a ||| b) := by
  apply wb_inj
  rw [Int64.toBitVec_or, wb_tb, wb_tb, wb_tb]
  apply BitVec.eq_of_toNat_eq
  rw [BitVec.toNat_or, BitVec.toNat_ofNat, BitVec.toNat_ofNat, BitVec.toNat_ofNat, Nat.mod_eq_of_lt ha, Nat.mod_eq_of_lt hb, Nat.mod_eq_of_lt (Nat.or_lt_two_pow ha hb)]
def dsum (w : Nat) (f : Nat → Nat) : Nat → Nat
  | 0 => 0
  | n + 1 => 2 ^ (w * n) * f n + dsum w f n
theorem dsum_lt {w : Nat} {f : Nat → Nat} : ∀ n, (∀ i, i < n → f i < 2 ^ w) → dsum w f n < 2 ^ (w * n)
  | 0, _ => by simp [dsum]
  | n + 1, h => by
    have ih := dsum_lt n (fun i hi => h i (by omega))
    have hn := h n (by omega)
    have h1 : 2 ^ (w * n) * f n + 2 ^ (w * n) ≤ 2 ^ (w * n) * 2 ^ w := by
      have := Nat.mul_le_mul_left (2 ^ (w * n)) hn
      rw [Nat.mul_succ] at this
      exact this
    rw [Nat.mul_succ, Nat.pow_add, dsum]
    omega
theorem dsum_tb {w : Nat} (hw : 0 < w) {f : Nat → Nat} : ∀ n, (∀ i, i < n → f i < 2 ^ w) → ∀ k, (dsum w f n).testBit k = (decide (k < w * n) && (f (k / w)).testBit (k % w))
  | 0, _, k => by simp [dsum]
  | n + 1, h, k => by
    have ih := dsum_tb hw n (fun i hi => h i (by omega)) k
    have hl := dsum_lt n (fun i hi => h i (show i < n + 1 by omega))
    rw [dsum, Nat.testBit_two_pow_mul_add _ hl, Nat.mul_succ]
    by_cases g : k < w * n
    · rw [if_pos g, ih, decide_eq_true g, decide_eq_true (by omega)]
    · rw [if_neg g]
      obtain ⟨r, hr⟩ : ∃ r, k = w * n + r := ⟨k - w * n, by omega⟩
      subst hr
      rw [Nat.add_sub_cancel_left]
      by_cases g2 : r < w
      · rw [decide_eq_true (by omega), Bool.true_and, Nat.mul_add_div hw, Nat.div_eq_of_lt g2, Nat.add_zero, Nat.mul_add_mod, Nat.mod_eq_of_lt g2]
      · rw [decide_eq_false (by omega), Bool.false_and]
        exact Nat.testBit_lt_two_pow (Nat.lt_of_lt_of_le (h n (by omega)) (Nat.pow_le_pow_right (by decide) (by omega)))
theorem dsum_add (w : Nat) (f g : Nat → Nat) : ∀ n, dsum w f n + dsum w g n = dsum w (fun i => f i + g i) n
  | 0 => rfl
  | n + 1 => by
    have ih := dsum_add w f g n
    rw [dsum, dsum, dsum, Nat.mul_add]
    omega
theorem dsum_cong {w : Nat} {f g : Nat → Nat} : ∀ {n : Nat}, (∀ i, i < n → f i = g i) → dsum w f n = dsum w g n
  | 0, _ => rfl
  | n + 1, h => by rw [dsum, dsum, h n (by omega), dsum_cong (fun i hi => h i (by omega))]
theorem dsum_or {w : Nat} (hw : 0 < w) {f g : Nat → Nat} {n : Nat} (hf : ∀ i, i < n → f i < 2 ^ w) (hg : ∀ i, i < n → g i < 2 ^ w) : dsum w f n ||| dsum w g n = dsum w (fun i => f i ||| g i) n := by
  apply Nat.eq_of_testBit_eq
  intro k
  rw [Nat.testBit_or, dsum_tb hw n hf, dsum_tb hw n hg, dsum_tb hw n (fun i hi => Nat.or_lt_two_pow (hf i hi) (hg i hi)), Nat.testBit_or]
  cases decide (k < w * n) <;> rfl
def eachN : Nat := 72340172838076673
def lowN : Nat := 1085102592571150095
def topN : Nat := 9259542123273814144
theorem each_L (L : Nat) : L * eachN = dsum 8 (fun _ => L) 8 := by
  unfold eachN
  simp only [dsum, Nat.reduceMul, Nat.reducePow]
  omega
theorem low_tb : ∀ k, k < 64 → lowN.testBit k = decide (k % 8 < 4) := by decide +kernel
theorem top_tb : ∀ k, k < 64 → topN.testBit k = decide (k % 8 = 7) := by decide +kernel
theorem bit7 : ∀ v, v < 256 → v.testBit 7 = decide (128 ≤ v) := by decide +kernel
theorem nib {a : Nat} (h : a < 16) {k : Nat} (hk : 4 ≤ k) : a.testBit k = false := by
  have h2 : 2 ^ 4 ≤ 2 ^ k := Nat.pow_le_pow_right (by decide) hk
  exact Nat.testBit_lt_two_pow (by omega)
theorem lo_half {c : Nat → Nat} (hc : ∀ i, i < 16 → c i < 16) : dsum 4 c 16 &&& lowN = dsum 8 (fun i => c (2 * i)) 8 := by
  apply Nat.eq_of_testBit_eq
  intro k
  rw [Nat.testBit_and, dsum_tb (by decide) 16 hc, dsum_tb (by decide) 8 (fun i hi => Nat.lt_of_lt_of_le (hc (2 * i) (by omega)) (by decide))]
  by_cases g : k < 64
  · rw [decide_eq_true g, low_tb k g, Bool.true_and, Bool.true_and]
    by_cases g2 : k % 8 < 4
    · rw [decide_eq_true g2, Bool.and_true, show k / 4 = 2 * (k / 8) by omega, show k % 4 = k % 8 by omega]
    · rw [decide_eq_false g2, Bool.and_false, nib (hc _ (by omega)) (by omega)]
  · rw [decide_eq_false g, Bool.false_and, Bool.false_and, Bool.false_and]
theorem hi_half {c : Nat → Nat} (hc : ∀ i, i < 16 → c i < 16) : dsum 4 c 16 / 2 ^ 4 &&& lowN = dsum 8 (fun i => c (2 * i + 1)) 8 := by
  apply Nat.eq_of_testBit_eq
  intro k
  rw [Nat.testBit_and, Nat.testBit_div_two_pow, dsum_tb (by decide) 16 hc, dsum_tb (by decide) 8 (fun i hi => Nat.lt_of_lt_of_le (hc (2 * i + 1) (by omega)) (by decide))]
  by_cases g : k < 64
  · rw [decide_eq_true (show k < 8 * 8 by omega), low_tb k g, Bool.true_and]
    by_cases g2 : k % 8 < 4
    · rw [decide_eq_true g2, Bool.and_true, decide_eq_true (show k + 4 < 4 * 16 by omega), Bool.true_and, show (k + 4) / 4 = 2 * (k / 8) + 1 by omega, show (k + 4) % 4 = k % 8 by omega]
    · rw [decide_eq_false g2, Bool.and_false, nib (hc _ (by omega)) (by omega)]
  · rw [decide_eq_false (show ¬ k + 4 < 4 * 16 by omega), decide_eq_false (show ¬ k < 8 * 8 by omega), Bool.false_and, Bool.false_and, Bool.false_and]
theorem dig7 {f : Nat → Nat} (hf : ∀ i, i < 8 → f i < 256) {i : Nat} (hi : i < 8) : (dsum 8 f 8).testBit (8 * i + 7) = decide (128 ≤ f i) := by
  rw [dsum_tb (by decide) 8 hf, decide_eq_true (by omega), Bool.true_and, show (8 * i + 7) / 8 = i by omega, show (8 * i + 7) % 8 = 7 by omega, bit7 _ (hf i hi)]
theorem top_and {y : Nat} (h : ∀ i, i < 8 → y.testBit (8 * i + 7) = false) : y &&& topN = 0 := by
  apply Nat.eq_of_testBit_eq
  intro k
  rw [Nat.testBit_and, Nat.zero_testBit]
  by_cases g : k < 64
  · rw [top_tb k g]
    by_cases g2 : k % 8 = 7
    · have := h (k / 8) (by omega)
      rw [show 8 * (k / 8) + 7 = k by omega] at this
      rw [this]; rfl
    · rw [decide_eq_false g2, Bool.and_false]
  · rw [show topN.testBit k = false from Nat.testBit_lt_two_pow (Nat.lt_of_lt_of_le (show topN < 2 ^ 64 by decide) (Nat.pow_le_pow_right (by decide) (by omega))), Bool.and_false]
theorem top_all {y : Nat} (h : ∀ i, i < 8 → y.testBit (8 * i + 7) = true) : y &&& topN = topN := by
  apply Nat.eq_of_testBit_eq
  intro k
  rw [Nat.testBit_and]
  by_cases g : k < 64
  · rw [top_tb k g]
    by_cases g2 : k % 8 = 7
    · have := h (k / 8) (by omega)
      rw [show 8 * (k / 8) + 7 = k by omega] at this
      rw [this]; rfl
    · rw [decide_eq_false g2, Bool.and_false]
  · rw [show topN.testBit k = false from Nat.testBit_lt_two_pow (Nat.lt_of_lt_of_le (show topN < 2 ^ 64 by decide) (Nat.pow_le_pow_right (by decide) (by omega))), Bool.and_false]
theorem top_bit7 {i : Nat} (hi : i < 8) : topN.testBit (8 * i + 7) = true := by
  rw [top_tb _ (by omega)]
  exact decide_eq_true (by omega)
theorem lN_inj64 {a b : Nat} (ha : a < 2 ^ 64) (hb : b < 2 ^ 64) (h : lN a = lN b) : a = b := by
  have := congrArg (fun z : Int64 => z.toBitVec.toNat) h
  simp only [wb_tn ha, wb_tn hb] at this
  exact this
theorem and_lt64 (y : Nat) : y &&& topN < 2 ^ 64 := Nat.lt_of_le_of_lt Nat.and_le_right (by decide)
theorem any16 {P : Nat → Bool} : anyF P 16 = false ↔ ∀ i, i < 8 → P (2 * i) = false ∧ P (2 * i + 1) = false := by
  constructor
  · intro h i hi
    have no : ∀ j, j < 16 → P j = false := fun j hj => by
      cases e : P j
      · rfl
      · rw [(anyF_iff P 16).mpr ⟨j, hj, e⟩] at h
        cases h
    exact ⟨no _ (by omega), no _ (by omega)⟩
  · intro h
    cases e : anyF P 16
    · rfl
    · obtain ⟨j, hj, hP⟩ := (anyF_iff P 16).mp e
      have := h (j / 2) (by omega)
      rcases Nat.mod_two_eq_zero_or_one j with z | z
      · rw [show 2 * (j / 2) = j by omega, hP] at this
        cases this.1
      · rw [show 2 * (j / 2) + 1 = j by omega, hP] at this
        cases this.2
section
variable {I : Nat → Int32} {J : Nat → Int64} {R : Nat → Nat → Int32} {G : Nat → Nat → Int64}
theorem lift_eq {L : Nat} (hL : L < 256) : (nI L).toInt64 * (72340172838076673 : Int64) = lN (dsum 8 (fun _ => L) 8) := by
  rw [nI_l (by omega), show (72340172838076673 : Int64) = lN eachN from rfl, lN_mul, each_L]
theorem half_lo {c : Nat → Nat} (hc : ∀ i, i < 16 → c i < 16) (L : Nat) : (lN (dsum 4 c 16) &&& (1085102592571150095 : Int64)) + lN (dsum 8 (fun _ => L) 8) = lN (dsum 8 (fun i => c (2 * i) + L) 8) := by
  rw [show (1085102592571150095 : Int64) = lN lowN from rfl, fb_andL, lo_half hc, lN_add, dsum_add]
theorem half_hi {c : Nat → Nat} (hc : ∀ i, i < 16 → c i < 16) (L : Nat) : (((lN (dsum 4 c 16)).toUInt64 >>> ((4 : Int32).toInt64.toUInt64 &&& Int64.toUInt64 63)).toInt64 &&& (1085102592571150095 : Int64)) + lN (dsum 8 (fun _ => L) 8) = lN (dsum 8 (fun i => c (2 * i + 1) + L) 8) := by
  have h := wb_shr (n := dsum 4 c 16) (k := 4) (dsum_lt 16 hc) (by decide)
  have h : ((lN (dsum 4 c 16)).toUInt64 >>> ((4 : Int32).toInt64.toUInt64 &&& Int64.toUInt64 63)).toInt64 = lN (dsum 4 c 16 / 2 ^ 4) := h
  rw [h, show (1085102592571150095 : Int64) = lN lowN from rfl, fb_andL, hi_half hc, lN_add, dsum_add]
theorem sX0_someAbove {c : Nat → Nat} {hg : Nat} (hc : ∀ i, i < 16 → c i < 16) (hh : hg ≤ 14) (h1 : I 1 = nI hg) : qX0_someAbove (fun r => r = b2i (anyF (fun j => decide (hg < c j)) 16)) (lN (dsum 4 c 16)) I J R G := by
  intro x3 e3 x5 e5 x7 e7
  rw [h1, show (127 : Int32) = nI 127 from rfl, pk_sub (by omega), lift_eq (by omega)] at e3
  rw [e3, half_lo hc] at e5
  rw [e3, half_hi hc] at e7
  rw [e5, e7, fb_orL, show (-9187201950435737472 : Int64) = lN topN from by decide, fb_andL, lg_cmp_eq]
  have d1 : ∀ i, i < 8 → c (2 * i) + (127 - hg) < 256 := fun i hi => by have := hc (2 * i) (by omega); omega
  have d2 : ∀ i, i < 8 → c (2 * i + 1) + (127 - hg) < 256 := fun i hi => by have := hc (2 * i + 1) (by omega); omega
  have key : ∀ i, i < 8 → (dsum 8 (fun i => c (2 * i) + (127 - hg)) 8 ||| dsum 8 (fun i => c (2 * i + 1) + (127 - hg)) 8).testBit (8 * i + 7) = (decide (hg < c (2 * i)) || decide (hg < c (2 * i + 1))) := fun i hi => by
    rw [Nat.testBit_or, dig7 d1 hi, dig7 d2 hi]
    congr 1
    · exact decide_eq_decide.mpr (by omega)
    · exact decide_eq_decide.mpr (by omega)
  refine ⟨fun e => ?_, fun e => ?_⟩
  · have e := lN_inj64 (and_lt64 _) (by decide) (e.trans (show (0 : Int64) = lN 0 from rfl))
    have hn : anyF (fun j => decide (hg < c j)) 16 = false := any16.mpr (fun i hi => by
      have hb : ((dsum 8 (fun i => c (2 * i) + (127 - hg)) 8 ||| dsum 8 (fun i => c (2 * i + 1) + (127 - hg)) 8) &&& topN).testBit (8 * i + 7) = false := by rw [e, Nat.zero_testBit]
      rw [Nat.testBit_and, top_bit7 hi, Bool.and_true, key i hi, Bool.or_eq_false_iff] at hb
      exact hb)
    show (0 : Int32) = _
    rw [hn]; rfl
  · show (1 : Int32) = _
    cases hn : anyF (fun j => decide (hg < c j)) 16
    · exfalso
      apply e
      rw [top_and (fun i hi => by
        rw [key i hi]
        have := any16.mp hn i hi
        rw [this.1, this.2]; rfl)]
      rfl
    · rfl
theorem sX0_someBelow {c nc : Nat → Nat} {lw : Nat} (hc : ∀ i, i < 16 → c i < 16) (hnc : ∀ i, i < 16 → nc i < 16) (hl : lw ≤ 14) (h0 : I 0 = nI lw) (hj : J 10 = lN (dsum 4 nc 16)) : qX0_someBelow (fun r => r = b2i (anyF (fun j => decide ((c j ||| nc j) < lw)) 16)) (lN (dsum 4 c 16)) I J R G := by
  intro x3 e3 x5 e5 x7 e7 x9 e9
  have ho : ∀ i, i < 16 → (c i ||| nc i) < 16 := fun i hi => Nat.or_lt_two_pow (n := 4) (hc i hi) (hnc i hi)
  rw [hj, fb_orL, dsum_or (by decide) hc hnc] at e3
  rw [h0, show (128 : Int32) = nI 128 from rfl, pk_sub (by omega), lift_eq (by omega)] at e5
  rw [e3, e5, half_lo ho] at e7
  rw [e3, e5, half_hi ho] at e9
  rw [e7, e9, fb_andL, show (-9187201950435737472 : Int64) = lN topN from by decide, fb_andL, lg_cmp_eq]
  have d1 : ∀ i, i < 8 → (c (2 * i) ||| nc (2 * i)) + (128 - lw) < 256 := fun i hi => by have := ho (2 * i) (by omega); omega
  have d2 : ∀ i, i < 8 → (c (2 * i + 1) ||| nc (2 * i + 1)) + (128 - lw) < 256 := fun i hi => by have := ho (2 * i + 1) (by omega); omega
  have key : ∀ i, i < 8 → (dsum 8 (fun i => (c (2 * i) ||| nc (2 * i)) + (128 - lw)) 8 &&& dsum 8 (fun i => (c (2 * i + 1) ||| nc (2 * i + 1)) + (128 - lw)) 8).testBit (8 * i + 7) = (!decide ((c (2 * i) ||| nc (2 * i)) < lw) && !decide ((c (2 * i + 1) ||| nc (2 * i + 1)) < lw)) := fun i hi => by
    rw [Nat.testBit_and, dig7 d1 hi, dig7 d2 hi]
    congr 1
    · by_cases g : (c (2 * i) ||| nc (2 * i)) < lw
      · rw [decide_eq_true g, decide_eq_false (by omega)]; rfl
      · rw [decide_eq_false g, decide_eq_true (by omega)]; rfl
    · by_cases g : (c (2 * i + 1) ||| nc (2 * i + 1)) < lw
      · rw [decide_eq_true g, decide_eq_false (by omega)]; rfl
      · rw [decide_eq_false g, decide_eq_true (by omega)]; rfl
  refine ⟨fun e => ?_, fun e => ?_⟩
  · have e := lN_inj64 (and_lt64 _) (by decide) e
    have hn : anyF (fun j => decide ((c j ||| nc j) < lw)) 16 = false := any16.mpr (fun i hi => by
      have hb := top_bit7 hi
      rw [← e, Nat.testBit_and, top_bit7 hi, Bool.and_true, key i hi, Bool.and_eq_true] at hb
      exact ⟨by simpa using hb.1, by simpa using hb.2⟩)
    show (0 : Int32) = _
    rw [hn]; rfl
  · show (1 : Int32) = _
    cases hn : anyF (fun j => decide ((c j ||| nc j) < lw)) 16
    · exfalso
      apply e
      rw [top_all (fun i hi => by
        rw [key i hi]
        have := any16.mp hn i hi
        rw [this.1, this.2]; rfl)]
    · rfl
end
