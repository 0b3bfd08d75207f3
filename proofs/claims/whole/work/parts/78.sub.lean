/-! subsets in their order -/
theorem pts_val (S : Nat) : ∀ n, pts (fun i => 2 ^ i) S n = S % 2 ^ n
  | 0 => by rw [Nat.pow_zero, Nat.mod_one]; rfl
  | n + 1 => by
    rw [pts_succ, pts_val S n, Nat.mod_pow_succ, Nat.testBit_eq_decide_div_mod_eq]
    rcases Nat.mod_two_eq_zero_or_one (S / 2 ^ n) with e | e <;> simp [e]
theorem sub_val {T S : Nat} (h : subN T S) : T + (S ^^^ T) = S := by
  have hS : S < 2 ^ S := Nat.lt_two_pow_self
  have hT := sub_lt h hS
  have := pts_add (sz := fun i => 2 ^ i) h S
  rw [pts_val, pts_val, pts_val, Nat.mod_eq_of_lt hS, Nat.mod_eq_of_lt hT, Nat.mod_eq_of_lt (Nat.xor_lt_two_pow hS hT)] at this
  exact this
theorem sub_leN {T S : Nat} (h : subN T S) : T ≤ S := by
  have := sub_val h
  omega
theorem xor_sub {S x : Nat} (h : S.testBit x = true) : S ^^^ 2 ^ x = S - 2 ^ x ∧ 2 ^ x ≤ S := by
  have := sub_val (sub_p2 h)
  omega
theorem and_bit (a b : Nat) : a &&& b = 2 * ((a / 2) &&& (b / 2)) + (a % 2) * (b % 2) := by
  have h1 := Nat.div_add_mod (a &&& b) 2
  rw [Nat.and_div_two] at h1
  have h2 : (a &&& b) % 2 = 1 ↔ a % 2 = 1 ∧ b % 2 = 1 := Nat.and_mod_two_eq_one
  have h3 : (a &&& b) % 2 = (a % 2) * (b % 2) := by
    rcases Nat.mod_two_eq_zero_or_one a with ea | ea
    · rw [ea, Nat.zero_mul]; omega
    · rcases Nat.mod_two_eq_zero_or_one b with eb | eb
      · rw [eb, Nat.mul_zero]; omega
      · rw [ea, eb]; omega
  omega
theorem bit_sub {s m : Nat} (h : s &&& m = s) : (s / 2 &&& m / 2 = s / 2) ∧ (s % 2 = 0 ∨ (s % 2 = 1 ∧ m % 2 = 1)) := by
  have h1 : (s &&& m) / 2 = s / 2 := by rw [h]
  rw [Nat.and_div_two] at h1
  refine ⟨h1, ?_⟩
  have h2 : (s &&& m) % 2 = 1 ↔ s % 2 = 1 ∧ m % 2 = 1 := Nat.and_mod_two_eq_one
  rw [h] at h2
  omega
theorem sm_dec : ∀ n s m u, s < 2 ^ n → s &&& m = s → u &&& m = u → u < s → u ≤ (s - 1) &&& m
  | 0, s, m, u, h, _, _, hu => by
    rw [Nat.pow_zero] at h
    omega
  | n + 1, s, m, u, h, hs, hu, hlt => by
    obtain ⟨s1, s2⟩ := bit_sub hs
    obtain ⟨u1, u2⟩ := bit_sub hu
    rw [Nat.pow_succ] at h
    rw [and_bit (s - 1) m]
    rcases s2 with e | ⟨e, em⟩
    · have e1 : (s - 1) / 2 = s / 2 - 1 := by omega
      have e2 : (s - 1) % 2 = 1 := by omega
      have ih := sm_dec n (s / 2) (m / 2) (u / 2) (by omega) s1 u1 (by omega)
      rw [e1, e2]
      rcases u2 with e3 | ⟨e3, e4⟩
      · omega
      · rw [e4]; omega
    · have e1 : (s - 1) / 2 = s / 2 := by omega
      have e2 : (s - 1) % 2 = 0 := by omega
      rw [e1, e2, s1]
      omega
theorem sm_comp : ∀ k s m, m < 2 ^ k → s &&& m = s → (s + (2 ^ k - 1 - m)) &&& m = s
  | 0, s, m, h, hs => by
    rw [Nat.pow_zero] at h
    have : m = 0 := by omega
    subst this
    rw [Nat.and_zero] at hs ⊢
    exact hs
  | k + 1, s, m, h, hs => by
    obtain ⟨s1, s2⟩ := bit_sub hs
    rw [Nat.pow_succ] at h ⊢
    have ih := sm_comp k (s / 2) (m / 2) (by omega) s1
    rw [and_bit]
    rcases s2 with e | ⟨e, em⟩
    · rcases Nat.mod_two_eq_zero_or_one m with em | em
      · have e1 : (s + (2 ^ k * 2 - 1 - m)) / 2 = s / 2 + (2 ^ k - 1 - m / 2) := by omega
        rw [e1, ih, em]; omega
      · have e1 : (s + (2 ^ k * 2 - 1 - m)) / 2 = s / 2 + (2 ^ k - 1 - m / 2) := by omega
        have e2 : (s + (2 ^ k * 2 - 1 - m)) % 2 = 0 := by omega
        rw [e1, ih, e2]; omega
    · have e1 : (s + (2 ^ k * 2 - 1 - m)) / 2 = s / 2 + (2 ^ k - 1 - m / 2) := by omega
      have e2 : (s + (2 ^ k * 2 - 1 - m)) % 2 = 1 := by omega
      rw [e1, ih, e2, em]; omega
theorem sm_nx : ∀ k s m u, m < 2 ^ k → s &&& m = s → u &&& m = u → s < u → ((s + (2 ^ k - m)) &&& m ≤ u ∧ s < (s + (2 ^ k - m)) &&& m)
  | 0, s, m, u, h, hs, hu, hlt => by
    rw [Nat.pow_zero] at h
    have : m = 0 := by omega
    subst this
    rw [Nat.and_zero] at hu
    omega
  | k + 1, s, m, u, h, hs, hu, hlt => by
    obtain ⟨s1, s2⟩ := bit_sub hs
    obtain ⟨u1, u2⟩ := bit_sub hu
    rw [Nat.pow_succ] at h ⊢
    rw [and_bit]
    have c1 : s % 2 = m % 2 → (2 * ((s + (2 ^ k * 2 - m)) / 2 &&& m / 2) + (s + (2 ^ k * 2 - m)) % 2 * (m % 2) ≤ u ∧ s < 2 * ((s + (2 ^ k * 2 - m)) / 2 &&& m / 2) + (s + (2 ^ k * 2 - m)) % 2 * (m % 2)) := fun e => by
      have e1 : (s + (2 ^ k * 2 - m)) / 2 = s / 2 + (2 ^ k - m / 2) := by omega
      have e2 : (s + (2 ^ k * 2 - m)) % 2 = 0 := by omega
      have ih := sm_nx k (s / 2) (m / 2) (u / 2) (by omega) s1 u1 (by omega)
      rw [e1, e2]
      omega
    rcases s2 with e | ⟨e, em⟩
    · rcases Nat.mod_two_eq_zero_or_one m with em | em
      · exact c1 (by omega)
      · have e1 : (s + (2 ^ k * 2 - m)) / 2 = s / 2 + (2 ^ k - 1 - m / 2) := by omega
        have e2 : (s + (2 ^ k * 2 - m)) % 2 = 1 := by omega
        rw [e1, e2, em, sm_comp k (s / 2) (m / 2) (by omega) s1]
        omega
    · exact c1 (by omega)
theorem sm_full {k m : Nat} (h : m < 2 ^ k) : (m + (2 ^ k - m)) &&& m = 0 := by
  rw [show m + (2 ^ k - m) = 2 ^ k by omega]
  apply Nat.eq_of_testBit_eq
  intro i
  rw [Nat.testBit_and, Nat.testBit_two_pow, Nat.zero_testBit]
  by_cases e : k = i
  · subst e; rw [Nat.testBit_lt_two_pow h, Bool.and_false]
  · simp [e]
/-- the lowest bit -/
def isLow (s j : Nat) : Prop := s.testBit j = true ∧ ∀ i, i < j → s.testBit i = false
theorem low_ex {s n : Nat} (h : s < 2 ^ n) (h0 : s ≠ 0) : ∃ j, j < n ∧ isLow s j := by
  obtain ⟨f, hf, hb⟩ := tb_some h h0
  obtain ⟨k, h1, h2⟩ := pk_least (fun f => s.testBit f = true) ⟨f, hb⟩
  exact ⟨k, tb_ltp h h1, h1, fun i hi => of_not_true (h2 i hi)⟩
theorem low_uniq {s i j : Nat} (h1 : isLow s i) (h2 : isLow s j) : i = j := by
  rcases Nat.lt_trichotomy i j with g | g | g
  · have := h2.2 i g
    rw [h1.1] at this
    cases this
  · exact g
  · have := h1.2 j g
    rw [h2.1] at this
    cases this
theorem low_is {s k j : Nat} (h : s < 2 ^ k) (hj : isLow s j) : (2 ^ k - s) &&& s = 2 ^ j := by
  have h0 : 0 < 2 ^ j := Nat.two_pow_pos j
  have hsub : subN (2 ^ j) s := sub_p2 hj.1
  have h1 := sm_nx k 0 s (2 ^ j) h (Nat.zero_and s) (and_sub hsub) h0
  rw [Nat.zero_add] at h1
  have hN : subN ((2 ^ k - s) &&& s) s := fun i hi => by
    rw [Nat.testBit_and, Bool.and_eq_true] at hi
    exact hi.2
  obtain ⟨f, hf, hb⟩ := tb_some (sub_lt hN h) (by omega)
  have hfj : j ≤ f := by
    rcases Nat.lt_or_ge f j with g | g
    · have := hj.2 f g
      rw [hN f hb] at this
      cases this
    · exact g
  have := (xor_sub hb).2
  have : 2 ^ j ≤ 2 ^ f := Nat.pow_le_pow_right (by decide) hfj
  omega
/-! the same of ints -/
theorem sub_int (s : Nat) {m : Nat} (hm : m < 2 ^ 32) : nI s - nI m = nI (s + (2 ^ 32 - m)) := by
  apply Int32.toBitVec_inj.1
  show BitVec.ofNat 32 s - BitVec.ofNat 32 m = BitVec.ofNat 32 (s + (2 ^ 32 - m))
  rw [BitVec.ofNat_sub_ofNat, Nat.mod_eq_of_lt hm, Nat.add_comm]
theorem neg_int {m : Nat} (hm : m < 2 ^ 32) : -nI m = nI (2 ^ 32 - m) := by
  rw [← Int32.zero_sub]
  have := sub_int 0 hm
  rw [Nat.zero_add] at this
  exact this
theorem nx_int (s : Nat) {m : Nat} (hm : m < 2 ^ 32) : (nI s - nI m) &&& nI m = nI ((s + (2 ^ 32 - m)) &&& m) := by rw [sub_int s hm, fa_and]
theorem low_int {s j : Nat} (h : s < 2 ^ 32) (hj : isLow s j) : nI s &&& (-nI s) = nI (2 ^ j) := by rw [neg_int h, fa_and, Nat.and_comm, low_is h hj]
theorem low_int2 {s j : Nat} (h : s < 2 ^ 32) (hj : isLow s j) : (-nI s) &&& nI s = nI (2 ^ j) := by rw [neg_int h, fa_and, low_is h hj]
theorem dec_int {s m : Nat} (h : s ≠ 0) : (nI s - 1) &&& nI m = nI ((s - 1) &&& m) := by
  rw [show (1 : Int32) = nI 1 from rfl, pk_sub (by omega), fa_and]
