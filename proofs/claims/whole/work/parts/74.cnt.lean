/-! how many bits; Integer.bitCount -/
def cnt (S : Nat) : Nat := fb_ct (fun i => S.testBit i) 14
def bcI (p1 : Int32) : Int32 :=
  let a := p1 - (((p1.toUInt32 >>> ((1 : Int32).toUInt32 &&& Int32.toUInt32 31)).toInt32) &&& (1431655765 : Int32))
  let b := (a &&& (858993459 : Int32)) + (((a.toUInt32 >>> ((2 : Int32).toUInt32 &&& Int32.toUInt32 31)).toInt32) &&& (858993459 : Int32))
  let c := (b + ((b.toUInt32 >>> ((4 : Int32).toUInt32 &&& Int32.toUInt32 31)).toInt32)) &&& (252645135 : Int32)
  let d := c + ((c.toUInt32 >>> ((8 : Int32).toUInt32 &&& Int32.toUInt32 31)).toInt32)
  let e := d + ((d.toUInt32 >>> ((16 : Int32).toUInt32 &&& Int32.toUInt32 31)).toInt32)
  e &&& (63 : Int32)
theorem bc_0 : ∀ a, a < 32 → ∀ b, b < 128 → bcI (nI (128 * a + b)) = nI (cnt (128 * a + b)) := by decide +kernel
theorem bc_1 : ∀ a, a < 32 → ∀ b, b < 128 → bcI (nI (128 * (a + 32) + b)) = nI (cnt (128 * (a + 32) + b)) := by decide +kernel
theorem bc_2 : ∀ a, a < 32 → ∀ b, b < 128 → bcI (nI (128 * (a + 64) + b)) = nI (cnt (128 * (a + 64) + b)) := by decide +kernel
theorem bc_3 : ∀ a, a < 32 → ∀ b, b < 128 → bcI (nI (128 * (a + 96) + b)) = nI (cnt (128 * (a + 96) + b)) := by decide +kernel
theorem bc_all {n : Nat} (h : n < 2 ^ 14) : bcI (nI n) = nI (cnt n) := by
  have e : n = 128 * (n / 128) + n % 128 := by omega
  have hb : n % 128 < 128 := Nat.mod_lt _ (by decide)
  have ha : n / 128 < 128 := by omega
  rw [e]
  generalize n / 128 = a at ha
  generalize n % 128 = b at hb
  rcases Nat.lt_or_ge a 32 with g | g
  · exact bc_0 a g b hb
  · rcases Nat.lt_or_ge a 64 with g2 | g2
    · have := bc_1 (a - 32) (by omega) b hb
      rwa [Nat.sub_add_cancel g] at this
    · rcases Nat.lt_or_ge a 96 with g3 | g3
      · have := bc_2 (a - 64) (by omega) b hb
        rwa [Nat.sub_add_cancel g2] at this
      · have := bc_3 (a - 96) (by omega) b hb
        rwa [Nat.sub_add_cancel g3] at this
theorem sJ6_bitCount {n : Nat} (h : n < 2 ^ 14) : qJ6_bitCount_0f7a4 (fun r => r = nI (cnt n)) (nI n) := by
  intro a ea b eb c ec d ed e ee
  rw [← bc_all h]
  subst ea eb ec ed ee
  rfl
theorem cnt_n {S n : Nat} (h : S < 2 ^ n) (hn : n ≤ 14) : fb_ct (fun i => S.testBit i) n = cnt S := by
  have e : 14 = n + (14 - n) := by omega
  unfold cnt
  rw [e, fb_ct_split]
  have z : fb_ct (fun k => S.testBit (n + k)) (14 - n) = 0 := fb_ct_zero.mpr (fun k _ => Nat.testBit_lt_two_pow (Nat.lt_of_lt_of_le h (Nat.pow_le_pow_right (by decide) (by omega))))
  rw [z]
  rfl
theorem cnt_le {S : Nat} : cnt S ≤ 14 := fb_ct_le _ 14
theorem cnt_pos {S : Nat} (h : S < 2 ^ 14) (h0 : S ≠ 0) : 0 < cnt S := by
  rcases Nat.eq_zero_or_pos (cnt S) with z | z
  · exfalso
    apply h0
    apply Nat.eq_of_testBit_eq
    intro i
    rw [Nat.zero_testBit]
    rcases Nat.lt_or_ge i 14 with g | g
    · exact fb_ct_zero.mp z i g
    · exact Nat.testBit_lt_two_pow (Nat.lt_of_lt_of_le h (Nat.pow_le_pow_right (by decide) g))
  · exact z
theorem cnt_0 : cnt 0 = 0 := fb_ct_zero.mpr (fun k _ => Nat.zero_testBit k)
/-- a set and what is without it -/
theorem cnt_split {W r : Nat} (h : ∀ i, r.testBit i = true → W.testBit i = true) : cnt r + cnt (andN W r) = cnt W := by
  unfold cnt
  rw [← fb_ct_or]
  · refine fb_ct_cong (fun k _ => ?_)
    rw [andN_tb]
    cases e : r.testBit k
    · simp
    · rw [h k e]; rfl
  · intro k _ hk
    rw [andN_tb, hk.1] at hk
    simp at hk
theorem cnt_del {S f : Nat} (hf : f < 14) (h : S.testBit f = true) : cnt (S ^^^ 2 ^ f) + 1 = cnt S := by
  have hs := cnt_split (W := S) (r := 2 ^ f) (fun i hi => by
    rw [Nat.testBit_two_pow, decide_eq_true_eq] at hi
    rw [← hi]; exact h)
  rw [andN_xor h, ← hs]
  have e : cnt (2 ^ f) = 1 := by
    have : ∀ f, f < 14 → cnt (2 ^ f) = 1 := by decide +kernel
    exact this f hf
  omega
theorem cnt_one {f : Nat} (hf : f < 14) : cnt (2 ^ f) = 1 := by
  have : ∀ f, f < 14 → cnt (2 ^ f) = 1 := by decide +kernel
  exact this f hf
theorem ct_lt {p q : Nat → Bool} : ∀ {n : Nat}, (∀ k, k < n → p k = true → q k = true) → (∃ k, k < n ∧ q k = true ∧ p k = false) → fb_ct p n < fb_ct q n
  | 0, _, h => by obtain ⟨k, hk, _⟩ := h; omega
  | n + 1, h, h2 => by
    have ih1 := fb_ct_sub (p := p) (q := q) (n := n) (fun k hk => h k (by omega))
    rw [fb_ct_succ, fb_ct_succ]
    obtain ⟨k, hk, hq, hp⟩ := h2
    by_cases e : k = n
    · subst e
      rw [hq, hp]
      simp
      omega
    · have ih := ct_lt (p := p) (q := q) (n := n) (fun k hk => h k (by omega)) ⟨k, by omega, hq, hp⟩
      have : (if p n = true then 1 else 0) ≤ (if q n = true then 1 else 0) := by
        cases hpn : p n
        · simp
        · rw [h n (by omega) hpn]; exact Nat.le_refl _
      omega
